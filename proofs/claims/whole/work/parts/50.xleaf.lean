set_option maxHeartbeats 4000000 in
set_option maxRecDepth 100000 in
theorem c_X_quotient (l : Launch) (D : va_G) (cI cJ cF : ClassId) {n d : Int} (hn : jL n) (hd : jL d) : ∀ sz, Met l y_X_quotient (Cond.code y_X_quotient b_X_quotient 4 (some .long) :: wb) { frames := 0, cells := 0, slots := 0, locals := 0 } (va_Pc [.long (jl (n)), .long (jl (d))] (cpre D cI cJ cF [] sz)) (va_Ql (fun r (u : Unit) => r = jl (if (d) = 0 then 0 else (n).tdiv (d))) (fun (u : Unit) tS => va_P D classes [] tS.heap) (va_A [] sz)) 0 0 (va_A [] sz) := by
  refine c_of (Qc := fun sz => va_Ql (fun r (u : Unit) => r = jl (if (d) = 0 then 0 else (n).tdiv (d))) (fun (u : Unit) tS => va_P D classes [] tS.heap) (va_A [] sz)) (by decide +kernel) co_X_quotient (Nat.le_of_ble_eq_true rfl) ?_
  intro pq eq s mq below meth cq A X hK hP hD hS hA hAe ls hl
  obtain ⟨hx, hb, hml, hown, hr, hlocks, hts⟩ := id X
  have hl : lv_has ls 4 [(0, .long (jl (n))), (2, .long (jl (d)))] := hl
  refine lv_lload_n hx hb d_X_quotient_0 rfl (lv_at hl 1 rfl) ?_
  refine w_lconst (v := 0) hx hb rfl d_X_quotient_1 ?_
  refine wl_ceq hx hb hd ⟨by decide, by decide⟩ d_X_quotient_2 d_X_quotient_3 (tgt := 12) (by decide) (fun h_1 => ?_) (fun h_1 => ?_)
  · refine w_lconst (v := 0) hx hb rfl d_X_quotient_12 ?_
    exact rt_l X hAe hS () (by first | rw [if_pos h_1] | rw [if_neg h_1]) hP d_X_quotient_13
  · refine lv_lload_n hx hb d_X_quotient_6 rfl (lv_at hl 0 rfl) ?_
    refine lv_lload_n hx hb d_X_quotient_7 rfl (lv_at hl 1 rfl) ?_
    refine wl_div hx hb hn hd h_1 d_X_quotient_8 ?_
    refine lv_goto (tgt := 13) hx hb d_X_quotient_9 (by decide) ?_
    exact rt_l X hAe hS () (by first | rw [if_pos h_1] | rw [if_neg h_1]) hP d_X_quotient_13

set_option maxHeartbeats 4000000 in
set_option maxRecDepth 100000 in
theorem c_J_floorModJ (l : Launch) (D : va_G) (cI cJ cF : ClassId) {x y : Int} (hxx : jL x) (hy : jL y) (h0 : 0 < y) : ∀ sz, Met l y_J_floorModJ (Cond.code y_J_floorModJ b_J_floorModJ 6 (some .long) :: wb) { frames := 0, cells := 0, slots := 0, locals := 0 } (va_Pc [.long (jl (x)), .long (jl (y))] (cpre D cI cJ cF [] sz)) (va_Ql (fun r (u : Unit) => r = jl ((x) % (y))) (fun (u : Unit) tS => va_P D classes [] tS.heap) (va_A [] sz)) 0 0 (va_A [] sz) := by
  refine c_of (Qc := fun sz => va_Ql (fun r (u : Unit) => r = jl ((x) % (y))) (fun (u : Unit) tS => va_P D classes [] tS.heap) (va_A [] sz)) (by decide +kernel) co_J_floorModJ (Nat.le_of_ble_eq_true rfl) ?_
  intro pq eq s mq below meth cq A X hK hP hD hS hA hAe ls hl
  obtain ⟨hx, hb, hml, hown, hr, hlocks, hts⟩ := id X
  have hl : lv_has ls 6 [(0, .long (jl (x))), (2, .long (jl (y)))] := hl
  have t1 := Int.tmod_lt_of_pos x h0
  have t2 := Int.lt_tmod_of_pos x h0
  refine lv_lload_n hx hb d_J_floorModJ_0 rfl (lv_at hl 0 rfl) ?_
  refine lv_lload_n hx hb d_J_floorModJ_1 rfl (lv_at hl 1 rfl) ?_
  refine wl_rem hx hb hxx hy (by omega) d_J_floorModJ_2 ?_
  refine lv_lstore (lv' := [(4, .long (jl ((x).tmod (y)))), (0, .long (jl (x))), (2, .long (jl (y)))]) hx hb d_J_floorModJ_3 hl (by decide) rfl (fun ls hl => ?_)
  refine lv_lload_n hx hb d_J_floorModJ_5 rfl (lv_at hl 1 rfl) ?_
  refine lv_lload_n hx hb d_J_floorModJ_6 rfl (lv_at hl 2 rfl) ?_
  refine lv_lxor hx hb d_J_floorModJ_7 ?_
  obtain ⟨v, hv, ev, hv0⟩ := jl_xor hxx hy (by omega)
  rw [ev]
  refine w_lconst (v := 0) hx hb rfl d_J_floorModJ_8 ?_
  refine wl_cge hx hb hv ⟨by decide, by decide⟩ d_J_floorModJ_9 d_J_floorModJ_10 (tgt := 25) (by decide) (fun h_1 => ?_) (fun h_1 => ?_)
  · refine lv_lload hx hb d_J_floorModJ_25 (lv_at hl 0 rfl) ?_
    exact rt_l X hAe hS () (by first | rw [(jf_mod h0).1 ⟨by omega, by omega⟩] | rw [(jf_mod h0).2 (by omega)]) hP d_J_floorModJ_27
  · refine lv_lload hx hb d_J_floorModJ_13 (lv_at hl 0 rfl) ?_
    refine w_lconst (v := 0) hx hb rfl d_J_floorModJ_15 ?_
    refine wl_ceq hx hb ⟨by have := hy.2; omega, by have := hy.2; omega⟩ ⟨by decide, by decide⟩ d_J_floorModJ_16 d_J_floorModJ_17 (tgt := 25) (by decide) (fun h_2 => ?_) (fun h_2 => ?_)
    · refine lv_lload hx hb d_J_floorModJ_25 (lv_at hl 0 rfl) ?_
      exact rt_l X hAe hS () (by first | rw [(jf_mod h0).1 ⟨by omega, by omega⟩] | rw [(jf_mod h0).2 (by omega)]) hP d_J_floorModJ_27
    · refine lv_lload hx hb d_J_floorModJ_20 (lv_at hl 0 rfl) ?_
      refine lv_lload_n hx hb d_J_floorModJ_22 rfl (lv_at hl 2 rfl) ?_
      refine wl_add hx hb d_J_floorModJ_23 ?_
      exact rt_l X hAe hS () (by first | rw [(jf_mod h0).1 ⟨by omega, by omega⟩] | rw [(jf_mod h0).2 (by omega)]) hP d_J_floorModJ_24

set_option maxHeartbeats 4000000 in
set_option maxRecDepth 100000 in
theorem c_J_floorModI (l : Launch) (D : va_G) (cI cJ cF : ClassId) {x y : Int} (hxx : jI x) (hy : jI y) (h0 : 0 < y) : ∀ sz, Met l y_J_floorModI (Cond.code y_J_floorModI b_J_floorModI 3 (some .int) :: wb) { frames := 0, cells := 0, slots := 0, locals := 0 } (va_Pc [.int (ji (x)), .int (ji (y))] (cpre D cI cJ cF [] sz)) (va_Qi (fun r (u : Unit) => r = ji ((x) % (y))) (fun (u : Unit) tS => va_P D classes [] tS.heap) (va_A [] sz)) 0 0 (va_A [] sz) := by
  refine c_of (Qc := fun sz => va_Qi (fun r (u : Unit) => r = ji ((x) % (y))) (fun (u : Unit) tS => va_P D classes [] tS.heap) (va_A [] sz)) (by decide +kernel) co_J_floorModI (Nat.le_of_ble_eq_true rfl) ?_
  intro pq eq s mq below meth cq A X hK hP hD hS hA hAe ls hl
  obtain ⟨hx, hb, hml, hown, hr, hlocks, hts⟩ := id X
  have hl : lv_has ls 3 [(0, .int (ji (x))), (1, .int (ji (y)))] := hl
  have t1 := Int.tmod_lt_of_pos x h0
  have t2 := Int.lt_tmod_of_pos x h0
  refine lv_iload_n hx hb d_J_floorModI_0 rfl (lv_at hl 0 rfl) ?_
  refine lv_iload_n hx hb d_J_floorModI_1 rfl (lv_at hl 1 rfl) ?_
  refine wi_rem hx hb hxx hy (by omega) d_J_floorModI_2 ?_
  refine lv_istore_n (lv' := [(2, .int (ji ((x).tmod (y)))), (0, .int (ji (x))), (1, .int (ji (y)))]) hx hb d_J_floorModI_3 rfl hl (by decide) rfl (fun ls hl => ?_)
  refine lv_iload_n hx hb d_J_floorModI_4 rfl (lv_at hl 1 rfl) ?_
  refine lv_iload_n hx hb d_J_floorModI_5 rfl (lv_at hl 2 rfl) ?_
  refine lv_ixor hx hb d_J_floorModI_6 ?_
  obtain ⟨v, hv, ev, hv0⟩ := ji_xor hxx hy (by omega)
  rw [ev]
  refine wi_zge hx hb hv d_J_floorModI_7 (tgt := 18) (by decide) (fun h_1 => ?_) (fun h_1 => ?_)
  · refine lv_iload_n hx hb d_J_floorModI_18 rfl (lv_at hl 0 rfl) ?_
    exact rt_i X hAe hS () (by first | rw [(jf_mod h0).1 ⟨by omega, by omega⟩] | rw [(jf_mod h0).2 (by omega)]) hP d_J_floorModI_19
  · refine lv_iload_n hx hb d_J_floorModI_10 rfl (lv_at hl 0 rfl) ?_
    refine wi_zeq hx hb ⟨by have := hy.2; omega, by have := hy.2; omega⟩ d_J_floorModI_11 (tgt := 18) (by decide) (fun h_2 => ?_) (fun h_2 => ?_)
    · refine lv_iload_n hx hb d_J_floorModI_18 rfl (lv_at hl 0 rfl) ?_
      exact rt_i X hAe hS () (by first | rw [(jf_mod h0).1 ⟨by omega, by omega⟩] | rw [(jf_mod h0).2 (by omega)]) hP d_J_floorModI_19
    · refine lv_iload_n hx hb d_J_floorModI_14 rfl (lv_at hl 0 rfl) ?_
      refine lv_iload_n hx hb d_J_floorModI_15 rfl (lv_at hl 2 rfl) ?_
      refine wi_add hx hb d_J_floorModI_16 ?_
      exact rt_i X hAe hS () (by first | rw [(jf_mod h0).1 ⟨by omega, by omega⟩] | rw [(jf_mod h0).2 (by omega)]) hP d_J_floorModI_17

set_option maxHeartbeats 4000000 in
set_option maxRecDepth 100000 in
theorem c_X_remainder (l : Launch) (D : va_G) (cI cJ cF : ClassId) {n d : Int} (hn : jL n) (hd : jL d) : ∀ sz, Met l y_X_remainder (Cond.code y_X_remainder b_X_remainder 4 (some .long) :: wb) { frames := 1, cells := 0, slots := 0, locals := 25 } (va_Pc [.long (jl (n)), .long (jl (d))] (cpre D cI cJ cF [] sz)) (va_Ql (fun r (u : Unit) => r = jl (if 0 < (d) then (n) % (d) else 0)) (fun (u : Unit) tS => va_P D classes [] tS.heap) (va_A [] sz)) 0 0 (va_A [] sz) := by
  refine c_of (Qc := fun sz => va_Ql (fun r (u : Unit) => r = jl (if 0 < (d) then (n) % (d) else 0)) (fun (u : Unit) tS => va_P D classes [] tS.heap) (va_A [] sz)) (by decide +kernel) co_X_remainder (Nat.le_of_ble_eq_true rfl) ?_
  intro pq eq s mq below meth cq A X hK hP hD hS hA hAe ls hl
  obtain ⟨hx, hb, hml, hown, hr, hlocks, hts⟩ := id X
  have hl : lv_has ls 4 [(0, .long (jl (n))), (2, .long (jl (d)))] := hl
  refine lv_lload_n hx hb d_X_remainder_0 rfl (lv_at hl 1 rfl) ?_
  refine w_lconst (v := 0) hx hb rfl d_X_remainder_1 ?_
  refine wl_cle hx hb hd ⟨by decide, by decide⟩ d_X_remainder_2 d_X_remainder_3 (tgt := 14) (by decide) (fun h_1 => ?_) (fun h_1 => ?_)
  · refine w_lconst (v := 0) hx hb rfl d_X_remainder_14 ?_
    exact rt_l X hAe hS () (by first | rw [if_pos (by omega)] | rw [if_neg (by omega)]) hP d_X_remainder_15
  · refine lv_lload_n hx hb d_X_remainder_6 rfl (lv_at hl 0 rfl) ?_
    refine lv_lload_n hx hb d_X_remainder_7 rfl (lv_at hl 1 rfl) ?_
    refine cl_l (rn_S (wc := []) (As := [.long (jl (n)), .long (jl (d))]) (rest := []) X hK (c_J_floorModJ l D cI cJ cF hn hd (by omega) _) co_J_floorModJ in_J ml_X_163 st_J_floorModJ 2 rfl (by decide +kernel) ⟨Nat.le_of_ble_eq_true rfl, Nat.le_of_ble_eq_true rfl⟩ hP hD [] rfl (by decide) hl.1 rfl (Nat.le_of_ble_eq_true rfl) d_X_remainder_8 ⟨Nat.zero_le _, Nat.zero_le _⟩) hP hD hS hA [] rfl (by decide) (fun _ => rfl) (fun r_2 u_3 H locs hp hP hD hS => ?_)
    have hP : va_P D classes [] H := hP
    have hD : va_D A [] := hD
    obtain rfl : r_2 = jl ((n) % (d)) := hp
    refine lv_goto (tgt := 15) hx hb d_X_remainder_11 (by decide) ?_
    exact rt_l X hAe hS () (by first | rw [if_pos (by omega)] | rw [if_neg (by omega)]) hP d_X_remainder_15

set_option maxHeartbeats 4000000 in
set_option maxRecDepth 100000 in
theorem c_X_wholeRoot (l : Launch) (D : va_G) (cI cJ cF : ClassId) {d : Int} (hd : jI d) (hd2 : d ≤ 1048576) : ∀ sz, Met l y_X_wholeRoot (Cond.code y_X_wholeRoot b_X_wholeRoot 2 (some .int) :: wb) { frames := 0, cells := 0, slots := 0, locals := 0 } (va_Pc [.int (ji (d))] (cpre D cI cJ cF [] sz)) (va_Qi (fun r (u : Unit) => ∃ w : Int, r = ji w ∧ jI w ∧ ((d < 0 ∧ w = -1) ∨ (0 ≤ w ∧ w ≤ 1024 ∧ w * w ≤ d ∧ d < (w + 1) * (w + 1)))) (fun (u : Unit) tS => va_P D classes [] tS.heap) (va_A [] sz)) 0 0 (va_A [] sz) := by
  refine c_of (Qc := fun sz => va_Qi (fun r (u : Unit) => ∃ w : Int, r = ji w ∧ jI w ∧ ((d < 0 ∧ w = -1) ∨ (0 ≤ w ∧ w ≤ 1024 ∧ w * w ≤ d ∧ d < (w + 1) * (w + 1)))) (fun (u : Unit) tS => va_P D classes [] tS.heap) (va_A [] sz)) (by decide +kernel) co_X_wholeRoot (Nat.le_of_ble_eq_true rfl) ?_
  intro pq eq s mq below meth cq A X hK hP hD hS hA hAe ls hl
  obtain ⟨hx, hb, hml, hown, hr, hlocks, hts⟩ := id X
  have hl : lv_has ls 2 [(0, .int (ji (d)))] := hl
  refine lv_iload_n hx hb d_X_wholeRoot_0 rfl (lv_at hl 0 rfl) ?_
  refine wi_zge hx hb hd d_X_wholeRoot_1 (tgt := 6) (by decide) (fun h_1 => ?_) (fun h_1 => ?_)
  · refine w_iconst hx hb d_X_wholeRoot_6 ?_
    refine lv_istore_n (lv' := [(1, .int (ji (0))), (0, .int (ji (d)))]) hx hb d_X_wholeRoot_7 rfl hl (by decide) rfl (fun ls hl => ?_)
    refine lpn (I := fun nlp H locs ls => ∃ (w : Int), (1024 - w).toNat = nlp ∧ (0 ≤ w ∧ w ≤ 1024 ∧ w * w ≤ d) ∧ va_P D classes [] H ∧ va_D A [] ∧ va_S A s.heap H locs ∧ lv_has ls 2 [(0, .int (ji (d))), (1, .int (ji (w)))]) ?_ _ _ _ _ ⟨0, rfl, ⟨by decide, by decide, by omega⟩, hP, hD, hS, lv_sub hl [1, 0] rfl⟩
    rintro nlp H locs ls ⟨w, rfl, hi, hP, hD, hS, hl⟩ ih
    refine lv_iload_n hx hb d_X_wholeRoot_8 rfl (lv_at hl 1 rfl) ?_
    refine w_sipush hx hb rfl d_X_wholeRoot_9 ?_
    refine wi_cge hx hb ⟨by omega, by omega⟩ ⟨by omega, by omega⟩ d_X_wholeRoot_12 (tgt := 32) (by decide) (fun h_2 => ?_) (fun h_2 => ?_)
    · refine lv_iload_n hx hb d_X_wholeRoot_32 rfl (lv_at hl 1 rfl) ?_
      have hw2 : d < (w + 1) * (w + 1) := by first | omega | (have := Int.mul_le_mul (show (1025 : Int) ≤ w + 1 by omega) (show (1025 : Int) ≤ w + 1 by omega) (by decide) (by omega); omega)
      exact rt_i X hAe hS () ⟨w, rfl, ⟨by omega, by omega⟩, Or.inr ⟨by omega, by omega, hi.2.2, by omega⟩⟩ hP d_X_wholeRoot_33
    · refine lv_iload_n hx hb d_X_wholeRoot_15 rfl (lv_at hl 1 rfl) ?_
      refine w_iconst hx hb d_X_wholeRoot_16 ?_
      refine wi_add hx hb d_X_wholeRoot_17 ?_
      refine lv_iload_n hx hb d_X_wholeRoot_18 rfl (lv_at hl 1 rfl) ?_
      refine w_iconst hx hb d_X_wholeRoot_19 ?_
      refine wi_add hx hb d_X_wholeRoot_20 ?_
      refine wi_mul hx hb d_X_wholeRoot_21 ?_
      refine lv_iload_n hx hb d_X_wholeRoot_22 rfl (lv_at hl 0 rfl) ?_
      refine wi_cgt hx hb ⟨by have := Int.mul_nonneg (show 0 ≤ w + 1 by omega) (show 0 ≤ w + 1 by omega); omega, by have := Int.mul_le_mul (show w + 1 ≤ 1024 by omega) (show w + 1 ≤ 1024 by omega) (by omega) (by decide); omega⟩ hd d_X_wholeRoot_23 (tgt := 32) (by decide) (fun h_3 => ?_) (fun h_3 => ?_)
      · refine lv_iload_n hx hb d_X_wholeRoot_32 rfl (lv_at hl 1 rfl) ?_
        have hw2 : d < (w + 1) * (w + 1) := by first | omega | (have := Int.mul_le_mul (show (1025 : Int) ≤ w + 1 by omega) (show (1025 : Int) ≤ w + 1 by omega) (by decide) (by omega); omega)
        exact rt_i X hAe hS () ⟨w, rfl, ⟨by omega, by omega⟩, Or.inr ⟨by omega, by omega, hi.2.2, by omega⟩⟩ hP d_X_wholeRoot_33
      · refine lv_iinc (v := ji ((w) + (1))) (lv' := [(1, .int (ji ((w) + (1)))), (0, .int (ji (d)))]) hx hb d_X_wholeRoot_26 hl (k := 1) rfl (ji_add _ _) (by decide) rfl (fun ls hl => ?_)
        refine lv_goto (tgt := 8) hx hb d_X_wholeRoot_29 (by decide) ?_
        exact ih _ _ _ _ (by omega) ⟨w + 1, rfl, ⟨by omega, by omega, by omega⟩, hP, hD, hS, lv_sub hl [1, 0] rfl⟩
  · refine w_iconst hx hb d_X_wholeRoot_4 ?_
    exact rt_i X hAe hS () ⟨-1, rfl, ⟨by decide, by decide⟩, Or.inl ⟨by omega, rfl⟩⟩ hP d_X_wholeRoot_5

/-- a discriminant that can be taken -/
def dV (d : Int) : Prop := -1048576 ≤ d ∧ d ≤ 1048576 ∧ d % 4 ≤ 1 ∧ ∀ x : Int, x * x ≠ d
theorem dv_ns {d w : Int} (hw : (d < 0 ∧ w = -1) ∨ (0 ≤ w ∧ w ≤ 1024 ∧ w * w ≤ d ∧ d < (w + 1) * (w + 1))) (h : w < 0 ∨ w * w ≠ d) : ∀ x : Int, x * x ≠ d := by
  intro x hx
  have h0 := fm_ab_sq x
  have h1 : 0 ≤ fm_ab x := by rcases fm_ab_cases x with k | k <;> omega
  have h2 := fm_sq_le (Int.le_refl 0) h1
  rcases hw with ⟨a, b⟩ | ⟨a, b, c, e⟩
  · omega
  · rcases Int.lt_trichotomy (fm_ab x) w with k | k | k
    · have := Int.mul_le_mul (show fm_ab x + 1 ≤ w by omega) (show fm_ab x + 1 ≤ w by omega) (by omega) a
      have e2 : (fm_ab x + 1) * (fm_ab x + 1) = fm_ab x * fm_ab x + 2 * fm_ab x + 1 := by grind
      omega
    · rw [k] at h0
      omega
    · have := fm_sq_le (show 0 ≤ w + 1 by omega) (show w + 1 ≤ fm_ab x by omega)
      omega

set_option maxHeartbeats 4000000 in
set_option maxRecDepth 100000 in
theorem c_X_isDiscriminant (l : Launch) (D : va_G) (cI cJ cF : ClassId) {d : Int} (hd : jI d) : ∀ sz, Met l y_X_isDiscriminant (Cond.code y_X_isDiscriminant b_X_isDiscriminant 2 (some .boolean) :: wb) { frames := 1, cells := 0, slots := 0, locals := 22 } (va_Pc [.int (ji (d))] (cpre D cI cJ cF [] sz)) (va_Qi (fun r (u : Unit) => ∃ t : Int, r = ji t ∧ ((t = 1 ∧ (dV d)) ∨ (t = 0 ∧ ¬ (dV d)))) (fun (u : Unit) tS => va_P D classes [] tS.heap) (va_A [] sz)) 0 0 (va_A [] sz) := by
  refine c_of (Qc := fun sz => va_Qi (fun r (u : Unit) => ∃ t : Int, r = ji t ∧ ((t = 1 ∧ (dV d)) ∨ (t = 0 ∧ ¬ (dV d)))) (fun (u : Unit) tS => va_P D classes [] tS.heap) (va_A [] sz)) (by decide +kernel) co_X_isDiscriminant (Nat.le_of_ble_eq_true rfl) ?_
  intro pq eq s mq below meth cq A X hK hP hD hS hA hAe ls hl
  obtain ⟨hx, hb, hml, hown, hr, hlocks, hts⟩ := id X
  have hl : lv_has ls 2 [(0, .int (ji (d)))] := hl
  refine lv_iload_n hx hb d_X_isDiscriminant_0 rfl (lv_at hl 0 rfl) ?_
  refine w_ldc (v := -1048576) (n := -1048576) hx hb (by decide) hown (hts _ kc_X_152) d_X_isDiscriminant_1 ?_
  refine wi_clt hx hb hd ⟨by decide, by decide⟩ d_X_isDiscriminant_3 (tgt := 21) (by decide) (fun h_1 => ?_) (fun h_1 => ?_)
  · refine w_iconst hx hb d_X_isDiscriminant_21 ?_
    exact rt_z X hAe hS () rfl ⟨0, rfl, Or.inr ⟨rfl, fun h => by have z1 := h.1; have z2 := h.2.1; have z3 := h.2.2.1; omega⟩⟩ hP d_X_isDiscriminant_22
  · refine lv_iload_n hx hb d_X_isDiscriminant_6 rfl (lv_at hl 0 rfl) ?_
    refine w_ldc (v := 1048576) (n := 1048576) hx hb (by decide) hown (hts _ kc_X_153) d_X_isDiscriminant_7 ?_
    refine wi_cgt hx hb hd ⟨by decide, by decide⟩ d_X_isDiscriminant_9 (tgt := 21) (by decide) (fun h_2 => ?_) (fun h_2 => ?_)
    · refine w_iconst hx hb d_X_isDiscriminant_21 ?_
      exact rt_z X hAe hS () rfl ⟨0, rfl, Or.inr ⟨rfl, fun h => by have z1 := h.1; have z2 := h.2.1; have z3 := h.2.2.1; omega⟩⟩ hP d_X_isDiscriminant_22
    · refine lv_iload_n hx hb d_X_isDiscriminant_12 rfl (lv_at hl 0 rfl) ?_
      refine w_iconst hx hb d_X_isDiscriminant_13 ?_
      refine cl_i (rn_S (wc := []) (As := [.int (ji (d)), .int (ji (4))]) (rest := []) X hK (c_J_floorModI l D cI cJ cF hd ⟨by decide, by decide⟩ (by decide) _) co_J_floorModI in_J ml_X_154 st_J_floorModI 2 rfl (by decide +kernel) ⟨Nat.le_of_ble_eq_true rfl, Nat.le_of_ble_eq_true rfl⟩ hP hD [] rfl (by decide) hl.1 rfl (Nat.le_of_ble_eq_true rfl) d_X_isDiscriminant_14 ⟨Nat.zero_le _, Nat.zero_le _⟩) hP hD hS hA [] rfl (by decide) (fun _ => rfl) (fun r_3 u_4 H locs hp hP hD hS => ?_)
      have hP : va_P D classes [] H := hP
      have hD : va_D A [] := hD
      obtain rfl : r_3 = ji ((d) % (4)) := hp
      refine w_iconst hx hb d_X_isDiscriminant_17 ?_
      refine wi_cle hx hb ⟨by omega, by omega⟩ ⟨by omega, by omega⟩ d_X_isDiscriminant_18 (tgt := 23) (by decide) (fun h_5 => ?_) (fun h_5 => ?_)
      · refine lv_iload_n hx hb d_X_isDiscriminant_23 rfl (lv_at hl 0 rfl) ?_
        refine cl_i (rn_S (wc := []) (As := [.int (ji (d))]) (rest := []) X hK (c_X_wholeRoot l D cI cJ cF hd (by omega) _) co_X_wholeRoot in_X ml_X_160 st_X_wholeRoot 1 rfl (by decide +kernel) ⟨Nat.le_of_ble_eq_true rfl, Nat.le_of_ble_eq_true rfl⟩ hP hD [] rfl (by decide) hl.1 rfl (Nat.le_of_ble_eq_true rfl) d_X_isDiscriminant_24 ⟨Nat.zero_le _, Nat.zero_le _⟩) hP hD hS hA [] rfl (by decide) (fun _ => rfl) (fun r_6 u_7 H locs hp hP hD hS => ?_)
        obtain ⟨w, rfl, hw1, hw⟩ := hp
        have hP : va_P D classes [] H := hP
        have hD : va_D A [] := hD
        refine lv_istore_n (lv' := [(1, .int (ji (w))), (0, .int (ji (d)))]) hx hb d_X_isDiscriminant_27 rfl hl (by decide) rfl (fun ls hl => ?_)
        refine lv_iload_n hx hb d_X_isDiscriminant_28 rfl (lv_at hl 0 rfl) ?_
        refine wi_zlt hx hb hw1 d_X_isDiscriminant_29 (tgt := 39) (by decide) (fun h_8 => ?_) (fun h_8 => ?_)
        · refine w_iconst hx hb d_X_isDiscriminant_39 ?_
          refine lv_goto (tgt := 44) hx hb d_X_isDiscriminant_40 (by decide) ?_
          exact rt_z X hAe hS () rfl ⟨1, rfl, Or.inl ⟨rfl, by omega, by omega, by omega, dv_ns hw (by first | (left; omega) | (right; omega))⟩⟩ hP d_X_isDiscriminant_44
        · refine lv_iload_n hx hb d_X_isDiscriminant_32 rfl (lv_at hl 0 rfl) ?_
          refine lv_iload_n hx hb d_X_isDiscriminant_33 rfl (lv_at hl 0 rfl) ?_
          refine wi_mul hx hb d_X_isDiscriminant_34 ?_
          refine lv_iload_n hx hb d_X_isDiscriminant_35 rfl (lv_at hl 1 rfl) ?_
          refine wi_ceq hx hb ⟨by rcases hw with z | z; (rw [z.2]; decide); (have := Int.mul_nonneg z.1 z.1; omega), by rcases hw with z | z; (rw [z.2]; decide); (have := Int.mul_le_mul z.2.1 z.2.1 z.1 (by decide); omega)⟩ hd d_X_isDiscriminant_36 (tgt := 43) (by decide) (fun h_9 => ?_) (fun h_9 => ?_)
          · refine w_iconst hx hb d_X_isDiscriminant_43 ?_
            exact rt_z X hAe hS () rfl ⟨0, rfl, Or.inr ⟨rfl, fun h => h.2.2.2 w (by omega)⟩⟩ hP d_X_isDiscriminant_44
          · refine w_iconst hx hb d_X_isDiscriminant_39 ?_
            refine lv_goto (tgt := 44) hx hb d_X_isDiscriminant_40 (by decide) ?_
            exact rt_z X hAe hS () rfl ⟨1, rfl, Or.inl ⟨rfl, by omega, by omega, by omega, dv_ns hw (by first | (left; omega) | (right; omega))⟩⟩ hP d_X_isDiscriminant_44
      · refine w_iconst hx hb d_X_isDiscriminant_21 ?_
        exact rt_z X hAe hS () rfl ⟨0, rfl, Or.inr ⟨rfl, fun h => by have z1 := h.1; have z2 := h.2.1; have z3 := h.2.2.1; omega⟩⟩ hP d_X_isDiscriminant_22
