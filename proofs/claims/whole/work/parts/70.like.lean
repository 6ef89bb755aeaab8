set_option maxHeartbeats 4000000 in
set_option maxRecDepth 100000 in
theorem c_X_isLikeSquare (l : Launch) (D : va_G) (cI cJ cF : ClassId) {nn : Int} {p : Nat} (hn0 : jL nn) (hp3 : 3 ≤ p) (hp2 : p ≤ 1048576) : ∀ sz, Met l y_X_isLikeSquare (Cond.code y_X_isLikeSquare b_X_isLikeSquare 9 (some .boolean) :: wb) { frames := 2, cells := 0, slots := 0, locals := 48 } (va_Pc [.long (jl (nn)), .int (ji (p))] (cpre D cI cJ cF [] sz)) (va_Qi (fun r (u : Unit) => ∃ t : Int, r = ji t ∧ ((t = 1 ∧ ((p : Int) ∣ nn ^ ((p - 1) / 2) - 1)) ∨ (t = 0 ∧ ¬ ((p : Int) ∣ nn ^ ((p - 1) / 2) - 1)))) (fun (u : Unit) tS => va_P D classes [] tS.heap) (va_A [] sz)) 0 0 (va_A [] sz) := by
  refine c_of (Qc := fun sz => va_Qi (fun r (u : Unit) => ∃ t : Int, r = ji t ∧ ((t = 1 ∧ ((p : Int) ∣ nn ^ ((p - 1) / 2) - 1)) ∨ (t = 0 ∧ ¬ ((p : Int) ∣ nn ^ ((p - 1) / 2) - 1)))) (fun (u : Unit) tS => va_P D classes [] tS.heap) (va_A [] sz)) (by decide +kernel) co_X_isLikeSquare (Nat.le_of_ble_eq_true rfl) ?_
  intro pq eq s mq below meth cq A X hK hP hD hS hA hAe ls hl
  obtain ⟨hx, hb, hml, hown, hr, hlocks, hts⟩ := id X
  have hl : lv_has ls 9 [(0, .long (jl (nn))), (2, .int (ji (p)))] := hl
  refine lv_lload_n hx hb d_X_isLikeSquare_0 rfl (lv_at hl 0 rfl) ?_
  refine lv_iload_n hx hb d_X_isLikeSquare_1 rfl (lv_at hl 1 rfl) ?_
  refine w_i2l hx hb ⟨by omega, by omega⟩ d_X_isLikeSquare_2 ?_
  refine cl_l (rn_S (wc := []) (As := [.long (jl (nn)), .long (jl (p))]) (rest := []) X hK (c_X_remainder l D cI cJ cF hn0 ⟨by omega, by omega⟩ _) co_X_remainder in_X ml_X_133 st_X_remainder 2 rfl (by decide +kernel) ⟨Nat.le_of_ble_eq_true rfl, Nat.le_of_ble_eq_true rfl⟩ hP hD [] rfl (by decide) hl.1 rfl (Nat.le_of_ble_eq_true rfl) d_X_isLikeSquare_3 ⟨Nat.zero_le _, Nat.zero_le _⟩) hP hD hS hA [] rfl (by decide) (fun _ => rfl) (fun r_1 u_2 H locs hp hP hD hS => ?_)
  have hp : r_1 = jl ((nn) % (p : Int)) := by rw [show r_1 = _ from hp]; rw [if_pos (by omega)]
  have hm1 := Int.emod_nonneg (nn) (show (p : Int) ≠ 0 by omega)
  have hm2 := Int.emod_lt_of_pos (nn) (show 0 < (p : Int) by omega)
  have hP : va_P D classes [] H := hP
  have hD : va_D A [] := hD
  obtain rfl : r_1 = jl ((nn) % (p : Int)) := hp
  refine lv_lstore_n (lv' := [(3, .long (jl ((nn) % (p : Int)))), (0, .long (jl (nn))), (2, .int (ji (p)))]) hx hb d_X_isLikeSquare_6 rfl hl (by decide) rfl (fun ls hl => ?_)
  refine w_lconst (v := 1) hx hb rfl d_X_isLikeSquare_7 ?_
  refine lv_lstore (lv' := [(5, .long (jl (1))), (3, .long (jl ((nn) % (p : Int)))), (0, .long (jl (nn))), (2, .int (ji (p)))]) hx hb d_X_isLikeSquare_8 hl (by decide) rfl (fun ls hl => ?_)
  refine lv_iload_n hx hb d_X_isLikeSquare_10 rfl (lv_at hl 3 rfl) ?_
  refine w_iconst hx hb d_X_isLikeSquare_11 ?_
  refine wi_sub hx hb d_X_isLikeSquare_12 ?_
  refine w_iconst hx hb d_X_isLikeSquare_13 ?_
  refine wi_div hx hb ⟨by omega, by omega⟩ ⟨by decide, by decide⟩ (by decide) d_X_isLikeSquare_14 ?_
  have hh : ((p : Int) - 1).tdiv 2 = ((p - 1) / 2 : Nat) := by rw [Int.tdiv_eq_ediv_of_nonneg (by omega)]; omega
  rw [hh]
  refine lv_istore (lv' := [(7, .int (ji (((p - 1) / 2 : Nat)))), (5, .long (jl (1))), (3, .long (jl ((nn) % (p : Int)))), (0, .long (jl (nn))), (2, .int (ji (p)))]) hx hb d_X_isLikeSquare_15 hl (by decide) rfl (fun ls hl => ?_)
  refine w_iconst hx hb d_X_isLikeSquare_17 ?_
  refine lv_istore (lv' := [(8, .int (ji (0))), (7, .int (ji (((p - 1) / 2 : Nat)))), (5, .long (jl (1))), (3, .long (jl ((nn) % (p : Int)))), (0, .long (jl (nn))), (2, .int (ji (p)))]) hx hb d_X_isLikeSquare_18 hl (by decide) rfl (fun ls hl => ?_)
  refine lpn (I := fun nlp H locs ls => ∃ (i : Nat) (RR : Nat) (bs : Int) (rs : Int), 64 - i = nlp ∧ (i ≤ 64 ∧ 2 ^ i * RR ≤ 1048576 ∧ (0 ≤ bs ∧ bs < p) ∧ (0 ≤ rs ∧ rs < p) ∧ (p : Int) ∣ rs * bs ^ RR - nn ^ ((p - 1) / 2)) ∧ va_P D classes [] H ∧ va_D A [] ∧ va_S A s.heap H locs ∧ lv_has ls 9 [(0, .long (jl (nn))), (2, .int (ji (p))), (3, .long (jl (bs))), (5, .long (jl (rs))), (7, .int (ji (RR))), (8, .int (ji (i)))]) ?_ _ _ _ _ ⟨0, (p - 1) / 2, nn % (p : Int), 1, rfl, ⟨by decide, by omega, ⟨hm1, hm2⟩, ⟨by decide, by omega⟩, by rw [Int.one_mul]; exact cg_pow (cg_mod _) _⟩, hP, hD, hS, lv_sub hl [4, 5, 3, 2, 1, 0] rfl⟩
  rintro nlp H locs ls ⟨i, RR, bs, rs, rfl, hi, hP, hD, hS, hl⟩ ih
  obtain ⟨i1, i2, i3, i4, i5⟩ := hi
  have hRb : RR ≤ 1048576 := Nat.le_trans (Nat.le_trans (Nat.le_mul_of_pos_left RR (Nat.pow_pos (by decide))) i2) (Nat.le_refl _)
  refine lv_iload hx hb d_X_isLikeSquare_20 (lv_at hl 5 rfl) ?_
  refine w_bipush hx hb rfl d_X_isLikeSquare_22 ?_
  refine wi_cge hx hb ⟨by omega, by omega⟩ ⟨by decide, by decide⟩ d_X_isLikeSquare_24 (tgt := 72) (by decide) (fun h_3 => ?_) (fun h_3 => ?_)
  · have hR0 : RR = 0 := by
      rcases Nat.eq_zero_or_pos RR with z | z
      · exact z
      · have := np_i z i2; omega
    have hfin : (p : Int) ∣ rs * 1 - nn ^ ((p - 1) / 2) := by rw [hR0, Int.pow_zero] at i5; exact i5
    refine lv_lload hx hb d_X_isLikeSquare_72 (lv_at hl 3 rfl) ?_
    refine w_lconst (v := 1) hx hb rfl d_X_isLikeSquare_74 ?_
    refine wl_cne hx hb ⟨by omega, by omega⟩ ⟨by decide, by decide⟩ d_X_isLikeSquare_75 d_X_isLikeSquare_76 (tgt := 83) (by decide) (fun h_4 => ?_) (fun h_4 => ?_)
    · refine w_iconst hx hb d_X_isLikeSquare_83 ?_
      exact rt_z X hAe hS () rfl ⟨0, rfl, Or.inr ⟨rfl, fun z => by have := (ls_end (by omega) i4.1 i4.2 hfin).mpr z; omega⟩⟩ hP d_X_isLikeSquare_84
    · refine w_iconst hx hb d_X_isLikeSquare_79 ?_
      refine lv_goto (tgt := 84) hx hb d_X_isLikeSquare_80 (by decide) ?_
      exact rt_z X hAe hS () rfl ⟨1, rfl, Or.inl ⟨rfl, (ls_end (by omega) i4.1 i4.2 hfin).mp (by omega)⟩⟩ hP d_X_isLikeSquare_84
  · refine lv_iload hx hb d_X_isLikeSquare_27 (lv_at hl 4 rfl) ?_
    refine wi_zle hx hb ⟨by omega, by omega⟩ d_X_isLikeSquare_29 (tgt := 72) (by decide) (fun h_5 => ?_) (fun h_5 => ?_)
    · have hR0 : RR = 0 := by omega
      have hfin : (p : Int) ∣ rs * 1 - nn ^ ((p - 1) / 2) := by rw [hR0, Int.pow_zero] at i5; exact i5
      refine lv_lload hx hb d_X_isLikeSquare_72 (lv_at hl 3 rfl) ?_
      refine w_lconst (v := 1) hx hb rfl d_X_isLikeSquare_74 ?_
      refine wl_cne hx hb ⟨by omega, by omega⟩ ⟨by decide, by decide⟩ d_X_isLikeSquare_75 d_X_isLikeSquare_76 (tgt := 83) (by decide) (fun h_6 => ?_) (fun h_6 => ?_)
      · refine w_iconst hx hb d_X_isLikeSquare_83 ?_
        exact rt_z X hAe hS () rfl ⟨0, rfl, Or.inr ⟨rfl, fun z => by have := (ls_end (by omega) i4.1 i4.2 hfin).mpr z; omega⟩⟩ hP d_X_isLikeSquare_84
      · refine w_iconst hx hb d_X_isLikeSquare_79 ?_
        refine lv_goto (tgt := 84) hx hb d_X_isLikeSquare_80 (by decide) ?_
        exact rt_z X hAe hS () rfl ⟨1, rfl, Or.inl ⟨rfl, (ls_end (by omega) i4.1 i4.2 hfin).mp (by omega)⟩⟩ hP d_X_isLikeSquare_84
    · have b1 := ab_range (ab_prod (show fm_ab rs ≤ 1048576 by rcases fm_ab_cases rs with z | z <;> omega) (show fm_ab bs ≤ 1048576 by rcases fm_ab_cases bs with z | z <;> omega))
      have b2 := ab_range (ab_prod (show fm_ab bs ≤ 1048576 by rcases fm_ab_cases bs with z | z <;> omega) (show fm_ab bs ≤ 1048576 by rcases fm_ab_cases bs with z | z <;> omega))
      refine lv_iload hx hb d_X_isLikeSquare_32 (lv_at hl 4 rfl) ?_
      refine w_iconst hx hb d_X_isLikeSquare_34 ?_
      refine lv_iand hx hb d_X_isLikeSquare_35 ?_
      rw [ji_and1 (d := (RR : Int)) ⟨by omega, by omega⟩]
      refine w_iconst hx hb d_X_isLikeSquare_36 ?_
      refine wi_cne hx hb ⟨by omega, by omega⟩ ⟨by decide, by decide⟩ d_X_isLikeSquare_37 (tgt := 51) (by decide) (fun h_7 => ?_) (fun h_7 => ?_)
      · refine lv_lload_n hx hb d_X_isLikeSquare_51 rfl (lv_at hl 2 rfl) ?_
        refine lv_lload_n hx hb d_X_isLikeSquare_52 rfl (lv_at hl 2 rfl) ?_
        refine wl_mul hx hb d_X_isLikeSquare_53 ?_
        refine lv_iload_n hx hb d_X_isLikeSquare_54 rfl (lv_at hl 1 rfl) ?_
        refine w_i2l hx hb ⟨by omega, by omega⟩ d_X_isLikeSquare_55 ?_
        refine cl_l (rn_S (wc := []) (As := [.long (jl ((bs) * (bs))), .long (jl (p))]) (rest := []) X hK (c_X_remainder l D cI cJ cF ⟨by omega, by omega⟩ ⟨by omega, by omega⟩ _) co_X_remainder in_X ml_X_133 st_X_remainder 2 rfl (by decide +kernel) ⟨Nat.le_of_ble_eq_true rfl, Nat.le_of_ble_eq_true rfl⟩ hP hD [] rfl (by decide) hl.1 rfl (Nat.le_of_ble_eq_true rfl) d_X_isLikeSquare_56 ⟨Nat.zero_le _, Nat.zero_le _⟩) hP hD hS hA [] rfl (by decide) (fun _ => rfl) (fun r_8 u_9 H locs hp hP hD hS => ?_)
        have hp : r_8 = jl ((bs * bs) % (p : Int)) := by rw [show r_8 = _ from hp]; rw [if_pos (by omega)]
        have hm1 := Int.emod_nonneg (bs * bs) (show (p : Int) ≠ 0 by omega)
        have hm2 := Int.emod_lt_of_pos (bs * bs) (show 0 < (p : Int) by omega)
        have hP : va_P D classes [] H := hP
        have hD : va_D A [] := hD
        obtain rfl : r_8 = jl ((bs * bs) % (p : Int)) := hp
        refine lv_lstore_n (lv' := [(3, .long (jl ((bs * bs) % (p : Int)))), (0, .long (jl (nn))), (2, .int (ji (p))), (5, .long (jl (rs))), (7, .int (ji (RR))), (8, .int (ji (i)))]) hx hb d_X_isLikeSquare_59 rfl hl (by decide) rfl (fun ls hl => ?_)
        refine lv_iload hx hb d_X_isLikeSquare_60 (lv_at hl 4 rfl) ?_
        refine w_iconst hx hb d_X_isLikeSquare_62 ?_
        refine lv_ishr hx hb d_X_isLikeSquare_63 ?_
        rw [ji_shr1 (d := (RR : Int)) (by omega) ⟨by omega, by omega⟩]
        refine lv_istore (lv' := [(7, .int (ji ((RR : Int) / 2))), (3, .long (jl ((bs * bs) % (p : Int)))), (0, .long (jl (nn))), (2, .int (ji (p))), (5, .long (jl (rs))), (8, .int (ji (i)))]) hx hb d_X_isLikeSquare_64 hl (by decide) rfl (fun ls hl => ?_)
        refine lv_iinc (v := ji ((i) + (1))) (lv' := [(8, .int (ji ((i) + (1)))), (7, .int (ji ((RR : Int) / 2))), (3, .long (jl ((bs * bs) % (p : Int)))), (0, .long (jl (nn))), (2, .int (ji (p))), (5, .long (jl (rs)))]) hx hb d_X_isLikeSquare_66 hl (k := 5) rfl (ji_add _ _) (by decide) rfl (fun ls hl => ?_)
        refine lv_goto (tgt := 20) hx hb d_X_isLikeSquare_69 (by decide) ?_
        exact ih _ _ _ _ (by omega) ⟨i + 1, RR / 2, bs * bs % (p : Int), rs, rfl, ⟨by omega, np_is i2 (by omega), ⟨Int.emod_nonneg _ (by omega), Int.emod_lt_of_pos _ (by omega)⟩, i4, (ls_step i5).1 (by omega)⟩, hP, hD, hS, lv_sub hl [3, 4, 2, 5, 1, 0] rfl⟩
      · refine lv_lload hx hb d_X_isLikeSquare_40 (lv_at hl 3 rfl) ?_
        refine lv_lload_n hx hb d_X_isLikeSquare_42 rfl (lv_at hl 2 rfl) ?_
        refine wl_mul hx hb d_X_isLikeSquare_43 ?_
        refine lv_iload_n hx hb d_X_isLikeSquare_44 rfl (lv_at hl 1 rfl) ?_
        refine w_i2l hx hb ⟨by omega, by omega⟩ d_X_isLikeSquare_45 ?_
        refine cl_l (rn_S (wc := []) (As := [.long (jl ((rs) * (bs))), .long (jl (p))]) (rest := []) X hK (c_X_remainder l D cI cJ cF ⟨by omega, by omega⟩ ⟨by omega, by omega⟩ _) co_X_remainder in_X ml_X_133 st_X_remainder 2 rfl (by decide +kernel) ⟨Nat.le_of_ble_eq_true rfl, Nat.le_of_ble_eq_true rfl⟩ hP hD [] rfl (by decide) hl.1 rfl (Nat.le_of_ble_eq_true rfl) d_X_isLikeSquare_46 ⟨Nat.zero_le _, Nat.zero_le _⟩) hP hD hS hA [] rfl (by decide) (fun _ => rfl) (fun r_10 u_11 H locs hp hP hD hS => ?_)
        have hp : r_10 = jl ((rs * bs) % (p : Int)) := by rw [show r_10 = _ from hp]; rw [if_pos (by omega)]
        have hm1 := Int.emod_nonneg (rs * bs) (show (p : Int) ≠ 0 by omega)
        have hm2 := Int.emod_lt_of_pos (rs * bs) (show 0 < (p : Int) by omega)
        have hP : va_P D classes [] H := hP
        have hD : va_D A [] := hD
        obtain rfl : r_10 = jl ((rs * bs) % (p : Int)) := hp
        refine lv_lstore (lv' := [(5, .long (jl ((rs * bs) % (p : Int)))), (0, .long (jl (nn))), (2, .int (ji (p))), (3, .long (jl (bs))), (7, .int (ji (RR))), (8, .int (ji (i)))]) hx hb d_X_isLikeSquare_49 hl (by decide) rfl (fun ls hl => ?_)
        refine lv_lload_n hx hb d_X_isLikeSquare_51 rfl (lv_at hl 3 rfl) ?_
        refine lv_lload_n hx hb d_X_isLikeSquare_52 rfl (lv_at hl 3 rfl) ?_
        refine wl_mul hx hb d_X_isLikeSquare_53 ?_
        refine lv_iload_n hx hb d_X_isLikeSquare_54 rfl (lv_at hl 2 rfl) ?_
        refine w_i2l hx hb ⟨by omega, by omega⟩ d_X_isLikeSquare_55 ?_
        refine cl_l (rn_S (wc := []) (As := [.long (jl ((bs) * (bs))), .long (jl (p))]) (rest := []) X hK (c_X_remainder l D cI cJ cF ⟨by omega, by omega⟩ ⟨by omega, by omega⟩ _) co_X_remainder in_X ml_X_133 st_X_remainder 2 rfl (by decide +kernel) ⟨Nat.le_of_ble_eq_true rfl, Nat.le_of_ble_eq_true rfl⟩ hP hD [] rfl (by decide) hl.1 rfl (Nat.le_of_ble_eq_true rfl) d_X_isLikeSquare_56 ⟨Nat.zero_le _, Nat.zero_le _⟩) hP hD hS hA [] rfl (by decide) (fun _ => rfl) (fun r_12 u_13 H locs hp hP hD hS => ?_)
        have hp : r_12 = jl ((bs * bs) % (p : Int)) := by rw [show r_12 = _ from hp]; rw [if_pos (by omega)]
        have hm1 := Int.emod_nonneg (bs * bs) (show (p : Int) ≠ 0 by omega)
        have hm2 := Int.emod_lt_of_pos (bs * bs) (show 0 < (p : Int) by omega)
        have hP : va_P D classes [] H := hP
        have hD : va_D A [] := hD
        obtain rfl : r_12 = jl ((bs * bs) % (p : Int)) := hp
        refine lv_lstore_n (lv' := [(3, .long (jl ((bs * bs) % (p : Int)))), (5, .long (jl ((rs * bs) % (p : Int)))), (0, .long (jl (nn))), (2, .int (ji (p))), (7, .int (ji (RR))), (8, .int (ji (i)))]) hx hb d_X_isLikeSquare_59 rfl hl (by decide) rfl (fun ls hl => ?_)
        refine lv_iload hx hb d_X_isLikeSquare_60 (lv_at hl 4 rfl) ?_
        refine w_iconst hx hb d_X_isLikeSquare_62 ?_
        refine lv_ishr hx hb d_X_isLikeSquare_63 ?_
        rw [ji_shr1 (d := (RR : Int)) (by omega) ⟨by omega, by omega⟩]
        refine lv_istore (lv' := [(7, .int (ji ((RR : Int) / 2))), (3, .long (jl ((bs * bs) % (p : Int)))), (5, .long (jl ((rs * bs) % (p : Int)))), (0, .long (jl (nn))), (2, .int (ji (p))), (8, .int (ji (i)))]) hx hb d_X_isLikeSquare_64 hl (by decide) rfl (fun ls hl => ?_)
        refine lv_iinc (v := ji ((i) + (1))) (lv' := [(8, .int (ji ((i) + (1)))), (7, .int (ji ((RR : Int) / 2))), (3, .long (jl ((bs * bs) % (p : Int)))), (5, .long (jl ((rs * bs) % (p : Int)))), (0, .long (jl (nn))), (2, .int (ji (p)))]) hx hb d_X_isLikeSquare_66 hl (k := 5) rfl (ji_add _ _) (by decide) rfl (fun ls hl => ?_)
        refine lv_goto (tgt := 20) hx hb d_X_isLikeSquare_69 (by decide) ?_
        exact ih _ _ _ _ (by omega) ⟨i + 1, RR / 2, bs * bs % (p : Int), rs * bs % (p : Int), rfl, ⟨by omega, np_is i2 (by omega), ⟨Int.emod_nonneg _ (by omega), Int.emod_lt_of_pos _ (by omega)⟩, ⟨Int.emod_nonneg _ (by omega), Int.emod_lt_of_pos _ (by omega)⟩, (ls_step i5).2 (by omega)⟩, hP, hD, hS, lv_sub hl [4, 5, 2, 3, 1, 0] rfl⟩
