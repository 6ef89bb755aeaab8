set_option maxHeartbeats 4000000 in
set_option maxRecDepth 100000 in
theorem c_M_thrown (l : Launch) (D : va_G) (cI cJ cF : ClassId) {m0 mf mm ml mp : Nat} {co Dd w np : Int} {a b c : Int} : ∀ sz, Met l y_M_thrown (Cond.code y_M_thrown b_M_thrown 1 (some .int) :: wb) { frames := 0, cells := 0, slots := 0, locals := 0 } (va_Pc [.ref m0] (cpre D cI cJ cF [(m0, .inr (5, [.int (ji (co)), .long (jl (Dd)), .long (jl (w)), .ref mf, .ref mm, .ref ml, .long (jl (a)), .long (jl (b)), .long (jl (c)), .int (ji (np)), .ref mp]))] sz)) (va_Qi (fun r (u : Unit) => r = ji co) (fun (u : Unit) tS => va_P D classes [(m0, .inr (5, [.int (ji (co)), .long (jl (Dd)), .long (jl (w)), .ref mf, .ref mm, .ref ml, .long (jl (a)), .long (jl (b)), .long (jl (c)), .int (ji (np)), .ref mp]))] tS.heap) (va_A [(m0, .inr (5, [.int (ji (co)), .long (jl (Dd)), .long (jl (w)), .ref mf, .ref mm, .ref ml, .long (jl (a)), .long (jl (b)), .long (jl (c)), .int (ji (np)), .ref mp]))] sz)) 0 0 (va_A [(m0, .inr (5, [.int (ji (co)), .long (jl (Dd)), .long (jl (w)), .ref mf, .ref mm, .ref ml, .long (jl (a)), .long (jl (b)), .long (jl (c)), .int (ji (np)), .ref mp]))] sz) := by
  refine c_of (Qc := fun sz => va_Qi (fun r (u : Unit) => r = ji co) (fun (u : Unit) tS => va_P D classes [(m0, .inr (5, [.int (ji (co)), .long (jl (Dd)), .long (jl (w)), .ref mf, .ref mm, .ref ml, .long (jl (a)), .long (jl (b)), .long (jl (c)), .int (ji (np)), .ref mp]))] tS.heap) (va_A [(m0, .inr (5, [.int (ji (co)), .long (jl (Dd)), .long (jl (w)), .ref mf, .ref mm, .ref ml, .long (jl (a)), .long (jl (b)), .long (jl (c)), .int (ji (np)), .ref mp]))] sz)) (by decide +kernel) co_M_thrown (Nat.le_of_ble_eq_true rfl) ?_
  intro pq eq s mq below meth cq A X hK hP hD hS hA hAe ls hl
  obtain ⟨hx, hb, hml, hown, hr, hlocks, hts⟩ := id X
  have hl : lv_has ls 1 [(0, .ref m0)] := hl
  refine lv_aload_n hx hb d_M_thrown_0 rfl (lv_at hl 0 rfl) ?_
  refine va_get (D := D) (ci := 5) (v := .int (ji (co))) (C := R_M) (T := T_M) (N := 11) hx hb hts uw_M hown hK.1 hP 0 rfl rfl 0 (by decide) (hts _ fl_M_37) (fun _ h9 => h9) rfl d_M_thrown_1 ?_
  exact rt_i X hAe hS () rfl hP d_M_thrown_4

set_option maxHeartbeats 4000000 in
set_option maxRecDepth 100000 in
theorem c_M_isRegister (l : Launch) (D : va_G) (cI cJ cF : ClassId) {v : Int} (h1 : jI v) : ∀ sz, Met l y_M_isRegister (Cond.code y_M_isRegister b_M_isRegister 1 (some .boolean) :: wb) { frames := 1, cells := 0, slots := 0, locals := 25 } (va_Pc [.int (ji (v))] (cpre D cI cJ cF [] sz)) (va_Qi (fun r (u : Unit) => ∃ t : Int, r = ji t ∧ ((t = 1 ∧ (0 ≤ v ∧ v ≤ 7)) ∨ (t = 0 ∧ ¬ (0 ≤ v ∧ v ≤ 7)))) (fun (u : Unit) tS => va_P D classes [] tS.heap) (va_A [] sz)) 0 0 (va_A [] sz) := by
  refine c_of (Qc := fun sz => va_Qi (fun r (u : Unit) => ∃ t : Int, r = ji t ∧ ((t = 1 ∧ (0 ≤ v ∧ v ≤ 7)) ∨ (t = 0 ∧ ¬ (0 ≤ v ∧ v ≤ 7)))) (fun (u : Unit) tS => va_P D classes [] tS.heap) (va_A [] sz)) (by decide +kernel) co_M_isRegister (Nat.le_of_ble_eq_true rfl) ?_
  intro pq eq s mq below meth cq A X hK hP hD hS hA hAe ls hl
  obtain ⟨hx, hb, hml, hown, hr, hlocks, hts⟩ := id X
  have hl : lv_has ls 1 [(0, .int (ji (v)))] := hl
  have z1 := h1.1
  have z2 := h1.2
  refine lv_iload_n hx hb d_M_isRegister_0 rfl (lv_at hl 0 rfl) ?_
  refine w_i2l hx hb h1 d_M_isRegister_1 ?_
  refine w_lconst (v := 0) hx hb rfl d_M_isRegister_2 ?_
  refine w_ldc2 (v := 7) (n := 7) hx hb (by decide) hown (hts _ kc_M_101) d_M_isRegister_3 ?_
  refine cl_i (rn_S (wc := []) (As := [.long (jl (v)), .long (jl (0)), .long (jl (7))]) (rest := []) X hK (c_M_in l D cI cJ cF ⟨by omega, by omega⟩ ⟨by decide, by decide⟩ ⟨by decide, by decide⟩ _) co_M_in in_M ml_M_63 st_M_in 3 rfl (by decide +kernel) ⟨Nat.le_of_ble_eq_true rfl, Nat.le_of_ble_eq_true rfl⟩ hP hD [] rfl (by decide) hl.1 rfl (Nat.le_of_ble_eq_true rfl) d_M_isRegister_6 ⟨Nat.zero_le _, Nat.zero_le _⟩) hP hD hS hA [] rfl (by decide) (fun _ => rfl) (fun r_1 u_2 H locs hp hP hD hS => ?_)
  obtain ⟨tt, rfl, htt⟩ := hp
  have hP : va_P D classes [] H := hP
  have hD : va_D A [] := hD
  rcases htt with ⟨rfl, hz⟩ | ⟨rfl, hz⟩
  · exact rt_z X hAe hS () rfl ⟨1, rfl, Or.inl ⟨rfl, hz⟩⟩ hP d_M_isRegister_9
  · exact rt_z X hAe hS () rfl ⟨0, rfl, Or.inr ⟨rfl, hz⟩⟩ hP d_M_isRegister_9

set_option maxHeartbeats 4000000 in
set_option maxRecDepth 100000 in
theorem c_M_isSquare (l : Launch) (D : va_G) (cI cJ cF : ClassId) {v : Int} {p : Nat} (h1 : 0 ≤ v) (h2 : v < p) (h3 : 2 ≤ p) (h4 : p ≤ 1048576) : ∀ sz, Met l y_M_isSquare (Cond.code y_M_isSquare b_M_isSquare 8 (some .boolean) :: wb) { frames := 0, cells := 0, slots := 0, locals := 0 } (va_Pc [.long (jl (v)), .long (jl (p))] (cpre D cI cJ cF [] sz)) (va_Qi (fun r (u : Unit) => ∃ t : Int, r = ji t ∧ ((t = 1 ∧ (∃ x : Int, 0 ≤ x ∧ x ≤ p / 2 ∧ (p : Int) ∣ x * x - v)) ∨ (t = 0 ∧ ¬ (∃ x : Int, 0 ≤ x ∧ x ≤ p / 2 ∧ (p : Int) ∣ x * x - v)))) (fun (u : Unit) tS => va_P D classes [] tS.heap) (va_A [] sz)) 0 0 (va_A [] sz) := by
  refine c_of (Qc := fun sz => va_Qi (fun r (u : Unit) => ∃ t : Int, r = ji t ∧ ((t = 1 ∧ (∃ x : Int, 0 ≤ x ∧ x ≤ p / 2 ∧ (p : Int) ∣ x * x - v)) ∨ (t = 0 ∧ ¬ (∃ x : Int, 0 ≤ x ∧ x ≤ p / 2 ∧ (p : Int) ∣ x * x - v)))) (fun (u : Unit) tS => va_P D classes [] tS.heap) (va_A [] sz)) (by decide +kernel) co_M_isSquare (Nat.le_of_ble_eq_true rfl) ?_
  intro pq eq s mq below meth cq A X hK hP hD hS hA hAe ls hl
  obtain ⟨hx, hb, hml, hown, hr, hlocks, hts⟩ := id X
  have hl : lv_has ls 8 [(0, .long (jl (v))), (2, .long (jl (p)))] := hl
  refine w_lconst (v := 0) hx hb rfl d_M_isSquare_0 ?_
  refine lv_lstore (lv' := [(4, .long (jl (0))), (0, .long (jl (v))), (2, .long (jl (p)))]) hx hb d_M_isSquare_1 hl (by decide) rfl (fun ls hl => ?_)
  refine w_lconst (v := 0) hx hb rfl d_M_isSquare_3 ?_
  refine lv_lstore (lv' := [(6, .long (jl (0))), (4, .long (jl (0))), (0, .long (jl (v))), (2, .long (jl (p)))]) hx hb d_M_isSquare_4 hl (by decide) rfl (fun ls hl => ?_)
  refine lpn (I := fun nlp H locs ls => ∃ (sq : Int) (xx : Int), ((p : Int) + 1 - xx).toNat = nlp ∧ (0 ≤ xx ∧ xx ≤ p / 2 + 1 ∧ sq = xx * xx % p ∧ ∀ j : Int, 0 ≤ j → j < xx → ¬ (p : Int) ∣ j * j - v) ∧ va_P D classes [] H ∧ va_D A [] ∧ va_S A s.heap H locs ∧ lv_has ls 8 [(0, .long (jl (v))), (2, .long (jl (p))), (4, .long (jl (sq))), (6, .long (jl (xx)))]) ?_ _ _ _ _ ⟨0, 0, rfl, ⟨by decide, by omega, by simp, fun j z1 z2 => absurd z1 (by omega)⟩, hP, hD, hS, lv_sub hl [2, 3, 1, 0] rfl⟩
  rintro nlp H locs ls ⟨sq, xx, rfl, hi, hP, hD, hS, hl⟩ ih
  obtain ⟨i1, i2, i3, i4⟩ := hi
  have m0 := Int.emod_nonneg (xx * xx) (show (p : Int) ≠ 0 by omega)
  have m1 := Int.emod_lt_of_pos (xx * xx) (show 0 < (p : Int) by omega)
  refine lv_lload hx hb d_M_isSquare_6 (lv_at hl 3 rfl) ?_
  refine lv_lload_n hx hb d_M_isSquare_8 rfl (lv_at hl 1 rfl) ?_
  refine w_ldc2 (v := 2) (n := 2) hx hb (by decide) hown (hts _ kc_M_53) d_M_isSquare_9 ?_
  refine wl_div hx hb ⟨by omega, by omega⟩ ⟨by decide, by decide⟩ (by decide) d_M_isSquare_12 ?_
  refine lv_topl (fun yy hyy => ?_)
  obtain rfl : yy = jl ((p : Int) / 2) := hyy.trans (congrArg jl (Int.tdiv_eq_ediv_of_nonneg (by omega)))
  refine wl_cgt hx hb ⟨by omega, by omega⟩ ⟨by omega, by omega⟩ d_M_isSquare_13 d_M_isSquare_14 (tgt := 50) (by decide) (fun h_1 => ?_) (fun h_1 => ?_)
  · refine w_iconst hx hb d_M_isSquare_50 ?_
    exact rt_z X hAe hS () rfl ⟨0, rfl, Or.inr ⟨rfl, fun z => by obtain ⟨x, z1, z2, z3⟩ := z; exact i4 x z1 (by omega) z3⟩⟩ hP d_M_isSquare_51
  · refine lv_lload hx hb d_M_isSquare_17 (lv_at hl 2 rfl) ?_
    refine lv_lload_n hx hb d_M_isSquare_19 rfl (lv_at hl 0 rfl) ?_
    refine wl_cne hx hb ⟨by omega, by omega⟩ ⟨by omega, by omega⟩ d_M_isSquare_20 d_M_isSquare_21 (tgt := 26) (by decide) (fun h_2 => ?_) (fun h_2 => ?_)
    · have hne : ¬ sq = v := h_2
      refine lv_lload hx hb d_M_isSquare_26 (lv_at hl 2 rfl) ?_
      refine w_ldc2 (v := 2) (n := 2) hx hb (by decide) hown (hts _ kc_M_53) d_M_isSquare_28 ?_
      refine lv_lload hx hb d_M_isSquare_31 (lv_at hl 3 rfl) ?_
      refine wl_mul hx hb d_M_isSquare_33 ?_
      refine wl_add hx hb d_M_isSquare_34 ?_
      refine w_lconst (v := 1) hx hb rfl d_M_isSquare_35 ?_
      refine wl_add hx hb d_M_isSquare_36 ?_
      refine lv_lload_n hx hb d_M_isSquare_37 rfl (lv_at hl 1 rfl) ?_
      refine wl_rem hx hb ⟨by omega, by omega⟩ ⟨by omega, by omega⟩ (by omega) d_M_isSquare_38 ?_
      refine lv_topl (fun yy hyy => ?_)
      obtain rfl : yy = jl ((xx + 1) * (xx + 1) % p) := hyy.trans (congrArg jl (by rw [i3]; exact sqr_s (by omega) i1))
      refine lv_lstore (lv' := [(4, .long (jl ((xx + 1) * (xx + 1) % p))), (0, .long (jl (v))), (2, .long (jl (p))), (6, .long (jl (xx)))]) hx hb d_M_isSquare_39 hl (by decide) rfl (fun ls hl => ?_)
      refine lv_lload hx hb d_M_isSquare_41 (lv_at hl 3 rfl) ?_
      refine w_lconst (v := 1) hx hb rfl d_M_isSquare_43 ?_
      refine wl_add hx hb d_M_isSquare_44 ?_
      refine lv_lstore (lv' := [(6, .long (jl ((xx) + (1)))), (4, .long (jl ((xx + 1) * (xx + 1) % p))), (0, .long (jl (v))), (2, .long (jl (p)))]) hx hb d_M_isSquare_45 hl (by decide) rfl (fun ls hl => ?_)
      refine lv_goto (tgt := 6) hx hb d_M_isSquare_47 (by decide) ?_
      exact ih _ _ _ _ (by omega) ⟨(xx + 1) * (xx + 1) % p, xx + 1, rfl, ⟨by omega, by omega, rfl, fun j z1 z2 => by rcases Int.lt_or_le j xx with y | y; exact i4 j z1 y; (have e : j = xx := by omega); rw [e]; exact fun z => hne ((i3).trans ((sqr_e (by omega) h2).mpr z))⟩, hP, hD, hS, lv_sub hl [2, 3, 1, 0] rfl⟩
    · refine w_iconst hx hb d_M_isSquare_24 ?_
      exact rt_z X hAe hS () rfl ⟨1, rfl, Or.inl ⟨rfl, xx, by omega, by omega, (sqr_e (by omega) h2).mp (by omega)⟩⟩ hP d_M_isSquare_25

set_option maxHeartbeats 4000000 in
set_option maxRecDepth 100000 in
theorem c_M_freeOfP (l : Launch) (D : va_G) (cI cJ cF : ClassId) {m0 mf mm ml mp : Nat} {co Dd w np : Int} {a b c n : Int} (h1 : jL a) (h2 : jL c) (h3 : a ≠ -9223372036854775808) (h4 : c ≠ -9223372036854775808) (hn0 : n ≠ 0) (hn1 : jL n) (hn2 : n ≠ -9223372036854775808) (hex : Int.gcd a n = 1 ∨ Int.gcd c n = 1) : ∀ sz, Met l y_M_freeOf (Cond.code y_M_freeOf b_M_freeOf 13 none :: wb) { frames := 2, cells := 0, slots := 0, locals := 50 } (va_Pc [.ref m0, .long (jl (n))] (cpre D cI cJ cF [(m0, .inr (5, [.int (ji (co)), .long (jl (Dd)), .long (jl (w)), .ref mf, .ref mm, .ref ml, .long (jl (a)), .long (jl (b)), .long (jl (c)), .int (ji (np)), .ref mp]))] sz)) (va_Qv (fun (u : fm_F) => u.1 = if Int.gcd a n = 1 then a else c) (fun (u : fm_F) tS => va_P D classes [(m0, .inr (5, [.int (ji (co)), .long (jl (Dd)), .long (jl (w)), .ref mf, .ref mm, .ref ml, .long (jl (u.1)), .long (jl (u.2.1)), .long (jl (u.2.2)), .int (ji (np)), .ref mp]))] tS.heap) (va_A [(m0, .inr (5, [.int (ji (co)), .long (jl (Dd)), .long (jl (w)), .ref mf, .ref mm, .ref ml, .long (jl (a)), .long (jl (b)), .long (jl (c)), .int (ji (np)), .ref mp]))] sz)) 0 0 (va_A [(m0, .inr (5, [.int (ji (co)), .long (jl (Dd)), .long (jl (w)), .ref mf, .ref mm, .ref ml, .long (jl (a)), .long (jl (b)), .long (jl (c)), .int (ji (np)), .ref mp]))] sz) := by
  refine c_of (Qc := fun sz => va_Qv (fun (u : fm_F) => u.1 = if Int.gcd a n = 1 then a else c) (fun (u : fm_F) tS => va_P D classes [(m0, .inr (5, [.int (ji (co)), .long (jl (Dd)), .long (jl (w)), .ref mf, .ref mm, .ref ml, .long (jl (u.1)), .long (jl (u.2.1)), .long (jl (u.2.2)), .int (ji (np)), .ref mp]))] tS.heap) (va_A [(m0, .inr (5, [.int (ji (co)), .long (jl (Dd)), .long (jl (w)), .ref mf, .ref mm, .ref ml, .long (jl (a)), .long (jl (b)), .long (jl (c)), .int (ji (np)), .ref mp]))] sz)) (by decide +kernel) co_M_freeOf (Nat.le_of_ble_eq_true rfl) ?_
  intro pq eq s mq below meth cq A X hK hP hD hS hA hAe ls hl
  obtain ⟨hx, hb, hml, hown, hr, hlocks, hts⟩ := id X
  have hl : lv_has ls 13 [(0, .ref m0), (1, .long (jl (n)))] := hl
  refine lv_aload_n hx hb d_M_freeOf_0 rfl (lv_at hl 0 rfl) ?_
  refine va_get (D := D) (ci := 5) (v := .long (jl (a))) (C := R_M) (T := T_M) (N := 11) hx hb hts uw_M hown hK.1 hP 0 rfl rfl 6 (by decide) (hts _ fl_M_73) (fun _ h9 => h9) rfl d_M_freeOf_1 ?_
  refine lv_lstore_n (lv' := [(3, .long (jl (a))), (0, .ref m0), (1, .long (jl (n)))]) hx hb d_M_freeOf_4 rfl hl (by decide) rfl (fun ls hl => ?_)
  refine lv_aload_n hx hb d_M_freeOf_5 rfl (lv_at hl 1 rfl) ?_
  refine va_get (D := D) (ci := 5) (v := .long (jl (b))) (C := R_M) (T := T_M) (N := 11) hx hb hts uw_M hown hK.1 hP 0 rfl rfl 7 (by decide) (hts _ fl_M_76) (fun _ h9 => h9) rfl d_M_freeOf_6 ?_
  refine lv_lstore (lv' := [(5, .long (jl (b))), (3, .long (jl (a))), (0, .ref m0), (1, .long (jl (n)))]) hx hb d_M_freeOf_9 hl (by decide) rfl (fun ls hl => ?_)
  refine lv_aload_n hx hb d_M_freeOf_11 rfl (lv_at hl 2 rfl) ?_
  refine va_get (D := D) (ci := 5) (v := .long (jl (c))) (C := R_M) (T := T_M) (N := 11) hx hb hts uw_M hown hK.1 hP 0 rfl rfl 8 (by decide) (hts _ fl_M_79) (fun _ h9 => h9) rfl d_M_freeOf_12 ?_
  refine lv_lstore (lv' := [(7, .long (jl (c))), (5, .long (jl (b))), (3, .long (jl (a))), (0, .ref m0), (1, .long (jl (n)))]) hx hb d_M_freeOf_15 hl (by decide) rfl (fun ls hl => ?_)
  refine w_lconst (v := 0) hx hb rfl d_M_freeOf_17 ?_
  refine lv_lstore (lv' := [(9, .long (jl (0))), (7, .long (jl (c))), (5, .long (jl (b))), (3, .long (jl (a))), (0, .ref m0), (1, .long (jl (n)))]) hx hb d_M_freeOf_18 hl (by decide) rfl (fun ls hl => ?_)
  refine lv_aload_n hx hb d_M_freeOf_20 rfl (lv_at hl 4 rfl) ?_
  refine va_get (D := D) (ci := 5) (v := .long (jl (a))) (C := R_M) (T := T_M) (N := 11) hx hb hts uw_M hown hK.1 hP 0 rfl rfl 6 (by decide) (hts _ fl_M_73) (fun _ h9 => h9) rfl d_M_freeOf_21 ?_
  refine lv_lload_n hx hb d_M_freeOf_24 rfl (lv_at hl 5 rfl) ?_
  refine cl_l (rn_S (wc := []) (As := [.long (jl (a)), .long (jl (n))]) (rest := []) X hK (c_M_common l D cI cJ cF h1 hn1 h3 hn2 _) co_M_common in_M ml_M_107 st_M_common 2 rfl (by decide +kernel) ⟨Nat.le_of_ble_eq_true rfl, Nat.le_of_ble_eq_true rfl⟩ hP hD [] rfl (by decide) hl.1 rfl (Nat.le_of_ble_eq_true rfl) d_M_freeOf_25 ⟨Nat.zero_le _, Nat.zero_le _⟩) hP hD hS hA [] rfl (by decide) (fun _ => rfl) (fun r_1 u_2 H locs hp hP hD hS => ?_)
  have hP : va_P D classes [(m0, .inr (5, [.int (ji (co)), .long (jl (Dd)), .long (jl (w)), .ref mf, .ref mm, .ref ml, .long (jl (a)), .long (jl (b)), .long (jl (c)), .int (ji (np)), .ref mp]))] H := hP
  have hD : va_D A [(m0, .inr (5, [.int (ji (co)), .long (jl (Dd)), .long (jl (w)), .ref mf, .ref mm, .ref ml, .long (jl (a)), .long (jl (b)), .long (jl (c)), .int (ji (np)), .ref mp]))] := hD
  obtain rfl : r_1 = jl ((Int.gcd (a) (n) : Nat)) := hp
  refine w_lconst (v := 1) hx hb rfl d_M_freeOf_28 ?_
  refine wl_ceq hx hb (gcd_jL _ hn0 hn1 hn2) ⟨by decide, by decide⟩ d_M_freeOf_29 d_M_freeOf_30 (tgt := 130) (by decide) (fun h_3 => ?_) (fun h_3 => ?_)
  · have hga : Int.gcd a n = 1 := by omega
    exact rt_v X hAe hS (a, b, c) (by dsimp only; first | rw [if_pos hga] | rw [if_neg hga]) hP d_M_freeOf_130
  · have hga : ¬ Int.gcd a n = 1 := by omega
    have hgc := hex.resolve_left hga
    refine lv_lload hx hb d_M_freeOf_33 (lv_at hl 0 rfl) ?_
    refine wl_neg hx hb d_M_freeOf_35 ?_
    refine lv_lstore (lv' := [(11, .long (jl (-(0)))), (9, .long (jl (0))), (7, .long (jl (c))), (5, .long (jl (b))), (3, .long (jl (a))), (0, .ref m0), (1, .long (jl (n)))]) hx hb d_M_freeOf_36 hl (by decide) rfl (fun ls hl => ?_)
    refine lv_lload hx hb d_M_freeOf_38 (lv_at hl 0 rfl) ?_
    refine lv_lload hx hb d_M_freeOf_40 (lv_at hl 1 rfl) ?_
    refine wl_cgt hx hb ⟨by omega, by omega⟩ ⟨by omega, by omega⟩ d_M_freeOf_42 d_M_freeOf_43 (tgt := 121) (by decide) (fun h_4 => ?_) (fun h_4 => ?_)
    · exfalso; omega
    · refine lv_aload_n hx hb d_M_freeOf_46 rfl (lv_at hl 5 rfl) ?_
      refine va_get (D := D) (ci := 5) (v := .long (jl (a))) (C := R_M) (T := T_M) (N := 11) hx hb hts uw_M hown hK.1 hP 0 rfl rfl 6 (by decide) (hts _ fl_M_73) (fun _ h9 => h9) rfl d_M_freeOf_47 ?_
      refine lv_lload_n hx hb d_M_freeOf_50 rfl (lv_at hl 6 rfl) ?_
      refine cl_l (rn_S (wc := []) (As := [.long (jl (a)), .long (jl (n))]) (rest := []) X hK (c_M_common l D cI cJ cF h1 hn1 h3 hn2 _) co_M_common in_M ml_M_107 st_M_common 2 rfl (by decide +kernel) ⟨Nat.le_of_ble_eq_true rfl, Nat.le_of_ble_eq_true rfl⟩ hP hD [] rfl (by decide) hl.1 rfl (Nat.le_of_ble_eq_true rfl) d_M_freeOf_51 ⟨Nat.zero_le _, Nat.zero_le _⟩) hP hD hS hA [] rfl (by decide) (fun _ => rfl) (fun r_5 u_6 H locs hp hP hD hS => ?_)
      have hP : va_P D classes [(m0, .inr (5, [.int (ji (co)), .long (jl (Dd)), .long (jl (w)), .ref mf, .ref mm, .ref ml, .long (jl (a)), .long (jl (b)), .long (jl (c)), .int (ji (np)), .ref mp]))] H := hP
      have hD : va_D A [(m0, .inr (5, [.int (ji (co)), .long (jl (Dd)), .long (jl (w)), .ref mf, .ref mm, .ref ml, .long (jl (a)), .long (jl (b)), .long (jl (c)), .int (ji (np)), .ref mp]))] := hD
      obtain rfl : r_5 = jl ((Int.gcd (a) (n) : Nat)) := hp
      refine w_lconst (v := 1) hx hb rfl d_M_freeOf_54 ?_
      refine wl_ceq hx hb (gcd_jL _ hn0 hn1 hn2) ⟨by decide, by decide⟩ d_M_freeOf_55 d_M_freeOf_56 (tgt := 121) (by decide) (fun h_7 => ?_) (fun h_7 => ?_)
      · exfalso; omega
      · refine lv_aload_n hx hb d_M_freeOf_59 rfl (lv_at hl 5 rfl) ?_
        refine lv_lload_n hx hb d_M_freeOf_60 rfl (lv_at hl 4 rfl) ?_
        refine va_put (D := D) (ci := 5) (v := .long (jl (a))) (ty := .long) (C := R_M) (T := T_M) (N := 11) hx hb hts uw_M ty_M ty_M_ok nm_M hown hK.1 hP hD hS 0 rfl rfl 6 (by decide) (hts _ fl_M_73) (fun _ h9 => h9) rfl (by decide +kernel) rfl rfl (Nat.le_of_ble_eq_true rfl) d_M_freeOf_61 (fun H locs hP hD hS => ?_)
        have hP : va_P D classes [(m0, .inr (5, [.int (ji (co)), .long (jl (Dd)), .long (jl (w)), .ref mf, .ref mm, .ref ml, .long (jl (a)), .long (jl (b)), .long (jl (c)), .int (ji (np)), .ref mp]))] H := hP
        have hD : va_D A [(m0, .inr (5, [.int (ji (co)), .long (jl (Dd)), .long (jl (w)), .ref mf, .ref mm, .ref ml, .long (jl (a)), .long (jl (b)), .long (jl (c)), .int (ji (np)), .ref mp]))] := hD
        refine lv_aload_n hx hb d_M_freeOf_64 rfl (lv_at hl 5 rfl) ?_
        refine lv_lload hx hb d_M_freeOf_65 (lv_at hl 3 rfl) ?_
        refine va_put (D := D) (ci := 5) (v := .long (jl (b))) (ty := .long) (C := R_M) (T := T_M) (N := 11) hx hb hts uw_M ty_M ty_M_ok nm_M hown hK.1 hP hD hS 0 rfl rfl 7 (by decide) (hts _ fl_M_76) (fun _ h9 => h9) rfl (by decide +kernel) rfl rfl (Nat.le_of_ble_eq_true rfl) d_M_freeOf_67 (fun H locs hP hD hS => ?_)
        have hP : va_P D classes [(m0, .inr (5, [.int (ji (co)), .long (jl (Dd)), .long (jl (w)), .ref mf, .ref mm, .ref ml, .long (jl (a)), .long (jl (b)), .long (jl (c)), .int (ji (np)), .ref mp]))] H := hP
        have hD : va_D A [(m0, .inr (5, [.int (ji (co)), .long (jl (Dd)), .long (jl (w)), .ref mf, .ref mm, .ref ml, .long (jl (a)), .long (jl (b)), .long (jl (c)), .int (ji (np)), .ref mp]))] := hD
        refine lv_aload_n hx hb d_M_freeOf_70 rfl (lv_at hl 5 rfl) ?_
        refine lv_lload hx hb d_M_freeOf_71 (lv_at hl 2 rfl) ?_
        refine va_put (D := D) (ci := 5) (v := .long (jl (c))) (ty := .long) (C := R_M) (T := T_M) (N := 11) hx hb hts uw_M ty_M ty_M_ok nm_M hown hK.1 hP hD hS 0 rfl rfl 8 (by decide) (hts _ fl_M_79) (fun _ h9 => h9) rfl (by decide +kernel) rfl rfl (Nat.le_of_ble_eq_true rfl) d_M_freeOf_73 (fun H locs hP hD hS => ?_)
        have hP : va_P D classes [(m0, .inr (5, [.int (ji (co)), .long (jl (Dd)), .long (jl (w)), .ref mf, .ref mm, .ref ml, .long (jl (a)), .long (jl (b)), .long (jl (c)), .int (ji (np)), .ref mp]))] H := hP
        have hD : va_D A [(m0, .inr (5, [.int (ji (co)), .long (jl (Dd)), .long (jl (w)), .ref mf, .ref mm, .ref ml, .long (jl (a)), .long (jl (b)), .long (jl (c)), .int (ji (np)), .ref mp]))] := hD
        refine lv_aload_n hx hb d_M_freeOf_76 rfl (lv_at hl 5 rfl) ?_
        refine lv_lload hx hb d_M_freeOf_77 (lv_at hl 0 rfl) ?_
        refine cl_v (rn_V (wc := [(m0, .inr (5, [.int (ji (co)), .long (jl (Dd)), .long (jl (w)), .ref mf, .ref mm, .ref ml, .long (jl (a)), .long (jl (b)), .long (jl (c)), .int (ji (np)), .ref mp]))]) (As := [.long (jl (-(0)))]) (rest := []) X hK (c_M_slide l D cI cJ cF  _) co_M_slide in_M ml_M_110 im_M_slide se_M_slide 1 rfl (by decide +kernel) ⟨Nat.le_of_ble_eq_true rfl, Nat.le_of_ble_eq_true rfl⟩ hP hD [0] rfl (by decide) (q0 := 0) (ci := 5) rfl rfl rfl hl.1 rfl (Nat.le_of_ble_eq_true rfl) d_M_freeOf_79 ⟨Nat.zero_le _, Nat.zero_le _⟩) hP hD hS hA [0] rfl (by decide) (fun _ => rfl) (fun u_8 H locs hp hP hD hS => ?_)
        have hP : va_P D classes [(m0, .inr (5, [.int (ji (co)), .long (jl (Dd)), .long (jl (w)), .ref mf, .ref mm, .ref ml, .long (jl (a)), .long (jl ((b) + 2 * (a) * (-(0)))), .long (jl ((a) * (-(0)) * (-(0)) + (b) * (-(0)) + (c))), .int (ji (np)), .ref mp]))] H := hP
        have hD : va_D A [(m0, .inr (5, [.int (ji (co)), .long (jl (Dd)), .long (jl (w)), .ref mf, .ref mm, .ref ml, .long (jl (a)), .long (jl ((b) + 2 * (a) * (-(0)))), .long (jl ((a) * (-(0)) * (-(0)) + (b) * (-(0)) + (c))), .int (ji (np)), .ref mp]))] := hD
        have e0 : (a) * (-(0)) * (-(0)) + (b) * (-(0)) + (c) = c := by simp
        rw [e0] at hP hD
        refine lv_aload_n hx hb d_M_freeOf_82 rfl (lv_at hl 5 rfl) ?_
        refine cl_v (rn_V (wc := [(m0, .inr (5, [.int (ji (co)), .long (jl (Dd)), .long (jl (w)), .ref mf, .ref mm, .ref ml, .long (jl (a)), .long (jl ((b) + 2 * (a) * (-(0)))), .long (jl (c)), .int (ji (np)), .ref mp]))]) (As := []) (rest := []) X hK (c_M_turn l D cI cJ cF  _) co_M_turn in_M ml_M_113 im_M_turn se_M_turn 0 rfl (by decide +kernel) ⟨Nat.le_of_ble_eq_true rfl, Nat.le_of_ble_eq_true rfl⟩ hP hD [0] rfl (by decide) (q0 := 0) (ci := 5) rfl rfl rfl hl.1 rfl (Nat.le_of_ble_eq_true rfl) d_M_freeOf_83 ⟨Nat.zero_le _, Nat.zero_le _⟩) hP hD hS hA [0] rfl (by decide) (fun _ => rfl) (fun u_9 H locs hp hP hD hS => ?_)
        have hP : va_P D classes [(m0, .inr (5, [.int (ji (co)), .long (jl (Dd)), .long (jl (w)), .ref mf, .ref mm, .ref ml, .long (jl (c)), .long (jl (-((b) + 2 * (a) * (-(0))))), .long (jl (a)), .int (ji (np)), .ref mp]))] H := hP
        have hD : va_D A [(m0, .inr (5, [.int (ji (co)), .long (jl (Dd)), .long (jl (w)), .ref mf, .ref mm, .ref ml, .long (jl (c)), .long (jl (-((b) + 2 * (a) * (-(0))))), .long (jl (a)), .int (ji (np)), .ref mp]))] := hD
        refine lv_aload_n hx hb d_M_freeOf_86 rfl (lv_at hl 5 rfl) ?_
        refine va_get (D := D) (ci := 5) (v := .long (jl (c))) (C := R_M) (T := T_M) (N := 11) hx hb hts uw_M hown hK.1 hP 0 rfl rfl 6 (by decide) (hts _ fl_M_73) (fun _ h9 => h9) rfl d_M_freeOf_87 ?_
        refine lv_lload_n hx hb d_M_freeOf_90 rfl (lv_at hl 6 rfl) ?_
        refine cl_l (rn_S (wc := []) (As := [.long (jl (c)), .long (jl (n))]) (rest := []) X hK (c_M_common l D cI cJ cF h2 hn1 h4 hn2 _) co_M_common in_M ml_M_107 st_M_common 2 rfl (by decide +kernel) ⟨Nat.le_of_ble_eq_true rfl, Nat.le_of_ble_eq_true rfl⟩ hP hD [] rfl (by decide) hl.1 rfl (Nat.le_of_ble_eq_true rfl) d_M_freeOf_91 ⟨Nat.zero_le _, Nat.zero_le _⟩) hP hD hS hA [] rfl (by decide) (fun _ => rfl) (fun r_10 u_11 H locs hp hP hD hS => ?_)
        have hP : va_P D classes [(m0, .inr (5, [.int (ji (co)), .long (jl (Dd)), .long (jl (w)), .ref mf, .ref mm, .ref ml, .long (jl (c)), .long (jl (-((b) + 2 * (a) * (-(0))))), .long (jl (a)), .int (ji (np)), .ref mp]))] H := hP
        have hD : va_D A [(m0, .inr (5, [.int (ji (co)), .long (jl (Dd)), .long (jl (w)), .ref mf, .ref mm, .ref ml, .long (jl (c)), .long (jl (-((b) + 2 * (a) * (-(0))))), .long (jl (a)), .int (ji (np)), .ref mp]))] := hD
        obtain rfl : r_10 = jl ((Int.gcd (c) (n) : Nat)) := hp
        refine w_lconst (v := 1) hx hb rfl d_M_freeOf_94 ?_
        refine wl_cne hx hb (gcd_jL _ hn0 hn1 hn2) ⟨by decide, by decide⟩ d_M_freeOf_95 d_M_freeOf_96 (tgt := 102) (by decide) (fun h_12 => ?_) (fun h_12 => ?_)
        · exfalso; omega
        · refine lv_goto (tgt := 112) hx hb d_M_freeOf_99 (by decide) ?_
          refine lv_lload hx hb d_M_freeOf_112 (lv_at hl 0 rfl) ?_
          refine w_lconst (v := 1) hx hb rfl d_M_freeOf_114 ?_
          refine wl_add hx hb d_M_freeOf_115 ?_
          refine lv_lstore (lv' := [(11, .long (jl ((-(0)) + (1)))), (9, .long (jl (0))), (7, .long (jl (c))), (5, .long (jl (b))), (3, .long (jl (a))), (0, .ref m0), (1, .long (jl (n)))]) hx hb d_M_freeOf_116 hl (by decide) rfl (fun ls hl => ?_)
          refine lv_goto (tgt := 38) hx hb d_M_freeOf_118 (by decide) ?_
          refine lv_lload hx hb d_M_freeOf_38 (lv_at hl 0 rfl) ?_
          refine lv_lload hx hb d_M_freeOf_40 (lv_at hl 1 rfl) ?_
          refine wl_cgt hx hb ⟨by omega, by omega⟩ ⟨by omega, by omega⟩ d_M_freeOf_42 d_M_freeOf_43 (tgt := 121) (by decide) (fun h_13 => ?_) (fun h_13 => ?_)
          · refine lv_lload hx hb d_M_freeOf_121 (lv_at hl 1 rfl) ?_
            refine w_lconst (v := 1) hx hb rfl d_M_freeOf_123 ?_
            refine wl_add hx hb d_M_freeOf_124 ?_
            refine lv_lstore (lv' := [(9, .long (jl ((0) + (1)))), (11, .long (jl ((-(0)) + (1)))), (7, .long (jl (c))), (5, .long (jl (b))), (3, .long (jl (a))), (0, .ref m0), (1, .long (jl (n)))]) hx hb d_M_freeOf_125 hl (by decide) rfl (fun ls hl => ?_)
            refine lv_goto (tgt := 20) hx hb d_M_freeOf_127 (by decide) ?_
            refine lv_aload_n hx hb d_M_freeOf_20 rfl (lv_at hl 5 rfl) ?_
            refine va_get (D := D) (ci := 5) (v := .long (jl (c))) (C := R_M) (T := T_M) (N := 11) hx hb hts uw_M hown hK.1 hP 0 rfl rfl 6 (by decide) (hts _ fl_M_73) (fun _ h9 => h9) rfl d_M_freeOf_21 ?_
            refine lv_lload_n hx hb d_M_freeOf_24 rfl (lv_at hl 6 rfl) ?_
            refine cl_l (rn_S (wc := []) (As := [.long (jl (c)), .long (jl (n))]) (rest := []) X hK (c_M_common l D cI cJ cF h2 hn1 h4 hn2 _) co_M_common in_M ml_M_107 st_M_common 2 rfl (by decide +kernel) ⟨Nat.le_of_ble_eq_true rfl, Nat.le_of_ble_eq_true rfl⟩ hP hD [] rfl (by decide) hl.1 rfl (Nat.le_of_ble_eq_true rfl) d_M_freeOf_25 ⟨Nat.zero_le _, Nat.zero_le _⟩) hP hD hS hA [] rfl (by decide) (fun _ => rfl) (fun r_14 u_15 H locs hp hP hD hS => ?_)
            have hP : va_P D classes [(m0, .inr (5, [.int (ji (co)), .long (jl (Dd)), .long (jl (w)), .ref mf, .ref mm, .ref ml, .long (jl (c)), .long (jl (-((b) + 2 * (a) * (-(0))))), .long (jl (a)), .int (ji (np)), .ref mp]))] H := hP
            have hD : va_D A [(m0, .inr (5, [.int (ji (co)), .long (jl (Dd)), .long (jl (w)), .ref mf, .ref mm, .ref ml, .long (jl (c)), .long (jl (-((b) + 2 * (a) * (-(0))))), .long (jl (a)), .int (ji (np)), .ref mp]))] := hD
            obtain rfl : r_14 = jl ((Int.gcd (c) (n) : Nat)) := hp
            refine w_lconst (v := 1) hx hb rfl d_M_freeOf_28 ?_
            refine wl_ceq hx hb (gcd_jL _ hn0 hn1 hn2) ⟨by decide, by decide⟩ d_M_freeOf_29 d_M_freeOf_30 (tgt := 130) (by decide) (fun h_16 => ?_) (fun h_16 => ?_)
            · exact rt_v X hAe hS (c, -((b) + 2 * (a) * (-(0))), a) (by dsimp only; first | rw [if_pos hga] | rw [if_neg hga]) hP d_M_freeOf_130
            · exfalso; omega
          · exfalso; omega

set_option maxHeartbeats 4000000 in
set_option maxRecDepth 100000 in
theorem c_M_begin (l : Launch) (D : va_G) (cI cJ cF : ClassId) {m0 mf mm ml mp : Nat} {co Dd w np : Int} {a b c e0 : Int} {F1 F2 F3 : Nat → Int} {PF : Nat → Int} (hdv : dV e0) : ∀ sz, Met l y_M_begin (Cond.code y_M_begin b_M_begin 7 none :: wb) { frames := 5, cells := 0, slots := 0, locals := 131 } (va_Pc [.ref m0, .long (jl (e0))] (cpre D cI cJ cF [(m0, .inr (5, [.int (ji (co)), .long (jl (Dd)), .long (jl (w)), .ref mf, .ref mm, .ref ml, .long (jl (a)), .long (jl (b)), .long (jl (c)), .int (ji (np)), .ref mp])), (mf, .inl (cJ, 8, .inr (.inl (fun j => jl ((F1) j))))), (mm, .inl (cJ, 8, .inr (.inl (fun j => jl ((F2) j))))), (ml, .inl (cJ, 8, .inr (.inl (fun j => jl ((F3) j))))), (mp, .inl (cJ, 8, .inr (.inl (fun j => jl ((PF) j)))))] sz)) (va_Qv (fun (u : Int × (List Nat × (Nat → Int)) × ((Nat → Int) × (Nat → Int) × (Nat → Int)) × fm_F) => gD e0 u.1 ∧ (oL e0.natAbs u.2.1.1 ∧ u.2.1.1.length ≤ 6 ∧ lH u.2.1.2 u.2.1.1) ∧ ∀ j : Nat, j < 8 → fm_nm e0 u.1 (u.2.2.1.1 j, u.2.2.1.2.1 j, u.2.2.1.2.2 j) (fm_one (e0 % 2) ((e0 - e0 % 2) / 4))) (fun (u : Int × (List Nat × (Nat → Int)) × ((Nat → Int) × (Nat → Int) × (Nat → Int)) × fm_F) tS => va_P D classes [(m0, .inr (5, [.int (ji (co)), .long (jl (e0)), .long (jl (u.1)), .ref mf, .ref mm, .ref ml, .long (jl (u.2.2.2.1)), .long (jl (u.2.2.2.2.1)), .long (jl (u.2.2.2.2.2)), .int (ji (u.2.1.1.length)), .ref mp])), (mf, .inl (cJ, 8, .inr (.inl (fun j => jl ((u.2.2.1.1) j))))), (mm, .inl (cJ, 8, .inr (.inl (fun j => jl ((u.2.2.1.2.1) j))))), (ml, .inl (cJ, 8, .inr (.inl (fun j => jl ((u.2.2.1.2.2) j))))), (mp, .inl (cJ, 8, .inr (.inl (fun j => jl ((u.2.1.2) j)))))] tS.heap) (va_A [(m0, .inr (5, [.int (ji (co)), .long (jl (Dd)), .long (jl (w)), .ref mf, .ref mm, .ref ml, .long (jl (a)), .long (jl (b)), .long (jl (c)), .int (ji (np)), .ref mp])), (mf, .inl (cJ, 8, .inr (.inl (fun j => jl ((F1) j))))), (mm, .inl (cJ, 8, .inr (.inl (fun j => jl ((F2) j))))), (ml, .inl (cJ, 8, .inr (.inl (fun j => jl ((F3) j))))), (mp, .inl (cJ, 8, .inr (.inl (fun j => jl ((PF) j)))))] sz)) 0 0 (va_A [(m0, .inr (5, [.int (ji (co)), .long (jl (Dd)), .long (jl (w)), .ref mf, .ref mm, .ref ml, .long (jl (a)), .long (jl (b)), .long (jl (c)), .int (ji (np)), .ref mp])), (mf, .inl (cJ, 8, .inr (.inl (fun j => jl ((F1) j))))), (mm, .inl (cJ, 8, .inr (.inl (fun j => jl ((F2) j))))), (ml, .inl (cJ, 8, .inr (.inl (fun j => jl ((F3) j))))), (mp, .inl (cJ, 8, .inr (.inl (fun j => jl ((PF) j)))))] sz) := by
  refine c_of (Qc := fun sz => va_Qv (fun (u : Int × (List Nat × (Nat → Int)) × ((Nat → Int) × (Nat → Int) × (Nat → Int)) × fm_F) => gD e0 u.1 ∧ (oL e0.natAbs u.2.1.1 ∧ u.2.1.1.length ≤ 6 ∧ lH u.2.1.2 u.2.1.1) ∧ ∀ j : Nat, j < 8 → fm_nm e0 u.1 (u.2.2.1.1 j, u.2.2.1.2.1 j, u.2.2.1.2.2 j) (fm_one (e0 % 2) ((e0 - e0 % 2) / 4))) (fun (u : Int × (List Nat × (Nat → Int)) × ((Nat → Int) × (Nat → Int) × (Nat → Int)) × fm_F) tS => va_P D classes [(m0, .inr (5, [.int (ji (co)), .long (jl (e0)), .long (jl (u.1)), .ref mf, .ref mm, .ref ml, .long (jl (u.2.2.2.1)), .long (jl (u.2.2.2.2.1)), .long (jl (u.2.2.2.2.2)), .int (ji (u.2.1.1.length)), .ref mp])), (mf, .inl (cJ, 8, .inr (.inl (fun j => jl ((u.2.2.1.1) j))))), (mm, .inl (cJ, 8, .inr (.inl (fun j => jl ((u.2.2.1.2.1) j))))), (ml, .inl (cJ, 8, .inr (.inl (fun j => jl ((u.2.2.1.2.2) j))))), (mp, .inl (cJ, 8, .inr (.inl (fun j => jl ((u.2.1.2) j)))))] tS.heap) (va_A [(m0, .inr (5, [.int (ji (co)), .long (jl (Dd)), .long (jl (w)), .ref mf, .ref mm, .ref ml, .long (jl (a)), .long (jl (b)), .long (jl (c)), .int (ji (np)), .ref mp])), (mf, .inl (cJ, 8, .inr (.inl (fun j => jl ((F1) j))))), (mm, .inl (cJ, 8, .inr (.inl (fun j => jl ((F2) j))))), (ml, .inl (cJ, 8, .inr (.inl (fun j => jl ((F3) j))))), (mp, .inl (cJ, 8, .inr (.inl (fun j => jl ((PF) j)))))] sz)) (by decide +kernel) co_M_begin (Nat.le_of_ble_eq_true rfl) ?_
  intro pq eq s mq below meth cq A X hK hP hD hS hA hAe ls hl
  obtain ⟨hx, hb, hml, hown, hr, hlocks, hts⟩ := id X
  have hl : lv_has ls 7 [(0, .ref m0), (1, .long (jl (e0)))] := hl
  have yd1 := hdv.1
  have yd2 := hdv.2.1
  have hsn := sn_of hdv.2.2.1
  have he0 : e0 ≠ 0 := fun z => hdv.2.2.2 0 (by omega)
  have hnz := ab_nat e0
  refine lv_aload_n hx hb d_M_begin_0 rfl (lv_at hl 0 rfl) ?_
  refine lv_lload_n hx hb d_M_begin_1 rfl (lv_at hl 1 rfl) ?_
  refine va_put (D := D) (ci := 5) (v := .long (jl (e0))) (ty := .long) (C := R_M) (T := T_M) (N := 11) hx hb hts uw_M ty_M ty_M_ok nm_M hown hK.1 hP hD hS 0 rfl rfl 1 (by decide) (hts _ fl_M_9) (fun _ h9 => h9) rfl (by decide +kernel) rfl rfl (Nat.le_of_ble_eq_true rfl) d_M_begin_2 (fun H locs hP hD hS => ?_)
  have hP : va_P D classes [(m0, .inr (5, [.int (ji (co)), .long (jl (e0)), .long (jl (w)), .ref mf, .ref mm, .ref ml, .long (jl (a)), .long (jl (b)), .long (jl (c)), .int (ji (np)), .ref mp])), (mf, .inl (cJ, 8, .inr (.inl (fun j => jl ((F1) j))))), (mm, .inl (cJ, 8, .inr (.inl (fun j => jl ((F2) j))))), (ml, .inl (cJ, 8, .inr (.inl (fun j => jl ((F3) j))))), (mp, .inl (cJ, 8, .inr (.inl (fun j => jl ((PF) j)))))] H := hP
  have hD : va_D A [(m0, .inr (5, [.int (ji (co)), .long (jl (e0)), .long (jl (w)), .ref mf, .ref mm, .ref ml, .long (jl (a)), .long (jl (b)), .long (jl (c)), .int (ji (np)), .ref mp])), (mf, .inl (cJ, 8, .inr (.inl (fun j => jl ((F1) j))))), (mm, .inl (cJ, 8, .inr (.inl (fun j => jl ((F2) j))))), (ml, .inl (cJ, 8, .inr (.inl (fun j => jl ((F3) j))))), (mp, .inl (cJ, 8, .inr (.inl (fun j => jl ((PF) j)))))] := hD
  refine lv_aload_n hx hb d_M_begin_5 rfl (lv_at hl 0 rfl) ?_
  refine lv_aload_n hx hb d_M_begin_6 rfl (lv_at hl 0 rfl) ?_
  refine va_get (D := D) (ci := 5) (v := .long (jl (e0))) (C := R_M) (T := T_M) (N := 11) hx hb hts uw_M hown hK.1 hP 0 rfl rfl 1 (by decide) (hts _ fl_M_9) (fun _ h9 => h9) rfl d_M_begin_7 ?_
  refine w_lconst (v := 0) hx hb rfl d_M_begin_10 ?_
  refine wl_cge hx hb ⟨by omega, by omega⟩ ⟨by decide, by decide⟩ d_M_begin_11 d_M_begin_12 (tgt := 21) (by decide) (fun h_1 => ?_) (fun h_1 => ?_)
  · refine lv_aload_n hx hb d_M_begin_21 rfl (lv_at hl 0 rfl) ?_
    refine va_get (D := D) (ci := 5) (v := .long (jl (e0))) (C := R_M) (T := T_M) (N := 11) hx hb hts uw_M hown hK.1 hP 0 rfl rfl 1 (by decide) (hts _ fl_M_9) (fun _ h9 => h9) rfl d_M_begin_22 ?_
    refine cl_l (rn_S (wc := []) (As := [.long (jl (e0))]) (rest := [.ref m0]) X hK (c_M_rootOf l D cI cJ cF (by omega) (by omega) _) co_M_rootOf in_M ml_M_45 st_M_rootOf 1 rfl (by decide +kernel) ⟨Nat.le_of_ble_eq_true rfl, Nat.le_of_ble_eq_true rfl⟩ hP hD [] rfl (by decide) hl.1 rfl (Nat.le_of_ble_eq_true rfl) d_M_begin_25 ⟨Nat.zero_le _, Nat.zero_le _⟩) hP hD hS hA [] rfl (by decide) (fun _ => rfl) (fun r_2 u_3 H locs hp hP hD hS => ?_)
    obtain ⟨ww, rfl, hw1, hw2, hw3, hw4⟩ := hp
    have hP : va_P D classes [(m0, .inr (5, [.int (ji (co)), .long (jl (e0)), .long (jl (w)), .ref mf, .ref mm, .ref ml, .long (jl (a)), .long (jl (b)), .long (jl (c)), .int (ji (np)), .ref mp])), (mf, .inl (cJ, 8, .inr (.inl (fun j => jl ((F1) j))))), (mm, .inl (cJ, 8, .inr (.inl (fun j => jl ((F2) j))))), (ml, .inl (cJ, 8, .inr (.inl (fun j => jl ((F3) j))))), (mp, .inl (cJ, 8, .inr (.inl (fun j => jl ((PF) j)))))] H := hP
    have hD : va_D A [(m0, .inr (5, [.int (ji (co)), .long (jl (e0)), .long (jl (w)), .ref mf, .ref mm, .ref ml, .long (jl (a)), .long (jl (b)), .long (jl (c)), .int (ji (np)), .ref mp])), (mf, .inl (cJ, 8, .inr (.inl (fun j => jl ((F1) j))))), (mm, .inl (cJ, 8, .inr (.inl (fun j => jl ((F2) j))))), (ml, .inl (cJ, 8, .inr (.inl (fun j => jl ((F3) j))))), (mp, .inl (cJ, 8, .inr (.inl (fun j => jl ((PF) j)))))] := hD
    have hgd : gD e0 ww := gD_of hdv (Or.inr ⟨hw1, beg_w yd2 hw1 hw3, hw3, hw4⟩)
    obtain ⟨wz, hwz⟩ : ∃ t : Int, ww = t := ⟨_, rfl⟩
    refine lv_topl (fun yy hyy => ?_)
    obtain rfl : yy = jl wz := hyy.trans (congrArg jl hwz)
    rw [hwz] at hgd
    refine va_put (D := D) (ci := 5) (v := .long (jl (wz))) (ty := .long) (C := R_M) (T := T_M) (N := 11) hx hb hts uw_M ty_M ty_M_ok nm_M hown hK.1 hP hD hS 0 rfl rfl 2 (by decide) (hts _ fl_M_17) (fun _ h9 => h9) rfl (by decide +kernel) rfl rfl (Nat.le_of_ble_eq_true rfl) d_M_begin_28 (fun H locs hP hD hS => ?_)
    have hP : va_P D classes [(m0, .inr (5, [.int (ji (co)), .long (jl (e0)), .long (jl (wz)), .ref mf, .ref mm, .ref ml, .long (jl (a)), .long (jl (b)), .long (jl (c)), .int (ji (np)), .ref mp])), (mf, .inl (cJ, 8, .inr (.inl (fun j => jl ((F1) j))))), (mm, .inl (cJ, 8, .inr (.inl (fun j => jl ((F2) j))))), (ml, .inl (cJ, 8, .inr (.inl (fun j => jl ((F3) j))))), (mp, .inl (cJ, 8, .inr (.inl (fun j => jl ((PF) j)))))] H := hP
    have hD : va_D A [(m0, .inr (5, [.int (ji (co)), .long (jl (e0)), .long (jl (wz)), .ref mf, .ref mm, .ref ml, .long (jl (a)), .long (jl (b)), .long (jl (c)), .int (ji (np)), .ref mp])), (mf, .inl (cJ, 8, .inr (.inl (fun j => jl ((F1) j))))), (mm, .inl (cJ, 8, .inr (.inl (fun j => jl ((F2) j))))), (ml, .inl (cJ, 8, .inr (.inl (fun j => jl ((F3) j))))), (mp, .inl (cJ, 8, .inr (.inl (fun j => jl ((PF) j)))))] := hD
    refine lv_aload_n hx hb d_M_begin_31 rfl (lv_at hl 0 rfl) ?_
    refine w_iconst hx hb d_M_begin_32 ?_
    refine va_put (D := D) (ci := 5) (v := .int (ji (0))) (ty := .int) (C := R_M) (T := T_M) (N := 11) hx hb hts uw_M ty_M ty_M_ok nm_M hown hK.1 hP hD hS 0 rfl rfl 9 (by decide) (hts _ fl_M_48) (fun _ h9 => h9) rfl (by decide +kernel) rfl rfl (Nat.le_of_ble_eq_true rfl) d_M_begin_33 (fun H locs hP hD hS => ?_)
    have hP : va_P D classes [(m0, .inr (5, [.int (ji (co)), .long (jl (e0)), .long (jl (wz)), .ref mf, .ref mm, .ref ml, .long (jl (a)), .long (jl (b)), .long (jl (c)), .int (ji (0)), .ref mp])), (mf, .inl (cJ, 8, .inr (.inl (fun j => jl ((F1) j))))), (mm, .inl (cJ, 8, .inr (.inl (fun j => jl ((F2) j))))), (ml, .inl (cJ, 8, .inr (.inl (fun j => jl ((F3) j))))), (mp, .inl (cJ, 8, .inr (.inl (fun j => jl ((PF) j)))))] H := hP
    have hD : va_D A [(m0, .inr (5, [.int (ji (co)), .long (jl (e0)), .long (jl (wz)), .ref mf, .ref mm, .ref ml, .long (jl (a)), .long (jl (b)), .long (jl (c)), .int (ji (0)), .ref mp])), (mf, .inl (cJ, 8, .inr (.inl (fun j => jl ((F1) j))))), (mm, .inl (cJ, 8, .inr (.inl (fun j => jl ((F2) j))))), (ml, .inl (cJ, 8, .inr (.inl (fun j => jl ((F3) j))))), (mp, .inl (cJ, 8, .inr (.inl (fun j => jl ((PF) j)))))] := hD
    refine lv_aload_n hx hb d_M_begin_36 rfl (lv_at hl 0 rfl) ?_
    refine va_get (D := D) (ci := 5) (v := .long (jl (e0))) (C := R_M) (T := T_M) (N := 11) hx hb hts uw_M hown hK.1 hP 0 rfl rfl 1 (by decide) (hts _ fl_M_9) (fun _ h9 => h9) rfl d_M_begin_37 ?_
    refine cl_l (rn_S (wc := []) (As := [.long (jl (e0))]) (rest := []) X hK (c_M_size l D cI cJ cF ⟨by omega, by omega⟩ _) co_M_size in_M ml_M_41 st_M_size 1 rfl (by decide +kernel) ⟨Nat.le_of_ble_eq_true rfl, Nat.le_of_ble_eq_true rfl⟩ hP hD [] rfl (by decide) hl.1 rfl (Nat.le_of_ble_eq_true rfl) d_M_begin_40 ⟨Nat.zero_le _, Nat.zero_le _⟩) hP hD hS hA [] rfl (by decide) (fun _ => rfl) (fun r_4 u_5 H locs hp hP hD hS => ?_)
    have hP : va_P D classes [(m0, .inr (5, [.int (ji (co)), .long (jl (e0)), .long (jl (wz)), .ref mf, .ref mm, .ref ml, .long (jl (a)), .long (jl (b)), .long (jl (c)), .int (ji (0)), .ref mp])), (mf, .inl (cJ, 8, .inr (.inl (fun j => jl ((F1) j))))), (mm, .inl (cJ, 8, .inr (.inl (fun j => jl ((F2) j))))), (ml, .inl (cJ, 8, .inr (.inl (fun j => jl ((F3) j))))), (mp, .inl (cJ, 8, .inr (.inl (fun j => jl ((PF) j)))))] H := hP
    have hD : va_D A [(m0, .inr (5, [.int (ji (co)), .long (jl (e0)), .long (jl (wz)), .ref mf, .ref mm, .ref ml, .long (jl (a)), .long (jl (b)), .long (jl (c)), .int (ji (0)), .ref mp])), (mf, .inl (cJ, 8, .inr (.inl (fun j => jl ((F1) j))))), (mm, .inl (cJ, 8, .inr (.inl (fun j => jl ((F2) j))))), (ml, .inl (cJ, 8, .inr (.inl (fun j => jl ((F3) j))))), (mp, .inl (cJ, 8, .inr (.inl (fun j => jl ((PF) j)))))] := hD
    obtain rfl : r_4 = jl (fm_ab (e0)) := hp
    refine lv_topl (fun yy hyy => ?_)
    obtain rfl : yy = jl ((e0.natAbs : Int)) := hyy.trans (congrArg jl hnz)
    refine lv_lstore_n (lv' := [(3, .long (jl ((e0.natAbs : Int)))), (0, .ref m0), (1, .long (jl (e0)))]) hx hb d_M_begin_43 rfl hl (by decide) rfl (fun ls hl => ?_)
    refine w_ldc2 (v := 3) (n := 3) hx hb (by decide) hown (hts _ kc_M_51) d_M_begin_44 ?_
    refine lv_lstore (lv' := [(5, .long (jl (3))), (3, .long (jl ((e0.natAbs : Int)))), (0, .ref m0), (1, .long (jl (e0)))]) hx hb d_M_begin_47 hl (by decide) rfl (fun ls hl => ?_)
    refine lpn (I := fun nlp H locs ls => ∃ (ol : List Nat) (P0 : Nat → Int) (pp : Nat) (rr : Nat), e0.natAbs + 4 - pp = nlp ∧ (oI e0.natAbs ol pp rr ∧ 3 ≤ pp ∧ lH P0 ol ∧ pp ≤ e0.natAbs + 3) ∧ va_P D classes [(m0, .inr (5, [.int (ji (co)), .long (jl (e0)), .long (jl (wz)), .ref mf, .ref mm, .ref ml, .long (jl (a)), .long (jl (b)), .long (jl (c)), .int (ji (ol.length)), .ref mp])), (mf, .inl (cJ, 8, .inr (.inl (fun j => jl ((F1) j))))), (mm, .inl (cJ, 8, .inr (.inl (fun j => jl ((F2) j))))), (ml, .inl (cJ, 8, .inr (.inl (fun j => jl ((F3) j))))), (mp, .inl (cJ, 8, .inr (.inl (fun j => jl ((P0) j)))))] H ∧ va_D A [(m0, .inr (5, [.int (ji (co)), .long (jl (e0)), .long (jl (wz)), .ref mf, .ref mm, .ref ml, .long (jl (a)), .long (jl (b)), .long (jl (c)), .int (ji (ol.length)), .ref mp])), (mf, .inl (cJ, 8, .inr (.inl (fun j => jl ((F1) j))))), (mm, .inl (cJ, 8, .inr (.inl (fun j => jl ((F2) j))))), (ml, .inl (cJ, 8, .inr (.inl (fun j => jl ((F3) j))))), (mp, .inl (cJ, 8, .inr (.inl (fun j => jl ((P0) j)))))] ∧ va_S A s.heap H locs ∧ lv_has ls 7 [(0, .ref m0), (1, .long (jl (e0))), (3, .long (jl (rr))), (5, .long (jl (pp)))]) ?_ _ _ _ _ ⟨[], PF, 3, e0.natAbs, rfl, ⟨oI_0' (by omega) (by omega), by decide, lH_0 _, by omega⟩, hP, hD, hS, lv_sub hl [2, 3, 1, 0] rfl⟩
    rintro nlp H locs ls ⟨ol, P0, pp, rr, rfl, hi, hP, hD, hS, hl⟩ ih
    have i60 : rr ≤ e0.natAbs := Nat.le_of_dvd (by omega) hi.1.2.2.2.1.1
    have i61 := hi.2.2.2
    refine lv_lload hx hb d_M_begin_49 (lv_at hl 3 rfl) ?_
    refine lv_lload_n hx hb d_M_begin_51 rfl (lv_at hl 2 rfl) ?_
    refine wl_cgt hx hb ⟨by omega, by omega⟩ ⟨by omega, by omega⟩ d_M_begin_52 d_M_begin_53 (tgt := 117) (by decide) (fun h_6 => ?_) (fun h_6 => ?_)
    · obtain ⟨i1, i3, i5, i8⟩ := hi
      have i6 : rr ≤ e0.natAbs := Nat.le_of_dvd (by omega) i1.2.2.2.1.1
      have i7 := i1.2.2.2.1.2
      have hoL := i1.one (fun q q1 q2 q3 => by have z1 := i1.2.2.1 q q1 q2 q3; have z2 := Nat.le_of_dvd i7 q3; omega)
      refine w_iconst hx hb d_M_begin_117 ?_
      refine lv_istore (lv' := [(5, .int (ji (0))), (0, .ref m0), (1, .long (jl (e0))), (3, .long (jl (rr)))]) hx hb d_M_begin_118 hl (by decide) rfl (fun ls hl => ?_)
      refine lpn (I := fun nlp H locs ls => ∃ (ix : Nat) (G1 : Nat → Int) (G2 : Nat → Int) (G3 : Nat → Int) (xa : Int) (xb : Int) (xc : Int), 8 - ix = nlp ∧ (ix ≤ 8 ∧ ∀ j : Nat, j < ix → fm_nm e0 wz (G1 j, G2 j, G3 j) (fm_one (e0 % 2) ((e0 - e0 % 2) / 4))) ∧ va_P D classes [(m0, .inr (5, [.int (ji (co)), .long (jl (e0)), .long (jl (wz)), .ref mf, .ref mm, .ref ml, .long (jl (xa)), .long (jl (xb)), .long (jl (xc)), .int (ji (ol.length)), .ref mp])), (mf, .inl (cJ, 8, .inr (.inl (fun j => jl ((G1) j))))), (mm, .inl (cJ, 8, .inr (.inl (fun j => jl ((G2) j))))), (ml, .inl (cJ, 8, .inr (.inl (fun j => jl ((G3) j))))), (mp, .inl (cJ, 8, .inr (.inl (fun j => jl ((P0) j)))))] H ∧ va_D A [(m0, .inr (5, [.int (ji (co)), .long (jl (e0)), .long (jl (wz)), .ref mf, .ref mm, .ref ml, .long (jl (xa)), .long (jl (xb)), .long (jl (xc)), .int (ji (ol.length)), .ref mp])), (mf, .inl (cJ, 8, .inr (.inl (fun j => jl ((G1) j))))), (mm, .inl (cJ, 8, .inr (.inl (fun j => jl ((G2) j))))), (ml, .inl (cJ, 8, .inr (.inl (fun j => jl ((G3) j))))), (mp, .inl (cJ, 8, .inr (.inl (fun j => jl ((P0) j)))))] ∧ va_S A s.heap H locs ∧ lv_has ls 7 [(0, .ref m0), (5, .int (ji (ix)))]) ?_ _ _ _ _ ⟨0, F1, F2, F3, a, b, c, rfl, ⟨by decide, fun j z => absurd z (by omega)⟩, hP, hD, hS, lv_sub hl [1, 0] rfl⟩
      rintro nlp H locs ls ⟨ix, G1, G2, G3, xa, xb, xc, rfl, hi, hP, hD, hS, hl⟩ ihr
      obtain ⟨k1, k2⟩ := hi
      refine lv_iload hx hb d_M_begin_120 (lv_at hl 1 rfl) ?_
      refine w_bipush hx hb rfl d_M_begin_122 ?_
      refine wi_cge hx hb ⟨by omega, by omega⟩ ⟨by decide, by decide⟩ d_M_begin_124 (tgt := 139) (by decide) (fun h_7 => ?_) (fun h_7 => ?_)
      · exact rt_v X hAe hS (wz, (ol, P0), (G1, G2, G3), (xa, xb, xc)) ⟨hgd, ⟨hoL, i1.2.2.2.2.2.1, i5⟩, fun j z => k2 j (by omega)⟩ hP d_M_begin_139
      · refine lv_aload_n hx hb d_M_begin_127 rfl (lv_at hl 0 rfl) ?_
        refine lv_iload hx hb d_M_begin_128 (lv_at hl 1 rfl) ?_
        refine cl_v (rn_V (wc := [(m0, .inr (5, [.int (ji (co)), .long (jl (e0)), .long (jl (wz)), .ref mf, .ref mm, .ref ml, .long (jl (xa)), .long (jl (xb)), .long (jl (xc)), .int (ji (ol.length)), .ref mp])), (mf, .inl (cJ, 8, .inr (.inl (fun j => jl ((G1) j))))), (mm, .inl (cJ, 8, .inr (.inl (fun j => jl ((G2) j))))), (ml, .inl (cJ, 8, .inr (.inl (fun j => jl ((G3) j)))))]) (As := [.int (ji (ix))]) (rest := []) X hK (c_M_keepOne l D cI cJ cF (by omega) (by omega) hgd hsn _) co_M_keepOne in_M ml_M_55 im_M_keepOne se_M_keepOne 1 rfl (by decide +kernel) ⟨Nat.le_of_ble_eq_true rfl, Nat.le_of_ble_eq_true rfl⟩ hP hD [0, 1, 2, 3] rfl (by decide) (q0 := 0) (ci := 5) rfl rfl rfl hl.1 rfl (Nat.le_of_ble_eq_true rfl) d_M_begin_130 ⟨Nat.zero_le _, Nat.zero_le _⟩) hP hD hS hA [0, 1, 2, 3] rfl (by decide) (fun _ => rfl) (fun u_8 H locs hp hP hD hS => ?_)
        have ho1 : fm_nm e0 wz (u_8) (fm_one (e0 % 2) ((e0 - e0 % 2) / 4)) := hp
        have hP : va_P D classes [(m0, .inr (5, [.int (ji (co)), .long (jl (e0)), .long (jl (wz)), .ref mf, .ref mm, .ref ml, .long (jl ((u_8).1)), .long (jl ((u_8).2.1)), .long (jl ((u_8).2.2)), .int (ji (ol.length)), .ref mp])), (mf, .inl (cJ, 8, .inr (.inl (fun j => jl ((fU (G1) (ix : Int).toNat ((u_8).1)) j))))), (mm, .inl (cJ, 8, .inr (.inl (fun j => jl ((fU (G2) (ix : Int).toNat ((u_8).2.1)) j))))), (ml, .inl (cJ, 8, .inr (.inl (fun j => jl ((fU (G3) (ix : Int).toNat ((u_8).2.2)) j))))), (mp, .inl (cJ, 8, .inr (.inl (fun j => jl ((P0) j)))))] H := hP
        have hD : va_D A [(m0, .inr (5, [.int (ji (co)), .long (jl (e0)), .long (jl (wz)), .ref mf, .ref mm, .ref ml, .long (jl ((u_8).1)), .long (jl ((u_8).2.1)), .long (jl ((u_8).2.2)), .int (ji (ol.length)), .ref mp])), (mf, .inl (cJ, 8, .inr (.inl (fun j => jl ((fU (G1) (ix : Int).toNat ((u_8).1)) j))))), (mm, .inl (cJ, 8, .inr (.inl (fun j => jl ((fU (G2) (ix : Int).toNat ((u_8).2.1)) j))))), (ml, .inl (cJ, 8, .inr (.inl (fun j => jl ((fU (G3) (ix : Int).toNat ((u_8).2.2)) j))))), (mp, .inl (cJ, 8, .inr (.inl (fun j => jl ((P0) j)))))] := hD
        refine lv_iinc (v := ji ((ix) + (1))) (lv' := [(5, .int (ji ((ix) + (1)))), (0, .ref m0)]) hx hb d_M_begin_133 hl (k := 1) rfl (ji_add _ _) (by decide) rfl (fun ls hl => ?_)
        refine lv_goto (tgt := 120) hx hb d_M_begin_136 (by decide) ?_
        exact ihr _ _ _ _ (by omega) ⟨ix + 1, fU (G1) (ix : Int).toNat ((u_8).1), fU (G2) (ix : Int).toNat ((u_8).2.1), fU (G3) (ix : Int).toNat ((u_8).2.2), (u_8).1, (u_8).2.1, (u_8).2.2, rfl, ⟨by omega, fun j z => by rcases Nat.lt_or_ge j ix with y | y; (rw [fU_ne _ _ (show j ≠ ((ix : Nat) : Int).toNat by omega), fU_ne _ _ (show j ≠ ((ix : Nat) : Int).toNat by omega), fU_ne _ _ (show j ≠ ((ix : Nat) : Int).toNat by omega)]; exact k2 j y); (have e : j = ((ix : Nat) : Int).toNat := by omega); rw [e, fU_self, fU_self, fU_self]; exact ho1⟩, hP, hD, hS, lv_sub hl [1, 0] rfl⟩
    · obtain ⟨i1, i3, i5, i8⟩ := hi
      have i6 : rr ≤ e0.natAbs := Nat.le_of_dvd (by omega) i1.2.2.2.1.1
      have i7 := i1.2.2.2.1.2
      refine lv_lload_n hx hb d_M_begin_56 rfl (lv_at hl 2 rfl) ?_
      refine lv_lload hx hb d_M_begin_57 (lv_at hl 3 rfl) ?_
      refine wl_rem hx hb ⟨by omega, by omega⟩ ⟨by omega, by omega⟩ (by omega) d_M_begin_59 ?_
      refine lv_topl (fun yy hyy => ?_)
      obtain rfl : yy = jl ((rr : Int) % (pp : Int)) := hyy.trans (congrArg jl (Int.tmod_eq_emod_of_nonneg (by omega)))
      refine w_lconst (v := 0) hx hb rfl d_M_begin_60 ?_
      refine wl_ceq hx hb ⟨by have := Int.emod_nonneg (rr : Int) (show (pp : Int) ≠ 0 by omega); omega, by have := Int.emod_lt_of_pos (rr : Int) (show 0 < (pp : Int) by omega); omega⟩ ⟨by decide, by decide⟩ d_M_begin_61 d_M_begin_62 (tgt := 68) (by decide) (fun h_9 => ?_) (fun h_9 => ?_)
      · have hdv1 : pp ∣ rr := np_md.mp (by omega)
        have hpp := i1.prime hdv1 i3
        have hlen := i1.few (Nat.le_of_dvd i7 hdv1)
        refine lv_aload_n hx hb d_M_begin_68 rfl (lv_at hl 0 rfl) ?_
        refine va_get (D := D) (ci := 5) (v := .ref mp) (C := R_M) (T := T_M) (N := 11) hx hb hts uw_M hown hK.1 hP 0 rfl rfl 10 (by decide) (hts _ fl_M_30) (fun _ h9 => h9) rfl d_M_begin_69 ?_
        refine lv_aload_n hx hb d_M_begin_72 rfl (lv_at hl 0 rfl) ?_
        refine va_get (D := D) (ci := 5) (v := .int (ji (ol.length))) (C := R_M) (T := T_M) (N := 11) hx hb hts uw_M hown hK.1 hP 0 rfl rfl 9 (by decide) (hts _ fl_M_48) (fun _ h9 => h9) rfl d_M_begin_73 ?_
        refine lv_lload hx hb d_M_begin_76 (lv_at hl 3 rfl) ?_
        refine w_last (F := P0) hx hb hK hP hD hS 4 rfl ⟨by omega, by omega, by omega⟩ d_M_begin_78 (fun H locs hP hD hS => ?_)
        have hP : va_P D classes [(m0, .inr (5, [.int (ji (co)), .long (jl (e0)), .long (jl (wz)), .ref mf, .ref mm, .ref ml, .long (jl (a)), .long (jl (b)), .long (jl (c)), .int (ji (ol.length)), .ref mp])), (mf, .inl (cJ, 8, .inr (.inl (fun j => jl ((F1) j))))), (mm, .inl (cJ, 8, .inr (.inl (fun j => jl ((F2) j))))), (ml, .inl (cJ, 8, .inr (.inl (fun j => jl ((F3) j))))), (mp, .inl (cJ, 8, .inr (.inl (fun j => jl ((fU (P0) (ol.length : Int).toNat (pp)) j)))))] H := hP
        have hD : va_D A [(m0, .inr (5, [.int (ji (co)), .long (jl (e0)), .long (jl (wz)), .ref mf, .ref mm, .ref ml, .long (jl (a)), .long (jl (b)), .long (jl (c)), .int (ji (ol.length)), .ref mp])), (mf, .inl (cJ, 8, .inr (.inl (fun j => jl ((F1) j))))), (mm, .inl (cJ, 8, .inr (.inl (fun j => jl ((F2) j))))), (ml, .inl (cJ, 8, .inr (.inl (fun j => jl ((F3) j))))), (mp, .inl (cJ, 8, .inr (.inl (fun j => jl ((fU (P0) (ol.length : Int).toNat (pp)) j)))))] := hD
        refine lv_aload_n hx hb d_M_begin_79 rfl (lv_at hl 0 rfl) ?_
        refine lv_dup hx hb d_M_begin_80 rfl ?_
        refine va_get (D := D) (ci := 5) (v := .int (ji (ol.length))) (C := R_M) (T := T_M) (N := 11) hx hb hts uw_M hown hK.1 hP 0 rfl rfl 9 (by decide) (hts _ fl_M_48) (fun _ h9 => h9) rfl d_M_begin_81 ?_
        refine w_iconst hx hb d_M_begin_84 ?_
        refine wi_add hx hb d_M_begin_85 ?_
        refine va_put (D := D) (ci := 5) (v := .int (ji ((ol.length) + (1)))) (ty := .int) (C := R_M) (T := T_M) (N := 11) hx hb hts uw_M ty_M ty_M_ok nm_M hown hK.1 hP hD hS 0 rfl rfl 9 (by decide) (hts _ fl_M_48) (fun _ h9 => h9) rfl (by decide +kernel) rfl rfl (Nat.le_of_ble_eq_true rfl) d_M_begin_86 (fun H locs hP hD hS => ?_)
        have hP : va_P D classes [(m0, .inr (5, [.int (ji (co)), .long (jl (e0)), .long (jl (wz)), .ref mf, .ref mm, .ref ml, .long (jl (a)), .long (jl (b)), .long (jl (c)), .int (ji ((ol.length) + (1))), .ref mp])), (mf, .inl (cJ, 8, .inr (.inl (fun j => jl ((F1) j))))), (mm, .inl (cJ, 8, .inr (.inl (fun j => jl ((F2) j))))), (ml, .inl (cJ, 8, .inr (.inl (fun j => jl ((F3) j))))), (mp, .inl (cJ, 8, .inr (.inl (fun j => jl ((fU (P0) (ol.length : Int).toNat (pp)) j)))))] H := hP
        have hD : va_D A [(m0, .inr (5, [.int (ji (co)), .long (jl (e0)), .long (jl (wz)), .ref mf, .ref mm, .ref ml, .long (jl (a)), .long (jl (b)), .long (jl (c)), .int (ji ((ol.length) + (1))), .ref mp])), (mf, .inl (cJ, 8, .inr (.inl (fun j => jl ((F1) j))))), (mm, .inl (cJ, 8, .inr (.inl (fun j => jl ((F2) j))))), (ml, .inl (cJ, 8, .inr (.inl (fun j => jl ((F3) j))))), (mp, .inl (cJ, 8, .inr (.inl (fun j => jl ((fU (P0) (ol.length : Int).toNat (pp)) j)))))] := hD
        refine lpn (I := fun nlp H locs ls => ∃ (r2 : Nat), r2 = nlp ∧ (0 < r2 ∧ r2 ∣ rr ∧ ∀ q, fr_P q → q ≠ pp → q ∣ rr → q ∣ r2) ∧ va_P D classes [(m0, .inr (5, [.int (ji (co)), .long (jl (e0)), .long (jl (wz)), .ref mf, .ref mm, .ref ml, .long (jl (a)), .long (jl (b)), .long (jl (c)), .int (ji ((ol.length : Int) + 1)), .ref mp])), (mf, .inl (cJ, 8, .inr (.inl (fun j => jl ((F1) j))))), (mm, .inl (cJ, 8, .inr (.inl (fun j => jl ((F2) j))))), (ml, .inl (cJ, 8, .inr (.inl (fun j => jl ((F3) j))))), (mp, .inl (cJ, 8, .inr (.inl (fun j => jl ((fU (P0) (ol.length : Int).toNat (pp)) j)))))] H ∧ va_D A [(m0, .inr (5, [.int (ji (co)), .long (jl (e0)), .long (jl (wz)), .ref mf, .ref mm, .ref ml, .long (jl (a)), .long (jl (b)), .long (jl (c)), .int (ji ((ol.length : Int) + 1)), .ref mp])), (mf, .inl (cJ, 8, .inr (.inl (fun j => jl ((F1) j))))), (mm, .inl (cJ, 8, .inr (.inl (fun j => jl ((F2) j))))), (ml, .inl (cJ, 8, .inr (.inl (fun j => jl ((F3) j))))), (mp, .inl (cJ, 8, .inr (.inl (fun j => jl ((fU (P0) (ol.length : Int).toNat (pp)) j)))))] ∧ va_S A s.heap H locs ∧ lv_has ls 7 [(0, .ref m0), (1, .long (jl (e0))), (3, .long (jl (r2))), (5, .long (jl (pp)))]) ?_ _ _ _ _ ⟨rr, rfl, ⟨i7, Nat.dvd_refl _, fun _ _ _ z => z⟩, hP, hD, hS, lv_sub hl [0, 1, 2, 3] rfl⟩
        rintro nlp H locs ls ⟨r2, rfl, hi, hP, hD, hS, hl⟩ ihk
        obtain ⟨j1, j2, j3⟩ := hi
        have j4 : r2 ≤ rr := Nat.le_of_dvd i7 j2
        refine lv_lload_n hx hb d_M_begin_89 rfl (lv_at hl 2 rfl) ?_
        refine lv_lload hx hb d_M_begin_90 (lv_at hl 3 rfl) ?_
        refine wl_rem hx hb ⟨by omega, by omega⟩ ⟨by omega, by omega⟩ (by omega) d_M_begin_92 ?_
        refine lv_topl (fun yy hyy => ?_)
        obtain rfl : yy = jl ((r2 : Int) % (pp : Int)) := hyy.trans (congrArg jl (Int.tmod_eq_emod_of_nonneg (by omega)))
        refine w_lconst (v := 0) hx hb rfl d_M_begin_93 ?_
        refine wl_cne hx hb ⟨by have := Int.emod_nonneg (r2 : Int) (show (pp : Int) ≠ 0 by omega); omega, by have := Int.emod_lt_of_pos (r2 : Int) (show 0 < (pp : Int) by omega); omega⟩ ⟨by decide, by decide⟩ d_M_begin_94 d_M_begin_95 (tgt := 106) (by decide) (fun h_10 => ?_) (fun h_10 => ?_)
        · have hnd : ¬ pp ∣ r2 := fun z => h_10 (np_md.mpr z)
          have hwo : wo pp rr r2 := ⟨j1, j2, hnd, j3⟩
          refine lv_lload hx hb d_M_begin_106 (lv_at hl 3 rfl) ?_
          refine w_ldc2 (v := 2) (n := 2) hx hb (by decide) hown (hts _ kc_M_53) d_M_begin_108 ?_
          refine wl_add hx hb d_M_begin_111 ?_
          refine lv_lstore (lv' := [(5, .long (jl ((pp) + (2)))), (0, .ref m0), (1, .long (jl (e0))), (3, .long (jl (r2)))]) hx hb d_M_begin_112 hl (by decide) rfl (fun ls hl => ?_)
          refine lv_goto (tgt := 49) hx hb d_M_begin_114 (by decide) ?_
          have hP : va_P D classes [(m0, .inr (5, [.int (ji (co)), .long (jl (e0)), .long (jl (wz)), .ref mf, .ref mm, .ref ml, .long (jl (a)), .long (jl (b)), .long (jl (c)), .int (ji (((ol ++ [pp]).length : Nat))), .ref mp])), (mf, .inl (cJ, 8, .inr (.inl (fun j => jl ((F1) j))))), (mm, .inl (cJ, 8, .inr (.inl (fun j => jl ((F2) j))))), (ml, .inl (cJ, 8, .inr (.inl (fun j => jl ((F3) j))))), (mp, .inl (cJ, 8, .inr (.inl (fun j => jl ((fU (P0) (ol.length) (pp)) j)))))] H := by rw [List.length_append]; exact hP
          have hD : va_D A [(m0, .inr (5, [.int (ji (co)), .long (jl (e0)), .long (jl (wz)), .ref mf, .ref mm, .ref ml, .long (jl (a)), .long (jl (b)), .long (jl (c)), .int (ji (((ol ++ [pp]).length : Nat))), .ref mp])), (mf, .inl (cJ, 8, .inr (.inl (fun j => jl ((F1) j))))), (mm, .inl (cJ, 8, .inr (.inl (fun j => jl ((F2) j))))), (ml, .inl (cJ, 8, .inr (.inl (fun j => jl ((F3) j))))), (mp, .inl (cJ, 8, .inr (.inl (fun j => jl ((fU (P0) (ol.length) (pp)) j)))))] := by rw [List.length_append]; exact hD
          exact ih _ _ _ _ (by omega) ⟨ol ++ [pp], fU (P0) (ol.length) (pp), pp + 2, r2, rfl, ⟨i1.add hdv1 i3 hwo, by omega, lH_add i5 pp, by omega⟩, hP, hD, hS, lv_sub hl [1, 2, 3, 0] rfl⟩
        · have hdv2 : pp ∣ r2 := np_md.mp (by omega)
          obtain ⟨o1, o2, o3, o4⟩ := wo_step hpp j1 hdv2
          refine lv_lload_n hx hb d_M_begin_98 rfl (lv_at hl 2 rfl) ?_
          refine lv_lload hx hb d_M_begin_99 (lv_at hl 3 rfl) ?_
          refine wl_div hx hb ⟨by omega, by omega⟩ ⟨by omega, by omega⟩ (by omega) d_M_begin_101 ?_
          refine lv_topl (fun yy hyy => ?_)
          obtain rfl : yy = jl ((r2 / pp : Nat)) := hyy.trans (congrArg jl (show ((r2 : Int)).tdiv (pp : Int) = ((r2 / pp : Nat) : Int) by rw [Int.tdiv_eq_ediv_of_nonneg (by omega)]; rfl))
          refine lv_lstore_n (lv' := [(3, .long (jl ((r2 / pp : Nat)))), (0, .ref m0), (1, .long (jl (e0))), (5, .long (jl (pp)))]) hx hb d_M_begin_102 rfl hl (by decide) rfl (fun ls hl => ?_)
          refine lv_goto (tgt := 89) hx hb d_M_begin_103 (by decide) ?_
          exact ihk _ _ _ _ (by omega) ⟨r2 / pp, rfl, ⟨o1, Nat.dvd_trans o2 j2, fun q z1 z2 z3 => o4 q z1 z2 (j3 q z1 z2 z3)⟩, hP, hD, hS, lv_sub hl [1, 2, 0, 3] rfl⟩
      · have hnd : ¬ pp ∣ rr := fun z => h_9 (np_md.mpr z)
        refine lv_goto (tgt := 106) hx hb d_M_begin_65 (by decide) ?_
        refine lv_lload hx hb d_M_begin_106 (lv_at hl 3 rfl) ?_
        refine w_ldc2 (v := 2) (n := 2) hx hb (by decide) hown (hts _ kc_M_53) d_M_begin_108 ?_
        refine wl_add hx hb d_M_begin_111 ?_
        refine lv_lstore (lv' := [(5, .long (jl ((pp) + (2)))), (0, .ref m0), (1, .long (jl (e0))), (3, .long (jl (rr)))]) hx hb d_M_begin_112 hl (by decide) rfl (fun ls hl => ?_)
        refine lv_goto (tgt := 49) hx hb d_M_begin_114 (by decide) ?_
        exact ih _ _ _ _ (by omega) ⟨ol, P0, pp + 2, rr, rfl, ⟨i1.skip hnd, by omega, i5, by omega⟩, hP, hD, hS, lv_sub hl [1, 2, 3, 0] rfl⟩
  · refine w_ldc2 (v := -1) (n := -1) hx hb (by decide) hown (hts _ kc_M_15) d_M_begin_15 ?_
    refine lv_goto (tgt := 28) hx hb d_M_begin_18 (by decide) ?_
    have hgd : gD e0 (-1) := gD_of hdv (Or.inl ⟨by omega, rfl⟩)
    obtain ⟨wz, hwz⟩ : ∃ t : Int, -1 = t := ⟨_, rfl⟩
    refine lv_topl (fun yy hyy => ?_)
    obtain rfl : yy = jl wz := hyy.trans (congrArg jl hwz)
    rw [hwz] at hgd
    refine va_put (D := D) (ci := 5) (v := .long (jl (wz))) (ty := .long) (C := R_M) (T := T_M) (N := 11) hx hb hts uw_M ty_M ty_M_ok nm_M hown hK.1 hP hD hS 0 rfl rfl 2 (by decide) (hts _ fl_M_17) (fun _ h9 => h9) rfl (by decide +kernel) rfl rfl (Nat.le_of_ble_eq_true rfl) d_M_begin_28 (fun H locs hP hD hS => ?_)
    have hP : va_P D classes [(m0, .inr (5, [.int (ji (co)), .long (jl (e0)), .long (jl (wz)), .ref mf, .ref mm, .ref ml, .long (jl (a)), .long (jl (b)), .long (jl (c)), .int (ji (np)), .ref mp])), (mf, .inl (cJ, 8, .inr (.inl (fun j => jl ((F1) j))))), (mm, .inl (cJ, 8, .inr (.inl (fun j => jl ((F2) j))))), (ml, .inl (cJ, 8, .inr (.inl (fun j => jl ((F3) j))))), (mp, .inl (cJ, 8, .inr (.inl (fun j => jl ((PF) j)))))] H := hP
    have hD : va_D A [(m0, .inr (5, [.int (ji (co)), .long (jl (e0)), .long (jl (wz)), .ref mf, .ref mm, .ref ml, .long (jl (a)), .long (jl (b)), .long (jl (c)), .int (ji (np)), .ref mp])), (mf, .inl (cJ, 8, .inr (.inl (fun j => jl ((F1) j))))), (mm, .inl (cJ, 8, .inr (.inl (fun j => jl ((F2) j))))), (ml, .inl (cJ, 8, .inr (.inl (fun j => jl ((F3) j))))), (mp, .inl (cJ, 8, .inr (.inl (fun j => jl ((PF) j)))))] := hD
    refine lv_aload_n hx hb d_M_begin_31 rfl (lv_at hl 0 rfl) ?_
    refine w_iconst hx hb d_M_begin_32 ?_
    refine va_put (D := D) (ci := 5) (v := .int (ji (0))) (ty := .int) (C := R_M) (T := T_M) (N := 11) hx hb hts uw_M ty_M ty_M_ok nm_M hown hK.1 hP hD hS 0 rfl rfl 9 (by decide) (hts _ fl_M_48) (fun _ h9 => h9) rfl (by decide +kernel) rfl rfl (Nat.le_of_ble_eq_true rfl) d_M_begin_33 (fun H locs hP hD hS => ?_)
    have hP : va_P D classes [(m0, .inr (5, [.int (ji (co)), .long (jl (e0)), .long (jl (wz)), .ref mf, .ref mm, .ref ml, .long (jl (a)), .long (jl (b)), .long (jl (c)), .int (ji (0)), .ref mp])), (mf, .inl (cJ, 8, .inr (.inl (fun j => jl ((F1) j))))), (mm, .inl (cJ, 8, .inr (.inl (fun j => jl ((F2) j))))), (ml, .inl (cJ, 8, .inr (.inl (fun j => jl ((F3) j))))), (mp, .inl (cJ, 8, .inr (.inl (fun j => jl ((PF) j)))))] H := hP
    have hD : va_D A [(m0, .inr (5, [.int (ji (co)), .long (jl (e0)), .long (jl (wz)), .ref mf, .ref mm, .ref ml, .long (jl (a)), .long (jl (b)), .long (jl (c)), .int (ji (0)), .ref mp])), (mf, .inl (cJ, 8, .inr (.inl (fun j => jl ((F1) j))))), (mm, .inl (cJ, 8, .inr (.inl (fun j => jl ((F2) j))))), (ml, .inl (cJ, 8, .inr (.inl (fun j => jl ((F3) j))))), (mp, .inl (cJ, 8, .inr (.inl (fun j => jl ((PF) j)))))] := hD
    refine lv_aload_n hx hb d_M_begin_36 rfl (lv_at hl 0 rfl) ?_
    refine va_get (D := D) (ci := 5) (v := .long (jl (e0))) (C := R_M) (T := T_M) (N := 11) hx hb hts uw_M hown hK.1 hP 0 rfl rfl 1 (by decide) (hts _ fl_M_9) (fun _ h9 => h9) rfl d_M_begin_37 ?_
    refine cl_l (rn_S (wc := []) (As := [.long (jl (e0))]) (rest := []) X hK (c_M_size l D cI cJ cF ⟨by omega, by omega⟩ _) co_M_size in_M ml_M_41 st_M_size 1 rfl (by decide +kernel) ⟨Nat.le_of_ble_eq_true rfl, Nat.le_of_ble_eq_true rfl⟩ hP hD [] rfl (by decide) hl.1 rfl (Nat.le_of_ble_eq_true rfl) d_M_begin_40 ⟨Nat.zero_le _, Nat.zero_le _⟩) hP hD hS hA [] rfl (by decide) (fun _ => rfl) (fun r_11 u_12 H locs hp hP hD hS => ?_)
    have hP : va_P D classes [(m0, .inr (5, [.int (ji (co)), .long (jl (e0)), .long (jl (wz)), .ref mf, .ref mm, .ref ml, .long (jl (a)), .long (jl (b)), .long (jl (c)), .int (ji (0)), .ref mp])), (mf, .inl (cJ, 8, .inr (.inl (fun j => jl ((F1) j))))), (mm, .inl (cJ, 8, .inr (.inl (fun j => jl ((F2) j))))), (ml, .inl (cJ, 8, .inr (.inl (fun j => jl ((F3) j))))), (mp, .inl (cJ, 8, .inr (.inl (fun j => jl ((PF) j)))))] H := hP
    have hD : va_D A [(m0, .inr (5, [.int (ji (co)), .long (jl (e0)), .long (jl (wz)), .ref mf, .ref mm, .ref ml, .long (jl (a)), .long (jl (b)), .long (jl (c)), .int (ji (0)), .ref mp])), (mf, .inl (cJ, 8, .inr (.inl (fun j => jl ((F1) j))))), (mm, .inl (cJ, 8, .inr (.inl (fun j => jl ((F2) j))))), (ml, .inl (cJ, 8, .inr (.inl (fun j => jl ((F3) j))))), (mp, .inl (cJ, 8, .inr (.inl (fun j => jl ((PF) j)))))] := hD
    obtain rfl : r_11 = jl (fm_ab (e0)) := hp
    refine lv_topl (fun yy hyy => ?_)
    obtain rfl : yy = jl ((e0.natAbs : Int)) := hyy.trans (congrArg jl hnz)
    refine lv_lstore_n (lv' := [(3, .long (jl ((e0.natAbs : Int)))), (0, .ref m0), (1, .long (jl (e0)))]) hx hb d_M_begin_43 rfl hl (by decide) rfl (fun ls hl => ?_)
    refine w_ldc2 (v := 3) (n := 3) hx hb (by decide) hown (hts _ kc_M_51) d_M_begin_44 ?_
    refine lv_lstore (lv' := [(5, .long (jl (3))), (3, .long (jl ((e0.natAbs : Int)))), (0, .ref m0), (1, .long (jl (e0)))]) hx hb d_M_begin_47 hl (by decide) rfl (fun ls hl => ?_)
    refine lpn (I := fun nlp H locs ls => ∃ (ol : List Nat) (P0 : Nat → Int) (pp : Nat) (rr : Nat), e0.natAbs + 4 - pp = nlp ∧ (oI e0.natAbs ol pp rr ∧ 3 ≤ pp ∧ lH P0 ol ∧ pp ≤ e0.natAbs + 3) ∧ va_P D classes [(m0, .inr (5, [.int (ji (co)), .long (jl (e0)), .long (jl (wz)), .ref mf, .ref mm, .ref ml, .long (jl (a)), .long (jl (b)), .long (jl (c)), .int (ji (ol.length)), .ref mp])), (mf, .inl (cJ, 8, .inr (.inl (fun j => jl ((F1) j))))), (mm, .inl (cJ, 8, .inr (.inl (fun j => jl ((F2) j))))), (ml, .inl (cJ, 8, .inr (.inl (fun j => jl ((F3) j))))), (mp, .inl (cJ, 8, .inr (.inl (fun j => jl ((P0) j)))))] H ∧ va_D A [(m0, .inr (5, [.int (ji (co)), .long (jl (e0)), .long (jl (wz)), .ref mf, .ref mm, .ref ml, .long (jl (a)), .long (jl (b)), .long (jl (c)), .int (ji (ol.length)), .ref mp])), (mf, .inl (cJ, 8, .inr (.inl (fun j => jl ((F1) j))))), (mm, .inl (cJ, 8, .inr (.inl (fun j => jl ((F2) j))))), (ml, .inl (cJ, 8, .inr (.inl (fun j => jl ((F3) j))))), (mp, .inl (cJ, 8, .inr (.inl (fun j => jl ((P0) j)))))] ∧ va_S A s.heap H locs ∧ lv_has ls 7 [(0, .ref m0), (1, .long (jl (e0))), (3, .long (jl (rr))), (5, .long (jl (pp)))]) ?_ _ _ _ _ ⟨[], PF, 3, e0.natAbs, rfl, ⟨oI_0' (by omega) (by omega), by decide, lH_0 _, by omega⟩, hP, hD, hS, lv_sub hl [2, 3, 1, 0] rfl⟩
    rintro nlp H locs ls ⟨ol, P0, pp, rr, rfl, hi, hP, hD, hS, hl⟩ ih
    have i60 : rr ≤ e0.natAbs := Nat.le_of_dvd (by omega) hi.1.2.2.2.1.1
    have i61 := hi.2.2.2
    refine lv_lload hx hb d_M_begin_49 (lv_at hl 3 rfl) ?_
    refine lv_lload_n hx hb d_M_begin_51 rfl (lv_at hl 2 rfl) ?_
    refine wl_cgt hx hb ⟨by omega, by omega⟩ ⟨by omega, by omega⟩ d_M_begin_52 d_M_begin_53 (tgt := 117) (by decide) (fun h_13 => ?_) (fun h_13 => ?_)
    · obtain ⟨i1, i3, i5, i8⟩ := hi
      have i6 : rr ≤ e0.natAbs := Nat.le_of_dvd (by omega) i1.2.2.2.1.1
      have i7 := i1.2.2.2.1.2
      have hoL := i1.one (fun q q1 q2 q3 => by have z1 := i1.2.2.1 q q1 q2 q3; have z2 := Nat.le_of_dvd i7 q3; omega)
      refine w_iconst hx hb d_M_begin_117 ?_
      refine lv_istore (lv' := [(5, .int (ji (0))), (0, .ref m0), (1, .long (jl (e0))), (3, .long (jl (rr)))]) hx hb d_M_begin_118 hl (by decide) rfl (fun ls hl => ?_)
      refine lpn (I := fun nlp H locs ls => ∃ (ix : Nat) (G1 : Nat → Int) (G2 : Nat → Int) (G3 : Nat → Int) (xa : Int) (xb : Int) (xc : Int), 8 - ix = nlp ∧ (ix ≤ 8 ∧ ∀ j : Nat, j < ix → fm_nm e0 wz (G1 j, G2 j, G3 j) (fm_one (e0 % 2) ((e0 - e0 % 2) / 4))) ∧ va_P D classes [(m0, .inr (5, [.int (ji (co)), .long (jl (e0)), .long (jl (wz)), .ref mf, .ref mm, .ref ml, .long (jl (xa)), .long (jl (xb)), .long (jl (xc)), .int (ji (ol.length)), .ref mp])), (mf, .inl (cJ, 8, .inr (.inl (fun j => jl ((G1) j))))), (mm, .inl (cJ, 8, .inr (.inl (fun j => jl ((G2) j))))), (ml, .inl (cJ, 8, .inr (.inl (fun j => jl ((G3) j))))), (mp, .inl (cJ, 8, .inr (.inl (fun j => jl ((P0) j)))))] H ∧ va_D A [(m0, .inr (5, [.int (ji (co)), .long (jl (e0)), .long (jl (wz)), .ref mf, .ref mm, .ref ml, .long (jl (xa)), .long (jl (xb)), .long (jl (xc)), .int (ji (ol.length)), .ref mp])), (mf, .inl (cJ, 8, .inr (.inl (fun j => jl ((G1) j))))), (mm, .inl (cJ, 8, .inr (.inl (fun j => jl ((G2) j))))), (ml, .inl (cJ, 8, .inr (.inl (fun j => jl ((G3) j))))), (mp, .inl (cJ, 8, .inr (.inl (fun j => jl ((P0) j)))))] ∧ va_S A s.heap H locs ∧ lv_has ls 7 [(0, .ref m0), (5, .int (ji (ix)))]) ?_ _ _ _ _ ⟨0, F1, F2, F3, a, b, c, rfl, ⟨by decide, fun j z => absurd z (by omega)⟩, hP, hD, hS, lv_sub hl [1, 0] rfl⟩
      rintro nlp H locs ls ⟨ix, G1, G2, G3, xa, xb, xc, rfl, hi, hP, hD, hS, hl⟩ ihr
      obtain ⟨k1, k2⟩ := hi
      refine lv_iload hx hb d_M_begin_120 (lv_at hl 1 rfl) ?_
      refine w_bipush hx hb rfl d_M_begin_122 ?_
      refine wi_cge hx hb ⟨by omega, by omega⟩ ⟨by decide, by decide⟩ d_M_begin_124 (tgt := 139) (by decide) (fun h_14 => ?_) (fun h_14 => ?_)
      · exact rt_v X hAe hS (wz, (ol, P0), (G1, G2, G3), (xa, xb, xc)) ⟨hgd, ⟨hoL, i1.2.2.2.2.2.1, i5⟩, fun j z => k2 j (by omega)⟩ hP d_M_begin_139
      · refine lv_aload_n hx hb d_M_begin_127 rfl (lv_at hl 0 rfl) ?_
        refine lv_iload hx hb d_M_begin_128 (lv_at hl 1 rfl) ?_
        refine cl_v (rn_V (wc := [(m0, .inr (5, [.int (ji (co)), .long (jl (e0)), .long (jl (wz)), .ref mf, .ref mm, .ref ml, .long (jl (xa)), .long (jl (xb)), .long (jl (xc)), .int (ji (ol.length)), .ref mp])), (mf, .inl (cJ, 8, .inr (.inl (fun j => jl ((G1) j))))), (mm, .inl (cJ, 8, .inr (.inl (fun j => jl ((G2) j))))), (ml, .inl (cJ, 8, .inr (.inl (fun j => jl ((G3) j)))))]) (As := [.int (ji (ix))]) (rest := []) X hK (c_M_keepOne l D cI cJ cF (by omega) (by omega) hgd hsn _) co_M_keepOne in_M ml_M_55 im_M_keepOne se_M_keepOne 1 rfl (by decide +kernel) ⟨Nat.le_of_ble_eq_true rfl, Nat.le_of_ble_eq_true rfl⟩ hP hD [0, 1, 2, 3] rfl (by decide) (q0 := 0) (ci := 5) rfl rfl rfl hl.1 rfl (Nat.le_of_ble_eq_true rfl) d_M_begin_130 ⟨Nat.zero_le _, Nat.zero_le _⟩) hP hD hS hA [0, 1, 2, 3] rfl (by decide) (fun _ => rfl) (fun u_15 H locs hp hP hD hS => ?_)
        have ho1 : fm_nm e0 wz (u_15) (fm_one (e0 % 2) ((e0 - e0 % 2) / 4)) := hp
        have hP : va_P D classes [(m0, .inr (5, [.int (ji (co)), .long (jl (e0)), .long (jl (wz)), .ref mf, .ref mm, .ref ml, .long (jl ((u_15).1)), .long (jl ((u_15).2.1)), .long (jl ((u_15).2.2)), .int (ji (ol.length)), .ref mp])), (mf, .inl (cJ, 8, .inr (.inl (fun j => jl ((fU (G1) (ix : Int).toNat ((u_15).1)) j))))), (mm, .inl (cJ, 8, .inr (.inl (fun j => jl ((fU (G2) (ix : Int).toNat ((u_15).2.1)) j))))), (ml, .inl (cJ, 8, .inr (.inl (fun j => jl ((fU (G3) (ix : Int).toNat ((u_15).2.2)) j))))), (mp, .inl (cJ, 8, .inr (.inl (fun j => jl ((P0) j)))))] H := hP
        have hD : va_D A [(m0, .inr (5, [.int (ji (co)), .long (jl (e0)), .long (jl (wz)), .ref mf, .ref mm, .ref ml, .long (jl ((u_15).1)), .long (jl ((u_15).2.1)), .long (jl ((u_15).2.2)), .int (ji (ol.length)), .ref mp])), (mf, .inl (cJ, 8, .inr (.inl (fun j => jl ((fU (G1) (ix : Int).toNat ((u_15).1)) j))))), (mm, .inl (cJ, 8, .inr (.inl (fun j => jl ((fU (G2) (ix : Int).toNat ((u_15).2.1)) j))))), (ml, .inl (cJ, 8, .inr (.inl (fun j => jl ((fU (G3) (ix : Int).toNat ((u_15).2.2)) j))))), (mp, .inl (cJ, 8, .inr (.inl (fun j => jl ((P0) j)))))] := hD
        refine lv_iinc (v := ji ((ix) + (1))) (lv' := [(5, .int (ji ((ix) + (1)))), (0, .ref m0)]) hx hb d_M_begin_133 hl (k := 1) rfl (ji_add _ _) (by decide) rfl (fun ls hl => ?_)
        refine lv_goto (tgt := 120) hx hb d_M_begin_136 (by decide) ?_
        exact ihr _ _ _ _ (by omega) ⟨ix + 1, fU (G1) (ix : Int).toNat ((u_15).1), fU (G2) (ix : Int).toNat ((u_15).2.1), fU (G3) (ix : Int).toNat ((u_15).2.2), (u_15).1, (u_15).2.1, (u_15).2.2, rfl, ⟨by omega, fun j z => by rcases Nat.lt_or_ge j ix with y | y; (rw [fU_ne _ _ (show j ≠ ((ix : Nat) : Int).toNat by omega), fU_ne _ _ (show j ≠ ((ix : Nat) : Int).toNat by omega), fU_ne _ _ (show j ≠ ((ix : Nat) : Int).toNat by omega)]; exact k2 j y); (have e : j = ((ix : Nat) : Int).toNat := by omega); rw [e, fU_self, fU_self, fU_self]; exact ho1⟩, hP, hD, hS, lv_sub hl [1, 0] rfl⟩
    · obtain ⟨i1, i3, i5, i8⟩ := hi
      have i6 : rr ≤ e0.natAbs := Nat.le_of_dvd (by omega) i1.2.2.2.1.1
      have i7 := i1.2.2.2.1.2
      refine lv_lload_n hx hb d_M_begin_56 rfl (lv_at hl 2 rfl) ?_
      refine lv_lload hx hb d_M_begin_57 (lv_at hl 3 rfl) ?_
      refine wl_rem hx hb ⟨by omega, by omega⟩ ⟨by omega, by omega⟩ (by omega) d_M_begin_59 ?_
      refine lv_topl (fun yy hyy => ?_)
      obtain rfl : yy = jl ((rr : Int) % (pp : Int)) := hyy.trans (congrArg jl (Int.tmod_eq_emod_of_nonneg (by omega)))
      refine w_lconst (v := 0) hx hb rfl d_M_begin_60 ?_
      refine wl_ceq hx hb ⟨by have := Int.emod_nonneg (rr : Int) (show (pp : Int) ≠ 0 by omega); omega, by have := Int.emod_lt_of_pos (rr : Int) (show 0 < (pp : Int) by omega); omega⟩ ⟨by decide, by decide⟩ d_M_begin_61 d_M_begin_62 (tgt := 68) (by decide) (fun h_16 => ?_) (fun h_16 => ?_)
      · have hdv1 : pp ∣ rr := np_md.mp (by omega)
        have hpp := i1.prime hdv1 i3
        have hlen := i1.few (Nat.le_of_dvd i7 hdv1)
        refine lv_aload_n hx hb d_M_begin_68 rfl (lv_at hl 0 rfl) ?_
        refine va_get (D := D) (ci := 5) (v := .ref mp) (C := R_M) (T := T_M) (N := 11) hx hb hts uw_M hown hK.1 hP 0 rfl rfl 10 (by decide) (hts _ fl_M_30) (fun _ h9 => h9) rfl d_M_begin_69 ?_
        refine lv_aload_n hx hb d_M_begin_72 rfl (lv_at hl 0 rfl) ?_
        refine va_get (D := D) (ci := 5) (v := .int (ji (ol.length))) (C := R_M) (T := T_M) (N := 11) hx hb hts uw_M hown hK.1 hP 0 rfl rfl 9 (by decide) (hts _ fl_M_48) (fun _ h9 => h9) rfl d_M_begin_73 ?_
        refine lv_lload hx hb d_M_begin_76 (lv_at hl 3 rfl) ?_
        refine w_last (F := P0) hx hb hK hP hD hS 4 rfl ⟨by omega, by omega, by omega⟩ d_M_begin_78 (fun H locs hP hD hS => ?_)
        have hP : va_P D classes [(m0, .inr (5, [.int (ji (co)), .long (jl (e0)), .long (jl (wz)), .ref mf, .ref mm, .ref ml, .long (jl (a)), .long (jl (b)), .long (jl (c)), .int (ji (ol.length)), .ref mp])), (mf, .inl (cJ, 8, .inr (.inl (fun j => jl ((F1) j))))), (mm, .inl (cJ, 8, .inr (.inl (fun j => jl ((F2) j))))), (ml, .inl (cJ, 8, .inr (.inl (fun j => jl ((F3) j))))), (mp, .inl (cJ, 8, .inr (.inl (fun j => jl ((fU (P0) (ol.length : Int).toNat (pp)) j)))))] H := hP
        have hD : va_D A [(m0, .inr (5, [.int (ji (co)), .long (jl (e0)), .long (jl (wz)), .ref mf, .ref mm, .ref ml, .long (jl (a)), .long (jl (b)), .long (jl (c)), .int (ji (ol.length)), .ref mp])), (mf, .inl (cJ, 8, .inr (.inl (fun j => jl ((F1) j))))), (mm, .inl (cJ, 8, .inr (.inl (fun j => jl ((F2) j))))), (ml, .inl (cJ, 8, .inr (.inl (fun j => jl ((F3) j))))), (mp, .inl (cJ, 8, .inr (.inl (fun j => jl ((fU (P0) (ol.length : Int).toNat (pp)) j)))))] := hD
        refine lv_aload_n hx hb d_M_begin_79 rfl (lv_at hl 0 rfl) ?_
        refine lv_dup hx hb d_M_begin_80 rfl ?_
        refine va_get (D := D) (ci := 5) (v := .int (ji (ol.length))) (C := R_M) (T := T_M) (N := 11) hx hb hts uw_M hown hK.1 hP 0 rfl rfl 9 (by decide) (hts _ fl_M_48) (fun _ h9 => h9) rfl d_M_begin_81 ?_
        refine w_iconst hx hb d_M_begin_84 ?_
        refine wi_add hx hb d_M_begin_85 ?_
        refine va_put (D := D) (ci := 5) (v := .int (ji ((ol.length) + (1)))) (ty := .int) (C := R_M) (T := T_M) (N := 11) hx hb hts uw_M ty_M ty_M_ok nm_M hown hK.1 hP hD hS 0 rfl rfl 9 (by decide) (hts _ fl_M_48) (fun _ h9 => h9) rfl (by decide +kernel) rfl rfl (Nat.le_of_ble_eq_true rfl) d_M_begin_86 (fun H locs hP hD hS => ?_)
        have hP : va_P D classes [(m0, .inr (5, [.int (ji (co)), .long (jl (e0)), .long (jl (wz)), .ref mf, .ref mm, .ref ml, .long (jl (a)), .long (jl (b)), .long (jl (c)), .int (ji ((ol.length) + (1))), .ref mp])), (mf, .inl (cJ, 8, .inr (.inl (fun j => jl ((F1) j))))), (mm, .inl (cJ, 8, .inr (.inl (fun j => jl ((F2) j))))), (ml, .inl (cJ, 8, .inr (.inl (fun j => jl ((F3) j))))), (mp, .inl (cJ, 8, .inr (.inl (fun j => jl ((fU (P0) (ol.length : Int).toNat (pp)) j)))))] H := hP
        have hD : va_D A [(m0, .inr (5, [.int (ji (co)), .long (jl (e0)), .long (jl (wz)), .ref mf, .ref mm, .ref ml, .long (jl (a)), .long (jl (b)), .long (jl (c)), .int (ji ((ol.length) + (1))), .ref mp])), (mf, .inl (cJ, 8, .inr (.inl (fun j => jl ((F1) j))))), (mm, .inl (cJ, 8, .inr (.inl (fun j => jl ((F2) j))))), (ml, .inl (cJ, 8, .inr (.inl (fun j => jl ((F3) j))))), (mp, .inl (cJ, 8, .inr (.inl (fun j => jl ((fU (P0) (ol.length : Int).toNat (pp)) j)))))] := hD
        refine lpn (I := fun nlp H locs ls => ∃ (r2 : Nat), r2 = nlp ∧ (0 < r2 ∧ r2 ∣ rr ∧ ∀ q, fr_P q → q ≠ pp → q ∣ rr → q ∣ r2) ∧ va_P D classes [(m0, .inr (5, [.int (ji (co)), .long (jl (e0)), .long (jl (wz)), .ref mf, .ref mm, .ref ml, .long (jl (a)), .long (jl (b)), .long (jl (c)), .int (ji ((ol.length : Int) + 1)), .ref mp])), (mf, .inl (cJ, 8, .inr (.inl (fun j => jl ((F1) j))))), (mm, .inl (cJ, 8, .inr (.inl (fun j => jl ((F2) j))))), (ml, .inl (cJ, 8, .inr (.inl (fun j => jl ((F3) j))))), (mp, .inl (cJ, 8, .inr (.inl (fun j => jl ((fU (P0) (ol.length : Int).toNat (pp)) j)))))] H ∧ va_D A [(m0, .inr (5, [.int (ji (co)), .long (jl (e0)), .long (jl (wz)), .ref mf, .ref mm, .ref ml, .long (jl (a)), .long (jl (b)), .long (jl (c)), .int (ji ((ol.length : Int) + 1)), .ref mp])), (mf, .inl (cJ, 8, .inr (.inl (fun j => jl ((F1) j))))), (mm, .inl (cJ, 8, .inr (.inl (fun j => jl ((F2) j))))), (ml, .inl (cJ, 8, .inr (.inl (fun j => jl ((F3) j))))), (mp, .inl (cJ, 8, .inr (.inl (fun j => jl ((fU (P0) (ol.length : Int).toNat (pp)) j)))))] ∧ va_S A s.heap H locs ∧ lv_has ls 7 [(0, .ref m0), (1, .long (jl (e0))), (3, .long (jl (r2))), (5, .long (jl (pp)))]) ?_ _ _ _ _ ⟨rr, rfl, ⟨i7, Nat.dvd_refl _, fun _ _ _ z => z⟩, hP, hD, hS, lv_sub hl [0, 1, 2, 3] rfl⟩
        rintro nlp H locs ls ⟨r2, rfl, hi, hP, hD, hS, hl⟩ ihk
        obtain ⟨j1, j2, j3⟩ := hi
        have j4 : r2 ≤ rr := Nat.le_of_dvd i7 j2
        refine lv_lload_n hx hb d_M_begin_89 rfl (lv_at hl 2 rfl) ?_
        refine lv_lload hx hb d_M_begin_90 (lv_at hl 3 rfl) ?_
        refine wl_rem hx hb ⟨by omega, by omega⟩ ⟨by omega, by omega⟩ (by omega) d_M_begin_92 ?_
        refine lv_topl (fun yy hyy => ?_)
        obtain rfl : yy = jl ((r2 : Int) % (pp : Int)) := hyy.trans (congrArg jl (Int.tmod_eq_emod_of_nonneg (by omega)))
        refine w_lconst (v := 0) hx hb rfl d_M_begin_93 ?_
        refine wl_cne hx hb ⟨by have := Int.emod_nonneg (r2 : Int) (show (pp : Int) ≠ 0 by omega); omega, by have := Int.emod_lt_of_pos (r2 : Int) (show 0 < (pp : Int) by omega); omega⟩ ⟨by decide, by decide⟩ d_M_begin_94 d_M_begin_95 (tgt := 106) (by decide) (fun h_17 => ?_) (fun h_17 => ?_)
        · have hnd : ¬ pp ∣ r2 := fun z => h_17 (np_md.mpr z)
          have hwo : wo pp rr r2 := ⟨j1, j2, hnd, j3⟩
          refine lv_lload hx hb d_M_begin_106 (lv_at hl 3 rfl) ?_
          refine w_ldc2 (v := 2) (n := 2) hx hb (by decide) hown (hts _ kc_M_53) d_M_begin_108 ?_
          refine wl_add hx hb d_M_begin_111 ?_
          refine lv_lstore (lv' := [(5, .long (jl ((pp) + (2)))), (0, .ref m0), (1, .long (jl (e0))), (3, .long (jl (r2)))]) hx hb d_M_begin_112 hl (by decide) rfl (fun ls hl => ?_)
          refine lv_goto (tgt := 49) hx hb d_M_begin_114 (by decide) ?_
          have hP : va_P D classes [(m0, .inr (5, [.int (ji (co)), .long (jl (e0)), .long (jl (wz)), .ref mf, .ref mm, .ref ml, .long (jl (a)), .long (jl (b)), .long (jl (c)), .int (ji (((ol ++ [pp]).length : Nat))), .ref mp])), (mf, .inl (cJ, 8, .inr (.inl (fun j => jl ((F1) j))))), (mm, .inl (cJ, 8, .inr (.inl (fun j => jl ((F2) j))))), (ml, .inl (cJ, 8, .inr (.inl (fun j => jl ((F3) j))))), (mp, .inl (cJ, 8, .inr (.inl (fun j => jl ((fU (P0) (ol.length) (pp)) j)))))] H := by rw [List.length_append]; exact hP
          have hD : va_D A [(m0, .inr (5, [.int (ji (co)), .long (jl (e0)), .long (jl (wz)), .ref mf, .ref mm, .ref ml, .long (jl (a)), .long (jl (b)), .long (jl (c)), .int (ji (((ol ++ [pp]).length : Nat))), .ref mp])), (mf, .inl (cJ, 8, .inr (.inl (fun j => jl ((F1) j))))), (mm, .inl (cJ, 8, .inr (.inl (fun j => jl ((F2) j))))), (ml, .inl (cJ, 8, .inr (.inl (fun j => jl ((F3) j))))), (mp, .inl (cJ, 8, .inr (.inl (fun j => jl ((fU (P0) (ol.length) (pp)) j)))))] := by rw [List.length_append]; exact hD
          exact ih _ _ _ _ (by omega) ⟨ol ++ [pp], fU (P0) (ol.length) (pp), pp + 2, r2, rfl, ⟨i1.add hdv1 i3 hwo, by omega, lH_add i5 pp, by omega⟩, hP, hD, hS, lv_sub hl [1, 2, 3, 0] rfl⟩
        · have hdv2 : pp ∣ r2 := np_md.mp (by omega)
          obtain ⟨o1, o2, o3, o4⟩ := wo_step hpp j1 hdv2
          refine lv_lload_n hx hb d_M_begin_98 rfl (lv_at hl 2 rfl) ?_
          refine lv_lload hx hb d_M_begin_99 (lv_at hl 3 rfl) ?_
          refine wl_div hx hb ⟨by omega, by omega⟩ ⟨by omega, by omega⟩ (by omega) d_M_begin_101 ?_
          refine lv_topl (fun yy hyy => ?_)
          obtain rfl : yy = jl ((r2 / pp : Nat)) := hyy.trans (congrArg jl (show ((r2 : Int)).tdiv (pp : Int) = ((r2 / pp : Nat) : Int) by rw [Int.tdiv_eq_ediv_of_nonneg (by omega)]; rfl))
          refine lv_lstore_n (lv' := [(3, .long (jl ((r2 / pp : Nat)))), (0, .ref m0), (1, .long (jl (e0))), (5, .long (jl (pp)))]) hx hb d_M_begin_102 rfl hl (by decide) rfl (fun ls hl => ?_)
          refine lv_goto (tgt := 89) hx hb d_M_begin_103 (by decide) ?_
          exact ihk _ _ _ _ (by omega) ⟨r2 / pp, rfl, ⟨o1, Nat.dvd_trans o2 j2, fun q z1 z2 z3 => o4 q z1 z2 (j3 q z1 z2 z3)⟩, hP, hD, hS, lv_sub hl [1, 2, 0, 3] rfl⟩
      · have hnd : ¬ pp ∣ rr := fun z => h_16 (np_md.mpr z)
        refine lv_goto (tgt := 106) hx hb d_M_begin_65 (by decide) ?_
        refine lv_lload hx hb d_M_begin_106 (lv_at hl 3 rfl) ?_
        refine w_ldc2 (v := 2) (n := 2) hx hb (by decide) hown (hts _ kc_M_53) d_M_begin_108 ?_
        refine wl_add hx hb d_M_begin_111 ?_
        refine lv_lstore (lv' := [(5, .long (jl ((pp) + (2)))), (0, .ref m0), (1, .long (jl (e0))), (3, .long (jl (rr)))]) hx hb d_M_begin_112 hl (by decide) rfl (fun ls hl => ?_)
        refine lv_goto (tgt := 49) hx hb d_M_begin_114 (by decide) ?_
        exact ih _ _ _ _ (by omega) ⟨ol, P0, pp + 2, rr, rfl, ⟨i1.skip hnd, by omega, i5, by omega⟩, hP, hD, hS, lv_sub hl [1, 2, 3, 0] rfl⟩
