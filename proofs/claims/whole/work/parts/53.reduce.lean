set_option maxHeartbeats 4000000 in
set_option maxRecDepth 100000 in
theorem c_G_isReducedAbove (l : Launch) (D : va_G) (cI cJ cF : ClassId) {g o wk st bs eu : Nat} {Dd w : Int} {f : Nat} {a b c : Int} (hg : gD Dd w) (ha : b30 a) (hb0 : b30 b) : ∀ sz, Met l y_G_isReducedAbove (Cond.code y_G_isReducedAbove b_G_isReducedAbove 4 (some .boolean) :: wb) { frames := 1, cells := 0, slots := 0, locals := 20 } (va_Pc [.ref g, .ref f] (cpre D cI cJ cF [(g, .inr (2, [.ref o, .ref wk, .ref st, .ref bs, .ref eu, .int (ji (Dd)), .int (ji (w))])), (f, .inr (1, [.long (jl (a)), .long (jl (b)), .long (jl (c))]))] sz)) (va_Qi (fun r (u : Unit) => ∃ t : Int, r = ji t ∧ ((t = 1 ∧ (0 < b ∧ b ≤ w ∧ w < 2 * fm_ab a + b ∧ 2 * fm_ab a - b ≤ w)) ∨ (t = 0 ∧ ¬ (0 < b ∧ b ≤ w ∧ w < 2 * fm_ab a + b ∧ 2 * fm_ab a - b ≤ w)))) (fun (u : Unit) t => va_P D classes [(g, .inr (2, [.ref o, .ref wk, .ref st, .ref bs, .ref eu, .int (ji (Dd)), .int (ji (w))])), (f, .inr (1, [.long (jl (a)), .long (jl (b)), .long (jl (c))]))] t.heap) (va_A [(g, .inr (2, [.ref o, .ref wk, .ref st, .ref bs, .ref eu, .int (ji (Dd)), .int (ji (w))])), (f, .inr (1, [.long (jl (a)), .long (jl (b)), .long (jl (c))]))] sz)) 0 0 (va_A [(g, .inr (2, [.ref o, .ref wk, .ref st, .ref bs, .ref eu, .int (ji (Dd)), .int (ji (w))])), (f, .inr (1, [.long (jl (a)), .long (jl (b)), .long (jl (c))]))] sz) := by
  refine c_of (Qc := fun sz => va_Qi (fun r (u : Unit) => ∃ t : Int, r = ji t ∧ ((t = 1 ∧ (0 < b ∧ b ≤ w ∧ w < 2 * fm_ab a + b ∧ 2 * fm_ab a - b ≤ w)) ∨ (t = 0 ∧ ¬ (0 < b ∧ b ≤ w ∧ w < 2 * fm_ab a + b ∧ 2 * fm_ab a - b ≤ w)))) (fun (u : Unit) t => va_P D classes [(g, .inr (2, [.ref o, .ref wk, .ref st, .ref bs, .ref eu, .int (ji (Dd)), .int (ji (w))])), (f, .inr (1, [.long (jl (a)), .long (jl (b)), .long (jl (c))]))] t.heap) (va_A [(g, .inr (2, [.ref o, .ref wk, .ref st, .ref bs, .ref eu, .int (ji (Dd)), .int (ji (w))])), (f, .inr (1, [.long (jl (a)), .long (jl (b)), .long (jl (c))]))] sz)) (by decide +kernel) co_G_isReducedAbove (Nat.le_of_ble_eq_true rfl) ?_
  intro pq eq s mq below meth cq A X hK hP hD hS hA hAe ls hl
  obtain ⟨hx, hb, hml, hown, hr, hlocks, hts⟩ := id X
  have hl : lv_has ls 4 [(0, .ref g), (1, .ref f)] := hl
  have za := ha.ab
  have zb1 := hb0.1
  have zb2 := hb0.2
  have zw := hg.w
  have zw2 := hg.2.2.2
  refine w_ldc2 (v := 2) (n := 2) hx hb (by decide) hown (hts _ kc_G_100) d_G_isReducedAbove_0 ?_
  refine lv_aload_n hx hb d_G_isReducedAbove_3 rfl (lv_at hl 1 rfl) ?_
  refine va_getN (D := D) (ci := 1) (v := .long (jl (a))) (C := R_F) (T := T_F) (N := 3) hx hb hts uw_F hown hK.1 hP 1 rfl rfl 0 (by decide) ((hK.2 _ nf_G_94).use rfl) (fun _ h9 => h9) rfl d_G_isReducedAbove_4 ?_
  refine w_absJ X hl.1 ha.j ml_G_108 ⟨Nat.le_of_ble_eq_true rfl, Nat.le_of_ble_eq_true rfl⟩ ⟨Nat.zero_le _, Nat.zero_le _⟩ d_G_isReducedAbove_7 ?_
  refine wl_mul hx hb d_G_isReducedAbove_10 ?_
  refine lv_lstore_n (lv' := [(2, .long (jl ((2) * (fm_ab (a))))), (0, .ref g), (1, .ref f)]) hx hb d_G_isReducedAbove_11 rfl hl (by decide) rfl (fun ls hl => ?_)
  refine lv_aload_n hx hb d_G_isReducedAbove_12 rfl (lv_at hl 2 rfl) ?_
  refine va_getN (D := D) (ci := 1) (v := .long (jl (b))) (C := R_F) (T := T_F) (N := 3) hx hb hts uw_F hown hK.1 hP 1 rfl rfl 1 (by decide) ((hK.2 _ nf_G_97).use rfl) (fun _ h9 => h9) rfl d_G_isReducedAbove_13 ?_
  refine w_lconst (v := 0) hx hb rfl d_G_isReducedAbove_16 ?_
  refine wl_cle hx hb hb0.j ⟨by decide, by decide⟩ d_G_isReducedAbove_17 d_G_isReducedAbove_18 (tgt := 68) (by decide) (fun h_1 => ?_) (fun h_1 => ?_)
  · refine w_iconst hx hb d_G_isReducedAbove_68 ?_
    exact rt_z X hAe hS () rfl ⟨0, rfl, Or.inr ⟨rfl, by omega⟩⟩ hP d_G_isReducedAbove_69
  · refine lv_aload_n hx hb d_G_isReducedAbove_21 rfl (lv_at hl 2 rfl) ?_
    refine va_getN (D := D) (ci := 1) (v := .long (jl (b))) (C := R_F) (T := T_F) (N := 3) hx hb hts uw_F hown hK.1 hP 1 rfl rfl 1 (by decide) ((hK.2 _ nf_G_97).use rfl) (fun _ h9 => h9) rfl d_G_isReducedAbove_22 ?_
    refine lv_aload_n hx hb d_G_isReducedAbove_25 rfl (lv_at hl 1 rfl) ?_
    refine va_get (D := D) (ci := 2) (v := .int (ji (w))) (C := R_G) (T := T_G) (N := 7) hx hb hts uw_G hown hK.1 hP 0 rfl rfl 6 (by decide) (hts _ fl_G_42) (fun _ h9 => h9) rfl d_G_isReducedAbove_26 ?_
    refine w_i2l hx hb hg.jw d_G_isReducedAbove_29 ?_
    refine wl_cgt hx hb hb0.j ⟨by omega, by omega⟩ d_G_isReducedAbove_30 d_G_isReducedAbove_31 (tgt := 68) (by decide) (fun h_2 => ?_) (fun h_2 => ?_)
    · refine w_iconst hx hb d_G_isReducedAbove_68 ?_
      exact rt_z X hAe hS () rfl ⟨0, rfl, Or.inr ⟨rfl, by omega⟩⟩ hP d_G_isReducedAbove_69
    · refine lv_lload_n hx hb d_G_isReducedAbove_34 rfl (lv_at hl 0 rfl) ?_
      refine lv_aload_n hx hb d_G_isReducedAbove_35 rfl (lv_at hl 2 rfl) ?_
      refine va_getN (D := D) (ci := 1) (v := .long (jl (b))) (C := R_F) (T := T_F) (N := 3) hx hb hts uw_F hown hK.1 hP 1 rfl rfl 1 (by decide) ((hK.2 _ nf_G_97).use rfl) (fun _ h9 => h9) rfl d_G_isReducedAbove_36 ?_
      refine wl_add hx hb d_G_isReducedAbove_39 ?_
      refine lv_aload_n hx hb d_G_isReducedAbove_40 rfl (lv_at hl 1 rfl) ?_
      refine va_get (D := D) (ci := 2) (v := .int (ji (w))) (C := R_G) (T := T_G) (N := 7) hx hb hts uw_G hown hK.1 hP 0 rfl rfl 6 (by decide) (hts _ fl_G_42) (fun _ h9 => h9) rfl d_G_isReducedAbove_41 ?_
      refine w_i2l hx hb hg.jw d_G_isReducedAbove_44 ?_
      refine wl_cle hx hb ⟨by omega, by omega⟩ ⟨by omega, by omega⟩ d_G_isReducedAbove_45 d_G_isReducedAbove_46 (tgt := 68) (by decide) (fun h_3 => ?_) (fun h_3 => ?_)
      · refine w_iconst hx hb d_G_isReducedAbove_68 ?_
        exact rt_z X hAe hS () rfl ⟨0, rfl, Or.inr ⟨rfl, by omega⟩⟩ hP d_G_isReducedAbove_69
      · refine lv_lload_n hx hb d_G_isReducedAbove_49 rfl (lv_at hl 0 rfl) ?_
        refine lv_aload_n hx hb d_G_isReducedAbove_50 rfl (lv_at hl 2 rfl) ?_
        refine va_getN (D := D) (ci := 1) (v := .long (jl (b))) (C := R_F) (T := T_F) (N := 3) hx hb hts uw_F hown hK.1 hP 1 rfl rfl 1 (by decide) ((hK.2 _ nf_G_97).use rfl) (fun _ h9 => h9) rfl d_G_isReducedAbove_51 ?_
        refine wl_sub hx hb d_G_isReducedAbove_54 ?_
        refine lv_aload_n hx hb d_G_isReducedAbove_55 rfl (lv_at hl 1 rfl) ?_
        refine va_get (D := D) (ci := 2) (v := .int (ji (w))) (C := R_G) (T := T_G) (N := 7) hx hb hts uw_G hown hK.1 hP 0 rfl rfl 6 (by decide) (hts _ fl_G_42) (fun _ h9 => h9) rfl d_G_isReducedAbove_56 ?_
        refine w_i2l hx hb hg.jw d_G_isReducedAbove_59 ?_
        refine wl_cgt hx hb ⟨by omega, by omega⟩ ⟨by omega, by omega⟩ d_G_isReducedAbove_60 d_G_isReducedAbove_61 (tgt := 68) (by decide) (fun h_4 => ?_) (fun h_4 => ?_)
        · refine w_iconst hx hb d_G_isReducedAbove_68 ?_
          exact rt_z X hAe hS () rfl ⟨0, rfl, Or.inr ⟨rfl, by omega⟩⟩ hP d_G_isReducedAbove_69
        · refine w_iconst hx hb d_G_isReducedAbove_64 ?_
          refine lv_goto (tgt := 69) hx hb d_G_isReducedAbove_65 (by decide) ?_
          exact rt_z X hAe hS () rfl ⟨1, rfl, Or.inl ⟨rfl, by omega, by omega, by omega, by omega⟩⟩ hP d_G_isReducedAbove_69

set_option maxHeartbeats 4000000 in
set_option maxRecDepth 100000 in
theorem c_G_step (l : Launch) (D : va_G) (cI cJ cF : ClassId) {g o wk st bs eu : Nat} {Dd w : Int} {f : Nat} {a b c : Int} (hg : gD Dd w) (hd : fm_disc Dd (a, b, c)) (hb0 : b30 b) (hc : b30 c) : ∀ sz, Met l y_G_step (Cond.code y_G_step b_G_step 6 none :: wb) { frames := 2, cells := 0, slots := 0, locals := 51 } (va_Pc [.ref g, .ref f] (cpre D cI cJ cF [(g, .inr (2, [.ref o, .ref wk, .ref st, .ref bs, .ref eu, .int (ji (Dd)), .int (ji (w))])), (f, .inr (1, [.long (jl (a)), .long (jl (b)), .long (jl (c))]))] sz)) (va_Qv (fun (u : Unit) => True) (fun (u : Unit) t => va_P D classes [(g, .inr (2, [.ref o, .ref wk, .ref st, .ref bs, .ref eu, .int (ji (Dd)), .int (ji (w))])), (f, .inr (1, [.long (jl ((fm_rho Dd w (a, b, c)).1)), .long (jl ((fm_rho Dd w (a, b, c)).2.1)), .long (jl ((fm_rho Dd w (a, b, c)).2.2))]))] t.heap) (va_A [(g, .inr (2, [.ref o, .ref wk, .ref st, .ref bs, .ref eu, .int (ji (Dd)), .int (ji (w))])), (f, .inr (1, [.long (jl (a)), .long (jl (b)), .long (jl (c))]))] sz)) 0 0 (va_A [(g, .inr (2, [.ref o, .ref wk, .ref st, .ref bs, .ref eu, .int (ji (Dd)), .int (ji (w))])), (f, .inr (1, [.long (jl (a)), .long (jl (b)), .long (jl (c))]))] sz) := by
  refine c_of (Qc := fun sz => va_Qv (fun (u : Unit) => True) (fun (u : Unit) t => va_P D classes [(g, .inr (2, [.ref o, .ref wk, .ref st, .ref bs, .ref eu, .int (ji (Dd)), .int (ji (w))])), (f, .inr (1, [.long (jl ((fm_rho Dd w (a, b, c)).1)), .long (jl ((fm_rho Dd w (a, b, c)).2.1)), .long (jl ((fm_rho Dd w (a, b, c)).2.2))]))] t.heap) (va_A [(g, .inr (2, [.ref o, .ref wk, .ref st, .ref bs, .ref eu, .int (ji (Dd)), .int (ji (w))])), (f, .inr (1, [.long (jl (a)), .long (jl (b)), .long (jl (c))]))] sz)) (by decide +kernel) co_G_step (Nat.le_of_ble_eq_true rfl) ?_
  intro pq eq s mq below meth cq A X hK hP hD hS hA hAe ls hl
  obtain ⟨hx, hb, hml, hown, hr, hlocks, hts⟩ := id X
  have hl : lv_has ls 6 [(0, .ref g), (1, .ref f)] := hl
  have hc0 := (fm_ne hg.1 hd).2
  have zc0 := fm_ab_pos hc0
  have zc := hc.ab
  have zb1 := hb0.1
  have zb2 := hb0.2
  have zc1 := hc.1
  have zc2 := hc.2
  have zw := hg.w
  have zw2 := hg.2.2.2
  have zd1 := hg.2.1
  have zd2 := hg.2.2.1
  have zt : -1 ≤ fm_top w c ∧ fm_top w c ≤ 1073741824 := by rcases fm_top_cases w c with z | z <;> omega
  have r0 := Int.emod_nonneg (fm_top w c + b) (show 2 * fm_ab c ≠ 0 by omega)
  have r1 := Int.emod_lt_of_pos (fm_top w c + b) (show 0 < 2 * fm_ab c by omega)
  have zt2 : fm_top w c - 2 * fm_ab c ≥ -1073741824 := by rcases fm_top_cases w c with z | z <;> omega
  refine lv_aload_n hx hb d_G_step_0 rfl (lv_at hl 1 rfl) ?_
  refine va_getN (D := D) (ci := 1) (v := .long (jl (c))) (C := R_F) (T := T_F) (N := 3) hx hb hts uw_F hown hK.1 hP 1 rfl rfl 2 (by decide) ((hK.2 _ nf_G_105).use rfl) (fun _ h9 => h9) rfl d_G_step_1 ?_
  refine w_absJ X hl.1 hc.j ml_G_108 ⟨Nat.le_of_ble_eq_true rfl, Nat.le_of_ble_eq_true rfl⟩ ⟨Nat.zero_le _, Nat.zero_le _⟩ d_G_step_4 ?_
  refine lv_lstore_n (lv' := [(2, .long (jl (fm_ab (c)))), (0, .ref g), (1, .ref f)]) hx hb d_G_step_7 rfl hl (by decide) rfl (fun ls hl => ?_)
  refine lv_lload_n hx hb d_G_step_8 rfl (lv_at hl 0 rfl) ?_
  refine lv_aload_n hx hb d_G_step_9 rfl (lv_at hl 1 rfl) ?_
  refine va_get (D := D) (ci := 2) (v := .int (ji (w))) (C := R_G) (T := T_G) (N := 7) hx hb hts uw_G hown hK.1 hP 0 rfl rfl 6 (by decide) (hts _ fl_G_42) (fun _ h9 => h9) rfl d_G_step_10 ?_
  refine w_i2l hx hb hg.jw d_G_step_13 ?_
  refine w_maxJ X hl.1 ⟨by omega, by omega⟩ ⟨by omega, by omega⟩ ml_G_114 ⟨Nat.le_of_ble_eq_true rfl, Nat.le_of_ble_eq_true rfl⟩ ⟨Nat.zero_le _, Nat.zero_le _⟩ d_G_step_14 ?_
  refine lv_lstore (lv' := [(4, .long (jl (fm_top w c))), (2, .long (jl (fm_ab (c)))), (0, .ref g), (1, .ref f)]) hx hb d_G_step_17 hl (by decide) rfl (fun ls hl => ?_)
  refine lv_aload_n hx hb d_G_step_19 rfl (lv_at hl 2 rfl) ?_
  refine lv_aload_n hx hb d_G_step_20 rfl (lv_at hl 3 rfl) ?_
  refine lv_aload_n hx hb d_G_step_21 rfl (lv_at hl 3 rfl) ?_
  refine va_getN (D := D) (ci := 1) (v := .long (jl (c))) (C := R_F) (T := T_F) (N := 3) hx hb hts uw_F hown hK.1 hP 1 rfl rfl 2 (by decide) ((hK.2 _ nf_G_105).use rfl) (fun _ h9 => h9) rfl d_G_step_22 ?_
  refine lv_lload hx hb d_G_step_25 (lv_at hl 0 rfl) ?_
  refine lv_lload hx hb d_G_step_27 (lv_at hl 0 rfl) ?_
  refine lv_aload_n hx hb d_G_step_29 rfl (lv_at hl 3 rfl) ?_
  refine va_getN (D := D) (ci := 1) (v := .long (jl (b))) (C := R_F) (T := T_F) (N := 3) hx hb hts uw_F hown hK.1 hP 1 rfl rfl 1 (by decide) ((hK.2 _ nf_G_97).use rfl) (fun _ h9 => h9) rfl d_G_step_30 ?_
  refine wl_add hx hb d_G_step_33 ?_
  refine w_ldc2 (v := 2) (n := 2) hx hb (by decide) hown (hts _ kc_G_100) d_G_step_34 ?_
  refine lv_lload_n hx hb d_G_step_37 rfl (lv_at hl 1 rfl) ?_
  refine wl_mul hx hb d_G_step_38 ?_
  refine cl_l (rn_SN (wc := []) (As := [.long (jl ((fm_top w c) + (b))), .long (jl ((2) * (fm_ab (c))))]) (rest := [.long (jl (fm_top w c)), .long (jl (c)), .ref f, .ref g]) X hK (c_X_remainder l D cI cJ cF ⟨by omega, by omega⟩ ⟨by omega, by omega⟩ _) co_X_remainder in_X nm_G_102 st_X_remainder 2 rfl (by decide +kernel) ⟨Nat.le_of_ble_eq_true rfl, Nat.le_of_ble_eq_true rfl⟩ hP hD [] rfl (by decide) hl.1 rfl (Nat.le_of_ble_eq_true rfl) d_G_step_39 ⟨Nat.zero_le _, Nat.zero_le _⟩) hP hD hS hA [] rfl (by decide) (fun _ => rfl) (fun r_1 u_2 H locs hp hP hD hS => ?_)
  have hp : r_1 = jl ((fm_top w c + b) % (2 * fm_ab c)) := by rw [show r_1 = _ from hp]; rw [if_pos (by omega)]
  have hP : va_P D classes [(g, .inr (2, [.ref o, .ref wk, .ref st, .ref bs, .ref eu, .int (ji (Dd)), .int (ji (w))])), (f, .inr (1, [.long (jl (a)), .long (jl (b)), .long (jl (c))]))] H := hP
  have hD : va_D A [(g, .inr (2, [.ref o, .ref wk, .ref st, .ref bs, .ref eu, .int (ji (Dd)), .int (ji (w))])), (f, .inr (1, [.long (jl (a)), .long (jl (b)), .long (jl (c))]))] := hD
  obtain rfl : r_1 = jl ((fm_top w c + b) % (2 * fm_ab c)) := hp
  refine wl_sub hx hb d_G_step_42 ?_
  obtain ⟨e0, he0⟩ : ∃ t : Int, fm_top w c - (fm_top w c + b) % (2 * fm_ab c) = t := ⟨_, rfl⟩
  rw [he0]
  have hsq := sq_bd (B := 1073741824) (e := e0) (by omega) (by omega)
  obtain ⟨q0, hq⟩ : ∃ t : Int, (e0 * e0 - Dd).tdiv (4 * c) = t := ⟨_, rfl⟩
  refine cl_v (rn_V (wc := [(g, .inr (2, [.ref o, .ref wk, .ref st, .ref bs, .ref eu, .int (ji (Dd)), .int (ji (w))])), (f, .inr (1, [.long (jl (a)), .long (jl (b)), .long (jl (c))]))]) (As := [.ref f, .long (jl (c)), .long (jl (e0))]) (rest := []) X hK (c_G_becomeFrom l D cI cJ cF hg.jD ⟨by omega, by omega⟩ ⟨by omega, by omega⟩ hc0 hq _) co_G_becomeFrom in_G ml_G_45 im_G_becomeFrom se_G_becomeFrom 3 rfl (by decide +kernel) ⟨Nat.le_of_ble_eq_true rfl, Nat.le_of_ble_eq_true rfl⟩ hP hD [0, 1] rfl (by decide) (q0 := 0) (ci := 2) rfl rfl rfl hl.1 rfl (Nat.le_of_ble_eq_true rfl) d_G_step_43 ⟨Nat.zero_le _, Nat.zero_le _⟩) hP hD hS hA [0, 1] rfl (by decide) (fun _ => rfl) (fun u_3 H locs hp hP hD hS => ?_)
  have hP : va_P D classes [(g, .inr (2, [.ref o, .ref wk, .ref st, .ref bs, .ref eu, .int (ji (Dd)), .int (ji (w))])), (f, .inr (1, [.long (jl (c)), .long (jl (e0)), .long (jl (q0))]))] H := hP
  have hD : va_D A [(g, .inr (2, [.ref o, .ref wk, .ref st, .ref bs, .ref eu, .int (ji (Dd)), .int (ji (w))])), (f, .inr (1, [.long (jl (c)), .long (jl (e0)), .long (jl (q0))]))] := hD
  have hrho := st_rho (w := w) hc0 hd
  have hP : va_P D classes [(g, .inr (2, [.ref o, .ref wk, .ref st, .ref bs, .ref eu, .int (ji (Dd)), .int (ji (w))])), (f, .inr (1, [.long (jl ((fm_rho Dd w (a, b, c)).1)), .long (jl ((fm_rho Dd w (a, b, c)).2.1)), .long (jl ((fm_rho Dd w (a, b, c)).2.2))]))] H := by rw [hrho, he0, hq]; exact hP
  exact rt_v X hAe hS () trivial hP d_G_step_46

set_option maxHeartbeats 4000000 in
set_option maxRecDepth 100000 in
theorem c_G_reduceBelow (l : Launch) (D : va_G) (cI cJ cF : ClassId) {g o wk st bs eu : Nat} {Dd w : Int} {f : Nat} {a b c : Int} (hg : gD Dd w) (hD0 : Dd < 0) (hd : fm_disc Dd (a, b, c)) (ha : 0 < a) (ha2 : a ≤ 1073741824) (hb2 : -2147483648 ≤ b ∧ b ≤ 2147483648) : ∀ sz, Met l y_G_reduceBelow (Cond.code y_G_reduceBelow b_G_reduceBelow 3 none :: wb) { frames := 2, cells := 0, slots := 0, locals := 51 } (va_Pc [.ref g, .ref f] (cpre D cI cJ cF [(g, .inr (2, [.ref o, .ref wk, .ref st, .ref bs, .ref eu, .int (ji (Dd)), .int (ji (w))])), (f, .inr (1, [.long (jl (a)), .long (jl (b)), .long (jl (c))]))] sz)) (va_Qv (fun (u : fm_F) => fm_nm Dd w u (a, b, c)) (fun (u : fm_F) t => va_P D classes [(g, .inr (2, [.ref o, .ref wk, .ref st, .ref bs, .ref eu, .int (ji (Dd)), .int (ji (w))])), (f, .inr (1, [.long (jl ((u).1)), .long (jl ((u).2.1)), .long (jl ((u).2.2))]))] t.heap) (va_A [(g, .inr (2, [.ref o, .ref wk, .ref st, .ref bs, .ref eu, .int (ji (Dd)), .int (ji (w))])), (f, .inr (1, [.long (jl (a)), .long (jl (b)), .long (jl (c))]))] sz)) 0 0 (va_A [(g, .inr (2, [.ref o, .ref wk, .ref st, .ref bs, .ref eu, .int (ji (Dd)), .int (ji (w))])), (f, .inr (1, [.long (jl (a)), .long (jl (b)), .long (jl (c))]))] sz) := by
  refine c_of (Qc := fun sz => va_Qv (fun (u : fm_F) => fm_nm Dd w u (a, b, c)) (fun (u : fm_F) t => va_P D classes [(g, .inr (2, [.ref o, .ref wk, .ref st, .ref bs, .ref eu, .int (ji (Dd)), .int (ji (w))])), (f, .inr (1, [.long (jl ((u).1)), .long (jl ((u).2.1)), .long (jl ((u).2.2))]))] t.heap) (va_A [(g, .inr (2, [.ref o, .ref wk, .ref st, .ref bs, .ref eu, .int (ji (Dd)), .int (ji (w))])), (f, .inr (1, [.long (jl (a)), .long (jl (b)), .long (jl (c))]))] sz)) (by decide +kernel) co_G_reduceBelow (Nat.le_of_ble_eq_true rfl) ?_
  intro pq eq s mq below meth cq A X hK hP hD hS hA hAe ls hl
  obtain ⟨hx, hb, hml, hown, hr, hlocks, hts⟩ := id X
  have hl : lv_has ls 3 [(0, .ref g), (1, .ref f)] := hl
  have zd1 := hg.2.1
  have zd2 := hg.2.2.1
  obtain ⟨k0, rt0, hk0, hk⟩ := fm_dw_ex hg.1 hD0 hg.2.1 20 (a, b, c) hd ha (by show a ≤ 1024 * 2 ^ 20; omega)
  have hnm := fm_dw_red hg.1 hD0 hd ha hk
  refine w_iconst hx hb d_G_reduceBelow_0 ?_
  refine lv_istore_n (lv' := [(2, .int (ji (0))), (0, .ref g), (1, .ref f)]) hx hb d_G_reduceBelow_1 rfl hl (by decide) rfl (fun ls hl => ?_)
  refine lpn (I := fun n H locs ls => ∃ (i : Int) (xa : Int) (xb : Int) (xc : Int) (kk : Nat), kk = n ∧ (fm_dw Dd kk (xa, xb, xc) rt0 ∧ i + kk < 1000000 ∧ fm_disc Dd (xa, xb, xc) ∧ 0 < xa ∧ (0 ≤ i ∧ xa ≤ 1073741824) ∧ (-2147483648 ≤ xb ∧ xb ≤ 2147483648)) ∧ va_P D classes [(g, .inr (2, [.ref o, .ref wk, .ref st, .ref bs, .ref eu, .int (ji (Dd)), .int (ji (w))])), (f, .inr (1, [.long (jl (xa)), .long (jl (xb)), .long (jl (xc))]))] H ∧ va_D A [(g, .inr (2, [.ref o, .ref wk, .ref st, .ref bs, .ref eu, .int (ji (Dd)), .int (ji (w))])), (f, .inr (1, [.long (jl (xa)), .long (jl (xb)), .long (jl (xc))]))] ∧ va_S A s.heap H locs ∧ lv_has ls 3 [(0, .ref g), (1, .ref f), (2, .int (ji (i)))]) ?_ _ _ _ _ ⟨0, a, b, c, k0, rfl, ⟨hk, by omega, hd, ha, ⟨by decide, ha2⟩, hb2⟩, hP, hD, hS, lv_sub hl [1, 2, 0] rfl⟩
  rintro n H locs ls ⟨i, xa, xb, xc, kk, rfl, hi, hP, hD, hS, hl⟩ ih
  refine lv_iload_n hx hb d_G_reduceBelow_2 rfl (lv_at hl 2 rfl) ?_
  refine w_ldc (v := 1000000) (n := 1000000) hx hb (by decide) hown (hts _ kc_G_86) d_G_reduceBelow_3 ?_
  refine wi_cge hx hb ⟨by omega, by omega⟩ ⟨by decide, by decide⟩ d_G_reduceBelow_5 (tgt := 80) (by decide) (fun h_1 => ?_) (fun h_1 => ?_)
  · exact absurd hi.2.1 (by omega)
  · obtain ⟨i1, i2, i3, i4, i5, i6⟩ := hi
    have y1 := i6.1
    have y2 := i6.2
    have x1 := i5.2
    have r0 := Int.emod_nonneg (xa - xb) (show 2 * xa ≠ 0 by omega)
    have r1 := Int.emod_lt_of_pos (xa - xb) (show 0 < 2 * xa by omega)
    refine lv_aload_n hx hb d_G_reduceBelow_8 rfl (lv_at hl 0 rfl) ?_
    refine lv_aload_n hx hb d_G_reduceBelow_9 rfl (lv_at hl 1 rfl) ?_
    refine lv_aload_n hx hb d_G_reduceBelow_10 rfl (lv_at hl 1 rfl) ?_
    refine va_getN (D := D) (ci := 1) (v := .long (jl (xa))) (C := R_F) (T := T_F) (N := 3) hx hb hts uw_F hown hK.1 hP 1 rfl rfl 0 (by decide) ((hK.2 _ nf_G_94).use rfl) (fun _ h9 => h9) rfl d_G_reduceBelow_11 ?_
    refine lv_aload_n hx hb d_G_reduceBelow_14 rfl (lv_at hl 1 rfl) ?_
    refine va_getN (D := D) (ci := 1) (v := .long (jl (xa))) (C := R_F) (T := T_F) (N := 3) hx hb hts uw_F hown hK.1 hP 1 rfl rfl 0 (by decide) ((hK.2 _ nf_G_94).use rfl) (fun _ h9 => h9) rfl d_G_reduceBelow_15 ?_
    refine lv_aload_n hx hb d_G_reduceBelow_18 rfl (lv_at hl 1 rfl) ?_
    refine va_getN (D := D) (ci := 1) (v := .long (jl (xa))) (C := R_F) (T := T_F) (N := 3) hx hb hts uw_F hown hK.1 hP 1 rfl rfl 0 (by decide) ((hK.2 _ nf_G_94).use rfl) (fun _ h9 => h9) rfl d_G_reduceBelow_19 ?_
    refine lv_aload_n hx hb d_G_reduceBelow_22 rfl (lv_at hl 1 rfl) ?_
    refine va_getN (D := D) (ci := 1) (v := .long (jl (xb))) (C := R_F) (T := T_F) (N := 3) hx hb hts uw_F hown hK.1 hP 1 rfl rfl 1 (by decide) ((hK.2 _ nf_G_97).use rfl) (fun _ h9 => h9) rfl d_G_reduceBelow_23 ?_
    refine wl_sub hx hb d_G_reduceBelow_26 ?_
    refine w_ldc2 (v := 2) (n := 2) hx hb (by decide) hown (hts _ kc_G_100) d_G_reduceBelow_27 ?_
    refine lv_aload_n hx hb d_G_reduceBelow_30 rfl (lv_at hl 1 rfl) ?_
    refine va_getN (D := D) (ci := 1) (v := .long (jl (xa))) (C := R_F) (T := T_F) (N := 3) hx hb hts uw_F hown hK.1 hP 1 rfl rfl 0 (by decide) ((hK.2 _ nf_G_94).use rfl) (fun _ h9 => h9) rfl d_G_reduceBelow_31 ?_
    refine wl_mul hx hb d_G_reduceBelow_34 ?_
    refine cl_l (rn_SN (wc := []) (As := [.long (jl ((xa) - (xb))), .long (jl ((2) * (xa)))]) (rest := [.long (jl (xa)), .long (jl (xa)), .ref f, .ref g]) X hK (c_X_remainder l D cI cJ cF ⟨by omega, by omega⟩ ⟨by omega, by omega⟩ _) co_X_remainder in_X nm_G_102 st_X_remainder 2 rfl (by decide +kernel) ⟨Nat.le_of_ble_eq_true rfl, Nat.le_of_ble_eq_true rfl⟩ hP hD [] rfl (by decide) hl.1 rfl (Nat.le_of_ble_eq_true rfl) d_G_reduceBelow_35 ⟨Nat.zero_le _, Nat.zero_le _⟩) hP hD hS hA [] rfl (by decide) (fun _ => rfl) (fun r_2 u_3 H locs hp hP hD hS => ?_)
    have hp : r_2 = jl ((xa - xb) % (2 * xa)) := by rw [show r_2 = _ from hp]; rw [if_pos (by omega)]
    have hP : va_P D classes [(g, .inr (2, [.ref o, .ref wk, .ref st, .ref bs, .ref eu, .int (ji (Dd)), .int (ji (w))])), (f, .inr (1, [.long (jl (xa)), .long (jl (xb)), .long (jl (xc))]))] H := hP
    have hD : va_D A [(g, .inr (2, [.ref o, .ref wk, .ref st, .ref bs, .ref eu, .int (ji (Dd)), .int (ji (w))])), (f, .inr (1, [.long (jl (xa)), .long (jl (xb)), .long (jl (xc))]))] := hD
    obtain rfl : r_2 = jl ((xa - xb) % (2 * xa)) := hp
    refine wl_sub hx hb d_G_reduceBelow_38 ?_
    obtain ⟨e0, he0⟩ : ∃ t : Int, xa - (xa - xb) % (2 * xa) = t := ⟨_, rfl⟩
    rw [he0]
    have hsq := sq_bd (B := 1073741824) (e := e0) (by omega) (by omega)
    obtain ⟨q0, hq⟩ : ∃ t : Int, (e0 * e0 - Dd).tdiv (4 * xa) = t := ⟨_, rfl⟩
    have hqb : -4611686018427387904 ≤ q0 ∧ q0 ≤ 4611686018427387904 := by
      have hm := Int.mul_tdiv_add_tmod (e0 * e0 - Dd) (4 * xa)
      have ht1 := Int.tmod_lt_of_pos (e0 * e0 - Dd) (show 0 < 4 * xa by omega)
      have ht2 := Int.lt_tmod_of_pos (e0 * e0 - Dd) (show 0 < 4 * xa by omega)
      have ht3 := Int.tmod_nonneg (4 * xa) (show 0 ≤ e0 * e0 - Dd by omega)
      rw [hq] at hm
      constructor
      · rcases Int.lt_or_le q0 0 with z | z
        · have := Int.mul_le_mul_of_nonneg_left (show q0 ≤ -1 by omega) (show 0 ≤ 4 * xa by omega); omega
        · omega
      · rcases Int.lt_or_le 0 q0 with z | z
        · have := Int.mul_le_mul_of_nonneg_right (show 1 ≤ 4 * xa by omega) (show 0 ≤ q0 by omega); omega
        · omega
    refine cl_v (rn_V (wc := [(g, .inr (2, [.ref o, .ref wk, .ref st, .ref bs, .ref eu, .int (ji (Dd)), .int (ji (w))])), (f, .inr (1, [.long (jl (xa)), .long (jl (xb)), .long (jl (xc))]))]) (As := [.ref f, .long (jl (xa)), .long (jl (e0))]) (rest := []) X hK (c_G_becomeFrom l D cI cJ cF hg.jD ⟨by omega, by omega⟩ ⟨by omega, by omega⟩ (by omega) hq _) co_G_becomeFrom in_G ml_G_45 im_G_becomeFrom se_G_becomeFrom 3 rfl (by decide +kernel) ⟨Nat.le_of_ble_eq_true rfl, Nat.le_of_ble_eq_true rfl⟩ hP hD [0, 1] rfl (by decide) (q0 := 0) (ci := 2) rfl rfl rfl hl.1 rfl (Nat.le_of_ble_eq_true rfl) d_G_reduceBelow_39 ⟨Nat.zero_le _, Nat.zero_le _⟩) hP hD hS hA [0, 1] rfl (by decide) (fun _ => rfl) (fun u_4 H locs hp hP hD hS => ?_)
    have hP : va_P D classes [(g, .inr (2, [.ref o, .ref wk, .ref st, .ref bs, .ref eu, .int (ji (Dd)), .int (ji (w))])), (f, .inr (1, [.long (jl (xa)), .long (jl (e0)), .long (jl (q0))]))] H := hP
    have hD : va_D A [(g, .inr (2, [.ref o, .ref wk, .ref st, .ref bs, .ref eu, .int (ji (Dd)), .int (ji (w))])), (f, .inr (1, [.long (jl (xa)), .long (jl (e0)), .long (jl (q0))]))] := hD
    refine lv_aload_n hx hb d_G_reduceBelow_42 rfl (lv_at hl 1 rfl) ?_
    refine va_getN (D := D) (ci := 1) (v := .long (jl (xa))) (C := R_F) (T := T_F) (N := 3) hx hb hts uw_F hown hK.1 hP 1 rfl rfl 0 (by decide) ((hK.2 _ nf_G_94).use rfl) (fun _ h9 => h9) rfl d_G_reduceBelow_43 ?_
    refine lv_aload_n hx hb d_G_reduceBelow_46 rfl (lv_at hl 1 rfl) ?_
    refine va_getN (D := D) (ci := 1) (v := .long (jl (q0))) (C := R_F) (T := T_F) (N := 3) hx hb hts uw_F hown hK.1 hP 1 rfl rfl 2 (by decide) ((hK.2 _ nf_G_105).use rfl) (fun _ h9 => h9) rfl d_G_reduceBelow_47 ?_
    refine wl_cgt hx hb ⟨by omega, by omega⟩ ⟨by omega, by omega⟩ d_G_reduceBelow_50 d_G_reduceBelow_51 (tgt := 57) (by decide) (fun h_5 => ?_) (fun h_5 => ?_)
    · have hnu := nu_eq i4 i3
      rw [he0, hq] at hnu
      obtain ⟨o1, o2, o3, o4, o5⟩ := fm_nu_ok hg.1 i4 i3
      rw [hnu] at o1 o2 o3 o4 o5
      dsimp only at o3 o4 o5
      have hk2 : ∃ k2, kk = k2 + 1 ∧ fm_dw Dd k2 (q0, -e0, xa) rt0 := by
        cases kk with
        | zero => have z1 := i1.1; have z2 := i1.2; rw [← z1, hnu] at z2; dsimp only at z2; omega
        | succ k2 => have z2 := i1.2; rw [hnu] at z2; exact ⟨k2, rfl, z2⟩
      obtain ⟨k2, rfl, i1n⟩ := hk2
      have hq0 := fm_pp i4 (fm_neg_ac hD0 o1)
      refine lv_aload_n hx hb d_G_reduceBelow_57 rfl (lv_at hl 1 rfl) ?_
      refine lv_aload_n hx hb d_G_reduceBelow_58 rfl (lv_at hl 1 rfl) ?_
      refine va_getN (D := D) (ci := 1) (v := .long (jl (q0))) (C := R_F) (T := T_F) (N := 3) hx hb hts uw_F hown hK.1 hP 1 rfl rfl 2 (by decide) ((hK.2 _ nf_G_105).use rfl) (fun _ h9 => h9) rfl d_G_reduceBelow_59 ?_
      refine lv_aload_n hx hb d_G_reduceBelow_62 rfl (lv_at hl 1 rfl) ?_
      refine va_getN (D := D) (ci := 1) (v := .long (jl (e0))) (C := R_F) (T := T_F) (N := 3) hx hb hts uw_F hown hK.1 hP 1 rfl rfl 1 (by decide) ((hK.2 _ nf_G_97).use rfl) (fun _ h9 => h9) rfl d_G_reduceBelow_63 ?_
      refine wl_neg hx hb d_G_reduceBelow_66 ?_
      refine lv_aload_n hx hb d_G_reduceBelow_67 rfl (lv_at hl 1 rfl) ?_
      refine va_getN (D := D) (ci := 1) (v := .long (jl (xa))) (C := R_F) (T := T_F) (N := 3) hx hb hts uw_F hown hK.1 hP 1 rfl rfl 0 (by decide) ((hK.2 _ nf_G_94).use rfl) (fun _ h9 => h9) rfl d_G_reduceBelow_68 ?_
      refine cl_v (rn_VN (wc := [(f, .inr (1, [.long (jl (xa)), .long (jl (e0)), .long (jl (q0))]))]) (As := [.long (jl (q0)), .long (jl (-(e0))), .long (jl (xa))]) (rest := []) X hK (c_F_become l D cI cJ cF  _) co_F_become in_F nm_G_79 im_F_become se_F_become 3 rfl (by decide +kernel) ⟨Nat.le_of_ble_eq_true rfl, Nat.le_of_ble_eq_true rfl⟩ hP hD [1] rfl (by decide) (q0 := 0) (ci := 1) rfl rfl rfl hl.1 rfl (Nat.le_of_ble_eq_true rfl) d_G_reduceBelow_71 ⟨Nat.zero_le _, Nat.zero_le _⟩) hP hD hS hA [1] rfl (by decide) (fun _ => rfl) (fun u_6 H locs hp hP hD hS => ?_)
      have hP : va_P D classes [(g, .inr (2, [.ref o, .ref wk, .ref st, .ref bs, .ref eu, .int (ji (Dd)), .int (ji (w))])), (f, .inr (1, [.long (jl (q0)), .long (jl (-(e0))), .long (jl (xa))]))] H := hP
      have hD : va_D A [(g, .inr (2, [.ref o, .ref wk, .ref st, .ref bs, .ref eu, .int (ji (Dd)), .int (ji (w))])), (f, .inr (1, [.long (jl (q0)), .long (jl (-(e0))), .long (jl (xa))]))] := hD
      refine lv_iinc (v := ji ((i) + (1))) (lv' := [(2, .int (ji ((i) + (1)))), (0, .ref g), (1, .ref f)]) hx hb d_G_reduceBelow_74 hl (k := 2) rfl (ji_add _ _) (by decide) rfl (fun ls hl => ?_)
      refine lv_goto (tgt := 2) hx hb d_G_reduceBelow_77 (by decide) ?_
      exact ih _ _ _ _ (by omega) ⟨i + 1, q0, -e0, xa, k2, rfl, ⟨i1n, by omega, fm_S_disc o1, hq0, ⟨by omega, by omega⟩, ⟨by omega, by omega⟩⟩, hP, hD, hS, lv_sub hl [1, 2, 0] rfl⟩
    · have hnu := nu_eq i4 i3
      rw [he0, hq] at hnu
      obtain ⟨o1, o2, o3, o4, o5⟩ := fm_nu_ok hg.1 i4 i3
      rw [hnu] at o1 o2 o3 o4 o5
      dsimp only at o3 o4 o5
      have hr0 : rt0 = (xa, e0, q0) := by
        cases kk with
        | zero => rw [← hnu]; exact i1.1.symm
        | succ k2 => have := i1.1; rw [hnu] at this; dsimp only at this; omega
      rw [hr0] at hnm
      dsimp only at hnm
      refine lv_goto (tgt := 80) hx hb d_G_reduceBelow_54 (by decide) ?_
      refine lv_aload_n hx hb d_G_reduceBelow_80 rfl (lv_at hl 1 rfl) ?_
      refine va_getN (D := D) (ci := 1) (v := .long (jl (xa))) (C := R_F) (T := T_F) (N := 3) hx hb hts uw_F hown hK.1 hP 1 rfl rfl 0 (by decide) ((hK.2 _ nf_G_94).use rfl) (fun _ h9 => h9) rfl d_G_reduceBelow_81 ?_
      refine lv_aload_n hx hb d_G_reduceBelow_84 rfl (lv_at hl 1 rfl) ?_
      refine va_getN (D := D) (ci := 1) (v := .long (jl (q0))) (C := R_F) (T := T_F) (N := 3) hx hb hts uw_F hown hK.1 hP 1 rfl rfl 2 (by decide) ((hK.2 _ nf_G_105).use rfl) (fun _ h9 => h9) rfl d_G_reduceBelow_85 ?_
      refine wl_cne hx hb ⟨by omega, by omega⟩ ⟨by omega, by omega⟩ d_G_reduceBelow_88 d_G_reduceBelow_89 (tgt := 110) (by decide) (fun h_7 => ?_) (fun h_7 => ?_)
      · exact rt_v X hAe hS (xa, e0, q0) (by first | (rw [if_pos ⟨by omega, by omega⟩] at hnm; exact hnm) | (rw [if_neg (by omega)] at hnm; exact hnm)) hP d_G_reduceBelow_110
      · refine lv_aload_n hx hb d_G_reduceBelow_92 rfl (lv_at hl 1 rfl) ?_
        refine va_getN (D := D) (ci := 1) (v := .long (jl (e0))) (C := R_F) (T := T_F) (N := 3) hx hb hts uw_F hown hK.1 hP 1 rfl rfl 1 (by decide) ((hK.2 _ nf_G_97).use rfl) (fun _ h9 => h9) rfl d_G_reduceBelow_93 ?_
        refine w_lconst (v := 0) hx hb rfl d_G_reduceBelow_96 ?_
        refine wl_cge hx hb ⟨by omega, by omega⟩ ⟨by decide, by decide⟩ d_G_reduceBelow_97 d_G_reduceBelow_98 (tgt := 110) (by decide) (fun h_8 => ?_) (fun h_8 => ?_)
        · exact rt_v X hAe hS (xa, e0, q0) (by first | (rw [if_pos ⟨by omega, by omega⟩] at hnm; exact hnm) | (rw [if_neg (by omega)] at hnm; exact hnm)) hP d_G_reduceBelow_110
        · refine lv_aload_n hx hb d_G_reduceBelow_101 rfl (lv_at hl 1 rfl) ?_
          refine lv_aload_n hx hb d_G_reduceBelow_102 rfl (lv_at hl 1 rfl) ?_
          refine va_getN (D := D) (ci := 1) (v := .long (jl (e0))) (C := R_F) (T := T_F) (N := 3) hx hb hts uw_F hown hK.1 hP 1 rfl rfl 1 (by decide) ((hK.2 _ nf_G_97).use rfl) (fun _ h9 => h9) rfl d_G_reduceBelow_103 ?_
          refine wl_neg hx hb d_G_reduceBelow_106 ?_
          refine va_putN (D := D) (ci := 1) (v := .long (jl (-(e0)))) (ty := .long) (C := R_F) (T := T_F) (N := 3) hx hb hts uw_F ty_F ty_F_ok nm_F hown hK.1 hP hD hS 1 rfl rfl 1 (by decide) ((hK.2 _ nf_G_97).use rfl) (fun _ h9 => h9) rfl (by decide +kernel) rfl rfl (Nat.le_of_ble_eq_true rfl) d_G_reduceBelow_107 (fun H locs hP hD hS => ?_)
          have hP : va_P D classes [(g, .inr (2, [.ref o, .ref wk, .ref st, .ref bs, .ref eu, .int (ji (Dd)), .int (ji (w))])), (f, .inr (1, [.long (jl (xa)), .long (jl (-(e0))), .long (jl (q0))]))] H := hP
          have hD : va_D A [(g, .inr (2, [.ref o, .ref wk, .ref st, .ref bs, .ref eu, .int (ji (Dd)), .int (ji (w))])), (f, .inr (1, [.long (jl (xa)), .long (jl (-(e0))), .long (jl (q0))]))] := hD
          exact rt_v X hAe hS (xa, -(e0), q0) (by first | (rw [if_pos ⟨by omega, by omega⟩] at hnm; exact hnm) | (rw [if_neg (by omega)] at hnm; exact hnm)) hP d_G_reduceBelow_110
