set_option maxHeartbeats 4000000 in
set_option maxRecDepth 100000 in
theorem c_E_solve (l : Launch) (D : va_G) (cI cJ cF : ClassId) {eu : Nat} {j1 j2 j3 pp qq : Int} (hp0 : b30 pp) (hq0 : b30 qq) : ∀ sz, Met l y_E_solve (Cond.code y_E_solve b_E_solve 20 none :: wb) { frames := 1, cells := 0, slots := 0, locals := 23 } (va_Pc [.ref eu, .long (jl (pp)), .long (jl (qq))] (cpre D cI cJ cF [(eu, .inr (0, [.long (jl (j1)), .long (jl (j2)), .long (jl (j3))]))] sz)) (va_Qv (fun (u : Int × Int × Int) => eP pp qq u.1 u.2.1 u.2.2) (fun (u : Int × Int × Int) t => va_P D classes [(eu, .inr (0, [.long (jl (u.1)), .long (jl (u.2.1)), .long (jl (u.2.2))]))] t.heap) (va_A [(eu, .inr (0, [.long (jl (j1)), .long (jl (j2)), .long (jl (j3))]))] sz)) 0 0 (va_A [(eu, .inr (0, [.long (jl (j1)), .long (jl (j2)), .long (jl (j3))]))] sz) := by
  refine c_of (Qc := fun sz => va_Qv (fun (u : Int × Int × Int) => eP pp qq u.1 u.2.1 u.2.2) (fun (u : Int × Int × Int) t => va_P D classes [(eu, .inr (0, [.long (jl (u.1)), .long (jl (u.2.1)), .long (jl (u.2.2))]))] t.heap) (va_A [(eu, .inr (0, [.long (jl (j1)), .long (jl (j2)), .long (jl (j3))]))] sz)) (by decide +kernel) co_E_solve (Nat.le_of_ble_eq_true rfl) ?_
  intro pq eq s mq below meth cq A X hK hP hD hS hA hAe ls hl
  obtain ⟨hx, hb, hml, hown, hr, hlocks, hts⟩ := id X
  have hl : lv_has ls 20 [(0, .ref eu), (1, .long (jl (pp))), (3, .long (jl (qq)))] := hl
  refine lv_lload_n hx hb d_E_solve_0 rfl (lv_at hl 2 rfl) ?_
  refine lv_lstore (lv' := [(5, .long (jl (qq))), (0, .ref eu), (1, .long (jl (pp))), (3, .long (jl (qq)))]) hx hb d_E_solve_1 hl (by decide) rfl (fun ls hl => ?_)
  refine w_lconst (v := 0) hx hb rfl d_E_solve_3 ?_
  refine lv_lstore (lv' := [(7, .long (jl (0))), (5, .long (jl (qq))), (0, .ref eu), (1, .long (jl (pp))), (3, .long (jl (qq)))]) hx hb d_E_solve_4 hl (by decide) rfl (fun ls hl => ?_)
  refine w_lconst (v := 1) hx hb rfl d_E_solve_6 ?_
  refine lv_lstore (lv' := [(9, .long (jl (1))), (7, .long (jl (0))), (5, .long (jl (qq))), (0, .ref eu), (1, .long (jl (pp))), (3, .long (jl (qq)))]) hx hb d_E_solve_7 hl (by decide) rfl (fun ls hl => ?_)
  refine lv_aload_n hx hb d_E_solve_9 rfl (lv_at hl 3 rfl) ?_
  refine lv_lload_n hx hb d_E_solve_10 rfl (lv_at hl 4 rfl) ?_
  refine va_put (D := D) (ci := 0) (v := .long (jl (pp))) (ty := .long) (C := R_E) (T := T_E) (N := 3) hx hb hts uw_E ty_E ty_E_ok nm_E hown hK.1 hP hD hS 0 rfl rfl 0 (by decide) (hts _ fl_E_9) (fun _ h9 => h9) rfl (by decide +kernel) rfl rfl (Nat.le_of_ble_eq_true rfl) d_E_solve_11 (fun H locs hP hD hS => ?_)
  have hP : va_P D classes [(eu, .inr (0, [.long (jl (pp)), .long (jl (j2)), .long (jl (j3))]))] H := hP
  have hD : va_D A [(eu, .inr (0, [.long (jl (pp)), .long (jl (j2)), .long (jl (j3))]))] := hD
  refine lv_aload_n hx hb d_E_solve_14 rfl (lv_at hl 3 rfl) ?_
  refine w_lconst (v := 1) hx hb rfl d_E_solve_15 ?_
  refine va_put (D := D) (ci := 0) (v := .long (jl (1))) (ty := .long) (C := R_E) (T := T_E) (N := 3) hx hb hts uw_E ty_E ty_E_ok nm_E hown hK.1 hP hD hS 0 rfl rfl 1 (by decide) (hts _ fl_E_15) (fun _ h9 => h9) rfl (by decide +kernel) rfl rfl (Nat.le_of_ble_eq_true rfl) d_E_solve_16 (fun H locs hP hD hS => ?_)
  have hP : va_P D classes [(eu, .inr (0, [.long (jl (pp)), .long (jl (1)), .long (jl (j3))]))] H := hP
  have hD : va_D A [(eu, .inr (0, [.long (jl (pp)), .long (jl (1)), .long (jl (j3))]))] := hD
  refine lv_aload_n hx hb d_E_solve_19 rfl (lv_at hl 3 rfl) ?_
  refine w_lconst (v := 0) hx hb rfl d_E_solve_20 ?_
  refine va_put (D := D) (ci := 0) (v := .long (jl (0))) (ty := .long) (C := R_E) (T := T_E) (N := 3) hx hb hts uw_E ty_E ty_E_ok nm_E hown hK.1 hP hD hS 0 rfl rfl 2 (by decide) (hts _ fl_E_18) (fun _ h9 => h9) rfl (by decide +kernel) rfl rfl (Nat.le_of_ble_eq_true rfl) d_E_solve_21 (fun H locs hP hD hS => ?_)
  have hP : va_P D classes [(eu, .inr (0, [.long (jl (pp)), .long (jl (1)), .long (jl (0))]))] H := hP
  have hD : va_D A [(eu, .inr (0, [.long (jl (pp)), .long (jl (1)), .long (jl (0))]))] := hD
  refine w_iconst hx hb d_E_solve_24 ?_
  refine lv_istore (lv' := [(11, .int (ji (0))), (9, .long (jl (1))), (7, .long (jl (0))), (5, .long (jl (qq))), (0, .ref eu), (1, .long (jl (pp))), (3, .long (jl (qq)))]) hx hb d_E_solve_25 hl (by decide) rfl (fun ls hl => ?_)
  refine lpn (I := fun n H locs ls => ∃ (i : Int) (c0 : Int) (l0 : Int) (r0 : Int) (nc : Int) (nl : Int) (nr : Int) (kk : Nat), kk = n ∧ (eI pp qq kk c0 l0 r0 nc nl nr ∧ 0 ≤ i ∧ i + kk < 1000000) ∧ va_P D classes [(eu, .inr (0, [.long (jl (c0)), .long (jl (l0)), .long (jl (r0))]))] H ∧ va_D A [(eu, .inr (0, [.long (jl (c0)), .long (jl (l0)), .long (jl (r0))]))] ∧ va_S A s.heap H locs ∧ lv_has ls 20 [(0, .ref eu), (1, .long (jl (pp))), (3, .long (jl (qq))), (5, .long (jl (nc))), (7, .long (jl (nl))), (9, .long (jl (nr))), (11, .int (ji (i)))]) ?_ _ _ _ _ ⟨0, pp, 1, 0, qq, 0, 1, 62, rfl, ⟨eI_0 hp0 hq0, by decide, by decide⟩, hP, hD, hS, lv_sub hl [4, 5, 6, 3, 2, 1, 0] rfl⟩
  rintro n H locs ls ⟨i, c0, l0, r0, nc, nl, nr, kk, rfl, hi, hP, hD, hS, hl⟩ ih
  refine lv_iload hx hb d_E_solve_27 (lv_at hl 6 rfl) ?_
  refine w_ldc (v := 1000000) (n := 1000000) hx hb (by decide) hown (hts _ kc_E_21) d_E_solve_29 ?_
  refine wi_cge hx hb ⟨by omega, by omega⟩ ⟨by decide, by decide⟩ d_E_solve_31 (tgt := 124) (by decide) (fun h_1 => ?_) (fun h_1 => ?_)
  · exact absurd hi.2.2 (by omega)
  · obtain ⟨hE, i1, i2⟩ := hi
    have hcb := hE.2.2.2.1.1
    have hnb := hE.2.2.2.1.2
    have zc1 := hcb.1
    have zc2 := hcb.2
    have zn1 := hnb.1
    have zn2 := hnb.2
    refine lv_lload hx hb d_E_solve_34 (lv_at hl 3 rfl) ?_
    refine w_lconst (v := 0) hx hb rfl d_E_solve_36 ?_
    refine wl_ceq hx hb hnb.j ⟨by decide, by decide⟩ d_E_solve_37 d_E_solve_38 (tgt := 124) (by decide) (fun h_2 => ?_) (fun h_2 => ?_)
    · have hE0 := hE
      rw [h_2] at hE0
      refine lv_aload_n hx hb d_E_solve_124 rfl (lv_at hl 0 rfl) ?_
      refine va_get (D := D) (ci := 0) (v := .long (jl (c0))) (C := R_E) (T := T_E) (N := 3) hx hb hts uw_E hown hK.1 hP 0 rfl rfl 0 (by decide) (hts _ fl_E_9) (fun _ h9 => h9) rfl d_E_solve_125 ?_
      refine w_lconst (v := 0) hx hb rfl d_E_solve_128 ?_
      refine wl_cge hx hb hcb.j ⟨by decide, by decide⟩ d_E_solve_129 d_E_solve_130 (tgt := 160) (by decide) (fun h_3 => ?_) (fun h_3 => ?_)
      · exact rt_v X hAe hS (c0, l0, r0) ((eI_e hE0).1 (by omega)) hP d_E_solve_160
      · refine lv_aload_n hx hb d_E_solve_133 rfl (lv_at hl 0 rfl) ?_
        refine lv_aload_n hx hb d_E_solve_134 rfl (lv_at hl 0 rfl) ?_
        refine va_get (D := D) (ci := 0) (v := .long (jl (c0))) (C := R_E) (T := T_E) (N := 3) hx hb hts uw_E hown hK.1 hP 0 rfl rfl 0 (by decide) (hts _ fl_E_9) (fun _ h9 => h9) rfl d_E_solve_135 ?_
        refine wl_neg hx hb d_E_solve_138 ?_
        refine va_put (D := D) (ci := 0) (v := .long (jl (-(c0)))) (ty := .long) (C := R_E) (T := T_E) (N := 3) hx hb hts uw_E ty_E ty_E_ok nm_E hown hK.1 hP hD hS 0 rfl rfl 0 (by decide) (hts _ fl_E_9) (fun _ h9 => h9) rfl (by decide +kernel) rfl rfl (Nat.le_of_ble_eq_true rfl) d_E_solve_139 (fun H locs hP hD hS => ?_)
        have hP : va_P D classes [(eu, .inr (0, [.long (jl (-(c0))), .long (jl (l0)), .long (jl (r0))]))] H := hP
        have hD : va_D A [(eu, .inr (0, [.long (jl (-(c0))), .long (jl (l0)), .long (jl (r0))]))] := hD
        refine lv_aload_n hx hb d_E_solve_142 rfl (lv_at hl 0 rfl) ?_
        refine lv_aload_n hx hb d_E_solve_143 rfl (lv_at hl 0 rfl) ?_
        refine va_get (D := D) (ci := 0) (v := .long (jl (l0))) (C := R_E) (T := T_E) (N := 3) hx hb hts uw_E hown hK.1 hP 0 rfl rfl 1 (by decide) (hts _ fl_E_15) (fun _ h9 => h9) rfl d_E_solve_144 ?_
        refine wl_neg hx hb d_E_solve_147 ?_
        refine va_put (D := D) (ci := 0) (v := .long (jl (-(l0)))) (ty := .long) (C := R_E) (T := T_E) (N := 3) hx hb hts uw_E ty_E ty_E_ok nm_E hown hK.1 hP hD hS 0 rfl rfl 1 (by decide) (hts _ fl_E_15) (fun _ h9 => h9) rfl (by decide +kernel) rfl rfl (Nat.le_of_ble_eq_true rfl) d_E_solve_148 (fun H locs hP hD hS => ?_)
        have hP : va_P D classes [(eu, .inr (0, [.long (jl (-(c0))), .long (jl (-(l0))), .long (jl (r0))]))] H := hP
        have hD : va_D A [(eu, .inr (0, [.long (jl (-(c0))), .long (jl (-(l0))), .long (jl (r0))]))] := hD
        refine lv_aload_n hx hb d_E_solve_151 rfl (lv_at hl 0 rfl) ?_
        refine lv_aload_n hx hb d_E_solve_152 rfl (lv_at hl 0 rfl) ?_
        refine va_get (D := D) (ci := 0) (v := .long (jl (r0))) (C := R_E) (T := T_E) (N := 3) hx hb hts uw_E hown hK.1 hP 0 rfl rfl 2 (by decide) (hts _ fl_E_18) (fun _ h9 => h9) rfl d_E_solve_153 ?_
        refine wl_neg hx hb d_E_solve_156 ?_
        refine va_put (D := D) (ci := 0) (v := .long (jl (-(r0)))) (ty := .long) (C := R_E) (T := T_E) (N := 3) hx hb hts uw_E ty_E ty_E_ok nm_E hown hK.1 hP hD hS 0 rfl rfl 2 (by decide) (hts _ fl_E_18) (fun _ h9 => h9) rfl (by decide +kernel) rfl rfl (Nat.le_of_ble_eq_true rfl) d_E_solve_157 (fun H locs hP hD hS => ?_)
        have hP : va_P D classes [(eu, .inr (0, [.long (jl (-(c0))), .long (jl (-(l0))), .long (jl (-(r0)))]))] H := hP
        have hD : va_D A [(eu, .inr (0, [.long (jl (-(c0))), .long (jl (-(l0))), .long (jl (-(r0)))]))] := hD
        exact rt_v X hAe hS (-c0, -l0, -r0) ((eI_e hE0).2 (by omega)) hP d_E_solve_160
    · obtain ⟨k2, rfl, hE2⟩ := eI_s hE h_2
      refine lv_aload_n hx hb d_E_solve_41 rfl (lv_at hl 0 rfl) ?_
      refine va_get (D := D) (ci := 0) (v := .long (jl (c0))) (C := R_E) (T := T_E) (N := 3) hx hb hts uw_E hown hK.1 hP 0 rfl rfl 0 (by decide) (hts _ fl_E_9) (fun _ h9 => h9) rfl d_E_solve_42 ?_
      refine lv_lload hx hb d_E_solve_45 (lv_at hl 3 rfl) ?_
      refine cl_l (rn_SN (wc := []) (As := [.long (jl (c0)), .long (jl (nc))]) (rest := []) X hK (c_X_quotient l D cI cJ cF hcb.j hnb.j _) co_X_quotient in_X nm_E_22 st_X_quotient 2 rfl (by decide +kernel) ⟨Nat.le_of_ble_eq_true rfl, Nat.le_of_ble_eq_true rfl⟩ hP hD [] rfl (by decide) hl.1 rfl (Nat.le_of_ble_eq_true rfl) d_E_solve_47 ⟨Nat.zero_le _, Nat.zero_le _⟩) hP hD hS hA [] rfl (by decide) (fun _ => rfl) (fun r_4 u_5 H locs hp hP hD hS => ?_)
      have hp : r_4 = jl (c0.tdiv nc) := by rw [show r_4 = _ from hp]; rw [if_neg h_2]
      have hP : va_P D classes [(eu, .inr (0, [.long (jl (c0)), .long (jl (l0)), .long (jl (r0))]))] H := hP
      have hD : va_D A [(eu, .inr (0, [.long (jl (c0)), .long (jl (l0)), .long (jl (r0))]))] := hD
      obtain rfl : r_4 = jl (c0.tdiv nc) := hp
      refine lv_lstore (lv' := [(12, .long (jl (c0.tdiv nc))), (0, .ref eu), (1, .long (jl (pp))), (3, .long (jl (qq))), (5, .long (jl (nc))), (7, .long (jl (nl))), (9, .long (jl (nr))), (11, .int (ji (i)))]) hx hb d_E_solve_50 hl (by decide) rfl (fun ls hl => ?_)
      refine lv_aload_n hx hb d_E_solve_52 rfl (lv_at hl 1 rfl) ?_
      refine va_get (D := D) (ci := 0) (v := .long (jl (c0))) (C := R_E) (T := T_E) (N := 3) hx hb hts uw_E hown hK.1 hP 0 rfl rfl 0 (by decide) (hts _ fl_E_9) (fun _ h9 => h9) rfl d_E_solve_53 ?_
      refine lv_lload hx hb d_E_solve_56 (lv_at hl 0 rfl) ?_
      refine lv_lload hx hb d_E_solve_58 (lv_at hl 4 rfl) ?_
      refine wl_mul hx hb d_E_solve_60 ?_
      refine wl_sub hx hb d_E_solve_61 ?_
      refine lv_lstore (lv' := [(14, .long (jl ((c0) - ((c0.tdiv nc) * (nc))))), (12, .long (jl (c0.tdiv nc))), (0, .ref eu), (1, .long (jl (pp))), (3, .long (jl (qq))), (5, .long (jl (nc))), (7, .long (jl (nl))), (9, .long (jl (nr))), (11, .int (ji (i)))]) hx hb d_E_solve_62 hl (by decide) rfl (fun ls hl => ?_)
      refine lv_aload_n hx hb d_E_solve_64 rfl (lv_at hl 2 rfl) ?_
      refine va_get (D := D) (ci := 0) (v := .long (jl (l0))) (C := R_E) (T := T_E) (N := 3) hx hb hts uw_E hown hK.1 hP 0 rfl rfl 1 (by decide) (hts _ fl_E_15) (fun _ h9 => h9) rfl d_E_solve_65 ?_
      refine lv_lload hx hb d_E_solve_68 (lv_at hl 1 rfl) ?_
      refine lv_lload hx hb d_E_solve_70 (lv_at hl 6 rfl) ?_
      refine wl_mul hx hb d_E_solve_72 ?_
      refine wl_sub hx hb d_E_solve_73 ?_
      refine lv_lstore (lv' := [(16, .long (jl ((l0) - ((c0.tdiv nc) * (nl))))), (14, .long (jl ((c0) - ((c0.tdiv nc) * (nc))))), (12, .long (jl (c0.tdiv nc))), (0, .ref eu), (1, .long (jl (pp))), (3, .long (jl (qq))), (5, .long (jl (nc))), (7, .long (jl (nl))), (9, .long (jl (nr))), (11, .int (ji (i)))]) hx hb d_E_solve_74 hl (by decide) rfl (fun ls hl => ?_)
      refine lv_aload_n hx hb d_E_solve_76 rfl (lv_at hl 3 rfl) ?_
      refine va_get (D := D) (ci := 0) (v := .long (jl (r0))) (C := R_E) (T := T_E) (N := 3) hx hb hts uw_E hown hK.1 hP 0 rfl rfl 2 (by decide) (hts _ fl_E_18) (fun _ h9 => h9) rfl d_E_solve_77 ?_
      refine lv_lload hx hb d_E_solve_80 (lv_at hl 2 rfl) ?_
      refine lv_lload hx hb d_E_solve_82 (lv_at hl 8 rfl) ?_
      refine wl_mul hx hb d_E_solve_84 ?_
      refine wl_sub hx hb d_E_solve_85 ?_
      refine lv_lstore (lv' := [(18, .long (jl ((r0) - ((c0.tdiv nc) * (nr))))), (16, .long (jl ((l0) - ((c0.tdiv nc) * (nl))))), (14, .long (jl ((c0) - ((c0.tdiv nc) * (nc))))), (12, .long (jl (c0.tdiv nc))), (0, .ref eu), (1, .long (jl (pp))), (3, .long (jl (qq))), (5, .long (jl (nc))), (7, .long (jl (nl))), (9, .long (jl (nr))), (11, .int (ji (i)))]) hx hb d_E_solve_86 hl (by decide) rfl (fun ls hl => ?_)
      refine lv_aload_n hx hb d_E_solve_88 rfl (lv_at hl 4 rfl) ?_
      refine lv_lload hx hb d_E_solve_89 (lv_at hl 7 rfl) ?_
      refine va_put (D := D) (ci := 0) (v := .long (jl (nc))) (ty := .long) (C := R_E) (T := T_E) (N := 3) hx hb hts uw_E ty_E ty_E_ok nm_E hown hK.1 hP hD hS 0 rfl rfl 0 (by decide) (hts _ fl_E_9) (fun _ h9 => h9) rfl (by decide +kernel) rfl rfl (Nat.le_of_ble_eq_true rfl) d_E_solve_91 (fun H locs hP hD hS => ?_)
      have hP : va_P D classes [(eu, .inr (0, [.long (jl (nc)), .long (jl (l0)), .long (jl (r0))]))] H := hP
      have hD : va_D A [(eu, .inr (0, [.long (jl (nc)), .long (jl (l0)), .long (jl (r0))]))] := hD
      refine lv_aload_n hx hb d_E_solve_94 rfl (lv_at hl 4 rfl) ?_
      refine lv_lload hx hb d_E_solve_95 (lv_at hl 8 rfl) ?_
      refine va_put (D := D) (ci := 0) (v := .long (jl (nl))) (ty := .long) (C := R_E) (T := T_E) (N := 3) hx hb hts uw_E ty_E ty_E_ok nm_E hown hK.1 hP hD hS 0 rfl rfl 1 (by decide) (hts _ fl_E_15) (fun _ h9 => h9) rfl (by decide +kernel) rfl rfl (Nat.le_of_ble_eq_true rfl) d_E_solve_97 (fun H locs hP hD hS => ?_)
      have hP : va_P D classes [(eu, .inr (0, [.long (jl (nc)), .long (jl (nl)), .long (jl (r0))]))] H := hP
      have hD : va_D A [(eu, .inr (0, [.long (jl (nc)), .long (jl (nl)), .long (jl (r0))]))] := hD
      refine lv_aload_n hx hb d_E_solve_100 rfl (lv_at hl 4 rfl) ?_
      refine lv_lload hx hb d_E_solve_101 (lv_at hl 9 rfl) ?_
      refine va_put (D := D) (ci := 0) (v := .long (jl (nr))) (ty := .long) (C := R_E) (T := T_E) (N := 3) hx hb hts uw_E ty_E ty_E_ok nm_E hown hK.1 hP hD hS 0 rfl rfl 2 (by decide) (hts _ fl_E_18) (fun _ h9 => h9) rfl (by decide +kernel) rfl rfl (Nat.le_of_ble_eq_true rfl) d_E_solve_103 (fun H locs hP hD hS => ?_)
      have hP : va_P D classes [(eu, .inr (0, [.long (jl (nc)), .long (jl (nl)), .long (jl (nr))]))] H := hP
      have hD : va_D A [(eu, .inr (0, [.long (jl (nc)), .long (jl (nl)), .long (jl (nr))]))] := hD
      refine lv_lload hx hb d_E_solve_106 (lv_at hl 2 rfl) ?_
      refine lv_lstore (lv' := [(5, .long (jl ((c0) - ((c0.tdiv nc) * (nc))))), (18, .long (jl ((r0) - ((c0.tdiv nc) * (nr))))), (16, .long (jl ((l0) - ((c0.tdiv nc) * (nl))))), (14, .long (jl ((c0) - ((c0.tdiv nc) * (nc))))), (12, .long (jl (c0.tdiv nc))), (0, .ref eu), (1, .long (jl (pp))), (3, .long (jl (qq))), (7, .long (jl (nl))), (9, .long (jl (nr))), (11, .int (ji (i)))]) hx hb d_E_solve_108 hl (by decide) rfl (fun ls hl => ?_)
      refine lv_lload hx hb d_E_solve_110 (lv_at hl 2 rfl) ?_
      refine lv_lstore (lv' := [(7, .long (jl ((l0) - ((c0.tdiv nc) * (nl))))), (5, .long (jl ((c0) - ((c0.tdiv nc) * (nc))))), (18, .long (jl ((r0) - ((c0.tdiv nc) * (nr))))), (16, .long (jl ((l0) - ((c0.tdiv nc) * (nl))))), (14, .long (jl ((c0) - ((c0.tdiv nc) * (nc))))), (12, .long (jl (c0.tdiv nc))), (0, .ref eu), (1, .long (jl (pp))), (3, .long (jl (qq))), (9, .long (jl (nr))), (11, .int (ji (i)))]) hx hb d_E_solve_112 hl (by decide) rfl (fun ls hl => ?_)
      refine lv_lload hx hb d_E_solve_114 (lv_at hl 2 rfl) ?_
      refine lv_lstore (lv' := [(9, .long (jl ((r0) - ((c0.tdiv nc) * (nr))))), (7, .long (jl ((l0) - ((c0.tdiv nc) * (nl))))), (5, .long (jl ((c0) - ((c0.tdiv nc) * (nc))))), (18, .long (jl ((r0) - ((c0.tdiv nc) * (nr))))), (16, .long (jl ((l0) - ((c0.tdiv nc) * (nl))))), (14, .long (jl ((c0) - ((c0.tdiv nc) * (nc))))), (12, .long (jl (c0.tdiv nc))), (0, .ref eu), (1, .long (jl (pp))), (3, .long (jl (qq))), (11, .int (ji (i)))]) hx hb d_E_solve_116 hl (by decide) rfl (fun ls hl => ?_)
      refine lv_iinc (v := ji ((i) + (1))) (lv' := [(11, .int (ji ((i) + (1)))), (9, .long (jl ((r0) - ((c0.tdiv nc) * (nr))))), (7, .long (jl ((l0) - ((c0.tdiv nc) * (nl))))), (5, .long (jl ((c0) - ((c0.tdiv nc) * (nc))))), (18, .long (jl ((r0) - ((c0.tdiv nc) * (nr))))), (16, .long (jl ((l0) - ((c0.tdiv nc) * (nl))))), (14, .long (jl ((c0) - ((c0.tdiv nc) * (nc))))), (12, .long (jl (c0.tdiv nc))), (0, .ref eu), (1, .long (jl (pp))), (3, .long (jl (qq)))]) hx hb d_E_solve_118 hl (k := 10) rfl (ji_add _ _) (by decide) rfl (fun ls hl => ?_)
      refine lv_goto (tgt := 27) hx hb d_E_solve_121 (by decide) ?_
      exact ih _ _ _ _ (by omega) ⟨i + 1, nc, nl, nr, c0 - c0.tdiv nc * nc, l0 - c0.tdiv nc * nl, r0 - c0.tdiv nc * nr, k2, rfl, ⟨hE2, by omega, by omega⟩, hP, hD, hS, lv_sub hl [8, 9, 10, 3, 2, 1, 0] rfl⟩

set_option maxHeartbeats 4000000 in
set_option maxRecDepth 100000 in
theorem c_G_multiply (l : Launch) (D : va_G) (cI cJ cF : ClassId) {g o wk st bs eu : Nat} {Dd w : Int} {f h : Nat} {a b c a2 b2 c2 j1 j2 j3 s0 n0 : Int} (hg : gD Dd w) (hs : fm_sn Dd s0 n0) (hf : fm_v Dd (a, b, c)) (hfr : fm_red Dd w (a, b, c)) (hh : fm_v Dd (a2, b2, c2)) (hhr : fm_red Dd w (a2, b2, c2)) : ∀ sz, Met l y_G_multiply (Cond.code y_G_multiply b_G_multiply 15 none :: wb) { frames := 4, cells := 0, slots := 0, locals := 100 } (va_Pc [.ref g, .ref f, .ref h] (cpre D cI cJ cF [(g, .inr (2, [.ref o, .ref wk, .ref st, .ref bs, .ref eu, .int (ji (Dd)), .int (ji (w))])), (eu, .inr (0, [.long (jl (j1)), .long (jl (j2)), .long (jl (j3))])), (f, .inr (1, [.long (jl (a)), .long (jl (b)), .long (jl (c))])), (h, .inr (1, [.long (jl (a2)), .long (jl (b2)), .long (jl (c2))]))] sz)) (va_Qv (fun (u : fm_F × Int × Int × Int) => fm_v Dd u.1 ∧ fm_red Dd w u.1 ∧ fm_cp s0 n0 (a, b, c) (a2, b2, c2) u.1) (fun (u : fm_F × Int × Int × Int) t => va_P D classes [(g, .inr (2, [.ref o, .ref wk, .ref st, .ref bs, .ref eu, .int (ji (Dd)), .int (ji (w))])), (eu, .inr (0, [.long (jl (u.2.1)), .long (jl (u.2.2.1)), .long (jl (u.2.2.2))])), (f, .inr (1, [.long (jl ((u.1).1)), .long (jl ((u.1).2.1)), .long (jl ((u.1).2.2))])), (h, .inr (1, [.long (jl (a2)), .long (jl (b2)), .long (jl (c2))]))] t.heap) (va_A [(g, .inr (2, [.ref o, .ref wk, .ref st, .ref bs, .ref eu, .int (ji (Dd)), .int (ji (w))])), (eu, .inr (0, [.long (jl (j1)), .long (jl (j2)), .long (jl (j3))])), (f, .inr (1, [.long (jl (a)), .long (jl (b)), .long (jl (c))])), (h, .inr (1, [.long (jl (a2)), .long (jl (b2)), .long (jl (c2))]))] sz)) 0 0 (va_A [(g, .inr (2, [.ref o, .ref wk, .ref st, .ref bs, .ref eu, .int (ji (Dd)), .int (ji (w))])), (eu, .inr (0, [.long (jl (j1)), .long (jl (j2)), .long (jl (j3))])), (f, .inr (1, [.long (jl (a)), .long (jl (b)), .long (jl (c))])), (h, .inr (1, [.long (jl (a2)), .long (jl (b2)), .long (jl (c2))]))] sz) := by
  refine c_of (Qc := fun sz => va_Qv (fun (u : fm_F × Int × Int × Int) => fm_v Dd u.1 ∧ fm_red Dd w u.1 ∧ fm_cp s0 n0 (a, b, c) (a2, b2, c2) u.1) (fun (u : fm_F × Int × Int × Int) t => va_P D classes [(g, .inr (2, [.ref o, .ref wk, .ref st, .ref bs, .ref eu, .int (ji (Dd)), .int (ji (w))])), (eu, .inr (0, [.long (jl (u.2.1)), .long (jl (u.2.2.1)), .long (jl (u.2.2.2))])), (f, .inr (1, [.long (jl ((u.1).1)), .long (jl ((u.1).2.1)), .long (jl ((u.1).2.2))])), (h, .inr (1, [.long (jl (a2)), .long (jl (b2)), .long (jl (c2))]))] t.heap) (va_A [(g, .inr (2, [.ref o, .ref wk, .ref st, .ref bs, .ref eu, .int (ji (Dd)), .int (ji (w))])), (eu, .inr (0, [.long (jl (j1)), .long (jl (j2)), .long (jl (j3))])), (f, .inr (1, [.long (jl (a)), .long (jl (b)), .long (jl (c))])), (h, .inr (1, [.long (jl (a2)), .long (jl (b2)), .long (jl (c2))]))] sz)) (by decide +kernel) co_G_multiply (Nat.le_of_ble_eq_true rfl) ?_
  intro pq eq s mq below meth cq A X hK hP hD hS hA hAe ls hl
  obtain ⟨hx, hb, hml, hown, hr, hlocks, hts⟩ := id X
  have hl : lv_has ls 15 [(0, .ref g), (1, .ref f), (2, .ref h)] := hl
  have zd1 := hg.2.1
  have zd2 := hg.2.2.1
  obtain ⟨ka, kb⟩ := red_1023 hg hf.1 hfr
  have ra := ab_range ka
  have rb := ab_range kb
  have zA : b30 a := ⟨by omega, by omega⟩
  obtain ⟨ka2, kb2⟩ := red_1023 hg hh.1 hhr
  have ra2 := ab_range ka2
  have rb2 := ab_range kb2
  have zA2 : b30 a2 := ⟨by omega, by omega⟩
  obtain ⟨S, T, hSm, hTm⟩ := halves hs hf.1 hh.1
  have rbb := ab_range (ab_prod kb kb2)
  have zS : b30 S := ⟨by omega, by omega⟩
  refine lv_aload_n hx hb d_G_multiply_0 rfl (lv_at hl 1 rfl) ?_
  refine va_getN (D := D) (ci := 1) (v := .long (jl (b))) (C := R_F) (T := T_F) (N := 3) hx hb hts uw_F hown hK.1 hP 2 rfl rfl 1 (by decide) ((hK.2 _ nf_G_97).use rfl) (fun _ h9 => h9) rfl d_G_multiply_1 ?_
  refine lv_aload_n hx hb d_G_multiply_4 rfl (lv_at hl 2 rfl) ?_
  refine va_getN (D := D) (ci := 1) (v := .long (jl (b2))) (C := R_F) (T := T_F) (N := 3) hx hb hts uw_F hown hK.1 hP 3 rfl rfl 1 (by decide) ((hK.2 _ nf_G_97).use rfl) (fun _ h9 => h9) rfl d_G_multiply_5 ?_
  refine wl_add hx hb d_G_multiply_8 ?_
  refine w_ldc2 (v := 2) (n := 2) hx hb (by decide) hown (hts _ kc_G_100) d_G_multiply_9 ?_
  refine wl_div hx hb ⟨by omega, by omega⟩ ⟨by decide, by decide⟩ (by decide) d_G_multiply_12 ?_
  rw [td_2 hSm]
  refine lv_lstore_n (lv' := [(3, .long (jl (S))), (0, .ref g), (1, .ref f), (2, .ref h)]) hx hb d_G_multiply_13 rfl hl (by decide) rfl (fun ls hl => ?_)
  refine lv_aload_n hx hb d_G_multiply_14 rfl (lv_at hl 1 rfl) ?_
  refine va_get (D := D) (ci := 2) (v := .ref eu) (C := R_G) (T := T_G) (N := 7) hx hb hts uw_G hown hK.1 hP 0 rfl rfl 4 (by decide) (hts _ fl_G_30) (fun _ h9 => h9) rfl d_G_multiply_15 ?_
  refine lv_aload_n hx hb d_G_multiply_18 rfl (lv_at hl 2 rfl) ?_
  refine va_getN (D := D) (ci := 1) (v := .long (jl (a))) (C := R_F) (T := T_F) (N := 3) hx hb hts uw_F hown hK.1 hP 2 rfl rfl 0 (by decide) ((hK.2 _ nf_G_94).use rfl) (fun _ h9 => h9) rfl d_G_multiply_19 ?_
  refine lv_aload_n hx hb d_G_multiply_22 rfl (lv_at hl 3 rfl) ?_
  refine va_getN (D := D) (ci := 1) (v := .long (jl (a2))) (C := R_F) (T := T_F) (N := 3) hx hb hts uw_F hown hK.1 hP 3 rfl rfl 0 (by decide) ((hK.2 _ nf_G_94).use rfl) (fun _ h9 => h9) rfl d_G_multiply_23 ?_
  refine cl_v (rn_VN (wc := [(eu, .inr (0, [.long (jl (j1)), .long (jl (j2)), .long (jl (j3))]))]) (As := [.long (jl (a)), .long (jl (a2))]) (rest := []) X hK (c_E_solve l D cI cJ cF zA zA2 _) co_E_solve in_E nm_G_63 im_E_solve se_E_solve 2 rfl (by decide +kernel) ⟨Nat.le_of_ble_eq_true rfl, Nat.le_of_ble_eq_true rfl⟩ hP hD [1] rfl (by decide) (q0 := 0) (ci := 0) rfl rfl rfl hl.1 rfl (Nat.le_of_ble_eq_true rfl) d_G_multiply_26 ⟨Nat.zero_le _, Nat.zero_le _⟩) hP hD hS hA [1] rfl (by decide) (fun _ => rfl) (fun u_1 H locs hp hP hD hS => ?_)
  obtain ⟨g1, x1, y1⟩ := u_1
  have E1 : eP a a2 g1 x1 y1 := hp
  have hP : va_P D classes [(g, .inr (2, [.ref o, .ref wk, .ref st, .ref bs, .ref eu, .int (ji (Dd)), .int (ji (w))])), (eu, .inr (0, [.long (jl (g1)), .long (jl (x1)), .long (jl (y1))])), (f, .inr (1, [.long (jl (a)), .long (jl (b)), .long (jl (c))])), (h, .inr (1, [.long (jl (a2)), .long (jl (b2)), .long (jl (c2))]))] H := hP
  have hD : va_D A [(g, .inr (2, [.ref o, .ref wk, .ref st, .ref bs, .ref eu, .int (ji (Dd)), .int (ji (w))])), (eu, .inr (0, [.long (jl (g1)), .long (jl (x1)), .long (jl (y1))])), (f, .inr (1, [.long (jl (a)), .long (jl (b)), .long (jl (c))])), (h, .inr (1, [.long (jl (a2)), .long (jl (b2)), .long (jl (c2))]))] := hD
  refine lv_aload_n hx hb d_G_multiply_29 rfl (lv_at hl 1 rfl) ?_
  refine va_get (D := D) (ci := 2) (v := .ref eu) (C := R_G) (T := T_G) (N := 7) hx hb hts uw_G hown hK.1 hP 0 rfl rfl 4 (by decide) (hts _ fl_G_30) (fun _ h9 => h9) rfl d_G_multiply_30 ?_
  refine va_getN (D := D) (ci := 0) (v := .long (jl (x1))) (C := R_E) (T := T_E) (N := 3) hx hb hts uw_E hown hK.1 hP 1 rfl rfl 1 (by decide) ((hK.2 _ nf_G_126).use rfl) (fun _ h9 => h9) rfl d_G_multiply_33 ?_
  refine lv_lstore (lv' := [(5, .long (jl (x1))), (3, .long (jl (S))), (0, .ref g), (1, .ref f), (2, .ref h)]) hx hb d_G_multiply_36 hl (by decide) rfl (fun ls hl => ?_)
  refine lv_aload_n hx hb d_G_multiply_38 rfl (lv_at hl 2 rfl) ?_
  refine va_get (D := D) (ci := 2) (v := .ref eu) (C := R_G) (T := T_G) (N := 7) hx hb hts uw_G hown hK.1 hP 0 rfl rfl 4 (by decide) (hts _ fl_G_30) (fun _ h9 => h9) rfl d_G_multiply_39 ?_
  refine va_getN (D := D) (ci := 0) (v := .long (jl (y1))) (C := R_E) (T := T_E) (N := 3) hx hb hts uw_E hown hK.1 hP 1 rfl rfl 2 (by decide) ((hK.2 _ nf_G_129).use rfl) (fun _ h9 => h9) rfl d_G_multiply_42 ?_
  refine lv_lstore (lv' := [(7, .long (jl (y1))), (5, .long (jl (x1))), (3, .long (jl (S))), (0, .ref g), (1, .ref f), (2, .ref h)]) hx hb d_G_multiply_45 hl (by decide) rfl (fun ls hl => ?_)
  refine lv_aload_n hx hb d_G_multiply_47 rfl (lv_at hl 3 rfl) ?_
  refine va_get (D := D) (ci := 2) (v := .ref eu) (C := R_G) (T := T_G) (N := 7) hx hb hts uw_G hown hK.1 hP 0 rfl rfl 4 (by decide) (hts _ fl_G_30) (fun _ h9 => h9) rfl d_G_multiply_48 ?_
  refine lv_aload_n hx hb d_G_multiply_51 rfl (lv_at hl 3 rfl) ?_
  refine va_get (D := D) (ci := 2) (v := .ref eu) (C := R_G) (T := T_G) (N := 7) hx hb hts uw_G hown hK.1 hP 0 rfl rfl 4 (by decide) (hts _ fl_G_30) (fun _ h9 => h9) rfl d_G_multiply_52 ?_
  refine va_getN (D := D) (ci := 0) (v := .long (jl (g1))) (C := R_E) (T := T_E) (N := 3) hx hb hts uw_E hown hK.1 hP 1 rfl rfl 0 (by decide) ((hK.2 _ nf_G_67).use rfl) (fun _ h9 => h9) rfl d_G_multiply_55 ?_
  refine lv_lload_n hx hb d_G_multiply_58 rfl (lv_at hl 2 rfl) ?_
  refine cl_v (rn_VN (wc := [(eu, .inr (0, [.long (jl (g1)), .long (jl (x1)), .long (jl (y1))]))]) (As := [.long (jl (g1)), .long (jl (S))]) (rest := []) X hK (c_E_solve l D cI cJ cF E1.2.2.2.2.1 zS _) co_E_solve in_E nm_G_63 im_E_solve se_E_solve 2 rfl (by decide +kernel) ⟨Nat.le_of_ble_eq_true rfl, Nat.le_of_ble_eq_true rfl⟩ hP hD [1] rfl (by decide) (q0 := 0) (ci := 0) rfl rfl rfl hl.1 rfl (Nat.le_of_ble_eq_true rfl) d_G_multiply_59 ⟨Nat.zero_le _, Nat.zero_le _⟩) hP hD hS hA [1] rfl (by decide) (fun _ => rfl) (fun u_2 H locs hp hP hD hS => ?_)
  obtain ⟨ee, uu, vv⟩ := u_2
  have E2 : eP g1 S ee uu vv := hp
  have hP : va_P D classes [(g, .inr (2, [.ref o, .ref wk, .ref st, .ref bs, .ref eu, .int (ji (Dd)), .int (ji (w))])), (eu, .inr (0, [.long (jl (ee)), .long (jl (uu)), .long (jl (vv))])), (f, .inr (1, [.long (jl (a)), .long (jl (b)), .long (jl (c))])), (h, .inr (1, [.long (jl (a2)), .long (jl (b2)), .long (jl (c2))]))] H := hP
  have hD : va_D A [(g, .inr (2, [.ref o, .ref wk, .ref st, .ref bs, .ref eu, .int (ji (Dd)), .int (ji (w))])), (eu, .inr (0, [.long (jl (ee)), .long (jl (uu)), .long (jl (vv))])), (f, .inr (1, [.long (jl (a)), .long (jl (b)), .long (jl (c))])), (h, .inr (1, [.long (jl (a2)), .long (jl (b2)), .long (jl (c2))]))] := hD
  obtain ⟨k1, k2, k3, a1, a12, M, t1, t2, t3, k4, k5, k6, hv, hcp⟩ := mul_core hg hs hf hh ka kb ka2 kb2 E1 E2 hSm hTm
  have k7 := ab_range k6
  have k8 := fm_ab_pos k5
  have k9 : 0 < fm_ab (a1 * a12) ∧ fm_ab (a1 * a12) ≤ 1046529 := ⟨k8, k6⟩
  refine lv_aload_n hx hb d_G_multiply_62 rfl (lv_at hl 3 rfl) ?_
  refine va_get (D := D) (ci := 2) (v := .ref eu) (C := R_G) (T := T_G) (N := 7) hx hb hts uw_G hown hK.1 hP 0 rfl rfl 4 (by decide) (hts _ fl_G_30) (fun _ h9 => h9) rfl d_G_multiply_63 ?_
  refine va_getN (D := D) (ci := 0) (v := .long (jl (ee))) (C := R_E) (T := T_E) (N := 3) hx hb hts uw_E hown hK.1 hP 1 rfl rfl 0 (by decide) ((hK.2 _ nf_G_67).use rfl) (fun _ h9 => h9) rfl d_G_multiply_66 ?_
  refine lv_lstore (lv' := [(9, .long (jl (ee))), (7, .long (jl (y1))), (5, .long (jl (x1))), (3, .long (jl (S))), (0, .ref g), (1, .ref f), (2, .ref h)]) hx hb d_G_multiply_69 hl (by decide) rfl (fun ls hl => ?_)
  refine lv_aload_n hx hb d_G_multiply_71 rfl (lv_at hl 4 rfl) ?_
  refine va_get (D := D) (ci := 2) (v := .ref eu) (C := R_G) (T := T_G) (N := 7) hx hb hts uw_G hown hK.1 hP 0 rfl rfl 4 (by decide) (hts _ fl_G_30) (fun _ h9 => h9) rfl d_G_multiply_72 ?_
  refine va_getN (D := D) (ci := 0) (v := .long (jl (uu))) (C := R_E) (T := T_E) (N := 3) hx hb hts uw_E hown hK.1 hP 1 rfl rfl 1 (by decide) ((hK.2 _ nf_G_126).use rfl) (fun _ h9 => h9) rfl d_G_multiply_75 ?_
  refine lv_lload hx hb d_G_multiply_78 (lv_at hl 2 rfl) ?_
  refine lv_aload_n hx hb d_G_multiply_80 rfl (lv_at hl 5 rfl) ?_
  refine va_getN (D := D) (ci := 1) (v := .long (jl (a))) (C := R_F) (T := T_F) (N := 3) hx hb hts uw_F hown hK.1 hP 2 rfl rfl 0 (by decide) ((hK.2 _ nf_G_94).use rfl) (fun _ h9 => h9) rfl d_G_multiply_81 ?_
  refine wl_mul hx hb d_G_multiply_84 ?_
  refine lv_aload_n hx hb d_G_multiply_85 rfl (lv_at hl 6 rfl) ?_
  refine va_getN (D := D) (ci := 1) (v := .long (jl (b2))) (C := R_F) (T := T_F) (N := 3) hx hb hts uw_F hown hK.1 hP 3 rfl rfl 1 (by decide) ((hK.2 _ nf_G_97).use rfl) (fun _ h9 => h9) rfl d_G_multiply_86 ?_
  refine wl_mul hx hb d_G_multiply_89 ?_
  refine lv_lload hx hb d_G_multiply_90 (lv_at hl 1 rfl) ?_
  refine lv_aload_n hx hb d_G_multiply_92 rfl (lv_at hl 6 rfl) ?_
  refine va_getN (D := D) (ci := 1) (v := .long (jl (a2))) (C := R_F) (T := T_F) (N := 3) hx hb hts uw_F hown hK.1 hP 3 rfl rfl 0 (by decide) ((hK.2 _ nf_G_94).use rfl) (fun _ h9 => h9) rfl d_G_multiply_93 ?_
  refine wl_mul hx hb d_G_multiply_96 ?_
  refine lv_aload_n hx hb d_G_multiply_97 rfl (lv_at hl 5 rfl) ?_
  refine va_getN (D := D) (ci := 1) (v := .long (jl (b))) (C := R_F) (T := T_F) (N := 3) hx hb hts uw_F hown hK.1 hP 2 rfl rfl 1 (by decide) ((hK.2 _ nf_G_97).use rfl) (fun _ h9 => h9) rfl d_G_multiply_98 ?_
  refine wl_mul hx hb d_G_multiply_101 ?_
  refine wl_add hx hb d_G_multiply_102 ?_
  refine wl_mul hx hb d_G_multiply_103 ?_
  refine lv_aload_n hx hb d_G_multiply_104 rfl (lv_at hl 4 rfl) ?_
  refine va_get (D := D) (ci := 2) (v := .ref eu) (C := R_G) (T := T_G) (N := 7) hx hb hts uw_G hown hK.1 hP 0 rfl rfl 4 (by decide) (hts _ fl_G_30) (fun _ h9 => h9) rfl d_G_multiply_105 ?_
  refine va_getN (D := D) (ci := 0) (v := .long (jl (vv))) (C := R_E) (T := T_E) (N := 3) hx hb hts uw_E hown hK.1 hP 1 rfl rfl 2 (by decide) ((hK.2 _ nf_G_129).use rfl) (fun _ h9 => h9) rfl d_G_multiply_108 ?_
  refine lv_aload_n hx hb d_G_multiply_111 rfl (lv_at hl 5 rfl) ?_
  refine va_getN (D := D) (ci := 1) (v := .long (jl (b))) (C := R_F) (T := T_F) (N := 3) hx hb hts uw_F hown hK.1 hP 2 rfl rfl 1 (by decide) ((hK.2 _ nf_G_97).use rfl) (fun _ h9 => h9) rfl d_G_multiply_112 ?_
  refine lv_aload_n hx hb d_G_multiply_115 rfl (lv_at hl 6 rfl) ?_
  refine va_getN (D := D) (ci := 1) (v := .long (jl (b2))) (C := R_F) (T := T_F) (N := 3) hx hb hts uw_F hown hK.1 hP 3 rfl rfl 1 (by decide) ((hK.2 _ nf_G_97).use rfl) (fun _ h9 => h9) rfl d_G_multiply_116 ?_
  refine wl_mul hx hb d_G_multiply_119 ?_
  refine lv_aload_n hx hb d_G_multiply_120 rfl (lv_at hl 4 rfl) ?_
  refine va_get (D := D) (ci := 2) (v := .int (ji (Dd))) (C := R_G) (T := T_G) (N := 7) hx hb hts uw_G hown hK.1 hP 0 rfl rfl 5 (by decide) (hts _ fl_G_34) (fun _ h9 => h9) rfl d_G_multiply_121 ?_
  refine w_i2l hx hb hg.jD d_G_multiply_124 ?_
  refine wl_add hx hb d_G_multiply_125 ?_
  refine w_ldc2 (v := 2) (n := 2) hx hb (by decide) hown (hts _ kc_G_100) d_G_multiply_126 ?_
  refine wl_div hx hb ⟨by omega, by omega⟩ ⟨by decide, by decide⟩ (by decide) d_G_multiply_129 ?_
  rw [td_2 hTm]
  refine wl_mul hx hb d_G_multiply_130 ?_
  refine wl_add hx hb d_G_multiply_131 ?_
  refine lv_lstore (lv' := [(11, .long (jl (((uu) * ((((x1) * (a)) * (b2)) + (((y1) * (a2)) * (b)))) + ((vv) * (T))))), (9, .long (jl (ee))), (7, .long (jl (y1))), (5, .long (jl (x1))), (3, .long (jl (S))), (0, .ref g), (1, .ref f), (2, .ref h)]) hx hb d_G_multiply_132 hl (by decide) rfl (fun ls hl => ?_)
  refine lv_aload_n hx hb d_G_multiply_134 rfl (lv_at hl 6 rfl) ?_
  refine va_getN (D := D) (ci := 1) (v := .long (jl (a))) (C := R_F) (T := T_F) (N := 3) hx hb hts uw_F hown hK.1 hP 2 rfl rfl 0 (by decide) ((hK.2 _ nf_G_94).use rfl) (fun _ h9 => h9) rfl d_G_multiply_135 ?_
  refine lv_lload hx hb d_G_multiply_138 (lv_at hl 1 rfl) ?_
  refine cl_l (rn_SN (wc := []) (As := [.long (jl (a)), .long (jl (ee))]) (rest := []) X hK (c_X_quotient l D cI cJ cF zA.j ⟨by omega, by omega⟩ _) co_X_quotient in_X nm_G_75 st_X_quotient 2 rfl (by decide +kernel) ⟨Nat.le_of_ble_eq_true rfl, Nat.le_of_ble_eq_true rfl⟩ hP hD [] rfl (by decide) hl.1 rfl (Nat.le_of_ble_eq_true rfl) d_G_multiply_140 ⟨Nat.zero_le _, Nat.zero_le _⟩) hP hD hS hA [] rfl (by decide) (fun _ => rfl) (fun r_3 u_4 H locs hp hP hD hS => ?_)
  have hp : r_3 = jl (a1) := by rw [show r_3 = _ from hp]; rw [if_neg (by omega), t1]
  have hP : va_P D classes [(g, .inr (2, [.ref o, .ref wk, .ref st, .ref bs, .ref eu, .int (ji (Dd)), .int (ji (w))])), (eu, .inr (0, [.long (jl (ee)), .long (jl (uu)), .long (jl (vv))])), (f, .inr (1, [.long (jl (a)), .long (jl (b)), .long (jl (c))])), (h, .inr (1, [.long (jl (a2)), .long (jl (b2)), .long (jl (c2))]))] H := hP
  have hD : va_D A [(g, .inr (2, [.ref o, .ref wk, .ref st, .ref bs, .ref eu, .int (ji (Dd)), .int (ji (w))])), (eu, .inr (0, [.long (jl (ee)), .long (jl (uu)), .long (jl (vv))])), (f, .inr (1, [.long (jl (a)), .long (jl (b)), .long (jl (c))])), (h, .inr (1, [.long (jl (a2)), .long (jl (b2)), .long (jl (c2))]))] := hD
  obtain rfl : r_3 = jl (a1) := hp
  refine lv_aload_n hx hb d_G_multiply_143 rfl (lv_at hl 7 rfl) ?_
  refine va_getN (D := D) (ci := 1) (v := .long (jl (a2))) (C := R_F) (T := T_F) (N := 3) hx hb hts uw_F hown hK.1 hP 3 rfl rfl 0 (by decide) ((hK.2 _ nf_G_94).use rfl) (fun _ h9 => h9) rfl d_G_multiply_144 ?_
  refine lv_lload hx hb d_G_multiply_147 (lv_at hl 1 rfl) ?_
  refine cl_l (rn_SN (wc := []) (As := [.long (jl (a2)), .long (jl (ee))]) (rest := [.long (jl (a1))]) X hK (c_X_quotient l D cI cJ cF zA2.j ⟨by omega, by omega⟩ _) co_X_quotient in_X nm_G_75 st_X_quotient 2 rfl (by decide +kernel) ⟨Nat.le_of_ble_eq_true rfl, Nat.le_of_ble_eq_true rfl⟩ hP hD [] rfl (by decide) hl.1 rfl (Nat.le_of_ble_eq_true rfl) d_G_multiply_149 ⟨Nat.zero_le _, Nat.zero_le _⟩) hP hD hS hA [] rfl (by decide) (fun _ => rfl) (fun r_5 u_6 H locs hp hP hD hS => ?_)
  have hp : r_5 = jl (a12) := by rw [show r_5 = _ from hp]; rw [if_neg (by omega), t2]
  have hP : va_P D classes [(g, .inr (2, [.ref o, .ref wk, .ref st, .ref bs, .ref eu, .int (ji (Dd)), .int (ji (w))])), (eu, .inr (0, [.long (jl (ee)), .long (jl (uu)), .long (jl (vv))])), (f, .inr (1, [.long (jl (a)), .long (jl (b)), .long (jl (c))])), (h, .inr (1, [.long (jl (a2)), .long (jl (b2)), .long (jl (c2))]))] H := hP
  have hD : va_D A [(g, .inr (2, [.ref o, .ref wk, .ref st, .ref bs, .ref eu, .int (ji (Dd)), .int (ji (w))])), (eu, .inr (0, [.long (jl (ee)), .long (jl (uu)), .long (jl (vv))])), (f, .inr (1, [.long (jl (a)), .long (jl (b)), .long (jl (c))])), (h, .inr (1, [.long (jl (a2)), .long (jl (b2)), .long (jl (c2))]))] := hD
  obtain rfl : r_5 = jl (a12) := hp
  refine wl_mul hx hb d_G_multiply_152 ?_
  refine lv_lstore (lv' := [(13, .long (jl ((a1) * (a12)))), (11, .long (jl (((uu) * ((((x1) * (a)) * (b2)) + (((y1) * (a2)) * (b)))) + ((vv) * (T))))), (9, .long (jl (ee))), (7, .long (jl (y1))), (5, .long (jl (x1))), (3, .long (jl (S))), (0, .ref g), (1, .ref f), (2, .ref h)]) hx hb d_G_multiply_153 hl (by decide) rfl (fun ls hl => ?_)
  refine lv_aload_n hx hb d_G_multiply_155 rfl (lv_at hl 6 rfl) ?_
  refine lv_aload_n hx hb d_G_multiply_156 rfl (lv_at hl 7 rfl) ?_
  refine lv_lload hx hb d_G_multiply_157 (lv_at hl 0 rfl) ?_
  refine lv_lload hx hb d_G_multiply_159 (lv_at hl 1 rfl) ?_
  refine lv_lload hx hb d_G_multiply_161 (lv_at hl 2 rfl) ?_
  refine cl_l (rn_SN (wc := []) (As := [.long (jl (((uu) * ((((x1) * (a)) * (b2)) + (((y1) * (a2)) * (b)))) + ((vv) * (T)))), .long (jl (ee))]) (rest := [.long (jl ((a1) * (a12))), .ref f, .ref g]) X hK (c_X_quotient l D cI cJ cF k3 ⟨by omega, by omega⟩ _) co_X_quotient in_X nm_G_75 st_X_quotient 2 rfl (by decide +kernel) ⟨Nat.le_of_ble_eq_true rfl, Nat.le_of_ble_eq_true rfl⟩ hP hD [] rfl (by decide) hl.1 rfl (Nat.le_of_ble_eq_true rfl) d_G_multiply_163 ⟨Nat.zero_le _, Nat.zero_le _⟩) hP hD hS hA [] rfl (by decide) (fun _ => rfl) (fun r_7 u_8 H locs hp hP hD hS => ?_)
  have hp : r_7 = jl (M) := by rw [show r_7 = _ from hp]; rw [if_neg (by omega), t3]
  have hP : va_P D classes [(g, .inr (2, [.ref o, .ref wk, .ref st, .ref bs, .ref eu, .int (ji (Dd)), .int (ji (w))])), (eu, .inr (0, [.long (jl (ee)), .long (jl (uu)), .long (jl (vv))])), (f, .inr (1, [.long (jl (a)), .long (jl (b)), .long (jl (c))])), (h, .inr (1, [.long (jl (a2)), .long (jl (b2)), .long (jl (c2))]))] H := hP
  have hD : va_D A [(g, .inr (2, [.ref o, .ref wk, .ref st, .ref bs, .ref eu, .int (ji (Dd)), .int (ji (w))])), (eu, .inr (0, [.long (jl (ee)), .long (jl (uu)), .long (jl (vv))])), (f, .inr (1, [.long (jl (a)), .long (jl (b)), .long (jl (c))])), (h, .inr (1, [.long (jl (a2)), .long (jl (b2)), .long (jl (c2))]))] := hD
  obtain rfl : r_7 = jl (M) := hp
  refine w_ldc2 (v := 2) (n := 2) hx hb (by decide) hown (hts _ kc_G_100) d_G_multiply_166 ?_
  refine lv_lload hx hb d_G_multiply_169 (lv_at hl 0 rfl) ?_
  refine w_absJ X hl.1 ⟨by omega, by omega⟩ ml_G_108 ⟨Nat.le_of_ble_eq_true rfl, Nat.le_of_ble_eq_true rfl⟩ ⟨Nat.zero_le _, Nat.zero_le _⟩ d_G_multiply_171 ?_
  refine wl_mul hx hb d_G_multiply_174 ?_
  refine cl_l (rn_SN (wc := []) (As := [.long (jl (M)), .long (jl ((2) * (fm_ab ((a1) * (a12)))))]) (rest := [.long (jl ((a1) * (a12))), .ref f, .ref g]) X hK (c_X_remainder l D cI cJ cF k4 ⟨by omega, by omega⟩ _) co_X_remainder in_X nm_G_102 st_X_remainder 2 rfl (by decide +kernel) ⟨Nat.le_of_ble_eq_true rfl, Nat.le_of_ble_eq_true rfl⟩ hP hD [] rfl (by decide) hl.1 rfl (Nat.le_of_ble_eq_true rfl) d_G_multiply_175 ⟨Nat.zero_le _, Nat.zero_le _⟩) hP hD hS hA [] rfl (by decide) (fun _ => rfl) (fun r_9 u_10 H locs hp hP hD hS => ?_)
  have hp : r_9 = jl (M % (2 * fm_ab (a1 * a12))) := by rw [show r_9 = _ from hp]; rw [if_pos (by omega)]
  have hP : va_P D classes [(g, .inr (2, [.ref o, .ref wk, .ref st, .ref bs, .ref eu, .int (ji (Dd)), .int (ji (w))])), (eu, .inr (0, [.long (jl (ee)), .long (jl (uu)), .long (jl (vv))])), (f, .inr (1, [.long (jl (a)), .long (jl (b)), .long (jl (c))])), (h, .inr (1, [.long (jl (a2)), .long (jl (b2)), .long (jl (c2))]))] H := hP
  have hD : va_D A [(g, .inr (2, [.ref o, .ref wk, .ref st, .ref bs, .ref eu, .int (ji (Dd)), .int (ji (w))])), (eu, .inr (0, [.long (jl (ee)), .long (jl (uu)), .long (jl (vv))])), (f, .inr (1, [.long (jl (a)), .long (jl (b)), .long (jl (c))])), (h, .inr (1, [.long (jl (a2)), .long (jl (b2)), .long (jl (c2))]))] := hD
  obtain rfl : r_9 = jl (M % (2 * fm_ab (a1 * a12))) := hp
  obtain ⟨B0, hB⟩ : ∃ t : Int, M % (2 * fm_ab (a1 * a12)) = t := ⟨_, rfl⟩
  have B1 := Int.emod_nonneg M (show 2 * fm_ab (a1 * a12) ≠ 0 by omega)
  have B2 := Int.emod_lt_of_pos M (show 0 < 2 * fm_ab (a1 * a12) by omega)
  rw [hB] at hv hcp B1 B2 ⊢
  obtain ⟨q0, hq⟩ : ∃ t : Int, (B0 * B0 - Dd).tdiv (4 * (a1 * a12)) = t := ⟨_, rfl⟩
  rw [hq] at hv hcp
  have Bs := sq_bd (B := 2093058) (e := B0) (by omega) (by omega)
  have hqb := q_bd hv.1 k5 k6 B1 B2 hg.2.1 hg.2.2.1
  refine cl_v (rn_V (wc := [(g, .inr (2, [.ref o, .ref wk, .ref st, .ref bs, .ref eu, .int (ji (Dd)), .int (ji (w))])), (f, .inr (1, [.long (jl (a)), .long (jl (b)), .long (jl (c))]))]) (As := [.ref f, .long (jl ((a1) * (a12))), .long (jl (B0))]) (rest := []) X hK (c_G_becomeFrom l D cI cJ cF hg.jD ⟨by omega, by omega⟩ ⟨by omega, by omega⟩ k5 hq _) co_G_becomeFrom in_G ml_G_45 im_G_becomeFrom se_G_becomeFrom 3 rfl (by decide +kernel) ⟨Nat.le_of_ble_eq_true rfl, Nat.le_of_ble_eq_true rfl⟩ hP hD [0, 2] rfl (by decide) (q0 := 0) (ci := 2) rfl rfl rfl hl.1 rfl (Nat.le_of_ble_eq_true rfl) d_G_multiply_178 ⟨Nat.zero_le _, Nat.zero_le _⟩) hP hD hS hA [0, 2] rfl (by decide) (fun _ => rfl) (fun u_11 H locs hp hP hD hS => ?_)
  have hP : va_P D classes [(g, .inr (2, [.ref o, .ref wk, .ref st, .ref bs, .ref eu, .int (ji (Dd)), .int (ji (w))])), (eu, .inr (0, [.long (jl (ee)), .long (jl (uu)), .long (jl (vv))])), (f, .inr (1, [.long (jl (a1 * a12)), .long (jl (B0)), .long (jl (q0))])), (h, .inr (1, [.long (jl (a2)), .long (jl (b2)), .long (jl (c2))]))] H := hP
  have hD : va_D A [(g, .inr (2, [.ref o, .ref wk, .ref st, .ref bs, .ref eu, .int (ji (Dd)), .int (ji (w))])), (eu, .inr (0, [.long (jl (ee)), .long (jl (uu)), .long (jl (vv))])), (f, .inr (1, [.long (jl (a1 * a12)), .long (jl (B0)), .long (jl (q0))])), (h, .inr (1, [.long (jl (a2)), .long (jl (b2)), .long (jl (c2))]))] := hD
  refine lv_aload_n hx hb d_G_multiply_181 rfl (lv_at hl 6 rfl) ?_
  refine lv_aload_n hx hb d_G_multiply_182 rfl (lv_at hl 7 rfl) ?_
  refine cl_v (rn_V (wc := [(g, .inr (2, [.ref o, .ref wk, .ref st, .ref bs, .ref eu, .int (ji (Dd)), .int (ji (w))])), (f, .inr (1, [.long (jl (a1 * a12)), .long (jl (B0)), .long (jl (q0))]))]) (As := [.ref f]) (rest := []) X hK (c_G_reduce l D cI cJ cF hg hv.1 hv.2.2 (by omega) (by omega) ⟨by omega, by omega⟩ (fun _ => hqb) _) co_G_reduce in_G ml_G_49 im_G_reduce se_G_reduce 1 rfl (by decide +kernel) ⟨Nat.le_of_ble_eq_true rfl, Nat.le_of_ble_eq_true rfl⟩ hP hD [0, 2] rfl (by decide) (q0 := 0) (ci := 2) rfl rfl rfl hl.1 rfl (Nat.le_of_ble_eq_true rfl) d_G_multiply_183 ⟨Nat.zero_le _, Nat.zero_le _⟩) hP hD hS hA [0, 2] rfl (by decide) (fun _ => rfl) (fun u_12 H locs hp hP hD hS => ?_)
  have hred : fm_disc Dd u_12 ∧ fm_red Dd w u_12 ∧ fm_mg Dd w u_12 (a1 * a12, B0, q0) := hp
  have hP : va_P D classes [(g, .inr (2, [.ref o, .ref wk, .ref st, .ref bs, .ref eu, .int (ji (Dd)), .int (ji (w))])), (eu, .inr (0, [.long (jl (ee)), .long (jl (uu)), .long (jl (vv))])), (f, .inr (1, [.long (jl ((u_12).1)), .long (jl ((u_12).2.1)), .long (jl ((u_12).2.2))])), (h, .inr (1, [.long (jl (a2)), .long (jl (b2)), .long (jl (c2))]))] H := hP
  have hD : va_D A [(g, .inr (2, [.ref o, .ref wk, .ref st, .ref bs, .ref eu, .int (ji (Dd)), .int (ji (w))])), (eu, .inr (0, [.long (jl (ee)), .long (jl (uu)), .long (jl (vv))])), (f, .inr (1, [.long (jl ((u_12).1)), .long (jl ((u_12).2.1)), .long (jl ((u_12).2.2))])), (h, .inr (1, [.long (jl (a2)), .long (jl (b2)), .long (jl (c2))]))] := hD
  exact rt_v X hAe hS (u_12, ee, uu, vv) ⟨v_mg hg.1 hv hred.1 hred.2.1 hred.2.2, hred.2.1, hcp.r (fm_eq_mg hg.1 hs hv.1 hred.1 hred.2.2.sy)⟩ hP d_G_multiply_186

set_option maxHeartbeats 4000000 in
set_option maxRecDepth 100000 in
theorem c_G_multiply1 (l : Launch) (D : va_G) (cI cJ cF : ClassId) {g o wk st bs eu : Nat} {Dd w : Int} {f : Nat} {a b c j1 j2 j3 s0 n0 : Int} (hg : gD Dd w) (hs : fm_sn Dd s0 n0) (hf : fm_v Dd (a, b, c)) (hfr : fm_red Dd w (a, b, c)) : ∀ sz, Met l y_G_multiply (Cond.code y_G_multiply b_G_multiply 15 none :: wb) { frames := 4, cells := 0, slots := 0, locals := 100 } (va_Pc [.ref g, .ref f, .ref f] (cpre D cI cJ cF [(g, .inr (2, [.ref o, .ref wk, .ref st, .ref bs, .ref eu, .int (ji (Dd)), .int (ji (w))])), (eu, .inr (0, [.long (jl (j1)), .long (jl (j2)), .long (jl (j3))])), (f, .inr (1, [.long (jl (a)), .long (jl (b)), .long (jl (c))]))] sz)) (va_Qv (fun (u : fm_F × Int × Int × Int) => fm_v Dd u.1 ∧ fm_red Dd w u.1 ∧ fm_cp s0 n0 (a, b, c) (a, b, c) u.1) (fun (u : fm_F × Int × Int × Int) t => va_P D classes [(g, .inr (2, [.ref o, .ref wk, .ref st, .ref bs, .ref eu, .int (ji (Dd)), .int (ji (w))])), (eu, .inr (0, [.long (jl (u.2.1)), .long (jl (u.2.2.1)), .long (jl (u.2.2.2))])), (f, .inr (1, [.long (jl ((u.1).1)), .long (jl ((u.1).2.1)), .long (jl ((u.1).2.2))]))] t.heap) (va_A [(g, .inr (2, [.ref o, .ref wk, .ref st, .ref bs, .ref eu, .int (ji (Dd)), .int (ji (w))])), (eu, .inr (0, [.long (jl (j1)), .long (jl (j2)), .long (jl (j3))])), (f, .inr (1, [.long (jl (a)), .long (jl (b)), .long (jl (c))]))] sz)) 0 0 (va_A [(g, .inr (2, [.ref o, .ref wk, .ref st, .ref bs, .ref eu, .int (ji (Dd)), .int (ji (w))])), (eu, .inr (0, [.long (jl (j1)), .long (jl (j2)), .long (jl (j3))])), (f, .inr (1, [.long (jl (a)), .long (jl (b)), .long (jl (c))]))] sz) := by
  refine c_of (Qc := fun sz => va_Qv (fun (u : fm_F × Int × Int × Int) => fm_v Dd u.1 ∧ fm_red Dd w u.1 ∧ fm_cp s0 n0 (a, b, c) (a, b, c) u.1) (fun (u : fm_F × Int × Int × Int) t => va_P D classes [(g, .inr (2, [.ref o, .ref wk, .ref st, .ref bs, .ref eu, .int (ji (Dd)), .int (ji (w))])), (eu, .inr (0, [.long (jl (u.2.1)), .long (jl (u.2.2.1)), .long (jl (u.2.2.2))])), (f, .inr (1, [.long (jl ((u.1).1)), .long (jl ((u.1).2.1)), .long (jl ((u.1).2.2))]))] t.heap) (va_A [(g, .inr (2, [.ref o, .ref wk, .ref st, .ref bs, .ref eu, .int (ji (Dd)), .int (ji (w))])), (eu, .inr (0, [.long (jl (j1)), .long (jl (j2)), .long (jl (j3))])), (f, .inr (1, [.long (jl (a)), .long (jl (b)), .long (jl (c))]))] sz)) (by decide +kernel) co_G_multiply (Nat.le_of_ble_eq_true rfl) ?_
  intro pq eq s mq below meth cq A X hK hP hD hS hA hAe ls hl
  obtain ⟨hx, hb, hml, hown, hr, hlocks, hts⟩ := id X
  have hl : lv_has ls 15 [(0, .ref g), (1, .ref f), (2, .ref f)] := hl
  have zd1 := hg.2.1
  have zd2 := hg.2.2.1
  obtain ⟨ka, kb⟩ := red_1023 hg hf.1 hfr
  have ra := ab_range ka
  have rb := ab_range kb
  have zA : b30 a := ⟨by omega, by omega⟩
  obtain ⟨S, T, hSm, hTm⟩ := halves hs hf.1 hf.1
  have rbb := ab_range (ab_prod kb kb)
  have zS : b30 S := ⟨by omega, by omega⟩
  refine lv_aload_n hx hb d_G_multiply_0 rfl (lv_at hl 1 rfl) ?_
  refine va_getN (D := D) (ci := 1) (v := .long (jl (b))) (C := R_F) (T := T_F) (N := 3) hx hb hts uw_F hown hK.1 hP 2 rfl rfl 1 (by decide) ((hK.2 _ nf_G_97).use rfl) (fun _ h9 => h9) rfl d_G_multiply_1 ?_
  refine lv_aload_n hx hb d_G_multiply_4 rfl (lv_at hl 2 rfl) ?_
  refine va_getN (D := D) (ci := 1) (v := .long (jl (b))) (C := R_F) (T := T_F) (N := 3) hx hb hts uw_F hown hK.1 hP 2 rfl rfl 1 (by decide) ((hK.2 _ nf_G_97).use rfl) (fun _ h9 => h9) rfl d_G_multiply_5 ?_
  refine wl_add hx hb d_G_multiply_8 ?_
  refine w_ldc2 (v := 2) (n := 2) hx hb (by decide) hown (hts _ kc_G_100) d_G_multiply_9 ?_
  refine wl_div hx hb ⟨by omega, by omega⟩ ⟨by decide, by decide⟩ (by decide) d_G_multiply_12 ?_
  rw [td_2 hSm]
  refine lv_lstore_n (lv' := [(3, .long (jl (S))), (0, .ref g), (1, .ref f), (2, .ref f)]) hx hb d_G_multiply_13 rfl hl (by decide) rfl (fun ls hl => ?_)
  refine lv_aload_n hx hb d_G_multiply_14 rfl (lv_at hl 1 rfl) ?_
  refine va_get (D := D) (ci := 2) (v := .ref eu) (C := R_G) (T := T_G) (N := 7) hx hb hts uw_G hown hK.1 hP 0 rfl rfl 4 (by decide) (hts _ fl_G_30) (fun _ h9 => h9) rfl d_G_multiply_15 ?_
  refine lv_aload_n hx hb d_G_multiply_18 rfl (lv_at hl 2 rfl) ?_
  refine va_getN (D := D) (ci := 1) (v := .long (jl (a))) (C := R_F) (T := T_F) (N := 3) hx hb hts uw_F hown hK.1 hP 2 rfl rfl 0 (by decide) ((hK.2 _ nf_G_94).use rfl) (fun _ h9 => h9) rfl d_G_multiply_19 ?_
  refine lv_aload_n hx hb d_G_multiply_22 rfl (lv_at hl 3 rfl) ?_
  refine va_getN (D := D) (ci := 1) (v := .long (jl (a))) (C := R_F) (T := T_F) (N := 3) hx hb hts uw_F hown hK.1 hP 2 rfl rfl 0 (by decide) ((hK.2 _ nf_G_94).use rfl) (fun _ h9 => h9) rfl d_G_multiply_23 ?_
  refine cl_v (rn_VN (wc := [(eu, .inr (0, [.long (jl (j1)), .long (jl (j2)), .long (jl (j3))]))]) (As := [.long (jl (a)), .long (jl (a))]) (rest := []) X hK (c_E_solve l D cI cJ cF zA zA _) co_E_solve in_E nm_G_63 im_E_solve se_E_solve 2 rfl (by decide +kernel) ⟨Nat.le_of_ble_eq_true rfl, Nat.le_of_ble_eq_true rfl⟩ hP hD [1] rfl (by decide) (q0 := 0) (ci := 0) rfl rfl rfl hl.1 rfl (Nat.le_of_ble_eq_true rfl) d_G_multiply_26 ⟨Nat.zero_le _, Nat.zero_le _⟩) hP hD hS hA [1] rfl (by decide) (fun _ => rfl) (fun u_1 H locs hp hP hD hS => ?_)
  obtain ⟨g1, x1, y1⟩ := u_1
  have E1 : eP a a g1 x1 y1 := hp
  have hP : va_P D classes [(g, .inr (2, [.ref o, .ref wk, .ref st, .ref bs, .ref eu, .int (ji (Dd)), .int (ji (w))])), (eu, .inr (0, [.long (jl (g1)), .long (jl (x1)), .long (jl (y1))])), (f, .inr (1, [.long (jl (a)), .long (jl (b)), .long (jl (c))]))] H := hP
  have hD : va_D A [(g, .inr (2, [.ref o, .ref wk, .ref st, .ref bs, .ref eu, .int (ji (Dd)), .int (ji (w))])), (eu, .inr (0, [.long (jl (g1)), .long (jl (x1)), .long (jl (y1))])), (f, .inr (1, [.long (jl (a)), .long (jl (b)), .long (jl (c))]))] := hD
  refine lv_aload_n hx hb d_G_multiply_29 rfl (lv_at hl 1 rfl) ?_
  refine va_get (D := D) (ci := 2) (v := .ref eu) (C := R_G) (T := T_G) (N := 7) hx hb hts uw_G hown hK.1 hP 0 rfl rfl 4 (by decide) (hts _ fl_G_30) (fun _ h9 => h9) rfl d_G_multiply_30 ?_
  refine va_getN (D := D) (ci := 0) (v := .long (jl (x1))) (C := R_E) (T := T_E) (N := 3) hx hb hts uw_E hown hK.1 hP 1 rfl rfl 1 (by decide) ((hK.2 _ nf_G_126).use rfl) (fun _ h9 => h9) rfl d_G_multiply_33 ?_
  refine lv_lstore (lv' := [(5, .long (jl (x1))), (3, .long (jl (S))), (0, .ref g), (1, .ref f), (2, .ref f)]) hx hb d_G_multiply_36 hl (by decide) rfl (fun ls hl => ?_)
  refine lv_aload_n hx hb d_G_multiply_38 rfl (lv_at hl 2 rfl) ?_
  refine va_get (D := D) (ci := 2) (v := .ref eu) (C := R_G) (T := T_G) (N := 7) hx hb hts uw_G hown hK.1 hP 0 rfl rfl 4 (by decide) (hts _ fl_G_30) (fun _ h9 => h9) rfl d_G_multiply_39 ?_
  refine va_getN (D := D) (ci := 0) (v := .long (jl (y1))) (C := R_E) (T := T_E) (N := 3) hx hb hts uw_E hown hK.1 hP 1 rfl rfl 2 (by decide) ((hK.2 _ nf_G_129).use rfl) (fun _ h9 => h9) rfl d_G_multiply_42 ?_
  refine lv_lstore (lv' := [(7, .long (jl (y1))), (5, .long (jl (x1))), (3, .long (jl (S))), (0, .ref g), (1, .ref f), (2, .ref f)]) hx hb d_G_multiply_45 hl (by decide) rfl (fun ls hl => ?_)
  refine lv_aload_n hx hb d_G_multiply_47 rfl (lv_at hl 3 rfl) ?_
  refine va_get (D := D) (ci := 2) (v := .ref eu) (C := R_G) (T := T_G) (N := 7) hx hb hts uw_G hown hK.1 hP 0 rfl rfl 4 (by decide) (hts _ fl_G_30) (fun _ h9 => h9) rfl d_G_multiply_48 ?_
  refine lv_aload_n hx hb d_G_multiply_51 rfl (lv_at hl 3 rfl) ?_
  refine va_get (D := D) (ci := 2) (v := .ref eu) (C := R_G) (T := T_G) (N := 7) hx hb hts uw_G hown hK.1 hP 0 rfl rfl 4 (by decide) (hts _ fl_G_30) (fun _ h9 => h9) rfl d_G_multiply_52 ?_
  refine va_getN (D := D) (ci := 0) (v := .long (jl (g1))) (C := R_E) (T := T_E) (N := 3) hx hb hts uw_E hown hK.1 hP 1 rfl rfl 0 (by decide) ((hK.2 _ nf_G_67).use rfl) (fun _ h9 => h9) rfl d_G_multiply_55 ?_
  refine lv_lload_n hx hb d_G_multiply_58 rfl (lv_at hl 2 rfl) ?_
  refine cl_v (rn_VN (wc := [(eu, .inr (0, [.long (jl (g1)), .long (jl (x1)), .long (jl (y1))]))]) (As := [.long (jl (g1)), .long (jl (S))]) (rest := []) X hK (c_E_solve l D cI cJ cF E1.2.2.2.2.1 zS _) co_E_solve in_E nm_G_63 im_E_solve se_E_solve 2 rfl (by decide +kernel) ⟨Nat.le_of_ble_eq_true rfl, Nat.le_of_ble_eq_true rfl⟩ hP hD [1] rfl (by decide) (q0 := 0) (ci := 0) rfl rfl rfl hl.1 rfl (Nat.le_of_ble_eq_true rfl) d_G_multiply_59 ⟨Nat.zero_le _, Nat.zero_le _⟩) hP hD hS hA [1] rfl (by decide) (fun _ => rfl) (fun u_2 H locs hp hP hD hS => ?_)
  obtain ⟨ee, uu, vv⟩ := u_2
  have E2 : eP g1 S ee uu vv := hp
  have hP : va_P D classes [(g, .inr (2, [.ref o, .ref wk, .ref st, .ref bs, .ref eu, .int (ji (Dd)), .int (ji (w))])), (eu, .inr (0, [.long (jl (ee)), .long (jl (uu)), .long (jl (vv))])), (f, .inr (1, [.long (jl (a)), .long (jl (b)), .long (jl (c))]))] H := hP
  have hD : va_D A [(g, .inr (2, [.ref o, .ref wk, .ref st, .ref bs, .ref eu, .int (ji (Dd)), .int (ji (w))])), (eu, .inr (0, [.long (jl (ee)), .long (jl (uu)), .long (jl (vv))])), (f, .inr (1, [.long (jl (a)), .long (jl (b)), .long (jl (c))]))] := hD
  obtain ⟨k1, k2, k3, a1, a12, M, t1, t2, t3, k4, k5, k6, hv, hcp⟩ := mul_core hg hs hf hf ka kb ka kb E1 E2 hSm hTm
  have k7 := ab_range k6
  have k8 := fm_ab_pos k5
  have k9 : 0 < fm_ab (a1 * a12) ∧ fm_ab (a1 * a12) ≤ 1046529 := ⟨k8, k6⟩
  refine lv_aload_n hx hb d_G_multiply_62 rfl (lv_at hl 3 rfl) ?_
  refine va_get (D := D) (ci := 2) (v := .ref eu) (C := R_G) (T := T_G) (N := 7) hx hb hts uw_G hown hK.1 hP 0 rfl rfl 4 (by decide) (hts _ fl_G_30) (fun _ h9 => h9) rfl d_G_multiply_63 ?_
  refine va_getN (D := D) (ci := 0) (v := .long (jl (ee))) (C := R_E) (T := T_E) (N := 3) hx hb hts uw_E hown hK.1 hP 1 rfl rfl 0 (by decide) ((hK.2 _ nf_G_67).use rfl) (fun _ h9 => h9) rfl d_G_multiply_66 ?_
  refine lv_lstore (lv' := [(9, .long (jl (ee))), (7, .long (jl (y1))), (5, .long (jl (x1))), (3, .long (jl (S))), (0, .ref g), (1, .ref f), (2, .ref f)]) hx hb d_G_multiply_69 hl (by decide) rfl (fun ls hl => ?_)
  refine lv_aload_n hx hb d_G_multiply_71 rfl (lv_at hl 4 rfl) ?_
  refine va_get (D := D) (ci := 2) (v := .ref eu) (C := R_G) (T := T_G) (N := 7) hx hb hts uw_G hown hK.1 hP 0 rfl rfl 4 (by decide) (hts _ fl_G_30) (fun _ h9 => h9) rfl d_G_multiply_72 ?_
  refine va_getN (D := D) (ci := 0) (v := .long (jl (uu))) (C := R_E) (T := T_E) (N := 3) hx hb hts uw_E hown hK.1 hP 1 rfl rfl 1 (by decide) ((hK.2 _ nf_G_126).use rfl) (fun _ h9 => h9) rfl d_G_multiply_75 ?_
  refine lv_lload hx hb d_G_multiply_78 (lv_at hl 2 rfl) ?_
  refine lv_aload_n hx hb d_G_multiply_80 rfl (lv_at hl 5 rfl) ?_
  refine va_getN (D := D) (ci := 1) (v := .long (jl (a))) (C := R_F) (T := T_F) (N := 3) hx hb hts uw_F hown hK.1 hP 2 rfl rfl 0 (by decide) ((hK.2 _ nf_G_94).use rfl) (fun _ h9 => h9) rfl d_G_multiply_81 ?_
  refine wl_mul hx hb d_G_multiply_84 ?_
  refine lv_aload_n hx hb d_G_multiply_85 rfl (lv_at hl 6 rfl) ?_
  refine va_getN (D := D) (ci := 1) (v := .long (jl (b))) (C := R_F) (T := T_F) (N := 3) hx hb hts uw_F hown hK.1 hP 2 rfl rfl 1 (by decide) ((hK.2 _ nf_G_97).use rfl) (fun _ h9 => h9) rfl d_G_multiply_86 ?_
  refine wl_mul hx hb d_G_multiply_89 ?_
  refine lv_lload hx hb d_G_multiply_90 (lv_at hl 1 rfl) ?_
  refine lv_aload_n hx hb d_G_multiply_92 rfl (lv_at hl 6 rfl) ?_
  refine va_getN (D := D) (ci := 1) (v := .long (jl (a))) (C := R_F) (T := T_F) (N := 3) hx hb hts uw_F hown hK.1 hP 2 rfl rfl 0 (by decide) ((hK.2 _ nf_G_94).use rfl) (fun _ h9 => h9) rfl d_G_multiply_93 ?_
  refine wl_mul hx hb d_G_multiply_96 ?_
  refine lv_aload_n hx hb d_G_multiply_97 rfl (lv_at hl 5 rfl) ?_
  refine va_getN (D := D) (ci := 1) (v := .long (jl (b))) (C := R_F) (T := T_F) (N := 3) hx hb hts uw_F hown hK.1 hP 2 rfl rfl 1 (by decide) ((hK.2 _ nf_G_97).use rfl) (fun _ h9 => h9) rfl d_G_multiply_98 ?_
  refine wl_mul hx hb d_G_multiply_101 ?_
  refine wl_add hx hb d_G_multiply_102 ?_
  refine wl_mul hx hb d_G_multiply_103 ?_
  refine lv_aload_n hx hb d_G_multiply_104 rfl (lv_at hl 4 rfl) ?_
  refine va_get (D := D) (ci := 2) (v := .ref eu) (C := R_G) (T := T_G) (N := 7) hx hb hts uw_G hown hK.1 hP 0 rfl rfl 4 (by decide) (hts _ fl_G_30) (fun _ h9 => h9) rfl d_G_multiply_105 ?_
  refine va_getN (D := D) (ci := 0) (v := .long (jl (vv))) (C := R_E) (T := T_E) (N := 3) hx hb hts uw_E hown hK.1 hP 1 rfl rfl 2 (by decide) ((hK.2 _ nf_G_129).use rfl) (fun _ h9 => h9) rfl d_G_multiply_108 ?_
  refine lv_aload_n hx hb d_G_multiply_111 rfl (lv_at hl 5 rfl) ?_
  refine va_getN (D := D) (ci := 1) (v := .long (jl (b))) (C := R_F) (T := T_F) (N := 3) hx hb hts uw_F hown hK.1 hP 2 rfl rfl 1 (by decide) ((hK.2 _ nf_G_97).use rfl) (fun _ h9 => h9) rfl d_G_multiply_112 ?_
  refine lv_aload_n hx hb d_G_multiply_115 rfl (lv_at hl 6 rfl) ?_
  refine va_getN (D := D) (ci := 1) (v := .long (jl (b))) (C := R_F) (T := T_F) (N := 3) hx hb hts uw_F hown hK.1 hP 2 rfl rfl 1 (by decide) ((hK.2 _ nf_G_97).use rfl) (fun _ h9 => h9) rfl d_G_multiply_116 ?_
  refine wl_mul hx hb d_G_multiply_119 ?_
  refine lv_aload_n hx hb d_G_multiply_120 rfl (lv_at hl 4 rfl) ?_
  refine va_get (D := D) (ci := 2) (v := .int (ji (Dd))) (C := R_G) (T := T_G) (N := 7) hx hb hts uw_G hown hK.1 hP 0 rfl rfl 5 (by decide) (hts _ fl_G_34) (fun _ h9 => h9) rfl d_G_multiply_121 ?_
  refine w_i2l hx hb hg.jD d_G_multiply_124 ?_
  refine wl_add hx hb d_G_multiply_125 ?_
  refine w_ldc2 (v := 2) (n := 2) hx hb (by decide) hown (hts _ kc_G_100) d_G_multiply_126 ?_
  refine wl_div hx hb ⟨by omega, by omega⟩ ⟨by decide, by decide⟩ (by decide) d_G_multiply_129 ?_
  rw [td_2 hTm]
  refine wl_mul hx hb d_G_multiply_130 ?_
  refine wl_add hx hb d_G_multiply_131 ?_
  refine lv_lstore (lv' := [(11, .long (jl (((uu) * ((((x1) * (a)) * (b)) + (((y1) * (a)) * (b)))) + ((vv) * (T))))), (9, .long (jl (ee))), (7, .long (jl (y1))), (5, .long (jl (x1))), (3, .long (jl (S))), (0, .ref g), (1, .ref f), (2, .ref f)]) hx hb d_G_multiply_132 hl (by decide) rfl (fun ls hl => ?_)
  refine lv_aload_n hx hb d_G_multiply_134 rfl (lv_at hl 6 rfl) ?_
  refine va_getN (D := D) (ci := 1) (v := .long (jl (a))) (C := R_F) (T := T_F) (N := 3) hx hb hts uw_F hown hK.1 hP 2 rfl rfl 0 (by decide) ((hK.2 _ nf_G_94).use rfl) (fun _ h9 => h9) rfl d_G_multiply_135 ?_
  refine lv_lload hx hb d_G_multiply_138 (lv_at hl 1 rfl) ?_
  refine cl_l (rn_SN (wc := []) (As := [.long (jl (a)), .long (jl (ee))]) (rest := []) X hK (c_X_quotient l D cI cJ cF zA.j ⟨by omega, by omega⟩ _) co_X_quotient in_X nm_G_75 st_X_quotient 2 rfl (by decide +kernel) ⟨Nat.le_of_ble_eq_true rfl, Nat.le_of_ble_eq_true rfl⟩ hP hD [] rfl (by decide) hl.1 rfl (Nat.le_of_ble_eq_true rfl) d_G_multiply_140 ⟨Nat.zero_le _, Nat.zero_le _⟩) hP hD hS hA [] rfl (by decide) (fun _ => rfl) (fun r_3 u_4 H locs hp hP hD hS => ?_)
  have hp : r_3 = jl (a1) := by rw [show r_3 = _ from hp]; rw [if_neg (by omega), t1]
  have hP : va_P D classes [(g, .inr (2, [.ref o, .ref wk, .ref st, .ref bs, .ref eu, .int (ji (Dd)), .int (ji (w))])), (eu, .inr (0, [.long (jl (ee)), .long (jl (uu)), .long (jl (vv))])), (f, .inr (1, [.long (jl (a)), .long (jl (b)), .long (jl (c))]))] H := hP
  have hD : va_D A [(g, .inr (2, [.ref o, .ref wk, .ref st, .ref bs, .ref eu, .int (ji (Dd)), .int (ji (w))])), (eu, .inr (0, [.long (jl (ee)), .long (jl (uu)), .long (jl (vv))])), (f, .inr (1, [.long (jl (a)), .long (jl (b)), .long (jl (c))]))] := hD
  obtain rfl : r_3 = jl (a1) := hp
  refine lv_aload_n hx hb d_G_multiply_143 rfl (lv_at hl 7 rfl) ?_
  refine va_getN (D := D) (ci := 1) (v := .long (jl (a))) (C := R_F) (T := T_F) (N := 3) hx hb hts uw_F hown hK.1 hP 2 rfl rfl 0 (by decide) ((hK.2 _ nf_G_94).use rfl) (fun _ h9 => h9) rfl d_G_multiply_144 ?_
  refine lv_lload hx hb d_G_multiply_147 (lv_at hl 1 rfl) ?_
  refine cl_l (rn_SN (wc := []) (As := [.long (jl (a)), .long (jl (ee))]) (rest := [.long (jl (a1))]) X hK (c_X_quotient l D cI cJ cF zA.j ⟨by omega, by omega⟩ _) co_X_quotient in_X nm_G_75 st_X_quotient 2 rfl (by decide +kernel) ⟨Nat.le_of_ble_eq_true rfl, Nat.le_of_ble_eq_true rfl⟩ hP hD [] rfl (by decide) hl.1 rfl (Nat.le_of_ble_eq_true rfl) d_G_multiply_149 ⟨Nat.zero_le _, Nat.zero_le _⟩) hP hD hS hA [] rfl (by decide) (fun _ => rfl) (fun r_5 u_6 H locs hp hP hD hS => ?_)
  have hp : r_5 = jl (a12) := by rw [show r_5 = _ from hp]; rw [if_neg (by omega), t2]
  have hP : va_P D classes [(g, .inr (2, [.ref o, .ref wk, .ref st, .ref bs, .ref eu, .int (ji (Dd)), .int (ji (w))])), (eu, .inr (0, [.long (jl (ee)), .long (jl (uu)), .long (jl (vv))])), (f, .inr (1, [.long (jl (a)), .long (jl (b)), .long (jl (c))]))] H := hP
  have hD : va_D A [(g, .inr (2, [.ref o, .ref wk, .ref st, .ref bs, .ref eu, .int (ji (Dd)), .int (ji (w))])), (eu, .inr (0, [.long (jl (ee)), .long (jl (uu)), .long (jl (vv))])), (f, .inr (1, [.long (jl (a)), .long (jl (b)), .long (jl (c))]))] := hD
  obtain rfl : r_5 = jl (a12) := hp
  refine wl_mul hx hb d_G_multiply_152 ?_
  refine lv_lstore (lv' := [(13, .long (jl ((a1) * (a12)))), (11, .long (jl (((uu) * ((((x1) * (a)) * (b)) + (((y1) * (a)) * (b)))) + ((vv) * (T))))), (9, .long (jl (ee))), (7, .long (jl (y1))), (5, .long (jl (x1))), (3, .long (jl (S))), (0, .ref g), (1, .ref f), (2, .ref f)]) hx hb d_G_multiply_153 hl (by decide) rfl (fun ls hl => ?_)
  refine lv_aload_n hx hb d_G_multiply_155 rfl (lv_at hl 6 rfl) ?_
  refine lv_aload_n hx hb d_G_multiply_156 rfl (lv_at hl 7 rfl) ?_
  refine lv_lload hx hb d_G_multiply_157 (lv_at hl 0 rfl) ?_
  refine lv_lload hx hb d_G_multiply_159 (lv_at hl 1 rfl) ?_
  refine lv_lload hx hb d_G_multiply_161 (lv_at hl 2 rfl) ?_
  refine cl_l (rn_SN (wc := []) (As := [.long (jl (((uu) * ((((x1) * (a)) * (b)) + (((y1) * (a)) * (b)))) + ((vv) * (T)))), .long (jl (ee))]) (rest := [.long (jl ((a1) * (a12))), .ref f, .ref g]) X hK (c_X_quotient l D cI cJ cF k3 ⟨by omega, by omega⟩ _) co_X_quotient in_X nm_G_75 st_X_quotient 2 rfl (by decide +kernel) ⟨Nat.le_of_ble_eq_true rfl, Nat.le_of_ble_eq_true rfl⟩ hP hD [] rfl (by decide) hl.1 rfl (Nat.le_of_ble_eq_true rfl) d_G_multiply_163 ⟨Nat.zero_le _, Nat.zero_le _⟩) hP hD hS hA [] rfl (by decide) (fun _ => rfl) (fun r_7 u_8 H locs hp hP hD hS => ?_)
  have hp : r_7 = jl (M) := by rw [show r_7 = _ from hp]; rw [if_neg (by omega), t3]
  have hP : va_P D classes [(g, .inr (2, [.ref o, .ref wk, .ref st, .ref bs, .ref eu, .int (ji (Dd)), .int (ji (w))])), (eu, .inr (0, [.long (jl (ee)), .long (jl (uu)), .long (jl (vv))])), (f, .inr (1, [.long (jl (a)), .long (jl (b)), .long (jl (c))]))] H := hP
  have hD : va_D A [(g, .inr (2, [.ref o, .ref wk, .ref st, .ref bs, .ref eu, .int (ji (Dd)), .int (ji (w))])), (eu, .inr (0, [.long (jl (ee)), .long (jl (uu)), .long (jl (vv))])), (f, .inr (1, [.long (jl (a)), .long (jl (b)), .long (jl (c))]))] := hD
  obtain rfl : r_7 = jl (M) := hp
  refine w_ldc2 (v := 2) (n := 2) hx hb (by decide) hown (hts _ kc_G_100) d_G_multiply_166 ?_
  refine lv_lload hx hb d_G_multiply_169 (lv_at hl 0 rfl) ?_
  refine w_absJ X hl.1 ⟨by omega, by omega⟩ ml_G_108 ⟨Nat.le_of_ble_eq_true rfl, Nat.le_of_ble_eq_true rfl⟩ ⟨Nat.zero_le _, Nat.zero_le _⟩ d_G_multiply_171 ?_
  refine wl_mul hx hb d_G_multiply_174 ?_
  refine cl_l (rn_SN (wc := []) (As := [.long (jl (M)), .long (jl ((2) * (fm_ab ((a1) * (a12)))))]) (rest := [.long (jl ((a1) * (a12))), .ref f, .ref g]) X hK (c_X_remainder l D cI cJ cF k4 ⟨by omega, by omega⟩ _) co_X_remainder in_X nm_G_102 st_X_remainder 2 rfl (by decide +kernel) ⟨Nat.le_of_ble_eq_true rfl, Nat.le_of_ble_eq_true rfl⟩ hP hD [] rfl (by decide) hl.1 rfl (Nat.le_of_ble_eq_true rfl) d_G_multiply_175 ⟨Nat.zero_le _, Nat.zero_le _⟩) hP hD hS hA [] rfl (by decide) (fun _ => rfl) (fun r_9 u_10 H locs hp hP hD hS => ?_)
  have hp : r_9 = jl (M % (2 * fm_ab (a1 * a12))) := by rw [show r_9 = _ from hp]; rw [if_pos (by omega)]
  have hP : va_P D classes [(g, .inr (2, [.ref o, .ref wk, .ref st, .ref bs, .ref eu, .int (ji (Dd)), .int (ji (w))])), (eu, .inr (0, [.long (jl (ee)), .long (jl (uu)), .long (jl (vv))])), (f, .inr (1, [.long (jl (a)), .long (jl (b)), .long (jl (c))]))] H := hP
  have hD : va_D A [(g, .inr (2, [.ref o, .ref wk, .ref st, .ref bs, .ref eu, .int (ji (Dd)), .int (ji (w))])), (eu, .inr (0, [.long (jl (ee)), .long (jl (uu)), .long (jl (vv))])), (f, .inr (1, [.long (jl (a)), .long (jl (b)), .long (jl (c))]))] := hD
  obtain rfl : r_9 = jl (M % (2 * fm_ab (a1 * a12))) := hp
  obtain ⟨B0, hB⟩ : ∃ t : Int, M % (2 * fm_ab (a1 * a12)) = t := ⟨_, rfl⟩
  have B1 := Int.emod_nonneg M (show 2 * fm_ab (a1 * a12) ≠ 0 by omega)
  have B2 := Int.emod_lt_of_pos M (show 0 < 2 * fm_ab (a1 * a12) by omega)
  rw [hB] at hv hcp B1 B2 ⊢
  obtain ⟨q0, hq⟩ : ∃ t : Int, (B0 * B0 - Dd).tdiv (4 * (a1 * a12)) = t := ⟨_, rfl⟩
  rw [hq] at hv hcp
  have Bs := sq_bd (B := 2093058) (e := B0) (by omega) (by omega)
  have hqb := q_bd hv.1 k5 k6 B1 B2 hg.2.1 hg.2.2.1
  refine cl_v (rn_V (wc := [(g, .inr (2, [.ref o, .ref wk, .ref st, .ref bs, .ref eu, .int (ji (Dd)), .int (ji (w))])), (f, .inr (1, [.long (jl (a)), .long (jl (b)), .long (jl (c))]))]) (As := [.ref f, .long (jl ((a1) * (a12))), .long (jl (B0))]) (rest := []) X hK (c_G_becomeFrom l D cI cJ cF hg.jD ⟨by omega, by omega⟩ ⟨by omega, by omega⟩ k5 hq _) co_G_becomeFrom in_G ml_G_45 im_G_becomeFrom se_G_becomeFrom 3 rfl (by decide +kernel) ⟨Nat.le_of_ble_eq_true rfl, Nat.le_of_ble_eq_true rfl⟩ hP hD [0, 2] rfl (by decide) (q0 := 0) (ci := 2) rfl rfl rfl hl.1 rfl (Nat.le_of_ble_eq_true rfl) d_G_multiply_178 ⟨Nat.zero_le _, Nat.zero_le _⟩) hP hD hS hA [0, 2] rfl (by decide) (fun _ => rfl) (fun u_11 H locs hp hP hD hS => ?_)
  have hP : va_P D classes [(g, .inr (2, [.ref o, .ref wk, .ref st, .ref bs, .ref eu, .int (ji (Dd)), .int (ji (w))])), (eu, .inr (0, [.long (jl (ee)), .long (jl (uu)), .long (jl (vv))])), (f, .inr (1, [.long (jl (a1 * a12)), .long (jl (B0)), .long (jl (q0))]))] H := hP
  have hD : va_D A [(g, .inr (2, [.ref o, .ref wk, .ref st, .ref bs, .ref eu, .int (ji (Dd)), .int (ji (w))])), (eu, .inr (0, [.long (jl (ee)), .long (jl (uu)), .long (jl (vv))])), (f, .inr (1, [.long (jl (a1 * a12)), .long (jl (B0)), .long (jl (q0))]))] := hD
  refine lv_aload_n hx hb d_G_multiply_181 rfl (lv_at hl 6 rfl) ?_
  refine lv_aload_n hx hb d_G_multiply_182 rfl (lv_at hl 7 rfl) ?_
  refine cl_v (rn_V (wc := [(g, .inr (2, [.ref o, .ref wk, .ref st, .ref bs, .ref eu, .int (ji (Dd)), .int (ji (w))])), (f, .inr (1, [.long (jl (a1 * a12)), .long (jl (B0)), .long (jl (q0))]))]) (As := [.ref f]) (rest := []) X hK (c_G_reduce l D cI cJ cF hg hv.1 hv.2.2 (by omega) (by omega) ⟨by omega, by omega⟩ (fun _ => hqb) _) co_G_reduce in_G ml_G_49 im_G_reduce se_G_reduce 1 rfl (by decide +kernel) ⟨Nat.le_of_ble_eq_true rfl, Nat.le_of_ble_eq_true rfl⟩ hP hD [0, 2] rfl (by decide) (q0 := 0) (ci := 2) rfl rfl rfl hl.1 rfl (Nat.le_of_ble_eq_true rfl) d_G_multiply_183 ⟨Nat.zero_le _, Nat.zero_le _⟩) hP hD hS hA [0, 2] rfl (by decide) (fun _ => rfl) (fun u_12 H locs hp hP hD hS => ?_)
  have hred : fm_disc Dd u_12 ∧ fm_red Dd w u_12 ∧ fm_mg Dd w u_12 (a1 * a12, B0, q0) := hp
  have hP : va_P D classes [(g, .inr (2, [.ref o, .ref wk, .ref st, .ref bs, .ref eu, .int (ji (Dd)), .int (ji (w))])), (eu, .inr (0, [.long (jl (ee)), .long (jl (uu)), .long (jl (vv))])), (f, .inr (1, [.long (jl ((u_12).1)), .long (jl ((u_12).2.1)), .long (jl ((u_12).2.2))]))] H := hP
  have hD : va_D A [(g, .inr (2, [.ref o, .ref wk, .ref st, .ref bs, .ref eu, .int (ji (Dd)), .int (ji (w))])), (eu, .inr (0, [.long (jl (ee)), .long (jl (uu)), .long (jl (vv))])), (f, .inr (1, [.long (jl ((u_12).1)), .long (jl ((u_12).2.1)), .long (jl ((u_12).2.2))]))] := hD
  exact rt_v X hAe hS (u_12, ee, uu, vv) ⟨v_mg hg.1 hv hred.1 hred.2.1 hred.2.2, hred.2.1, hcp.r (fm_eq_mg hg.1 hs hv.1 hred.1 hred.2.2.sy)⟩ hP d_G_multiply_186
