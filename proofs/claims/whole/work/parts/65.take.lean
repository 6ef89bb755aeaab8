set_option maxHeartbeats 4000000 in
set_option maxRecDepth 100000 in
theorem c_G_canTake (l : Launch) (D : va_G) (cI cJ cF : ClassId) {g o wk st bs eu : Nat} {Dd w : Int} {a b c j1 j2 j3 : Int} (hg : gD Dd w) (ha : jI a) (hb0 : jI b) (hc : jI c) : ∀ sz, Met l y_G_canTake (Cond.code y_G_canTake b_G_canTake 7 (some .boolean) :: wb) { frames := 2, cells := 0, slots := 0, locals := 62 } (va_Pc [.ref g, .long (jl (a)), .long (jl (b)), .long (jl (c))] (cpre D cI cJ cF [(g, .inr (2, [.ref o, .ref wk, .ref st, .ref bs, .ref eu, .int (ji (Dd)), .int (ji (w))])), (eu, .inr (0, [.long (jl (j1)), .long (jl (j2)), .long (jl (j3))]))] sz)) (va_Qi (fun r (u : Int × Int × Int) => ∃ t : Int, r = ji t ∧ ((t = 1 ∧ (ftk Dd a b c)) ∨ (t = 0 ∧ ¬ (ftk Dd a b c)))) (fun (u : Int × Int × Int) t => va_P D classes [(g, .inr (2, [.ref o, .ref wk, .ref st, .ref bs, .ref eu, .int (ji (Dd)), .int (ji (w))])), (eu, .inr (0, [.long (jl (u.1)), .long (jl (u.2.1)), .long (jl (u.2.2))]))] t.heap) (va_A [(g, .inr (2, [.ref o, .ref wk, .ref st, .ref bs, .ref eu, .int (ji (Dd)), .int (ji (w))])), (eu, .inr (0, [.long (jl (j1)), .long (jl (j2)), .long (jl (j3))]))] sz)) 0 0 (va_A [(g, .inr (2, [.ref o, .ref wk, .ref st, .ref bs, .ref eu, .int (ji (Dd)), .int (ji (w))])), (eu, .inr (0, [.long (jl (j1)), .long (jl (j2)), .long (jl (j3))]))] sz) := by
  refine c_of (Qc := fun sz => va_Qi (fun r (u : Int × Int × Int) => ∃ t : Int, r = ji t ∧ ((t = 1 ∧ (ftk Dd a b c)) ∨ (t = 0 ∧ ¬ (ftk Dd a b c)))) (fun (u : Int × Int × Int) t => va_P D classes [(g, .inr (2, [.ref o, .ref wk, .ref st, .ref bs, .ref eu, .int (ji (Dd)), .int (ji (w))])), (eu, .inr (0, [.long (jl (u.1)), .long (jl (u.2.1)), .long (jl (u.2.2))]))] t.heap) (va_A [(g, .inr (2, [.ref o, .ref wk, .ref st, .ref bs, .ref eu, .int (ji (Dd)), .int (ji (w))])), (eu, .inr (0, [.long (jl (j1)), .long (jl (j2)), .long (jl (j3))]))] sz)) (by decide +kernel) co_G_canTake (Nat.le_of_ble_eq_true rfl) ?_
  intro pq eq s mq below meth cq A X hK hP hD hS hA hAe ls hl
  obtain ⟨hx, hb, hml, hown, hr, hlocks, hts⟩ := id X
  have hl : lv_has ls 7 [(0, .ref g), (1, .long (jl (a))), (3, .long (jl (b))), (5, .long (jl (c)))] := hl
  have zd1 := hg.2.1
  have zd2 := hg.2.2.1
  have ya := ha.1
  have ya2 := ha.2
  have yb := hb0.1
  have yb2 := hb0.2
  have yc := hc.1
  have yc2 := hc.2
  refine lv_lload_n hx hb d_G_canTake_0 rfl (lv_at hl 1 rfl) ?_
  refine cl_i (rn_S (wc := []) (As := [.long (jl (a))]) (rest := []) X hK (c_G_isCoefficient l D cI cJ cF ⟨by omega, by omega⟩ _) co_G_isCoefficient in_G ml_G_57 st_G_isCoefficient 1 rfl (by decide +kernel) ⟨Nat.le_of_ble_eq_true rfl, Nat.le_of_ble_eq_true rfl⟩ hP hD [] rfl (by decide) hl.1 rfl (Nat.le_of_ble_eq_true rfl) d_G_canTake_1 ⟨Nat.zero_le _, Nat.zero_le _⟩) hP hD hS hA [] rfl (by decide) (fun _ => rfl) (fun r_1 u_2 H locs hp hP hD hS => ?_)
  obtain ⟨c1, rfl, hc1⟩ := hp
  have hP : va_P D classes [(g, .inr (2, [.ref o, .ref wk, .ref st, .ref bs, .ref eu, .int (ji (Dd)), .int (ji (w))])), (eu, .inr (0, [.long (jl (j1)), .long (jl (j2)), .long (jl (j3))]))] H := hP
  have hD : va_D A [(g, .inr (2, [.ref o, .ref wk, .ref st, .ref bs, .ref eu, .int (ji (Dd)), .int (ji (w))])), (eu, .inr (0, [.long (jl (j1)), .long (jl (j2)), .long (jl (j3))]))] := hD
  refine wi_zeq hx hb ⟨by omega, by omega⟩ d_G_canTake_4 (tgt := 22) (by decide) (fun h_3 => ?_) (fun h_3 => ?_)
  · refine w_iconst hx hb d_G_canTake_22 ?_
    exact rt_z X hAe hS (j1, j2, j3) rfl ⟨0, rfl, Or.inr ⟨rfl, fun z => by have z1 := z.1; obtain ⟨⟨y1, y2⟩, ⟨y3, y4⟩, ⟨y5, y6⟩⟩ := z1; omega⟩⟩ hP d_G_canTake_23
  · refine lv_lload_n hx hb d_G_canTake_7 rfl (lv_at hl 2 rfl) ?_
    refine cl_i (rn_S (wc := []) (As := [.long (jl (b))]) (rest := []) X hK (c_G_isCoefficient l D cI cJ cF ⟨by omega, by omega⟩ _) co_G_isCoefficient in_G ml_G_57 st_G_isCoefficient 1 rfl (by decide +kernel) ⟨Nat.le_of_ble_eq_true rfl, Nat.le_of_ble_eq_true rfl⟩ hP hD [] rfl (by decide) hl.1 rfl (Nat.le_of_ble_eq_true rfl) d_G_canTake_8 ⟨Nat.zero_le _, Nat.zero_le _⟩) hP hD hS hA [] rfl (by decide) (fun _ => rfl) (fun r_4 u_5 H locs hp hP hD hS => ?_)
    obtain ⟨c2, rfl, hc2⟩ := hp
    have hP : va_P D classes [(g, .inr (2, [.ref o, .ref wk, .ref st, .ref bs, .ref eu, .int (ji (Dd)), .int (ji (w))])), (eu, .inr (0, [.long (jl (j1)), .long (jl (j2)), .long (jl (j3))]))] H := hP
    have hD : va_D A [(g, .inr (2, [.ref o, .ref wk, .ref st, .ref bs, .ref eu, .int (ji (Dd)), .int (ji (w))])), (eu, .inr (0, [.long (jl (j1)), .long (jl (j2)), .long (jl (j3))]))] := hD
    refine wi_zeq hx hb ⟨by omega, by omega⟩ d_G_canTake_11 (tgt := 22) (by decide) (fun h_6 => ?_) (fun h_6 => ?_)
    · refine w_iconst hx hb d_G_canTake_22 ?_
      exact rt_z X hAe hS (j1, j2, j3) rfl ⟨0, rfl, Or.inr ⟨rfl, fun z => by have z1 := z.1; obtain ⟨⟨y1, y2⟩, ⟨y3, y4⟩, ⟨y5, y6⟩⟩ := z1; omega⟩⟩ hP d_G_canTake_23
    · refine lv_lload hx hb d_G_canTake_14 (lv_at hl 3 rfl) ?_
      refine cl_i (rn_S (wc := []) (As := [.long (jl (c))]) (rest := []) X hK (c_G_isCoefficient l D cI cJ cF ⟨by omega, by omega⟩ _) co_G_isCoefficient in_G ml_G_57 st_G_isCoefficient 1 rfl (by decide +kernel) ⟨Nat.le_of_ble_eq_true rfl, Nat.le_of_ble_eq_true rfl⟩ hP hD [] rfl (by decide) hl.1 rfl (Nat.le_of_ble_eq_true rfl) d_G_canTake_16 ⟨Nat.zero_le _, Nat.zero_le _⟩) hP hD hS hA [] rfl (by decide) (fun _ => rfl) (fun r_7 u_8 H locs hp hP hD hS => ?_)
      obtain ⟨c3, rfl, hc3⟩ := hp
      have hP : va_P D classes [(g, .inr (2, [.ref o, .ref wk, .ref st, .ref bs, .ref eu, .int (ji (Dd)), .int (ji (w))])), (eu, .inr (0, [.long (jl (j1)), .long (jl (j2)), .long (jl (j3))]))] H := hP
      have hD : va_D A [(g, .inr (2, [.ref o, .ref wk, .ref st, .ref bs, .ref eu, .int (ji (Dd)), .int (ji (w))])), (eu, .inr (0, [.long (jl (j1)), .long (jl (j2)), .long (jl (j3))]))] := hD
      refine wi_zne hx hb ⟨by omega, by omega⟩ d_G_canTake_19 (tgt := 24) (by decide) (fun h_9 => ?_) (fun h_9 => ?_)
      · have hAA : b30 a := by rcases hc1 with z | z; exact z.2; omega
        have hBB : b30 b := by rcases hc2 with z | z; exact z.2; omega
        have hCC : b30 c := by rcases hc3 with z | z; exact z.2; omega
        refine lv_lload_n hx hb d_G_canTake_24 rfl (lv_at hl 2 rfl) ?_
        refine lv_lload_n hx hb d_G_canTake_25 rfl (lv_at hl 2 rfl) ?_
        refine wl_mul hx hb d_G_canTake_26 ?_
        refine w_ldc2 (v := 4) (n := 4) hx hb (by decide) hown (hts _ kc_G_61) d_G_canTake_27 ?_
        refine lv_lload_n hx hb d_G_canTake_30 rfl (lv_at hl 1 rfl) ?_
        refine wl_mul hx hb d_G_canTake_31 ?_
        refine lv_lload hx hb d_G_canTake_32 (lv_at hl 3 rfl) ?_
        refine wl_mul hx hb d_G_canTake_34 ?_
        refine wl_sub hx hb d_G_canTake_35 ?_
        refine lv_aload_n hx hb d_G_canTake_36 rfl (lv_at hl 0 rfl) ?_
        refine va_get (D := D) (ci := 2) (v := .int (ji (Dd))) (C := R_G) (T := T_G) (N := 7) hx hb hts uw_G hown hK.1 hP 0 rfl rfl 5 (by decide) (hts _ fl_G_34) (fun _ h9 => h9) rfl d_G_canTake_37 ?_
        refine w_i2l hx hb hg.jD d_G_canTake_40 ?_
        refine wl_cne hx hb (tk_bd hAA hBB hCC) ⟨by omega, by omega⟩ d_G_canTake_41 d_G_canTake_42 (tgt := 58) (by decide) (fun h_10 => ?_) (fun h_10 => ?_)
        · have hnd := tk_no h_10
          refine w_iconst hx hb d_G_canTake_58 ?_
          exact rt_z X hAe hS (j1, j2, j3) rfl ⟨0, rfl, Or.inr ⟨rfl, fun z => by first | exact hnd z.2.1 | (have := z.2.2.2 (by omega); dsimp only at this; omega)⟩⟩ hP d_G_canTake_59
        · have hdd := tk_yes h_10
          refine lv_aload_n hx hb d_G_canTake_45 rfl (lv_at hl 0 rfl) ?_
          refine va_get (D := D) (ci := 2) (v := .int (ji (Dd))) (C := R_G) (T := T_G) (N := 7) hx hb hts uw_G hown hK.1 hP 0 rfl rfl 5 (by decide) (hts _ fl_G_34) (fun _ h9 => h9) rfl d_G_canTake_46 ?_
          refine wi_zge hx hb hg.jD d_G_canTake_49 (tgt := 60) (by decide) (fun h_11 => ?_) (fun h_11 => ?_)
          · refine lv_aload_n hx hb d_G_canTake_60 rfl (lv_at hl 0 rfl) ?_
            refine va_get (D := D) (ci := 2) (v := .ref eu) (C := R_G) (T := T_G) (N := 7) hx hb hts uw_G hown hK.1 hP 0 rfl rfl 4 (by decide) (hts _ fl_G_30) (fun _ h9 => h9) rfl d_G_canTake_61 ?_
            refine lv_lload_n hx hb d_G_canTake_64 rfl (lv_at hl 1 rfl) ?_
            refine lv_lload_n hx hb d_G_canTake_65 rfl (lv_at hl 2 rfl) ?_
            refine cl_v (rn_VN (wc := [(eu, .inr (0, [.long (jl (j1)), .long (jl (j2)), .long (jl (j3))]))]) (As := [.long (jl (a)), .long (jl (b))]) (rest := []) X hK (c_E_solve l D cI cJ cF hAA hBB _) co_E_solve in_E nm_G_63 im_E_solve se_E_solve 2 rfl (by decide +kernel) ⟨Nat.le_of_ble_eq_true rfl, Nat.le_of_ble_eq_true rfl⟩ hP hD [1] rfl (by decide) (q0 := 0) (ci := 0) rfl rfl rfl hl.1 rfl (Nat.le_of_ble_eq_true rfl) d_G_canTake_66 ⟨Nat.zero_le _, Nat.zero_le _⟩) hP hD hS hA [1] rfl (by decide) (fun _ => rfl) (fun u_12 H locs hp hP hD hS => ?_)
            obtain ⟨g1, x1, y1⟩ := u_12
            have E1 : eP a b g1 x1 y1 := hp
            have hP : va_P D classes [(g, .inr (2, [.ref o, .ref wk, .ref st, .ref bs, .ref eu, .int (ji (Dd)), .int (ji (w))])), (eu, .inr (0, [.long (jl (g1)), .long (jl (x1)), .long (jl (y1))]))] H := hP
            have hD : va_D A [(g, .inr (2, [.ref o, .ref wk, .ref st, .ref bs, .ref eu, .int (ji (Dd)), .int (ji (w))])), (eu, .inr (0, [.long (jl (g1)), .long (jl (x1)), .long (jl (y1))]))] := hD
            refine lv_aload_n hx hb d_G_canTake_69 rfl (lv_at hl 0 rfl) ?_
            refine va_get (D := D) (ci := 2) (v := .ref eu) (C := R_G) (T := T_G) (N := 7) hx hb hts uw_G hown hK.1 hP 0 rfl rfl 4 (by decide) (hts _ fl_G_30) (fun _ h9 => h9) rfl d_G_canTake_70 ?_
            refine lv_aload_n hx hb d_G_canTake_73 rfl (lv_at hl 0 rfl) ?_
            refine va_get (D := D) (ci := 2) (v := .ref eu) (C := R_G) (T := T_G) (N := 7) hx hb hts uw_G hown hK.1 hP 0 rfl rfl 4 (by decide) (hts _ fl_G_30) (fun _ h9 => h9) rfl d_G_canTake_74 ?_
            refine va_getN (D := D) (ci := 0) (v := .long (jl (g1))) (C := R_E) (T := T_E) (N := 3) hx hb hts uw_E hown hK.1 hP 1 rfl rfl 0 (by decide) ((hK.2 _ nf_G_67).use rfl) (fun _ h9 => h9) rfl d_G_canTake_77 ?_
            refine lv_lload hx hb d_G_canTake_80 (lv_at hl 3 rfl) ?_
            refine cl_v (rn_VN (wc := [(eu, .inr (0, [.long (jl (g1)), .long (jl (x1)), .long (jl (y1))]))]) (As := [.long (jl (g1)), .long (jl (c))]) (rest := []) X hK (c_E_solve l D cI cJ cF E1.2.2.2.2.1 hCC _) co_E_solve in_E nm_G_63 im_E_solve se_E_solve 2 rfl (by decide +kernel) ⟨Nat.le_of_ble_eq_true rfl, Nat.le_of_ble_eq_true rfl⟩ hP hD [1] rfl (by decide) (q0 := 0) (ci := 0) rfl rfl rfl hl.1 rfl (Nat.le_of_ble_eq_true rfl) d_G_canTake_82 ⟨Nat.zero_le _, Nat.zero_le _⟩) hP hD hS hA [1] rfl (by decide) (fun _ => rfl) (fun u_13 H locs hp hP hD hS => ?_)
            obtain ⟨g2, x2, y2⟩ := u_13
            have E2 : eP g1 c g2 x2 y2 := hp
            have hP : va_P D classes [(g, .inr (2, [.ref o, .ref wk, .ref st, .ref bs, .ref eu, .int (ji (Dd)), .int (ji (w))])), (eu, .inr (0, [.long (jl (g2)), .long (jl (x2)), .long (jl (y2))]))] H := hP
            have hD : va_D A [(g, .inr (2, [.ref o, .ref wk, .ref st, .ref bs, .ref eu, .int (ji (Dd)), .int (ji (w))])), (eu, .inr (0, [.long (jl (g2)), .long (jl (x2)), .long (jl (y2))]))] := hD
            refine lv_aload_n hx hb d_G_canTake_85 rfl (lv_at hl 0 rfl) ?_
            refine va_get (D := D) (ci := 2) (v := .ref eu) (C := R_G) (T := T_G) (N := 7) hx hb hts uw_G hown hK.1 hP 0 rfl rfl 4 (by decide) (hts _ fl_G_30) (fun _ h9 => h9) rfl d_G_canTake_86 ?_
            refine va_getN (D := D) (ci := 0) (v := .long (jl (g2))) (C := R_E) (T := T_E) (N := 3) hx hb hts uw_E hown hK.1 hP 1 rfl rfl 0 (by decide) ((hK.2 _ nf_G_67).use rfl) (fun _ h9 => h9) rfl d_G_canTake_89 ?_
            refine w_lconst (v := 1) hx hb rfl d_G_canTake_92 ?_
            refine wl_cne hx hb E2.2.2.2.2.1.j ⟨by decide, by decide⟩ d_G_canTake_93 d_G_canTake_94 (tgt := 101) (by decide) (fun h_14 => ?_) (fun h_14 => ?_)
            · refine w_iconst hx hb d_G_canTake_101 ?_
              exact rt_z X hAe hS (g2, x2, y2) rfl ⟨0, rfl, Or.inr ⟨rfl, fun z => by have := (pr_gcd E1 E2).mp z.2.2.1; omega⟩⟩ hP d_G_canTake_102
            · refine w_iconst hx hb d_G_canTake_97 ?_
              refine lv_goto (tgt := 102) hx hb d_G_canTake_98 (by decide) ?_
              exact rt_z X hAe hS (g2, x2, y2) rfl ⟨1, rfl, Or.inl ⟨rfl, ⟨hAA, hBB, hCC⟩, hdd, (pr_gcd E1 E2).mpr (by omega), fun q => by show 0 < a; omega⟩⟩ hP d_G_canTake_102
          · refine lv_lload_n hx hb d_G_canTake_52 rfl (lv_at hl 1 rfl) ?_
            refine w_lconst (v := 0) hx hb rfl d_G_canTake_53 ?_
            refine wl_cgt hx hb hAA.j ⟨by decide, by decide⟩ d_G_canTake_54 d_G_canTake_55 (tgt := 60) (by decide) (fun h_15 => ?_) (fun h_15 => ?_)
            · refine lv_aload_n hx hb d_G_canTake_60 rfl (lv_at hl 0 rfl) ?_
              refine va_get (D := D) (ci := 2) (v := .ref eu) (C := R_G) (T := T_G) (N := 7) hx hb hts uw_G hown hK.1 hP 0 rfl rfl 4 (by decide) (hts _ fl_G_30) (fun _ h9 => h9) rfl d_G_canTake_61 ?_
              refine lv_lload_n hx hb d_G_canTake_64 rfl (lv_at hl 1 rfl) ?_
              refine lv_lload_n hx hb d_G_canTake_65 rfl (lv_at hl 2 rfl) ?_
              refine cl_v (rn_VN (wc := [(eu, .inr (0, [.long (jl (j1)), .long (jl (j2)), .long (jl (j3))]))]) (As := [.long (jl (a)), .long (jl (b))]) (rest := []) X hK (c_E_solve l D cI cJ cF hAA hBB _) co_E_solve in_E nm_G_63 im_E_solve se_E_solve 2 rfl (by decide +kernel) ⟨Nat.le_of_ble_eq_true rfl, Nat.le_of_ble_eq_true rfl⟩ hP hD [1] rfl (by decide) (q0 := 0) (ci := 0) rfl rfl rfl hl.1 rfl (Nat.le_of_ble_eq_true rfl) d_G_canTake_66 ⟨Nat.zero_le _, Nat.zero_le _⟩) hP hD hS hA [1] rfl (by decide) (fun _ => rfl) (fun u_16 H locs hp hP hD hS => ?_)
              obtain ⟨g1, x1, y1⟩ := u_16
              have E1 : eP a b g1 x1 y1 := hp
              have hP : va_P D classes [(g, .inr (2, [.ref o, .ref wk, .ref st, .ref bs, .ref eu, .int (ji (Dd)), .int (ji (w))])), (eu, .inr (0, [.long (jl (g1)), .long (jl (x1)), .long (jl (y1))]))] H := hP
              have hD : va_D A [(g, .inr (2, [.ref o, .ref wk, .ref st, .ref bs, .ref eu, .int (ji (Dd)), .int (ji (w))])), (eu, .inr (0, [.long (jl (g1)), .long (jl (x1)), .long (jl (y1))]))] := hD
              refine lv_aload_n hx hb d_G_canTake_69 rfl (lv_at hl 0 rfl) ?_
              refine va_get (D := D) (ci := 2) (v := .ref eu) (C := R_G) (T := T_G) (N := 7) hx hb hts uw_G hown hK.1 hP 0 rfl rfl 4 (by decide) (hts _ fl_G_30) (fun _ h9 => h9) rfl d_G_canTake_70 ?_
              refine lv_aload_n hx hb d_G_canTake_73 rfl (lv_at hl 0 rfl) ?_
              refine va_get (D := D) (ci := 2) (v := .ref eu) (C := R_G) (T := T_G) (N := 7) hx hb hts uw_G hown hK.1 hP 0 rfl rfl 4 (by decide) (hts _ fl_G_30) (fun _ h9 => h9) rfl d_G_canTake_74 ?_
              refine va_getN (D := D) (ci := 0) (v := .long (jl (g1))) (C := R_E) (T := T_E) (N := 3) hx hb hts uw_E hown hK.1 hP 1 rfl rfl 0 (by decide) ((hK.2 _ nf_G_67).use rfl) (fun _ h9 => h9) rfl d_G_canTake_77 ?_
              refine lv_lload hx hb d_G_canTake_80 (lv_at hl 3 rfl) ?_
              refine cl_v (rn_VN (wc := [(eu, .inr (0, [.long (jl (g1)), .long (jl (x1)), .long (jl (y1))]))]) (As := [.long (jl (g1)), .long (jl (c))]) (rest := []) X hK (c_E_solve l D cI cJ cF E1.2.2.2.2.1 hCC _) co_E_solve in_E nm_G_63 im_E_solve se_E_solve 2 rfl (by decide +kernel) ⟨Nat.le_of_ble_eq_true rfl, Nat.le_of_ble_eq_true rfl⟩ hP hD [1] rfl (by decide) (q0 := 0) (ci := 0) rfl rfl rfl hl.1 rfl (Nat.le_of_ble_eq_true rfl) d_G_canTake_82 ⟨Nat.zero_le _, Nat.zero_le _⟩) hP hD hS hA [1] rfl (by decide) (fun _ => rfl) (fun u_17 H locs hp hP hD hS => ?_)
              obtain ⟨g2, x2, y2⟩ := u_17
              have E2 : eP g1 c g2 x2 y2 := hp
              have hP : va_P D classes [(g, .inr (2, [.ref o, .ref wk, .ref st, .ref bs, .ref eu, .int (ji (Dd)), .int (ji (w))])), (eu, .inr (0, [.long (jl (g2)), .long (jl (x2)), .long (jl (y2))]))] H := hP
              have hD : va_D A [(g, .inr (2, [.ref o, .ref wk, .ref st, .ref bs, .ref eu, .int (ji (Dd)), .int (ji (w))])), (eu, .inr (0, [.long (jl (g2)), .long (jl (x2)), .long (jl (y2))]))] := hD
              refine lv_aload_n hx hb d_G_canTake_85 rfl (lv_at hl 0 rfl) ?_
              refine va_get (D := D) (ci := 2) (v := .ref eu) (C := R_G) (T := T_G) (N := 7) hx hb hts uw_G hown hK.1 hP 0 rfl rfl 4 (by decide) (hts _ fl_G_30) (fun _ h9 => h9) rfl d_G_canTake_86 ?_
              refine va_getN (D := D) (ci := 0) (v := .long (jl (g2))) (C := R_E) (T := T_E) (N := 3) hx hb hts uw_E hown hK.1 hP 1 rfl rfl 0 (by decide) ((hK.2 _ nf_G_67).use rfl) (fun _ h9 => h9) rfl d_G_canTake_89 ?_
              refine w_lconst (v := 1) hx hb rfl d_G_canTake_92 ?_
              refine wl_cne hx hb E2.2.2.2.2.1.j ⟨by decide, by decide⟩ d_G_canTake_93 d_G_canTake_94 (tgt := 101) (by decide) (fun h_18 => ?_) (fun h_18 => ?_)
              · refine w_iconst hx hb d_G_canTake_101 ?_
                exact rt_z X hAe hS (g2, x2, y2) rfl ⟨0, rfl, Or.inr ⟨rfl, fun z => by have := (pr_gcd E1 E2).mp z.2.2.1; omega⟩⟩ hP d_G_canTake_102
              · refine w_iconst hx hb d_G_canTake_97 ?_
                refine lv_goto (tgt := 102) hx hb d_G_canTake_98 (by decide) ?_
                exact rt_z X hAe hS (g2, x2, y2) rfl ⟨1, rfl, Or.inl ⟨rfl, ⟨hAA, hBB, hCC⟩, hdd, (pr_gcd E1 E2).mpr (by omega), fun q => by show 0 < a; omega⟩⟩ hP d_G_canTake_102
            · refine w_iconst hx hb d_G_canTake_58 ?_
              exact rt_z X hAe hS (j1, j2, j3) rfl ⟨0, rfl, Or.inr ⟨rfl, fun z => by first | exact hnd z.2.1 | (have := z.2.2.2 (by omega); dsimp only at this; omega)⟩⟩ hP d_G_canTake_59
      · refine w_iconst hx hb d_G_canTake_22 ?_
        exact rt_z X hAe hS (j1, j2, j3) rfl ⟨0, rfl, Or.inr ⟨rfl, fun z => by have z1 := z.1; obtain ⟨⟨y1, y2⟩, ⟨y3, y4⟩, ⟨y5, y6⟩⟩ := z1; omega⟩⟩ hP d_G_canTake_23

set_option maxHeartbeats 4000000 in
set_option maxRecDepth 100000 in
theorem c_G_settle (l : Launch) (D : va_G) (cI cJ cF : ClassId) {g o wk st bs eu : Nat} {D0 w0 d o1 o2 o3 x1 x2 x3 y1 y2 y3 : Int} (hd : jI d) (hdv : dV d) : ∀ sz, Met l y_G_settle (Cond.code y_G_settle b_G_settle 2 none :: wb) { frames := 4, cells := 0, slots := 0, locals := 100 } (va_Pc [.ref g, .int (ji (d))] (cpre D cI cJ cF [(g, .inr (2, [.ref o, .ref wk, .ref st, .ref bs, .ref eu, .int (ji (D0)), .int (ji (w0))])), (o, .inr (1, [.long (jl (o1)), .long (jl (o2)), .long (jl (o3))])), (wk, .inr (1, [.long (jl (x1)), .long (jl (x2)), .long (jl (x3))])), (st, .inr (1, [.long (jl (y1)), .long (jl (y2)), .long (jl (y3))]))] sz)) (va_Qv (fun (u : Int × fm_F × fm_F × fm_F) => gD d u.1 ∧ fm_nm d u.1 u.2.1 (fm_one (d % 2) ((d - d % 2) / 4))) (fun (u : Int × fm_F × fm_F × fm_F) t => va_P D classes [(g, .inr (2, [.ref o, .ref wk, .ref st, .ref bs, .ref eu, .int (ji (d)), .int (ji (u.1))])), (o, .inr (1, [.long (jl ((u.2.1).1)), .long (jl ((u.2.1).2.1)), .long (jl ((u.2.1).2.2))])), (wk, .inr (1, [.long (jl ((u.2.2.1).1)), .long (jl ((u.2.2.1).2.1)), .long (jl ((u.2.2.1).2.2))])), (st, .inr (1, [.long (jl ((u.2.2.2).1)), .long (jl ((u.2.2.2).2.1)), .long (jl ((u.2.2.2).2.2))]))] t.heap) (va_A [(g, .inr (2, [.ref o, .ref wk, .ref st, .ref bs, .ref eu, .int (ji (D0)), .int (ji (w0))])), (o, .inr (1, [.long (jl (o1)), .long (jl (o2)), .long (jl (o3))])), (wk, .inr (1, [.long (jl (x1)), .long (jl (x2)), .long (jl (x3))])), (st, .inr (1, [.long (jl (y1)), .long (jl (y2)), .long (jl (y3))]))] sz)) 0 0 (va_A [(g, .inr (2, [.ref o, .ref wk, .ref st, .ref bs, .ref eu, .int (ji (D0)), .int (ji (w0))])), (o, .inr (1, [.long (jl (o1)), .long (jl (o2)), .long (jl (o3))])), (wk, .inr (1, [.long (jl (x1)), .long (jl (x2)), .long (jl (x3))])), (st, .inr (1, [.long (jl (y1)), .long (jl (y2)), .long (jl (y3))]))] sz) := by
  refine c_of (Qc := fun sz => va_Qv (fun (u : Int × fm_F × fm_F × fm_F) => gD d u.1 ∧ fm_nm d u.1 u.2.1 (fm_one (d % 2) ((d - d % 2) / 4))) (fun (u : Int × fm_F × fm_F × fm_F) t => va_P D classes [(g, .inr (2, [.ref o, .ref wk, .ref st, .ref bs, .ref eu, .int (ji (d)), .int (ji (u.1))])), (o, .inr (1, [.long (jl ((u.2.1).1)), .long (jl ((u.2.1).2.1)), .long (jl ((u.2.1).2.2))])), (wk, .inr (1, [.long (jl ((u.2.2.1).1)), .long (jl ((u.2.2.1).2.1)), .long (jl ((u.2.2.1).2.2))])), (st, .inr (1, [.long (jl ((u.2.2.2).1)), .long (jl ((u.2.2.2).2.1)), .long (jl ((u.2.2.2).2.2))]))] t.heap) (va_A [(g, .inr (2, [.ref o, .ref wk, .ref st, .ref bs, .ref eu, .int (ji (D0)), .int (ji (w0))])), (o, .inr (1, [.long (jl (o1)), .long (jl (o2)), .long (jl (o3))])), (wk, .inr (1, [.long (jl (x1)), .long (jl (x2)), .long (jl (x3))])), (st, .inr (1, [.long (jl (y1)), .long (jl (y2)), .long (jl (y3))]))] sz)) (by decide +kernel) co_G_settle (Nat.le_of_ble_eq_true rfl) ?_
  intro pq eq s mq below meth cq A X hK hP hD hS hA hAe ls hl
  obtain ⟨hx, hb, hml, hown, hr, hlocks, hts⟩ := id X
  have hl : lv_has ls 2 [(0, .ref g), (1, .int (ji (d)))] := hl
  have hsn := sn_of hdv.2.2.1
  have hod := fm_one_disc hsn
  unfold fm_one at hod
  have yd1 := hdv.1
  have yd2 := hdv.2.1
  refine lv_aload_n hx hb d_G_settle_0 rfl (lv_at hl 0 rfl) ?_
  refine lv_iload_n hx hb d_G_settle_1 rfl (lv_at hl 1 rfl) ?_
  refine va_put (D := D) (ci := 2) (v := .int (ji (d))) (ty := .int) (C := R_G) (T := T_G) (N := 7) hx hb hts uw_G ty_G ty_G_ok nm_G hown hK.1 hP hD hS 0 rfl rfl 5 (by decide) (hts _ fl_G_34) (fun _ h9 => h9) rfl (by decide +kernel) rfl rfl (Nat.le_of_ble_eq_true rfl) d_G_settle_2 (fun H locs hP hD hS => ?_)
  have hP : va_P D classes [(g, .inr (2, [.ref o, .ref wk, .ref st, .ref bs, .ref eu, .int (ji (d)), .int (ji (w0))])), (o, .inr (1, [.long (jl (o1)), .long (jl (o2)), .long (jl (o3))])), (wk, .inr (1, [.long (jl (x1)), .long (jl (x2)), .long (jl (x3))])), (st, .inr (1, [.long (jl (y1)), .long (jl (y2)), .long (jl (y3))]))] H := hP
  have hD : va_D A [(g, .inr (2, [.ref o, .ref wk, .ref st, .ref bs, .ref eu, .int (ji (d)), .int (ji (w0))])), (o, .inr (1, [.long (jl (o1)), .long (jl (o2)), .long (jl (o3))])), (wk, .inr (1, [.long (jl (x1)), .long (jl (x2)), .long (jl (x3))])), (st, .inr (1, [.long (jl (y1)), .long (jl (y2)), .long (jl (y3))]))] := hD
  refine lv_aload_n hx hb d_G_settle_5 rfl (lv_at hl 0 rfl) ?_
  refine lv_iload_n hx hb d_G_settle_6 rfl (lv_at hl 1 rfl) ?_
  refine cl_i (rn_SN (wc := []) (As := [.int (ji (d))]) (rest := [.ref g]) X hK (c_X_wholeRoot l D cI cJ cF hd hdv.2.1 _) co_X_wholeRoot in_X nm_G_38 st_X_wholeRoot 1 rfl (by decide +kernel) ⟨Nat.le_of_ble_eq_true rfl, Nat.le_of_ble_eq_true rfl⟩ hP hD [] rfl (by decide) hl.1 rfl (Nat.le_of_ble_eq_true rfl) d_G_settle_7 ⟨Nat.zero_le _, Nat.zero_le _⟩) hP hD hS hA [] rfl (by decide) (fun _ => rfl) (fun r_1 u_2 H locs hp hP hD hS => ?_)
  obtain ⟨w, rfl, hw1, hw⟩ := hp
  have hgd := gD_of hdv hw
  have hP : va_P D classes [(g, .inr (2, [.ref o, .ref wk, .ref st, .ref bs, .ref eu, .int (ji (d)), .int (ji (w0))])), (o, .inr (1, [.long (jl (o1)), .long (jl (o2)), .long (jl (o3))])), (wk, .inr (1, [.long (jl (x1)), .long (jl (x2)), .long (jl (x3))])), (st, .inr (1, [.long (jl (y1)), .long (jl (y2)), .long (jl (y3))]))] H := hP
  have hD : va_D A [(g, .inr (2, [.ref o, .ref wk, .ref st, .ref bs, .ref eu, .int (ji (d)), .int (ji (w0))])), (o, .inr (1, [.long (jl (o1)), .long (jl (o2)), .long (jl (o3))])), (wk, .inr (1, [.long (jl (x1)), .long (jl (x2)), .long (jl (x3))])), (st, .inr (1, [.long (jl (y1)), .long (jl (y2)), .long (jl (y3))]))] := hD
  refine va_put (D := D) (ci := 2) (v := .int (ji (w))) (ty := .int) (C := R_G) (T := T_G) (N := 7) hx hb hts uw_G ty_G ty_G_ok nm_G hown hK.1 hP hD hS 0 rfl rfl 6 (by decide) (hts _ fl_G_42) (fun _ h9 => h9) rfl (by decide +kernel) rfl rfl (Nat.le_of_ble_eq_true rfl) d_G_settle_10 (fun H locs hP hD hS => ?_)
  have hP : va_P D classes [(g, .inr (2, [.ref o, .ref wk, .ref st, .ref bs, .ref eu, .int (ji (d)), .int (ji (w))])), (o, .inr (1, [.long (jl (o1)), .long (jl (o2)), .long (jl (o3))])), (wk, .inr (1, [.long (jl (x1)), .long (jl (x2)), .long (jl (x3))])), (st, .inr (1, [.long (jl (y1)), .long (jl (y2)), .long (jl (y3))]))] H := hP
  have hD : va_D A [(g, .inr (2, [.ref o, .ref wk, .ref st, .ref bs, .ref eu, .int (ji (d)), .int (ji (w))])), (o, .inr (1, [.long (jl (o1)), .long (jl (o2)), .long (jl (o3))])), (wk, .inr (1, [.long (jl (x1)), .long (jl (x2)), .long (jl (x3))])), (st, .inr (1, [.long (jl (y1)), .long (jl (y2)), .long (jl (y3))]))] := hD
  refine lv_aload_n hx hb d_G_settle_13 rfl (lv_at hl 0 rfl) ?_
  refine lv_aload_n hx hb d_G_settle_14 rfl (lv_at hl 0 rfl) ?_
  refine va_get (D := D) (ci := 2) (v := .ref o) (C := R_G) (T := T_G) (N := 7) hx hb hts uw_G hown hK.1 hP 0 rfl rfl 0 (by decide) (hts _ fl_G_12) (fun _ h9 => h9) rfl d_G_settle_15 ?_
  refine w_lconst (v := 1) hx hb rfl d_G_settle_18 ?_
  refine lv_iload_n hx hb d_G_settle_19 rfl (lv_at hl 1 rfl) ?_
  refine w_iconst hx hb d_G_settle_20 ?_
  refine lv_iand hx hb d_G_settle_21 ?_
  rw [ji_and1 hd]
  refine w_i2l hx hb ⟨by omega, by omega⟩ d_G_settle_22 ?_
  refine cl_v (rn_V (wc := [(g, .inr (2, [.ref o, .ref wk, .ref st, .ref bs, .ref eu, .int (ji (d)), .int (ji (w))])), (o, .inr (1, [.long (jl (o1)), .long (jl (o2)), .long (jl (o3))]))]) (As := [.ref o, .long (jl (1)), .long (jl ((d) % 2))]) (rest := []) X hK (c_G_becomeFrom l D cI cJ cF hd ⟨by rcases Int.emod_two_eq d with z | z <;> rw [z] <;> omega, by rcases Int.emod_two_eq d with z | z <;> rw [z] <;> omega⟩ ⟨by decide, by decide⟩ (by decide) (one_q hdv.2.2.1) _) co_G_becomeFrom in_G ml_G_45 im_G_becomeFrom se_G_becomeFrom 3 rfl (by decide +kernel) ⟨Nat.le_of_ble_eq_true rfl, Nat.le_of_ble_eq_true rfl⟩ hP hD [0, 1] rfl (by decide) (q0 := 0) (ci := 2) rfl rfl rfl hl.1 rfl (Nat.le_of_ble_eq_true rfl) d_G_settle_23 ⟨Nat.zero_le _, Nat.zero_le _⟩) hP hD hS hA [0, 1] rfl (by decide) (fun _ => rfl) (fun u_3 H locs hp hP hD hS => ?_)
  have hP : va_P D classes [(g, .inr (2, [.ref o, .ref wk, .ref st, .ref bs, .ref eu, .int (ji (d)), .int (ji (w))])), (o, .inr (1, [.long (jl (1)), .long (jl ((d) % 2)), .long (jl (-((d - d % 2) / 4)))])), (wk, .inr (1, [.long (jl (x1)), .long (jl (x2)), .long (jl (x3))])), (st, .inr (1, [.long (jl (y1)), .long (jl (y2)), .long (jl (y3))]))] H := hP
  have hD : va_D A [(g, .inr (2, [.ref o, .ref wk, .ref st, .ref bs, .ref eu, .int (ji (d)), .int (ji (w))])), (o, .inr (1, [.long (jl (1)), .long (jl ((d) % 2)), .long (jl (-((d - d % 2) / 4)))])), (wk, .inr (1, [.long (jl (x1)), .long (jl (x2)), .long (jl (x3))])), (st, .inr (1, [.long (jl (y1)), .long (jl (y2)), .long (jl (y3))]))] := hD
  refine lv_aload_n hx hb d_G_settle_26 rfl (lv_at hl 0 rfl) ?_
  refine lv_aload_n hx hb d_G_settle_27 rfl (lv_at hl 0 rfl) ?_
  refine va_get (D := D) (ci := 2) (v := .ref o) (C := R_G) (T := T_G) (N := 7) hx hb hts uw_G hown hK.1 hP 0 rfl rfl 0 (by decide) (hts _ fl_G_12) (fun _ h9 => h9) rfl d_G_settle_28 ?_
  refine cl_v (rn_V (wc := [(g, .inr (2, [.ref o, .ref wk, .ref st, .ref bs, .ref eu, .int (ji (d)), .int (ji (w))])), (o, .inr (1, [.long (jl (1)), .long (jl ((d) % 2)), .long (jl (-((d - d % 2) / 4)))]))]) (As := [.ref o]) (rest := []) X hK (c_G_reduce l D cI cJ cF hgd hod (fun _ => by decide) (by decide) (by decide) ⟨by omega, by omega⟩ (fun _ => ⟨by omega, by omega⟩) _) co_G_reduce in_G ml_G_49 im_G_reduce se_G_reduce 1 rfl (by decide +kernel) ⟨Nat.le_of_ble_eq_true rfl, Nat.le_of_ble_eq_true rfl⟩ hP hD [0, 1] rfl (by decide) (q0 := 0) (ci := 2) rfl rfl rfl hl.1 rfl (Nat.le_of_ble_eq_true rfl) d_G_settle_31 ⟨Nat.zero_le _, Nat.zero_le _⟩) hP hD hS hA [0, 1] rfl (by decide) (fun _ => rfl) (fun u_4 H locs hp hP hD hS => ?_)
  have hrd : fm_disc d u_4 ∧ fm_red d w u_4 ∧ fm_mg d w u_4 (1, d % 2, -((d - d % 2) / 4)) := hp
  have hP : va_P D classes [(g, .inr (2, [.ref o, .ref wk, .ref st, .ref bs, .ref eu, .int (ji (d)), .int (ji (w))])), (o, .inr (1, [.long (jl ((u_4).1)), .long (jl ((u_4).2.1)), .long (jl ((u_4).2.2))])), (wk, .inr (1, [.long (jl (x1)), .long (jl (x2)), .long (jl (x3))])), (st, .inr (1, [.long (jl (y1)), .long (jl (y2)), .long (jl (y3))]))] H := hP
  have hD : va_D A [(g, .inr (2, [.ref o, .ref wk, .ref st, .ref bs, .ref eu, .int (ji (d)), .int (ji (w))])), (o, .inr (1, [.long (jl ((u_4).1)), .long (jl ((u_4).2.1)), .long (jl ((u_4).2.2))])), (wk, .inr (1, [.long (jl (x1)), .long (jl (x2)), .long (jl (x3))])), (st, .inr (1, [.long (jl (y1)), .long (jl (y2)), .long (jl (y3))]))] := hD
  refine lv_aload_n hx hb d_G_settle_34 rfl (lv_at hl 0 rfl) ?_
  refine lv_aload_n hx hb d_G_settle_35 rfl (lv_at hl 0 rfl) ?_
  refine va_get (D := D) (ci := 2) (v := .ref o) (C := R_G) (T := T_G) (N := 7) hx hb hts uw_G hown hK.1 hP 0 rfl rfl 0 (by decide) (hts _ fl_G_12) (fun _ h9 => h9) rfl d_G_settle_36 ?_
  refine cl_i (rn_V (wc := [(g, .inr (2, [.ref o, .ref wk, .ref st, .ref bs, .ref eu, .int (ji (d)), .int (ji (w))])), (wk, .inr (1, [.long (jl (x1)), .long (jl (x2)), .long (jl (x3))])), (st, .inr (1, [.long (jl (y1)), .long (jl (y2)), .long (jl (y3))])), (o, .inr (1, [.long (jl ((u_4).1)), .long (jl ((u_4).2.1)), .long (jl ((u_4).2.2))]))]) (As := [.ref o]) (rest := []) X hK (c_G_turnIntoName l D cI cJ cF hgd hrd.1 hrd.2.1 _) co_G_turnIntoName in_G ml_G_53 im_G_turnIntoName se_G_turnIntoName 1 rfl (by decide +kernel) ⟨Nat.le_of_ble_eq_true rfl, Nat.le_of_ble_eq_true rfl⟩ hP hD [0, 2, 3, 1] rfl (by decide) (q0 := 0) (ci := 2) rfl rfl rfl hl.1 rfl (Nat.le_of_ble_eq_true rfl) d_G_settle_39 ⟨Nat.zero_le _, Nat.zero_le _⟩) hP hD hS hA [0, 2, 3, 1] rfl (by decide) (fun _ => rfl) (fun r_5 u_6 H locs hp hP hD hS => ?_)
  obtain ⟨cn, rfl, hnm2, -, -, -⟩ := hp
  have hP : va_P D classes [(g, .inr (2, [.ref o, .ref wk, .ref st, .ref bs, .ref eu, .int (ji (d)), .int (ji (w))])), (o, .inr (1, [.long (jl ((u_6).1.1)), .long (jl ((u_6).1.2.1)), .long (jl ((u_6).1.2.2))])), (wk, .inr (1, [.long (jl ((u_6).2.1.1)), .long (jl ((u_6).2.1.2.1)), .long (jl ((u_6).2.1.2.2))])), (st, .inr (1, [.long (jl ((u_6).2.2.1)), .long (jl ((u_6).2.2.2.1)), .long (jl ((u_6).2.2.2.2))]))] H := hP
  have hD : va_D A [(g, .inr (2, [.ref o, .ref wk, .ref st, .ref bs, .ref eu, .int (ji (d)), .int (ji (w))])), (o, .inr (1, [.long (jl ((u_6).1.1)), .long (jl ((u_6).1.2.1)), .long (jl ((u_6).1.2.2))])), (wk, .inr (1, [.long (jl ((u_6).2.1.1)), .long (jl ((u_6).2.1.2.1)), .long (jl ((u_6).2.1.2.2))])), (st, .inr (1, [.long (jl ((u_6).2.2.1)), .long (jl ((u_6).2.2.2.1)), .long (jl ((u_6).2.2.2.2))]))] := hD
  refine lv_pop hx hb d_G_settle_42 rfl ?_
  exact rt_v X hAe hS (w, ((u_6).1.1, (u_6).1.2.1, (u_6).1.2.2), ((u_6).2.1.1, (u_6).2.1.2.1, (u_6).2.1.2.2), ((u_6).2.2.1, (u_6).2.2.2.1, (u_6).2.2.2.2)) ⟨hgd, hnm2.mg (hrd.2.2)⟩ hP d_G_settle_43
