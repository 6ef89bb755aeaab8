set_option maxHeartbeats 4000000 in
set_option maxRecDepth 100000 in
theorem c_M_toName (l : Launch) (D : va_G) (cI cJ cF : ClassId) {m0 mf mm ml mp : Nat} {co Dd w np : Int} {a b c : Int} (hg : gD Dd w) (hd : fm_disc Dd (a, b, c)) (hpos : Dd < 0 → 0 < a) (hs : sOK w a b c) : ∀ sz, Met l y_M_toName (Cond.code y_M_toName b_M_toName 10 none :: wb) { frames := 2, cells := 0, slots := 0, locals := 60 } (va_Pc [.ref m0] (cpre D cI cJ cF [(m0, .inr (5, [.int (ji (co)), .long (jl (Dd)), .long (jl (w)), .ref mf, .ref mm, .ref ml, .long (jl (a)), .long (jl (b)), .long (jl (c)), .int (ji (np)), .ref mp]))] sz)) (va_Qv (fun (u : fm_F) => fm_nm Dd w u (a, b, c)) (fun (u : fm_F) tS => va_P D classes [(m0, .inr (5, [.int (ji (co)), .long (jl (Dd)), .long (jl (w)), .ref mf, .ref mm, .ref ml, .long (jl (u.1)), .long (jl (u.2.1)), .long (jl (u.2.2)), .int (ji (np)), .ref mp]))] tS.heap) (va_A [(m0, .inr (5, [.int (ji (co)), .long (jl (Dd)), .long (jl (w)), .ref mf, .ref mm, .ref ml, .long (jl (a)), .long (jl (b)), .long (jl (c)), .int (ji (np)), .ref mp]))] sz)) 0 0 (va_A [(m0, .inr (5, [.int (ji (co)), .long (jl (Dd)), .long (jl (w)), .ref mf, .ref mm, .ref ml, .long (jl (a)), .long (jl (b)), .long (jl (c)), .int (ji (np)), .ref mp]))] sz) := by
  refine c_of (Qc := fun sz => va_Qv (fun (u : fm_F) => fm_nm Dd w u (a, b, c)) (fun (u : fm_F) tS => va_P D classes [(m0, .inr (5, [.int (ji (co)), .long (jl (Dd)), .long (jl (w)), .ref mf, .ref mm, .ref ml, .long (jl (u.1)), .long (jl (u.2.1)), .long (jl (u.2.2)), .int (ji (np)), .ref mp]))] tS.heap) (va_A [(m0, .inr (5, [.int (ji (co)), .long (jl (Dd)), .long (jl (w)), .ref mf, .ref mm, .ref ml, .long (jl (a)), .long (jl (b)), .long (jl (c)), .int (ji (np)), .ref mp]))] sz)) (by decide +kernel) co_M_toName (Nat.le_of_ble_eq_true rfl) ?_
  intro pq eq s mq below meth cq A X hK hP hD hS hA hAe ls hl
  obtain ⟨hx, hb, hml, hown, hr, hlocks, hts⟩ := id X
  have hl : lv_has ls 10 [(0, .ref m0)] := hl
  obtain ⟨k0, hk⟩ := fm_ahead hg.1 hd hpos
  have zd1 := hg.2.1
  have zd2 := hg.2.2.1
  refine lpn (I := fun nlp H locs ls => ∃ (xa : Int) (xb : Int) (xc : Int) (kk : Nat), kk = nlp ∧ (fm_red Dd w (fm_it Dd w kk (xa, xb, xc)) ∧ fm_mg Dd w (xa, xb, xc) (a, b, c) ∧ fm_disc Dd (xa, xb, xc) ∧ sOK w xa xb xc) ∧ va_P D classes [(m0, .inr (5, [.int (ji (co)), .long (jl (Dd)), .long (jl (w)), .ref mf, .ref mm, .ref ml, .long (jl (xa)), .long (jl (xb)), .long (jl (xc)), .int (ji (np)), .ref mp]))] H ∧ va_D A [(m0, .inr (5, [.int (ji (co)), .long (jl (Dd)), .long (jl (w)), .ref mf, .ref mm, .ref ml, .long (jl (xa)), .long (jl (xb)), .long (jl (xc)), .int (ji (np)), .ref mp]))] ∧ va_S A s.heap H locs ∧ lv_has ls 10 [(0, .ref m0)]) ?_ _ _ _ _ ⟨a, b, c, k0, rfl, ⟨hk, fm_mg.rf _, hd, hs⟩, hP, hD, hS, lv_sub hl [0] rfl⟩
  rintro nlp H locs ls ⟨xa, xb, xc, kk, rfl, hi, hP, hD, hS, hl⟩ ih
  refine lv_aload_n hx hb d_M_toName_0 rfl (lv_at hl 0 rfl) ?_
  refine cl_i (rn_V (wc := [(m0, .inr (5, [.int (ji (co)), .long (jl (Dd)), .long (jl (w)), .ref mf, .ref mm, .ref ml, .long (jl (xa)), .long (jl (xb)), .long (jl (xc)), .int (ji (np)), .ref mp]))]) (As := []) (rest := []) X hK (c_M_isReduced l D cI cJ cF hg hi.2.2.2 _) co_M_isReduced in_M ml_M_91 im_M_isReduced se_M_isReduced 0 rfl (by decide +kernel) ⟨Nat.le_of_ble_eq_true rfl, Nat.le_of_ble_eq_true rfl⟩ hP hD [0] rfl (by decide) (q0 := 0) (ci := 5) rfl rfl rfl hl.1 rfl (Nat.le_of_ble_eq_true rfl) d_M_toName_1 ⟨Nat.zero_le _, Nat.zero_le _⟩) hP hD hS hA [0] rfl (by decide) (fun _ => rfl) (fun r_1 u_2 H locs hp hP hD hS => ?_)
  obtain ⟨t1, rfl, ht1⟩ := hp
  have hP : va_P D classes [(m0, .inr (5, [.int (ji (co)), .long (jl (Dd)), .long (jl (w)), .ref mf, .ref mm, .ref ml, .long (jl (xa)), .long (jl (xb)), .long (jl (xc)), .int (ji (np)), .ref mp]))] H := hP
  have hD : va_D A [(m0, .inr (5, [.int (ji (co)), .long (jl (Dd)), .long (jl (w)), .ref mf, .ref mm, .ref ml, .long (jl (xa)), .long (jl (xb)), .long (jl (xc)), .int (ji (np)), .ref mp]))] := hD
  refine wi_zne hx hb ⟨by omega, by omega⟩ d_M_toName_4 (tgt := 14) (by decide) (fun h_3 => ?_) (fun h_3 => ?_)
  · obtain ⟨i1, i2, i3, i4⟩ := hi
    have hrd : fm_red Dd w (xa, xb, xc) := by rcases ht1 with z | z; exact z.2; omega
    refine lv_aload_n hx hb d_M_toName_14 rfl (lv_at hl 0 rfl) ?_
    refine va_get (D := D) (ci := 5) (v := .long (jl (Dd))) (C := R_M) (T := T_M) (N := 11) hx hb hts uw_M hown hK.1 hP 0 rfl rfl 1 (by decide) (hts _ fl_M_9) (fun _ h9 => h9) rfl d_M_toName_15 ?_
    refine w_lconst (v := 0) hx hb rfl d_M_toName_18 ?_
    refine wl_cge hx hb ⟨by omega, by omega⟩ ⟨by decide, by decide⟩ d_M_toName_19 d_M_toName_20 (tgt := 24) (by decide) (fun h_4 => ?_) (fun h_4 => ?_)
    · have hD0 : ¬ Dd < 0 := by omega
      obtain ⟨pz, m0x, m1, hmm⟩ := fm_period hg.1 hg.2.2.2 hD0 i3 hrd
      refine lv_aload_n hx hb d_M_toName_24 rfl (lv_at hl 0 rfl) ?_
      refine va_get (D := D) (ci := 5) (v := .long (jl (xa))) (C := R_M) (T := T_M) (N := 11) hx hb hts uw_M hown hK.1 hP 0 rfl rfl 6 (by decide) (hts _ fl_M_73) (fun _ h9 => h9) rfl d_M_toName_25 ?_
      refine lv_lstore_n (lv' := [(1, .long (jl (xa))), (0, .ref m0)]) hx hb d_M_toName_28 rfl hl (by decide) rfl (fun ls hl => ?_)
      refine lv_aload_n hx hb d_M_toName_29 rfl (lv_at hl 1 rfl) ?_
      refine va_get (D := D) (ci := 5) (v := .long (jl (xb))) (C := R_M) (T := T_M) (N := 11) hx hb hts uw_M hown hK.1 hP 0 rfl rfl 7 (by decide) (hts _ fl_M_76) (fun _ h9 => h9) rfl d_M_toName_30 ?_
      refine lv_lstore_n (lv' := [(3, .long (jl (xb))), (1, .long (jl (xa))), (0, .ref m0)]) hx hb d_M_toName_33 rfl hl (by decide) rfl (fun ls hl => ?_)
      refine lv_aload_n hx hb d_M_toName_34 rfl (lv_at hl 2 rfl) ?_
      refine va_get (D := D) (ci := 5) (v := .long (jl (xa))) (C := R_M) (T := T_M) (N := 11) hx hb hts uw_M hown hK.1 hP 0 rfl rfl 6 (by decide) (hts _ fl_M_73) (fun _ h9 => h9) rfl d_M_toName_35 ?_
      refine lv_lstore (lv' := [(5, .long (jl (xa))), (3, .long (jl (xb))), (1, .long (jl (xa))), (0, .ref m0)]) hx hb d_M_toName_38 hl (by decide) rfl (fun ls hl => ?_)
      refine lv_aload_n hx hb d_M_toName_40 rfl (lv_at hl 3 rfl) ?_
      refine va_get (D := D) (ci := 5) (v := .long (jl (xb))) (C := R_M) (T := T_M) (N := 11) hx hb hts uw_M hown hK.1 hP 0 rfl rfl 7 (by decide) (hts _ fl_M_76) (fun _ h9 => h9) rfl d_M_toName_41 ?_
      refine lv_lstore (lv' := [(7, .long (jl (xb))), (5, .long (jl (xa))), (3, .long (jl (xb))), (1, .long (jl (xa))), (0, .ref m0)]) hx hb d_M_toName_44 hl (by decide) rfl (fun ls hl => ?_)
      refine w_iconst hx hb d_M_toName_46 ?_
      refine lv_istore (lv' := [(9, .int (ji (1))), (7, .long (jl (xb))), (5, .long (jl (xa))), (3, .long (jl (xb))), (1, .long (jl (xa))), (0, .ref m0)]) hx hb d_M_toName_47 hl (by decide) rfl (fun ls hl => ?_)
      refine lpn (I := fun nlp H locs ls => ∃ (nn : Nat) (fg : Int) (za : Int) (zb : Int) (zc : Int), (if fg = 0 then 0 else pz + 1 - nn) = nlp ∧ ((fg = 0 ∨ fg = 1) ∧ (fg = 1 → nn < pz) ∧ (fg = 0 → 0 < nn ∧ fm_it Dd w nn (xa, xb, xc) = (xa, xb, xc)) ∧ (∃ j0 : Nat, j0 ≤ nn ∧ fm_it Dd w j0 (xa, xb, xc) = (za, zb, zc)) ∧ ∀ j : Nat, j ≤ nn → fm_le (za, zb, zc) (fm_it Dd w j (xa, xb, xc))) ∧ va_P D classes [(m0, .inr (5, [.int (ji (co)), .long (jl (Dd)), .long (jl (w)), .ref mf, .ref mm, .ref ml, .long (jl ((fm_it Dd w nn (xa, xb, xc)).1)), .long (jl ((fm_it Dd w nn (xa, xb, xc)).2.1)), .long (jl ((fm_it Dd w nn (xa, xb, xc)).2.2)), .int (ji (np)), .ref mp]))] H ∧ va_D A [(m0, .inr (5, [.int (ji (co)), .long (jl (Dd)), .long (jl (w)), .ref mf, .ref mm, .ref ml, .long (jl ((fm_it Dd w nn (xa, xb, xc)).1)), .long (jl ((fm_it Dd w nn (xa, xb, xc)).2.1)), .long (jl ((fm_it Dd w nn (xa, xb, xc)).2.2)), .int (ji (np)), .ref mp]))] ∧ va_S A s.heap H locs ∧ lv_has ls 10 [(0, .ref m0), (1, .long (jl (xa))), (3, .long (jl (xb))), (5, .long (jl (za))), (7, .long (jl (zb))), (9, .int (ji (fg)))]) ?_ _ _ _ _ ⟨0, 1, xa, xb, xc, rfl, ⟨Or.inr rfl, fun _ => m0x, fun z => absurd z (by decide), ⟨0, Nat.le_refl _, rfl⟩, fun j z => by (have e : j = 0 := by omega); rw [e]; exact le_rf _⟩, hP, hD, hS, lv_sub hl [5, 4, 3, 2, 1, 0] rfl⟩
      rintro nlp H locs ls ⟨nn, fg, za, zb, zc, rfl, hi, hP, hD, hS, hl⟩ ih
      obtain ⟨hmf, hj⟩ := hi
      have hmr : jI fg := ⟨by omega, by omega⟩
      refine lv_iload hx hb d_M_toName_49 (lv_at hl 5 rfl) ?_
      refine wi_zeq hx hb hmr d_M_toName_51 (tgt := 128) (by decide) (fun h_5 => ?_) (fun h_5 => ?_)
      · obtain ⟨j1, j2, ⟨j0, jz, k5⟩, k6⟩ := hj
        obtain ⟨k1, k4⟩ := j2 (by omega)
        have zd := fm_it_disc hg.1 j0 i3
        rw [k5] at zd
        have zr := fm_red_it hg.1 hD0 j0 i3 hrd
        rw [k5] at zr
        have zb0 := red_b30 hg zd zr
        obtain ⟨⟨y1, y2⟩, ⟨y3, y4⟩, y5⟩ := zb0
        have za0 := (fm_ne hg.1 zd).1
        have zs := sq_bd (B := 1073741824) (e := zb) y3 y4
        refine lv_aload_n hx hb d_M_toName_128 rfl (lv_at hl 0 rfl) ?_
        refine lv_lload hx hb d_M_toName_129 (lv_at hl 3 rfl) ?_
        refine va_put (D := D) (ci := 5) (v := .long (jl (za))) (ty := .long) (C := R_M) (T := T_M) (N := 11) hx hb hts uw_M ty_M ty_M_ok nm_M hown hK.1 hP hD hS 0 rfl rfl 6 (by decide) (hts _ fl_M_73) (fun _ h9 => h9) rfl (by decide +kernel) rfl rfl (Nat.le_of_ble_eq_true rfl) d_M_toName_131 (fun H locs hP hD hS => ?_)
        have hP : va_P D classes [(m0, .inr (5, [.int (ji (co)), .long (jl (Dd)), .long (jl (w)), .ref mf, .ref mm, .ref ml, .long (jl (za)), .long (jl ((fm_it Dd w nn (xa, xb, xc)).2.1)), .long (jl ((fm_it Dd w nn (xa, xb, xc)).2.2)), .int (ji (np)), .ref mp]))] H := hP
        have hD : va_D A [(m0, .inr (5, [.int (ji (co)), .long (jl (Dd)), .long (jl (w)), .ref mf, .ref mm, .ref ml, .long (jl (za)), .long (jl ((fm_it Dd w nn (xa, xb, xc)).2.1)), .long (jl ((fm_it Dd w nn (xa, xb, xc)).2.2)), .int (ji (np)), .ref mp]))] := hD
        refine lv_aload_n hx hb d_M_toName_134 rfl (lv_at hl 0 rfl) ?_
        refine lv_lload hx hb d_M_toName_135 (lv_at hl 4 rfl) ?_
        refine va_put (D := D) (ci := 5) (v := .long (jl (zb))) (ty := .long) (C := R_M) (T := T_M) (N := 11) hx hb hts uw_M ty_M ty_M_ok nm_M hown hK.1 hP hD hS 0 rfl rfl 7 (by decide) (hts _ fl_M_76) (fun _ h9 => h9) rfl (by decide +kernel) rfl rfl (Nat.le_of_ble_eq_true rfl) d_M_toName_137 (fun H locs hP hD hS => ?_)
        have hP : va_P D classes [(m0, .inr (5, [.int (ji (co)), .long (jl (Dd)), .long (jl (w)), .ref mf, .ref mm, .ref ml, .long (jl (za)), .long (jl (zb)), .long (jl ((fm_it Dd w nn (xa, xb, xc)).2.2)), .int (ji (np)), .ref mp]))] H := hP
        have hD : va_D A [(m0, .inr (5, [.int (ji (co)), .long (jl (Dd)), .long (jl (w)), .ref mf, .ref mm, .ref ml, .long (jl (za)), .long (jl (zb)), .long (jl ((fm_it Dd w nn (xa, xb, xc)).2.2)), .int (ji (np)), .ref mp]))] := hD
        refine lv_aload_n hx hb d_M_toName_140 rfl (lv_at hl 0 rfl) ?_
        refine lv_aload_n hx hb d_M_toName_141 rfl (lv_at hl 0 rfl) ?_
        refine va_get (D := D) (ci := 5) (v := .long (jl (zb))) (C := R_M) (T := T_M) (N := 11) hx hb hts uw_M hown hK.1 hP 0 rfl rfl 7 (by decide) (hts _ fl_M_76) (fun _ h9 => h9) rfl d_M_toName_142 ?_
        refine lv_aload_n hx hb d_M_toName_145 rfl (lv_at hl 0 rfl) ?_
        refine va_get (D := D) (ci := 5) (v := .long (jl (zb))) (C := R_M) (T := T_M) (N := 11) hx hb hts uw_M hown hK.1 hP 0 rfl rfl 7 (by decide) (hts _ fl_M_76) (fun _ h9 => h9) rfl d_M_toName_146 ?_
        refine wl_mul hx hb d_M_toName_149 ?_
        refine lv_aload_n hx hb d_M_toName_150 rfl (lv_at hl 0 rfl) ?_
        refine va_get (D := D) (ci := 5) (v := .long (jl (Dd))) (C := R_M) (T := T_M) (N := 11) hx hb hts uw_M hown hK.1 hP 0 rfl rfl 1 (by decide) (hts _ fl_M_9) (fun _ h9 => h9) rfl d_M_toName_151 ?_
        refine wl_sub hx hb d_M_toName_154 ?_
        refine w_ldc2 (v := 4) (n := 4) hx hb (by decide) hown (hts _ kc_M_67) d_M_toName_155 ?_
        refine lv_aload_n hx hb d_M_toName_158 rfl (lv_at hl 0 rfl) ?_
        refine va_get (D := D) (ci := 5) (v := .long (jl (za))) (C := R_M) (T := T_M) (N := 11) hx hb hts uw_M hown hK.1 hP 0 rfl rfl 6 (by decide) (hts _ fl_M_73) (fun _ h9 => h9) rfl d_M_toName_159 ?_
        refine wl_mul hx hb d_M_toName_162 ?_
        refine wl_div hx hb ⟨by omega, by omega⟩ ⟨by omega, by omega⟩ (by omega) d_M_toName_163 ?_
        refine va_put (D := D) (ci := 5) (v := .long (jl ((((zb) * (zb)) - (Dd)).tdiv ((4) * (za))))) (ty := .long) (C := R_M) (T := T_M) (N := 11) hx hb hts uw_M ty_M ty_M_ok nm_M hown hK.1 hP hD hS 0 rfl rfl 8 (by decide) (hts _ fl_M_79) (fun _ h9 => h9) rfl (by decide +kernel) rfl rfl (Nat.le_of_ble_eq_true rfl) d_M_toName_164 (fun H locs hP hD hS => ?_)
        have hP : va_P D classes [(m0, .inr (5, [.int (ji (co)), .long (jl (Dd)), .long (jl (w)), .ref mf, .ref mm, .ref ml, .long (jl (za)), .long (jl (zb)), .long (jl ((((zb) * (zb)) - (Dd)).tdiv ((4) * (za)))), .int (ji (np)), .ref mp]))] H := hP
        have hD : va_D A [(m0, .inr (5, [.int (ji (co)), .long (jl (Dd)), .long (jl (w)), .ref mf, .ref mm, .ref ml, .long (jl (za)), .long (jl (zb)), .long (jl ((((zb) * (zb)) - (Dd)).tdiv ((4) * (za)))), .int (ji (np)), .ref mp]))] := hD
        have hzc : (zb * zb - Dd).tdiv (4 * za) = zc := td_e (by have := zd; unfold fm_disc at this; dsimp only at this; have e : 4 * za * zc = 4 * (za * zc) := Int.mul_assoc _ _ _; omega) (by omega)
        have hP : va_P D classes [(m0, .inr (5, [.int (ji (co)), .long (jl (Dd)), .long (jl (w)), .ref mf, .ref mm, .ref ml, .long (jl (za)), .long (jl (zb)), .long (jl (zc)), .int (ji (np)), .ref mp]))] H := by rw [← hzc]; exact hP
        exact rt_v X hAe hS (za, zb, zc) (fm_nm_pos hg.1 hg.2.2.2 hD0 i3 hrd i2 k5 (fun j => by rw [it_mod k1 k4 j]; exact k6 _ (Nat.le_of_lt (Nat.mod_lt _ k1)))) hP d_M_toName_167
      · obtain ⟨j1, j2, ⟨j0, jz, k5⟩, k6⟩ := hj
        have j3 := j1 (by omega)
        have xd0 := fm_it_disc hg.1 (nn) i3
        have xr0 := fm_red_it hg.1 hD0 (nn) i3 hrd
        have xb0 := red_b30 hg xd0 xr0
        have xd1 := fm_it_disc hg.1 (nn + 1) i3
        have xr1 := fm_red_it hg.1 hD0 (nn + 1) i3 hrd
        have xb1 := red_b30 hg xd1 xr1
        obtain ⟨⟨p1, p2⟩, ⟨p3, p4⟩, p5⟩ := xb1
        have xbr := red_b30 hg i3 hrd
        obtain ⟨⟨r1, r2⟩, ⟨r3, r4⟩, r5⟩ := xbr
        have zb0 := red_b30 hg (fm_it_disc hg.1 j0 i3) (fm_red_it hg.1 hD0 j0 i3 hrd)
        rw [k5] at zb0
        obtain ⟨⟨y1, y2⟩, ⟨y3, y4⟩, y5⟩ := zb0
        dsimp only at r1 r2 r3 r4 y1 y2 y3 y4
        refine lv_aload_n hx hb d_M_toName_54 rfl (lv_at hl 0 rfl) ?_
        refine cl_v (rn_V (wc := [(m0, .inr (5, [.int (ji (co)), .long (jl (Dd)), .long (jl (w)), .ref mf, .ref mm, .ref ml, .long (jl ((fm_it Dd w nn (xa, xb, xc)).1)), .long (jl ((fm_it Dd w nn (xa, xb, xc)).2.1)), .long (jl ((fm_it Dd w nn (xa, xb, xc)).2.2)), .int (ji (np)), .ref mp]))]) (As := []) (rest := []) X hK (c_M_step l D cI cJ cF hg xd0 xb0.2.1.g.b xb0.2.2.g _) co_M_step in_M ml_M_95 im_M_step se_M_step 0 rfl (by decide +kernel) ⟨Nat.le_of_ble_eq_true rfl, Nat.le_of_ble_eq_true rfl⟩ hP hD [0] rfl (by decide) (q0 := 0) (ci := 5) rfl rfl rfl hl.1 rfl (Nat.le_of_ble_eq_true rfl) d_M_toName_55 ⟨Nat.zero_le _, Nat.zero_le _⟩) hP hD hS hA [0] rfl (by decide) (fun _ => rfl) (fun u_6 H locs hp hP hD hS => ?_)
        have hP : va_P D classes [(m0, .inr (5, [.int (ji (co)), .long (jl (Dd)), .long (jl (w)), .ref mf, .ref mm, .ref ml, .long (jl ((fm_rho Dd w ((fm_it Dd w nn (xa, xb, xc)).1, (fm_it Dd w nn (xa, xb, xc)).2.1, (fm_it Dd w nn (xa, xb, xc)).2.2)).1)), .long (jl ((fm_rho Dd w ((fm_it Dd w nn (xa, xb, xc)).1, (fm_it Dd w nn (xa, xb, xc)).2.1, (fm_it Dd w nn (xa, xb, xc)).2.2)).2.1)), .long (jl ((fm_rho Dd w ((fm_it Dd w nn (xa, xb, xc)).1, (fm_it Dd w nn (xa, xb, xc)).2.1, (fm_it Dd w nn (xa, xb, xc)).2.2)).2.2)), .int (ji (np)), .ref mp]))] H := hP
        have hD : va_D A [(m0, .inr (5, [.int (ji (co)), .long (jl (Dd)), .long (jl (w)), .ref mf, .ref mm, .ref ml, .long (jl ((fm_rho Dd w ((fm_it Dd w nn (xa, xb, xc)).1, (fm_it Dd w nn (xa, xb, xc)).2.1, (fm_it Dd w nn (xa, xb, xc)).2.2)).1)), .long (jl ((fm_rho Dd w ((fm_it Dd w nn (xa, xb, xc)).1, (fm_it Dd w nn (xa, xb, xc)).2.1, (fm_it Dd w nn (xa, xb, xc)).2.2)).2.1)), .long (jl ((fm_rho Dd w ((fm_it Dd w nn (xa, xb, xc)).1, (fm_it Dd w nn (xa, xb, xc)).2.1, (fm_it Dd w nn (xa, xb, xc)).2.2)).2.2)), .int (ji (np)), .ref mp]))] := hD
        have e1 : fm_rho Dd w ((fm_it Dd w nn (xa, xb, xc)).1, (fm_it Dd w nn (xa, xb, xc)).2.1, (fm_it Dd w nn (xa, xb, xc)).2.2) = fm_it Dd w (nn + 1) (xa, xb, xc) := (fm_it_succ Dd w nn (xa, xb, xc)).symm
        rw [e1] at hP hD
        refine lv_aload_n hx hb d_M_toName_58 rfl (lv_at hl 0 rfl) ?_
        refine va_get (D := D) (ci := 5) (v := .long (jl ((fm_it Dd w (nn + 1) (xa, xb, xc)).1))) (C := R_M) (T := T_M) (N := 11) hx hb hts uw_M hown hK.1 hP 0 rfl rfl 6 (by decide) (hts _ fl_M_73) (fun _ h9 => h9) rfl d_M_toName_59 ?_
        refine lv_lload_n hx hb d_M_toName_62 rfl (lv_at hl 1 rfl) ?_
        refine wl_cne hx hb ⟨by omega, by omega⟩ ⟨by omega, by omega⟩ d_M_toName_63 d_M_toName_64 (tgt := 76) (by decide) (fun h_7 => ?_) (fun h_7 => ?_)
        · refine w_iconst hx hb d_M_toName_76 ?_
          refine lv_goto (tgt := 81) hx hb d_M_toName_77 (by decide) ?_
          refine lv_istore (lv' := [(9, .int (ji (1))), (0, .ref m0), (1, .long (jl (xa))), (3, .long (jl (xb))), (5, .long (jl (za))), (7, .long (jl (zb)))]) hx hb d_M_toName_81 hl (by decide) rfl (fun ls hl => ?_)
          refine lv_aload_n hx hb d_M_toName_83 rfl (lv_at hl 1 rfl) ?_
          refine va_get (D := D) (ci := 5) (v := .long (jl ((fm_it Dd w (nn + 1) (xa, xb, xc)).1))) (C := R_M) (T := T_M) (N := 11) hx hb hts uw_M hown hK.1 hP 0 rfl rfl 6 (by decide) (hts _ fl_M_73) (fun _ h9 => h9) rfl d_M_toName_84 ?_
          refine lv_lload hx hb d_M_toName_87 (lv_at hl 4 rfl) ?_
          refine wl_clt hx hb ⟨by omega, by omega⟩ ⟨by omega, by omega⟩ d_M_toName_89 d_M_toName_90 (tgt := 113) (by decide) (fun h_8 => ?_) (fun h_8 => ?_)
          · refine lv_aload_n hx hb d_M_toName_113 rfl (lv_at hl 1 rfl) ?_
            refine va_get (D := D) (ci := 5) (v := .long (jl ((fm_it Dd w (nn + 1) (xa, xb, xc)).1))) (C := R_M) (T := T_M) (N := 11) hx hb hts uw_M hown hK.1 hP 0 rfl rfl 6 (by decide) (hts _ fl_M_73) (fun _ h9 => h9) rfl d_M_toName_114 ?_
            refine lv_lstore (lv' := [(5, .long (jl ((fm_it Dd w (nn + 1) (xa, xb, xc)).1))), (9, .int (ji (1))), (0, .ref m0), (1, .long (jl (xa))), (3, .long (jl (xb))), (7, .long (jl (zb)))]) hx hb d_M_toName_117 hl (by decide) rfl (fun ls hl => ?_)
            refine lv_aload_n hx hb d_M_toName_119 rfl (lv_at hl 2 rfl) ?_
            refine va_get (D := D) (ci := 5) (v := .long (jl ((fm_it Dd w (nn + 1) (xa, xb, xc)).2.1))) (C := R_M) (T := T_M) (N := 11) hx hb hts uw_M hown hK.1 hP 0 rfl rfl 7 (by decide) (hts _ fl_M_76) (fun _ h9 => h9) rfl d_M_toName_120 ?_
            refine lv_lstore (lv' := [(7, .long (jl ((fm_it Dd w (nn + 1) (xa, xb, xc)).2.1))), (5, .long (jl ((fm_it Dd w (nn + 1) (xa, xb, xc)).1))), (9, .int (ji (1))), (0, .ref m0), (1, .long (jl (xa))), (3, .long (jl (xb)))]) hx hb d_M_toName_123 hl (by decide) rfl (fun ls hl => ?_)
            refine lv_goto (tgt := 49) hx hb d_M_toName_125 (by decide) ?_
            have hxe : fm_it Dd w (nn + 1) (xa, xb, xc) ≠ (xa, xb, xc) := fun z => by have z1 := congrArg (fun q => q.1) z; have z2 := congrArg (fun q => q.2.1) z; dsimp only at z1 z2; omega
            have hnm : nn + 1 ≠ pz := fun z => hxe (by rw [z]; exact hmm)
            have hle : fm_le (fm_it Dd w (nn + 1) (xa, xb, xc)) (za, zb, zc) := by unfold fm_le; dsimp only; omega
            exact ih _ _ _ _ (by first | (rw [if_pos rfl]; rw [if_neg (by omega)]; omega) | (rw [if_neg (by omega), if_neg (by omega)]; omega)) ⟨nn + 1, 1, (fm_it Dd w (nn + 1) (xa, xb, xc)).1, (fm_it Dd w (nn + 1) (xa, xb, xc)).2.1, (fm_it Dd w (nn + 1) (xa, xb, xc)).2.2, rfl, ⟨by omega, (fun _ => by omega), (fun z => absurd z (by omega)), ⟨nn + 1, Nat.le_refl _, rfl⟩, fun j z => by rcases Nat.lt_or_ge j (nn + 1) with y | y; exact le_tr hle (k6 j (by omega)); (have e : j = nn + 1 := by omega); rw [e]; exact le_rf _⟩, hP, hD, hS, lv_sub hl [3, 4, 5, 1, 0, 2] rfl⟩
          · refine lv_aload_n hx hb d_M_toName_93 rfl (lv_at hl 1 rfl) ?_
            refine va_get (D := D) (ci := 5) (v := .long (jl ((fm_it Dd w (nn + 1) (xa, xb, xc)).1))) (C := R_M) (T := T_M) (N := 11) hx hb hts uw_M hown hK.1 hP 0 rfl rfl 6 (by decide) (hts _ fl_M_73) (fun _ h9 => h9) rfl d_M_toName_94 ?_
            refine lv_lload hx hb d_M_toName_97 (lv_at hl 4 rfl) ?_
            refine wl_cne hx hb ⟨by omega, by omega⟩ ⟨by omega, by omega⟩ d_M_toName_99 d_M_toName_100 (tgt := 49) (by decide) (fun h_9 => ?_) (fun h_9 => ?_)
            · have hxe : fm_it Dd w (nn + 1) (xa, xb, xc) ≠ (xa, xb, xc) := fun z => by have z1 := congrArg (fun q => q.1) z; have z2 := congrArg (fun q => q.2.1) z; dsimp only at z1 z2; omega
              have hnm : nn + 1 ≠ pz := fun z => hxe (by rw [z]; exact hmm)
              have hle : fm_le (za, zb, zc) (fm_it Dd w (nn + 1) (xa, xb, xc)) := by unfold fm_le; dsimp only; omega
              exact ih _ _ _ _ (by first | (rw [if_pos rfl]; rw [if_neg (by omega)]; omega) | (rw [if_neg (by omega), if_neg (by omega)]; omega)) ⟨nn + 1, 1, za, zb, zc, rfl, ⟨by omega, (fun _ => by omega), (fun z => absurd z (by omega)), ⟨j0, by omega, k5⟩, fun j z => by rcases Nat.lt_or_ge j (nn + 1) with y | y; exact k6 j (by omega); (have e : j = nn + 1 := by omega); rw [e]; exact hle⟩, hP, hD, hS, lv_sub hl [1, 2, 3, 4, 5, 0] rfl⟩
            · refine lv_aload_n hx hb d_M_toName_103 rfl (lv_at hl 1 rfl) ?_
              refine va_get (D := D) (ci := 5) (v := .long (jl ((fm_it Dd w (nn + 1) (xa, xb, xc)).2.1))) (C := R_M) (T := T_M) (N := 11) hx hb hts uw_M hown hK.1 hP 0 rfl rfl 7 (by decide) (hts _ fl_M_76) (fun _ h9 => h9) rfl d_M_toName_104 ?_
              refine lv_lload hx hb d_M_toName_107 (lv_at hl 5 rfl) ?_
              refine wl_cge hx hb ⟨by omega, by omega⟩ ⟨by omega, by omega⟩ d_M_toName_109 d_M_toName_110 (tgt := 49) (by decide) (fun h_10 => ?_) (fun h_10 => ?_)
              · have hxe : fm_it Dd w (nn + 1) (xa, xb, xc) ≠ (xa, xb, xc) := fun z => by have z1 := congrArg (fun q => q.1) z; have z2 := congrArg (fun q => q.2.1) z; dsimp only at z1 z2; omega
                have hnm : nn + 1 ≠ pz := fun z => hxe (by rw [z]; exact hmm)
                have hle : fm_le (za, zb, zc) (fm_it Dd w (nn + 1) (xa, xb, xc)) := by unfold fm_le; dsimp only; omega
                exact ih _ _ _ _ (by first | (rw [if_pos rfl]; rw [if_neg (by omega)]; omega) | (rw [if_neg (by omega), if_neg (by omega)]; omega)) ⟨nn + 1, 1, za, zb, zc, rfl, ⟨by omega, (fun _ => by omega), (fun z => absurd z (by omega)), ⟨j0, by omega, k5⟩, fun j z => by rcases Nat.lt_or_ge j (nn + 1) with y | y; exact k6 j (by omega); (have e : j = nn + 1 := by omega); rw [e]; exact hle⟩, hP, hD, hS, lv_sub hl [1, 2, 3, 4, 5, 0] rfl⟩
              · refine lv_aload_n hx hb d_M_toName_113 rfl (lv_at hl 1 rfl) ?_
                refine va_get (D := D) (ci := 5) (v := .long (jl ((fm_it Dd w (nn + 1) (xa, xb, xc)).1))) (C := R_M) (T := T_M) (N := 11) hx hb hts uw_M hown hK.1 hP 0 rfl rfl 6 (by decide) (hts _ fl_M_73) (fun _ h9 => h9) rfl d_M_toName_114 ?_
                refine lv_lstore (lv' := [(5, .long (jl ((fm_it Dd w (nn + 1) (xa, xb, xc)).1))), (9, .int (ji (1))), (0, .ref m0), (1, .long (jl (xa))), (3, .long (jl (xb))), (7, .long (jl (zb)))]) hx hb d_M_toName_117 hl (by decide) rfl (fun ls hl => ?_)
                refine lv_aload_n hx hb d_M_toName_119 rfl (lv_at hl 2 rfl) ?_
                refine va_get (D := D) (ci := 5) (v := .long (jl ((fm_it Dd w (nn + 1) (xa, xb, xc)).2.1))) (C := R_M) (T := T_M) (N := 11) hx hb hts uw_M hown hK.1 hP 0 rfl rfl 7 (by decide) (hts _ fl_M_76) (fun _ h9 => h9) rfl d_M_toName_120 ?_
                refine lv_lstore (lv' := [(7, .long (jl ((fm_it Dd w (nn + 1) (xa, xb, xc)).2.1))), (5, .long (jl ((fm_it Dd w (nn + 1) (xa, xb, xc)).1))), (9, .int (ji (1))), (0, .ref m0), (1, .long (jl (xa))), (3, .long (jl (xb)))]) hx hb d_M_toName_123 hl (by decide) rfl (fun ls hl => ?_)
                refine lv_goto (tgt := 49) hx hb d_M_toName_125 (by decide) ?_
                have hxe : fm_it Dd w (nn + 1) (xa, xb, xc) ≠ (xa, xb, xc) := fun z => by have z1 := congrArg (fun q => q.1) z; have z2 := congrArg (fun q => q.2.1) z; dsimp only at z1 z2; omega
                have hnm : nn + 1 ≠ pz := fun z => hxe (by rw [z]; exact hmm)
                have hle : fm_le (fm_it Dd w (nn + 1) (xa, xb, xc)) (za, zb, zc) := by unfold fm_le; dsimp only; omega
                exact ih _ _ _ _ (by first | (rw [if_pos rfl]; rw [if_neg (by omega)]; omega) | (rw [if_neg (by omega), if_neg (by omega)]; omega)) ⟨nn + 1, 1, (fm_it Dd w (nn + 1) (xa, xb, xc)).1, (fm_it Dd w (nn + 1) (xa, xb, xc)).2.1, (fm_it Dd w (nn + 1) (xa, xb, xc)).2.2, rfl, ⟨by omega, (fun _ => by omega), (fun z => absurd z (by omega)), ⟨nn + 1, Nat.le_refl _, rfl⟩, fun j z => by rcases Nat.lt_or_ge j (nn + 1) with y | y; exact le_tr hle (k6 j (by omega)); (have e : j = nn + 1 := by omega); rw [e]; exact le_rf _⟩, hP, hD, hS, lv_sub hl [3, 4, 5, 1, 0, 2] rfl⟩
        · refine lv_aload_n hx hb d_M_toName_67 rfl (lv_at hl 0 rfl) ?_
          refine va_get (D := D) (ci := 5) (v := .long (jl ((fm_it Dd w (nn + 1) (xa, xb, xc)).2.1))) (C := R_M) (T := T_M) (N := 11) hx hb hts uw_M hown hK.1 hP 0 rfl rfl 7 (by decide) (hts _ fl_M_76) (fun _ h9 => h9) rfl d_M_toName_68 ?_
          refine lv_lload_n hx hb d_M_toName_71 rfl (lv_at hl 2 rfl) ?_
          refine wl_ceq hx hb ⟨by omega, by omega⟩ ⟨by omega, by omega⟩ d_M_toName_72 d_M_toName_73 (tgt := 80) (by decide) (fun h_11 => ?_) (fun h_11 => ?_)
          · refine w_iconst hx hb d_M_toName_80 ?_
            refine lv_istore (lv' := [(9, .int (ji (0))), (0, .ref m0), (1, .long (jl (xa))), (3, .long (jl (xb))), (5, .long (jl (za))), (7, .long (jl (zb)))]) hx hb d_M_toName_81 hl (by decide) rfl (fun ls hl => ?_)
            refine lv_aload_n hx hb d_M_toName_83 rfl (lv_at hl 1 rfl) ?_
            refine va_get (D := D) (ci := 5) (v := .long (jl ((fm_it Dd w (nn + 1) (xa, xb, xc)).1))) (C := R_M) (T := T_M) (N := 11) hx hb hts uw_M hown hK.1 hP 0 rfl rfl 6 (by decide) (hts _ fl_M_73) (fun _ h9 => h9) rfl d_M_toName_84 ?_
            refine lv_lload hx hb d_M_toName_87 (lv_at hl 4 rfl) ?_
            refine wl_clt hx hb ⟨by omega, by omega⟩ ⟨by omega, by omega⟩ d_M_toName_89 d_M_toName_90 (tgt := 113) (by decide) (fun h_12 => ?_) (fun h_12 => ?_)
            · refine lv_aload_n hx hb d_M_toName_113 rfl (lv_at hl 1 rfl) ?_
              refine va_get (D := D) (ci := 5) (v := .long (jl ((fm_it Dd w (nn + 1) (xa, xb, xc)).1))) (C := R_M) (T := T_M) (N := 11) hx hb hts uw_M hown hK.1 hP 0 rfl rfl 6 (by decide) (hts _ fl_M_73) (fun _ h9 => h9) rfl d_M_toName_114 ?_
              refine lv_lstore (lv' := [(5, .long (jl ((fm_it Dd w (nn + 1) (xa, xb, xc)).1))), (9, .int (ji (0))), (0, .ref m0), (1, .long (jl (xa))), (3, .long (jl (xb))), (7, .long (jl (zb)))]) hx hb d_M_toName_117 hl (by decide) rfl (fun ls hl => ?_)
              refine lv_aload_n hx hb d_M_toName_119 rfl (lv_at hl 2 rfl) ?_
              refine va_get (D := D) (ci := 5) (v := .long (jl ((fm_it Dd w (nn + 1) (xa, xb, xc)).2.1))) (C := R_M) (T := T_M) (N := 11) hx hb hts uw_M hown hK.1 hP 0 rfl rfl 7 (by decide) (hts _ fl_M_76) (fun _ h9 => h9) rfl d_M_toName_120 ?_
              refine lv_lstore (lv' := [(7, .long (jl ((fm_it Dd w (nn + 1) (xa, xb, xc)).2.1))), (5, .long (jl ((fm_it Dd w (nn + 1) (xa, xb, xc)).1))), (9, .int (ji (0))), (0, .ref m0), (1, .long (jl (xa))), (3, .long (jl (xb)))]) hx hb d_M_toName_123 hl (by decide) rfl (fun ls hl => ?_)
              refine lv_goto (tgt := 49) hx hb d_M_toName_125 (by decide) ?_
              have hxe : fm_it Dd w (nn + 1) (xa, xb, xc) = (xa, xb, xc) := same_ab hg.1 xd1 i3 (by omega) (by omega)
              have hle : fm_le (fm_it Dd w (nn + 1) (xa, xb, xc)) (za, zb, zc) := by unfold fm_le; dsimp only; omega
              exact ih _ _ _ _ (by first | (rw [if_pos rfl]; rw [if_neg (by omega)]; omega) | (rw [if_neg (by omega), if_neg (by omega)]; omega)) ⟨nn + 1, 0, (fm_it Dd w (nn + 1) (xa, xb, xc)).1, (fm_it Dd w (nn + 1) (xa, xb, xc)).2.1, (fm_it Dd w (nn + 1) (xa, xb, xc)).2.2, rfl, ⟨by omega, (fun z => absurd z (by omega)), (fun _ => ⟨by omega, hxe⟩), ⟨nn + 1, Nat.le_refl _, rfl⟩, fun j z => by rcases Nat.lt_or_ge j (nn + 1) with y | y; exact le_tr hle (k6 j (by omega)); (have e : j = nn + 1 := by omega); rw [e]; exact le_rf _⟩, hP, hD, hS, lv_sub hl [3, 4, 5, 1, 0, 2] rfl⟩
            · refine lv_aload_n hx hb d_M_toName_93 rfl (lv_at hl 1 rfl) ?_
              refine va_get (D := D) (ci := 5) (v := .long (jl ((fm_it Dd w (nn + 1) (xa, xb, xc)).1))) (C := R_M) (T := T_M) (N := 11) hx hb hts uw_M hown hK.1 hP 0 rfl rfl 6 (by decide) (hts _ fl_M_73) (fun _ h9 => h9) rfl d_M_toName_94 ?_
              refine lv_lload hx hb d_M_toName_97 (lv_at hl 4 rfl) ?_
              refine wl_cne hx hb ⟨by omega, by omega⟩ ⟨by omega, by omega⟩ d_M_toName_99 d_M_toName_100 (tgt := 49) (by decide) (fun h_13 => ?_) (fun h_13 => ?_)
              · have hxe : fm_it Dd w (nn + 1) (xa, xb, xc) = (xa, xb, xc) := same_ab hg.1 xd1 i3 (by omega) (by omega)
                have hle : fm_le (za, zb, zc) (fm_it Dd w (nn + 1) (xa, xb, xc)) := by unfold fm_le; dsimp only; omega
                exact ih _ _ _ _ (by first | (rw [if_pos rfl]; rw [if_neg (by omega)]; omega) | (rw [if_neg (by omega), if_neg (by omega)]; omega)) ⟨nn + 1, 0, za, zb, zc, rfl, ⟨by omega, (fun z => absurd z (by omega)), (fun _ => ⟨by omega, hxe⟩), ⟨j0, by omega, k5⟩, fun j z => by rcases Nat.lt_or_ge j (nn + 1) with y | y; exact k6 j (by omega); (have e : j = nn + 1 := by omega); rw [e]; exact hle⟩, hP, hD, hS, lv_sub hl [1, 2, 3, 4, 5, 0] rfl⟩
              · refine lv_aload_n hx hb d_M_toName_103 rfl (lv_at hl 1 rfl) ?_
                refine va_get (D := D) (ci := 5) (v := .long (jl ((fm_it Dd w (nn + 1) (xa, xb, xc)).2.1))) (C := R_M) (T := T_M) (N := 11) hx hb hts uw_M hown hK.1 hP 0 rfl rfl 7 (by decide) (hts _ fl_M_76) (fun _ h9 => h9) rfl d_M_toName_104 ?_
                refine lv_lload hx hb d_M_toName_107 (lv_at hl 5 rfl) ?_
                refine wl_cge hx hb ⟨by omega, by omega⟩ ⟨by omega, by omega⟩ d_M_toName_109 d_M_toName_110 (tgt := 49) (by decide) (fun h_14 => ?_) (fun h_14 => ?_)
                · have hxe : fm_it Dd w (nn + 1) (xa, xb, xc) = (xa, xb, xc) := same_ab hg.1 xd1 i3 (by omega) (by omega)
                  have hle : fm_le (za, zb, zc) (fm_it Dd w (nn + 1) (xa, xb, xc)) := by unfold fm_le; dsimp only; omega
                  exact ih _ _ _ _ (by first | (rw [if_pos rfl]; rw [if_neg (by omega)]; omega) | (rw [if_neg (by omega), if_neg (by omega)]; omega)) ⟨nn + 1, 0, za, zb, zc, rfl, ⟨by omega, (fun z => absurd z (by omega)), (fun _ => ⟨by omega, hxe⟩), ⟨j0, by omega, k5⟩, fun j z => by rcases Nat.lt_or_ge j (nn + 1) with y | y; exact k6 j (by omega); (have e : j = nn + 1 := by omega); rw [e]; exact hle⟩, hP, hD, hS, lv_sub hl [1, 2, 3, 4, 5, 0] rfl⟩
                · refine lv_aload_n hx hb d_M_toName_113 rfl (lv_at hl 1 rfl) ?_
                  refine va_get (D := D) (ci := 5) (v := .long (jl ((fm_it Dd w (nn + 1) (xa, xb, xc)).1))) (C := R_M) (T := T_M) (N := 11) hx hb hts uw_M hown hK.1 hP 0 rfl rfl 6 (by decide) (hts _ fl_M_73) (fun _ h9 => h9) rfl d_M_toName_114 ?_
                  refine lv_lstore (lv' := [(5, .long (jl ((fm_it Dd w (nn + 1) (xa, xb, xc)).1))), (9, .int (ji (0))), (0, .ref m0), (1, .long (jl (xa))), (3, .long (jl (xb))), (7, .long (jl (zb)))]) hx hb d_M_toName_117 hl (by decide) rfl (fun ls hl => ?_)
                  refine lv_aload_n hx hb d_M_toName_119 rfl (lv_at hl 2 rfl) ?_
                  refine va_get (D := D) (ci := 5) (v := .long (jl ((fm_it Dd w (nn + 1) (xa, xb, xc)).2.1))) (C := R_M) (T := T_M) (N := 11) hx hb hts uw_M hown hK.1 hP 0 rfl rfl 7 (by decide) (hts _ fl_M_76) (fun _ h9 => h9) rfl d_M_toName_120 ?_
                  refine lv_lstore (lv' := [(7, .long (jl ((fm_it Dd w (nn + 1) (xa, xb, xc)).2.1))), (5, .long (jl ((fm_it Dd w (nn + 1) (xa, xb, xc)).1))), (9, .int (ji (0))), (0, .ref m0), (1, .long (jl (xa))), (3, .long (jl (xb)))]) hx hb d_M_toName_123 hl (by decide) rfl (fun ls hl => ?_)
                  refine lv_goto (tgt := 49) hx hb d_M_toName_125 (by decide) ?_
                  have hxe : fm_it Dd w (nn + 1) (xa, xb, xc) = (xa, xb, xc) := same_ab hg.1 xd1 i3 (by omega) (by omega)
                  have hle : fm_le (fm_it Dd w (nn + 1) (xa, xb, xc)) (za, zb, zc) := by unfold fm_le; dsimp only; omega
                  exact ih _ _ _ _ (by first | (rw [if_pos rfl]; rw [if_neg (by omega)]; omega) | (rw [if_neg (by omega), if_neg (by omega)]; omega)) ⟨nn + 1, 0, (fm_it Dd w (nn + 1) (xa, xb, xc)).1, (fm_it Dd w (nn + 1) (xa, xb, xc)).2.1, (fm_it Dd w (nn + 1) (xa, xb, xc)).2.2, rfl, ⟨by omega, (fun z => absurd z (by omega)), (fun _ => ⟨by omega, hxe⟩), ⟨nn + 1, Nat.le_refl _, rfl⟩, fun j z => by rcases Nat.lt_or_ge j (nn + 1) with y | y; exact le_tr hle (k6 j (by omega)); (have e : j = nn + 1 := by omega); rw [e]; exact le_rf _⟩, hP, hD, hS, lv_sub hl [3, 4, 5, 1, 0, 2] rfl⟩
          · refine w_iconst hx hb d_M_toName_76 ?_
            refine lv_goto (tgt := 81) hx hb d_M_toName_77 (by decide) ?_
            refine lv_istore (lv' := [(9, .int (ji (1))), (0, .ref m0), (1, .long (jl (xa))), (3, .long (jl (xb))), (5, .long (jl (za))), (7, .long (jl (zb)))]) hx hb d_M_toName_81 hl (by decide) rfl (fun ls hl => ?_)
            refine lv_aload_n hx hb d_M_toName_83 rfl (lv_at hl 1 rfl) ?_
            refine va_get (D := D) (ci := 5) (v := .long (jl ((fm_it Dd w (nn + 1) (xa, xb, xc)).1))) (C := R_M) (T := T_M) (N := 11) hx hb hts uw_M hown hK.1 hP 0 rfl rfl 6 (by decide) (hts _ fl_M_73) (fun _ h9 => h9) rfl d_M_toName_84 ?_
            refine lv_lload hx hb d_M_toName_87 (lv_at hl 4 rfl) ?_
            refine wl_clt hx hb ⟨by omega, by omega⟩ ⟨by omega, by omega⟩ d_M_toName_89 d_M_toName_90 (tgt := 113) (by decide) (fun h_15 => ?_) (fun h_15 => ?_)
            · refine lv_aload_n hx hb d_M_toName_113 rfl (lv_at hl 1 rfl) ?_
              refine va_get (D := D) (ci := 5) (v := .long (jl ((fm_it Dd w (nn + 1) (xa, xb, xc)).1))) (C := R_M) (T := T_M) (N := 11) hx hb hts uw_M hown hK.1 hP 0 rfl rfl 6 (by decide) (hts _ fl_M_73) (fun _ h9 => h9) rfl d_M_toName_114 ?_
              refine lv_lstore (lv' := [(5, .long (jl ((fm_it Dd w (nn + 1) (xa, xb, xc)).1))), (9, .int (ji (1))), (0, .ref m0), (1, .long (jl (xa))), (3, .long (jl (xb))), (7, .long (jl (zb)))]) hx hb d_M_toName_117 hl (by decide) rfl (fun ls hl => ?_)
              refine lv_aload_n hx hb d_M_toName_119 rfl (lv_at hl 2 rfl) ?_
              refine va_get (D := D) (ci := 5) (v := .long (jl ((fm_it Dd w (nn + 1) (xa, xb, xc)).2.1))) (C := R_M) (T := T_M) (N := 11) hx hb hts uw_M hown hK.1 hP 0 rfl rfl 7 (by decide) (hts _ fl_M_76) (fun _ h9 => h9) rfl d_M_toName_120 ?_
              refine lv_lstore (lv' := [(7, .long (jl ((fm_it Dd w (nn + 1) (xa, xb, xc)).2.1))), (5, .long (jl ((fm_it Dd w (nn + 1) (xa, xb, xc)).1))), (9, .int (ji (1))), (0, .ref m0), (1, .long (jl (xa))), (3, .long (jl (xb)))]) hx hb d_M_toName_123 hl (by decide) rfl (fun ls hl => ?_)
              refine lv_goto (tgt := 49) hx hb d_M_toName_125 (by decide) ?_
              have hxe : fm_it Dd w (nn + 1) (xa, xb, xc) ≠ (xa, xb, xc) := fun z => by have z1 := congrArg (fun q => q.1) z; have z2 := congrArg (fun q => q.2.1) z; dsimp only at z1 z2; omega
              have hnm : nn + 1 ≠ pz := fun z => hxe (by rw [z]; exact hmm)
              have hle : fm_le (fm_it Dd w (nn + 1) (xa, xb, xc)) (za, zb, zc) := by unfold fm_le; dsimp only; omega
              exact ih _ _ _ _ (by first | (rw [if_pos rfl]; rw [if_neg (by omega)]; omega) | (rw [if_neg (by omega), if_neg (by omega)]; omega)) ⟨nn + 1, 1, (fm_it Dd w (nn + 1) (xa, xb, xc)).1, (fm_it Dd w (nn + 1) (xa, xb, xc)).2.1, (fm_it Dd w (nn + 1) (xa, xb, xc)).2.2, rfl, ⟨by omega, (fun _ => by omega), (fun z => absurd z (by omega)), ⟨nn + 1, Nat.le_refl _, rfl⟩, fun j z => by rcases Nat.lt_or_ge j (nn + 1) with y | y; exact le_tr hle (k6 j (by omega)); (have e : j = nn + 1 := by omega); rw [e]; exact le_rf _⟩, hP, hD, hS, lv_sub hl [3, 4, 5, 1, 0, 2] rfl⟩
            · refine lv_aload_n hx hb d_M_toName_93 rfl (lv_at hl 1 rfl) ?_
              refine va_get (D := D) (ci := 5) (v := .long (jl ((fm_it Dd w (nn + 1) (xa, xb, xc)).1))) (C := R_M) (T := T_M) (N := 11) hx hb hts uw_M hown hK.1 hP 0 rfl rfl 6 (by decide) (hts _ fl_M_73) (fun _ h9 => h9) rfl d_M_toName_94 ?_
              refine lv_lload hx hb d_M_toName_97 (lv_at hl 4 rfl) ?_
              refine wl_cne hx hb ⟨by omega, by omega⟩ ⟨by omega, by omega⟩ d_M_toName_99 d_M_toName_100 (tgt := 49) (by decide) (fun h_16 => ?_) (fun h_16 => ?_)
              · have hxe : fm_it Dd w (nn + 1) (xa, xb, xc) ≠ (xa, xb, xc) := fun z => by have z1 := congrArg (fun q => q.1) z; have z2 := congrArg (fun q => q.2.1) z; dsimp only at z1 z2; omega
                have hnm : nn + 1 ≠ pz := fun z => hxe (by rw [z]; exact hmm)
                have hle : fm_le (za, zb, zc) (fm_it Dd w (nn + 1) (xa, xb, xc)) := by unfold fm_le; dsimp only; omega
                exact ih _ _ _ _ (by first | (rw [if_pos rfl]; rw [if_neg (by omega)]; omega) | (rw [if_neg (by omega), if_neg (by omega)]; omega)) ⟨nn + 1, 1, za, zb, zc, rfl, ⟨by omega, (fun _ => by omega), (fun z => absurd z (by omega)), ⟨j0, by omega, k5⟩, fun j z => by rcases Nat.lt_or_ge j (nn + 1) with y | y; exact k6 j (by omega); (have e : j = nn + 1 := by omega); rw [e]; exact hle⟩, hP, hD, hS, lv_sub hl [1, 2, 3, 4, 5, 0] rfl⟩
              · refine lv_aload_n hx hb d_M_toName_103 rfl (lv_at hl 1 rfl) ?_
                refine va_get (D := D) (ci := 5) (v := .long (jl ((fm_it Dd w (nn + 1) (xa, xb, xc)).2.1))) (C := R_M) (T := T_M) (N := 11) hx hb hts uw_M hown hK.1 hP 0 rfl rfl 7 (by decide) (hts _ fl_M_76) (fun _ h9 => h9) rfl d_M_toName_104 ?_
                refine lv_lload hx hb d_M_toName_107 (lv_at hl 5 rfl) ?_
                refine wl_cge hx hb ⟨by omega, by omega⟩ ⟨by omega, by omega⟩ d_M_toName_109 d_M_toName_110 (tgt := 49) (by decide) (fun h_17 => ?_) (fun h_17 => ?_)
                · have hxe : fm_it Dd w (nn + 1) (xa, xb, xc) ≠ (xa, xb, xc) := fun z => by have z1 := congrArg (fun q => q.1) z; have z2 := congrArg (fun q => q.2.1) z; dsimp only at z1 z2; omega
                  have hnm : nn + 1 ≠ pz := fun z => hxe (by rw [z]; exact hmm)
                  have hle : fm_le (za, zb, zc) (fm_it Dd w (nn + 1) (xa, xb, xc)) := by unfold fm_le; dsimp only; omega
                  exact ih _ _ _ _ (by first | (rw [if_pos rfl]; rw [if_neg (by omega)]; omega) | (rw [if_neg (by omega), if_neg (by omega)]; omega)) ⟨nn + 1, 1, za, zb, zc, rfl, ⟨by omega, (fun _ => by omega), (fun z => absurd z (by omega)), ⟨j0, by omega, k5⟩, fun j z => by rcases Nat.lt_or_ge j (nn + 1) with y | y; exact k6 j (by omega); (have e : j = nn + 1 := by omega); rw [e]; exact hle⟩, hP, hD, hS, lv_sub hl [1, 2, 3, 4, 5, 0] rfl⟩
                · refine lv_aload_n hx hb d_M_toName_113 rfl (lv_at hl 1 rfl) ?_
                  refine va_get (D := D) (ci := 5) (v := .long (jl ((fm_it Dd w (nn + 1) (xa, xb, xc)).1))) (C := R_M) (T := T_M) (N := 11) hx hb hts uw_M hown hK.1 hP 0 rfl rfl 6 (by decide) (hts _ fl_M_73) (fun _ h9 => h9) rfl d_M_toName_114 ?_
                  refine lv_lstore (lv' := [(5, .long (jl ((fm_it Dd w (nn + 1) (xa, xb, xc)).1))), (9, .int (ji (1))), (0, .ref m0), (1, .long (jl (xa))), (3, .long (jl (xb))), (7, .long (jl (zb)))]) hx hb d_M_toName_117 hl (by decide) rfl (fun ls hl => ?_)
                  refine lv_aload_n hx hb d_M_toName_119 rfl (lv_at hl 2 rfl) ?_
                  refine va_get (D := D) (ci := 5) (v := .long (jl ((fm_it Dd w (nn + 1) (xa, xb, xc)).2.1))) (C := R_M) (T := T_M) (N := 11) hx hb hts uw_M hown hK.1 hP 0 rfl rfl 7 (by decide) (hts _ fl_M_76) (fun _ h9 => h9) rfl d_M_toName_120 ?_
                  refine lv_lstore (lv' := [(7, .long (jl ((fm_it Dd w (nn + 1) (xa, xb, xc)).2.1))), (5, .long (jl ((fm_it Dd w (nn + 1) (xa, xb, xc)).1))), (9, .int (ji (1))), (0, .ref m0), (1, .long (jl (xa))), (3, .long (jl (xb)))]) hx hb d_M_toName_123 hl (by decide) rfl (fun ls hl => ?_)
                  refine lv_goto (tgt := 49) hx hb d_M_toName_125 (by decide) ?_
                  have hxe : fm_it Dd w (nn + 1) (xa, xb, xc) ≠ (xa, xb, xc) := fun z => by have z1 := congrArg (fun q => q.1) z; have z2 := congrArg (fun q => q.2.1) z; dsimp only at z1 z2; omega
                  have hnm : nn + 1 ≠ pz := fun z => hxe (by rw [z]; exact hmm)
                  have hle : fm_le (fm_it Dd w (nn + 1) (xa, xb, xc)) (za, zb, zc) := by unfold fm_le; dsimp only; omega
                  exact ih _ _ _ _ (by first | (rw [if_pos rfl]; rw [if_neg (by omega)]; omega) | (rw [if_neg (by omega), if_neg (by omega)]; omega)) ⟨nn + 1, 1, (fm_it Dd w (nn + 1) (xa, xb, xc)).1, (fm_it Dd w (nn + 1) (xa, xb, xc)).2.1, (fm_it Dd w (nn + 1) (xa, xb, xc)).2.2, rfl, ⟨by omega, (fun _ => by omega), (fun z => absurd z (by omega)), ⟨nn + 1, Nat.le_refl _, rfl⟩, fun j z => by rcases Nat.lt_or_ge j (nn + 1) with y | y; exact le_tr hle (k6 j (by omega)); (have e : j = nn + 1 := by omega); rw [e]; exact le_rf _⟩, hP, hD, hS, lv_sub hl [3, 4, 5, 1, 0, 2] rfl⟩
    · exact rt_v X hAe hS (xa, xb, xc) (fm_nm_neg hg.1 (by omega) i3 hrd i2) hP d_M_toName_23
  · obtain ⟨i1, i2, i3, i4⟩ := hi
    have hk2 : ∃ k2, kk = k2 + 1 ∧ fm_red Dd w (fm_it Dd w k2 (fm_rho Dd w (xa, xb, xc))) := by
      cases kk with
      | zero => exfalso; have z1 : fm_red Dd w (xa, xb, xc) := i1; rcases ht1 with z | z; omega; exact z.2 z1
      | succ k2 => exact ⟨k2, rfl, i1⟩
    obtain ⟨k2, rfl, i1n⟩ := hk2
    have hso := rho_ok hg i3 i4.2.2.1
    have hdr := fm_rho_disc hg.1 i3
    refine lv_aload_n hx hb d_M_toName_7 rfl (lv_at hl 0 rfl) ?_
    refine cl_v (rn_V (wc := [(m0, .inr (5, [.int (ji (co)), .long (jl (Dd)), .long (jl (w)), .ref mf, .ref mm, .ref ml, .long (jl (xa)), .long (jl (xb)), .long (jl (xc)), .int (ji (np)), .ref mp]))]) (As := []) (rest := []) X hK (c_M_step l D cI cJ cF hg i3 i4.2.1 i4.2.2.1 _) co_M_step in_M ml_M_95 im_M_step se_M_step 0 rfl (by decide +kernel) ⟨Nat.le_of_ble_eq_true rfl, Nat.le_of_ble_eq_true rfl⟩ hP hD [0] rfl (by decide) (q0 := 0) (ci := 5) rfl rfl rfl hl.1 rfl (Nat.le_of_ble_eq_true rfl) d_M_toName_8 ⟨Nat.zero_le _, Nat.zero_le _⟩) hP hD hS hA [0] rfl (by decide) (fun _ => rfl) (fun u_18 H locs hp hP hD hS => ?_)
    have hP : va_P D classes [(m0, .inr (5, [.int (ji (co)), .long (jl (Dd)), .long (jl (w)), .ref mf, .ref mm, .ref ml, .long (jl ((fm_rho Dd w (xa, xb, xc)).1)), .long (jl ((fm_rho Dd w (xa, xb, xc)).2.1)), .long (jl ((fm_rho Dd w (xa, xb, xc)).2.2)), .int (ji (np)), .ref mp]))] H := hP
    have hD : va_D A [(m0, .inr (5, [.int (ji (co)), .long (jl (Dd)), .long (jl (w)), .ref mf, .ref mm, .ref ml, .long (jl ((fm_rho Dd w (xa, xb, xc)).1)), .long (jl ((fm_rho Dd w (xa, xb, xc)).2.1)), .long (jl ((fm_rho Dd w (xa, xb, xc)).2.2)), .int (ji (np)), .ref mp]))] := hD
    refine lv_goto (tgt := 0) hx hb d_M_toName_11 (by decide) ?_
    exact ih _ _ _ _ (by omega) ⟨(fm_rho Dd w (xa, xb, xc)).1, (fm_rho Dd w (xa, xb, xc)).2.1, (fm_rho Dd w (xa, xb, xc)).2.2, k2, rfl, ⟨i1n, (fm_mg.step rfl).sy.tr i2, hdr, hso⟩, hP, hD, hS, lv_sub hl [0] rfl⟩
