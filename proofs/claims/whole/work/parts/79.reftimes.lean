set_option maxHeartbeats 4000000 in
set_option maxRecDepth 100000 in
theorem c_M_freeOf (l : Launch) (D : va_G) (cI cJ cF : ClassId) {m0 mf mm ml mp : Nat} {co Dd w np : Int} {a b c n : Int} (hg : gD Dd w) (hd : fm_disc Dd (a, b, c)) (hpos : Dd < 0 → 0 < a) (hnb : nB Dd a b c) (hn0 : n ≠ 0) (hn1 : jL n) (hn2 : n ≠ -9223372036854775808) (hex : ∃ y k : Int, 0 ≤ y ∧ y ≤ 8 ∧ -y ≤ k ∧ k ≤ y ∧ fgd a b c n y k) : ∀ sz, Met l y_M_freeOf (Cond.code y_M_freeOf b_M_freeOf 13 none :: wb) { frames := 2, cells := 0, slots := 0, locals := 50 } (va_Pc [.ref m0, .long (jl (n))] (cpre D cI cJ cF [(m0, .inr (5, [.int (ji (co)), .long (jl (Dd)), .long (jl (w)), .ref mf, .ref mm, .ref ml, .long (jl (a)), .long (jl (b)), .long (jl (c)), .int (ji (np)), .ref mp]))] sz)) (va_Qv (fun (u : fm_F) => fm_disc Dd u ∧ fm_mg Dd w u (a, b, c) ∧ (Dd < 0 → 0 < u.1) ∧ vB Dd u.1 ∧ fm_ab u.2.1 ≤ 1000000000 ∧ Int.gcd u.1 n = 1) (fun (u : fm_F) tS => va_P D classes [(m0, .inr (5, [.int (ji (co)), .long (jl (Dd)), .long (jl (w)), .ref mf, .ref mm, .ref ml, .long (jl (u.1)), .long (jl (u.2.1)), .long (jl (u.2.2)), .int (ji (np)), .ref mp]))] tS.heap) (va_A [(m0, .inr (5, [.int (ji (co)), .long (jl (Dd)), .long (jl (w)), .ref mf, .ref mm, .ref ml, .long (jl (a)), .long (jl (b)), .long (jl (c)), .int (ji (np)), .ref mp]))] sz)) 0 0 (va_A [(m0, .inr (5, [.int (ji (co)), .long (jl (Dd)), .long (jl (w)), .ref mf, .ref mm, .ref ml, .long (jl (a)), .long (jl (b)), .long (jl (c)), .int (ji (np)), .ref mp]))] sz) := by
  refine c_of (Qc := fun sz => va_Qv (fun (u : fm_F) => fm_disc Dd u ∧ fm_mg Dd w u (a, b, c) ∧ (Dd < 0 → 0 < u.1) ∧ vB Dd u.1 ∧ fm_ab u.2.1 ≤ 1000000000 ∧ Int.gcd u.1 n = 1) (fun (u : fm_F) tS => va_P D classes [(m0, .inr (5, [.int (ji (co)), .long (jl (Dd)), .long (jl (w)), .ref mf, .ref mm, .ref ml, .long (jl (u.1)), .long (jl (u.2.1)), .long (jl (u.2.2)), .int (ji (np)), .ref mp]))] tS.heap) (va_A [(m0, .inr (5, [.int (ji (co)), .long (jl (Dd)), .long (jl (w)), .ref mf, .ref mm, .ref ml, .long (jl (a)), .long (jl (b)), .long (jl (c)), .int (ji (np)), .ref mp]))] sz)) (by decide +kernel) co_M_freeOf (Nat.le_of_ble_eq_true rfl) ?_
  intro pq eq s mq below meth cq A X hK hP hD hS hA hAe ls hl
  obtain ⟨hx, hb, hml, hown, hr, hlocks, hts⟩ := id X
  have hl : lv_has ls 13 [(0, .ref m0), (1, .long (jl (n)))] := hl
  refine lv_aload_n hx hb d_M_freeOf_0 rfl (lv_at hl 0 rfl) ?_
  refine va_get (D := D) (ci := 5) (v := .long (jl (a))) (C := R_M) (T := T_M) (N := 11) hx hb hts uw_M hown hK.1 hP 0 rfl rfl 6 (by decide) (hts _ fl_M_73) (fun _ h9 => h9) rfl d_M_freeOf_1 ?_
  refine lv_lstore_n (lv' := [(3, .long (jl (a))), (0, .ref m0), (1, .long (jl (n)))]) hx hb d_M_freeOf_4 rfl hl (by decide) rfl (fun ls hl => ?_)
  refine lv_aload_n hx hb d_M_freeOf_5 rfl (lv_at hl 1 rfl) ?_
  refine va_get (D := D) (ci := 5) (v := .long (jl (b))) (C := R_M) (T := T_M) (N := 11) hx hb hts uw_M hown hK.1 hP 0 rfl rfl 7 (by decide) (hts _ fl_M_76) (fun _ h9 => h9) rfl d_M_freeOf_6 ?_
  refine lv_lstore (lv' := [(5, .long (jl (b))), (3, .long (jl (a))), (0, .ref m0), (1, .long (jl (n)))]) hx hb d_M_freeOf_9 hl (by decide) rfl (fun ls hl => ?_)
  refine lv_aload_n hx hb d_M_freeOf_11 rfl (lv_at hl 2 rfl) ?_
  refine va_get (D := D) (ci := 5) (v := .long (jl (c))) (C := R_M) (T := T_M) (N := 11) hx hb hts uw_M hown hK.1 hP 0 rfl rfl 8 (by decide) (hts _ fl_M_79) (fun _ h9 => h9) rfl d_M_freeOf_12 ?_
  refine lv_lstore (lv' := [(7, .long (jl (c))), (5, .long (jl (b))), (3, .long (jl (a))), (0, .ref m0), (1, .long (jl (n)))]) hx hb d_M_freeOf_15 hl (by decide) rfl (fun ls hl => ?_)
  refine w_lconst (v := 0) hx hb rfl d_M_freeOf_17 ?_
  refine lv_lstore (lv' := [(9, .long (jl (0))), (7, .long (jl (c))), (5, .long (jl (b))), (3, .long (jl (a))), (0, .ref m0), (1, .long (jl (n)))]) hx hb d_M_freeOf_18 hl (by decide) rfl (fun ls hl => ?_)
  refine lpn (I := fun nlp H locs ls => ∃ (yv : Int) (xa : Int) (xb : Int) (xc : Int), (10 - yv).toNat = nlp ∧ (0 ≤ yv ∧ yv ≤ 9 ∧ fJ Dd w a b c n yv (-yv) xa xb xc) ∧ va_P D classes [(m0, .inr (5, [.int (ji (co)), .long (jl (Dd)), .long (jl (w)), .ref mf, .ref mm, .ref ml, .long (jl (xa)), .long (jl (xb)), .long (jl (xc)), .int (ji (np)), .ref mp]))] H ∧ va_D A [(m0, .inr (5, [.int (ji (co)), .long (jl (Dd)), .long (jl (w)), .ref mf, .ref mm, .ref ml, .long (jl (xa)), .long (jl (xb)), .long (jl (xc)), .int (ji (np)), .ref mp]))] ∧ va_S A s.heap H locs ∧ lv_has ls 13 [(0, .ref m0), (1, .long (jl (n))), (3, .long (jl (a))), (5, .long (jl (b))), (7, .long (jl (c))), (9, .long (jl (yv)))]) ?_ _ _ _ _ ⟨0, a, b, c, rfl, ⟨by decide, by decide, fJ_0 hg hd hpos hnb⟩, hP, hD, hS, lv_sub hl [4, 5, 3, 2, 1, 0] rfl⟩
  rintro nlp H locs ls ⟨yv, xa, xb, xc, rfl, hi, hP, hD, hS, hl⟩ ih
  obtain ⟨y0, y9, hi1⟩ := hi
  obtain ⟨i1, i2, i3, i4, i5, i6⟩ := id hi1
  have xr := ab_range i4.1
  refine lv_aload_n hx hb d_M_freeOf_20 rfl (lv_at hl 0 rfl) ?_
  refine va_get (D := D) (ci := 5) (v := .long (jl (xa))) (C := R_M) (T := T_M) (N := 11) hx hb hts uw_M hown hK.1 hP 0 rfl rfl 6 (by decide) (hts _ fl_M_73) (fun _ h9 => h9) rfl d_M_freeOf_21 ?_
  refine lv_lload_n hx hb d_M_freeOf_24 rfl (lv_at hl 1 rfl) ?_
  refine cl_l (rn_S (wc := []) (As := [.long (jl (xa)), .long (jl (n))]) (rest := []) X hK (c_M_common l D cI cJ cF ⟨by omega, by omega⟩ hn1 (by omega) hn2 _) co_M_common in_M ml_M_107 st_M_common 2 rfl (by decide +kernel) ⟨Nat.le_of_ble_eq_true rfl, Nat.le_of_ble_eq_true rfl⟩ hP hD [] rfl (by decide) hl.1 rfl (Nat.le_of_ble_eq_true rfl) d_M_freeOf_25 ⟨Nat.zero_le _, Nat.zero_le _⟩) hP hD hS hA [] rfl (by decide) (fun _ => rfl) (fun r_1 u_2 H locs hp hP hD hS => ?_)
  have hP : va_P D classes [(m0, .inr (5, [.int (ji (co)), .long (jl (Dd)), .long (jl (w)), .ref mf, .ref mm, .ref ml, .long (jl (xa)), .long (jl (xb)), .long (jl (xc)), .int (ji (np)), .ref mp]))] H := hP
  have hD : va_D A [(m0, .inr (5, [.int (ji (co)), .long (jl (Dd)), .long (jl (w)), .ref mf, .ref mm, .ref ml, .long (jl (xa)), .long (jl (xb)), .long (jl (xc)), .int (ji (np)), .ref mp]))] := hD
  obtain rfl : r_1 = jl ((Int.gcd (xa) (n) : Nat)) := hp
  refine w_lconst (v := 1) hx hb rfl d_M_freeOf_28 ?_
  refine wl_ceq hx hb (gcd_jL _ hn0 hn1 hn2) ⟨by decide, by decide⟩ d_M_freeOf_29 d_M_freeOf_30 (tgt := 130) (by decide) (fun h_3 => ?_) (fun h_3 => ?_)
  · have hgc : Int.gcd xa n = 1 := by omega
    exact rt_v X hAe hS (xa, xb, xc) ⟨i1, i2, i3, i4, i5, hgc⟩ hP d_M_freeOf_130
  · have hgn : ¬ Int.gcd xa n = 1 := by omega
    have hy8 := fJ_8 hi1 hgn hex
    refine lv_lload hx hb d_M_freeOf_33 (lv_at hl 5 rfl) ?_
    refine wl_neg hx hb d_M_freeOf_35 ?_
    refine lv_lstore (lv' := [(11, .long (jl (-(yv)))), (0, .ref m0), (1, .long (jl (n))), (3, .long (jl (a))), (5, .long (jl (b))), (7, .long (jl (c))), (9, .long (jl (yv)))]) hx hb d_M_freeOf_36 hl (by decide) rfl (fun ls hl => ?_)
    refine lpn (I := fun nlp H locs ls => ∃ (kv : Int) (ua : Int) (ub : Int) (uc : Int), (yv + 1 - kv).toNat = nlp ∧ (-yv ≤ kv ∧ kv ≤ yv + 1 ∧ fJ Dd w a b c n yv kv ua ub uc) ∧ va_P D classes [(m0, .inr (5, [.int (ji (co)), .long (jl (Dd)), .long (jl (w)), .ref mf, .ref mm, .ref ml, .long (jl (ua)), .long (jl (ub)), .long (jl (uc)), .int (ji (np)), .ref mp]))] H ∧ va_D A [(m0, .inr (5, [.int (ji (co)), .long (jl (Dd)), .long (jl (w)), .ref mf, .ref mm, .ref ml, .long (jl (ua)), .long (jl (ub)), .long (jl (uc)), .int (ji (np)), .ref mp]))] ∧ va_S A s.heap H locs ∧ lv_has ls 13 [(0, .ref m0), (1, .long (jl (n))), (3, .long (jl (a))), (5, .long (jl (b))), (7, .long (jl (c))), (9, .long (jl (yv))), (11, .long (jl (kv)))]) ?_ _ _ _ _ ⟨-yv, xa, xb, xc, rfl, ⟨by omega, by omega, hi1⟩, hP, hD, hS, lv_sub hl [1, 2, 3, 4, 5, 6, 0] rfl⟩
    rintro nlp H locs ls ⟨kv, ua, ub, uc, rfl, hi, hP, hD, hS, hl⟩ ihk
    obtain ⟨j0, j9, hj1⟩ := hi
    obtain ⟨k1, k2, k3, k4, k5, k6⟩ := id hj1
    have ur := ab_range k4.1
    refine lv_lload hx hb d_M_freeOf_38 (lv_at hl 6 rfl) ?_
    refine lv_lload hx hb d_M_freeOf_40 (lv_at hl 5 rfl) ?_
    refine wl_cgt hx hb ⟨by omega, by omega⟩ ⟨by omega, by omega⟩ d_M_freeOf_42 d_M_freeOf_43 (tgt := 121) (by decide) (fun h_4 => ?_) (fun h_4 => ?_)
    · refine lv_lload hx hb d_M_freeOf_121 (lv_at hl 5 rfl) ?_
      refine w_lconst (v := 1) hx hb rfl d_M_freeOf_123 ?_
      refine wl_add hx hb d_M_freeOf_124 ?_
      refine lv_lstore (lv' := [(9, .long (jl ((yv) + (1)))), (0, .ref m0), (1, .long (jl (n))), (3, .long (jl (a))), (5, .long (jl (b))), (7, .long (jl (c))), (11, .long (jl (kv)))]) hx hb d_M_freeOf_125 hl (by decide) rfl (fun ls hl => ?_)
      refine lv_goto (tgt := 20) hx hb d_M_freeOf_127 (by decide) ?_
      exact ih _ _ _ _ (by omega) ⟨yv + 1, ua, ub, uc, rfl, ⟨by omega, by omega, fJ_y hj1 (by first | (left; omega) | (right; omega))⟩, hP, hD, hS, lv_sub hl [1, 2, 3, 4, 5, 0] rfl⟩
    · refine lv_aload_n hx hb d_M_freeOf_46 rfl (lv_at hl 0 rfl) ?_
      refine va_get (D := D) (ci := 5) (v := .long (jl (ua))) (C := R_M) (T := T_M) (N := 11) hx hb hts uw_M hown hK.1 hP 0 rfl rfl 6 (by decide) (hts _ fl_M_73) (fun _ h9 => h9) rfl d_M_freeOf_47 ?_
      refine lv_lload_n hx hb d_M_freeOf_50 rfl (lv_at hl 1 rfl) ?_
      refine cl_l (rn_S (wc := []) (As := [.long (jl (ua)), .long (jl (n))]) (rest := []) X hK (c_M_common l D cI cJ cF ⟨by omega, by omega⟩ hn1 (by omega) hn2 _) co_M_common in_M ml_M_107 st_M_common 2 rfl (by decide +kernel) ⟨Nat.le_of_ble_eq_true rfl, Nat.le_of_ble_eq_true rfl⟩ hP hD [] rfl (by decide) hl.1 rfl (Nat.le_of_ble_eq_true rfl) d_M_freeOf_51 ⟨Nat.zero_le _, Nat.zero_le _⟩) hP hD hS hA [] rfl (by decide) (fun _ => rfl) (fun r_5 u_6 H locs hp hP hD hS => ?_)
      have hP : va_P D classes [(m0, .inr (5, [.int (ji (co)), .long (jl (Dd)), .long (jl (w)), .ref mf, .ref mm, .ref ml, .long (jl (ua)), .long (jl (ub)), .long (jl (uc)), .int (ji (np)), .ref mp]))] H := hP
      have hD : va_D A [(m0, .inr (5, [.int (ji (co)), .long (jl (Dd)), .long (jl (w)), .ref mf, .ref mm, .ref ml, .long (jl (ua)), .long (jl (ub)), .long (jl (uc)), .int (ji (np)), .ref mp]))] := hD
      obtain rfl : r_5 = jl ((Int.gcd (ua) (n) : Nat)) := hp
      refine w_lconst (v := 1) hx hb rfl d_M_freeOf_54 ?_
      refine wl_ceq hx hb (gcd_jL _ hn0 hn1 hn2) ⟨by decide, by decide⟩ d_M_freeOf_55 d_M_freeOf_56 (tgt := 121) (by decide) (fun h_7 => ?_) (fun h_7 => ?_)
      · refine lv_lload hx hb d_M_freeOf_121 (lv_at hl 5 rfl) ?_
        refine w_lconst (v := 1) hx hb rfl d_M_freeOf_123 ?_
        refine wl_add hx hb d_M_freeOf_124 ?_
        refine lv_lstore (lv' := [(9, .long (jl ((yv) + (1)))), (0, .ref m0), (1, .long (jl (n))), (3, .long (jl (a))), (5, .long (jl (b))), (7, .long (jl (c))), (11, .long (jl (kv)))]) hx hb d_M_freeOf_125 hl (by decide) rfl (fun ls hl => ?_)
        refine lv_goto (tgt := 20) hx hb d_M_freeOf_127 (by decide) ?_
        exact ih _ _ _ _ (by omega) ⟨yv + 1, ua, ub, uc, rfl, ⟨by omega, by omega, fJ_y hj1 (by first | (left; omega) | (right; omega))⟩, hP, hD, hS, lv_sub hl [1, 2, 3, 4, 5, 0] rfl⟩
      · have hgm : ¬ Int.gcd ua n = 1 := by omega
        have h2p := (k6.resolve_left hgm).1
        obtain ⟨w1, w2, w3, w4, w5, w6⟩ := fJ_1 (n := n) hg hd hpos hnb h2p y0 hy8 j0 (by omega)
        have wr := ab_range w4.1
        refine lv_aload_n hx hb d_M_freeOf_59 rfl (lv_at hl 0 rfl) ?_
        refine lv_lload_n hx hb d_M_freeOf_60 rfl (lv_at hl 2 rfl) ?_
        refine va_put (D := D) (ci := 5) (v := .long (jl (a))) (ty := .long) (C := R_M) (T := T_M) (N := 11) hx hb hts uw_M ty_M ty_M_ok nm_M hown hK.1 hP hD hS 0 rfl rfl 6 (by decide) (hts _ fl_M_73) (fun _ h9 => h9) rfl (by decide +kernel) rfl rfl (Nat.le_of_ble_eq_true rfl) d_M_freeOf_61 (fun H locs hP hD hS => ?_)
        have hP : va_P D classes [(m0, .inr (5, [.int (ji (co)), .long (jl (Dd)), .long (jl (w)), .ref mf, .ref mm, .ref ml, .long (jl (a)), .long (jl (ub)), .long (jl (uc)), .int (ji (np)), .ref mp]))] H := hP
        have hD : va_D A [(m0, .inr (5, [.int (ji (co)), .long (jl (Dd)), .long (jl (w)), .ref mf, .ref mm, .ref ml, .long (jl (a)), .long (jl (ub)), .long (jl (uc)), .int (ji (np)), .ref mp]))] := hD
        refine lv_aload_n hx hb d_M_freeOf_64 rfl (lv_at hl 0 rfl) ?_
        refine lv_lload hx hb d_M_freeOf_65 (lv_at hl 3 rfl) ?_
        refine va_put (D := D) (ci := 5) (v := .long (jl (b))) (ty := .long) (C := R_M) (T := T_M) (N := 11) hx hb hts uw_M ty_M ty_M_ok nm_M hown hK.1 hP hD hS 0 rfl rfl 7 (by decide) (hts _ fl_M_76) (fun _ h9 => h9) rfl (by decide +kernel) rfl rfl (Nat.le_of_ble_eq_true rfl) d_M_freeOf_67 (fun H locs hP hD hS => ?_)
        have hP : va_P D classes [(m0, .inr (5, [.int (ji (co)), .long (jl (Dd)), .long (jl (w)), .ref mf, .ref mm, .ref ml, .long (jl (a)), .long (jl (b)), .long (jl (uc)), .int (ji (np)), .ref mp]))] H := hP
        have hD : va_D A [(m0, .inr (5, [.int (ji (co)), .long (jl (Dd)), .long (jl (w)), .ref mf, .ref mm, .ref ml, .long (jl (a)), .long (jl (b)), .long (jl (uc)), .int (ji (np)), .ref mp]))] := hD
        refine lv_aload_n hx hb d_M_freeOf_70 rfl (lv_at hl 0 rfl) ?_
        refine lv_lload hx hb d_M_freeOf_71 (lv_at hl 4 rfl) ?_
        refine va_put (D := D) (ci := 5) (v := .long (jl (c))) (ty := .long) (C := R_M) (T := T_M) (N := 11) hx hb hts uw_M ty_M ty_M_ok nm_M hown hK.1 hP hD hS 0 rfl rfl 8 (by decide) (hts _ fl_M_79) (fun _ h9 => h9) rfl (by decide +kernel) rfl rfl (Nat.le_of_ble_eq_true rfl) d_M_freeOf_73 (fun H locs hP hD hS => ?_)
        have hP : va_P D classes [(m0, .inr (5, [.int (ji (co)), .long (jl (Dd)), .long (jl (w)), .ref mf, .ref mm, .ref ml, .long (jl (a)), .long (jl (b)), .long (jl (c)), .int (ji (np)), .ref mp]))] H := hP
        have hD : va_D A [(m0, .inr (5, [.int (ji (co)), .long (jl (Dd)), .long (jl (w)), .ref mf, .ref mm, .ref ml, .long (jl (a)), .long (jl (b)), .long (jl (c)), .int (ji (np)), .ref mp]))] := hD
        refine lv_aload_n hx hb d_M_freeOf_76 rfl (lv_at hl 0 rfl) ?_
        refine lv_lload hx hb d_M_freeOf_77 (lv_at hl 6 rfl) ?_
        refine cl_v (rn_V (wc := [(m0, .inr (5, [.int (ji (co)), .long (jl (Dd)), .long (jl (w)), .ref mf, .ref mm, .ref ml, .long (jl (a)), .long (jl (b)), .long (jl (c)), .int (ji (np)), .ref mp]))]) (As := [.long (jl (kv))]) (rest := []) X hK (c_M_slide l D cI cJ cF  _) co_M_slide in_M ml_M_110 im_M_slide se_M_slide 1 rfl (by decide +kernel) ⟨Nat.le_of_ble_eq_true rfl, Nat.le_of_ble_eq_true rfl⟩ hP hD [0] rfl (by decide) (q0 := 0) (ci := 5) rfl rfl rfl hl.1 rfl (Nat.le_of_ble_eq_true rfl) d_M_freeOf_79 ⟨Nat.zero_le _, Nat.zero_le _⟩) hP hD hS hA [0] rfl (by decide) (fun _ => rfl) (fun u_8 H locs hp hP hD hS => ?_)
        have hP : va_P D classes [(m0, .inr (5, [.int (ji (co)), .long (jl (Dd)), .long (jl (w)), .ref mf, .ref mm, .ref ml, .long (jl (a)), .long (jl ((b) + 2 * (a) * (kv))), .long (jl ((a) * (kv) * (kv) + (b) * (kv) + (c))), .int (ji (np)), .ref mp]))] H := hP
        have hD : va_D A [(m0, .inr (5, [.int (ji (co)), .long (jl (Dd)), .long (jl (w)), .ref mf, .ref mm, .ref ml, .long (jl (a)), .long (jl ((b) + 2 * (a) * (kv))), .long (jl ((a) * (kv) * (kv) + (b) * (kv) + (c))), .int (ji (np)), .ref mp]))] := hD
        refine lv_aload_n hx hb d_M_freeOf_82 rfl (lv_at hl 0 rfl) ?_
        refine cl_v (rn_V (wc := [(m0, .inr (5, [.int (ji (co)), .long (jl (Dd)), .long (jl (w)), .ref mf, .ref mm, .ref ml, .long (jl (a)), .long (jl ((b) + 2 * (a) * (kv))), .long (jl ((a) * (kv) * (kv) + (b) * (kv) + (c))), .int (ji (np)), .ref mp]))]) (As := []) (rest := []) X hK (c_M_turn l D cI cJ cF  _) co_M_turn in_M ml_M_113 im_M_turn se_M_turn 0 rfl (by decide +kernel) ⟨Nat.le_of_ble_eq_true rfl, Nat.le_of_ble_eq_true rfl⟩ hP hD [0] rfl (by decide) (q0 := 0) (ci := 5) rfl rfl rfl hl.1 rfl (Nat.le_of_ble_eq_true rfl) d_M_freeOf_83 ⟨Nat.zero_le _, Nat.zero_le _⟩) hP hD hS hA [0] rfl (by decide) (fun _ => rfl) (fun u_9 H locs hp hP hD hS => ?_)
        have hP : va_P D classes [(m0, .inr (5, [.int (ji (co)), .long (jl (Dd)), .long (jl (w)), .ref mf, .ref mm, .ref ml, .long (jl ((a) * (kv) * (kv) + (b) * (kv) + (c))), .long (jl (-((b) + 2 * (a) * (kv)))), .long (jl (a)), .int (ji (np)), .ref mp]))] H := hP
        have hD : va_D A [(m0, .inr (5, [.int (ji (co)), .long (jl (Dd)), .long (jl (w)), .ref mf, .ref mm, .ref ml, .long (jl ((a) * (kv) * (kv) + (b) * (kv) + (c))), .long (jl (-((b) + 2 * (a) * (kv)))), .long (jl (a)), .int (ji (np)), .ref mp]))] := hD
        refine lv_aload_n hx hb d_M_freeOf_86 rfl (lv_at hl 0 rfl) ?_
        refine va_get (D := D) (ci := 5) (v := .long (jl ((a) * (kv) * (kv) + (b) * (kv) + (c)))) (C := R_M) (T := T_M) (N := 11) hx hb hts uw_M hown hK.1 hP 0 rfl rfl 6 (by decide) (hts _ fl_M_73) (fun _ h9 => h9) rfl d_M_freeOf_87 ?_
        refine lv_lload_n hx hb d_M_freeOf_90 rfl (lv_at hl 1 rfl) ?_
        refine cl_l (rn_S (wc := []) (As := [.long (jl ((a) * (kv) * (kv) + (b) * (kv) + (c))), .long (jl (n))]) (rest := []) X hK (c_M_common l D cI cJ cF ⟨by omega, by omega⟩ hn1 (by omega) hn2 _) co_M_common in_M ml_M_107 st_M_common 2 rfl (by decide +kernel) ⟨Nat.le_of_ble_eq_true rfl, Nat.le_of_ble_eq_true rfl⟩ hP hD [] rfl (by decide) hl.1 rfl (Nat.le_of_ble_eq_true rfl) d_M_freeOf_91 ⟨Nat.zero_le _, Nat.zero_le _⟩) hP hD hS hA [] rfl (by decide) (fun _ => rfl) (fun r_10 u_11 H locs hp hP hD hS => ?_)
        have hP : va_P D classes [(m0, .inr (5, [.int (ji (co)), .long (jl (Dd)), .long (jl (w)), .ref mf, .ref mm, .ref ml, .long (jl ((a) * (kv) * (kv) + (b) * (kv) + (c))), .long (jl (-((b) + 2 * (a) * (kv)))), .long (jl (a)), .int (ji (np)), .ref mp]))] H := hP
        have hD : va_D A [(m0, .inr (5, [.int (ji (co)), .long (jl (Dd)), .long (jl (w)), .ref mf, .ref mm, .ref ml, .long (jl ((a) * (kv) * (kv) + (b) * (kv) + (c))), .long (jl (-((b) + 2 * (a) * (kv)))), .long (jl (a)), .int (ji (np)), .ref mp]))] := hD
        obtain rfl : r_10 = jl ((Int.gcd ((a) * (kv) * (kv) + (b) * (kv) + (c)) (n) : Nat)) := hp
        refine w_lconst (v := 1) hx hb rfl d_M_freeOf_94 ?_
        refine wl_cne hx hb (gcd_jL _ hn0 hn1 hn2) ⟨by decide, by decide⟩ d_M_freeOf_95 d_M_freeOf_96 (tgt := 102) (by decide) (fun h_12 => ?_) (fun h_12 => ?_)
        · refine lv_aload_n hx hb d_M_freeOf_102 rfl (lv_at hl 0 rfl) ?_
          refine lv_lload hx hb d_M_freeOf_103 (lv_at hl 5 rfl) ?_
          refine cl_v (rn_V (wc := [(m0, .inr (5, [.int (ji (co)), .long (jl (Dd)), .long (jl (w)), .ref mf, .ref mm, .ref ml, .long (jl ((a) * (kv) * (kv) + (b) * (kv) + (c))), .long (jl (-((b) + 2 * (a) * (kv)))), .long (jl (a)), .int (ji (np)), .ref mp]))]) (As := [.long (jl (yv))]) (rest := []) X hK (c_M_slide l D cI cJ cF  _) co_M_slide in_M ml_M_110 im_M_slide se_M_slide 1 rfl (by decide +kernel) ⟨Nat.le_of_ble_eq_true rfl, Nat.le_of_ble_eq_true rfl⟩ hP hD [0] rfl (by decide) (q0 := 0) (ci := 5) rfl rfl rfl hl.1 rfl (Nat.le_of_ble_eq_true rfl) d_M_freeOf_105 ⟨Nat.zero_le _, Nat.zero_le _⟩) hP hD hS hA [0] rfl (by decide) (fun _ => rfl) (fun u_13 H locs hp hP hD hS => ?_)
          have hP : va_P D classes [(m0, .inr (5, [.int (ji (co)), .long (jl (Dd)), .long (jl (w)), .ref mf, .ref mm, .ref ml, .long (jl ((a) * (kv) * (kv) + (b) * (kv) + (c))), .long (jl ((-((b) + 2 * (a) * (kv))) + 2 * ((a) * (kv) * (kv) + (b) * (kv) + (c)) * (yv))), .long (jl (((a) * (kv) * (kv) + (b) * (kv) + (c)) * (yv) * (yv) + (-((b) + 2 * (a) * (kv))) * (yv) + (a))), .int (ji (np)), .ref mp]))] H := hP
          have hD : va_D A [(m0, .inr (5, [.int (ji (co)), .long (jl (Dd)), .long (jl (w)), .ref mf, .ref mm, .ref ml, .long (jl ((a) * (kv) * (kv) + (b) * (kv) + (c))), .long (jl ((-((b) + 2 * (a) * (kv))) + 2 * ((a) * (kv) * (kv) + (b) * (kv) + (c)) * (yv))), .long (jl (((a) * (kv) * (kv) + (b) * (kv) + (c)) * (yv) * (yv) + (-((b) + 2 * (a) * (kv))) * (yv) + (a))), .int (ji (np)), .ref mp]))] := hD
          refine lv_aload_n hx hb d_M_freeOf_108 rfl (lv_at hl 0 rfl) ?_
          refine cl_v (rn_V (wc := [(m0, .inr (5, [.int (ji (co)), .long (jl (Dd)), .long (jl (w)), .ref mf, .ref mm, .ref ml, .long (jl ((a) * (kv) * (kv) + (b) * (kv) + (c))), .long (jl ((-((b) + 2 * (a) * (kv))) + 2 * ((a) * (kv) * (kv) + (b) * (kv) + (c)) * (yv))), .long (jl (((a) * (kv) * (kv) + (b) * (kv) + (c)) * (yv) * (yv) + (-((b) + 2 * (a) * (kv))) * (yv) + (a))), .int (ji (np)), .ref mp]))]) (As := []) (rest := []) X hK (c_M_turn l D cI cJ cF  _) co_M_turn in_M ml_M_113 im_M_turn se_M_turn 0 rfl (by decide +kernel) ⟨Nat.le_of_ble_eq_true rfl, Nat.le_of_ble_eq_true rfl⟩ hP hD [0] rfl (by decide) (q0 := 0) (ci := 5) rfl rfl rfl hl.1 rfl (Nat.le_of_ble_eq_true rfl) d_M_freeOf_109 ⟨Nat.zero_le _, Nat.zero_le _⟩) hP hD hS hA [0] rfl (by decide) (fun _ => rfl) (fun u_14 H locs hp hP hD hS => ?_)
          have hP : va_P D classes [(m0, .inr (5, [.int (ji (co)), .long (jl (Dd)), .long (jl (w)), .ref mf, .ref mm, .ref ml, .long (jl (((a) * (kv) * (kv) + (b) * (kv) + (c)) * (yv) * (yv) + (-((b) + 2 * (a) * (kv))) * (yv) + (a))), .long (jl (-((-((b) + 2 * (a) * (kv))) + 2 * ((a) * (kv) * (kv) + (b) * (kv) + (c)) * (yv)))), .long (jl ((a) * (kv) * (kv) + (b) * (kv) + (c))), .int (ji (np)), .ref mp]))] H := hP
          have hD : va_D A [(m0, .inr (5, [.int (ji (co)), .long (jl (Dd)), .long (jl (w)), .ref mf, .ref mm, .ref ml, .long (jl (((a) * (kv) * (kv) + (b) * (kv) + (c)) * (yv) * (yv) + (-((b) + 2 * (a) * (kv))) * (yv) + (a))), .long (jl (-((-((b) + 2 * (a) * (kv))) + 2 * ((a) * (kv) * (kv) + (b) * (kv) + (c)) * (yv)))), .long (jl ((a) * (kv) * (kv) + (b) * (kv) + (c))), .int (ji (np)), .ref mp]))] := hD
          refine lv_lload hx hb d_M_freeOf_112 (lv_at hl 6 rfl) ?_
          refine w_lconst (v := 1) hx hb rfl d_M_freeOf_114 ?_
          refine wl_add hx hb d_M_freeOf_115 ?_
          refine lv_lstore (lv' := [(11, .long (jl ((kv) + (1)))), (0, .ref m0), (1, .long (jl (n))), (3, .long (jl (a))), (5, .long (jl (b))), (7, .long (jl (c))), (9, .long (jl (yv)))]) hx hb d_M_freeOf_116 hl (by decide) rfl (fun ls hl => ?_)
          refine lv_goto (tgt := 38) hx hb d_M_freeOf_118 (by decide) ?_
          exact ihk _ _ _ _ (by omega) ⟨kv + 1, ((a) * (kv) * (kv) + (b) * (kv) + (c)) * (yv) * (yv) + (-((b) + 2 * (a) * (kv))) * (yv) + (a), -((-((b) + 2 * (a) * (kv))) + 2 * ((a) * (kv) * (kv) + (b) * (kv) + (c)) * (yv)), (a) * (kv) * (kv) + (b) * (kv) + (c), rfl, ⟨by omega, by omega, (fJ_g hg hd hpos hnb y0 hy8 j0 (by omega) hj1 hgm (by omega))⟩, hP, hD, hS, lv_sub hl [1, 2, 3, 4, 5, 6, 0] rfl⟩
        · refine lv_goto (tgt := 112) hx hb d_M_freeOf_99 (by decide) ?_
          refine lv_lload hx hb d_M_freeOf_112 (lv_at hl 6 rfl) ?_
          refine w_lconst (v := 1) hx hb rfl d_M_freeOf_114 ?_
          refine wl_add hx hb d_M_freeOf_115 ?_
          refine lv_lstore (lv' := [(11, .long (jl ((kv) + (1)))), (0, .ref m0), (1, .long (jl (n))), (3, .long (jl (a))), (5, .long (jl (b))), (7, .long (jl (c))), (9, .long (jl (yv)))]) hx hb d_M_freeOf_116 hl (by decide) rfl (fun ls hl => ?_)
          refine lv_goto (tgt := 38) hx hb d_M_freeOf_118 (by decide) ?_
          exact ihk _ _ _ _ (by omega) ⟨kv + 1, (a) * (kv) * (kv) + (b) * (kv) + (c), -((b) + 2 * (a) * (kv)), a, rfl, ⟨by omega, by omega, (fJ_f hg hd hpos hnb h2p y0 hy8 j0 (by omega) (by omega))⟩, hP, hD, hS, lv_sub hl [1, 2, 3, 4, 5, 6, 0] rfl⟩

set_option maxHeartbeats 4000000 in
set_option maxRecDepth 100000 in
theorem c_M_times (l : Launch) (D : va_G) (cI cJ cF : ClassId) {m0 mf mm ml mp : Nat} {co Dd w np : Int} {a b c r0 s0 n0 : Int} {F1 F2 F3 : Nat → Int} (hr0 : 0 ≤ r0) (hr7 : r0 ≤ 7) (hg : gD Dd w) (hs : fm_sn Dd s0 n0) (hf : fm_v Dd (a, b, c)) (hfr : fm_red Dd w (a, b, c)) (hG : fm_v Dd (F1 r0.toNat, F2 r0.toNat, F3 r0.toNat)) (hGr : fm_red Dd w (F1 r0.toNat, F2 r0.toNat, F3 r0.toNat)) : ∀ sz, Met l y_M_times (Cond.code y_M_times b_M_times 16 none :: wb) { frames := 3, cells := 0, slots := 0, locals := 90 } (va_Pc [.ref m0, .int (ji (r0))] (cpre D cI cJ cF [(m0, .inr (5, [.int (ji (co)), .long (jl (Dd)), .long (jl (w)), .ref mf, .ref mm, .ref ml, .long (jl (a)), .long (jl (b)), .long (jl (c)), .int (ji (np)), .ref mp])), (mf, .inl (cJ, 8, .inr (.inl (fun j => jl ((F1) j))))), (mm, .inl (cJ, 8, .inr (.inl (fun j => jl ((F2) j))))), (ml, .inl (cJ, 8, .inr (.inl (fun j => jl ((F3) j)))))] sz)) (va_Qv (fun (u : fm_F) => ∃ F : fm_F, fm_v Dd F ∧ fm_cp s0 n0 (a, b, c) (F1 r0.toNat, F2 r0.toNat, F3 r0.toNat) F ∧ fm_nm Dd w u F) (fun (u : fm_F) tS => va_P D classes [(m0, .inr (5, [.int (ji (co)), .long (jl (Dd)), .long (jl (w)), .ref mf, .ref mm, .ref ml, .long (jl (u.1)), .long (jl (u.2.1)), .long (jl (u.2.2)), .int (ji (np)), .ref mp])), (mf, .inl (cJ, 8, .inr (.inl (fun j => jl ((F1) j))))), (mm, .inl (cJ, 8, .inr (.inl (fun j => jl ((F2) j))))), (ml, .inl (cJ, 8, .inr (.inl (fun j => jl ((F3) j)))))] tS.heap) (va_A [(m0, .inr (5, [.int (ji (co)), .long (jl (Dd)), .long (jl (w)), .ref mf, .ref mm, .ref ml, .long (jl (a)), .long (jl (b)), .long (jl (c)), .int (ji (np)), .ref mp])), (mf, .inl (cJ, 8, .inr (.inl (fun j => jl ((F1) j))))), (mm, .inl (cJ, 8, .inr (.inl (fun j => jl ((F2) j))))), (ml, .inl (cJ, 8, .inr (.inl (fun j => jl ((F3) j)))))] sz)) 0 0 (va_A [(m0, .inr (5, [.int (ji (co)), .long (jl (Dd)), .long (jl (w)), .ref mf, .ref mm, .ref ml, .long (jl (a)), .long (jl (b)), .long (jl (c)), .int (ji (np)), .ref mp])), (mf, .inl (cJ, 8, .inr (.inl (fun j => jl ((F1) j))))), (mm, .inl (cJ, 8, .inr (.inl (fun j => jl ((F2) j))))), (ml, .inl (cJ, 8, .inr (.inl (fun j => jl ((F3) j)))))] sz) := by
  refine c_of (Qc := fun sz => va_Qv (fun (u : fm_F) => ∃ F : fm_F, fm_v Dd F ∧ fm_cp s0 n0 (a, b, c) (F1 r0.toNat, F2 r0.toNat, F3 r0.toNat) F ∧ fm_nm Dd w u F) (fun (u : fm_F) tS => va_P D classes [(m0, .inr (5, [.int (ji (co)), .long (jl (Dd)), .long (jl (w)), .ref mf, .ref mm, .ref ml, .long (jl (u.1)), .long (jl (u.2.1)), .long (jl (u.2.2)), .int (ji (np)), .ref mp])), (mf, .inl (cJ, 8, .inr (.inl (fun j => jl ((F1) j))))), (mm, .inl (cJ, 8, .inr (.inl (fun j => jl ((F2) j))))), (ml, .inl (cJ, 8, .inr (.inl (fun j => jl ((F3) j)))))] tS.heap) (va_A [(m0, .inr (5, [.int (ji (co)), .long (jl (Dd)), .long (jl (w)), .ref mf, .ref mm, .ref ml, .long (jl (a)), .long (jl (b)), .long (jl (c)), .int (ji (np)), .ref mp])), (mf, .inl (cJ, 8, .inr (.inl (fun j => jl ((F1) j))))), (mm, .inl (cJ, 8, .inr (.inl (fun j => jl ((F2) j))))), (ml, .inl (cJ, 8, .inr (.inl (fun j => jl ((F3) j)))))] sz)) (by decide +kernel) co_M_times (Nat.le_of_ble_eq_true rfl) ?_
  intro pq eq s mq below meth cq A X hK hP hD hS hA hAe ls hl
  obtain ⟨hx, hb, hml, hown, hr, hlocks, hts⟩ := id X
  have hl : lv_has ls 16 [(0, .ref m0), (1, .int (ji (r0)))] := hl
  have hnb := nB_of hg hf.1 hfr
  have hnG := nB_of hg hG.1 hGr
  have ha0 := (fm_ne hg.1 hf.1).1
  have ha1 := ab_range hnb.1
  have hb1 := ab_range hnb.2.1
  have hfb := red_b30 hg hf.1 hfr
  refine lv_aload_n hx hb d_M_times_0 rfl (lv_at hl 0 rfl) ?_
  refine va_get (D := D) (ci := 5) (v := .long (jl (a))) (C := R_M) (T := T_M) (N := 11) hx hb hts uw_M hown hK.1 hP 0 rfl rfl 6 (by decide) (hts _ fl_M_73) (fun _ h9 => h9) rfl d_M_times_1 ?_
  refine lv_lstore_n (lv' := [(2, .long (jl (a))), (0, .ref m0), (1, .int (ji (r0)))]) hx hb d_M_times_4 rfl hl (by decide) rfl (fun ls hl => ?_)
  refine lv_aload_n hx hb d_M_times_5 rfl (lv_at hl 1 rfl) ?_
  refine va_get (D := D) (ci := 5) (v := .long (jl (b))) (C := R_M) (T := T_M) (N := 11) hx hb hts uw_M hown hK.1 hP 0 rfl rfl 7 (by decide) (hts _ fl_M_76) (fun _ h9 => h9) rfl d_M_times_6 ?_
  refine lv_lstore (lv' := [(4, .long (jl (b))), (2, .long (jl (a))), (0, .ref m0), (1, .int (ji (r0)))]) hx hb d_M_times_9 hl (by decide) rfl (fun ls hl => ?_)
  refine lv_aload_n hx hb d_M_times_11 rfl (lv_at hl 2 rfl) ?_
  refine va_get (D := D) (ci := 5) (v := .long (jl (c))) (C := R_M) (T := T_M) (N := 11) hx hb hts uw_M hown hK.1 hP 0 rfl rfl 8 (by decide) (hts _ fl_M_79) (fun _ h9 => h9) rfl d_M_times_12 ?_
  refine lv_lstore (lv' := [(6, .long (jl (c))), (4, .long (jl (b))), (2, .long (jl (a))), (0, .ref m0), (1, .int (ji (r0)))]) hx hb d_M_times_15 hl (by decide) rfl (fun ls hl => ?_)
  refine lv_aload_n hx hb d_M_times_17 rfl (lv_at hl 3 rfl) ?_
  refine lv_iload_n hx hb d_M_times_18 rfl (lv_at hl 4 rfl) ?_
  refine cl_v (rn_V (wc := [(m0, .inr (5, [.int (ji (co)), .long (jl (Dd)), .long (jl (w)), .ref mf, .ref mm, .ref ml, .long (jl (a)), .long (jl (b)), .long (jl (c)), .int (ji (np)), .ref mp])), (mf, .inl (cJ, 8, .inr (.inl (fun j => jl ((F1) j))))), (mm, .inl (cJ, 8, .inr (.inl (fun j => jl ((F2) j))))), (ml, .inl (cJ, 8, .inr (.inl (fun j => jl ((F3) j)))))]) (As := [.int (ji (r0))]) (rest := []) X hK (c_M_load l D cI cJ cF hr0 hr7 _) co_M_load in_M ml_M_98 im_M_load se_M_load 1 rfl (by decide +kernel) ⟨Nat.le_of_ble_eq_true rfl, Nat.le_of_ble_eq_true rfl⟩ hP hD [0, 1, 2, 3] rfl (by decide) (q0 := 0) (ci := 5) rfl rfl rfl hl.1 rfl (Nat.le_of_ble_eq_true rfl) d_M_times_19 ⟨Nat.zero_le _, Nat.zero_le _⟩) hP hD hS hA [0, 1, 2, 3] rfl (by decide) (fun _ => rfl) (fun u_1 H locs hp hP hD hS => ?_)
  have hP : va_P D classes [(m0, .inr (5, [.int (ji (co)), .long (jl (Dd)), .long (jl (w)), .ref mf, .ref mm, .ref ml, .long (jl ((F1) (r0 : Int).toNat)), .long (jl ((F2) (r0 : Int).toNat)), .long (jl ((F3) (r0 : Int).toNat)), .int (ji (np)), .ref mp])), (mf, .inl (cJ, 8, .inr (.inl (fun j => jl ((F1) j))))), (mm, .inl (cJ, 8, .inr (.inl (fun j => jl ((F2) j))))), (ml, .inl (cJ, 8, .inr (.inl (fun j => jl ((F3) j)))))] H := hP
  have hD : va_D A [(m0, .inr (5, [.int (ji (co)), .long (jl (Dd)), .long (jl (w)), .ref mf, .ref mm, .ref ml, .long (jl ((F1) (r0 : Int).toNat)), .long (jl ((F2) (r0 : Int).toNat)), .long (jl ((F3) (r0 : Int).toNat)), .int (ji (np)), .ref mp])), (mf, .inl (cJ, 8, .inr (.inl (fun j => jl ((F1) j))))), (mm, .inl (cJ, 8, .inr (.inl (fun j => jl ((F2) j))))), (ml, .inl (cJ, 8, .inr (.inl (fun j => jl ((F3) j)))))] := hD
  refine lv_aload_n hx hb d_M_times_22 rfl (lv_at hl 3 rfl) ?_
  refine lv_lload_n hx hb d_M_times_23 rfl (lv_at hl 2 rfl) ?_
  refine cl_v (rn_V (wc := [(m0, .inr (5, [.int (ji (co)), .long (jl (Dd)), .long (jl (w)), .ref mf, .ref mm, .ref ml, .long (jl ((F1) (r0 : Int).toNat)), .long (jl ((F2) (r0 : Int).toNat)), .long (jl ((F3) (r0 : Int).toNat)), .int (ji (np)), .ref mp]))]) (As := [.long (jl (a))]) (rest := []) X hK (c_M_freeOf l D cI cJ cF hg hG.1 hG.2.2 hnG ha0 hfb.1.j (by omega) (fr_form8 hG.2.1 ha0 (by have := hnb.1; omega)) _) co_M_freeOf in_M ml_M_116 im_M_freeOf se_M_freeOf 1 rfl (by decide +kernel) ⟨Nat.le_of_ble_eq_true rfl, Nat.le_of_ble_eq_true rfl⟩ hP hD [0] rfl (by decide) (q0 := 0) (ci := 5) rfl rfl rfl hl.1 rfl (Nat.le_of_ble_eq_true rfl) d_M_times_24 ⟨Nat.zero_le _, Nat.zero_le _⟩) hP hD hS hA [0] rfl (by decide) (fun _ => rfl) (fun u_2 H locs hp hP hD hS => ?_)
  obtain ⟨A0, B0, C0⟩ := u_2
  obtain ⟨p1, p2, p3, p4, p5, p6⟩ : fm_disc Dd (A0, B0, C0) ∧ fm_mg Dd w (A0, B0, C0) (F1 r0.toNat, F2 r0.toNat, F3 r0.toNat) ∧ (Dd < 0 → 0 < A0) ∧ vB Dd A0 ∧ fm_ab B0 ≤ 1000000000 ∧ Int.gcd A0 a = 1 := hp
  have hA0 := (fm_ne hg.1 p1).1
  have hAp := fm_ab_pos hA0
  have ra := ab_range p4.1
  have rb := ab_range p5
  have ra2 := p4.1
  have hcg : Int.gcd a (fm_ab A0) = 1 := by rw [ab_nat, ← p6, Int.gcd_comm]; unfold Int.gcd; rw [Int.natAbs_natCast]
  have hP : va_P D classes [(m0, .inr (5, [.int (ji (co)), .long (jl (Dd)), .long (jl (w)), .ref mf, .ref mm, .ref ml, .long (jl (A0)), .long (jl (B0)), .long (jl (C0)), .int (ji (np)), .ref mp])), (mf, .inl (cJ, 8, .inr (.inl (fun j => jl ((F1) j))))), (mm, .inl (cJ, 8, .inr (.inl (fun j => jl ((F2) j))))), (ml, .inl (cJ, 8, .inr (.inl (fun j => jl ((F3) j)))))] H := hP
  have hD : va_D A [(m0, .inr (5, [.int (ji (co)), .long (jl (Dd)), .long (jl (w)), .ref mf, .ref mm, .ref ml, .long (jl (A0)), .long (jl (B0)), .long (jl (C0)), .int (ji (np)), .ref mp])), (mf, .inl (cJ, 8, .inr (.inl (fun j => jl ((F1) j))))), (mm, .inl (cJ, 8, .inr (.inl (fun j => jl ((F2) j))))), (ml, .inl (cJ, 8, .inr (.inl (fun j => jl ((F3) j)))))] := hD
  refine lv_aload_n hx hb d_M_times_27 rfl (lv_at hl 3 rfl) ?_
  refine va_get (D := D) (ci := 5) (v := .long (jl (A0))) (C := R_M) (T := T_M) (N := 11) hx hb hts uw_M hown hK.1 hP 0 rfl rfl 6 (by decide) (hts _ fl_M_73) (fun _ h9 => h9) rfl d_M_times_28 ?_
  refine cl_l (rn_S (wc := []) (As := [.long (jl (A0))]) (rest := []) X hK (c_M_size l D cI cJ cF ⟨by omega, by omega⟩ _) co_M_size in_M ml_M_41 st_M_size 1 rfl (by decide +kernel) ⟨Nat.le_of_ble_eq_true rfl, Nat.le_of_ble_eq_true rfl⟩ hP hD [] rfl (by decide) hl.1 rfl (Nat.le_of_ble_eq_true rfl) d_M_times_31 ⟨Nat.zero_le _, Nat.zero_le _⟩) hP hD hS hA [] rfl (by decide) (fun _ => rfl) (fun r_3 u_4 H locs hp hP hD hS => ?_)
  have hP : va_P D classes [(m0, .inr (5, [.int (ji (co)), .long (jl (Dd)), .long (jl (w)), .ref mf, .ref mm, .ref ml, .long (jl (A0)), .long (jl (B0)), .long (jl (C0)), .int (ji (np)), .ref mp])), (mf, .inl (cJ, 8, .inr (.inl (fun j => jl ((F1) j))))), (mm, .inl (cJ, 8, .inr (.inl (fun j => jl ((F2) j))))), (ml, .inl (cJ, 8, .inr (.inl (fun j => jl ((F3) j)))))] H := hP
  have hD : va_D A [(m0, .inr (5, [.int (ji (co)), .long (jl (Dd)), .long (jl (w)), .ref mf, .ref mm, .ref ml, .long (jl (A0)), .long (jl (B0)), .long (jl (C0)), .int (ji (np)), .ref mp])), (mf, .inl (cJ, 8, .inr (.inl (fun j => jl ((F1) j))))), (mm, .inl (cJ, 8, .inr (.inl (fun j => jl ((F2) j))))), (ml, .inl (cJ, 8, .inr (.inl (fun j => jl ((F3) j)))))] := hD
  obtain rfl : r_3 = jl (fm_ab (A0)) := hp
  refine lv_lstore (lv' := [(8, .long (jl (fm_ab (A0)))), (6, .long (jl (c))), (4, .long (jl (b))), (2, .long (jl (a))), (0, .ref m0), (1, .int (ji (r0)))]) hx hb d_M_times_34 hl (by decide) rfl (fun ls hl => ?_)
  refine lv_aload_n hx hb d_M_times_36 rfl (lv_at hl 4 rfl) ?_
  refine va_get (D := D) (ci := 5) (v := .long (jl (B0))) (C := R_M) (T := T_M) (N := 11) hx hb hts uw_M hown hK.1 hP 0 rfl rfl 7 (by decide) (hts _ fl_M_76) (fun _ h9 => h9) rfl d_M_times_37 ?_
  refine lv_lload hx hb d_M_times_40 (lv_at hl 2 rfl) ?_
  refine wl_sub hx hb d_M_times_42 ?_
  refine w_ldc2 (v := 2) (n := 2) hx hb (by decide) hown (hts _ kc_M_53) d_M_times_43 ?_
  refine wl_div hx hb ⟨by omega, by omega⟩ ⟨by decide, by decide⟩ (by decide) d_M_times_46 ?_
  obtain ⟨hv, hhv⟩ : ∃ t : Int, ((B0) - (b)).tdiv (2) = t := ⟨_, rfl⟩
  refine lv_topl (fun yy hyy => ?_)
  obtain rfl : yy = jl hv := hyy.trans (congrArg jl hhv)
  obtain ⟨SS, TT, hSS, -⟩ := halves hs hf.1 p1
  have hve : hv = SS - b := by rw [← hhv]; exact td_2 (by omega)
  refine lv_lload hx hb d_M_times_47 (lv_at hl 0 rfl) ?_
  refine cl_l (rn_S (wc := []) (As := [.long (jl (hv)), .long (jl (fm_ab (A0)))]) (rest := []) X hK (c_M_rest l D cI cJ cF ⟨by omega, by omega⟩ ⟨by omega, by omega⟩ (by omega) _) co_M_rest in_M ml_M_69 st_M_rest 2 rfl (by decide +kernel) ⟨Nat.le_of_ble_eq_true rfl, Nat.le_of_ble_eq_true rfl⟩ hP hD [] rfl (by decide) hl.1 rfl (Nat.le_of_ble_eq_true rfl) d_M_times_49 ⟨Nat.zero_le _, Nat.zero_le _⟩) hP hD hS hA [] rfl (by decide) (fun _ => rfl) (fun r_5 u_6 H locs hp hP hD hS => ?_)
  have hP : va_P D classes [(m0, .inr (5, [.int (ji (co)), .long (jl (Dd)), .long (jl (w)), .ref mf, .ref mm, .ref ml, .long (jl (A0)), .long (jl (B0)), .long (jl (C0)), .int (ji (np)), .ref mp])), (mf, .inl (cJ, 8, .inr (.inl (fun j => jl ((F1) j))))), (mm, .inl (cJ, 8, .inr (.inl (fun j => jl ((F2) j))))), (ml, .inl (cJ, 8, .inr (.inl (fun j => jl ((F3) j)))))] H := hP
  have hD : va_D A [(m0, .inr (5, [.int (ji (co)), .long (jl (Dd)), .long (jl (w)), .ref mf, .ref mm, .ref ml, .long (jl (A0)), .long (jl (B0)), .long (jl (C0)), .int (ji (np)), .ref mp])), (mf, .inl (cJ, 8, .inr (.inl (fun j => jl ((F1) j))))), (mm, .inl (cJ, 8, .inr (.inl (fun j => jl ((F2) j))))), (ml, .inl (cJ, 8, .inr (.inl (fun j => jl ((F3) j)))))] := hD
  obtain rfl : r_5 = jl ((hv) % (fm_ab (A0))) := hp
  obtain ⟨rv, hrv⟩ : ∃ t : Int, (hv) % (fm_ab (A0)) = t := ⟨_, rfl⟩
  refine lv_topl (fun yy hyy => ?_)
  obtain rfl : yy = jl rv := hyy.trans (congrArg jl hrv)
  have rv0 := Int.emod_nonneg hv (show fm_ab A0 ≠ 0 by omega)
  have rv1 := Int.emod_lt_of_pos hv (show 0 < fm_ab A0 by omega)
  refine lv_lload_n hx hb d_M_times_52 rfl (lv_at hl 3 rfl) ?_
  refine lv_lload hx hb d_M_times_53 (lv_at hl 0 rfl) ?_
  refine cl_l (rn_S (wc := []) (As := [.long (jl (a)), .long (jl (fm_ab (A0)))]) (rest := [.long (jl (rv))]) X hK (c_M_inverse l D cI cJ cF hfb.1.j ⟨by omega, by omega⟩ hAp hcg _) co_M_inverse in_M ml_M_119 st_M_inverse 2 rfl (by decide +kernel) ⟨Nat.le_of_ble_eq_true rfl, Nat.le_of_ble_eq_true rfl⟩ hP hD [] rfl (by decide) hl.1 rfl (Nat.le_of_ble_eq_true rfl) d_M_times_55 ⟨Nat.zero_le _, Nat.zero_le _⟩) hP hD hS hA [] rfl (by decide) (fun _ => rfl) (fun r_7 u_8 H locs hp hP hD hS => ?_)
  obtain ⟨zi, rfl, zz1, zz2, zz3⟩ := hp
  have hP : va_P D classes [(m0, .inr (5, [.int (ji (co)), .long (jl (Dd)), .long (jl (w)), .ref mf, .ref mm, .ref ml, .long (jl (A0)), .long (jl (B0)), .long (jl (C0)), .int (ji (np)), .ref mp])), (mf, .inl (cJ, 8, .inr (.inl (fun j => jl ((F1) j))))), (mm, .inl (cJ, 8, .inr (.inl (fun j => jl ((F2) j))))), (ml, .inl (cJ, 8, .inr (.inl (fun j => jl ((F3) j)))))] H := hP
  have hD : va_D A [(m0, .inr (5, [.int (ji (co)), .long (jl (Dd)), .long (jl (w)), .ref mf, .ref mm, .ref ml, .long (jl (A0)), .long (jl (B0)), .long (jl (C0)), .int (ji (np)), .ref mp])), (mf, .inl (cJ, 8, .inr (.inl (fun j => jl ((F1) j))))), (mm, .inl (cJ, 8, .inr (.inl (fun j => jl ((F2) j))))), (ml, .inl (cJ, 8, .inr (.inl (fun j => jl ((F3) j)))))] := hD
  refine wl_mul hx hb d_M_times_58 ?_
  have pr := ab_range (ab_prod (x := rv) (X := 14200000) (y := zi) (Y := 14200000) (by rcases fm_ab_cases rv with z | z <;> omega) (by rcases fm_ab_cases zi with z | z <;> omega))
  refine lv_lload hx hb d_M_times_59 (lv_at hl 0 rfl) ?_
  refine cl_l (rn_S (wc := []) (As := [.long (jl ((rv) * (zi))), .long (jl (fm_ab (A0)))]) (rest := []) X hK (c_M_rest l D cI cJ cF ⟨by omega, by omega⟩ ⟨by omega, by omega⟩ hAp _) co_M_rest in_M ml_M_69 st_M_rest 2 rfl (by decide +kernel) ⟨Nat.le_of_ble_eq_true rfl, Nat.le_of_ble_eq_true rfl⟩ hP hD [] rfl (by decide) hl.1 rfl (Nat.le_of_ble_eq_true rfl) d_M_times_61 ⟨Nat.zero_le _, Nat.zero_le _⟩) hP hD hS hA [] rfl (by decide) (fun _ => rfl) (fun r_9 u_10 H locs hp hP hD hS => ?_)
  have hP : va_P D classes [(m0, .inr (5, [.int (ji (co)), .long (jl (Dd)), .long (jl (w)), .ref mf, .ref mm, .ref ml, .long (jl (A0)), .long (jl (B0)), .long (jl (C0)), .int (ji (np)), .ref mp])), (mf, .inl (cJ, 8, .inr (.inl (fun j => jl ((F1) j))))), (mm, .inl (cJ, 8, .inr (.inl (fun j => jl ((F2) j))))), (ml, .inl (cJ, 8, .inr (.inl (fun j => jl ((F3) j)))))] H := hP
  have hD : va_D A [(m0, .inr (5, [.int (ji (co)), .long (jl (Dd)), .long (jl (w)), .ref mf, .ref mm, .ref ml, .long (jl (A0)), .long (jl (B0)), .long (jl (C0)), .int (ji (np)), .ref mp])), (mf, .inl (cJ, 8, .inr (.inl (fun j => jl ((F1) j))))), (mm, .inl (cJ, 8, .inr (.inl (fun j => jl ((F2) j))))), (ml, .inl (cJ, 8, .inr (.inl (fun j => jl ((F3) j)))))] := hD
  obtain rfl : r_9 = jl (((rv) * (zi)) % (fm_ab (A0))) := hp
  obtain ⟨kz, hkz⟩ : ∃ t : Int, ((rv) * (zi)) % (fm_ab (A0)) = t := ⟨_, rfl⟩
  refine lv_topl (fun yy hyy => ?_)
  obtain rfl : yy = jl kz := hyy.trans (congrArg jl hkz)
  have kz0 := Int.emod_nonneg (rv * zi) (show fm_ab A0 ≠ 0 by omega)
  have kz1 := Int.emod_lt_of_pos (rv * zi) hAp
  have hkz : ((B0 - b).tdiv 2 % fm_ab A0 * zi) % fm_ab A0 = kz := by rw [hhv, hrv]; exact hkz
  obtain ⟨q1, q2, q3⟩ := tm_r ha0 hnb p4 (show 0 ≤ kz by omega) (show kz < fm_ab A0 by omega)
  have q4 := ab_range q1
  refine lv_lstore (lv' := [(10, .long (jl (kz))), (8, .long (jl (fm_ab (A0)))), (6, .long (jl (c))), (4, .long (jl (b))), (2, .long (jl (a))), (0, .ref m0), (1, .int (ji (r0)))]) hx hb d_M_times_64 hl (by decide) rfl (fun ls hl => ?_)
  refine lv_aload_n hx hb d_M_times_66 rfl (lv_at hl 5 rfl) ?_
  refine lv_lload hx hb d_M_times_67 (lv_at hl 3 rfl) ?_
  refine w_ldc2 (v := 2) (n := 2) hx hb (by decide) hown (hts _ kc_M_53) d_M_times_69 ?_
  refine lv_lload_n hx hb d_M_times_72 rfl (lv_at hl 4 rfl) ?_
  refine wl_mul hx hb d_M_times_73 ?_
  refine lv_lload hx hb d_M_times_74 (lv_at hl 0 rfl) ?_
  refine wl_mul hx hb d_M_times_76 ?_
  refine wl_add hx hb d_M_times_77 ?_
  obtain ⟨bz, hbz⟩ : ∃ t : Int, (b) + (((2) * (a)) * (kz)) = t := ⟨_, rfl⟩
  refine lv_topl (fun yy hyy => ?_)
  obtain rfl : yy = jl bz := hyy.trans (congrArg jl hbz)
  refine va_put (D := D) (ci := 5) (v := .long (jl (bz))) (ty := .long) (C := R_M) (T := T_M) (N := 11) hx hb hts uw_M ty_M ty_M_ok nm_M hown hK.1 hP hD hS 0 rfl rfl 7 (by decide) (hts _ fl_M_76) (fun _ h9 => h9) rfl (by decide +kernel) rfl rfl (Nat.le_of_ble_eq_true rfl) d_M_times_78 (fun H locs hP hD hS => ?_)
  have hP : va_P D classes [(m0, .inr (5, [.int (ji (co)), .long (jl (Dd)), .long (jl (w)), .ref mf, .ref mm, .ref ml, .long (jl (A0)), .long (jl (bz)), .long (jl (C0)), .int (ji (np)), .ref mp])), (mf, .inl (cJ, 8, .inr (.inl (fun j => jl ((F1) j))))), (mm, .inl (cJ, 8, .inr (.inl (fun j => jl ((F2) j))))), (ml, .inl (cJ, 8, .inr (.inl (fun j => jl ((F3) j)))))] H := hP
  have hD : va_D A [(m0, .inr (5, [.int (ji (co)), .long (jl (Dd)), .long (jl (w)), .ref mf, .ref mm, .ref ml, .long (jl (A0)), .long (jl (bz)), .long (jl (C0)), .int (ji (np)), .ref mp])), (mf, .inl (cJ, 8, .inr (.inl (fun j => jl ((F1) j))))), (mm, .inl (cJ, 8, .inr (.inl (fun j => jl ((F2) j))))), (ml, .inl (cJ, 8, .inr (.inl (fun j => jl ((F3) j)))))] := hD
  refine lv_aload_n hx hb d_M_times_81 rfl (lv_at hl 5 rfl) ?_
  refine lv_lload hx hb d_M_times_82 (lv_at hl 2 rfl) ?_
  refine lv_lload hx hb d_M_times_84 (lv_at hl 3 rfl) ?_
  refine lv_lload hx hb d_M_times_86 (lv_at hl 0 rfl) ?_
  refine wl_mul hx hb d_M_times_88 ?_
  refine wl_add hx hb d_M_times_89 ?_
  refine lv_lload_n hx hb d_M_times_90 rfl (lv_at hl 4 rfl) ?_
  refine lv_lload hx hb d_M_times_91 (lv_at hl 0 rfl) ?_
  refine wl_mul hx hb d_M_times_93 ?_
  refine lv_lload hx hb d_M_times_94 (lv_at hl 0 rfl) ?_
  refine wl_mul hx hb d_M_times_96 ?_
  refine wl_add hx hb d_M_times_97 ?_
  refine lv_aload_n hx hb d_M_times_98 rfl (lv_at hl 5 rfl) ?_
  refine va_get (D := D) (ci := 5) (v := .long (jl (A0))) (C := R_M) (T := T_M) (N := 11) hx hb hts uw_M hown hK.1 hP 0 rfl rfl 6 (by decide) (hts _ fl_M_73) (fun _ h9 => h9) rfl d_M_times_99 ?_
  refine wl_div hx hb q2 ⟨by omega, by omega⟩ hA0 d_M_times_102 ?_
  obtain ⟨cz, hcz⟩ : ∃ t : Int, (((c) + ((b) * (kz))) + (((a) * (kz)) * (kz))).tdiv (A0) = t := ⟨_, rfl⟩
  refine lv_topl (fun yy hyy => ?_)
  obtain rfl : yy = jl cz := hyy.trans (congrArg jl hcz)
  refine va_put (D := D) (ci := 5) (v := .long (jl (cz))) (ty := .long) (C := R_M) (T := T_M) (N := 11) hx hb hts uw_M ty_M ty_M_ok nm_M hown hK.1 hP hD hS 0 rfl rfl 8 (by decide) (hts _ fl_M_79) (fun _ h9 => h9) rfl (by decide +kernel) rfl rfl (Nat.le_of_ble_eq_true rfl) d_M_times_103 (fun H locs hP hD hS => ?_)
  have hP : va_P D classes [(m0, .inr (5, [.int (ji (co)), .long (jl (Dd)), .long (jl (w)), .ref mf, .ref mm, .ref ml, .long (jl (A0)), .long (jl (bz)), .long (jl (cz)), .int (ji (np)), .ref mp])), (mf, .inl (cJ, 8, .inr (.inl (fun j => jl ((F1) j))))), (mm, .inl (cJ, 8, .inr (.inl (fun j => jl ((F2) j))))), (ml, .inl (cJ, 8, .inr (.inl (fun j => jl ((F3) j)))))] H := hP
  have hD : va_D A [(m0, .inr (5, [.int (ji (co)), .long (jl (Dd)), .long (jl (w)), .ref mf, .ref mm, .ref ml, .long (jl (A0)), .long (jl (bz)), .long (jl (cz)), .int (ji (np)), .ref mp])), (mf, .inl (cJ, 8, .inr (.inl (fun j => jl ((F1) j))))), (mm, .inl (cJ, 8, .inr (.inl (fun j => jl ((F2) j))))), (ml, .inl (cJ, 8, .inr (.inl (fun j => jl ((F3) j)))))] := hD
  refine lv_aload_n hx hb d_M_times_106 rfl (lv_at hl 5 rfl) ?_
  refine lv_lload_n hx hb d_M_times_107 rfl (lv_at hl 4 rfl) ?_
  refine lv_aload_n hx hb d_M_times_108 rfl (lv_at hl 5 rfl) ?_
  refine va_get (D := D) (ci := 5) (v := .long (jl (A0))) (C := R_M) (T := T_M) (N := 11) hx hb hts uw_M hown hK.1 hP 0 rfl rfl 6 (by decide) (hts _ fl_M_73) (fun _ h9 => h9) rfl d_M_times_109 ?_
  refine wl_mul hx hb d_M_times_112 ?_
  obtain ⟨az, haz⟩ : ∃ t : Int, (a) * (A0) = t := ⟨_, rfl⟩
  refine lv_topl (fun yy hyy => ?_)
  obtain rfl : yy = jl az := hyy.trans (congrArg jl haz)
  have haz0 : az ≠ 0 := by rw [← haz]; exact Int.mul_ne_zero ha0 hA0
  have q5 := fm_ab_pos haz0
  have q6 : fm_ab az ≤ 15000000000 := by rw [← haz]; exact q3
  have q7 := ab_range q6
  refine va_put (D := D) (ci := 5) (v := .long (jl (az))) (ty := .long) (C := R_M) (T := T_M) (N := 11) hx hb hts uw_M ty_M ty_M_ok nm_M hown hK.1 hP hD hS 0 rfl rfl 6 (by decide) (hts _ fl_M_73) (fun _ h9 => h9) rfl (by decide +kernel) rfl rfl (Nat.le_of_ble_eq_true rfl) d_M_times_113 (fun H locs hP hD hS => ?_)
  have hP : va_P D classes [(m0, .inr (5, [.int (ji (co)), .long (jl (Dd)), .long (jl (w)), .ref mf, .ref mm, .ref ml, .long (jl (az)), .long (jl (bz)), .long (jl (cz)), .int (ji (np)), .ref mp])), (mf, .inl (cJ, 8, .inr (.inl (fun j => jl ((F1) j))))), (mm, .inl (cJ, 8, .inr (.inl (fun j => jl ((F2) j))))), (ml, .inl (cJ, 8, .inr (.inl (fun j => jl ((F3) j)))))] H := hP
  have hD : va_D A [(m0, .inr (5, [.int (ji (co)), .long (jl (Dd)), .long (jl (w)), .ref mf, .ref mm, .ref ml, .long (jl (az)), .long (jl (bz)), .long (jl (cz)), .int (ji (np)), .ref mp])), (mf, .inl (cJ, 8, .inr (.inl (fun j => jl ((F1) j))))), (mm, .inl (cJ, 8, .inr (.inl (fun j => jl ((F2) j))))), (ml, .inl (cJ, 8, .inr (.inl (fun j => jl ((F3) j)))))] := hD
  refine w_ldc2 (v := 2) (n := 2) hx hb (by decide) hown (hts _ kc_M_53) d_M_times_116 ?_
  refine lv_aload_n hx hb d_M_times_119 rfl (lv_at hl 5 rfl) ?_
  refine va_get (D := D) (ci := 5) (v := .long (jl (az))) (C := R_M) (T := T_M) (N := 11) hx hb hts uw_M hown hK.1 hP 0 rfl rfl 6 (by decide) (hts _ fl_M_73) (fun _ h9 => h9) rfl d_M_times_120 ?_
  refine cl_l (rn_S (wc := []) (As := [.long (jl (az))]) (rest := [.long (jl (2))]) X hK (c_M_size l D cI cJ cF ⟨by omega, by omega⟩ _) co_M_size in_M ml_M_41 st_M_size 1 rfl (by decide +kernel) ⟨Nat.le_of_ble_eq_true rfl, Nat.le_of_ble_eq_true rfl⟩ hP hD [] rfl (by decide) hl.1 rfl (Nat.le_of_ble_eq_true rfl) d_M_times_123 ⟨Nat.zero_le _, Nat.zero_le _⟩) hP hD hS hA [] rfl (by decide) (fun _ => rfl) (fun r_11 u_12 H locs hp hP hD hS => ?_)
  have hP : va_P D classes [(m0, .inr (5, [.int (ji (co)), .long (jl (Dd)), .long (jl (w)), .ref mf, .ref mm, .ref ml, .long (jl (az)), .long (jl (bz)), .long (jl (cz)), .int (ji (np)), .ref mp])), (mf, .inl (cJ, 8, .inr (.inl (fun j => jl ((F1) j))))), (mm, .inl (cJ, 8, .inr (.inl (fun j => jl ((F2) j))))), (ml, .inl (cJ, 8, .inr (.inl (fun j => jl ((F3) j)))))] H := hP
  have hD : va_D A [(m0, .inr (5, [.int (ji (co)), .long (jl (Dd)), .long (jl (w)), .ref mf, .ref mm, .ref ml, .long (jl (az)), .long (jl (bz)), .long (jl (cz)), .int (ji (np)), .ref mp])), (mf, .inl (cJ, 8, .inr (.inl (fun j => jl ((F1) j))))), (mm, .inl (cJ, 8, .inr (.inl (fun j => jl ((F2) j))))), (ml, .inl (cJ, 8, .inr (.inl (fun j => jl ((F3) j)))))] := hD
  obtain rfl : r_11 = jl (fm_ab (az)) := hp
  refine wl_mul hx hb d_M_times_126 ?_
  obtain ⟨tz, htz⟩ : ∃ t : Int, (2) * (fm_ab (az)) = t := ⟨_, rfl⟩
  refine lv_topl (fun yy hyy => ?_)
  obtain rfl : yy = jl tz := hyy.trans (congrArg jl htz)
  refine lv_lstore (lv' := [(12, .long (jl (tz))), (10, .long (jl (kz))), (8, .long (jl (fm_ab (A0)))), (6, .long (jl (c))), (4, .long (jl (b))), (2, .long (jl (a))), (0, .ref m0), (1, .int (ji (r0)))]) hx hb d_M_times_127 hl (by decide) rfl (fun ls hl => ?_)
  refine lv_aload_n hx hb d_M_times_129 rfl (lv_at hl 6 rfl) ?_
  refine va_get (D := D) (ci := 5) (v := .long (jl (bz))) (C := R_M) (T := T_M) (N := 11) hx hb hts uw_M hown hK.1 hP 0 rfl rfl 7 (by decide) (hts _ fl_M_76) (fun _ h9 => h9) rfl d_M_times_130 ?_
  refine lv_lload hx hb d_M_times_133 (lv_at hl 0 rfl) ?_
  refine cl_l (rn_S (wc := []) (As := [.long (jl (bz)), .long (jl (tz))]) (rest := []) X hK (c_M_rest l D cI cJ cF ⟨by omega, by omega⟩ ⟨by omega, by omega⟩ (by omega) _) co_M_rest in_M ml_M_69 st_M_rest 2 rfl (by decide +kernel) ⟨Nat.le_of_ble_eq_true rfl, Nat.le_of_ble_eq_true rfl⟩ hP hD [] rfl (by decide) hl.1 rfl (Nat.le_of_ble_eq_true rfl) d_M_times_135 ⟨Nat.zero_le _, Nat.zero_le _⟩) hP hD hS hA [] rfl (by decide) (fun _ => rfl) (fun r_13 u_14 H locs hp hP hD hS => ?_)
  have hP : va_P D classes [(m0, .inr (5, [.int (ji (co)), .long (jl (Dd)), .long (jl (w)), .ref mf, .ref mm, .ref ml, .long (jl (az)), .long (jl (bz)), .long (jl (cz)), .int (ji (np)), .ref mp])), (mf, .inl (cJ, 8, .inr (.inl (fun j => jl ((F1) j))))), (mm, .inl (cJ, 8, .inr (.inl (fun j => jl ((F2) j))))), (ml, .inl (cJ, 8, .inr (.inl (fun j => jl ((F3) j)))))] H := hP
  have hD : va_D A [(m0, .inr (5, [.int (ji (co)), .long (jl (Dd)), .long (jl (w)), .ref mf, .ref mm, .ref ml, .long (jl (az)), .long (jl (bz)), .long (jl (cz)), .int (ji (np)), .ref mp])), (mf, .inl (cJ, 8, .inr (.inl (fun j => jl ((F1) j))))), (mm, .inl (cJ, 8, .inr (.inl (fun j => jl ((F2) j))))), (ml, .inl (cJ, 8, .inr (.inl (fun j => jl ((F3) j)))))] := hD
  obtain rfl : r_13 = jl ((bz) % (tz)) := hp
  obtain ⟨lz, hlz⟩ : ∃ t : Int, (bz) % (tz) = t := ⟨_, rfl⟩
  refine lv_topl (fun yy hyy => ?_)
  obtain rfl : yy = jl lz := hyy.trans (congrArg jl hlz)
  have l0 := Int.emod_nonneg bz (show tz ≠ 0 by omega)
  have l1 := Int.emod_lt_of_pos bz (show 0 < tz by omega)
  refine lv_lstore (lv' := [(14, .long (jl (lz))), (12, .long (jl (tz))), (10, .long (jl (kz))), (8, .long (jl (fm_ab (A0)))), (6, .long (jl (c))), (4, .long (jl (b))), (2, .long (jl (a))), (0, .ref m0), (1, .int (ji (r0)))]) hx hb d_M_times_138 hl (by decide) rfl (fun ls hl => ?_)
  refine w_ldc2 (v := 2) (n := 2) hx hb (by decide) hown (hts _ kc_M_53) d_M_times_140 ?_
  refine lv_lload hx hb d_M_times_143 (lv_at hl 0 rfl) ?_
  refine wl_mul hx hb d_M_times_145 ?_
  refine lv_lload hx hb d_M_times_146 (lv_at hl 1 rfl) ?_
  refine wl_cle hx hb ⟨by omega, by omega⟩ ⟨by omega, by omega⟩ d_M_times_148 d_M_times_149 (tgt := 159) (by decide) (fun h_15 => ?_) (fun h_15 => ?_)
  · have hlo : (2 * (bz % (2 * fm_ab az)) ≤ 2 * fm_ab az ∧ lz = bz % (2 * fm_ab az)) ∨ (2 * fm_ab az < 2 * (bz % (2 * fm_ab az)) ∧ lz = bz % (2 * fm_ab az) - 2 * fm_ab az) := by rw [htz]; omega
    refine lv_aload_n hx hb d_M_times_159 rfl (lv_at hl 7 rfl) ?_
    refine lv_lload hx hb d_M_times_160 (lv_at hl 0 rfl) ?_
    refine lv_aload_n hx hb d_M_times_162 rfl (lv_at hl 7 rfl) ?_
    refine va_get (D := D) (ci := 5) (v := .long (jl (bz))) (C := R_M) (T := T_M) (N := 11) hx hb hts uw_M hown hK.1 hP 0 rfl rfl 7 (by decide) (hts _ fl_M_76) (fun _ h9 => h9) rfl d_M_times_163 ?_
    refine wl_sub hx hb d_M_times_166 ?_
    refine w_ldc2 (v := 2) (n := 2) hx hb (by decide) hown (hts _ kc_M_53) d_M_times_167 ?_
    refine lv_aload_n hx hb d_M_times_170 rfl (lv_at hl 7 rfl) ?_
    refine va_get (D := D) (ci := 5) (v := .long (jl (az))) (C := R_M) (T := T_M) (N := 11) hx hb hts uw_M hown hK.1 hP 0 rfl rfl 6 (by decide) (hts _ fl_M_73) (fun _ h9 => h9) rfl d_M_times_171 ?_
    refine wl_mul hx hb d_M_times_174 ?_
    refine wl_div hx hb ⟨by omega, by omega⟩ ⟨by omega, by omega⟩ (by omega) d_M_times_175 ?_
    obtain ⟨kt, hkt⟩ : ∃ t : Int, ((lz) - (bz)).tdiv ((2) * (az)) = t := ⟨_, rfl⟩
    refine lv_topl (fun yy hyy => ?_)
    obtain rfl : yy = jl kt := hyy.trans (congrArg jl hkt)
    obtain ⟨⟨v1, v2⟩, v3⟩ := tm_core hg hs hf hnb hG p1 p2 p3 p4 zz3 hkz hbz hcz haz hlo hkt
    refine cl_v (rn_V (wc := [(m0, .inr (5, [.int (ji (co)), .long (jl (Dd)), .long (jl (w)), .ref mf, .ref mm, .ref ml, .long (jl (az)), .long (jl (bz)), .long (jl (cz)), .int (ji (np)), .ref mp]))]) (As := [.long (jl (kt))]) (rest := []) X hK (c_M_slide l D cI cJ cF  _) co_M_slide in_M ml_M_110 im_M_slide se_M_slide 1 rfl (by decide +kernel) ⟨Nat.le_of_ble_eq_true rfl, Nat.le_of_ble_eq_true rfl⟩ hP hD [0] rfl (by decide) (q0 := 0) (ci := 5) rfl rfl rfl hl.1 rfl (Nat.le_of_ble_eq_true rfl) d_M_times_176 ⟨Nat.zero_le _, Nat.zero_le _⟩) hP hD hS hA [0] rfl (by decide) (fun _ => rfl) (fun u_16 H locs hp hP hD hS => ?_)
    have hP : va_P D classes [(m0, .inr (5, [.int (ji (co)), .long (jl (Dd)), .long (jl (w)), .ref mf, .ref mm, .ref ml, .long (jl (az)), .long (jl ((bz) + 2 * (az) * (kt))), .long (jl ((az) * (kt) * (kt) + (bz) * (kt) + (cz))), .int (ji (np)), .ref mp])), (mf, .inl (cJ, 8, .inr (.inl (fun j => jl ((F1) j))))), (mm, .inl (cJ, 8, .inr (.inl (fun j => jl ((F2) j))))), (ml, .inl (cJ, 8, .inr (.inl (fun j => jl ((F3) j)))))] H := hP
    have hD : va_D A [(m0, .inr (5, [.int (ji (co)), .long (jl (Dd)), .long (jl (w)), .ref mf, .ref mm, .ref ml, .long (jl (az)), .long (jl ((bz) + 2 * (az) * (kt))), .long (jl ((az) * (kt) * (kt) + (bz) * (kt) + (cz))), .int (ji (np)), .ref mp])), (mf, .inl (cJ, 8, .inr (.inl (fun j => jl ((F1) j))))), (mm, .inl (cJ, 8, .inr (.inl (fun j => jl ((F2) j))))), (ml, .inl (cJ, 8, .inr (.inl (fun j => jl ((F3) j)))))] := hD
    refine lv_aload_n hx hb d_M_times_179 rfl (lv_at hl 7 rfl) ?_
    refine cl_v (rn_V (wc := [(m0, .inr (5, [.int (ji (co)), .long (jl (Dd)), .long (jl (w)), .ref mf, .ref mm, .ref ml, .long (jl (az)), .long (jl ((bz) + 2 * (az) * (kt))), .long (jl ((az) * (kt) * (kt) + (bz) * (kt) + (cz))), .int (ji (np)), .ref mp]))]) (As := []) (rest := []) X hK (c_M_toName l D cI cJ cF hg v1.1 v1.2.2 v3 _) co_M_toName in_M ml_M_82 im_M_toName se_M_toName 0 rfl (by decide +kernel) ⟨Nat.le_of_ble_eq_true rfl, Nat.le_of_ble_eq_true rfl⟩ hP hD [0] rfl (by decide) (q0 := 0) (ci := 5) rfl rfl rfl hl.1 rfl (Nat.le_of_ble_eq_true rfl) d_M_times_180 ⟨Nat.zero_le _, Nat.zero_le _⟩) hP hD hS hA [0] rfl (by decide) (fun _ => rfl) (fun u_17 H locs hp hP hD hS => ?_)
    skip
    have hP : va_P D classes [(m0, .inr (5, [.int (ji (co)), .long (jl (Dd)), .long (jl (w)), .ref mf, .ref mm, .ref ml, .long (jl ((u_17).1)), .long (jl ((u_17).2.1)), .long (jl ((u_17).2.2)), .int (ji (np)), .ref mp])), (mf, .inl (cJ, 8, .inr (.inl (fun j => jl ((F1) j))))), (mm, .inl (cJ, 8, .inr (.inl (fun j => jl ((F2) j))))), (ml, .inl (cJ, 8, .inr (.inl (fun j => jl ((F3) j)))))] H := hP
    have hD : va_D A [(m0, .inr (5, [.int (ji (co)), .long (jl (Dd)), .long (jl (w)), .ref mf, .ref mm, .ref ml, .long (jl ((u_17).1)), .long (jl ((u_17).2.1)), .long (jl ((u_17).2.2)), .int (ji (np)), .ref mp])), (mf, .inl (cJ, 8, .inr (.inl (fun j => jl ((F1) j))))), (mm, .inl (cJ, 8, .inr (.inl (fun j => jl ((F2) j))))), (ml, .inl (cJ, 8, .inr (.inl (fun j => jl ((F3) j)))))] := hD
    exact rt_v X hAe hS u_17 ⟨_, v1, v2, hp⟩ hP d_M_times_183
  · have hlo : ∀ lo : Int, lz - tz = lo → (2 * (bz % (2 * fm_ab az)) ≤ 2 * fm_ab az ∧ lo = bz % (2 * fm_ab az)) ∨ (2 * fm_ab az < 2 * (bz % (2 * fm_ab az)) ∧ lo = bz % (2 * fm_ab az) - 2 * fm_ab az) := by intro lo hh; rw [htz]; omega
    refine lv_lload hx hb d_M_times_152 (lv_at hl 0 rfl) ?_
    refine lv_lload hx hb d_M_times_154 (lv_at hl 1 rfl) ?_
    refine wl_sub hx hb d_M_times_156 ?_
    refine lv_lstore (lv' := [(14, .long (jl ((lz) - (tz)))), (12, .long (jl (tz))), (10, .long (jl (kz))), (8, .long (jl (fm_ab (A0)))), (6, .long (jl (c))), (4, .long (jl (b))), (2, .long (jl (a))), (0, .ref m0), (1, .int (ji (r0)))]) hx hb d_M_times_157 hl (by decide) rfl (fun ls hl => ?_)
    refine lv_aload_n hx hb d_M_times_159 rfl (lv_at hl 7 rfl) ?_
    refine lv_lload hx hb d_M_times_160 (lv_at hl 0 rfl) ?_
    refine lv_aload_n hx hb d_M_times_162 rfl (lv_at hl 7 rfl) ?_
    refine va_get (D := D) (ci := 5) (v := .long (jl (bz))) (C := R_M) (T := T_M) (N := 11) hx hb hts uw_M hown hK.1 hP 0 rfl rfl 7 (by decide) (hts _ fl_M_76) (fun _ h9 => h9) rfl d_M_times_163 ?_
    refine wl_sub hx hb d_M_times_166 ?_
    refine w_ldc2 (v := 2) (n := 2) hx hb (by decide) hown (hts _ kc_M_53) d_M_times_167 ?_
    refine lv_aload_n hx hb d_M_times_170 rfl (lv_at hl 7 rfl) ?_
    refine va_get (D := D) (ci := 5) (v := .long (jl (az))) (C := R_M) (T := T_M) (N := 11) hx hb hts uw_M hown hK.1 hP 0 rfl rfl 6 (by decide) (hts _ fl_M_73) (fun _ h9 => h9) rfl d_M_times_171 ?_
    refine wl_mul hx hb d_M_times_174 ?_
    refine wl_div hx hb ⟨by omega, by omega⟩ ⟨by omega, by omega⟩ (by omega) d_M_times_175 ?_
    obtain ⟨kt, hkt⟩ : ∃ t : Int, (((lz) - (tz)) - (bz)).tdiv ((2) * (az)) = t := ⟨_, rfl⟩
    refine lv_topl (fun yy hyy => ?_)
    obtain rfl : yy = jl kt := hyy.trans (congrArg jl hkt)
    obtain ⟨⟨v1, v2⟩, v3⟩ := tm_core hg hs hf hnb hG p1 p2 p3 p4 zz3 hkz hbz hcz haz (hlo _ rfl) hkt
    refine cl_v (rn_V (wc := [(m0, .inr (5, [.int (ji (co)), .long (jl (Dd)), .long (jl (w)), .ref mf, .ref mm, .ref ml, .long (jl (az)), .long (jl (bz)), .long (jl (cz)), .int (ji (np)), .ref mp]))]) (As := [.long (jl (kt))]) (rest := []) X hK (c_M_slide l D cI cJ cF  _) co_M_slide in_M ml_M_110 im_M_slide se_M_slide 1 rfl (by decide +kernel) ⟨Nat.le_of_ble_eq_true rfl, Nat.le_of_ble_eq_true rfl⟩ hP hD [0] rfl (by decide) (q0 := 0) (ci := 5) rfl rfl rfl hl.1 rfl (Nat.le_of_ble_eq_true rfl) d_M_times_176 ⟨Nat.zero_le _, Nat.zero_le _⟩) hP hD hS hA [0] rfl (by decide) (fun _ => rfl) (fun u_18 H locs hp hP hD hS => ?_)
    have hP : va_P D classes [(m0, .inr (5, [.int (ji (co)), .long (jl (Dd)), .long (jl (w)), .ref mf, .ref mm, .ref ml, .long (jl (az)), .long (jl ((bz) + 2 * (az) * (kt))), .long (jl ((az) * (kt) * (kt) + (bz) * (kt) + (cz))), .int (ji (np)), .ref mp])), (mf, .inl (cJ, 8, .inr (.inl (fun j => jl ((F1) j))))), (mm, .inl (cJ, 8, .inr (.inl (fun j => jl ((F2) j))))), (ml, .inl (cJ, 8, .inr (.inl (fun j => jl ((F3) j)))))] H := hP
    have hD : va_D A [(m0, .inr (5, [.int (ji (co)), .long (jl (Dd)), .long (jl (w)), .ref mf, .ref mm, .ref ml, .long (jl (az)), .long (jl ((bz) + 2 * (az) * (kt))), .long (jl ((az) * (kt) * (kt) + (bz) * (kt) + (cz))), .int (ji (np)), .ref mp])), (mf, .inl (cJ, 8, .inr (.inl (fun j => jl ((F1) j))))), (mm, .inl (cJ, 8, .inr (.inl (fun j => jl ((F2) j))))), (ml, .inl (cJ, 8, .inr (.inl (fun j => jl ((F3) j)))))] := hD
    refine lv_aload_n hx hb d_M_times_179 rfl (lv_at hl 7 rfl) ?_
    refine cl_v (rn_V (wc := [(m0, .inr (5, [.int (ji (co)), .long (jl (Dd)), .long (jl (w)), .ref mf, .ref mm, .ref ml, .long (jl (az)), .long (jl ((bz) + 2 * (az) * (kt))), .long (jl ((az) * (kt) * (kt) + (bz) * (kt) + (cz))), .int (ji (np)), .ref mp]))]) (As := []) (rest := []) X hK (c_M_toName l D cI cJ cF hg v1.1 v1.2.2 v3 _) co_M_toName in_M ml_M_82 im_M_toName se_M_toName 0 rfl (by decide +kernel) ⟨Nat.le_of_ble_eq_true rfl, Nat.le_of_ble_eq_true rfl⟩ hP hD [0] rfl (by decide) (q0 := 0) (ci := 5) rfl rfl rfl hl.1 rfl (Nat.le_of_ble_eq_true rfl) d_M_times_180 ⟨Nat.zero_le _, Nat.zero_le _⟩) hP hD hS hA [0] rfl (by decide) (fun _ => rfl) (fun u_19 H locs hp hP hD hS => ?_)
    skip
    have hP : va_P D classes [(m0, .inr (5, [.int (ji (co)), .long (jl (Dd)), .long (jl (w)), .ref mf, .ref mm, .ref ml, .long (jl ((u_19).1)), .long (jl ((u_19).2.1)), .long (jl ((u_19).2.2)), .int (ji (np)), .ref mp])), (mf, .inl (cJ, 8, .inr (.inl (fun j => jl ((F1) j))))), (mm, .inl (cJ, 8, .inr (.inl (fun j => jl ((F2) j))))), (ml, .inl (cJ, 8, .inr (.inl (fun j => jl ((F3) j)))))] H := hP
    have hD : va_D A [(m0, .inr (5, [.int (ji (co)), .long (jl (Dd)), .long (jl (w)), .ref mf, .ref mm, .ref ml, .long (jl ((u_19).1)), .long (jl ((u_19).2.1)), .long (jl ((u_19).2.2)), .int (ji (np)), .ref mp])), (mf, .inl (cJ, 8, .inr (.inl (fun j => jl ((F1) j))))), (mm, .inl (cJ, 8, .inr (.inl (fun j => jl ((F2) j))))), (ml, .inl (cJ, 8, .inr (.inl (fun j => jl ((F3) j)))))] := hD
    exact rt_v X hAe hS u_19 ⟨_, v1, v2, hp⟩ hP d_M_times_183

set_option maxHeartbeats 4000000 in
set_option maxRecDepth 100000 in
theorem c_M_orderOf (l : Launch) (D : va_G) (cI cJ cF : ClassId) {m0 mf mm ml mp : Nat} {co Dd w np : Int} {a b c r0 s0 n0 z1 z2 z3 : Int} {F1 F2 F3 : Nat → Int} (hr0 : 0 ≤ r0) (hr7 : r0 ≤ 7) (hg : gD Dd w) (hs : fm_sn Dd s0 n0) (hone : fm_nm Dd w (z1, z2, z3) (fm_one s0 n0)) (hG : fm_v Dd (F1 r0.toNat, F2 r0.toNat, F3 r0.toNat)) (hGn : fm_nm Dd w (F1 r0.toNat, F2 r0.toNat, F3 r0.toNat) (F1 r0.toNat, F2 r0.toNat, F3 r0.toNat)) : ∀ sz, Met l y_M_orderOf (Cond.code y_M_orderOf b_M_orderOf 3 (some .int) :: wb) { frames := 5, cells := 0, slots := 0, locals := 140 } (va_Pc [.ref m0, .int (ji (r0))] (cpre D cI cJ cF [(m0, .inr (5, [.int (ji (co)), .long (jl (Dd)), .long (jl (w)), .ref mf, .ref mm, .ref ml, .long (jl (a)), .long (jl (b)), .long (jl (c)), .int (ji (np)), .ref mp])), (mf, .inl (cJ, 8, .inr (.inl (fun j => jl ((F1) j))))), (mm, .inl (cJ, 8, .inr (.inl (fun j => jl ((F2) j))))), (ml, .inl (cJ, 8, .inr (.inl (fun j => jl ((F3) j)))))] sz)) (va_Qi (fun r (u : fm_F) => ∃ N : Int, r = ji N ∧ fm_or Dd s0 n0 (F1 r0.toNat, F2 r0.toNat, F3 r0.toNat) N ∧ N ≤ 720000) (fun (u : fm_F) tS => va_P D classes [(m0, .inr (5, [.int (ji (co)), .long (jl (Dd)), .long (jl (w)), .ref mf, .ref mm, .ref ml, .long (jl (u.1)), .long (jl (u.2.1)), .long (jl (u.2.2)), .int (ji (np)), .ref mp])), (mf, .inl (cJ, 8, .inr (.inl (fun j => jl ((F1) j))))), (mm, .inl (cJ, 8, .inr (.inl (fun j => jl ((F2) j))))), (ml, .inl (cJ, 8, .inr (.inl (fun j => jl ((F3) j)))))] tS.heap) (va_A [(m0, .inr (5, [.int (ji (co)), .long (jl (Dd)), .long (jl (w)), .ref mf, .ref mm, .ref ml, .long (jl (a)), .long (jl (b)), .long (jl (c)), .int (ji (np)), .ref mp])), (mf, .inl (cJ, 8, .inr (.inl (fun j => jl ((F1) j))))), (mm, .inl (cJ, 8, .inr (.inl (fun j => jl ((F2) j))))), (ml, .inl (cJ, 8, .inr (.inl (fun j => jl ((F3) j)))))] sz)) 0 0 (va_A [(m0, .inr (5, [.int (ji (co)), .long (jl (Dd)), .long (jl (w)), .ref mf, .ref mm, .ref ml, .long (jl (a)), .long (jl (b)), .long (jl (c)), .int (ji (np)), .ref mp])), (mf, .inl (cJ, 8, .inr (.inl (fun j => jl ((F1) j))))), (mm, .inl (cJ, 8, .inr (.inl (fun j => jl ((F2) j))))), (ml, .inl (cJ, 8, .inr (.inl (fun j => jl ((F3) j)))))] sz) := by
  refine c_of (Qc := fun sz => va_Qi (fun r (u : fm_F) => ∃ N : Int, r = ji N ∧ fm_or Dd s0 n0 (F1 r0.toNat, F2 r0.toNat, F3 r0.toNat) N ∧ N ≤ 720000) (fun (u : fm_F) tS => va_P D classes [(m0, .inr (5, [.int (ji (co)), .long (jl (Dd)), .long (jl (w)), .ref mf, .ref mm, .ref ml, .long (jl (u.1)), .long (jl (u.2.1)), .long (jl (u.2.2)), .int (ji (np)), .ref mp])), (mf, .inl (cJ, 8, .inr (.inl (fun j => jl ((F1) j))))), (mm, .inl (cJ, 8, .inr (.inl (fun j => jl ((F2) j))))), (ml, .inl (cJ, 8, .inr (.inl (fun j => jl ((F3) j)))))] tS.heap) (va_A [(m0, .inr (5, [.int (ji (co)), .long (jl (Dd)), .long (jl (w)), .ref mf, .ref mm, .ref ml, .long (jl (a)), .long (jl (b)), .long (jl (c)), .int (ji (np)), .ref mp])), (mf, .inl (cJ, 8, .inr (.inl (fun j => jl ((F1) j))))), (mm, .inl (cJ, 8, .inr (.inl (fun j => jl ((F2) j))))), (ml, .inl (cJ, 8, .inr (.inl (fun j => jl ((F3) j)))))] sz)) (by decide +kernel) co_M_orderOf (Nat.le_of_ble_eq_true rfl) ?_
  intro pq eq s mq below meth cq A X hK hP hD hS hA hAe ls hl
  obtain ⟨hx, hb, hml, hown, hr, hlocks, hts⟩ := id X
  have hl : lv_has ls 3 [(0, .ref m0), (1, .int (ji (r0)))] := hl
  obtain ⟨pz, m0x, m1, hmm⟩ := fm_ord_ex hg.1 hg.2.2.2 hg.2.1 hs hG
  refine lv_aload_n hx hb d_M_orderOf_0 rfl (lv_at hl 0 rfl) ?_
  refine lv_iload_n hx hb d_M_orderOf_1 rfl (lv_at hl 1 rfl) ?_
  refine cl_v (rn_V (wc := [(m0, .inr (5, [.int (ji (co)), .long (jl (Dd)), .long (jl (w)), .ref mf, .ref mm, .ref ml, .long (jl (a)), .long (jl (b)), .long (jl (c)), .int (ji (np)), .ref mp])), (mf, .inl (cJ, 8, .inr (.inl (fun j => jl ((F1) j))))), (mm, .inl (cJ, 8, .inr (.inl (fun j => jl ((F2) j))))), (ml, .inl (cJ, 8, .inr (.inl (fun j => jl ((F3) j)))))]) (As := [.int (ji (r0))]) (rest := []) X hK (c_M_load l D cI cJ cF hr0 hr7 _) co_M_load in_M ml_M_98 im_M_load se_M_load 1 rfl (by decide +kernel) ⟨Nat.le_of_ble_eq_true rfl, Nat.le_of_ble_eq_true rfl⟩ hP hD [0, 1, 2, 3] rfl (by decide) (q0 := 0) (ci := 5) rfl rfl rfl hl.1 rfl (Nat.le_of_ble_eq_true rfl) d_M_orderOf_2 ⟨Nat.zero_le _, Nat.zero_le _⟩) hP hD hS hA [0, 1, 2, 3] rfl (by decide) (fun _ => rfl) (fun u_1 H locs hp hP hD hS => ?_)
  have hP : va_P D classes [(m0, .inr (5, [.int (ji (co)), .long (jl (Dd)), .long (jl (w)), .ref mf, .ref mm, .ref ml, .long (jl ((F1) (r0 : Int).toNat)), .long (jl ((F2) (r0 : Int).toNat)), .long (jl ((F3) (r0 : Int).toNat)), .int (ji (np)), .ref mp])), (mf, .inl (cJ, 8, .inr (.inl (fun j => jl ((F1) j))))), (mm, .inl (cJ, 8, .inr (.inl (fun j => jl ((F2) j))))), (ml, .inl (cJ, 8, .inr (.inl (fun j => jl ((F3) j)))))] H := hP
  have hD : va_D A [(m0, .inr (5, [.int (ji (co)), .long (jl (Dd)), .long (jl (w)), .ref mf, .ref mm, .ref ml, .long (jl ((F1) (r0 : Int).toNat)), .long (jl ((F2) (r0 : Int).toNat)), .long (jl ((F3) (r0 : Int).toNat)), .int (ji (np)), .ref mp])), (mf, .inl (cJ, 8, .inr (.inl (fun j => jl ((F1) j))))), (mm, .inl (cJ, 8, .inr (.inl (fun j => jl ((F2) j))))), (ml, .inl (cJ, 8, .inr (.inl (fun j => jl ((F3) j)))))] := hD
  refine w_iconst hx hb d_M_orderOf_5 ?_
  refine lv_istore_n (lv' := [(2, .int (ji (1))), (0, .ref m0), (1, .int (ji (r0)))]) hx hb d_M_orderOf_6 rfl hl (by decide) rfl (fun ls hl => ?_)
  refine lpn (I := fun nlp H locs ls => ∃ (nn : Nat) (xa : Int) (xb : Int) (xc : Int), pz - nn = nlp ∧ (1 ≤ nn ∧ nn ≤ pz ∧ (∀ j : Nat, 0 < j → j < nn → ¬ fm_pw Dd s0 n0 (F1 r0.toNat, F2 r0.toNat, F3 r0.toNat) j (fm_one s0 n0)) ∧ fm_v Dd (xa, xb, xc) ∧ fm_nm Dd w (xa, xb, xc) (xa, xb, xc) ∧ fm_pw Dd s0 n0 (F1 r0.toNat, F2 r0.toNat, F3 r0.toNat) nn (xa, xb, xc)) ∧ va_P D classes [(m0, .inr (5, [.int (ji (co)), .long (jl (Dd)), .long (jl (w)), .ref mf, .ref mm, .ref ml, .long (jl (xa)), .long (jl (xb)), .long (jl (xc)), .int (ji (np)), .ref mp])), (mf, .inl (cJ, 8, .inr (.inl (fun j => jl ((F1) j))))), (mm, .inl (cJ, 8, .inr (.inl (fun j => jl ((F2) j))))), (ml, .inl (cJ, 8, .inr (.inl (fun j => jl ((F3) j)))))] H ∧ va_D A [(m0, .inr (5, [.int (ji (co)), .long (jl (Dd)), .long (jl (w)), .ref mf, .ref mm, .ref ml, .long (jl (xa)), .long (jl (xb)), .long (jl (xc)), .int (ji (np)), .ref mp])), (mf, .inl (cJ, 8, .inr (.inl (fun j => jl ((F1) j))))), (mm, .inl (cJ, 8, .inr (.inl (fun j => jl ((F2) j))))), (ml, .inl (cJ, 8, .inr (.inl (fun j => jl ((F3) j)))))] ∧ va_S A s.heap H locs ∧ lv_has ls 3 [(0, .ref m0), (1, .int (ji (r0))), (2, .int (ji (nn)))]) ?_ _ _ _ _ ⟨1, F1 r0.toNat, F2 r0.toNat, F3 r0.toNat, rfl, ⟨by omega, by omega, fun j z1 z2 => by omega, hG, hGn, fm_pw.one hs hG⟩, hP, hD, hS, lv_sub hl [1, 2, 0] rfl⟩
  rintro nlp H locs ls ⟨nn, xa, xb, xc, rfl, hi, hP, hD, hS, hl⟩ ih
  have xb0 := red_b30 hg hi.2.2.2.2.1.1 hi.2.2.2.2.1.2.1
  refine lv_aload_n hx hb d_M_orderOf_7 rfl (lv_at hl 0 rfl) ?_
  refine cl_i (rn_V (wc := [(m0, .inr (5, [.int (ji (co)), .long (jl (Dd)), .long (jl (w)), .ref mf, .ref mm, .ref ml, .long (jl (xa)), .long (jl (xb)), .long (jl (xc)), .int (ji (np)), .ref mp]))]) (As := []) (rest := []) X hK (c_M_isOne l D cI cJ cF hg hs hone hi.2.2.2.1.1 xb0.1.j xb0.2.1.j _) co_M_isOne in_M ml_M_129 im_M_isOne se_M_isOne 0 rfl (by decide +kernel) ⟨Nat.le_of_ble_eq_true rfl, Nat.le_of_ble_eq_true rfl⟩ hP hD [0] rfl (by decide) (q0 := 0) (ci := 5) rfl rfl rfl hl.1 rfl (Nat.le_of_ble_eq_true rfl) d_M_orderOf_8 ⟨Nat.zero_le _, Nat.zero_le _⟩) hP hD hS hA [0] rfl (by decide) (fun _ => rfl) (fun r_2 u_3 H locs hp hP hD hS => ?_)
  obtain ⟨tt1, rfl, ht1⟩ := hp
  have hP : va_P D classes [(m0, .inr (5, [.int (ji (co)), .long (jl (Dd)), .long (jl (w)), .ref mf, .ref mm, .ref ml, .long (jl (xa)), .long (jl (xb)), .long (jl (xc)), .int (ji (np)), .ref mp])), (mf, .inl (cJ, 8, .inr (.inl (fun j => jl ((F1) j))))), (mm, .inl (cJ, 8, .inr (.inl (fun j => jl ((F2) j))))), (ml, .inl (cJ, 8, .inr (.inl (fun j => jl ((F3) j)))))] H := hP
  have hD : va_D A [(m0, .inr (5, [.int (ji (co)), .long (jl (Dd)), .long (jl (w)), .ref mf, .ref mm, .ref ml, .long (jl (xa)), .long (jl (xb)), .long (jl (xc)), .int (ji (np)), .ref mp])), (mf, .inl (cJ, 8, .inr (.inl (fun j => jl ((F1) j))))), (mm, .inl (cJ, 8, .inr (.inl (fun j => jl ((F2) j))))), (ml, .inl (cJ, 8, .inr (.inl (fun j => jl ((F3) j)))))] := hD
  refine wi_zne hx hb ⟨by omega, by omega⟩ d_M_orderOf_11 (tgt := 25) (by decide) (fun h_4 => ?_) (fun h_4 => ?_)
  · obtain ⟨i1, i2, i3, i4, i5, i6⟩ := hi
    have hp1 : fm_pw Dd s0 n0 (F1 r0.toNat, F2 r0.toNat, F3 r0.toNat) ((nn : Int)).toNat (fm_one s0 n0) := (pw_one hg.1 hs i5 hone i6).mp (by rcases ht1 with z | z; exact z.2; omega)
    refine lv_iload_n hx hb d_M_orderOf_25 rfl (lv_at hl 2 rfl) ?_
    exact rt_i X hAe hS (xa, xb, xc) ⟨(nn : Int), rfl, ⟨by omega, hp1, fun j z1 z2 => i3 j z1 (by omega)⟩, by omega⟩ hP d_M_orderOf_26
  · obtain ⟨i1, i2, i3, i4, i5, i6⟩ := hi
    have hp1 : ¬ fm_pw Dd s0 n0 (F1 r0.toNat, F2 r0.toNat, F3 r0.toNat) nn (fm_one s0 n0) := by
      intro z
      have e := (pw_one hg.1 hs i5 hone i6).mpr z
      rcases ht1 with y | y
      · omega
      · exact y.2 e
    have hnm1 : nn ≠ pz := fun z => hp1 (by rw [z]; exact hmm)
    refine lv_aload_n hx hb d_M_orderOf_14 rfl (lv_at hl 0 rfl) ?_
    refine lv_iload_n hx hb d_M_orderOf_15 rfl (lv_at hl 1 rfl) ?_
    refine cl_v (rn_V (wc := [(m0, .inr (5, [.int (ji (co)), .long (jl (Dd)), .long (jl (w)), .ref mf, .ref mm, .ref ml, .long (jl (xa)), .long (jl (xb)), .long (jl (xc)), .int (ji (np)), .ref mp])), (mf, .inl (cJ, 8, .inr (.inl (fun j => jl ((F1) j))))), (mm, .inl (cJ, 8, .inr (.inl (fun j => jl ((F2) j))))), (ml, .inl (cJ, 8, .inr (.inl (fun j => jl ((F3) j)))))]) (As := [.int (ji (r0))]) (rest := []) X hK (c_M_times l D cI cJ cF hr0 hr7 hg hs i4 i5.2.1 hG hGn.2.1 _) co_M_times in_M ml_M_126 im_M_times se_M_times 1 rfl (by decide +kernel) ⟨Nat.le_of_ble_eq_true rfl, Nat.le_of_ble_eq_true rfl⟩ hP hD [0, 1, 2, 3] rfl (by decide) (q0 := 0) (ci := 5) rfl rfl rfl hl.1 rfl (Nat.le_of_ble_eq_true rfl) d_M_orderOf_16 ⟨Nat.zero_le _, Nat.zero_le _⟩) hP hD hS hA [0, 1, 2, 3] rfl (by decide) (fun _ => rfl) (fun u_5 H locs hp hP hD hS => ?_)
    obtain ⟨F0, t1, t2, t3⟩ := hp
    have tv := v_mg hg.1 t1 t3.1 t3.2.1 t3.2.2.1
    have tcp := t2.r (fm_eq_mg hg.1 hs t1.1 t3.1 t3.2.2.1.sy)
    skip
    have hP : va_P D classes [(m0, .inr (5, [.int (ji (co)), .long (jl (Dd)), .long (jl (w)), .ref mf, .ref mm, .ref ml, .long (jl ((u_5).1)), .long (jl ((u_5).2.1)), .long (jl ((u_5).2.2)), .int (ji (np)), .ref mp])), (mf, .inl (cJ, 8, .inr (.inl (fun j => jl ((F1) j))))), (mm, .inl (cJ, 8, .inr (.inl (fun j => jl ((F2) j))))), (ml, .inl (cJ, 8, .inr (.inl (fun j => jl ((F3) j)))))] H := hP
    have hD : va_D A [(m0, .inr (5, [.int (ji (co)), .long (jl (Dd)), .long (jl (w)), .ref mf, .ref mm, .ref ml, .long (jl ((u_5).1)), .long (jl ((u_5).2.1)), .long (jl ((u_5).2.2)), .int (ji (np)), .ref mp])), (mf, .inl (cJ, 8, .inr (.inl (fun j => jl ((F1) j))))), (mm, .inl (cJ, 8, .inr (.inl (fun j => jl ((F2) j))))), (ml, .inl (cJ, 8, .inr (.inl (fun j => jl ((F3) j)))))] := hD
    refine lv_iinc (v := ji ((nn) + (1))) (lv' := [(2, .int (ji ((nn) + (1)))), (0, .ref m0), (1, .int (ji (r0)))]) hx hb d_M_orderOf_19 hl (k := 2) rfl (ji_add _ _) (by decide) rfl (fun ls hl => ?_)
    refine lv_goto (tgt := 7) hx hb d_M_orderOf_22 (by decide) ?_
    exact ih _ _ _ _ (by omega) ⟨nn + 1, (u_5).1, (u_5).2.1, (u_5).2.2, rfl, ⟨by omega, by omega, fun j z1 z2 => by rcases Nat.lt_or_ge j nn with z | z; exact i3 j z1 z; (have : j = nn := by omega); rw [this]; exact hp1, tv, t3.self, ⟨_, i4, i6, tcp⟩⟩, hP, hD, hS, lv_sub hl [1, 2, 0] rfl⟩
