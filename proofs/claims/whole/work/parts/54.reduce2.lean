set_option maxHeartbeats 4000000 in
set_option maxRecDepth 100000 in
theorem c_G_reduce (l : Launch) (D : va_G) (cI cJ cF : ClassId) {g o wk st bs eu : Nat} {Dd w : Int} {f : Nat} {a b c : Int} (hg : gD Dd w) (hd : fm_disc Dd (a, b, c)) (hpos : Dd < 0 → 0 < a) (ha : -1073741824 ≤ a) (ha2 : a ≤ 1073741824) (hb2 : b30 b) (hc2 : ¬ Dd < 0 → b30 c) : ∀ sz, Met l y_G_reduce (Cond.code y_G_reduce b_G_reduce 3 none :: wb) { frames := 3, cells := 0, slots := 0, locals := 78 } (va_Pc [.ref g, .ref f] (cpre D cI cJ cF [(g, .inr (2, [.ref o, .ref wk, .ref st, .ref bs, .ref eu, .int (ji (Dd)), .int (ji (w))])), (f, .inr (1, [.long (jl (a)), .long (jl (b)), .long (jl (c))]))] sz)) (va_Qv (fun (u : fm_F) => fm_disc Dd u ∧ fm_red Dd w u ∧ fm_mg Dd w u (a, b, c)) (fun (u : fm_F) t => va_P D classes [(g, .inr (2, [.ref o, .ref wk, .ref st, .ref bs, .ref eu, .int (ji (Dd)), .int (ji (w))])), (f, .inr (1, [.long (jl ((u).1)), .long (jl ((u).2.1)), .long (jl ((u).2.2))]))] t.heap) (va_A [(g, .inr (2, [.ref o, .ref wk, .ref st, .ref bs, .ref eu, .int (ji (Dd)), .int (ji (w))])), (f, .inr (1, [.long (jl (a)), .long (jl (b)), .long (jl (c))]))] sz)) 0 0 (va_A [(g, .inr (2, [.ref o, .ref wk, .ref st, .ref bs, .ref eu, .int (ji (Dd)), .int (ji (w))])), (f, .inr (1, [.long (jl (a)), .long (jl (b)), .long (jl (c))]))] sz) := by
  refine c_of (Qc := fun sz => va_Qv (fun (u : fm_F) => fm_disc Dd u ∧ fm_red Dd w u ∧ fm_mg Dd w u (a, b, c)) (fun (u : fm_F) t => va_P D classes [(g, .inr (2, [.ref o, .ref wk, .ref st, .ref bs, .ref eu, .int (ji (Dd)), .int (ji (w))])), (f, .inr (1, [.long (jl ((u).1)), .long (jl ((u).2.1)), .long (jl ((u).2.2))]))] t.heap) (va_A [(g, .inr (2, [.ref o, .ref wk, .ref st, .ref bs, .ref eu, .int (ji (Dd)), .int (ji (w))])), (f, .inr (1, [.long (jl (a)), .long (jl (b)), .long (jl (c))]))] sz)) (by decide +kernel) co_G_reduce (Nat.le_of_ble_eq_true rfl) ?_
  intro pq eq s mq below meth cq A X hK hP hD hS hA hAe ls hl
  obtain ⟨hx, hb, hml, hown, hr, hlocks, hts⟩ := id X
  have hl : lv_has ls 3 [(0, .ref g), (1, .ref f)] := hl
  have zd1 := hg.2.1
  have zd2 := hg.2.2.1
  have zb1 := hb2.1
  have zb2 := hb2.2
  refine lv_aload_n hx hb d_G_reduce_0 rfl (lv_at hl 0 rfl) ?_
  refine va_get (D := D) (ci := 2) (v := .int (ji (Dd))) (C := R_G) (T := T_G) (N := 7) hx hb hts uw_G hown hK.1 hP 0 rfl rfl 5 (by decide) (hts _ fl_G_34) (fun _ h9 => h9) rfl d_G_reduce_1 ?_
  refine wi_zge hx hb hg.jD d_G_reduce_4 (tgt := 13) (by decide) (fun h_1 => ?_) (fun h_1 => ?_)
  · have hD0 : ¬ Dd < 0 := by omega
    have hc2 := hc2 hD0
    obtain ⟨k0, hk0, hk⟩ := fm_reach hg.1 hD0 16 a b c hd (by have := hc2.ab; show fm_ab c < 4 ^ 16; omega)
    refine w_iconst hx hb d_G_reduce_13 ?_
    refine lv_istore_n (lv' := [(2, .int (ji (0))), (0, .ref g), (1, .ref f)]) hx hb d_G_reduce_14 rfl hl (by decide) rfl (fun ls hl => ?_)
    refine lpn (I := fun n H locs ls => ∃ (i : Int) (xa : Int) (xb : Int) (xc : Int) (kk : Nat), kk = n ∧ (fm_red Dd w (fm_it Dd w kk (xa, xb, xc)) ∧ fm_mg Dd w (xa, xb, xc) (a, b, c) ∧ fm_disc Dd (xa, xb, xc) ∧ (b30 xa ∧ b30 xb ∧ b30 xc) ∧ (0 ≤ i ∧ i + kk < 1000000)) ∧ va_P D classes [(g, .inr (2, [.ref o, .ref wk, .ref st, .ref bs, .ref eu, .int (ji (Dd)), .int (ji (w))])), (f, .inr (1, [.long (jl (xa)), .long (jl (xb)), .long (jl (xc))]))] H ∧ va_D A [(g, .inr (2, [.ref o, .ref wk, .ref st, .ref bs, .ref eu, .int (ji (Dd)), .int (ji (w))])), (f, .inr (1, [.long (jl (xa)), .long (jl (xb)), .long (jl (xc))]))] ∧ va_S A s.heap H locs ∧ lv_has ls 3 [(0, .ref g), (1, .ref f), (2, .int (ji (i)))]) ?_ _ _ _ _ ⟨0, a, b, c, k0, rfl, ⟨hk, fm_mg.rf _, hd, ⟨⟨ha, ha2⟩, hb2, hc2⟩, ⟨by decide, by omega⟩⟩, hP, hD, hS, lv_sub hl [1, 2, 0] rfl⟩
    rintro n H locs ls ⟨i, xa, xb, xc, kk, rfl, hi, hP, hD, hS, hl⟩ ih
    refine lv_iload_n hx hb d_G_reduce_15 rfl (lv_at hl 2 rfl) ?_
    refine w_ldc (v := 1000000) (n := 1000000) hx hb (by decide) hown (hts _ kc_G_86) d_G_reduce_16 ?_
    refine wi_cge hx hb ⟨by omega, by omega⟩ ⟨by decide, by decide⟩ d_G_reduce_18 (tgt := 40) (by decide) (fun h_2 => ?_) (fun h_2 => ?_)
    · exact absurd hi.2.2.2.2 (by omega)
    · obtain ⟨i1, i2, i3, ⟨i4, i5, i6⟩, i7⟩ := hi
      refine lv_aload_n hx hb d_G_reduce_21 rfl (lv_at hl 0 rfl) ?_
      refine lv_aload_n hx hb d_G_reduce_22 rfl (lv_at hl 1 rfl) ?_
      refine cl_i (rn_V (wc := [(g, .inr (2, [.ref o, .ref wk, .ref st, .ref bs, .ref eu, .int (ji (Dd)), .int (ji (w))])), (f, .inr (1, [.long (jl (xa)), .long (jl (xb)), .long (jl (xc))]))]) (As := [.ref f]) (rest := []) X hK (c_G_isReducedAbove l D cI cJ cF hg i4 i5 _) co_G_isReducedAbove in_G ml_G_87 im_G_isReducedAbove se_G_isReducedAbove 1 rfl (by decide +kernel) ⟨Nat.le_of_ble_eq_true rfl, Nat.le_of_ble_eq_true rfl⟩ hP hD [0, 1] rfl (by decide) (q0 := 0) (ci := 2) rfl rfl rfl hl.1 rfl (Nat.le_of_ble_eq_true rfl) d_G_reduce_23 ⟨Nat.zero_le _, Nat.zero_le _⟩) hP hD hS hA [0, 1] rfl (by decide) (fun _ => rfl) (fun r_3 u_4 H locs hp hP hD hS => ?_)
      obtain ⟨t1, rfl, ht1⟩ := hp
      have hP : va_P D classes [(g, .inr (2, [.ref o, .ref wk, .ref st, .ref bs, .ref eu, .int (ji (Dd)), .int (ji (w))])), (f, .inr (1, [.long (jl (xa)), .long (jl (xb)), .long (jl (xc))]))] H := hP
      have hD : va_D A [(g, .inr (2, [.ref o, .ref wk, .ref st, .ref bs, .ref eu, .int (ji (Dd)), .int (ji (w))])), (f, .inr (1, [.long (jl (xa)), .long (jl (xb)), .long (jl (xc))]))] := hD
      refine wi_zne hx hb ⟨by omega, by omega⟩ d_G_reduce_26 (tgt := 40) (by decide) (fun h_5 => ?_) (fun h_5 => ?_)
      · have hred : fm_red Dd w (xa, xb, xc) := by rw [fm_red_ge hD0]; omega
        exact rt_v X hAe hS (xa, xb, xc) ⟨i3, hred, i2⟩ hP d_G_reduce_40
      · have hk2 : ∃ k2, kk = k2 + 1 ∧ fm_red Dd w (fm_it Dd w k2 (fm_rho Dd w (xa, xb, xc))) := by
          cases kk with
          | zero => exfalso; have z1 : fm_red Dd w (xa, xb, xc) := i1; rw [fm_red_ge hD0] at z1; omega
          | succ k2 => exact ⟨k2, rfl, i1⟩
        obtain ⟨k2, rfl, i1n⟩ := hk2
        have hbd := rho_bd hg hD0 i3 i6
        have hdr := fm_rho_disc hg.1 i3
        refine lv_aload_n hx hb d_G_reduce_29 rfl (lv_at hl 0 rfl) ?_
        refine lv_aload_n hx hb d_G_reduce_30 rfl (lv_at hl 1 rfl) ?_
        refine cl_v (rn_V (wc := [(g, .inr (2, [.ref o, .ref wk, .ref st, .ref bs, .ref eu, .int (ji (Dd)), .int (ji (w))])), (f, .inr (1, [.long (jl (xa)), .long (jl (xb)), .long (jl (xc))]))]) (As := [.ref f]) (rest := []) X hK (c_G_step l D cI cJ cF hg i3 i5 i6 _) co_G_step in_G ml_G_91 im_G_step se_G_step 1 rfl (by decide +kernel) ⟨Nat.le_of_ble_eq_true rfl, Nat.le_of_ble_eq_true rfl⟩ hP hD [0, 1] rfl (by decide) (q0 := 0) (ci := 2) rfl rfl rfl hl.1 rfl (Nat.le_of_ble_eq_true rfl) d_G_reduce_31 ⟨Nat.zero_le _, Nat.zero_le _⟩) hP hD hS hA [0, 1] rfl (by decide) (fun _ => rfl) (fun u_6 H locs hp hP hD hS => ?_)
        have hP : va_P D classes [(g, .inr (2, [.ref o, .ref wk, .ref st, .ref bs, .ref eu, .int (ji (Dd)), .int (ji (w))])), (f, .inr (1, [.long (jl ((fm_rho Dd w (xa, xb, xc)).1)), .long (jl ((fm_rho Dd w (xa, xb, xc)).2.1)), .long (jl ((fm_rho Dd w (xa, xb, xc)).2.2))]))] H := hP
        have hD : va_D A [(g, .inr (2, [.ref o, .ref wk, .ref st, .ref bs, .ref eu, .int (ji (Dd)), .int (ji (w))])), (f, .inr (1, [.long (jl ((fm_rho Dd w (xa, xb, xc)).1)), .long (jl ((fm_rho Dd w (xa, xb, xc)).2.1)), .long (jl ((fm_rho Dd w (xa, xb, xc)).2.2))]))] := hD
        refine lv_iinc (v := ji ((i) + (1))) (lv' := [(2, .int (ji ((i) + (1)))), (0, .ref g), (1, .ref f)]) hx hb d_G_reduce_34 hl (k := 2) rfl (ji_add _ _) (by decide) rfl (fun ls hl => ?_)
        refine lv_goto (tgt := 15) hx hb d_G_reduce_37 (by decide) ?_
        exact ih _ _ _ _ (by omega) ⟨i + 1, (fm_rho Dd w (xa, xb, xc)).1, (fm_rho Dd w (xa, xb, xc)).2.1, (fm_rho Dd w (xa, xb, xc)).2.2, k2, rfl, ⟨i1n, (fm_mg.step rfl).sy.tr i2, hdr, hbd, ⟨by omega, by omega⟩⟩, hP, hD, hS, lv_sub hl [1, 2, 0] rfl⟩
  · refine lv_aload_n hx hb d_G_reduce_7 rfl (lv_at hl 0 rfl) ?_
    refine lv_aload_n hx hb d_G_reduce_8 rfl (lv_at hl 1 rfl) ?_
    refine cl_v (rn_V (wc := [(g, .inr (2, [.ref o, .ref wk, .ref st, .ref bs, .ref eu, .int (ji (Dd)), .int (ji (w))])), (f, .inr (1, [.long (jl (a)), .long (jl (b)), .long (jl (c))]))]) (As := [.ref f]) (rest := []) X hK (c_G_reduceBelow l D cI cJ cF hg (by omega) hd (hpos (by omega)) ha2 ⟨by omega, by omega⟩ _) co_G_reduceBelow in_G ml_G_83 im_G_reduceBelow se_G_reduceBelow 1 rfl (by decide +kernel) ⟨Nat.le_of_ble_eq_true rfl, Nat.le_of_ble_eq_true rfl⟩ hP hD [0, 1] rfl (by decide) (q0 := 0) (ci := 2) rfl rfl rfl hl.1 rfl (Nat.le_of_ble_eq_true rfl) d_G_reduce_9 ⟨Nat.zero_le _, Nat.zero_le _⟩) hP hD hS hA [0, 1] rfl (by decide) (fun _ => rfl) (fun u_7 H locs hp hP hD hS => ?_)
    have hnmz : fm_nm Dd w u_7 (a, b, c) := hp
    have hP : va_P D classes [(g, .inr (2, [.ref o, .ref wk, .ref st, .ref bs, .ref eu, .int (ji (Dd)), .int (ji (w))])), (f, .inr (1, [.long (jl ((u_7).1)), .long (jl ((u_7).2.1)), .long (jl ((u_7).2.2))]))] H := hP
    have hD : va_D A [(g, .inr (2, [.ref o, .ref wk, .ref st, .ref bs, .ref eu, .int (ji (Dd)), .int (ji (w))])), (f, .inr (1, [.long (jl ((u_7).1)), .long (jl ((u_7).2.1)), .long (jl ((u_7).2.2))]))] := hD
    exact rt_v X hAe hS u_7 ⟨hnmz.1, hnmz.2.1, hnmz.2.2.1⟩ hP d_G_reduce_12
