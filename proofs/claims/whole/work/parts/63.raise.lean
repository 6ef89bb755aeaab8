set_option maxHeartbeats 4000000 in
set_option maxRecDepth 100000 in
theorem c_G_raise (l : Launch) (D : va_G) (cI cJ cF : ClassId) {g o wk st bs eu : Nat} {Dd w : Int} {f : Nat} {a b c o1 o2 o3 v1 v2 v3 j1 j2 j3 s0 n0 kx : Int} (hg : gD Dd w) (hs : fm_sn Dd s0 n0) (hone : fm_nm Dd w (o1, o2, o3) (fm_one s0 n0)) (hf : fm_v Dd (a, b, c)) (hfn : fm_nm Dd w (a, b, c) (a, b, c)) (hkx : jL kx) : ∀ sz, Met l y_G_raise (Cond.code y_G_raise b_G_raise 7 none :: wb) { frames := 5, cells := 0, slots := 0, locals := 134 } (va_Pc [.ref g, .ref f, .long (jl (kx))] (cpre D cI cJ cF [(g, .inr (2, [.ref o, .ref wk, .ref st, .ref bs, .ref eu, .int (ji (Dd)), .int (ji (w))])), (o, .inr (1, [.long (jl (o1)), .long (jl (o2)), .long (jl (o3))])), (bs, .inr (1, [.long (jl (v1)), .long (jl (v2)), .long (jl (v3))])), (eu, .inr (0, [.long (jl (j1)), .long (jl (j2)), .long (jl (j3))])), (f, .inr (1, [.long (jl (a)), .long (jl (b)), .long (jl (c))]))] sz)) (va_Qv (fun (u : fm_F × fm_F × Int × Int × Int) => fm_v Dd u.1 ∧ fm_red Dd w u.1 ∧ fm_pz Dd s0 n0 (a, b, c) kx u.1) (fun (u : fm_F × fm_F × Int × Int × Int) t => va_P D classes [(g, .inr (2, [.ref o, .ref wk, .ref st, .ref bs, .ref eu, .int (ji (Dd)), .int (ji (w))])), (o, .inr (1, [.long (jl (o1)), .long (jl (o2)), .long (jl (o3))])), (bs, .inr (1, [.long (jl ((u.2.1).1)), .long (jl ((u.2.1).2.1)), .long (jl ((u.2.1).2.2))])), (eu, .inr (0, [.long (jl (u.2.2.1)), .long (jl (u.2.2.2.1)), .long (jl (u.2.2.2.2))])), (f, .inr (1, [.long (jl ((u.1).1)), .long (jl ((u.1).2.1)), .long (jl ((u.1).2.2))]))] t.heap) (va_A [(g, .inr (2, [.ref o, .ref wk, .ref st, .ref bs, .ref eu, .int (ji (Dd)), .int (ji (w))])), (o, .inr (1, [.long (jl (o1)), .long (jl (o2)), .long (jl (o3))])), (bs, .inr (1, [.long (jl (v1)), .long (jl (v2)), .long (jl (v3))])), (eu, .inr (0, [.long (jl (j1)), .long (jl (j2)), .long (jl (j3))])), (f, .inr (1, [.long (jl (a)), .long (jl (b)), .long (jl (c))]))] sz)) 0 0 (va_A [(g, .inr (2, [.ref o, .ref wk, .ref st, .ref bs, .ref eu, .int (ji (Dd)), .int (ji (w))])), (o, .inr (1, [.long (jl (o1)), .long (jl (o2)), .long (jl (o3))])), (bs, .inr (1, [.long (jl (v1)), .long (jl (v2)), .long (jl (v3))])), (eu, .inr (0, [.long (jl (j1)), .long (jl (j2)), .long (jl (j3))])), (f, .inr (1, [.long (jl (a)), .long (jl (b)), .long (jl (c))]))] sz) := by
  refine c_of (Qc := fun sz => va_Qv (fun (u : fm_F × fm_F × Int × Int × Int) => fm_v Dd u.1 ∧ fm_red Dd w u.1 ∧ fm_pz Dd s0 n0 (a, b, c) kx u.1) (fun (u : fm_F × fm_F × Int × Int × Int) t => va_P D classes [(g, .inr (2, [.ref o, .ref wk, .ref st, .ref bs, .ref eu, .int (ji (Dd)), .int (ji (w))])), (o, .inr (1, [.long (jl (o1)), .long (jl (o2)), .long (jl (o3))])), (bs, .inr (1, [.long (jl ((u.2.1).1)), .long (jl ((u.2.1).2.1)), .long (jl ((u.2.1).2.2))])), (eu, .inr (0, [.long (jl (u.2.2.1)), .long (jl (u.2.2.2.1)), .long (jl (u.2.2.2.2))])), (f, .inr (1, [.long (jl ((u.1).1)), .long (jl ((u.1).2.1)), .long (jl ((u.1).2.2))]))] t.heap) (va_A [(g, .inr (2, [.ref o, .ref wk, .ref st, .ref bs, .ref eu, .int (ji (Dd)), .int (ji (w))])), (o, .inr (1, [.long (jl (o1)), .long (jl (o2)), .long (jl (o3))])), (bs, .inr (1, [.long (jl (v1)), .long (jl (v2)), .long (jl (v3))])), (eu, .inr (0, [.long (jl (j1)), .long (jl (j2)), .long (jl (j3))])), (f, .inr (1, [.long (jl (a)), .long (jl (b)), .long (jl (c))]))] sz)) (by decide +kernel) co_G_raise (Nat.le_of_ble_eq_true rfl) ?_
  intro pq eq s mq below meth cq A X hK hP hD hS hA hAe ls hl
  obtain ⟨hx, hb, hml, hown, hr, hlocks, hts⟩ := id X
  have hl : lv_has ls 7 [(0, .ref g), (1, .ref f), (2, .long (jl (kx)))] := hl
  have fb := red_b30 hg hf.1 hfn.2.1
  have hov := v_mg hg.1 (fm_one_v hs) hone.1 hone.2.1 hone.2.2.1
  refine lv_aload_n hx hb d_G_raise_0 rfl (lv_at hl 0 rfl) ?_
  refine va_get (D := D) (ci := 2) (v := .ref bs) (C := R_G) (T := T_G) (N := 7) hx hb hts uw_G hown hK.1 hP 0 rfl rfl 3 (by decide) (hts _ fl_G_24) (fun _ h9 => h9) rfl d_G_raise_1 ?_
  refine lv_aload_n hx hb d_G_raise_4 rfl (lv_at hl 1 rfl) ?_
  refine cl_v (rn_VN (wc := [(bs, .inr (1, [.long (jl (v1)), .long (jl (v2)), .long (jl (v3))])), (f, .inr (1, [.long (jl (a)), .long (jl (b)), .long (jl (c))]))]) (As := [.ref f]) (rest := []) X hK (c_F_copy l D cI cJ cF  _) co_F_copy in_F nm_G_117 im_F_copy se_F_copy 1 rfl (by decide +kernel) ⟨Nat.le_of_ble_eq_true rfl, Nat.le_of_ble_eq_true rfl⟩ hP hD [2, 4] rfl (by decide) (q0 := 0) (ci := 1) rfl rfl rfl hl.1 rfl (Nat.le_of_ble_eq_true rfl) d_G_raise_5 ⟨Nat.zero_le _, Nat.zero_le _⟩) hP hD hS hA [2, 4] rfl (by decide) (fun _ => rfl) (fun u_1 H locs hp hP hD hS => ?_)
  have hP : va_P D classes [(g, .inr (2, [.ref o, .ref wk, .ref st, .ref bs, .ref eu, .int (ji (Dd)), .int (ji (w))])), (o, .inr (1, [.long (jl (o1)), .long (jl (o2)), .long (jl (o3))])), (bs, .inr (1, [.long (jl (a)), .long (jl (b)), .long (jl (c))])), (eu, .inr (0, [.long (jl (j1)), .long (jl (j2)), .long (jl (j3))])), (f, .inr (1, [.long (jl (a)), .long (jl (b)), .long (jl (c))]))] H := hP
  have hD : va_D A [(g, .inr (2, [.ref o, .ref wk, .ref st, .ref bs, .ref eu, .int (ji (Dd)), .int (ji (w))])), (o, .inr (1, [.long (jl (o1)), .long (jl (o2)), .long (jl (o3))])), (bs, .inr (1, [.long (jl (a)), .long (jl (b)), .long (jl (c))])), (eu, .inr (0, [.long (jl (j1)), .long (jl (j2)), .long (jl (j3))])), (f, .inr (1, [.long (jl (a)), .long (jl (b)), .long (jl (c))]))] := hD
  refine lv_lload_n hx hb d_G_raise_8 rfl (lv_at hl 2 rfl) ?_
  refine w_lconst (v := 0) hx hb rfl d_G_raise_9 ?_
  refine wl_cge hx hb hkx ⟨by decide, by decide⟩ d_G_raise_10 d_G_raise_11 (tgt := 22) (by decide) (fun h_2 => ?_) (fun h_2 => ?_)
  · obtain ⟨F0, hF0⟩ : ∃ t : fm_F, t = (a, b, c) := ⟨_, rfl⟩
    have hFv : fm_v Dd F0 := by rw [hF0]; exact hf
    obtain ⟨R0, hR0⟩ : ∃ t : Nat, t = kx.toNat := ⟨_, rfl⟩
    have hR1 : R0 < 2 ^ 64 := by have := hkx.2; omega
    have hRk : jl kx = jl (R0 : Int) := by rw [hR0]; congr 1; omega
    have hbs : fm_v Dd (a, b, c) ∧ fm_red Dd w (a, b, c) ∧ fm_pw Dd s0 n0 F0 1 (a, b, c) := ⟨hf, hfn.2.1, by rw [hF0]; exact fm_pw.one hs hf⟩
    have hgoal : ∀ z : fm_F, fm_pw Dd s0 n0 F0 R0 z → fm_pz Dd s0 n0 (a, b, c) kx z := fun z hz => ⟨fun _ => by rw [hF0, hR0] at hz; exact hz, fun q => absurd q (by omega)⟩
    refine lv_aload_n hx hb d_G_raise_22 rfl (lv_at hl 1 rfl) ?_
    refine lv_aload_n hx hb d_G_raise_23 rfl (lv_at hl 0 rfl) ?_
    refine va_get (D := D) (ci := 2) (v := .ref o) (C := R_G) (T := T_G) (N := 7) hx hb hts uw_G hown hK.1 hP 0 rfl rfl 0 (by decide) (hts _ fl_G_12) (fun _ h9 => h9) rfl d_G_raise_24 ?_
    refine cl_v (rn_VN (wc := [(f, .inr (1, [.long (jl (a)), .long (jl (b)), .long (jl (c))])), (o, .inr (1, [.long (jl (o1)), .long (jl (o2)), .long (jl (o3))]))]) (As := [.ref o]) (rest := []) X hK (c_F_copy l D cI cJ cF  _) co_F_copy in_F nm_G_117 im_F_copy se_F_copy 1 rfl (by decide +kernel) ⟨Nat.le_of_ble_eq_true rfl, Nat.le_of_ble_eq_true rfl⟩ hP hD [4, 1] rfl (by decide) (q0 := 0) (ci := 1) rfl rfl rfl hl.1 rfl (Nat.le_of_ble_eq_true rfl) d_G_raise_27 ⟨Nat.zero_le _, Nat.zero_le _⟩) hP hD hS hA [4, 1] rfl (by decide) (fun _ => rfl) (fun u_3 H locs hp hP hD hS => ?_)
    have hP : va_P D classes [(g, .inr (2, [.ref o, .ref wk, .ref st, .ref bs, .ref eu, .int (ji (Dd)), .int (ji (w))])), (o, .inr (1, [.long (jl (o1)), .long (jl (o2)), .long (jl (o3))])), (bs, .inr (1, [.long (jl (a)), .long (jl (b)), .long (jl (c))])), (eu, .inr (0, [.long (jl (j1)), .long (jl (j2)), .long (jl (j3))])), (f, .inr (1, [.long (jl (o1)), .long (jl (o2)), .long (jl (o3))]))] H := hP
    have hD : va_D A [(g, .inr (2, [.ref o, .ref wk, .ref st, .ref bs, .ref eu, .int (ji (Dd)), .int (ji (w))])), (o, .inr (1, [.long (jl (o1)), .long (jl (o2)), .long (jl (o3))])), (bs, .inr (1, [.long (jl (a)), .long (jl (b)), .long (jl (c))])), (eu, .inr (0, [.long (jl (j1)), .long (jl (j2)), .long (jl (j3))])), (f, .inr (1, [.long (jl (o1)), .long (jl (o2)), .long (jl (o3))]))] := hD
    refine lv_lload_n hx hb d_G_raise_30 rfl (lv_at hl 2 rfl) ?_
    refine w_lconst (v := 0) hx hb rfl d_G_raise_31 ?_
    refine wl_cge hx hb hkx ⟨by decide, by decide⟩ d_G_raise_32 d_G_raise_33 (tgt := 41) (by decide) (fun h_4 => ?_) (fun h_4 => ?_)
    · refine lv_lload_n hx hb d_G_raise_41 rfl (lv_at hl 2 rfl) ?_
      refine lv_topl (fun yy hyy => ?_)
      obtain rfl : yy = jl (R0 : Int) := hyy.trans hRk
      refine lv_lstore (lv' := [(4, .long (jl (R0))), (0, .ref g), (1, .ref f), (2, .long (jl (kx)))]) hx hb d_G_raise_42 hl (by decide) rfl (fun ls hl => ?_)
      refine w_iconst hx hb d_G_raise_44 ?_
      refine lv_istore (lv' := [(6, .int (ji (0))), (4, .long (jl (R0))), (0, .ref g), (1, .ref f), (2, .long (jl (kx)))]) hx hb d_G_raise_45 hl (by decide) rfl (fun ls hl => ?_)
      refine lpn (I := fun n H locs ls => ∃ (i : Nat) (RR : Nat) (k1 : Nat) (k2 : Nat) (c1 : Int) (c2 : Int) (c3 : Int) (b1 : Int) (b2 : Int) (b3 : Int) (e1 : Int) (e2 : Int) (e3 : Int), 64 - i = n ∧ (i ≤ 64 ∧ RR < 2 ^ (64 - i) ∧ k1 + k2 * RR = R0 ∧ fm_v Dd (c1, c2, c3) ∧ fm_red Dd w (c1, c2, c3) ∧ fm_pw Dd s0 n0 F0 k1 (c1, c2, c3) ∧ fm_v Dd (b1, b2, b3) ∧ fm_red Dd w (b1, b2, b3) ∧ fm_pw Dd s0 n0 F0 k2 (b1, b2, b3) ∧ True) ∧ va_P D classes [(g, .inr (2, [.ref o, .ref wk, .ref st, .ref bs, .ref eu, .int (ji (Dd)), .int (ji (w))])), (o, .inr (1, [.long (jl (o1)), .long (jl (o2)), .long (jl (o3))])), (bs, .inr (1, [.long (jl (b1)), .long (jl (b2)), .long (jl (b3))])), (eu, .inr (0, [.long (jl (e1)), .long (jl (e2)), .long (jl (e3))])), (f, .inr (1, [.long (jl (c1)), .long (jl (c2)), .long (jl (c3))]))] H ∧ va_D A [(g, .inr (2, [.ref o, .ref wk, .ref st, .ref bs, .ref eu, .int (ji (Dd)), .int (ji (w))])), (o, .inr (1, [.long (jl (o1)), .long (jl (o2)), .long (jl (o3))])), (bs, .inr (1, [.long (jl (b1)), .long (jl (b2)), .long (jl (b3))])), (eu, .inr (0, [.long (jl (e1)), .long (jl (e2)), .long (jl (e3))])), (f, .inr (1, [.long (jl (c1)), .long (jl (c2)), .long (jl (c3))]))] ∧ va_S A s.heap H locs ∧ lv_has ls 7 [(0, .ref g), (1, .ref f), (2, .long (jl (kx))), (4, .long (jl (RR))), (6, .int (ji (i)))]) ?_ _ _ _ _ ⟨0, R0, 0, 1, o1, o2, o3, a, b, c, j1, j2, j3, rfl, ⟨by omega, by simpa using hR1, by omega, hov, hone.2.1, (fm_eq_mg hg.1 hs hone.1 (fm_one_disc hs) hone.2.2.1).sy, hbs.1, hbs.2.1, hbs.2.2, trivial⟩, hP, hD, hS, lv_sub hl [2, 3, 4, 1, 0] rfl⟩
      rintro n H locs ls ⟨i, RR, k1, k2, c1, c2, c3, b1, b2, b3, e1, e2, e3, rfl, hi, hP, hD, hS, hl⟩ ih
      refine lv_iload hx hb d_G_raise_47 (lv_at hl 4 rfl) ?_
      refine w_bipush hx hb rfl d_G_raise_49 ?_
      refine wi_cge hx hb ⟨by omega, by omega⟩ ⟨by decide, by decide⟩ d_G_raise_51 (tgt := 103) (by decide) (fun h_5 => ?_) (fun h_5 => ?_)
      · obtain ⟨i1, i2, i3, i4, i5, i6, i7, i8, i9, i10⟩ := hi
        have hR00 : RR = 0 := by
          have e : 64 - i = 0 := by omega
          rw [e] at i2
          have : (2 : Nat) ^ 0 = 1 := rfl
          omega
        have hfin := hgoal _ (show fm_pw Dd s0 n0 F0 R0 (c1, c2, c3) by rw [← i3, hR00, Nat.mul_zero, Nat.add_zero]; exact i6)
        exact rt_v X hAe hS ((c1, c2, c3), (b1, b2, b3), e1, e2, e3) ⟨i4, i5, hfin⟩ hP d_G_raise_103
      · obtain ⟨i1, i2, i3, i4, i5, i6, i7, i8, i9, i10⟩ := hi
        have hRR : RR < 2 ^ 64 := Nat.lt_of_lt_of_le i2 (Nat.pow_le_pow_right (by decide) (by omega))
        refine lv_lload hx hb d_G_raise_54 (lv_at hl 3 rfl) ?_
        refine w_lconst (v := 0) hx hb rfl d_G_raise_56 ?_
        refine wl_ceqU hx hb (jl_u0 hRR) d_G_raise_57 d_G_raise_58 (tgt := 103) (by decide) (fun hz => ?_) (fun hz => ?_)
        · have hfin := hgoal _ (show fm_pw Dd s0 n0 F0 R0 (c1, c2, c3) by rw [← i3, hz, Nat.mul_zero, Nat.add_zero]; exact i6)
          exact rt_v X hAe hS ((c1, c2, c3), (b1, b2, b3), e1, e2, e3) ⟨i4, i5, hfin⟩ hP d_G_raise_103
        · have hRp : 0 < RR := Nat.pos_of_ne_zero hz
          refine lv_lload hx hb d_G_raise_61 (lv_at hl 3 rfl) ?_
          refine w_lconst (v := 1) hx hb rfl d_G_raise_63 ?_
          refine lv_land hx hb d_G_raise_64 ?_
          rw [jl_and1 hRR]
          refine w_lconst (v := 1) hx hb rfl d_G_raise_65 ?_
          refine wl_cne hx hb ⟨by omega, by omega⟩ ⟨by decide, by decide⟩ d_G_raise_66 d_G_raise_67 (tgt := 79) (by decide) (fun h_6 => ?_) (fun h_6 => ?_)
          · refine lv_aload_n hx hb d_G_raise_79 rfl (lv_at hl 0 rfl) ?_
            refine lv_aload_n hx hb d_G_raise_80 rfl (lv_at hl 0 rfl) ?_
            refine va_get (D := D) (ci := 2) (v := .ref bs) (C := R_G) (T := T_G) (N := 7) hx hb hts uw_G hown hK.1 hP 0 rfl rfl 3 (by decide) (hts _ fl_G_24) (fun _ h9 => h9) rfl d_G_raise_81 ?_
            refine lv_aload_n hx hb d_G_raise_84 rfl (lv_at hl 0 rfl) ?_
            refine va_get (D := D) (ci := 2) (v := .ref bs) (C := R_G) (T := T_G) (N := 7) hx hb hts uw_G hown hK.1 hP 0 rfl rfl 3 (by decide) (hts _ fl_G_24) (fun _ h9 => h9) rfl d_G_raise_85 ?_
            refine cl_v (rn_V (wc := [(g, .inr (2, [.ref o, .ref wk, .ref st, .ref bs, .ref eu, .int (ji (Dd)), .int (ji (w))])), (eu, .inr (0, [.long (jl (e1)), .long (jl (e2)), .long (jl (e3))])), (bs, .inr (1, [.long (jl (b1)), .long (jl (b2)), .long (jl (b3))]))]) (As := [.ref bs, .ref bs]) (rest := []) X hK (c_G_multiply1 l D cI cJ cF hg hs i7 i8 _) co_G_multiply in_G ml_G_135 im_G_multiply se_G_multiply 2 rfl (by decide +kernel) ⟨Nat.le_of_ble_eq_true rfl, Nat.le_of_ble_eq_true rfl⟩ hP hD [0, 3, 2] rfl (by decide) (q0 := 0) (ci := 2) rfl rfl rfl hl.1 rfl (Nat.le_of_ble_eq_true rfl) d_G_raise_88 ⟨Nat.zero_le _, Nat.zero_le _⟩) hP hD hS hA [0, 3, 2] rfl (by decide) (fun _ => rfl) (fun u_7 H locs hp hP hD hS => ?_)
            obtain ⟨mv2, mr2, mc2⟩ : fm_v Dd (u_7).1 ∧ fm_red Dd w (u_7).1 ∧ fm_cp s0 n0 (b1, b2, b3) (b1, b2, b3) (u_7).1 := hp
            have mp2 := fm_pw.add hg.1 hs _ _ i7 i9 i9 mc2
            have hP : va_P D classes [(g, .inr (2, [.ref o, .ref wk, .ref st, .ref bs, .ref eu, .int (ji (Dd)), .int (ji (w))])), (o, .inr (1, [.long (jl (o1)), .long (jl (o2)), .long (jl (o3))])), (bs, .inr (1, [.long (jl ((u_7).1.1)), .long (jl ((u_7).1.2.1)), .long (jl ((u_7).1.2.2))])), (eu, .inr (0, [.long (jl ((u_7).2.1)), .long (jl ((u_7).2.2.1)), .long (jl ((u_7).2.2.2))])), (f, .inr (1, [.long (jl (c1)), .long (jl (c2)), .long (jl (c3))]))] H := hP
            have hD : va_D A [(g, .inr (2, [.ref o, .ref wk, .ref st, .ref bs, .ref eu, .int (ji (Dd)), .int (ji (w))])), (o, .inr (1, [.long (jl (o1)), .long (jl (o2)), .long (jl (o3))])), (bs, .inr (1, [.long (jl ((u_7).1.1)), .long (jl ((u_7).1.2.1)), .long (jl ((u_7).1.2.2))])), (eu, .inr (0, [.long (jl ((u_7).2.1)), .long (jl ((u_7).2.2.1)), .long (jl ((u_7).2.2.2))])), (f, .inr (1, [.long (jl (c1)), .long (jl (c2)), .long (jl (c3))]))] := hD
            refine lv_lload hx hb d_G_raise_91 (lv_at hl 3 rfl) ?_
            refine w_iconst hx hb d_G_raise_93 ?_
            refine lv_lushr (v := jl ((RR / 2 : Nat) : Int)) hx hb d_G_raise_94 (jl_ushr1 hRR) ?_
            refine lv_lstore (lv' := [(4, .long (jl ((RR / 2 : Nat)))), (0, .ref g), (1, .ref f), (2, .long (jl (kx))), (6, .int (ji (i)))]) hx hb d_G_raise_95 hl (by decide) rfl (fun ls hl => ?_)
            refine lv_iinc (v := ji ((i) + (1))) (lv' := [(6, .int (ji ((i) + (1)))), (4, .long (jl ((RR / 2 : Nat)))), (0, .ref g), (1, .ref f), (2, .long (jl (kx)))]) hx hb d_G_raise_97 hl (k := 4) rfl (ji_add _ _) (by decide) rfl (fun ls hl => ?_)
            refine lv_goto (tgt := 47) hx hb d_G_raise_100 (by decide) ?_
            have i2n : RR / 2 < 2 ^ (64 - (i + 1)) := by
              have e : 64 - i = (64 - (i + 1)) + 1 := by omega
              rw [e, Nat.pow_succ] at i2
              omega
            exact ih _ _ _ _ (by omega) ⟨i + 1, RR / 2, k1, k2 + k2, c1, c2, c3, (u_7).1.1, (u_7).1.2.1, (u_7).1.2.2, (u_7).2.1, (u_7).2.2.1, (u_7).2.2.2, rfl, ⟨by omega, i2n, ((pw_ar i3).1 (by omega)), i4, i5, i6, mv2, mr2, mp2, trivial⟩, hP, hD, hS, lv_sub hl [2, 3, 4, 1, 0] rfl⟩
          · refine lv_aload_n hx hb d_G_raise_70 rfl (lv_at hl 0 rfl) ?_
            refine lv_aload_n hx hb d_G_raise_71 rfl (lv_at hl 1 rfl) ?_
            refine lv_aload_n hx hb d_G_raise_72 rfl (lv_at hl 0 rfl) ?_
            refine va_get (D := D) (ci := 2) (v := .ref bs) (C := R_G) (T := T_G) (N := 7) hx hb hts uw_G hown hK.1 hP 0 rfl rfl 3 (by decide) (hts _ fl_G_24) (fun _ h9 => h9) rfl d_G_raise_73 ?_
            refine cl_v (rn_V (wc := [(g, .inr (2, [.ref o, .ref wk, .ref st, .ref bs, .ref eu, .int (ji (Dd)), .int (ji (w))])), (eu, .inr (0, [.long (jl (e1)), .long (jl (e2)), .long (jl (e3))])), (f, .inr (1, [.long (jl (c1)), .long (jl (c2)), .long (jl (c3))])), (bs, .inr (1, [.long (jl (b1)), .long (jl (b2)), .long (jl (b3))]))]) (As := [.ref f, .ref bs]) (rest := []) X hK (c_G_multiply l D cI cJ cF hg hs i4 i5 i7 i8 _) co_G_multiply in_G ml_G_135 im_G_multiply se_G_multiply 2 rfl (by decide +kernel) ⟨Nat.le_of_ble_eq_true rfl, Nat.le_of_ble_eq_true rfl⟩ hP hD [0, 3, 4, 2] rfl (by decide) (q0 := 0) (ci := 2) rfl rfl rfl hl.1 rfl (Nat.le_of_ble_eq_true rfl) d_G_raise_76 ⟨Nat.zero_le _, Nat.zero_le _⟩) hP hD hS hA [0, 3, 4, 2] rfl (by decide) (fun _ => rfl) (fun u_8 H locs hp hP hD hS => ?_)
            obtain ⟨mv1, mr1, mc1⟩ : fm_v Dd (u_8).1 ∧ fm_red Dd w (u_8).1 ∧ fm_cp s0 n0 (c1, c2, c3) (b1, b2, b3) (u_8).1 := hp
            have mp1 := fm_pw.add hg.1 hs _ _ i4 i6 i9 mc1
            have hP : va_P D classes [(g, .inr (2, [.ref o, .ref wk, .ref st, .ref bs, .ref eu, .int (ji (Dd)), .int (ji (w))])), (o, .inr (1, [.long (jl (o1)), .long (jl (o2)), .long (jl (o3))])), (bs, .inr (1, [.long (jl (b1)), .long (jl (b2)), .long (jl (b3))])), (eu, .inr (0, [.long (jl ((u_8).2.1)), .long (jl ((u_8).2.2.1)), .long (jl ((u_8).2.2.2))])), (f, .inr (1, [.long (jl ((u_8).1.1)), .long (jl ((u_8).1.2.1)), .long (jl ((u_8).1.2.2))]))] H := hP
            have hD : va_D A [(g, .inr (2, [.ref o, .ref wk, .ref st, .ref bs, .ref eu, .int (ji (Dd)), .int (ji (w))])), (o, .inr (1, [.long (jl (o1)), .long (jl (o2)), .long (jl (o3))])), (bs, .inr (1, [.long (jl (b1)), .long (jl (b2)), .long (jl (b3))])), (eu, .inr (0, [.long (jl ((u_8).2.1)), .long (jl ((u_8).2.2.1)), .long (jl ((u_8).2.2.2))])), (f, .inr (1, [.long (jl ((u_8).1.1)), .long (jl ((u_8).1.2.1)), .long (jl ((u_8).1.2.2))]))] := hD
            refine lv_aload_n hx hb d_G_raise_79 rfl (lv_at hl 0 rfl) ?_
            refine lv_aload_n hx hb d_G_raise_80 rfl (lv_at hl 0 rfl) ?_
            refine va_get (D := D) (ci := 2) (v := .ref bs) (C := R_G) (T := T_G) (N := 7) hx hb hts uw_G hown hK.1 hP 0 rfl rfl 3 (by decide) (hts _ fl_G_24) (fun _ h9 => h9) rfl d_G_raise_81 ?_
            refine lv_aload_n hx hb d_G_raise_84 rfl (lv_at hl 0 rfl) ?_
            refine va_get (D := D) (ci := 2) (v := .ref bs) (C := R_G) (T := T_G) (N := 7) hx hb hts uw_G hown hK.1 hP 0 rfl rfl 3 (by decide) (hts _ fl_G_24) (fun _ h9 => h9) rfl d_G_raise_85 ?_
            refine cl_v (rn_V (wc := [(g, .inr (2, [.ref o, .ref wk, .ref st, .ref bs, .ref eu, .int (ji (Dd)), .int (ji (w))])), (eu, .inr (0, [.long (jl ((u_8).2.1)), .long (jl ((u_8).2.2.1)), .long (jl ((u_8).2.2.2))])), (bs, .inr (1, [.long (jl (b1)), .long (jl (b2)), .long (jl (b3))]))]) (As := [.ref bs, .ref bs]) (rest := []) X hK (c_G_multiply1 l D cI cJ cF hg hs i7 i8 _) co_G_multiply in_G ml_G_135 im_G_multiply se_G_multiply 2 rfl (by decide +kernel) ⟨Nat.le_of_ble_eq_true rfl, Nat.le_of_ble_eq_true rfl⟩ hP hD [0, 3, 2] rfl (by decide) (q0 := 0) (ci := 2) rfl rfl rfl hl.1 rfl (Nat.le_of_ble_eq_true rfl) d_G_raise_88 ⟨Nat.zero_le _, Nat.zero_le _⟩) hP hD hS hA [0, 3, 2] rfl (by decide) (fun _ => rfl) (fun u_9 H locs hp hP hD hS => ?_)
            obtain ⟨mv2, mr2, mc2⟩ : fm_v Dd (u_9).1 ∧ fm_red Dd w (u_9).1 ∧ fm_cp s0 n0 (b1, b2, b3) (b1, b2, b3) (u_9).1 := hp
            have mp2 := fm_pw.add hg.1 hs _ _ i7 i9 i9 mc2
            have hP : va_P D classes [(g, .inr (2, [.ref o, .ref wk, .ref st, .ref bs, .ref eu, .int (ji (Dd)), .int (ji (w))])), (o, .inr (1, [.long (jl (o1)), .long (jl (o2)), .long (jl (o3))])), (bs, .inr (1, [.long (jl ((u_9).1.1)), .long (jl ((u_9).1.2.1)), .long (jl ((u_9).1.2.2))])), (eu, .inr (0, [.long (jl ((u_9).2.1)), .long (jl ((u_9).2.2.1)), .long (jl ((u_9).2.2.2))])), (f, .inr (1, [.long (jl ((u_8).1.1)), .long (jl ((u_8).1.2.1)), .long (jl ((u_8).1.2.2))]))] H := hP
            have hD : va_D A [(g, .inr (2, [.ref o, .ref wk, .ref st, .ref bs, .ref eu, .int (ji (Dd)), .int (ji (w))])), (o, .inr (1, [.long (jl (o1)), .long (jl (o2)), .long (jl (o3))])), (bs, .inr (1, [.long (jl ((u_9).1.1)), .long (jl ((u_9).1.2.1)), .long (jl ((u_9).1.2.2))])), (eu, .inr (0, [.long (jl ((u_9).2.1)), .long (jl ((u_9).2.2.1)), .long (jl ((u_9).2.2.2))])), (f, .inr (1, [.long (jl ((u_8).1.1)), .long (jl ((u_8).1.2.1)), .long (jl ((u_8).1.2.2))]))] := hD
            refine lv_lload hx hb d_G_raise_91 (lv_at hl 3 rfl) ?_
            refine w_iconst hx hb d_G_raise_93 ?_
            refine lv_lushr (v := jl ((RR / 2 : Nat) : Int)) hx hb d_G_raise_94 (jl_ushr1 hRR) ?_
            refine lv_lstore (lv' := [(4, .long (jl ((RR / 2 : Nat)))), (0, .ref g), (1, .ref f), (2, .long (jl (kx))), (6, .int (ji (i)))]) hx hb d_G_raise_95 hl (by decide) rfl (fun ls hl => ?_)
            refine lv_iinc (v := ji ((i) + (1))) (lv' := [(6, .int (ji ((i) + (1)))), (4, .long (jl ((RR / 2 : Nat)))), (0, .ref g), (1, .ref f), (2, .long (jl (kx)))]) hx hb d_G_raise_97 hl (k := 4) rfl (ji_add _ _) (by decide) rfl (fun ls hl => ?_)
            refine lv_goto (tgt := 47) hx hb d_G_raise_100 (by decide) ?_
            have i2n : RR / 2 < 2 ^ (64 - (i + 1)) := by
              have e : 64 - i = (64 - (i + 1)) + 1 := by omega
              rw [e, Nat.pow_succ] at i2
              omega
            exact ih _ _ _ _ (by omega) ⟨i + 1, RR / 2, k1 + k2, k2 + k2, (u_8).1.1, (u_8).1.2.1, (u_8).1.2.2, (u_9).1.1, (u_9).1.2.1, (u_9).1.2.2, (u_9).2.1, (u_9).2.2.1, (u_9).2.2.2, rfl, ⟨by omega, i2n, ((pw_ar i3).2 (by omega)), mv1, mr1, mp1, mv2, mr2, mp2, trivial⟩, hP, hD, hS, lv_sub hl [2, 3, 4, 1, 0] rfl⟩
    · omega
  · refine lv_aload_n hx hb d_G_raise_14 rfl (lv_at hl 0 rfl) ?_
    refine lv_aload_n hx hb d_G_raise_15 rfl (lv_at hl 0 rfl) ?_
    refine va_get (D := D) (ci := 2) (v := .ref bs) (C := R_G) (T := T_G) (N := 7) hx hb hts uw_G hown hK.1 hP 0 rfl rfl 3 (by decide) (hts _ fl_G_24) (fun _ h9 => h9) rfl d_G_raise_16 ?_
    refine cl_v (rn_V (wc := [(g, .inr (2, [.ref o, .ref wk, .ref st, .ref bs, .ref eu, .int (ji (Dd)), .int (ji (w))])), (bs, .inr (1, [.long (jl (a)), .long (jl (b)), .long (jl (c))]))]) (As := [.ref bs]) (rest := []) X hK (c_G_turn l D cI cJ cF hg hf.1 hf.2.2 fb.1 fb.2.1 fb.2.2 _) co_G_turn in_G ml_G_132 im_G_turn se_G_turn 1 rfl (by decide +kernel) ⟨Nat.le_of_ble_eq_true rfl, Nat.le_of_ble_eq_true rfl⟩ hP hD [0, 2] rfl (by decide) (q0 := 0) (ci := 2) rfl rfl rfl hl.1 rfl (Nat.le_of_ble_eq_true rfl) d_G_raise_19 ⟨Nat.zero_le _, Nat.zero_le _⟩) hP hD hS hA [0, 2] rfl (by decide) (fun _ => rfl) (fun u_10 H locs hp hP hD hS => ?_)
    obtain ⟨td1, td2, td3⟩ : fm_disc Dd u_10 ∧ fm_red Dd w u_10 ∧ fm_mg Dd w u_10 (a, -b, c) := hp
    have tv := v_mg hg.1 (fm_inv_v hf) td1 td2 td3
    obtain ⟨F0, hF0⟩ : ∃ t : fm_F, t = fm_inv (a, b, c) := ⟨_, rfl⟩
    have hFv : fm_v Dd F0 := by rw [hF0]; exact fm_inv_v hf
    obtain ⟨R0, hR0⟩ : ∃ t : Nat, t = (-kx).toNat := ⟨_, rfl⟩
    have hR1 : R0 < 2 ^ 64 := by have := hkx.1; omega
    have hRk : jl (-kx) = jl (R0 : Int) := by rw [hR0]; congr 1; omega
    have hbs : fm_v Dd u_10 ∧ fm_red Dd w u_10 ∧ fm_pw Dd s0 n0 F0 1 u_10 := ⟨tv, td2, by rw [hF0]; exact (fm_pw.one hs (fm_inv_v hf)).r (fm_eq_mg hg.1 hs (fm_inv_disc hf.1) td1 td3.sy)⟩
    have hgoal : ∀ z : fm_F, fm_pw Dd s0 n0 F0 R0 z → fm_pz Dd s0 n0 (a, b, c) kx z := fun z hz => ⟨fun q => absurd q (by omega), fun _ => by rw [hF0, hR0] at hz; exact hz⟩
    have hP : va_P D classes [(g, .inr (2, [.ref o, .ref wk, .ref st, .ref bs, .ref eu, .int (ji (Dd)), .int (ji (w))])), (o, .inr (1, [.long (jl (o1)), .long (jl (o2)), .long (jl (o3))])), (bs, .inr (1, [.long (jl ((u_10).1)), .long (jl ((u_10).2.1)), .long (jl ((u_10).2.2))])), (eu, .inr (0, [.long (jl (j1)), .long (jl (j2)), .long (jl (j3))])), (f, .inr (1, [.long (jl (a)), .long (jl (b)), .long (jl (c))]))] H := hP
    have hD : va_D A [(g, .inr (2, [.ref o, .ref wk, .ref st, .ref bs, .ref eu, .int (ji (Dd)), .int (ji (w))])), (o, .inr (1, [.long (jl (o1)), .long (jl (o2)), .long (jl (o3))])), (bs, .inr (1, [.long (jl ((u_10).1)), .long (jl ((u_10).2.1)), .long (jl ((u_10).2.2))])), (eu, .inr (0, [.long (jl (j1)), .long (jl (j2)), .long (jl (j3))])), (f, .inr (1, [.long (jl (a)), .long (jl (b)), .long (jl (c))]))] := hD
    refine lv_aload_n hx hb d_G_raise_22 rfl (lv_at hl 1 rfl) ?_
    refine lv_aload_n hx hb d_G_raise_23 rfl (lv_at hl 0 rfl) ?_
    refine va_get (D := D) (ci := 2) (v := .ref o) (C := R_G) (T := T_G) (N := 7) hx hb hts uw_G hown hK.1 hP 0 rfl rfl 0 (by decide) (hts _ fl_G_12) (fun _ h9 => h9) rfl d_G_raise_24 ?_
    refine cl_v (rn_VN (wc := [(f, .inr (1, [.long (jl (a)), .long (jl (b)), .long (jl (c))])), (o, .inr (1, [.long (jl (o1)), .long (jl (o2)), .long (jl (o3))]))]) (As := [.ref o]) (rest := []) X hK (c_F_copy l D cI cJ cF  _) co_F_copy in_F nm_G_117 im_F_copy se_F_copy 1 rfl (by decide +kernel) ⟨Nat.le_of_ble_eq_true rfl, Nat.le_of_ble_eq_true rfl⟩ hP hD [4, 1] rfl (by decide) (q0 := 0) (ci := 1) rfl rfl rfl hl.1 rfl (Nat.le_of_ble_eq_true rfl) d_G_raise_27 ⟨Nat.zero_le _, Nat.zero_le _⟩) hP hD hS hA [4, 1] rfl (by decide) (fun _ => rfl) (fun u_11 H locs hp hP hD hS => ?_)
    have hP : va_P D classes [(g, .inr (2, [.ref o, .ref wk, .ref st, .ref bs, .ref eu, .int (ji (Dd)), .int (ji (w))])), (o, .inr (1, [.long (jl (o1)), .long (jl (o2)), .long (jl (o3))])), (bs, .inr (1, [.long (jl ((u_10).1)), .long (jl ((u_10).2.1)), .long (jl ((u_10).2.2))])), (eu, .inr (0, [.long (jl (j1)), .long (jl (j2)), .long (jl (j3))])), (f, .inr (1, [.long (jl (o1)), .long (jl (o2)), .long (jl (o3))]))] H := hP
    have hD : va_D A [(g, .inr (2, [.ref o, .ref wk, .ref st, .ref bs, .ref eu, .int (ji (Dd)), .int (ji (w))])), (o, .inr (1, [.long (jl (o1)), .long (jl (o2)), .long (jl (o3))])), (bs, .inr (1, [.long (jl ((u_10).1)), .long (jl ((u_10).2.1)), .long (jl ((u_10).2.2))])), (eu, .inr (0, [.long (jl (j1)), .long (jl (j2)), .long (jl (j3))])), (f, .inr (1, [.long (jl (o1)), .long (jl (o2)), .long (jl (o3))]))] := hD
    refine lv_lload_n hx hb d_G_raise_30 rfl (lv_at hl 2 rfl) ?_
    refine w_lconst (v := 0) hx hb rfl d_G_raise_31 ?_
    refine wl_cge hx hb hkx ⟨by decide, by decide⟩ d_G_raise_32 d_G_raise_33 (tgt := 41) (by decide) (fun h_12 => ?_) (fun h_12 => ?_)
    · omega
    · refine lv_lload_n hx hb d_G_raise_36 rfl (lv_at hl 2 rfl) ?_
      refine wl_neg hx hb d_G_raise_37 ?_
      refine lv_goto (tgt := 42) hx hb d_G_raise_38 (by decide) ?_
      refine lv_topl (fun yy hyy => ?_)
      obtain rfl : yy = jl (R0 : Int) := hyy.trans hRk
      refine lv_lstore (lv' := [(4, .long (jl (R0))), (0, .ref g), (1, .ref f), (2, .long (jl (kx)))]) hx hb d_G_raise_42 hl (by decide) rfl (fun ls hl => ?_)
      refine w_iconst hx hb d_G_raise_44 ?_
      refine lv_istore (lv' := [(6, .int (ji (0))), (4, .long (jl (R0))), (0, .ref g), (1, .ref f), (2, .long (jl (kx)))]) hx hb d_G_raise_45 hl (by decide) rfl (fun ls hl => ?_)
      refine lpn (I := fun n H locs ls => ∃ (i : Nat) (RR : Nat) (k1 : Nat) (k2 : Nat) (c1 : Int) (c2 : Int) (c3 : Int) (b1 : Int) (b2 : Int) (b3 : Int) (e1 : Int) (e2 : Int) (e3 : Int), 64 - i = n ∧ (i ≤ 64 ∧ RR < 2 ^ (64 - i) ∧ k1 + k2 * RR = R0 ∧ fm_v Dd (c1, c2, c3) ∧ fm_red Dd w (c1, c2, c3) ∧ fm_pw Dd s0 n0 F0 k1 (c1, c2, c3) ∧ fm_v Dd (b1, b2, b3) ∧ fm_red Dd w (b1, b2, b3) ∧ fm_pw Dd s0 n0 F0 k2 (b1, b2, b3) ∧ True) ∧ va_P D classes [(g, .inr (2, [.ref o, .ref wk, .ref st, .ref bs, .ref eu, .int (ji (Dd)), .int (ji (w))])), (o, .inr (1, [.long (jl (o1)), .long (jl (o2)), .long (jl (o3))])), (bs, .inr (1, [.long (jl (b1)), .long (jl (b2)), .long (jl (b3))])), (eu, .inr (0, [.long (jl (e1)), .long (jl (e2)), .long (jl (e3))])), (f, .inr (1, [.long (jl (c1)), .long (jl (c2)), .long (jl (c3))]))] H ∧ va_D A [(g, .inr (2, [.ref o, .ref wk, .ref st, .ref bs, .ref eu, .int (ji (Dd)), .int (ji (w))])), (o, .inr (1, [.long (jl (o1)), .long (jl (o2)), .long (jl (o3))])), (bs, .inr (1, [.long (jl (b1)), .long (jl (b2)), .long (jl (b3))])), (eu, .inr (0, [.long (jl (e1)), .long (jl (e2)), .long (jl (e3))])), (f, .inr (1, [.long (jl (c1)), .long (jl (c2)), .long (jl (c3))]))] ∧ va_S A s.heap H locs ∧ lv_has ls 7 [(0, .ref g), (1, .ref f), (2, .long (jl (kx))), (4, .long (jl (RR))), (6, .int (ji (i)))]) ?_ _ _ _ _ ⟨0, R0, 0, 1, o1, o2, o3, (u_10).1, (u_10).2.1, (u_10).2.2, j1, j2, j3, rfl, ⟨by omega, by simpa using hR1, by omega, hov, hone.2.1, (fm_eq_mg hg.1 hs hone.1 (fm_one_disc hs) hone.2.2.1).sy, hbs.1, hbs.2.1, hbs.2.2, trivial⟩, hP, hD, hS, lv_sub hl [2, 3, 4, 1, 0] rfl⟩
      rintro n H locs ls ⟨i, RR, k1, k2, c1, c2, c3, b1, b2, b3, e1, e2, e3, rfl, hi, hP, hD, hS, hl⟩ ih
      refine lv_iload hx hb d_G_raise_47 (lv_at hl 4 rfl) ?_
      refine w_bipush hx hb rfl d_G_raise_49 ?_
      refine wi_cge hx hb ⟨by omega, by omega⟩ ⟨by decide, by decide⟩ d_G_raise_51 (tgt := 103) (by decide) (fun h_13 => ?_) (fun h_13 => ?_)
      · obtain ⟨i1, i2, i3, i4, i5, i6, i7, i8, i9, i10⟩ := hi
        have hR00 : RR = 0 := by
          have e : 64 - i = 0 := by omega
          rw [e] at i2
          have : (2 : Nat) ^ 0 = 1 := rfl
          omega
        have hfin := hgoal _ (show fm_pw Dd s0 n0 F0 R0 (c1, c2, c3) by rw [← i3, hR00, Nat.mul_zero, Nat.add_zero]; exact i6)
        exact rt_v X hAe hS ((c1, c2, c3), (b1, b2, b3), e1, e2, e3) ⟨i4, i5, hfin⟩ hP d_G_raise_103
      · obtain ⟨i1, i2, i3, i4, i5, i6, i7, i8, i9, i10⟩ := hi
        have hRR : RR < 2 ^ 64 := Nat.lt_of_lt_of_le i2 (Nat.pow_le_pow_right (by decide) (by omega))
        refine lv_lload hx hb d_G_raise_54 (lv_at hl 3 rfl) ?_
        refine w_lconst (v := 0) hx hb rfl d_G_raise_56 ?_
        refine wl_ceqU hx hb (jl_u0 hRR) d_G_raise_57 d_G_raise_58 (tgt := 103) (by decide) (fun hz => ?_) (fun hz => ?_)
        · have hfin := hgoal _ (show fm_pw Dd s0 n0 F0 R0 (c1, c2, c3) by rw [← i3, hz, Nat.mul_zero, Nat.add_zero]; exact i6)
          exact rt_v X hAe hS ((c1, c2, c3), (b1, b2, b3), e1, e2, e3) ⟨i4, i5, hfin⟩ hP d_G_raise_103
        · have hRp : 0 < RR := Nat.pos_of_ne_zero hz
          refine lv_lload hx hb d_G_raise_61 (lv_at hl 3 rfl) ?_
          refine w_lconst (v := 1) hx hb rfl d_G_raise_63 ?_
          refine lv_land hx hb d_G_raise_64 ?_
          rw [jl_and1 hRR]
          refine w_lconst (v := 1) hx hb rfl d_G_raise_65 ?_
          refine wl_cne hx hb ⟨by omega, by omega⟩ ⟨by decide, by decide⟩ d_G_raise_66 d_G_raise_67 (tgt := 79) (by decide) (fun h_14 => ?_) (fun h_14 => ?_)
          · refine lv_aload_n hx hb d_G_raise_79 rfl (lv_at hl 0 rfl) ?_
            refine lv_aload_n hx hb d_G_raise_80 rfl (lv_at hl 0 rfl) ?_
            refine va_get (D := D) (ci := 2) (v := .ref bs) (C := R_G) (T := T_G) (N := 7) hx hb hts uw_G hown hK.1 hP 0 rfl rfl 3 (by decide) (hts _ fl_G_24) (fun _ h9 => h9) rfl d_G_raise_81 ?_
            refine lv_aload_n hx hb d_G_raise_84 rfl (lv_at hl 0 rfl) ?_
            refine va_get (D := D) (ci := 2) (v := .ref bs) (C := R_G) (T := T_G) (N := 7) hx hb hts uw_G hown hK.1 hP 0 rfl rfl 3 (by decide) (hts _ fl_G_24) (fun _ h9 => h9) rfl d_G_raise_85 ?_
            refine cl_v (rn_V (wc := [(g, .inr (2, [.ref o, .ref wk, .ref st, .ref bs, .ref eu, .int (ji (Dd)), .int (ji (w))])), (eu, .inr (0, [.long (jl (e1)), .long (jl (e2)), .long (jl (e3))])), (bs, .inr (1, [.long (jl (b1)), .long (jl (b2)), .long (jl (b3))]))]) (As := [.ref bs, .ref bs]) (rest := []) X hK (c_G_multiply1 l D cI cJ cF hg hs i7 i8 _) co_G_multiply in_G ml_G_135 im_G_multiply se_G_multiply 2 rfl (by decide +kernel) ⟨Nat.le_of_ble_eq_true rfl, Nat.le_of_ble_eq_true rfl⟩ hP hD [0, 3, 2] rfl (by decide) (q0 := 0) (ci := 2) rfl rfl rfl hl.1 rfl (Nat.le_of_ble_eq_true rfl) d_G_raise_88 ⟨Nat.zero_le _, Nat.zero_le _⟩) hP hD hS hA [0, 3, 2] rfl (by decide) (fun _ => rfl) (fun u_15 H locs hp hP hD hS => ?_)
            obtain ⟨mv2, mr2, mc2⟩ : fm_v Dd (u_15).1 ∧ fm_red Dd w (u_15).1 ∧ fm_cp s0 n0 (b1, b2, b3) (b1, b2, b3) (u_15).1 := hp
            have mp2 := fm_pw.add hg.1 hs _ _ i7 i9 i9 mc2
            have hP : va_P D classes [(g, .inr (2, [.ref o, .ref wk, .ref st, .ref bs, .ref eu, .int (ji (Dd)), .int (ji (w))])), (o, .inr (1, [.long (jl (o1)), .long (jl (o2)), .long (jl (o3))])), (bs, .inr (1, [.long (jl ((u_15).1.1)), .long (jl ((u_15).1.2.1)), .long (jl ((u_15).1.2.2))])), (eu, .inr (0, [.long (jl ((u_15).2.1)), .long (jl ((u_15).2.2.1)), .long (jl ((u_15).2.2.2))])), (f, .inr (1, [.long (jl (c1)), .long (jl (c2)), .long (jl (c3))]))] H := hP
            have hD : va_D A [(g, .inr (2, [.ref o, .ref wk, .ref st, .ref bs, .ref eu, .int (ji (Dd)), .int (ji (w))])), (o, .inr (1, [.long (jl (o1)), .long (jl (o2)), .long (jl (o3))])), (bs, .inr (1, [.long (jl ((u_15).1.1)), .long (jl ((u_15).1.2.1)), .long (jl ((u_15).1.2.2))])), (eu, .inr (0, [.long (jl ((u_15).2.1)), .long (jl ((u_15).2.2.1)), .long (jl ((u_15).2.2.2))])), (f, .inr (1, [.long (jl (c1)), .long (jl (c2)), .long (jl (c3))]))] := hD
            refine lv_lload hx hb d_G_raise_91 (lv_at hl 3 rfl) ?_
            refine w_iconst hx hb d_G_raise_93 ?_
            refine lv_lushr (v := jl ((RR / 2 : Nat) : Int)) hx hb d_G_raise_94 (jl_ushr1 hRR) ?_
            refine lv_lstore (lv' := [(4, .long (jl ((RR / 2 : Nat)))), (0, .ref g), (1, .ref f), (2, .long (jl (kx))), (6, .int (ji (i)))]) hx hb d_G_raise_95 hl (by decide) rfl (fun ls hl => ?_)
            refine lv_iinc (v := ji ((i) + (1))) (lv' := [(6, .int (ji ((i) + (1)))), (4, .long (jl ((RR / 2 : Nat)))), (0, .ref g), (1, .ref f), (2, .long (jl (kx)))]) hx hb d_G_raise_97 hl (k := 4) rfl (ji_add _ _) (by decide) rfl (fun ls hl => ?_)
            refine lv_goto (tgt := 47) hx hb d_G_raise_100 (by decide) ?_
            have i2n : RR / 2 < 2 ^ (64 - (i + 1)) := by
              have e : 64 - i = (64 - (i + 1)) + 1 := by omega
              rw [e, Nat.pow_succ] at i2
              omega
            exact ih _ _ _ _ (by omega) ⟨i + 1, RR / 2, k1, k2 + k2, c1, c2, c3, (u_15).1.1, (u_15).1.2.1, (u_15).1.2.2, (u_15).2.1, (u_15).2.2.1, (u_15).2.2.2, rfl, ⟨by omega, i2n, ((pw_ar i3).1 (by omega)), i4, i5, i6, mv2, mr2, mp2, trivial⟩, hP, hD, hS, lv_sub hl [2, 3, 4, 1, 0] rfl⟩
          · refine lv_aload_n hx hb d_G_raise_70 rfl (lv_at hl 0 rfl) ?_
            refine lv_aload_n hx hb d_G_raise_71 rfl (lv_at hl 1 rfl) ?_
            refine lv_aload_n hx hb d_G_raise_72 rfl (lv_at hl 0 rfl) ?_
            refine va_get (D := D) (ci := 2) (v := .ref bs) (C := R_G) (T := T_G) (N := 7) hx hb hts uw_G hown hK.1 hP 0 rfl rfl 3 (by decide) (hts _ fl_G_24) (fun _ h9 => h9) rfl d_G_raise_73 ?_
            refine cl_v (rn_V (wc := [(g, .inr (2, [.ref o, .ref wk, .ref st, .ref bs, .ref eu, .int (ji (Dd)), .int (ji (w))])), (eu, .inr (0, [.long (jl (e1)), .long (jl (e2)), .long (jl (e3))])), (f, .inr (1, [.long (jl (c1)), .long (jl (c2)), .long (jl (c3))])), (bs, .inr (1, [.long (jl (b1)), .long (jl (b2)), .long (jl (b3))]))]) (As := [.ref f, .ref bs]) (rest := []) X hK (c_G_multiply l D cI cJ cF hg hs i4 i5 i7 i8 _) co_G_multiply in_G ml_G_135 im_G_multiply se_G_multiply 2 rfl (by decide +kernel) ⟨Nat.le_of_ble_eq_true rfl, Nat.le_of_ble_eq_true rfl⟩ hP hD [0, 3, 4, 2] rfl (by decide) (q0 := 0) (ci := 2) rfl rfl rfl hl.1 rfl (Nat.le_of_ble_eq_true rfl) d_G_raise_76 ⟨Nat.zero_le _, Nat.zero_le _⟩) hP hD hS hA [0, 3, 4, 2] rfl (by decide) (fun _ => rfl) (fun u_16 H locs hp hP hD hS => ?_)
            obtain ⟨mv1, mr1, mc1⟩ : fm_v Dd (u_16).1 ∧ fm_red Dd w (u_16).1 ∧ fm_cp s0 n0 (c1, c2, c3) (b1, b2, b3) (u_16).1 := hp
            have mp1 := fm_pw.add hg.1 hs _ _ i4 i6 i9 mc1
            have hP : va_P D classes [(g, .inr (2, [.ref o, .ref wk, .ref st, .ref bs, .ref eu, .int (ji (Dd)), .int (ji (w))])), (o, .inr (1, [.long (jl (o1)), .long (jl (o2)), .long (jl (o3))])), (bs, .inr (1, [.long (jl (b1)), .long (jl (b2)), .long (jl (b3))])), (eu, .inr (0, [.long (jl ((u_16).2.1)), .long (jl ((u_16).2.2.1)), .long (jl ((u_16).2.2.2))])), (f, .inr (1, [.long (jl ((u_16).1.1)), .long (jl ((u_16).1.2.1)), .long (jl ((u_16).1.2.2))]))] H := hP
            have hD : va_D A [(g, .inr (2, [.ref o, .ref wk, .ref st, .ref bs, .ref eu, .int (ji (Dd)), .int (ji (w))])), (o, .inr (1, [.long (jl (o1)), .long (jl (o2)), .long (jl (o3))])), (bs, .inr (1, [.long (jl (b1)), .long (jl (b2)), .long (jl (b3))])), (eu, .inr (0, [.long (jl ((u_16).2.1)), .long (jl ((u_16).2.2.1)), .long (jl ((u_16).2.2.2))])), (f, .inr (1, [.long (jl ((u_16).1.1)), .long (jl ((u_16).1.2.1)), .long (jl ((u_16).1.2.2))]))] := hD
            refine lv_aload_n hx hb d_G_raise_79 rfl (lv_at hl 0 rfl) ?_
            refine lv_aload_n hx hb d_G_raise_80 rfl (lv_at hl 0 rfl) ?_
            refine va_get (D := D) (ci := 2) (v := .ref bs) (C := R_G) (T := T_G) (N := 7) hx hb hts uw_G hown hK.1 hP 0 rfl rfl 3 (by decide) (hts _ fl_G_24) (fun _ h9 => h9) rfl d_G_raise_81 ?_
            refine lv_aload_n hx hb d_G_raise_84 rfl (lv_at hl 0 rfl) ?_
            refine va_get (D := D) (ci := 2) (v := .ref bs) (C := R_G) (T := T_G) (N := 7) hx hb hts uw_G hown hK.1 hP 0 rfl rfl 3 (by decide) (hts _ fl_G_24) (fun _ h9 => h9) rfl d_G_raise_85 ?_
            refine cl_v (rn_V (wc := [(g, .inr (2, [.ref o, .ref wk, .ref st, .ref bs, .ref eu, .int (ji (Dd)), .int (ji (w))])), (eu, .inr (0, [.long (jl ((u_16).2.1)), .long (jl ((u_16).2.2.1)), .long (jl ((u_16).2.2.2))])), (bs, .inr (1, [.long (jl (b1)), .long (jl (b2)), .long (jl (b3))]))]) (As := [.ref bs, .ref bs]) (rest := []) X hK (c_G_multiply1 l D cI cJ cF hg hs i7 i8 _) co_G_multiply in_G ml_G_135 im_G_multiply se_G_multiply 2 rfl (by decide +kernel) ⟨Nat.le_of_ble_eq_true rfl, Nat.le_of_ble_eq_true rfl⟩ hP hD [0, 3, 2] rfl (by decide) (q0 := 0) (ci := 2) rfl rfl rfl hl.1 rfl (Nat.le_of_ble_eq_true rfl) d_G_raise_88 ⟨Nat.zero_le _, Nat.zero_le _⟩) hP hD hS hA [0, 3, 2] rfl (by decide) (fun _ => rfl) (fun u_17 H locs hp hP hD hS => ?_)
            obtain ⟨mv2, mr2, mc2⟩ : fm_v Dd (u_17).1 ∧ fm_red Dd w (u_17).1 ∧ fm_cp s0 n0 (b1, b2, b3) (b1, b2, b3) (u_17).1 := hp
            have mp2 := fm_pw.add hg.1 hs _ _ i7 i9 i9 mc2
            have hP : va_P D classes [(g, .inr (2, [.ref o, .ref wk, .ref st, .ref bs, .ref eu, .int (ji (Dd)), .int (ji (w))])), (o, .inr (1, [.long (jl (o1)), .long (jl (o2)), .long (jl (o3))])), (bs, .inr (1, [.long (jl ((u_17).1.1)), .long (jl ((u_17).1.2.1)), .long (jl ((u_17).1.2.2))])), (eu, .inr (0, [.long (jl ((u_17).2.1)), .long (jl ((u_17).2.2.1)), .long (jl ((u_17).2.2.2))])), (f, .inr (1, [.long (jl ((u_16).1.1)), .long (jl ((u_16).1.2.1)), .long (jl ((u_16).1.2.2))]))] H := hP
            have hD : va_D A [(g, .inr (2, [.ref o, .ref wk, .ref st, .ref bs, .ref eu, .int (ji (Dd)), .int (ji (w))])), (o, .inr (1, [.long (jl (o1)), .long (jl (o2)), .long (jl (o3))])), (bs, .inr (1, [.long (jl ((u_17).1.1)), .long (jl ((u_17).1.2.1)), .long (jl ((u_17).1.2.2))])), (eu, .inr (0, [.long (jl ((u_17).2.1)), .long (jl ((u_17).2.2.1)), .long (jl ((u_17).2.2.2))])), (f, .inr (1, [.long (jl ((u_16).1.1)), .long (jl ((u_16).1.2.1)), .long (jl ((u_16).1.2.2))]))] := hD
            refine lv_lload hx hb d_G_raise_91 (lv_at hl 3 rfl) ?_
            refine w_iconst hx hb d_G_raise_93 ?_
            refine lv_lushr (v := jl ((RR / 2 : Nat) : Int)) hx hb d_G_raise_94 (jl_ushr1 hRR) ?_
            refine lv_lstore (lv' := [(4, .long (jl ((RR / 2 : Nat)))), (0, .ref g), (1, .ref f), (2, .long (jl (kx))), (6, .int (ji (i)))]) hx hb d_G_raise_95 hl (by decide) rfl (fun ls hl => ?_)
            refine lv_iinc (v := ji ((i) + (1))) (lv' := [(6, .int (ji ((i) + (1)))), (4, .long (jl ((RR / 2 : Nat)))), (0, .ref g), (1, .ref f), (2, .long (jl (kx)))]) hx hb d_G_raise_97 hl (k := 4) rfl (ji_add _ _) (by decide) rfl (fun ls hl => ?_)
            refine lv_goto (tgt := 47) hx hb d_G_raise_100 (by decide) ?_
            have i2n : RR / 2 < 2 ^ (64 - (i + 1)) := by
              have e : 64 - i = (64 - (i + 1)) + 1 := by omega
              rw [e, Nat.pow_succ] at i2
              omega
            exact ih _ _ _ _ (by omega) ⟨i + 1, RR / 2, k1 + k2, k2 + k2, (u_16).1.1, (u_16).1.2.1, (u_16).1.2.2, (u_17).1.1, (u_17).1.2.1, (u_17).1.2.2, (u_17).2.1, (u_17).2.2.1, (u_17).2.2.2, rfl, ⟨by omega, i2n, ((pw_ar i3).2 (by omega)), mv1, mr1, mp1, mv2, mr2, mp2, trivial⟩, hP, hD, hS, lv_sub hl [2, 3, 4, 1, 0] rfl⟩
