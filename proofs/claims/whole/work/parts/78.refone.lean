set_option maxHeartbeats 4000000 in
set_option maxRecDepth 100000 in
theorem c_M_one (l : Launch) (D : va_G) (cI cJ cF : ClassId) {m0 mf mm ml mp : Nat} {co Dd w np : Int} {a b c s0 n0 : Int} (hg : gD Dd w) (hs : fm_sn Dd s0 n0) : ∀ sz, Met l y_M_one (Cond.code y_M_one b_M_one 1 none :: wb) { frames := 3, cells := 0, slots := 0, locals := 90 } (va_Pc [.ref m0] (cpre D cI cJ cF [(m0, .inr (5, [.int (ji (co)), .long (jl (Dd)), .long (jl (w)), .ref mf, .ref mm, .ref ml, .long (jl (a)), .long (jl (b)), .long (jl (c)), .int (ji (np)), .ref mp]))] sz)) (va_Qv (fun (u : fm_F) => fm_nm Dd w u (fm_one s0 n0)) (fun (u : fm_F) tS => va_P D classes [(m0, .inr (5, [.int (ji (co)), .long (jl (Dd)), .long (jl (w)), .ref mf, .ref mm, .ref ml, .long (jl (u.1)), .long (jl (u.2.1)), .long (jl (u.2.2)), .int (ji (np)), .ref mp]))] tS.heap) (va_A [(m0, .inr (5, [.int (ji (co)), .long (jl (Dd)), .long (jl (w)), .ref mf, .ref mm, .ref ml, .long (jl (a)), .long (jl (b)), .long (jl (c)), .int (ji (np)), .ref mp]))] sz)) 0 0 (va_A [(m0, .inr (5, [.int (ji (co)), .long (jl (Dd)), .long (jl (w)), .ref mf, .ref mm, .ref ml, .long (jl (a)), .long (jl (b)), .long (jl (c)), .int (ji (np)), .ref mp]))] sz) := by
  refine c_of (Qc := fun sz => va_Qv (fun (u : fm_F) => fm_nm Dd w u (fm_one s0 n0)) (fun (u : fm_F) tS => va_P D classes [(m0, .inr (5, [.int (ji (co)), .long (jl (Dd)), .long (jl (w)), .ref mf, .ref mm, .ref ml, .long (jl (u.1)), .long (jl (u.2.1)), .long (jl (u.2.2)), .int (ji (np)), .ref mp]))] tS.heap) (va_A [(m0, .inr (5, [.int (ji (co)), .long (jl (Dd)), .long (jl (w)), .ref mf, .ref mm, .ref ml, .long (jl (a)), .long (jl (b)), .long (jl (c)), .int (ji (np)), .ref mp]))] sz)) (by decide +kernel) co_M_one (Nat.le_of_ble_eq_true rfl) ?_
  intro pq eq s mq below meth cq A X hK hP hD hS hA hAe ls hl
  obtain ⟨hx, hb, hml, hown, hr, hlocks, hts⟩ := id X
  have hl : lv_has ls 1 [(0, .ref m0)] := hl
  have zd1 := hg.2.1
  have zd2 := hg.2.2.1
  obtain ⟨hs1, hs2⟩ := id hs
  have ho := fm_one_v hs
  have hDs : Dd % 2 = s0 := by omega
  have hc4 : (s0 - Dd).tdiv 4 = -n0 := td_e (by omega) (by decide)
  refine lv_aload_n hx hb d_M_one_0 rfl (lv_at hl 0 rfl) ?_
  refine w_lconst (v := 1) hx hb rfl d_M_one_1 ?_
  refine va_put (D := D) (ci := 5) (v := .long (jl (1))) (ty := .long) (C := R_M) (T := T_M) (N := 11) hx hb hts uw_M ty_M ty_M_ok nm_M hown hK.1 hP hD hS 0 rfl rfl 6 (by decide) (hts _ fl_M_73) (fun _ h9 => h9) rfl (by decide +kernel) rfl rfl (Nat.le_of_ble_eq_true rfl) d_M_one_2 (fun H locs hP hD hS => ?_)
  have hP : va_P D classes [(m0, .inr (5, [.int (ji (co)), .long (jl (Dd)), .long (jl (w)), .ref mf, .ref mm, .ref ml, .long (jl (1)), .long (jl (b)), .long (jl (c)), .int (ji (np)), .ref mp]))] H := hP
  have hD : va_D A [(m0, .inr (5, [.int (ji (co)), .long (jl (Dd)), .long (jl (w)), .ref mf, .ref mm, .ref ml, .long (jl (1)), .long (jl (b)), .long (jl (c)), .int (ji (np)), .ref mp]))] := hD
  refine lv_aload_n hx hb d_M_one_5 rfl (lv_at hl 0 rfl) ?_
  refine lv_aload_n hx hb d_M_one_6 rfl (lv_at hl 0 rfl) ?_
  refine va_get (D := D) (ci := 5) (v := .long (jl (Dd))) (C := R_M) (T := T_M) (N := 11) hx hb hts uw_M hown hK.1 hP 0 rfl rfl 1 (by decide) (hts _ fl_M_9) (fun _ h9 => h9) rfl d_M_one_7 ?_
  refine w_ldc2 (v := 2) (n := 2) hx hb (by decide) hown (hts _ kc_M_53) d_M_one_10 ?_
  refine cl_l (rn_S (wc := []) (As := [.long (jl (Dd)), .long (jl (2))]) (rest := [.ref m0]) X hK (c_M_rest l D cI cJ cF ⟨by omega, by omega⟩ ⟨by decide, by decide⟩ (by decide) _) co_M_rest in_M ml_M_69 st_M_rest 2 rfl (by decide +kernel) ⟨Nat.le_of_ble_eq_true rfl, Nat.le_of_ble_eq_true rfl⟩ hP hD [] rfl (by decide) hl.1 rfl (Nat.le_of_ble_eq_true rfl) d_M_one_13 ⟨Nat.zero_le _, Nat.zero_le _⟩) hP hD hS hA [] rfl (by decide) (fun _ => rfl) (fun r_1 u_2 H locs hp hP hD hS => ?_)
  have hp : r_1 = jl s0 := by rw [show r_1 = _ from hp, hDs]
  have hP : va_P D classes [(m0, .inr (5, [.int (ji (co)), .long (jl (Dd)), .long (jl (w)), .ref mf, .ref mm, .ref ml, .long (jl (1)), .long (jl (b)), .long (jl (c)), .int (ji (np)), .ref mp]))] H := hP
  have hD : va_D A [(m0, .inr (5, [.int (ji (co)), .long (jl (Dd)), .long (jl (w)), .ref mf, .ref mm, .ref ml, .long (jl (1)), .long (jl (b)), .long (jl (c)), .int (ji (np)), .ref mp]))] := hD
  obtain rfl : r_1 = jl (s0) := hp
  refine va_put (D := D) (ci := 5) (v := .long (jl (s0))) (ty := .long) (C := R_M) (T := T_M) (N := 11) hx hb hts uw_M ty_M ty_M_ok nm_M hown hK.1 hP hD hS 0 rfl rfl 7 (by decide) (hts _ fl_M_76) (fun _ h9 => h9) rfl (by decide +kernel) rfl rfl (Nat.le_of_ble_eq_true rfl) d_M_one_16 (fun H locs hP hD hS => ?_)
  have hP : va_P D classes [(m0, .inr (5, [.int (ji (co)), .long (jl (Dd)), .long (jl (w)), .ref mf, .ref mm, .ref ml, .long (jl (1)), .long (jl (s0)), .long (jl (c)), .int (ji (np)), .ref mp]))] H := hP
  have hD : va_D A [(m0, .inr (5, [.int (ji (co)), .long (jl (Dd)), .long (jl (w)), .ref mf, .ref mm, .ref ml, .long (jl (1)), .long (jl (s0)), .long (jl (c)), .int (ji (np)), .ref mp]))] := hD
  refine lv_aload_n hx hb d_M_one_19 rfl (lv_at hl 0 rfl) ?_
  refine lv_aload_n hx hb d_M_one_20 rfl (lv_at hl 0 rfl) ?_
  refine va_get (D := D) (ci := 5) (v := .long (jl (s0))) (C := R_M) (T := T_M) (N := 11) hx hb hts uw_M hown hK.1 hP 0 rfl rfl 7 (by decide) (hts _ fl_M_76) (fun _ h9 => h9) rfl d_M_one_21 ?_
  refine lv_aload_n hx hb d_M_one_24 rfl (lv_at hl 0 rfl) ?_
  refine va_get (D := D) (ci := 5) (v := .long (jl (Dd))) (C := R_M) (T := T_M) (N := 11) hx hb hts uw_M hown hK.1 hP 0 rfl rfl 1 (by decide) (hts _ fl_M_9) (fun _ h9 => h9) rfl d_M_one_25 ?_
  refine wl_sub hx hb d_M_one_28 ?_
  refine w_ldc2 (v := 4) (n := 4) hx hb (by decide) hown (hts _ kc_M_67) d_M_one_29 ?_
  refine wl_div hx hb ⟨by omega, by omega⟩ ⟨by decide, by decide⟩ (by decide) d_M_one_32 ?_
  refine lv_topl (fun yy hyy => ?_)
  obtain rfl : yy = jl (-n0) := hyy.trans (congrArg jl hc4)
  refine va_put (D := D) (ci := 5) (v := .long (jl (-n0))) (ty := .long) (C := R_M) (T := T_M) (N := 11) hx hb hts uw_M ty_M ty_M_ok nm_M hown hK.1 hP hD hS 0 rfl rfl 8 (by decide) (hts _ fl_M_79) (fun _ h9 => h9) rfl (by decide +kernel) rfl rfl (Nat.le_of_ble_eq_true rfl) d_M_one_33 (fun H locs hP hD hS => ?_)
  have hP : va_P D classes [(m0, .inr (5, [.int (ji (co)), .long (jl (Dd)), .long (jl (w)), .ref mf, .ref mm, .ref ml, .long (jl (1)), .long (jl (s0)), .long (jl (-n0)), .int (ji (np)), .ref mp]))] H := hP
  have hD : va_D A [(m0, .inr (5, [.int (ji (co)), .long (jl (Dd)), .long (jl (w)), .ref mf, .ref mm, .ref ml, .long (jl (1)), .long (jl (s0)), .long (jl (-n0)), .int (ji (np)), .ref mp]))] := hD
  refine lv_aload_n hx hb d_M_one_36 rfl (lv_at hl 0 rfl) ?_
  refine cl_v (rn_V (wc := [(m0, .inr (5, [.int (ji (co)), .long (jl (Dd)), .long (jl (w)), .ref mf, .ref mm, .ref ml, .long (jl (1)), .long (jl (s0)), .long (jl (-n0)), .int (ji (np)), .ref mp]))]) (As := []) (rest := []) X hK (c_M_toName l D cI cJ cF hg ho.1 ho.2.2 ⟨⟨by omega, by omega⟩, ⟨by omega, by omega⟩, ⟨by omega, by omega⟩, Or.inl ⟨by omega, by omega⟩⟩ _) co_M_toName in_M ml_M_82 im_M_toName se_M_toName 0 rfl (by decide +kernel) ⟨Nat.le_of_ble_eq_true rfl, Nat.le_of_ble_eq_true rfl⟩ hP hD [0] rfl (by decide) (q0 := 0) (ci := 5) rfl rfl rfl hl.1 rfl (Nat.le_of_ble_eq_true rfl) d_M_one_37 ⟨Nat.zero_le _, Nat.zero_le _⟩) hP hD hS hA [0] rfl (by decide) (fun _ => rfl) (fun u_3 H locs hp hP hD hS => ?_)
  have hp : fm_nm Dd w u_3 (fm_one s0 n0) := hp
  have hP : va_P D classes [(m0, .inr (5, [.int (ji (co)), .long (jl (Dd)), .long (jl (w)), .ref mf, .ref mm, .ref ml, .long (jl ((u_3).1)), .long (jl ((u_3).2.1)), .long (jl ((u_3).2.2)), .int (ji (np)), .ref mp]))] H := hP
  have hD : va_D A [(m0, .inr (5, [.int (ji (co)), .long (jl (Dd)), .long (jl (w)), .ref mf, .ref mm, .ref ml, .long (jl ((u_3).1)), .long (jl ((u_3).2.1)), .long (jl ((u_3).2.2)), .int (ji (np)), .ref mp]))] := hD
  exact rt_v X hAe hS u_3 hp hP d_M_one_40

set_option maxHeartbeats 4000000 in
set_option maxRecDepth 100000 in
theorem c_M_keepOne (l : Launch) (D : va_G) (cI cJ cF : ClassId) {m0 mf mm ml mp : Nat} {co Dd w np : Int} {a b c r0 s0 n0 : Int} {F1 F2 F3 : Nat → Int} (hr0 : 0 ≤ r0) (hr7 : r0 ≤ 7) (hg : gD Dd w) (hs : fm_sn Dd s0 n0) : ∀ sz, Met l y_M_keepOne (Cond.code y_M_keepOne b_M_keepOne 2 none :: wb) { frames := 4, cells := 0, slots := 0, locals := 110 } (va_Pc [.ref m0, .int (ji (r0))] (cpre D cI cJ cF [(m0, .inr (5, [.int (ji (co)), .long (jl (Dd)), .long (jl (w)), .ref mf, .ref mm, .ref ml, .long (jl (a)), .long (jl (b)), .long (jl (c)), .int (ji (np)), .ref mp])), (mf, .inl (cJ, 8, .inr (.inl (fun j => jl ((F1) j))))), (mm, .inl (cJ, 8, .inr (.inl (fun j => jl ((F2) j))))), (ml, .inl (cJ, 8, .inr (.inl (fun j => jl ((F3) j)))))] sz)) (va_Qv (fun (u : fm_F) => fm_nm Dd w u (fm_one s0 n0)) (fun (u : fm_F) tS => va_P D classes [(m0, .inr (5, [.int (ji (co)), .long (jl (Dd)), .long (jl (w)), .ref mf, .ref mm, .ref ml, .long (jl (u.1)), .long (jl (u.2.1)), .long (jl (u.2.2)), .int (ji (np)), .ref mp])), (mf, .inl (cJ, 8, .inr (.inl (fun j => jl ((fU F1 r0.toNat u.1) j))))), (mm, .inl (cJ, 8, .inr (.inl (fun j => jl ((fU F2 r0.toNat u.2.1) j))))), (ml, .inl (cJ, 8, .inr (.inl (fun j => jl ((fU F3 r0.toNat u.2.2) j)))))] tS.heap) (va_A [(m0, .inr (5, [.int (ji (co)), .long (jl (Dd)), .long (jl (w)), .ref mf, .ref mm, .ref ml, .long (jl (a)), .long (jl (b)), .long (jl (c)), .int (ji (np)), .ref mp])), (mf, .inl (cJ, 8, .inr (.inl (fun j => jl ((F1) j))))), (mm, .inl (cJ, 8, .inr (.inl (fun j => jl ((F2) j))))), (ml, .inl (cJ, 8, .inr (.inl (fun j => jl ((F3) j)))))] sz)) 0 0 (va_A [(m0, .inr (5, [.int (ji (co)), .long (jl (Dd)), .long (jl (w)), .ref mf, .ref mm, .ref ml, .long (jl (a)), .long (jl (b)), .long (jl (c)), .int (ji (np)), .ref mp])), (mf, .inl (cJ, 8, .inr (.inl (fun j => jl ((F1) j))))), (mm, .inl (cJ, 8, .inr (.inl (fun j => jl ((F2) j))))), (ml, .inl (cJ, 8, .inr (.inl (fun j => jl ((F3) j)))))] sz) := by
  refine c_of (Qc := fun sz => va_Qv (fun (u : fm_F) => fm_nm Dd w u (fm_one s0 n0)) (fun (u : fm_F) tS => va_P D classes [(m0, .inr (5, [.int (ji (co)), .long (jl (Dd)), .long (jl (w)), .ref mf, .ref mm, .ref ml, .long (jl (u.1)), .long (jl (u.2.1)), .long (jl (u.2.2)), .int (ji (np)), .ref mp])), (mf, .inl (cJ, 8, .inr (.inl (fun j => jl ((fU F1 r0.toNat u.1) j))))), (mm, .inl (cJ, 8, .inr (.inl (fun j => jl ((fU F2 r0.toNat u.2.1) j))))), (ml, .inl (cJ, 8, .inr (.inl (fun j => jl ((fU F3 r0.toNat u.2.2) j)))))] tS.heap) (va_A [(m0, .inr (5, [.int (ji (co)), .long (jl (Dd)), .long (jl (w)), .ref mf, .ref mm, .ref ml, .long (jl (a)), .long (jl (b)), .long (jl (c)), .int (ji (np)), .ref mp])), (mf, .inl (cJ, 8, .inr (.inl (fun j => jl ((F1) j))))), (mm, .inl (cJ, 8, .inr (.inl (fun j => jl ((F2) j))))), (ml, .inl (cJ, 8, .inr (.inl (fun j => jl ((F3) j)))))] sz)) (by decide +kernel) co_M_keepOne (Nat.le_of_ble_eq_true rfl) ?_
  intro pq eq s mq below meth cq A X hK hP hD hS hA hAe ls hl
  obtain ⟨hx, hb, hml, hown, hr, hlocks, hts⟩ := id X
  have hl : lv_has ls 2 [(0, .ref m0), (1, .int (ji (r0)))] := hl
  refine lv_aload_n hx hb d_M_keepOne_0 rfl (lv_at hl 0 rfl) ?_
  refine cl_v (rn_V (wc := [(m0, .inr (5, [.int (ji (co)), .long (jl (Dd)), .long (jl (w)), .ref mf, .ref mm, .ref ml, .long (jl (a)), .long (jl (b)), .long (jl (c)), .int (ji (np)), .ref mp]))]) (As := []) (rest := []) X hK (c_M_one l D cI cJ cF hg hs _) co_M_one in_M ml_M_85 im_M_one se_M_one 0 rfl (by decide +kernel) ⟨Nat.le_of_ble_eq_true rfl, Nat.le_of_ble_eq_true rfl⟩ hP hD [0] rfl (by decide) (q0 := 0) (ci := 5) rfl rfl rfl hl.1 rfl (Nat.le_of_ble_eq_true rfl) d_M_keepOne_1 ⟨Nat.zero_le _, Nat.zero_le _⟩) hP hD hS hA [0] rfl (by decide) (fun _ => rfl) (fun u_1 H locs hp hP hD hS => ?_)
  have ho1 : fm_nm Dd w u_1 (fm_one s0 n0) := hp
  have hP : va_P D classes [(m0, .inr (5, [.int (ji (co)), .long (jl (Dd)), .long (jl (w)), .ref mf, .ref mm, .ref ml, .long (jl ((u_1).1)), .long (jl ((u_1).2.1)), .long (jl ((u_1).2.2)), .int (ji (np)), .ref mp])), (mf, .inl (cJ, 8, .inr (.inl (fun j => jl ((F1) j))))), (mm, .inl (cJ, 8, .inr (.inl (fun j => jl ((F2) j))))), (ml, .inl (cJ, 8, .inr (.inl (fun j => jl ((F3) j)))))] H := hP
  have hD : va_D A [(m0, .inr (5, [.int (ji (co)), .long (jl (Dd)), .long (jl (w)), .ref mf, .ref mm, .ref ml, .long (jl ((u_1).1)), .long (jl ((u_1).2.1)), .long (jl ((u_1).2.2)), .int (ji (np)), .ref mp])), (mf, .inl (cJ, 8, .inr (.inl (fun j => jl ((F1) j))))), (mm, .inl (cJ, 8, .inr (.inl (fun j => jl ((F2) j))))), (ml, .inl (cJ, 8, .inr (.inl (fun j => jl ((F3) j)))))] := hD
  refine lv_aload_n hx hb d_M_keepOne_4 rfl (lv_at hl 0 rfl) ?_
  refine lv_iload_n hx hb d_M_keepOne_5 rfl (lv_at hl 1 rfl) ?_
  refine cl_v (rn_V (wc := [(m0, .inr (5, [.int (ji (co)), .long (jl (Dd)), .long (jl (w)), .ref mf, .ref mm, .ref ml, .long (jl ((u_1).1)), .long (jl ((u_1).2.1)), .long (jl ((u_1).2.2)), .int (ji (np)), .ref mp])), (mf, .inl (cJ, 8, .inr (.inl (fun j => jl ((F1) j))))), (mm, .inl (cJ, 8, .inr (.inl (fun j => jl ((F2) j))))), (ml, .inl (cJ, 8, .inr (.inl (fun j => jl ((F3) j)))))]) (As := [.int (ji (r0))]) (rest := []) X hK (c_M_keep l D cI cJ cF hr0 hr7 _) co_M_keep in_M ml_M_88 im_M_keep se_M_keep 1 rfl (by decide +kernel) ⟨Nat.le_of_ble_eq_true rfl, Nat.le_of_ble_eq_true rfl⟩ hP hD [0, 1, 2, 3] rfl (by decide) (q0 := 0) (ci := 5) rfl rfl rfl hl.1 rfl (Nat.le_of_ble_eq_true rfl) d_M_keepOne_6 ⟨Nat.zero_le _, Nat.zero_le _⟩) hP hD hS hA [0, 1, 2, 3] rfl (by decide) (fun _ => rfl) (fun u_2 H locs hp hP hD hS => ?_)
  have hP : va_P D classes [(m0, .inr (5, [.int (ji (co)), .long (jl (Dd)), .long (jl (w)), .ref mf, .ref mm, .ref ml, .long (jl ((u_1).1)), .long (jl ((u_1).2.1)), .long (jl ((u_1).2.2)), .int (ji (np)), .ref mp])), (mf, .inl (cJ, 8, .inr (.inl (fun j => jl ((fU (F1) (r0 : Int).toNat ((u_1).1)) j))))), (mm, .inl (cJ, 8, .inr (.inl (fun j => jl ((fU (F2) (r0 : Int).toNat ((u_1).2.1)) j))))), (ml, .inl (cJ, 8, .inr (.inl (fun j => jl ((fU (F3) (r0 : Int).toNat ((u_1).2.2)) j)))))] H := hP
  have hD : va_D A [(m0, .inr (5, [.int (ji (co)), .long (jl (Dd)), .long (jl (w)), .ref mf, .ref mm, .ref ml, .long (jl ((u_1).1)), .long (jl ((u_1).2.1)), .long (jl ((u_1).2.2)), .int (ji (np)), .ref mp])), (mf, .inl (cJ, 8, .inr (.inl (fun j => jl ((fU (F1) (r0 : Int).toNat ((u_1).1)) j))))), (mm, .inl (cJ, 8, .inr (.inl (fun j => jl ((fU (F2) (r0 : Int).toNat ((u_1).2.1)) j))))), (ml, .inl (cJ, 8, .inr (.inl (fun j => jl ((fU (F3) (r0 : Int).toNat ((u_1).2.2)) j)))))] := hD
  exact rt_v X hAe hS u_1 ho1 hP d_M_keepOne_9

set_option maxHeartbeats 4000000 in
set_option maxRecDepth 100000 in
theorem c_M_isAt (l : Launch) (D : va_G) (cI cJ cF : ClassId) {m0 mf mm ml mp : Nat} {co Dd w np : Int} {a b c r0 : Int} {F1 F2 : Nat → Int} (hr0 : 0 ≤ r0) (hr7 : r0 ≤ 7) (h1 : jL a) (h2 : jL b) (h3 : jL (F1 r0.toNat)) (h4 : jL (F2 r0.toNat)) : ∀ sz, Met l y_M_isAt (Cond.code y_M_isAt b_M_isAt 2 (some .boolean) :: wb) { frames := 0, cells := 0, slots := 0, locals := 0 } (va_Pc [.ref m0, .int (ji (r0))] (cpre D cI cJ cF [(m0, .inr (5, [.int (ji (co)), .long (jl (Dd)), .long (jl (w)), .ref mf, .ref mm, .ref ml, .long (jl (a)), .long (jl (b)), .long (jl (c)), .int (ji (np)), .ref mp])), (mf, .inl (cJ, 8, .inr (.inl (fun j => jl ((F1) j))))), (mm, .inl (cJ, 8, .inr (.inl (fun j => jl ((F2) j)))))] sz)) (va_Qi (fun r (u : Unit) => ∃ t : Int, r = ji t ∧ ((t = 1 ∧ (a = F1 r0.toNat ∧ b = F2 r0.toNat)) ∨ (t = 0 ∧ ¬ (a = F1 r0.toNat ∧ b = F2 r0.toNat)))) (fun (u : Unit) tS => va_P D classes [(m0, .inr (5, [.int (ji (co)), .long (jl (Dd)), .long (jl (w)), .ref mf, .ref mm, .ref ml, .long (jl (a)), .long (jl (b)), .long (jl (c)), .int (ji (np)), .ref mp])), (mf, .inl (cJ, 8, .inr (.inl (fun j => jl ((F1) j))))), (mm, .inl (cJ, 8, .inr (.inl (fun j => jl ((F2) j)))))] tS.heap) (va_A [(m0, .inr (5, [.int (ji (co)), .long (jl (Dd)), .long (jl (w)), .ref mf, .ref mm, .ref ml, .long (jl (a)), .long (jl (b)), .long (jl (c)), .int (ji (np)), .ref mp])), (mf, .inl (cJ, 8, .inr (.inl (fun j => jl ((F1) j))))), (mm, .inl (cJ, 8, .inr (.inl (fun j => jl ((F2) j)))))] sz)) 0 0 (va_A [(m0, .inr (5, [.int (ji (co)), .long (jl (Dd)), .long (jl (w)), .ref mf, .ref mm, .ref ml, .long (jl (a)), .long (jl (b)), .long (jl (c)), .int (ji (np)), .ref mp])), (mf, .inl (cJ, 8, .inr (.inl (fun j => jl ((F1) j))))), (mm, .inl (cJ, 8, .inr (.inl (fun j => jl ((F2) j)))))] sz) := by
  refine c_of (Qc := fun sz => va_Qi (fun r (u : Unit) => ∃ t : Int, r = ji t ∧ ((t = 1 ∧ (a = F1 r0.toNat ∧ b = F2 r0.toNat)) ∨ (t = 0 ∧ ¬ (a = F1 r0.toNat ∧ b = F2 r0.toNat)))) (fun (u : Unit) tS => va_P D classes [(m0, .inr (5, [.int (ji (co)), .long (jl (Dd)), .long (jl (w)), .ref mf, .ref mm, .ref ml, .long (jl (a)), .long (jl (b)), .long (jl (c)), .int (ji (np)), .ref mp])), (mf, .inl (cJ, 8, .inr (.inl (fun j => jl ((F1) j))))), (mm, .inl (cJ, 8, .inr (.inl (fun j => jl ((F2) j)))))] tS.heap) (va_A [(m0, .inr (5, [.int (ji (co)), .long (jl (Dd)), .long (jl (w)), .ref mf, .ref mm, .ref ml, .long (jl (a)), .long (jl (b)), .long (jl (c)), .int (ji (np)), .ref mp])), (mf, .inl (cJ, 8, .inr (.inl (fun j => jl ((F1) j))))), (mm, .inl (cJ, 8, .inr (.inl (fun j => jl ((F2) j)))))] sz)) (by decide +kernel) co_M_isAt (Nat.le_of_ble_eq_true rfl) ?_
  intro pq eq s mq below meth cq A X hK hP hD hS hA hAe ls hl
  obtain ⟨hx, hb, hml, hown, hr, hlocks, hts⟩ := id X
  have hl : lv_has ls 2 [(0, .ref m0), (1, .int (ji (r0)))] := hl
  refine lv_aload_n hx hb d_M_isAt_0 rfl (lv_at hl 0 rfl) ?_
  refine va_get (D := D) (ci := 5) (v := .long (jl (a))) (C := R_M) (T := T_M) (N := 11) hx hb hts uw_M hown hK.1 hP 0 rfl rfl 6 (by decide) (hts _ fl_M_73) (fun _ h9 => h9) rfl d_M_isAt_1 ?_
  refine lv_aload_n hx hb d_M_isAt_4 rfl (lv_at hl 0 rfl) ?_
  refine va_get (D := D) (ci := 5) (v := .ref mf) (C := R_M) (T := T_M) (N := 11) hx hb hts uw_M hown hK.1 hP 0 rfl rfl 3 (by decide) (hts _ fl_M_20) (fun _ h9 => h9) rfl d_M_isAt_5 ?_
  refine lv_iload_n hx hb d_M_isAt_8 rfl (lv_at hl 1 rfl) ?_
  refine w_lald (F := F1) hx hb hK hP 1 rfl ⟨by omega, by omega, by omega⟩ d_M_isAt_9 ?_
  refine wl_cne hx hb h1 h3 d_M_isAt_10 d_M_isAt_11 (tgt := 32) (by decide) (fun h_1 => ?_) (fun h_1 => ?_)
  · refine w_iconst hx hb d_M_isAt_32 ?_
    exact rt_z X hAe hS () rfl ⟨0, rfl, Or.inr ⟨rfl, by omega⟩⟩ hP d_M_isAt_33
  · refine lv_aload_n hx hb d_M_isAt_14 rfl (lv_at hl 0 rfl) ?_
    refine va_get (D := D) (ci := 5) (v := .long (jl (b))) (C := R_M) (T := T_M) (N := 11) hx hb hts uw_M hown hK.1 hP 0 rfl rfl 7 (by decide) (hts _ fl_M_76) (fun _ h9 => h9) rfl d_M_isAt_15 ?_
    refine lv_aload_n hx hb d_M_isAt_18 rfl (lv_at hl 0 rfl) ?_
    refine va_get (D := D) (ci := 5) (v := .ref mm) (C := R_M) (T := T_M) (N := 11) hx hb hts uw_M hown hK.1 hP 0 rfl rfl 4 (by decide) (hts _ fl_M_24) (fun _ h9 => h9) rfl d_M_isAt_19 ?_
    refine lv_iload_n hx hb d_M_isAt_22 rfl (lv_at hl 1 rfl) ?_
    refine w_lald (F := F2) hx hb hK hP 2 rfl ⟨by omega, by omega, by omega⟩ d_M_isAt_23 ?_
    refine wl_cne hx hb h2 h4 d_M_isAt_24 d_M_isAt_25 (tgt := 32) (by decide) (fun h_2 => ?_) (fun h_2 => ?_)
    · refine w_iconst hx hb d_M_isAt_32 ?_
      exact rt_z X hAe hS () rfl ⟨0, rfl, Or.inr ⟨rfl, by omega⟩⟩ hP d_M_isAt_33
    · refine w_iconst hx hb d_M_isAt_28 ?_
      refine lv_goto (tgt := 33) hx hb d_M_isAt_29 (by decide) ?_
      exact rt_z X hAe hS () rfl ⟨1, rfl, Or.inl ⟨rfl, by omega, by omega⟩⟩ hP d_M_isAt_33

set_option maxHeartbeats 4000000 in
set_option maxRecDepth 100000 in
theorem c_M_isOne (l : Launch) (D : va_G) (cI cJ cF : ClassId) {m0 mf mm ml mp : Nat} {co Dd w np : Int} {a b c z1 z2 z3 s0 n0 : Int} (hg : gD Dd w) (hs : fm_sn Dd s0 n0) (hz : fm_nm Dd w (z1, z2, z3) (fm_one s0 n0)) (hd : fm_disc Dd (a, b, c)) (h1 : jL a) (h2 : jL b) : ∀ sz, Met l y_M_isOne (Cond.code y_M_isOne b_M_isOne 8 (some .boolean) :: wb) { frames := 4, cells := 0, slots := 0, locals := 110 } (va_Pc [.ref m0] (cpre D cI cJ cF [(m0, .inr (5, [.int (ji (co)), .long (jl (Dd)), .long (jl (w)), .ref mf, .ref mm, .ref ml, .long (jl (a)), .long (jl (b)), .long (jl (c)), .int (ji (np)), .ref mp]))] sz)) (va_Qi (fun r (u : Unit) => ∃ t : Int, r = ji t ∧ ((t = 1 ∧ (((a, b, c) : fm_F) = (z1, z2, z3))) ∨ (t = 0 ∧ ¬ (((a, b, c) : fm_F) = (z1, z2, z3))))) (fun (u : Unit) tS => va_P D classes [(m0, .inr (5, [.int (ji (co)), .long (jl (Dd)), .long (jl (w)), .ref mf, .ref mm, .ref ml, .long (jl (a)), .long (jl (b)), .long (jl (c)), .int (ji (np)), .ref mp]))] tS.heap) (va_A [(m0, .inr (5, [.int (ji (co)), .long (jl (Dd)), .long (jl (w)), .ref mf, .ref mm, .ref ml, .long (jl (a)), .long (jl (b)), .long (jl (c)), .int (ji (np)), .ref mp]))] sz)) 0 0 (va_A [(m0, .inr (5, [.int (ji (co)), .long (jl (Dd)), .long (jl (w)), .ref mf, .ref mm, .ref ml, .long (jl (a)), .long (jl (b)), .long (jl (c)), .int (ji (np)), .ref mp]))] sz) := by
  refine c_of (Qc := fun sz => va_Qi (fun r (u : Unit) => ∃ t : Int, r = ji t ∧ ((t = 1 ∧ (((a, b, c) : fm_F) = (z1, z2, z3))) ∨ (t = 0 ∧ ¬ (((a, b, c) : fm_F) = (z1, z2, z3))))) (fun (u : Unit) tS => va_P D classes [(m0, .inr (5, [.int (ji (co)), .long (jl (Dd)), .long (jl (w)), .ref mf, .ref mm, .ref ml, .long (jl (a)), .long (jl (b)), .long (jl (c)), .int (ji (np)), .ref mp]))] tS.heap) (va_A [(m0, .inr (5, [.int (ji (co)), .long (jl (Dd)), .long (jl (w)), .ref mf, .ref mm, .ref ml, .long (jl (a)), .long (jl (b)), .long (jl (c)), .int (ji (np)), .ref mp]))] sz)) (by decide +kernel) co_M_isOne (Nat.le_of_ble_eq_true rfl) ?_
  intro pq eq s mq below meth cq A X hK hP hD hS hA hAe ls hl
  obtain ⟨hx, hb, hml, hown, hr, hlocks, hts⟩ := id X
  have hl : lv_has ls 8 [(0, .ref m0)] := hl
  have zb := red_b30 hg hz.1 hz.2.1
  have zb1 := zb.1.j
  have zb2 := zb.2.1.j
  refine lv_aload_n hx hb d_M_isOne_0 rfl (lv_at hl 0 rfl) ?_
  refine va_get (D := D) (ci := 5) (v := .long (jl (a))) (C := R_M) (T := T_M) (N := 11) hx hb hts uw_M hown hK.1 hP 0 rfl rfl 6 (by decide) (hts _ fl_M_73) (fun _ h9 => h9) rfl d_M_isOne_1 ?_
  refine lv_lstore_n (lv' := [(1, .long (jl (a))), (0, .ref m0)]) hx hb d_M_isOne_4 rfl hl (by decide) rfl (fun ls hl => ?_)
  refine lv_aload_n hx hb d_M_isOne_5 rfl (lv_at hl 1 rfl) ?_
  refine va_get (D := D) (ci := 5) (v := .long (jl (b))) (C := R_M) (T := T_M) (N := 11) hx hb hts uw_M hown hK.1 hP 0 rfl rfl 7 (by decide) (hts _ fl_M_76) (fun _ h9 => h9) rfl d_M_isOne_6 ?_
  refine lv_lstore_n (lv' := [(3, .long (jl (b))), (1, .long (jl (a))), (0, .ref m0)]) hx hb d_M_isOne_9 rfl hl (by decide) rfl (fun ls hl => ?_)
  refine lv_aload_n hx hb d_M_isOne_10 rfl (lv_at hl 2 rfl) ?_
  refine va_get (D := D) (ci := 5) (v := .long (jl (c))) (C := R_M) (T := T_M) (N := 11) hx hb hts uw_M hown hK.1 hP 0 rfl rfl 8 (by decide) (hts _ fl_M_79) (fun _ h9 => h9) rfl d_M_isOne_11 ?_
  refine lv_lstore (lv' := [(5, .long (jl (c))), (3, .long (jl (b))), (1, .long (jl (a))), (0, .ref m0)]) hx hb d_M_isOne_14 hl (by decide) rfl (fun ls hl => ?_)
  refine lv_aload_n hx hb d_M_isOne_16 rfl (lv_at hl 3 rfl) ?_
  refine cl_v (rn_V (wc := [(m0, .inr (5, [.int (ji (co)), .long (jl (Dd)), .long (jl (w)), .ref mf, .ref mm, .ref ml, .long (jl (a)), .long (jl (b)), .long (jl (c)), .int (ji (np)), .ref mp]))]) (As := []) (rest := []) X hK (c_M_one l D cI cJ cF hg hs _) co_M_one in_M ml_M_85 im_M_one se_M_one 0 rfl (by decide +kernel) ⟨Nat.le_of_ble_eq_true rfl, Nat.le_of_ble_eq_true rfl⟩ hP hD [0] rfl (by decide) (q0 := 0) (ci := 5) rfl rfl rfl hl.1 rfl (Nat.le_of_ble_eq_true rfl) d_M_isOne_17 ⟨Nat.zero_le _, Nat.zero_le _⟩) hP hD hS hA [0] rfl (by decide) (fun _ => rfl) (fun u_1 H locs hp hP hD hS => ?_)
  obtain rfl := fm_nm.uniq hg.1 (show fm_nm Dd w u_1 (fm_one s0 n0) from hp) hz
  have hP : va_P D classes [(m0, .inr (5, [.int (ji (co)), .long (jl (Dd)), .long (jl (w)), .ref mf, .ref mm, .ref ml, .long (jl (z1)), .long (jl (z2)), .long (jl (z3)), .int (ji (np)), .ref mp]))] H := hP
  have hD : va_D A [(m0, .inr (5, [.int (ji (co)), .long (jl (Dd)), .long (jl (w)), .ref mf, .ref mm, .ref ml, .long (jl (z1)), .long (jl (z2)), .long (jl (z3)), .int (ji (np)), .ref mp]))] := hD
  refine lv_aload_n hx hb d_M_isOne_20 rfl (lv_at hl 3 rfl) ?_
  refine va_get (D := D) (ci := 5) (v := .long (jl (z1))) (C := R_M) (T := T_M) (N := 11) hx hb hts uw_M hown hK.1 hP 0 rfl rfl 6 (by decide) (hts _ fl_M_73) (fun _ h9 => h9) rfl d_M_isOne_21 ?_
  refine lv_lload_n hx hb d_M_isOne_24 rfl (lv_at hl 2 rfl) ?_
  refine wl_cne hx hb zb1 h1 d_M_isOne_25 d_M_isOne_26 (tgt := 42) (by decide) (fun h_2 => ?_) (fun h_2 => ?_)
  · refine w_iconst hx hb d_M_isOne_42 ?_
    refine lv_istore (lv' := [(7, .int (ji (0))), (5, .long (jl (c))), (3, .long (jl (b))), (1, .long (jl (a))), (0, .ref m0)]) hx hb d_M_isOne_43 hl (by decide) rfl (fun ls hl => ?_)
    refine lv_aload_n hx hb d_M_isOne_45 rfl (lv_at hl 4 rfl) ?_
    refine lv_lload_n hx hb d_M_isOne_46 rfl (lv_at hl 3 rfl) ?_
    refine va_put (D := D) (ci := 5) (v := .long (jl (a))) (ty := .long) (C := R_M) (T := T_M) (N := 11) hx hb hts uw_M ty_M ty_M_ok nm_M hown hK.1 hP hD hS 0 rfl rfl 6 (by decide) (hts _ fl_M_73) (fun _ h9 => h9) rfl (by decide +kernel) rfl rfl (Nat.le_of_ble_eq_true rfl) d_M_isOne_47 (fun H locs hP hD hS => ?_)
    have hP : va_P D classes [(m0, .inr (5, [.int (ji (co)), .long (jl (Dd)), .long (jl (w)), .ref mf, .ref mm, .ref ml, .long (jl (a)), .long (jl (z2)), .long (jl (z3)), .int (ji (np)), .ref mp]))] H := hP
    have hD : va_D A [(m0, .inr (5, [.int (ji (co)), .long (jl (Dd)), .long (jl (w)), .ref mf, .ref mm, .ref ml, .long (jl (a)), .long (jl (z2)), .long (jl (z3)), .int (ji (np)), .ref mp]))] := hD
    refine lv_aload_n hx hb d_M_isOne_50 rfl (lv_at hl 4 rfl) ?_
    refine lv_lload_n hx hb d_M_isOne_51 rfl (lv_at hl 2 rfl) ?_
    refine va_put (D := D) (ci := 5) (v := .long (jl (b))) (ty := .long) (C := R_M) (T := T_M) (N := 11) hx hb hts uw_M ty_M ty_M_ok nm_M hown hK.1 hP hD hS 0 rfl rfl 7 (by decide) (hts _ fl_M_76) (fun _ h9 => h9) rfl (by decide +kernel) rfl rfl (Nat.le_of_ble_eq_true rfl) d_M_isOne_52 (fun H locs hP hD hS => ?_)
    have hP : va_P D classes [(m0, .inr (5, [.int (ji (co)), .long (jl (Dd)), .long (jl (w)), .ref mf, .ref mm, .ref ml, .long (jl (a)), .long (jl (b)), .long (jl (z3)), .int (ji (np)), .ref mp]))] H := hP
    have hD : va_D A [(m0, .inr (5, [.int (ji (co)), .long (jl (Dd)), .long (jl (w)), .ref mf, .ref mm, .ref ml, .long (jl (a)), .long (jl (b)), .long (jl (z3)), .int (ji (np)), .ref mp]))] := hD
    refine lv_aload_n hx hb d_M_isOne_55 rfl (lv_at hl 4 rfl) ?_
    refine lv_lload hx hb d_M_isOne_56 (lv_at hl 1 rfl) ?_
    refine va_put (D := D) (ci := 5) (v := .long (jl (c))) (ty := .long) (C := R_M) (T := T_M) (N := 11) hx hb hts uw_M ty_M ty_M_ok nm_M hown hK.1 hP hD hS 0 rfl rfl 8 (by decide) (hts _ fl_M_79) (fun _ h9 => h9) rfl (by decide +kernel) rfl rfl (Nat.le_of_ble_eq_true rfl) d_M_isOne_58 (fun H locs hP hD hS => ?_)
    have hP : va_P D classes [(m0, .inr (5, [.int (ji (co)), .long (jl (Dd)), .long (jl (w)), .ref mf, .ref mm, .ref ml, .long (jl (a)), .long (jl (b)), .long (jl (c)), .int (ji (np)), .ref mp]))] H := hP
    have hD : va_D A [(m0, .inr (5, [.int (ji (co)), .long (jl (Dd)), .long (jl (w)), .ref mf, .ref mm, .ref ml, .long (jl (a)), .long (jl (b)), .long (jl (c)), .int (ji (np)), .ref mp]))] := hD
    refine lv_iload hx hb d_M_isOne_61 (lv_at hl 0 rfl) ?_
    exact rt_z X hAe hS () rfl ⟨0, rfl, Or.inr ⟨rfl, fun z => by have z1 := congrArg (fun q => q.1) z; have z2 := congrArg (fun q => q.2.1) z; dsimp only at z1 z2; omega⟩⟩ hP d_M_isOne_63
  · refine lv_aload_n hx hb d_M_isOne_29 rfl (lv_at hl 3 rfl) ?_
    refine va_get (D := D) (ci := 5) (v := .long (jl (z2))) (C := R_M) (T := T_M) (N := 11) hx hb hts uw_M hown hK.1 hP 0 rfl rfl 7 (by decide) (hts _ fl_M_76) (fun _ h9 => h9) rfl d_M_isOne_30 ?_
    refine lv_lload_n hx hb d_M_isOne_33 rfl (lv_at hl 1 rfl) ?_
    refine wl_cne hx hb zb2 h2 d_M_isOne_34 d_M_isOne_35 (tgt := 42) (by decide) (fun h_3 => ?_) (fun h_3 => ?_)
    · refine w_iconst hx hb d_M_isOne_42 ?_
      refine lv_istore (lv' := [(7, .int (ji (0))), (5, .long (jl (c))), (3, .long (jl (b))), (1, .long (jl (a))), (0, .ref m0)]) hx hb d_M_isOne_43 hl (by decide) rfl (fun ls hl => ?_)
      refine lv_aload_n hx hb d_M_isOne_45 rfl (lv_at hl 4 rfl) ?_
      refine lv_lload_n hx hb d_M_isOne_46 rfl (lv_at hl 3 rfl) ?_
      refine va_put (D := D) (ci := 5) (v := .long (jl (a))) (ty := .long) (C := R_M) (T := T_M) (N := 11) hx hb hts uw_M ty_M ty_M_ok nm_M hown hK.1 hP hD hS 0 rfl rfl 6 (by decide) (hts _ fl_M_73) (fun _ h9 => h9) rfl (by decide +kernel) rfl rfl (Nat.le_of_ble_eq_true rfl) d_M_isOne_47 (fun H locs hP hD hS => ?_)
      have hP : va_P D classes [(m0, .inr (5, [.int (ji (co)), .long (jl (Dd)), .long (jl (w)), .ref mf, .ref mm, .ref ml, .long (jl (a)), .long (jl (z2)), .long (jl (z3)), .int (ji (np)), .ref mp]))] H := hP
      have hD : va_D A [(m0, .inr (5, [.int (ji (co)), .long (jl (Dd)), .long (jl (w)), .ref mf, .ref mm, .ref ml, .long (jl (a)), .long (jl (z2)), .long (jl (z3)), .int (ji (np)), .ref mp]))] := hD
      refine lv_aload_n hx hb d_M_isOne_50 rfl (lv_at hl 4 rfl) ?_
      refine lv_lload_n hx hb d_M_isOne_51 rfl (lv_at hl 2 rfl) ?_
      refine va_put (D := D) (ci := 5) (v := .long (jl (b))) (ty := .long) (C := R_M) (T := T_M) (N := 11) hx hb hts uw_M ty_M ty_M_ok nm_M hown hK.1 hP hD hS 0 rfl rfl 7 (by decide) (hts _ fl_M_76) (fun _ h9 => h9) rfl (by decide +kernel) rfl rfl (Nat.le_of_ble_eq_true rfl) d_M_isOne_52 (fun H locs hP hD hS => ?_)
      have hP : va_P D classes [(m0, .inr (5, [.int (ji (co)), .long (jl (Dd)), .long (jl (w)), .ref mf, .ref mm, .ref ml, .long (jl (a)), .long (jl (b)), .long (jl (z3)), .int (ji (np)), .ref mp]))] H := hP
      have hD : va_D A [(m0, .inr (5, [.int (ji (co)), .long (jl (Dd)), .long (jl (w)), .ref mf, .ref mm, .ref ml, .long (jl (a)), .long (jl (b)), .long (jl (z3)), .int (ji (np)), .ref mp]))] := hD
      refine lv_aload_n hx hb d_M_isOne_55 rfl (lv_at hl 4 rfl) ?_
      refine lv_lload hx hb d_M_isOne_56 (lv_at hl 1 rfl) ?_
      refine va_put (D := D) (ci := 5) (v := .long (jl (c))) (ty := .long) (C := R_M) (T := T_M) (N := 11) hx hb hts uw_M ty_M ty_M_ok nm_M hown hK.1 hP hD hS 0 rfl rfl 8 (by decide) (hts _ fl_M_79) (fun _ h9 => h9) rfl (by decide +kernel) rfl rfl (Nat.le_of_ble_eq_true rfl) d_M_isOne_58 (fun H locs hP hD hS => ?_)
      have hP : va_P D classes [(m0, .inr (5, [.int (ji (co)), .long (jl (Dd)), .long (jl (w)), .ref mf, .ref mm, .ref ml, .long (jl (a)), .long (jl (b)), .long (jl (c)), .int (ji (np)), .ref mp]))] H := hP
      have hD : va_D A [(m0, .inr (5, [.int (ji (co)), .long (jl (Dd)), .long (jl (w)), .ref mf, .ref mm, .ref ml, .long (jl (a)), .long (jl (b)), .long (jl (c)), .int (ji (np)), .ref mp]))] := hD
      refine lv_iload hx hb d_M_isOne_61 (lv_at hl 0 rfl) ?_
      exact rt_z X hAe hS () rfl ⟨0, rfl, Or.inr ⟨rfl, fun z => by have z1 := congrArg (fun q => q.1) z; have z2 := congrArg (fun q => q.2.1) z; dsimp only at z1 z2; omega⟩⟩ hP d_M_isOne_63
    · refine w_iconst hx hb d_M_isOne_38 ?_
      refine lv_goto (tgt := 43) hx hb d_M_isOne_39 (by decide) ?_
      refine lv_istore (lv' := [(7, .int (ji (1))), (5, .long (jl (c))), (3, .long (jl (b))), (1, .long (jl (a))), (0, .ref m0)]) hx hb d_M_isOne_43 hl (by decide) rfl (fun ls hl => ?_)
      refine lv_aload_n hx hb d_M_isOne_45 rfl (lv_at hl 4 rfl) ?_
      refine lv_lload_n hx hb d_M_isOne_46 rfl (lv_at hl 3 rfl) ?_
      refine va_put (D := D) (ci := 5) (v := .long (jl (a))) (ty := .long) (C := R_M) (T := T_M) (N := 11) hx hb hts uw_M ty_M ty_M_ok nm_M hown hK.1 hP hD hS 0 rfl rfl 6 (by decide) (hts _ fl_M_73) (fun _ h9 => h9) rfl (by decide +kernel) rfl rfl (Nat.le_of_ble_eq_true rfl) d_M_isOne_47 (fun H locs hP hD hS => ?_)
      have hP : va_P D classes [(m0, .inr (5, [.int (ji (co)), .long (jl (Dd)), .long (jl (w)), .ref mf, .ref mm, .ref ml, .long (jl (a)), .long (jl (z2)), .long (jl (z3)), .int (ji (np)), .ref mp]))] H := hP
      have hD : va_D A [(m0, .inr (5, [.int (ji (co)), .long (jl (Dd)), .long (jl (w)), .ref mf, .ref mm, .ref ml, .long (jl (a)), .long (jl (z2)), .long (jl (z3)), .int (ji (np)), .ref mp]))] := hD
      refine lv_aload_n hx hb d_M_isOne_50 rfl (lv_at hl 4 rfl) ?_
      refine lv_lload_n hx hb d_M_isOne_51 rfl (lv_at hl 2 rfl) ?_
      refine va_put (D := D) (ci := 5) (v := .long (jl (b))) (ty := .long) (C := R_M) (T := T_M) (N := 11) hx hb hts uw_M ty_M ty_M_ok nm_M hown hK.1 hP hD hS 0 rfl rfl 7 (by decide) (hts _ fl_M_76) (fun _ h9 => h9) rfl (by decide +kernel) rfl rfl (Nat.le_of_ble_eq_true rfl) d_M_isOne_52 (fun H locs hP hD hS => ?_)
      have hP : va_P D classes [(m0, .inr (5, [.int (ji (co)), .long (jl (Dd)), .long (jl (w)), .ref mf, .ref mm, .ref ml, .long (jl (a)), .long (jl (b)), .long (jl (z3)), .int (ji (np)), .ref mp]))] H := hP
      have hD : va_D A [(m0, .inr (5, [.int (ji (co)), .long (jl (Dd)), .long (jl (w)), .ref mf, .ref mm, .ref ml, .long (jl (a)), .long (jl (b)), .long (jl (z3)), .int (ji (np)), .ref mp]))] := hD
      refine lv_aload_n hx hb d_M_isOne_55 rfl (lv_at hl 4 rfl) ?_
      refine lv_lload hx hb d_M_isOne_56 (lv_at hl 1 rfl) ?_
      refine va_put (D := D) (ci := 5) (v := .long (jl (c))) (ty := .long) (C := R_M) (T := T_M) (N := 11) hx hb hts uw_M ty_M ty_M_ok nm_M hown hK.1 hP hD hS 0 rfl rfl 8 (by decide) (hts _ fl_M_79) (fun _ h9 => h9) rfl (by decide +kernel) rfl rfl (Nat.le_of_ble_eq_true rfl) d_M_isOne_58 (fun H locs hP hD hS => ?_)
      have hP : va_P D classes [(m0, .inr (5, [.int (ji (co)), .long (jl (Dd)), .long (jl (w)), .ref mf, .ref mm, .ref ml, .long (jl (a)), .long (jl (b)), .long (jl (c)), .int (ji (np)), .ref mp]))] H := hP
      have hD : va_D A [(m0, .inr (5, [.int (ji (co)), .long (jl (Dd)), .long (jl (w)), .ref mf, .ref mm, .ref ml, .long (jl (a)), .long (jl (b)), .long (jl (c)), .int (ji (np)), .ref mp]))] := hD
      refine lv_iload hx hb d_M_isOne_61 (lv_at hl 0 rfl) ?_
      exact rt_z X hAe hS () rfl ⟨1, rfl, Or.inl ⟨rfl, same_ab hg.1 hd hz.1 (by dsimp only; omega) (by dsimp only; omega)⟩⟩ hP d_M_isOne_63

set_option maxHeartbeats 4000000 in
set_option maxRecDepth 100000 in
theorem c_M_formsOf (l : Launch) (D : va_G) (cI cJ cF : ClassId) {m0 mf mm ml mp : Nat} {co Dd w np : Int} {a b c r0 : Int} {F1 F2 F3 : Nat → Int} (hr0 : 0 ≤ r0) (hr7 : r0 ≤ 7) (hg : gD Dd w) (hd : fm_disc Dd (F1 r0.toNat, F2 r0.toNat, F3 r0.toNat)) (hrd : fm_red Dd w (F1 r0.toNat, F2 r0.toNat, F3 r0.toNat)) : ∀ sz, Met l y_M_formsOf (Cond.code y_M_formsOf b_M_formsOf 3 (some .int) :: wb) { frames := 2, cells := 0, slots := 0, locals := 60 } (va_Pc [.ref m0, .int (ji (r0))] (cpre D cI cJ cF [(m0, .inr (5, [.int (ji (co)), .long (jl (Dd)), .long (jl (w)), .ref mf, .ref mm, .ref ml, .long (jl (a)), .long (jl (b)), .long (jl (c)), .int (ji (np)), .ref mp])), (mf, .inl (cJ, 8, .inr (.inl (fun j => jl ((F1) j))))), (mm, .inl (cJ, 8, .inr (.inl (fun j => jl ((F2) j))))), (ml, .inl (cJ, 8, .inr (.inl (fun j => jl ((F3) j)))))] sz)) (va_Qi (fun r (u : fm_F) => ∃ N : Int, r = ji N ∧ fm_ct Dd w (F1 r0.toNat, F2 r0.toNat, F3 r0.toNat) N ∧ 1 ≤ N ∧ N ≤ 524288) (fun (u : fm_F) tS => va_P D classes [(m0, .inr (5, [.int (ji (co)), .long (jl (Dd)), .long (jl (w)), .ref mf, .ref mm, .ref ml, .long (jl (u.1)), .long (jl (u.2.1)), .long (jl (u.2.2)), .int (ji (np)), .ref mp])), (mf, .inl (cJ, 8, .inr (.inl (fun j => jl ((F1) j))))), (mm, .inl (cJ, 8, .inr (.inl (fun j => jl ((F2) j))))), (ml, .inl (cJ, 8, .inr (.inl (fun j => jl ((F3) j)))))] tS.heap) (va_A [(m0, .inr (5, [.int (ji (co)), .long (jl (Dd)), .long (jl (w)), .ref mf, .ref mm, .ref ml, .long (jl (a)), .long (jl (b)), .long (jl (c)), .int (ji (np)), .ref mp])), (mf, .inl (cJ, 8, .inr (.inl (fun j => jl ((F1) j))))), (mm, .inl (cJ, 8, .inr (.inl (fun j => jl ((F2) j))))), (ml, .inl (cJ, 8, .inr (.inl (fun j => jl ((F3) j)))))] sz)) 0 0 (va_A [(m0, .inr (5, [.int (ji (co)), .long (jl (Dd)), .long (jl (w)), .ref mf, .ref mm, .ref ml, .long (jl (a)), .long (jl (b)), .long (jl (c)), .int (ji (np)), .ref mp])), (mf, .inl (cJ, 8, .inr (.inl (fun j => jl ((F1) j))))), (mm, .inl (cJ, 8, .inr (.inl (fun j => jl ((F2) j))))), (ml, .inl (cJ, 8, .inr (.inl (fun j => jl ((F3) j)))))] sz) := by
  refine c_of (Qc := fun sz => va_Qi (fun r (u : fm_F) => ∃ N : Int, r = ji N ∧ fm_ct Dd w (F1 r0.toNat, F2 r0.toNat, F3 r0.toNat) N ∧ 1 ≤ N ∧ N ≤ 524288) (fun (u : fm_F) tS => va_P D classes [(m0, .inr (5, [.int (ji (co)), .long (jl (Dd)), .long (jl (w)), .ref mf, .ref mm, .ref ml, .long (jl (u.1)), .long (jl (u.2.1)), .long (jl (u.2.2)), .int (ji (np)), .ref mp])), (mf, .inl (cJ, 8, .inr (.inl (fun j => jl ((F1) j))))), (mm, .inl (cJ, 8, .inr (.inl (fun j => jl ((F2) j))))), (ml, .inl (cJ, 8, .inr (.inl (fun j => jl ((F3) j)))))] tS.heap) (va_A [(m0, .inr (5, [.int (ji (co)), .long (jl (Dd)), .long (jl (w)), .ref mf, .ref mm, .ref ml, .long (jl (a)), .long (jl (b)), .long (jl (c)), .int (ji (np)), .ref mp])), (mf, .inl (cJ, 8, .inr (.inl (fun j => jl ((F1) j))))), (mm, .inl (cJ, 8, .inr (.inl (fun j => jl ((F2) j))))), (ml, .inl (cJ, 8, .inr (.inl (fun j => jl ((F3) j)))))] sz)) (by decide +kernel) co_M_formsOf (Nat.le_of_ble_eq_true rfl) ?_
  intro pq eq s mq below meth cq A X hK hP hD hS hA hAe ls hl
  obtain ⟨hx, hb, hml, hown, hr, hlocks, hts⟩ := id X
  have hl : lv_has ls 3 [(0, .ref m0), (1, .int (ji (r0)))] := hl
  have zd1 := hg.2.1
  have zd2 := hg.2.2.1
  refine lv_aload_n hx hb d_M_formsOf_0 rfl (lv_at hl 0 rfl) ?_
  refine va_get (D := D) (ci := 5) (v := .long (jl (Dd))) (C := R_M) (T := T_M) (N := 11) hx hb hts uw_M hown hK.1 hP 0 rfl rfl 1 (by decide) (hts _ fl_M_9) (fun _ h9 => h9) rfl d_M_formsOf_1 ?_
  refine w_lconst (v := 0) hx hb rfl d_M_formsOf_4 ?_
  refine wl_cge hx hb ⟨by omega, by omega⟩ ⟨by decide, by decide⟩ d_M_formsOf_5 d_M_formsOf_6 (tgt := 11) (by decide) (fun h_1 => ?_) (fun h_1 => ?_)
  · have hD0 : ¬ Dd < 0 := by omega
    obtain ⟨pz, m0x, m1, hmm⟩ := fm_period hg.1 hg.2.2.2 hD0 hd hrd
    have fb := red_b30 hg hd hrd
    have fb1 := fb.1.j
    have fb2 := fb.2.1.j
    refine lv_aload_n hx hb d_M_formsOf_11 rfl (lv_at hl 0 rfl) ?_
    refine lv_iload_n hx hb d_M_formsOf_12 rfl (lv_at hl 1 rfl) ?_
    refine cl_v (rn_V (wc := [(m0, .inr (5, [.int (ji (co)), .long (jl (Dd)), .long (jl (w)), .ref mf, .ref mm, .ref ml, .long (jl (a)), .long (jl (b)), .long (jl (c)), .int (ji (np)), .ref mp])), (mf, .inl (cJ, 8, .inr (.inl (fun j => jl ((F1) j))))), (mm, .inl (cJ, 8, .inr (.inl (fun j => jl ((F2) j))))), (ml, .inl (cJ, 8, .inr (.inl (fun j => jl ((F3) j)))))]) (As := [.int (ji (r0))]) (rest := []) X hK (c_M_load l D cI cJ cF hr0 hr7 _) co_M_load in_M ml_M_98 im_M_load se_M_load 1 rfl (by decide +kernel) ⟨Nat.le_of_ble_eq_true rfl, Nat.le_of_ble_eq_true rfl⟩ hP hD [0, 1, 2, 3] rfl (by decide) (q0 := 0) (ci := 5) rfl rfl rfl hl.1 rfl (Nat.le_of_ble_eq_true rfl) d_M_formsOf_13 ⟨Nat.zero_le _, Nat.zero_le _⟩) hP hD hS hA [0, 1, 2, 3] rfl (by decide) (fun _ => rfl) (fun u_2 H locs hp hP hD hS => ?_)
    have hP : va_P D classes [(m0, .inr (5, [.int (ji (co)), .long (jl (Dd)), .long (jl (w)), .ref mf, .ref mm, .ref ml, .long (jl ((F1) (r0 : Int).toNat)), .long (jl ((F2) (r0 : Int).toNat)), .long (jl ((F3) (r0 : Int).toNat)), .int (ji (np)), .ref mp])), (mf, .inl (cJ, 8, .inr (.inl (fun j => jl ((F1) j))))), (mm, .inl (cJ, 8, .inr (.inl (fun j => jl ((F2) j))))), (ml, .inl (cJ, 8, .inr (.inl (fun j => jl ((F3) j)))))] H := hP
    have hD : va_D A [(m0, .inr (5, [.int (ji (co)), .long (jl (Dd)), .long (jl (w)), .ref mf, .ref mm, .ref ml, .long (jl ((F1) (r0 : Int).toNat)), .long (jl ((F2) (r0 : Int).toNat)), .long (jl ((F3) (r0 : Int).toNat)), .int (ji (np)), .ref mp])), (mf, .inl (cJ, 8, .inr (.inl (fun j => jl ((F1) j))))), (mm, .inl (cJ, 8, .inr (.inl (fun j => jl ((F2) j))))), (ml, .inl (cJ, 8, .inr (.inl (fun j => jl ((F3) j)))))] := hD
    refine w_iconst hx hb d_M_formsOf_16 ?_
    refine lv_istore_n (lv' := [(2, .int (ji (0))), (0, .ref m0), (1, .int (ji (r0)))]) hx hb d_M_formsOf_17 rfl hl (by decide) rfl (fun ls hl => ?_)
    refine lpn (I := fun nlp H locs ls => ∃ (nn : Nat), pz - nn = nlp ∧ (nn < pz ∧ ∀ j : Nat, 0 < j → j ≤ nn → fm_it Dd w j (F1 r0.toNat, F2 r0.toNat, F3 r0.toNat) ≠ (F1 r0.toNat, F2 r0.toNat, F3 r0.toNat)) ∧ va_P D classes [(m0, .inr (5, [.int (ji (co)), .long (jl (Dd)), .long (jl (w)), .ref mf, .ref mm, .ref ml, .long (jl ((fm_it Dd w nn (F1 r0.toNat, F2 r0.toNat, F3 r0.toNat)).1)), .long (jl ((fm_it Dd w nn (F1 r0.toNat, F2 r0.toNat, F3 r0.toNat)).2.1)), .long (jl ((fm_it Dd w nn (F1 r0.toNat, F2 r0.toNat, F3 r0.toNat)).2.2)), .int (ji (np)), .ref mp])), (mf, .inl (cJ, 8, .inr (.inl (fun j => jl ((F1) j))))), (mm, .inl (cJ, 8, .inr (.inl (fun j => jl ((F2) j))))), (ml, .inl (cJ, 8, .inr (.inl (fun j => jl ((F3) j)))))] H ∧ va_D A [(m0, .inr (5, [.int (ji (co)), .long (jl (Dd)), .long (jl (w)), .ref mf, .ref mm, .ref ml, .long (jl ((fm_it Dd w nn (F1 r0.toNat, F2 r0.toNat, F3 r0.toNat)).1)), .long (jl ((fm_it Dd w nn (F1 r0.toNat, F2 r0.toNat, F3 r0.toNat)).2.1)), .long (jl ((fm_it Dd w nn (F1 r0.toNat, F2 r0.toNat, F3 r0.toNat)).2.2)), .int (ji (np)), .ref mp])), (mf, .inl (cJ, 8, .inr (.inl (fun j => jl ((F1) j))))), (mm, .inl (cJ, 8, .inr (.inl (fun j => jl ((F2) j))))), (ml, .inl (cJ, 8, .inr (.inl (fun j => jl ((F3) j)))))] ∧ va_S A s.heap H locs ∧ lv_has ls 3 [(0, .ref m0), (1, .int (ji (r0))), (2, .int (ji (nn)))]) ?_ _ _ _ _ ⟨0, rfl, ⟨m0x, fun j z1 z2 => absurd z1 (by omega)⟩, hP, hD, hS, lv_sub hl [1, 2, 0] rfl⟩
    rintro nlp H locs ls ⟨nn, rfl, hi, hP, hD, hS, hl⟩ ih
    obtain ⟨j1, j2⟩ := hi
    have xd0 := fm_it_disc hg.1 nn hd
    have xr0 := fm_red_it hg.1 hD0 nn hd hrd
    have xb0 := red_b30 hg xd0 xr0
    have xd1 := fm_it_disc hg.1 (nn + 1) hd
    have xr1 := fm_red_it hg.1 hD0 (nn + 1) hd hrd
    have xb1 := red_b30 hg xd1 xr1
    have xj1 := xb1.1.j
    have xj2 := xb1.2.1.j
    refine lv_aload_n hx hb d_M_formsOf_18 rfl (lv_at hl 0 rfl) ?_
    refine cl_v (rn_V (wc := [(m0, .inr (5, [.int (ji (co)), .long (jl (Dd)), .long (jl (w)), .ref mf, .ref mm, .ref ml, .long (jl ((fm_it Dd w nn (F1 r0.toNat, F2 r0.toNat, F3 r0.toNat)).1)), .long (jl ((fm_it Dd w nn (F1 r0.toNat, F2 r0.toNat, F3 r0.toNat)).2.1)), .long (jl ((fm_it Dd w nn (F1 r0.toNat, F2 r0.toNat, F3 r0.toNat)).2.2)), .int (ji (np)), .ref mp]))]) (As := []) (rest := []) X hK (c_M_step l D cI cJ cF hg xd0 xb0.2.1.g.b xb0.2.2.g _) co_M_step in_M ml_M_95 im_M_step se_M_step 0 rfl (by decide +kernel) ⟨Nat.le_of_ble_eq_true rfl, Nat.le_of_ble_eq_true rfl⟩ hP hD [0] rfl (by decide) (q0 := 0) (ci := 5) rfl rfl rfl hl.1 rfl (Nat.le_of_ble_eq_true rfl) d_M_formsOf_19 ⟨Nat.zero_le _, Nat.zero_le _⟩) hP hD hS hA [0] rfl (by decide) (fun _ => rfl) (fun u_3 H locs hp hP hD hS => ?_)
    have hP : va_P D classes [(m0, .inr (5, [.int (ji (co)), .long (jl (Dd)), .long (jl (w)), .ref mf, .ref mm, .ref ml, .long (jl ((fm_rho Dd w ((fm_it Dd w nn (F1 r0.toNat, F2 r0.toNat, F3 r0.toNat)).1, (fm_it Dd w nn (F1 r0.toNat, F2 r0.toNat, F3 r0.toNat)).2.1, (fm_it Dd w nn (F1 r0.toNat, F2 r0.toNat, F3 r0.toNat)).2.2)).1)), .long (jl ((fm_rho Dd w ((fm_it Dd w nn (F1 r0.toNat, F2 r0.toNat, F3 r0.toNat)).1, (fm_it Dd w nn (F1 r0.toNat, F2 r0.toNat, F3 r0.toNat)).2.1, (fm_it Dd w nn (F1 r0.toNat, F2 r0.toNat, F3 r0.toNat)).2.2)).2.1)), .long (jl ((fm_rho Dd w ((fm_it Dd w nn (F1 r0.toNat, F2 r0.toNat, F3 r0.toNat)).1, (fm_it Dd w nn (F1 r0.toNat, F2 r0.toNat, F3 r0.toNat)).2.1, (fm_it Dd w nn (F1 r0.toNat, F2 r0.toNat, F3 r0.toNat)).2.2)).2.2)), .int (ji (np)), .ref mp])), (mf, .inl (cJ, 8, .inr (.inl (fun j => jl ((F1) j))))), (mm, .inl (cJ, 8, .inr (.inl (fun j => jl ((F2) j))))), (ml, .inl (cJ, 8, .inr (.inl (fun j => jl ((F3) j)))))] H := hP
    have hD : va_D A [(m0, .inr (5, [.int (ji (co)), .long (jl (Dd)), .long (jl (w)), .ref mf, .ref mm, .ref ml, .long (jl ((fm_rho Dd w ((fm_it Dd w nn (F1 r0.toNat, F2 r0.toNat, F3 r0.toNat)).1, (fm_it Dd w nn (F1 r0.toNat, F2 r0.toNat, F3 r0.toNat)).2.1, (fm_it Dd w nn (F1 r0.toNat, F2 r0.toNat, F3 r0.toNat)).2.2)).1)), .long (jl ((fm_rho Dd w ((fm_it Dd w nn (F1 r0.toNat, F2 r0.toNat, F3 r0.toNat)).1, (fm_it Dd w nn (F1 r0.toNat, F2 r0.toNat, F3 r0.toNat)).2.1, (fm_it Dd w nn (F1 r0.toNat, F2 r0.toNat, F3 r0.toNat)).2.2)).2.1)), .long (jl ((fm_rho Dd w ((fm_it Dd w nn (F1 r0.toNat, F2 r0.toNat, F3 r0.toNat)).1, (fm_it Dd w nn (F1 r0.toNat, F2 r0.toNat, F3 r0.toNat)).2.1, (fm_it Dd w nn (F1 r0.toNat, F2 r0.toNat, F3 r0.toNat)).2.2)).2.2)), .int (ji (np)), .ref mp])), (mf, .inl (cJ, 8, .inr (.inl (fun j => jl ((F1) j))))), (mm, .inl (cJ, 8, .inr (.inl (fun j => jl ((F2) j))))), (ml, .inl (cJ, 8, .inr (.inl (fun j => jl ((F3) j)))))] := hD
    have e1 : fm_rho Dd w ((fm_it Dd w nn (F1 r0.toNat, F2 r0.toNat, F3 r0.toNat)).1, (fm_it Dd w nn (F1 r0.toNat, F2 r0.toNat, F3 r0.toNat)).2.1, (fm_it Dd w nn (F1 r0.toNat, F2 r0.toNat, F3 r0.toNat)).2.2) = fm_it Dd w (nn + 1) (F1 r0.toNat, F2 r0.toNat, F3 r0.toNat) := (fm_it_succ Dd w nn (F1 r0.toNat, F2 r0.toNat, F3 r0.toNat)).symm
    rw [e1] at hP hD
    refine lv_iinc (v := ji ((nn) + (1))) (lv' := [(2, .int (ji ((nn) + (1)))), (0, .ref m0), (1, .int (ji (r0)))]) hx hb d_M_formsOf_22 hl (k := 2) rfl (ji_add _ _) (by decide) rfl (fun ls hl => ?_)
    refine lv_aload_n hx hb d_M_formsOf_25 rfl (lv_at hl 1 rfl) ?_
    refine va_get (D := D) (ci := 5) (v := .long (jl ((fm_it Dd w (nn + 1) (F1 r0.toNat, F2 r0.toNat, F3 r0.toNat)).1))) (C := R_M) (T := T_M) (N := 11) hx hb hts uw_M hown hK.1 hP 0 rfl rfl 6 (by decide) (hts _ fl_M_73) (fun _ h9 => h9) rfl d_M_formsOf_26 ?_
    refine lv_aload_n hx hb d_M_formsOf_29 rfl (lv_at hl 1 rfl) ?_
    refine va_get (D := D) (ci := 5) (v := .ref mf) (C := R_M) (T := T_M) (N := 11) hx hb hts uw_M hown hK.1 hP 0 rfl rfl 3 (by decide) (hts _ fl_M_20) (fun _ h9 => h9) rfl d_M_formsOf_30 ?_
    refine lv_iload_n hx hb d_M_formsOf_33 rfl (lv_at hl 2 rfl) ?_
    refine w_lald (F := F1) hx hb hK hP 1 rfl ⟨by omega, by omega, by omega⟩ d_M_formsOf_34 ?_
    refine wl_cne hx hb xj1 fb1 d_M_formsOf_35 d_M_formsOf_36 (tgt := 18) (by decide) (fun h_4 => ?_) (fun h_4 => ?_)
    · have hxe : fm_it Dd w (nn + 1) (F1 r0.toNat, F2 r0.toNat, F3 r0.toNat) ≠ (F1 r0.toNat, F2 r0.toNat, F3 r0.toNat) := fun z => by have z1 := congrArg (fun q => q.1) z; have z2 := congrArg (fun q => q.2.1) z; dsimp only at z1 z2; omega
      have hnm : nn + 1 ≠ pz := fun z => hxe (by rw [z]; exact hmm)
      exact ih _ _ _ _ (by omega) ⟨nn + 1, rfl, ⟨by omega, fun j z1 z2 => by rcases Nat.lt_or_ge j (nn + 1) with y | y; exact j2 j z1 (by omega); (have e : j = nn + 1 := by omega); rw [e]; exact hxe⟩, hP, hD, hS, lv_sub hl [1, 2, 0] rfl⟩
    · refine lv_aload_n hx hb d_M_formsOf_39 rfl (lv_at hl 1 rfl) ?_
      refine va_get (D := D) (ci := 5) (v := .long (jl ((fm_it Dd w (nn + 1) (F1 r0.toNat, F2 r0.toNat, F3 r0.toNat)).2.1))) (C := R_M) (T := T_M) (N := 11) hx hb hts uw_M hown hK.1 hP 0 rfl rfl 7 (by decide) (hts _ fl_M_76) (fun _ h9 => h9) rfl d_M_formsOf_40 ?_
      refine lv_aload_n hx hb d_M_formsOf_43 rfl (lv_at hl 1 rfl) ?_
      refine va_get (D := D) (ci := 5) (v := .ref mm) (C := R_M) (T := T_M) (N := 11) hx hb hts uw_M hown hK.1 hP 0 rfl rfl 4 (by decide) (hts _ fl_M_24) (fun _ h9 => h9) rfl d_M_formsOf_44 ?_
      refine lv_iload_n hx hb d_M_formsOf_47 rfl (lv_at hl 2 rfl) ?_
      refine w_lald (F := F2) hx hb hK hP 2 rfl ⟨by omega, by omega, by omega⟩ d_M_formsOf_48 ?_
      refine wl_cne hx hb xj2 fb2 d_M_formsOf_49 d_M_formsOf_50 (tgt := 18) (by decide) (fun h_5 => ?_) (fun h_5 => ?_)
      · have hxe : fm_it Dd w (nn + 1) (F1 r0.toNat, F2 r0.toNat, F3 r0.toNat) ≠ (F1 r0.toNat, F2 r0.toNat, F3 r0.toNat) := fun z => by have z1 := congrArg (fun q => q.1) z; have z2 := congrArg (fun q => q.2.1) z; dsimp only at z1 z2; omega
        have hnm : nn + 1 ≠ pz := fun z => hxe (by rw [z]; exact hmm)
        exact ih _ _ _ _ (by omega) ⟨nn + 1, rfl, ⟨by omega, fun j z1 z2 => by rcases Nat.lt_or_ge j (nn + 1) with y | y; exact j2 j z1 (by omega); (have e : j = nn + 1 := by omega); rw [e]; exact hxe⟩, hP, hD, hS, lv_sub hl [1, 2, 0] rfl⟩
      · have hxe : fm_it Dd w (((nn : Int) + 1).toNat) (F1 r0.toNat, F2 r0.toNat, F3 r0.toNat) = (F1 r0.toNat, F2 r0.toNat, F3 r0.toNat) := by rw [show ((nn : Int) + 1).toNat = nn + 1 by omega]; exact same_ab hg.1 xd1 hd (by dsimp only at *; omega) (by dsimp only at *; omega)
        refine lv_iload_n hx hb d_M_formsOf_53 rfl (lv_at hl 0 rfl) ?_
        exact rt_i X hAe hS (fm_it Dd w (nn + 1) (F1 r0.toNat, F2 r0.toNat, F3 r0.toNat)) ⟨(nn : Int) + 1, rfl, ⟨fun z => absurd z hD0, fun _ => ⟨by omega, hxe, fun j z1 z2 => j2 j z1 (by omega)⟩⟩, by omega, by omega⟩ hP d_M_formsOf_54
  · refine w_iconst hx hb d_M_formsOf_9 ?_
    exact rt_i X hAe hS (a, b, c) ⟨1, rfl, ⟨fun _ => rfl, fun z => absurd (by omega) z⟩, by decide, by decide⟩ hP d_M_formsOf_10

set_option maxHeartbeats 4000000 in
set_option maxRecDepth 100000 in
theorem c_M_inverse (l : Launch) (D : va_G) (cI cJ cF : ClassId) {x mo : Int} (h1 : jL x) (h2 : jL mo) (h0 : 0 < mo) (hc : Int.gcd x mo = 1) : ∀ sz, Met l y_M_inverse (Cond.code y_M_inverse b_M_inverse 16 (some .long) :: wb) { frames := 1, cells := 0, slots := 0, locals := 25 } (va_Pc [.long (jl (x)), .long (jl (mo))] (cpre D cI cJ cF [] sz)) (va_Ql (fun r (u : Unit) => ∃ z : Int, r = jl z ∧ 0 ≤ z ∧ z < mo ∧ mo ∣ z * x - 1) (fun (u : Unit) tS => va_P D classes [] tS.heap) (va_A [] sz)) 0 0 (va_A [] sz) := by
  refine c_of (Qc := fun sz => va_Ql (fun r (u : Unit) => ∃ z : Int, r = jl z ∧ 0 ≤ z ∧ z < mo ∧ mo ∣ z * x - 1) (fun (u : Unit) tS => va_P D classes [] tS.heap) (va_A [] sz)) (by decide +kernel) co_M_inverse (Nat.le_of_ble_eq_true rfl) ?_
  intro pq eq s mq below meth cq A X hK hP hD hS hA hAe ls hl
  obtain ⟨hx, hb, hml, hown, hr, hlocks, hts⟩ := id X
  have hl : lv_has ls 16 [(0, .long (jl (x))), (2, .long (jl (mo)))] := hl
  have zm1 := h2.1
  have zm2 := h2.2
  refine w_lconst (v := 1) hx hb rfl d_M_inverse_0 ?_
  refine lv_lstore (lv' := [(4, .long (jl (1))), (0, .long (jl (x))), (2, .long (jl (mo)))]) hx hb d_M_inverse_1 hl (by decide) rfl (fun ls hl => ?_)
  refine w_lconst (v := 0) hx hb rfl d_M_inverse_3 ?_
  refine lv_lstore (lv' := [(6, .long (jl (0))), (4, .long (jl (1))), (0, .long (jl (x))), (2, .long (jl (mo)))]) hx hb d_M_inverse_4 hl (by decide) rfl (fun ls hl => ?_)
  refine lv_lload_n hx hb d_M_inverse_6 rfl (lv_at hl 2 rfl) ?_
  refine lv_lload_n hx hb d_M_inverse_7 rfl (lv_at hl 3 rfl) ?_
  refine cl_l (rn_S (wc := []) (As := [.long (jl (x)), .long (jl (mo))]) (rest := []) X hK (c_M_rest l D cI cJ cF h1 h2 h0 _) co_M_rest in_M ml_M_69 st_M_rest 2 rfl (by decide +kernel) ⟨Nat.le_of_ble_eq_true rfl, Nat.le_of_ble_eq_true rfl⟩ hP hD [] rfl (by decide) hl.1 rfl (Nat.le_of_ble_eq_true rfl) d_M_inverse_8 ⟨Nat.zero_le _, Nat.zero_le _⟩) hP hD hS hA [] rfl (by decide) (fun _ => rfl) (fun r_1 u_2 H locs hp hP hD hS => ?_)
  have hP : va_P D classes [] H := hP
  have hD : va_D A [] := hD
  obtain rfl : r_1 = jl ((x) % (mo)) := hp
  refine lv_lstore (lv' := [(8, .long (jl ((x) % (mo)))), (6, .long (jl (0))), (4, .long (jl (1))), (0, .long (jl (x))), (2, .long (jl (mo)))]) hx hb d_M_inverse_11 hl (by decide) rfl (fun ls hl => ?_)
  refine lv_lload_n hx hb d_M_inverse_13 rfl (lv_at hl 4 rfl) ?_
  refine lv_lstore (lv' := [(10, .long (jl (mo))), (8, .long (jl ((x) % (mo)))), (6, .long (jl (0))), (4, .long (jl (1))), (0, .long (jl (x))), (2, .long (jl (mo)))]) hx hb d_M_inverse_14 hl (by decide) rfl (fun ls hl => ?_)
  refine lpn (I := fun nlp H locs ls => ∃ (xx : Int) (yy : Int) (uu : Int) (vv : Int), vv.toNat = nlp ∧ (iv x mo xx yy uu vv) ∧ va_P D classes [] H ∧ va_D A [] ∧ va_S A s.heap H locs ∧ lv_has ls 16 [(0, .long (jl (x))), (2, .long (jl (mo))), (4, .long (jl (xx))), (6, .long (jl (yy))), (8, .long (jl (uu))), (10, .long (jl (vv)))]) ?_ _ _ _ _ ⟨1, 0, x % mo, mo, rfl, iv_0 h0 hc, hP, hD, hS, lv_sub hl [4, 5, 3, 2, 1, 0] rfl⟩
  rintro nlp H locs ls ⟨xx, yy, uu, vv, rfl, hi, hP, hD, hS, hl⟩ ih
  obtain ⟨i1, i2, i3, i4, -, -, -, -, i5, i6, -⟩ := id hi
  refine lv_lload hx hb d_M_inverse_16 (lv_at hl 5 rfl) ?_
  refine w_lconst (v := 0) hx hb rfl d_M_inverse_18 ?_
  refine wl_cle hx hb ⟨by omega, by omega⟩ ⟨by decide, by decide⟩ d_M_inverse_19 d_M_inverse_20 (tgt := 69) (by decide) (fun h_3 => ?_) (fun h_3 => ?_)
  · refine lv_lload hx hb d_M_inverse_69 (lv_at hl 2 rfl) ?_
    refine lv_lload_n hx hb d_M_inverse_71 rfl (lv_at hl 1 rfl) ?_
    refine cl_l (rn_S (wc := []) (As := [.long (jl (xx)), .long (jl (mo))]) (rest := []) X hK (c_M_rest l D cI cJ cF ⟨by omega, by omega⟩ h2 h0 _) co_M_rest in_M ml_M_69 st_M_rest 2 rfl (by decide +kernel) ⟨Nat.le_of_ble_eq_true rfl, Nat.le_of_ble_eq_true rfl⟩ hP hD [] rfl (by decide) hl.1 rfl (Nat.le_of_ble_eq_true rfl) d_M_inverse_72 ⟨Nat.zero_le _, Nat.zero_le _⟩) hP hD hS hA [] rfl (by decide) (fun _ => rfl) (fun r_4 u_5 H locs hp hP hD hS => ?_)
    have hP : va_P D classes [] H := hP
    have hD : va_D A [] := hD
    obtain rfl : r_4 = jl ((xx) % (mo)) := hp
    exact rt_l X hAe hS () ⟨xx % mo, rfl, iv_e h0 hi (by omega)⟩ hP d_M_inverse_75
  · refine lv_lload hx hb d_M_inverse_23 (lv_at hl 4 rfl) ?_
    refine lv_lload hx hb d_M_inverse_25 (lv_at hl 5 rfl) ?_
    refine wl_div hx hb ⟨by omega, by omega⟩ ⟨by omega, by omega⟩ (by omega) d_M_inverse_27 ?_
    refine lv_lstore (lv' := [(12, .long (jl ((uu).tdiv (vv)))), (0, .long (jl (x))), (2, .long (jl (mo))), (4, .long (jl (xx))), (6, .long (jl (yy))), (8, .long (jl (uu))), (10, .long (jl (vv)))]) hx hb d_M_inverse_28 hl (by decide) rfl (fun ls hl => ?_)
    refine lv_lload hx hb d_M_inverse_30 (lv_at hl 5 rfl) ?_
    refine lv_lload hx hb d_M_inverse_32 (lv_at hl 0 rfl) ?_
    refine lv_lload hx hb d_M_inverse_34 (lv_at hl 6 rfl) ?_
    refine wl_mul hx hb d_M_inverse_36 ?_
    refine wl_sub hx hb d_M_inverse_37 ?_
    refine lv_lstore (lv' := [(14, .long (jl ((uu) - (((uu).tdiv (vv)) * (vv))))), (12, .long (jl ((uu).tdiv (vv)))), (0, .long (jl (x))), (2, .long (jl (mo))), (4, .long (jl (xx))), (6, .long (jl (yy))), (8, .long (jl (uu))), (10, .long (jl (vv)))]) hx hb d_M_inverse_38 hl (by decide) rfl (fun ls hl => ?_)
    refine lv_lload hx hb d_M_inverse_40 (lv_at hl 7 rfl) ?_
    refine lv_lstore (lv' := [(8, .long (jl (vv))), (14, .long (jl ((uu) - (((uu).tdiv (vv)) * (vv))))), (12, .long (jl ((uu).tdiv (vv)))), (0, .long (jl (x))), (2, .long (jl (mo))), (4, .long (jl (xx))), (6, .long (jl (yy))), (10, .long (jl (vv)))]) hx hb d_M_inverse_42 hl (by decide) rfl (fun ls hl => ?_)
    refine lv_lload hx hb d_M_inverse_44 (lv_at hl 1 rfl) ?_
    refine lv_lstore (lv' := [(10, .long (jl ((uu) - (((uu).tdiv (vv)) * (vv))))), (8, .long (jl (vv))), (14, .long (jl ((uu) - (((uu).tdiv (vv)) * (vv))))), (12, .long (jl ((uu).tdiv (vv)))), (0, .long (jl (x))), (2, .long (jl (mo))), (4, .long (jl (xx))), (6, .long (jl (yy)))]) hx hb d_M_inverse_46 hl (by decide) rfl (fun ls hl => ?_)
    refine lv_lload hx hb d_M_inverse_48 (lv_at hl 6 rfl) ?_
    refine lv_lload hx hb d_M_inverse_50 (lv_at hl 3 rfl) ?_
    refine lv_lload hx hb d_M_inverse_52 (lv_at hl 7 rfl) ?_
    refine wl_mul hx hb d_M_inverse_54 ?_
    refine wl_sub hx hb d_M_inverse_55 ?_
    refine lv_lstore (lv' := [(14, .long (jl ((xx) - (((uu).tdiv (vv)) * (yy))))), (10, .long (jl ((uu) - (((uu).tdiv (vv)) * (vv))))), (8, .long (jl (vv))), (12, .long (jl ((uu).tdiv (vv)))), (0, .long (jl (x))), (2, .long (jl (mo))), (4, .long (jl (xx))), (6, .long (jl (yy)))]) hx hb d_M_inverse_56 hl (by decide) rfl (fun ls hl => ?_)
    refine lv_lload hx hb d_M_inverse_58 (lv_at hl 7 rfl) ?_
    refine lv_lstore (lv' := [(4, .long (jl (yy))), (14, .long (jl ((xx) - (((uu).tdiv (vv)) * (yy))))), (10, .long (jl ((uu) - (((uu).tdiv (vv)) * (vv))))), (8, .long (jl (vv))), (12, .long (jl ((uu).tdiv (vv)))), (0, .long (jl (x))), (2, .long (jl (mo))), (6, .long (jl (yy)))]) hx hb d_M_inverse_60 hl (by decide) rfl (fun ls hl => ?_)
    refine lv_lload hx hb d_M_inverse_62 (lv_at hl 1 rfl) ?_
    refine lv_lstore (lv' := [(6, .long (jl ((xx) - (((uu).tdiv (vv)) * (yy))))), (4, .long (jl (yy))), (14, .long (jl ((xx) - (((uu).tdiv (vv)) * (yy))))), (10, .long (jl ((uu) - (((uu).tdiv (vv)) * (vv))))), (8, .long (jl (vv))), (12, .long (jl ((uu).tdiv (vv)))), (0, .long (jl (x))), (2, .long (jl (mo)))]) hx hb d_M_inverse_64 hl (by decide) rfl (fun ls hl => ?_)
    refine lv_goto (tgt := 16) hx hb d_M_inverse_66 (by decide) ?_
    obtain ⟨j1, j2, j3⟩ := iv_s hi (by omega)
    exact ih _ _ _ _ (by omega) ⟨yy, xx - uu.tdiv vv * yy, vv, uu - uu.tdiv vv * vv, rfl, j1, hP, hD, hS, lv_sub hl [6, 7, 1, 0, 4, 3] rfl⟩
