set_option maxHeartbeats 4000000 in
set_option maxRecDepth 100000 in
theorem c_M_keep (l : Launch) (D : va_G) (cI cJ cF : ClassId) {m0 mf mm ml mp : Nat} {co Dd w np : Int} {a b c r0 : Int} {F1 F2 F3 : Nat → Int} (hr0 : 0 ≤ r0) (hr7 : r0 ≤ 7) : ∀ sz, Met l y_M_keep (Cond.code y_M_keep b_M_keep 2 none :: wb) { frames := 0, cells := 0, slots := 0, locals := 0 } (va_Pc [.ref m0, .int (ji (r0))] (cpre D cI cJ cF [(m0, .inr (5, [.int (ji (co)), .long (jl (Dd)), .long (jl (w)), .ref mf, .ref mm, .ref ml, .long (jl (a)), .long (jl (b)), .long (jl (c)), .int (ji (np)), .ref mp])), (mf, .inl (cJ, 8, .inr (.inl (fun j => jl ((F1) j))))), (mm, .inl (cJ, 8, .inr (.inl (fun j => jl ((F2) j))))), (ml, .inl (cJ, 8, .inr (.inl (fun j => jl ((F3) j)))))] sz)) (va_Qv (fun (u : Unit) => True) (fun (u : Unit) tS => va_P D classes [(m0, .inr (5, [.int (ji (co)), .long (jl (Dd)), .long (jl (w)), .ref mf, .ref mm, .ref ml, .long (jl (a)), .long (jl (b)), .long (jl (c)), .int (ji (np)), .ref mp])), (mf, .inl (cJ, 8, .inr (.inl (fun j => jl ((fU F1 r0.toNat a) j))))), (mm, .inl (cJ, 8, .inr (.inl (fun j => jl ((fU F2 r0.toNat b) j))))), (ml, .inl (cJ, 8, .inr (.inl (fun j => jl ((fU F3 r0.toNat c) j)))))] tS.heap) (va_A [(m0, .inr (5, [.int (ji (co)), .long (jl (Dd)), .long (jl (w)), .ref mf, .ref mm, .ref ml, .long (jl (a)), .long (jl (b)), .long (jl (c)), .int (ji (np)), .ref mp])), (mf, .inl (cJ, 8, .inr (.inl (fun j => jl ((F1) j))))), (mm, .inl (cJ, 8, .inr (.inl (fun j => jl ((F2) j))))), (ml, .inl (cJ, 8, .inr (.inl (fun j => jl ((F3) j)))))] sz)) 0 0 (va_A [(m0, .inr (5, [.int (ji (co)), .long (jl (Dd)), .long (jl (w)), .ref mf, .ref mm, .ref ml, .long (jl (a)), .long (jl (b)), .long (jl (c)), .int (ji (np)), .ref mp])), (mf, .inl (cJ, 8, .inr (.inl (fun j => jl ((F1) j))))), (mm, .inl (cJ, 8, .inr (.inl (fun j => jl ((F2) j))))), (ml, .inl (cJ, 8, .inr (.inl (fun j => jl ((F3) j)))))] sz) := by
  refine c_of (Qc := fun sz => va_Qv (fun (u : Unit) => True) (fun (u : Unit) tS => va_P D classes [(m0, .inr (5, [.int (ji (co)), .long (jl (Dd)), .long (jl (w)), .ref mf, .ref mm, .ref ml, .long (jl (a)), .long (jl (b)), .long (jl (c)), .int (ji (np)), .ref mp])), (mf, .inl (cJ, 8, .inr (.inl (fun j => jl ((fU F1 r0.toNat a) j))))), (mm, .inl (cJ, 8, .inr (.inl (fun j => jl ((fU F2 r0.toNat b) j))))), (ml, .inl (cJ, 8, .inr (.inl (fun j => jl ((fU F3 r0.toNat c) j)))))] tS.heap) (va_A [(m0, .inr (5, [.int (ji (co)), .long (jl (Dd)), .long (jl (w)), .ref mf, .ref mm, .ref ml, .long (jl (a)), .long (jl (b)), .long (jl (c)), .int (ji (np)), .ref mp])), (mf, .inl (cJ, 8, .inr (.inl (fun j => jl ((F1) j))))), (mm, .inl (cJ, 8, .inr (.inl (fun j => jl ((F2) j))))), (ml, .inl (cJ, 8, .inr (.inl (fun j => jl ((F3) j)))))] sz)) (by decide +kernel) co_M_keep (Nat.le_of_ble_eq_true rfl) ?_
  intro pq eq s mq below meth cq A X hK hP hD hS hA hAe ls hl
  obtain ⟨hx, hb, hml, hown, hr, hlocks, hts⟩ := id X
  have hl : lv_has ls 2 [(0, .ref m0), (1, .int (ji (r0)))] := hl
  refine lv_aload_n hx hb d_M_keep_0 rfl (lv_at hl 0 rfl) ?_
  refine va_get (D := D) (ci := 5) (v := .ref mf) (C := R_M) (T := T_M) (N := 11) hx hb hts uw_M hown hK.1 hP 0 rfl rfl 3 (by decide) (hts _ fl_M_20) (fun _ h9 => h9) rfl d_M_keep_1 ?_
  refine lv_iload_n hx hb d_M_keep_4 rfl (lv_at hl 1 rfl) ?_
  refine lv_aload_n hx hb d_M_keep_5 rfl (lv_at hl 0 rfl) ?_
  refine va_get (D := D) (ci := 5) (v := .long (jl (a))) (C := R_M) (T := T_M) (N := 11) hx hb hts uw_M hown hK.1 hP 0 rfl rfl 6 (by decide) (hts _ fl_M_73) (fun _ h9 => h9) rfl d_M_keep_6 ?_
  refine w_last (F := F1) hx hb hK hP hD hS 1 rfl ⟨by omega, by omega, by omega⟩ d_M_keep_9 (fun H locs hP hD hS => ?_)
  have hP : va_P D classes [(m0, .inr (5, [.int (ji (co)), .long (jl (Dd)), .long (jl (w)), .ref mf, .ref mm, .ref ml, .long (jl (a)), .long (jl (b)), .long (jl (c)), .int (ji (np)), .ref mp])), (mf, .inl (cJ, 8, .inr (.inl (fun j => jl ((fU (F1) (r0 : Int).toNat (a)) j))))), (mm, .inl (cJ, 8, .inr (.inl (fun j => jl ((F2) j))))), (ml, .inl (cJ, 8, .inr (.inl (fun j => jl ((F3) j)))))] H := hP
  have hD : va_D A [(m0, .inr (5, [.int (ji (co)), .long (jl (Dd)), .long (jl (w)), .ref mf, .ref mm, .ref ml, .long (jl (a)), .long (jl (b)), .long (jl (c)), .int (ji (np)), .ref mp])), (mf, .inl (cJ, 8, .inr (.inl (fun j => jl ((fU (F1) (r0 : Int).toNat (a)) j))))), (mm, .inl (cJ, 8, .inr (.inl (fun j => jl ((F2) j))))), (ml, .inl (cJ, 8, .inr (.inl (fun j => jl ((F3) j)))))] := hD
  refine lv_aload_n hx hb d_M_keep_10 rfl (lv_at hl 0 rfl) ?_
  refine va_get (D := D) (ci := 5) (v := .ref mm) (C := R_M) (T := T_M) (N := 11) hx hb hts uw_M hown hK.1 hP 0 rfl rfl 4 (by decide) (hts _ fl_M_24) (fun _ h9 => h9) rfl d_M_keep_11 ?_
  refine lv_iload_n hx hb d_M_keep_14 rfl (lv_at hl 1 rfl) ?_
  refine lv_aload_n hx hb d_M_keep_15 rfl (lv_at hl 0 rfl) ?_
  refine va_get (D := D) (ci := 5) (v := .long (jl (b))) (C := R_M) (T := T_M) (N := 11) hx hb hts uw_M hown hK.1 hP 0 rfl rfl 7 (by decide) (hts _ fl_M_76) (fun _ h9 => h9) rfl d_M_keep_16 ?_
  refine w_last (F := F2) hx hb hK hP hD hS 2 rfl ⟨by omega, by omega, by omega⟩ d_M_keep_19 (fun H locs hP hD hS => ?_)
  have hP : va_P D classes [(m0, .inr (5, [.int (ji (co)), .long (jl (Dd)), .long (jl (w)), .ref mf, .ref mm, .ref ml, .long (jl (a)), .long (jl (b)), .long (jl (c)), .int (ji (np)), .ref mp])), (mf, .inl (cJ, 8, .inr (.inl (fun j => jl ((fU (F1) (r0 : Int).toNat (a)) j))))), (mm, .inl (cJ, 8, .inr (.inl (fun j => jl ((fU (F2) (r0 : Int).toNat (b)) j))))), (ml, .inl (cJ, 8, .inr (.inl (fun j => jl ((F3) j)))))] H := hP
  have hD : va_D A [(m0, .inr (5, [.int (ji (co)), .long (jl (Dd)), .long (jl (w)), .ref mf, .ref mm, .ref ml, .long (jl (a)), .long (jl (b)), .long (jl (c)), .int (ji (np)), .ref mp])), (mf, .inl (cJ, 8, .inr (.inl (fun j => jl ((fU (F1) (r0 : Int).toNat (a)) j))))), (mm, .inl (cJ, 8, .inr (.inl (fun j => jl ((fU (F2) (r0 : Int).toNat (b)) j))))), (ml, .inl (cJ, 8, .inr (.inl (fun j => jl ((F3) j)))))] := hD
  refine lv_aload_n hx hb d_M_keep_20 rfl (lv_at hl 0 rfl) ?_
  refine va_get (D := D) (ci := 5) (v := .ref ml) (C := R_M) (T := T_M) (N := 11) hx hb hts uw_M hown hK.1 hP 0 rfl rfl 5 (by decide) (hts _ fl_M_27) (fun _ h9 => h9) rfl d_M_keep_21 ?_
  refine lv_iload_n hx hb d_M_keep_24 rfl (lv_at hl 1 rfl) ?_
  refine lv_aload_n hx hb d_M_keep_25 rfl (lv_at hl 0 rfl) ?_
  refine va_get (D := D) (ci := 5) (v := .long (jl (c))) (C := R_M) (T := T_M) (N := 11) hx hb hts uw_M hown hK.1 hP 0 rfl rfl 8 (by decide) (hts _ fl_M_79) (fun _ h9 => h9) rfl d_M_keep_26 ?_
  refine w_last (F := F3) hx hb hK hP hD hS 3 rfl ⟨by omega, by omega, by omega⟩ d_M_keep_29 (fun H locs hP hD hS => ?_)
  have hP : va_P D classes [(m0, .inr (5, [.int (ji (co)), .long (jl (Dd)), .long (jl (w)), .ref mf, .ref mm, .ref ml, .long (jl (a)), .long (jl (b)), .long (jl (c)), .int (ji (np)), .ref mp])), (mf, .inl (cJ, 8, .inr (.inl (fun j => jl ((fU (F1) (r0 : Int).toNat (a)) j))))), (mm, .inl (cJ, 8, .inr (.inl (fun j => jl ((fU (F2) (r0 : Int).toNat (b)) j))))), (ml, .inl (cJ, 8, .inr (.inl (fun j => jl ((fU (F3) (r0 : Int).toNat (c)) j)))))] H := hP
  have hD : va_D A [(m0, .inr (5, [.int (ji (co)), .long (jl (Dd)), .long (jl (w)), .ref mf, .ref mm, .ref ml, .long (jl (a)), .long (jl (b)), .long (jl (c)), .int (ji (np)), .ref mp])), (mf, .inl (cJ, 8, .inr (.inl (fun j => jl ((fU (F1) (r0 : Int).toNat (a)) j))))), (mm, .inl (cJ, 8, .inr (.inl (fun j => jl ((fU (F2) (r0 : Int).toNat (b)) j))))), (ml, .inl (cJ, 8, .inr (.inl (fun j => jl ((fU (F3) (r0 : Int).toNat (c)) j)))))] := hD
  exact rt_v X hAe hS () trivial hP d_M_keep_30

set_option maxHeartbeats 4000000 in
set_option maxRecDepth 100000 in
theorem c_M_load (l : Launch) (D : va_G) (cI cJ cF : ClassId) {m0 mf mm ml mp : Nat} {co Dd w np : Int} {a b c r0 : Int} {F1 F2 F3 : Nat → Int} (hr0 : 0 ≤ r0) (hr7 : r0 ≤ 7) : ∀ sz, Met l y_M_load (Cond.code y_M_load b_M_load 2 none :: wb) { frames := 0, cells := 0, slots := 0, locals := 0 } (va_Pc [.ref m0, .int (ji (r0))] (cpre D cI cJ cF [(m0, .inr (5, [.int (ji (co)), .long (jl (Dd)), .long (jl (w)), .ref mf, .ref mm, .ref ml, .long (jl (a)), .long (jl (b)), .long (jl (c)), .int (ji (np)), .ref mp])), (mf, .inl (cJ, 8, .inr (.inl (fun j => jl ((F1) j))))), (mm, .inl (cJ, 8, .inr (.inl (fun j => jl ((F2) j))))), (ml, .inl (cJ, 8, .inr (.inl (fun j => jl ((F3) j)))))] sz)) (va_Qv (fun (u : Unit) => True) (fun (u : Unit) tS => va_P D classes [(m0, .inr (5, [.int (ji (co)), .long (jl (Dd)), .long (jl (w)), .ref mf, .ref mm, .ref ml, .long (jl (F1 r0.toNat)), .long (jl (F2 r0.toNat)), .long (jl (F3 r0.toNat)), .int (ji (np)), .ref mp])), (mf, .inl (cJ, 8, .inr (.inl (fun j => jl ((F1) j))))), (mm, .inl (cJ, 8, .inr (.inl (fun j => jl ((F2) j))))), (ml, .inl (cJ, 8, .inr (.inl (fun j => jl ((F3) j)))))] tS.heap) (va_A [(m0, .inr (5, [.int (ji (co)), .long (jl (Dd)), .long (jl (w)), .ref mf, .ref mm, .ref ml, .long (jl (a)), .long (jl (b)), .long (jl (c)), .int (ji (np)), .ref mp])), (mf, .inl (cJ, 8, .inr (.inl (fun j => jl ((F1) j))))), (mm, .inl (cJ, 8, .inr (.inl (fun j => jl ((F2) j))))), (ml, .inl (cJ, 8, .inr (.inl (fun j => jl ((F3) j)))))] sz)) 0 0 (va_A [(m0, .inr (5, [.int (ji (co)), .long (jl (Dd)), .long (jl (w)), .ref mf, .ref mm, .ref ml, .long (jl (a)), .long (jl (b)), .long (jl (c)), .int (ji (np)), .ref mp])), (mf, .inl (cJ, 8, .inr (.inl (fun j => jl ((F1) j))))), (mm, .inl (cJ, 8, .inr (.inl (fun j => jl ((F2) j))))), (ml, .inl (cJ, 8, .inr (.inl (fun j => jl ((F3) j)))))] sz) := by
  refine c_of (Qc := fun sz => va_Qv (fun (u : Unit) => True) (fun (u : Unit) tS => va_P D classes [(m0, .inr (5, [.int (ji (co)), .long (jl (Dd)), .long (jl (w)), .ref mf, .ref mm, .ref ml, .long (jl (F1 r0.toNat)), .long (jl (F2 r0.toNat)), .long (jl (F3 r0.toNat)), .int (ji (np)), .ref mp])), (mf, .inl (cJ, 8, .inr (.inl (fun j => jl ((F1) j))))), (mm, .inl (cJ, 8, .inr (.inl (fun j => jl ((F2) j))))), (ml, .inl (cJ, 8, .inr (.inl (fun j => jl ((F3) j)))))] tS.heap) (va_A [(m0, .inr (5, [.int (ji (co)), .long (jl (Dd)), .long (jl (w)), .ref mf, .ref mm, .ref ml, .long (jl (a)), .long (jl (b)), .long (jl (c)), .int (ji (np)), .ref mp])), (mf, .inl (cJ, 8, .inr (.inl (fun j => jl ((F1) j))))), (mm, .inl (cJ, 8, .inr (.inl (fun j => jl ((F2) j))))), (ml, .inl (cJ, 8, .inr (.inl (fun j => jl ((F3) j)))))] sz)) (by decide +kernel) co_M_load (Nat.le_of_ble_eq_true rfl) ?_
  intro pq eq s mq below meth cq A X hK hP hD hS hA hAe ls hl
  obtain ⟨hx, hb, hml, hown, hr, hlocks, hts⟩ := id X
  have hl : lv_has ls 2 [(0, .ref m0), (1, .int (ji (r0)))] := hl
  refine lv_aload_n hx hb d_M_load_0 rfl (lv_at hl 0 rfl) ?_
  refine lv_aload_n hx hb d_M_load_1 rfl (lv_at hl 0 rfl) ?_
  refine va_get (D := D) (ci := 5) (v := .ref mf) (C := R_M) (T := T_M) (N := 11) hx hb hts uw_M hown hK.1 hP 0 rfl rfl 3 (by decide) (hts _ fl_M_20) (fun _ h9 => h9) rfl d_M_load_2 ?_
  refine lv_iload_n hx hb d_M_load_5 rfl (lv_at hl 1 rfl) ?_
  refine w_lald (F := F1) hx hb hK hP 1 rfl ⟨by omega, by omega, by omega⟩ d_M_load_6 ?_
  refine va_put (D := D) (ci := 5) (v := .long (jl ((F1) (r0 : Int).toNat))) (ty := .long) (C := R_M) (T := T_M) (N := 11) hx hb hts uw_M ty_M ty_M_ok nm_M hown hK.1 hP hD hS 0 rfl rfl 6 (by decide) (hts _ fl_M_73) (fun _ h9 => h9) rfl (by decide +kernel) rfl rfl (Nat.le_of_ble_eq_true rfl) d_M_load_7 (fun H locs hP hD hS => ?_)
  have hP : va_P D classes [(m0, .inr (5, [.int (ji (co)), .long (jl (Dd)), .long (jl (w)), .ref mf, .ref mm, .ref ml, .long (jl ((F1) (r0 : Int).toNat)), .long (jl (b)), .long (jl (c)), .int (ji (np)), .ref mp])), (mf, .inl (cJ, 8, .inr (.inl (fun j => jl ((F1) j))))), (mm, .inl (cJ, 8, .inr (.inl (fun j => jl ((F2) j))))), (ml, .inl (cJ, 8, .inr (.inl (fun j => jl ((F3) j)))))] H := hP
  have hD : va_D A [(m0, .inr (5, [.int (ji (co)), .long (jl (Dd)), .long (jl (w)), .ref mf, .ref mm, .ref ml, .long (jl ((F1) (r0 : Int).toNat)), .long (jl (b)), .long (jl (c)), .int (ji (np)), .ref mp])), (mf, .inl (cJ, 8, .inr (.inl (fun j => jl ((F1) j))))), (mm, .inl (cJ, 8, .inr (.inl (fun j => jl ((F2) j))))), (ml, .inl (cJ, 8, .inr (.inl (fun j => jl ((F3) j)))))] := hD
  refine lv_aload_n hx hb d_M_load_10 rfl (lv_at hl 0 rfl) ?_
  refine lv_aload_n hx hb d_M_load_11 rfl (lv_at hl 0 rfl) ?_
  refine va_get (D := D) (ci := 5) (v := .ref mm) (C := R_M) (T := T_M) (N := 11) hx hb hts uw_M hown hK.1 hP 0 rfl rfl 4 (by decide) (hts _ fl_M_24) (fun _ h9 => h9) rfl d_M_load_12 ?_
  refine lv_iload_n hx hb d_M_load_15 rfl (lv_at hl 1 rfl) ?_
  refine w_lald (F := F2) hx hb hK hP 2 rfl ⟨by omega, by omega, by omega⟩ d_M_load_16 ?_
  refine va_put (D := D) (ci := 5) (v := .long (jl ((F2) (r0 : Int).toNat))) (ty := .long) (C := R_M) (T := T_M) (N := 11) hx hb hts uw_M ty_M ty_M_ok nm_M hown hK.1 hP hD hS 0 rfl rfl 7 (by decide) (hts _ fl_M_76) (fun _ h9 => h9) rfl (by decide +kernel) rfl rfl (Nat.le_of_ble_eq_true rfl) d_M_load_17 (fun H locs hP hD hS => ?_)
  have hP : va_P D classes [(m0, .inr (5, [.int (ji (co)), .long (jl (Dd)), .long (jl (w)), .ref mf, .ref mm, .ref ml, .long (jl ((F1) (r0 : Int).toNat)), .long (jl ((F2) (r0 : Int).toNat)), .long (jl (c)), .int (ji (np)), .ref mp])), (mf, .inl (cJ, 8, .inr (.inl (fun j => jl ((F1) j))))), (mm, .inl (cJ, 8, .inr (.inl (fun j => jl ((F2) j))))), (ml, .inl (cJ, 8, .inr (.inl (fun j => jl ((F3) j)))))] H := hP
  have hD : va_D A [(m0, .inr (5, [.int (ji (co)), .long (jl (Dd)), .long (jl (w)), .ref mf, .ref mm, .ref ml, .long (jl ((F1) (r0 : Int).toNat)), .long (jl ((F2) (r0 : Int).toNat)), .long (jl (c)), .int (ji (np)), .ref mp])), (mf, .inl (cJ, 8, .inr (.inl (fun j => jl ((F1) j))))), (mm, .inl (cJ, 8, .inr (.inl (fun j => jl ((F2) j))))), (ml, .inl (cJ, 8, .inr (.inl (fun j => jl ((F3) j)))))] := hD
  refine lv_aload_n hx hb d_M_load_20 rfl (lv_at hl 0 rfl) ?_
  refine lv_aload_n hx hb d_M_load_21 rfl (lv_at hl 0 rfl) ?_
  refine va_get (D := D) (ci := 5) (v := .ref ml) (C := R_M) (T := T_M) (N := 11) hx hb hts uw_M hown hK.1 hP 0 rfl rfl 5 (by decide) (hts _ fl_M_27) (fun _ h9 => h9) rfl d_M_load_22 ?_
  refine lv_iload_n hx hb d_M_load_25 rfl (lv_at hl 1 rfl) ?_
  refine w_lald (F := F3) hx hb hK hP 3 rfl ⟨by omega, by omega, by omega⟩ d_M_load_26 ?_
  refine va_put (D := D) (ci := 5) (v := .long (jl ((F3) (r0 : Int).toNat))) (ty := .long) (C := R_M) (T := T_M) (N := 11) hx hb hts uw_M ty_M ty_M_ok nm_M hown hK.1 hP hD hS 0 rfl rfl 8 (by decide) (hts _ fl_M_79) (fun _ h9 => h9) rfl (by decide +kernel) rfl rfl (Nat.le_of_ble_eq_true rfl) d_M_load_27 (fun H locs hP hD hS => ?_)
  have hP : va_P D classes [(m0, .inr (5, [.int (ji (co)), .long (jl (Dd)), .long (jl (w)), .ref mf, .ref mm, .ref ml, .long (jl ((F1) (r0 : Int).toNat)), .long (jl ((F2) (r0 : Int).toNat)), .long (jl ((F3) (r0 : Int).toNat)), .int (ji (np)), .ref mp])), (mf, .inl (cJ, 8, .inr (.inl (fun j => jl ((F1) j))))), (mm, .inl (cJ, 8, .inr (.inl (fun j => jl ((F2) j))))), (ml, .inl (cJ, 8, .inr (.inl (fun j => jl ((F3) j)))))] H := hP
  have hD : va_D A [(m0, .inr (5, [.int (ji (co)), .long (jl (Dd)), .long (jl (w)), .ref mf, .ref mm, .ref ml, .long (jl ((F1) (r0 : Int).toNat)), .long (jl ((F2) (r0 : Int).toNat)), .long (jl ((F3) (r0 : Int).toNat)), .int (ji (np)), .ref mp])), (mf, .inl (cJ, 8, .inr (.inl (fun j => jl ((F1) j))))), (mm, .inl (cJ, 8, .inr (.inl (fun j => jl ((F2) j))))), (ml, .inl (cJ, 8, .inr (.inl (fun j => jl ((F3) j)))))] := hD
  exact rt_v X hAe hS () trivial hP d_M_load_30

set_option maxHeartbeats 4000000 in
set_option maxRecDepth 100000 in
theorem c_M_slide (l : Launch) (D : va_G) (cI cJ cF : ClassId) {m0 mf mm ml mp : Nat} {co Dd w np : Int} {a b c k0 : Int} : ∀ sz, Met l y_M_slide (Cond.code y_M_slide b_M_slide 3 none :: wb) { frames := 0, cells := 0, slots := 0, locals := 0 } (va_Pc [.ref m0, .long (jl (k0))] (cpre D cI cJ cF [(m0, .inr (5, [.int (ji (co)), .long (jl (Dd)), .long (jl (w)), .ref mf, .ref mm, .ref ml, .long (jl (a)), .long (jl (b)), .long (jl (c)), .int (ji (np)), .ref mp]))] sz)) (va_Qv (fun (u : Unit) => True) (fun (u : Unit) tS => va_P D classes [(m0, .inr (5, [.int (ji (co)), .long (jl (Dd)), .long (jl (w)), .ref mf, .ref mm, .ref ml, .long (jl (a)), .long (jl (b + 2 * a * k0)), .long (jl (a * k0 * k0 + b * k0 + c)), .int (ji (np)), .ref mp]))] tS.heap) (va_A [(m0, .inr (5, [.int (ji (co)), .long (jl (Dd)), .long (jl (w)), .ref mf, .ref mm, .ref ml, .long (jl (a)), .long (jl (b)), .long (jl (c)), .int (ji (np)), .ref mp]))] sz)) 0 0 (va_A [(m0, .inr (5, [.int (ji (co)), .long (jl (Dd)), .long (jl (w)), .ref mf, .ref mm, .ref ml, .long (jl (a)), .long (jl (b)), .long (jl (c)), .int (ji (np)), .ref mp]))] sz) := by
  refine c_of (Qc := fun sz => va_Qv (fun (u : Unit) => True) (fun (u : Unit) tS => va_P D classes [(m0, .inr (5, [.int (ji (co)), .long (jl (Dd)), .long (jl (w)), .ref mf, .ref mm, .ref ml, .long (jl (a)), .long (jl (b + 2 * a * k0)), .long (jl (a * k0 * k0 + b * k0 + c)), .int (ji (np)), .ref mp]))] tS.heap) (va_A [(m0, .inr (5, [.int (ji (co)), .long (jl (Dd)), .long (jl (w)), .ref mf, .ref mm, .ref ml, .long (jl (a)), .long (jl (b)), .long (jl (c)), .int (ji (np)), .ref mp]))] sz)) (by decide +kernel) co_M_slide (Nat.le_of_ble_eq_true rfl) ?_
  intro pq eq s mq below meth cq A X hK hP hD hS hA hAe ls hl
  obtain ⟨hx, hb, hml, hown, hr, hlocks, hts⟩ := id X
  have hl : lv_has ls 3 [(0, .ref m0), (1, .long (jl (k0)))] := hl
  refine lv_aload_n hx hb d_M_slide_0 rfl (lv_at hl 0 rfl) ?_
  refine lv_aload_n hx hb d_M_slide_1 rfl (lv_at hl 0 rfl) ?_
  refine va_get (D := D) (ci := 5) (v := .long (jl (a))) (C := R_M) (T := T_M) (N := 11) hx hb hts uw_M hown hK.1 hP 0 rfl rfl 6 (by decide) (hts _ fl_M_73) (fun _ h9 => h9) rfl d_M_slide_2 ?_
  refine lv_lload_n hx hb d_M_slide_5 rfl (lv_at hl 1 rfl) ?_
  refine wl_mul hx hb d_M_slide_6 ?_
  refine lv_lload_n hx hb d_M_slide_7 rfl (lv_at hl 1 rfl) ?_
  refine wl_mul hx hb d_M_slide_8 ?_
  refine lv_aload_n hx hb d_M_slide_9 rfl (lv_at hl 0 rfl) ?_
  refine va_get (D := D) (ci := 5) (v := .long (jl (b))) (C := R_M) (T := T_M) (N := 11) hx hb hts uw_M hown hK.1 hP 0 rfl rfl 7 (by decide) (hts _ fl_M_76) (fun _ h9 => h9) rfl d_M_slide_10 ?_
  refine lv_lload_n hx hb d_M_slide_13 rfl (lv_at hl 1 rfl) ?_
  refine wl_mul hx hb d_M_slide_14 ?_
  refine wl_add hx hb d_M_slide_15 ?_
  refine lv_aload_n hx hb d_M_slide_16 rfl (lv_at hl 0 rfl) ?_
  refine va_get (D := D) (ci := 5) (v := .long (jl (c))) (C := R_M) (T := T_M) (N := 11) hx hb hts uw_M hown hK.1 hP 0 rfl rfl 8 (by decide) (hts _ fl_M_79) (fun _ h9 => h9) rfl d_M_slide_17 ?_
  refine wl_add hx hb d_M_slide_20 ?_
  refine va_put (D := D) (ci := 5) (v := .long (jl (((((a) * (k0)) * (k0)) + ((b) * (k0))) + (c)))) (ty := .long) (C := R_M) (T := T_M) (N := 11) hx hb hts uw_M ty_M ty_M_ok nm_M hown hK.1 hP hD hS 0 rfl rfl 8 (by decide) (hts _ fl_M_79) (fun _ h9 => h9) rfl (by decide +kernel) rfl rfl (Nat.le_of_ble_eq_true rfl) d_M_slide_21 (fun H locs hP hD hS => ?_)
  have hP : va_P D classes [(m0, .inr (5, [.int (ji (co)), .long (jl (Dd)), .long (jl (w)), .ref mf, .ref mm, .ref ml, .long (jl (a)), .long (jl (b)), .long (jl (((((a) * (k0)) * (k0)) + ((b) * (k0))) + (c))), .int (ji (np)), .ref mp]))] H := hP
  have hD : va_D A [(m0, .inr (5, [.int (ji (co)), .long (jl (Dd)), .long (jl (w)), .ref mf, .ref mm, .ref ml, .long (jl (a)), .long (jl (b)), .long (jl (((((a) * (k0)) * (k0)) + ((b) * (k0))) + (c))), .int (ji (np)), .ref mp]))] := hD
  refine lv_aload_n hx hb d_M_slide_24 rfl (lv_at hl 0 rfl) ?_
  refine lv_aload_n hx hb d_M_slide_25 rfl (lv_at hl 0 rfl) ?_
  refine va_get (D := D) (ci := 5) (v := .long (jl (b))) (C := R_M) (T := T_M) (N := 11) hx hb hts uw_M hown hK.1 hP 0 rfl rfl 7 (by decide) (hts _ fl_M_76) (fun _ h9 => h9) rfl d_M_slide_26 ?_
  refine w_ldc2 (v := 2) (n := 2) hx hb (by decide) hown (hts _ kc_M_53) d_M_slide_29 ?_
  refine lv_aload_n hx hb d_M_slide_32 rfl (lv_at hl 0 rfl) ?_
  refine va_get (D := D) (ci := 5) (v := .long (jl (a))) (C := R_M) (T := T_M) (N := 11) hx hb hts uw_M hown hK.1 hP 0 rfl rfl 6 (by decide) (hts _ fl_M_73) (fun _ h9 => h9) rfl d_M_slide_33 ?_
  refine wl_mul hx hb d_M_slide_36 ?_
  refine lv_lload_n hx hb d_M_slide_37 rfl (lv_at hl 1 rfl) ?_
  refine wl_mul hx hb d_M_slide_38 ?_
  refine wl_add hx hb d_M_slide_39 ?_
  refine va_put (D := D) (ci := 5) (v := .long (jl ((b) + (((2) * (a)) * (k0))))) (ty := .long) (C := R_M) (T := T_M) (N := 11) hx hb hts uw_M ty_M ty_M_ok nm_M hown hK.1 hP hD hS 0 rfl rfl 7 (by decide) (hts _ fl_M_76) (fun _ h9 => h9) rfl (by decide +kernel) rfl rfl (Nat.le_of_ble_eq_true rfl) d_M_slide_40 (fun H locs hP hD hS => ?_)
  have hP : va_P D classes [(m0, .inr (5, [.int (ji (co)), .long (jl (Dd)), .long (jl (w)), .ref mf, .ref mm, .ref ml, .long (jl (a)), .long (jl ((b) + (((2) * (a)) * (k0)))), .long (jl (((((a) * (k0)) * (k0)) + ((b) * (k0))) + (c))), .int (ji (np)), .ref mp]))] H := hP
  have hD : va_D A [(m0, .inr (5, [.int (ji (co)), .long (jl (Dd)), .long (jl (w)), .ref mf, .ref mm, .ref ml, .long (jl (a)), .long (jl ((b) + (((2) * (a)) * (k0)))), .long (jl (((((a) * (k0)) * (k0)) + ((b) * (k0))) + (c))), .int (ji (np)), .ref mp]))] := hD
  exact rt_v X hAe hS () trivial hP d_M_slide_43

set_option maxHeartbeats 4000000 in
set_option maxRecDepth 100000 in
theorem c_M_turn (l : Launch) (D : va_G) (cI cJ cF : ClassId) {m0 mf mm ml mp : Nat} {co Dd w np : Int} {a b c : Int} : ∀ sz, Met l y_M_turn (Cond.code y_M_turn b_M_turn 3 none :: wb) { frames := 0, cells := 0, slots := 0, locals := 0 } (va_Pc [.ref m0] (cpre D cI cJ cF [(m0, .inr (5, [.int (ji (co)), .long (jl (Dd)), .long (jl (w)), .ref mf, .ref mm, .ref ml, .long (jl (a)), .long (jl (b)), .long (jl (c)), .int (ji (np)), .ref mp]))] sz)) (va_Qv (fun (u : Unit) => True) (fun (u : Unit) tS => va_P D classes [(m0, .inr (5, [.int (ji (co)), .long (jl (Dd)), .long (jl (w)), .ref mf, .ref mm, .ref ml, .long (jl (c)), .long (jl (-b)), .long (jl (a)), .int (ji (np)), .ref mp]))] tS.heap) (va_A [(m0, .inr (5, [.int (ji (co)), .long (jl (Dd)), .long (jl (w)), .ref mf, .ref mm, .ref ml, .long (jl (a)), .long (jl (b)), .long (jl (c)), .int (ji (np)), .ref mp]))] sz)) 0 0 (va_A [(m0, .inr (5, [.int (ji (co)), .long (jl (Dd)), .long (jl (w)), .ref mf, .ref mm, .ref ml, .long (jl (a)), .long (jl (b)), .long (jl (c)), .int (ji (np)), .ref mp]))] sz) := by
  refine c_of (Qc := fun sz => va_Qv (fun (u : Unit) => True) (fun (u : Unit) tS => va_P D classes [(m0, .inr (5, [.int (ji (co)), .long (jl (Dd)), .long (jl (w)), .ref mf, .ref mm, .ref ml, .long (jl (c)), .long (jl (-b)), .long (jl (a)), .int (ji (np)), .ref mp]))] tS.heap) (va_A [(m0, .inr (5, [.int (ji (co)), .long (jl (Dd)), .long (jl (w)), .ref mf, .ref mm, .ref ml, .long (jl (a)), .long (jl (b)), .long (jl (c)), .int (ji (np)), .ref mp]))] sz)) (by decide +kernel) co_M_turn (Nat.le_of_ble_eq_true rfl) ?_
  intro pq eq s mq below meth cq A X hK hP hD hS hA hAe ls hl
  obtain ⟨hx, hb, hml, hown, hr, hlocks, hts⟩ := id X
  have hl : lv_has ls 3 [(0, .ref m0)] := hl
  refine lv_aload_n hx hb d_M_turn_0 rfl (lv_at hl 0 rfl) ?_
  refine va_get (D := D) (ci := 5) (v := .long (jl (a))) (C := R_M) (T := T_M) (N := 11) hx hb hts uw_M hown hK.1 hP 0 rfl rfl 6 (by decide) (hts _ fl_M_73) (fun _ h9 => h9) rfl d_M_turn_1 ?_
  refine lv_lstore_n (lv' := [(1, .long (jl (a))), (0, .ref m0)]) hx hb d_M_turn_4 rfl hl (by decide) rfl (fun ls hl => ?_)
  refine lv_aload_n hx hb d_M_turn_5 rfl (lv_at hl 1 rfl) ?_
  refine lv_aload_n hx hb d_M_turn_6 rfl (lv_at hl 1 rfl) ?_
  refine va_get (D := D) (ci := 5) (v := .long (jl (c))) (C := R_M) (T := T_M) (N := 11) hx hb hts uw_M hown hK.1 hP 0 rfl rfl 8 (by decide) (hts _ fl_M_79) (fun _ h9 => h9) rfl d_M_turn_7 ?_
  refine va_put (D := D) (ci := 5) (v := .long (jl (c))) (ty := .long) (C := R_M) (T := T_M) (N := 11) hx hb hts uw_M ty_M ty_M_ok nm_M hown hK.1 hP hD hS 0 rfl rfl 6 (by decide) (hts _ fl_M_73) (fun _ h9 => h9) rfl (by decide +kernel) rfl rfl (Nat.le_of_ble_eq_true rfl) d_M_turn_10 (fun H locs hP hD hS => ?_)
  have hP : va_P D classes [(m0, .inr (5, [.int (ji (co)), .long (jl (Dd)), .long (jl (w)), .ref mf, .ref mm, .ref ml, .long (jl (c)), .long (jl (b)), .long (jl (c)), .int (ji (np)), .ref mp]))] H := hP
  have hD : va_D A [(m0, .inr (5, [.int (ji (co)), .long (jl (Dd)), .long (jl (w)), .ref mf, .ref mm, .ref ml, .long (jl (c)), .long (jl (b)), .long (jl (c)), .int (ji (np)), .ref mp]))] := hD
  refine lv_aload_n hx hb d_M_turn_13 rfl (lv_at hl 1 rfl) ?_
  refine lv_aload_n hx hb d_M_turn_14 rfl (lv_at hl 1 rfl) ?_
  refine va_get (D := D) (ci := 5) (v := .long (jl (b))) (C := R_M) (T := T_M) (N := 11) hx hb hts uw_M hown hK.1 hP 0 rfl rfl 7 (by decide) (hts _ fl_M_76) (fun _ h9 => h9) rfl d_M_turn_15 ?_
  refine wl_neg hx hb d_M_turn_18 ?_
  refine va_put (D := D) (ci := 5) (v := .long (jl (-(b)))) (ty := .long) (C := R_M) (T := T_M) (N := 11) hx hb hts uw_M ty_M ty_M_ok nm_M hown hK.1 hP hD hS 0 rfl rfl 7 (by decide) (hts _ fl_M_76) (fun _ h9 => h9) rfl (by decide +kernel) rfl rfl (Nat.le_of_ble_eq_true rfl) d_M_turn_19 (fun H locs hP hD hS => ?_)
  have hP : va_P D classes [(m0, .inr (5, [.int (ji (co)), .long (jl (Dd)), .long (jl (w)), .ref mf, .ref mm, .ref ml, .long (jl (c)), .long (jl (-(b))), .long (jl (c)), .int (ji (np)), .ref mp]))] H := hP
  have hD : va_D A [(m0, .inr (5, [.int (ji (co)), .long (jl (Dd)), .long (jl (w)), .ref mf, .ref mm, .ref ml, .long (jl (c)), .long (jl (-(b))), .long (jl (c)), .int (ji (np)), .ref mp]))] := hD
  refine lv_aload_n hx hb d_M_turn_22 rfl (lv_at hl 1 rfl) ?_
  refine lv_lload_n hx hb d_M_turn_23 rfl (lv_at hl 0 rfl) ?_
  refine va_put (D := D) (ci := 5) (v := .long (jl (a))) (ty := .long) (C := R_M) (T := T_M) (N := 11) hx hb hts uw_M ty_M ty_M_ok nm_M hown hK.1 hP hD hS 0 rfl rfl 8 (by decide) (hts _ fl_M_79) (fun _ h9 => h9) rfl (by decide +kernel) rfl rfl (Nat.le_of_ble_eq_true rfl) d_M_turn_24 (fun H locs hP hD hS => ?_)
  have hP : va_P D classes [(m0, .inr (5, [.int (ji (co)), .long (jl (Dd)), .long (jl (w)), .ref mf, .ref mm, .ref ml, .long (jl (c)), .long (jl (-(b))), .long (jl (a)), .int (ji (np)), .ref mp]))] H := hP
  have hD : va_D A [(m0, .inr (5, [.int (ji (co)), .long (jl (Dd)), .long (jl (w)), .ref mf, .ref mm, .ref ml, .long (jl (c)), .long (jl (-(b))), .long (jl (a)), .int (ji (np)), .ref mp]))] := hD
  exact rt_v X hAe hS () trivial hP d_M_turn_27

set_option maxHeartbeats 4000000 in
set_option maxRecDepth 100000 in
theorem c_M_step (l : Launch) (D : va_G) (cI cJ cF : ClassId) {m0 mf mm ml mp : Nat} {co Dd w np : Int} {a b c : Int} (hg : gD Dd w) (hd : fm_disc Dd (a, b, c)) (hb0 : b40 b) (hc : b3g c) : ∀ sz, Met l y_M_step (Cond.code y_M_step b_M_step 9 none :: wb) { frames := 1, cells := 0, slots := 0, locals := 25 } (va_Pc [.ref m0] (cpre D cI cJ cF [(m0, .inr (5, [.int (ji (co)), .long (jl (Dd)), .long (jl (w)), .ref mf, .ref mm, .ref ml, .long (jl (a)), .long (jl (b)), .long (jl (c)), .int (ji (np)), .ref mp]))] sz)) (va_Qv (fun (u : Unit) => True) (fun (u : Unit) tS => va_P D classes [(m0, .inr (5, [.int (ji (co)), .long (jl (Dd)), .long (jl (w)), .ref mf, .ref mm, .ref ml, .long (jl ((fm_rho Dd w (a, b, c)).1)), .long (jl ((fm_rho Dd w (a, b, c)).2.1)), .long (jl ((fm_rho Dd w (a, b, c)).2.2)), .int (ji (np)), .ref mp]))] tS.heap) (va_A [(m0, .inr (5, [.int (ji (co)), .long (jl (Dd)), .long (jl (w)), .ref mf, .ref mm, .ref ml, .long (jl (a)), .long (jl (b)), .long (jl (c)), .int (ji (np)), .ref mp]))] sz)) 0 0 (va_A [(m0, .inr (5, [.int (ji (co)), .long (jl (Dd)), .long (jl (w)), .ref mf, .ref mm, .ref ml, .long (jl (a)), .long (jl (b)), .long (jl (c)), .int (ji (np)), .ref mp]))] sz) := by
  refine c_of (Qc := fun sz => va_Qv (fun (u : Unit) => True) (fun (u : Unit) tS => va_P D classes [(m0, .inr (5, [.int (ji (co)), .long (jl (Dd)), .long (jl (w)), .ref mf, .ref mm, .ref ml, .long (jl ((fm_rho Dd w (a, b, c)).1)), .long (jl ((fm_rho Dd w (a, b, c)).2.1)), .long (jl ((fm_rho Dd w (a, b, c)).2.2)), .int (ji (np)), .ref mp]))] tS.heap) (va_A [(m0, .inr (5, [.int (ji (co)), .long (jl (Dd)), .long (jl (w)), .ref mf, .ref mm, .ref ml, .long (jl (a)), .long (jl (b)), .long (jl (c)), .int (ji (np)), .ref mp]))] sz)) (by decide +kernel) co_M_step (Nat.le_of_ble_eq_true rfl) ?_
  intro pq eq s mq below meth cq A X hK hP hD hS hA hAe ls hl
  obtain ⟨hx, hb, hml, hown, hr, hlocks, hts⟩ := id X
  have hl : lv_has ls 9 [(0, .ref m0)] := hl
  have hc0 := (fm_ne hg.1 hd).2
  have zc0 := fm_ab_pos hc0
  have zc1 := hc.1
  have zc2 := hc.2
  have zb1 := hb0.1
  have zb2 := hb0.2
  have zw := hg.w
  have zw2 := hg.2.2.2
  have zd1 := hg.2.1
  have zd2 := hg.2.2.1
  have zn : Dd < 0 → w = -1 := fm_ok_neg hg.1
  have zc : fm_ab c ≤ 3000000000 := by rcases fm_ab_cases c with z | z <;> omega
  have zt : -1 ≤ fm_top w c ∧ fm_top w c ≤ 3000000000 := by rcases fm_top_cases w c with z | z <;> omega
  have r0 := Int.emod_nonneg (fm_top w c + b) (show 2 * fm_ab c ≠ 0 by omega)
  have r1 := Int.emod_lt_of_pos (fm_top w c + b) (show 0 < 2 * fm_ab c by omega)
  have zt2 : fm_top w c - 2 * fm_ab c ≥ -3000000000 := by rcases fm_top_cases w c with z | z <;> omega
  refine w_ldc2 (v := 2) (n := 2) hx hb (by decide) hown (hts _ kc_M_53) d_M_step_0 ?_
  refine lv_aload_n hx hb d_M_step_3 rfl (lv_at hl 0 rfl) ?_
  refine va_get (D := D) (ci := 5) (v := .long (jl (c))) (C := R_M) (T := T_M) (N := 11) hx hb hts uw_M hown hK.1 hP 0 rfl rfl 8 (by decide) (hts _ fl_M_79) (fun _ h9 => h9) rfl d_M_step_4 ?_
  refine cl_l (rn_S (wc := []) (As := [.long (jl (c))]) (rest := [.long (jl (2))]) X hK (c_M_size l D cI cJ cF hc.b.j _) co_M_size in_M ml_M_41 st_M_size 1 rfl (by decide +kernel) ⟨Nat.le_of_ble_eq_true rfl, Nat.le_of_ble_eq_true rfl⟩ hP hD [] rfl (by decide) hl.1 rfl (Nat.le_of_ble_eq_true rfl) d_M_step_7 ⟨Nat.zero_le _, Nat.zero_le _⟩) hP hD hS hA [] rfl (by decide) (fun _ => rfl) (fun r_1 u_2 H locs hp hP hD hS => ?_)
  have hP : va_P D classes [(m0, .inr (5, [.int (ji (co)), .long (jl (Dd)), .long (jl (w)), .ref mf, .ref mm, .ref ml, .long (jl (a)), .long (jl (b)), .long (jl (c)), .int (ji (np)), .ref mp]))] H := hP
  have hD : va_D A [(m0, .inr (5, [.int (ji (co)), .long (jl (Dd)), .long (jl (w)), .ref mf, .ref mm, .ref ml, .long (jl (a)), .long (jl (b)), .long (jl (c)), .int (ji (np)), .ref mp]))] := hD
  obtain rfl : r_1 = jl (fm_ab (c)) := hp
  refine wl_mul hx hb d_M_step_10 ?_
  refine lv_lstore_n (lv' := [(1, .long (jl ((2) * (fm_ab (c))))), (0, .ref m0)]) hx hb d_M_step_11 rfl hl (by decide) rfl (fun ls hl => ?_)
  refine lv_aload_n hx hb d_M_step_12 rfl (lv_at hl 1 rfl) ?_
  refine va_get (D := D) (ci := 5) (v := .long (jl (Dd))) (C := R_M) (T := T_M) (N := 11) hx hb hts uw_M hown hK.1 hP 0 rfl rfl 1 (by decide) (hts _ fl_M_9) (fun _ h9 => h9) rfl d_M_step_13 ?_
  refine w_lconst (v := 0) hx hb rfl d_M_step_16 ?_
  refine wl_clt hx hb ⟨by omega, by omega⟩ ⟨by decide, by decide⟩ d_M_step_17 d_M_step_18 (tgt := 36) (by decide) (fun h_3 => ?_) (fun h_3 => ?_)
  · refine lv_aload_n hx hb d_M_step_36 rfl (lv_at hl 1 rfl) ?_
    refine va_get (D := D) (ci := 5) (v := .long (jl (c))) (C := R_M) (T := T_M) (N := 11) hx hb hts uw_M hown hK.1 hP 0 rfl rfl 8 (by decide) (hts _ fl_M_79) (fun _ h9 => h9) rfl d_M_step_37 ?_
    refine cl_l (rn_S (wc := []) (As := [.long (jl (c))]) (rest := []) X hK (c_M_size l D cI cJ cF hc.b.j _) co_M_size in_M ml_M_41 st_M_size 1 rfl (by decide +kernel) ⟨Nat.le_of_ble_eq_true rfl, Nat.le_of_ble_eq_true rfl⟩ hP hD [] rfl (by decide) hl.1 rfl (Nat.le_of_ble_eq_true rfl) d_M_step_40 ⟨Nat.zero_le _, Nat.zero_le _⟩) hP hD hS hA [] rfl (by decide) (fun _ => rfl) (fun r_4 u_5 H locs hp hP hD hS => ?_)
    have hP : va_P D classes [(m0, .inr (5, [.int (ji (co)), .long (jl (Dd)), .long (jl (w)), .ref mf, .ref mm, .ref ml, .long (jl (a)), .long (jl (b)), .long (jl (c)), .int (ji (np)), .ref mp]))] H := hP
    have hD : va_D A [(m0, .inr (5, [.int (ji (co)), .long (jl (Dd)), .long (jl (w)), .ref mf, .ref mm, .ref ml, .long (jl (a)), .long (jl (b)), .long (jl (c)), .int (ji (np)), .ref mp]))] := hD
    obtain rfl : r_4 = jl (fm_ab (c)) := hp
    refine lv_goto (tgt := 50) hx hb d_M_step_43 (by decide) ?_
    refine lv_topl (fun yy hyy => ?_)
    obtain rfl : yy = jl (fm_top w c) := by rw [hyy]; congr 1; rcases fm_top_cases w c with z | z <;> omega
    refine lv_lstore_n (lv' := [(3, .long (jl (fm_top w c))), (1, .long (jl ((2) * (fm_ab (c))))), (0, .ref m0)]) hx hb d_M_step_50 rfl hl (by decide) rfl (fun ls hl => ?_)
    refine lv_lload_n hx hb d_M_step_51 rfl (lv_at hl 0 rfl) ?_
    refine lv_lload_n hx hb d_M_step_52 rfl (lv_at hl 0 rfl) ?_
    refine lv_aload_n hx hb d_M_step_53 rfl (lv_at hl 2 rfl) ?_
    refine va_get (D := D) (ci := 5) (v := .long (jl (b))) (C := R_M) (T := T_M) (N := 11) hx hb hts uw_M hown hK.1 hP 0 rfl rfl 7 (by decide) (hts _ fl_M_76) (fun _ h9 => h9) rfl d_M_step_54 ?_
    refine wl_add hx hb d_M_step_57 ?_
    refine lv_lload_n hx hb d_M_step_58 rfl (lv_at hl 1 rfl) ?_
    refine cl_l (rn_S (wc := []) (As := [.long (jl ((fm_top w c) + (b))), .long (jl ((2) * (fm_ab (c))))]) (rest := [.long (jl (fm_top w c))]) X hK (c_M_rest l D cI cJ cF ⟨by omega, by omega⟩ ⟨by omega, by omega⟩ (by omega) _) co_M_rest in_M ml_M_69 st_M_rest 2 rfl (by decide +kernel) ⟨Nat.le_of_ble_eq_true rfl, Nat.le_of_ble_eq_true rfl⟩ hP hD [] rfl (by decide) hl.1 rfl (Nat.le_of_ble_eq_true rfl) d_M_step_59 ⟨Nat.zero_le _, Nat.zero_le _⟩) hP hD hS hA [] rfl (by decide) (fun _ => rfl) (fun r_6 u_7 H locs hp hP hD hS => ?_)
    have hP : va_P D classes [(m0, .inr (5, [.int (ji (co)), .long (jl (Dd)), .long (jl (w)), .ref mf, .ref mm, .ref ml, .long (jl (a)), .long (jl (b)), .long (jl (c)), .int (ji (np)), .ref mp]))] H := hP
    have hD : va_D A [(m0, .inr (5, [.int (ji (co)), .long (jl (Dd)), .long (jl (w)), .ref mf, .ref mm, .ref ml, .long (jl (a)), .long (jl (b)), .long (jl (c)), .int (ji (np)), .ref mp]))] := hD
    obtain rfl : r_6 = jl (((fm_top w c) + (b)) % ((2) * (fm_ab (c)))) := hp
    refine wl_sub hx hb d_M_step_62 ?_
    obtain ⟨e0, he0⟩ : ∃ t : Int, fm_top w c - (fm_top w c + b) % (2 * fm_ab c) = t := ⟨_, rfl⟩
    rw [he0]
    have hsq := sq_bd (B := 3000000000) (e := e0) (by omega) (by omega)
    refine lv_lstore (lv' := [(5, .long (jl (e0))), (3, .long (jl (fm_top w c))), (1, .long (jl ((2) * (fm_ab (c))))), (0, .ref m0)]) hx hb d_M_step_63 hl (by decide) rfl (fun ls hl => ?_)
    refine lv_lload hx hb d_M_step_65 (lv_at hl 0 rfl) ?_
    refine lv_lload hx hb d_M_step_67 (lv_at hl 0 rfl) ?_
    refine wl_mul hx hb d_M_step_69 ?_
    refine lv_aload_n hx hb d_M_step_70 rfl (lv_at hl 3 rfl) ?_
    refine va_get (D := D) (ci := 5) (v := .long (jl (Dd))) (C := R_M) (T := T_M) (N := 11) hx hb hts uw_M hown hK.1 hP 0 rfl rfl 1 (by decide) (hts _ fl_M_9) (fun _ h9 => h9) rfl d_M_step_71 ?_
    refine wl_sub hx hb d_M_step_74 ?_
    refine w_ldc2 (v := 4) (n := 4) hx hb (by decide) hown (hts _ kc_M_67) d_M_step_75 ?_
    refine lv_aload_n hx hb d_M_step_78 rfl (lv_at hl 3 rfl) ?_
    refine va_get (D := D) (ci := 5) (v := .long (jl (c))) (C := R_M) (T := T_M) (N := 11) hx hb hts uw_M hown hK.1 hP 0 rfl rfl 8 (by decide) (hts _ fl_M_79) (fun _ h9 => h9) rfl d_M_step_79 ?_
    refine wl_mul hx hb d_M_step_82 ?_
    refine wl_div hx hb ⟨by omega, by omega⟩ ⟨by omega, by omega⟩ (by omega) d_M_step_83 ?_
    refine lv_lstore (lv' := [(7, .long (jl ((((e0) * (e0)) - (Dd)).tdiv ((4) * (c))))), (5, .long (jl (e0))), (3, .long (jl (fm_top w c))), (1, .long (jl ((2) * (fm_ab (c))))), (0, .ref m0)]) hx hb d_M_step_84 hl (by decide) rfl (fun ls hl => ?_)
    refine lv_aload_n hx hb d_M_step_86 rfl (lv_at hl 4 rfl) ?_
    refine lv_aload_n hx hb d_M_step_87 rfl (lv_at hl 4 rfl) ?_
    refine va_get (D := D) (ci := 5) (v := .long (jl (c))) (C := R_M) (T := T_M) (N := 11) hx hb hts uw_M hown hK.1 hP 0 rfl rfl 8 (by decide) (hts _ fl_M_79) (fun _ h9 => h9) rfl d_M_step_88 ?_
    refine va_put (D := D) (ci := 5) (v := .long (jl (c))) (ty := .long) (C := R_M) (T := T_M) (N := 11) hx hb hts uw_M ty_M ty_M_ok nm_M hown hK.1 hP hD hS 0 rfl rfl 6 (by decide) (hts _ fl_M_73) (fun _ h9 => h9) rfl (by decide +kernel) rfl rfl (Nat.le_of_ble_eq_true rfl) d_M_step_91 (fun H locs hP hD hS => ?_)
    have hP : va_P D classes [(m0, .inr (5, [.int (ji (co)), .long (jl (Dd)), .long (jl (w)), .ref mf, .ref mm, .ref ml, .long (jl (c)), .long (jl (b)), .long (jl (c)), .int (ji (np)), .ref mp]))] H := hP
    have hD : va_D A [(m0, .inr (5, [.int (ji (co)), .long (jl (Dd)), .long (jl (w)), .ref mf, .ref mm, .ref ml, .long (jl (c)), .long (jl (b)), .long (jl (c)), .int (ji (np)), .ref mp]))] := hD
    refine lv_aload_n hx hb d_M_step_94 rfl (lv_at hl 4 rfl) ?_
    refine lv_lload hx hb d_M_step_95 (lv_at hl 1 rfl) ?_
    refine va_put (D := D) (ci := 5) (v := .long (jl (e0))) (ty := .long) (C := R_M) (T := T_M) (N := 11) hx hb hts uw_M ty_M ty_M_ok nm_M hown hK.1 hP hD hS 0 rfl rfl 7 (by decide) (hts _ fl_M_76) (fun _ h9 => h9) rfl (by decide +kernel) rfl rfl (Nat.le_of_ble_eq_true rfl) d_M_step_97 (fun H locs hP hD hS => ?_)
    have hP : va_P D classes [(m0, .inr (5, [.int (ji (co)), .long (jl (Dd)), .long (jl (w)), .ref mf, .ref mm, .ref ml, .long (jl (c)), .long (jl (e0)), .long (jl (c)), .int (ji (np)), .ref mp]))] H := hP
    have hD : va_D A [(m0, .inr (5, [.int (ji (co)), .long (jl (Dd)), .long (jl (w)), .ref mf, .ref mm, .ref ml, .long (jl (c)), .long (jl (e0)), .long (jl (c)), .int (ji (np)), .ref mp]))] := hD
    refine lv_aload_n hx hb d_M_step_100 rfl (lv_at hl 4 rfl) ?_
    refine lv_lload hx hb d_M_step_101 (lv_at hl 0 rfl) ?_
    refine va_put (D := D) (ci := 5) (v := .long (jl ((((e0) * (e0)) - (Dd)).tdiv ((4) * (c))))) (ty := .long) (C := R_M) (T := T_M) (N := 11) hx hb hts uw_M ty_M ty_M_ok nm_M hown hK.1 hP hD hS 0 rfl rfl 8 (by decide) (hts _ fl_M_79) (fun _ h9 => h9) rfl (by decide +kernel) rfl rfl (Nat.le_of_ble_eq_true rfl) d_M_step_103 (fun H locs hP hD hS => ?_)
    have hP : va_P D classes [(m0, .inr (5, [.int (ji (co)), .long (jl (Dd)), .long (jl (w)), .ref mf, .ref mm, .ref ml, .long (jl (c)), .long (jl (e0)), .long (jl ((((e0) * (e0)) - (Dd)).tdiv ((4) * (c)))), .int (ji (np)), .ref mp]))] H := hP
    have hD : va_D A [(m0, .inr (5, [.int (ji (co)), .long (jl (Dd)), .long (jl (w)), .ref mf, .ref mm, .ref ml, .long (jl (c)), .long (jl (e0)), .long (jl ((((e0) * (e0)) - (Dd)).tdiv ((4) * (c)))), .int (ji (np)), .ref mp]))] := hD
    have hrho := st_rho (w := w) hc0 hd
    have hP : va_P D classes [(m0, .inr (5, [.int (ji (co)), .long (jl (Dd)), .long (jl (w)), .ref mf, .ref mm, .ref ml, .long (jl ((fm_rho Dd w (a, b, c)).1)), .long (jl ((fm_rho Dd w (a, b, c)).2.1)), .long (jl ((fm_rho Dd w (a, b, c)).2.2)), .int (ji (np)), .ref mp]))] H := by rw [hrho, he0]; exact hP
    exact rt_v X hAe hS () trivial hP d_M_step_106
  · refine lv_aload_n hx hb d_M_step_21 rfl (lv_at hl 1 rfl) ?_
    refine va_get (D := D) (ci := 5) (v := .long (jl (c))) (C := R_M) (T := T_M) (N := 11) hx hb hts uw_M hown hK.1 hP 0 rfl rfl 8 (by decide) (hts _ fl_M_79) (fun _ h9 => h9) rfl d_M_step_22 ?_
    refine cl_l (rn_S (wc := []) (As := [.long (jl (c))]) (rest := []) X hK (c_M_size l D cI cJ cF hc.b.j _) co_M_size in_M ml_M_41 st_M_size 1 rfl (by decide +kernel) ⟨Nat.le_of_ble_eq_true rfl, Nat.le_of_ble_eq_true rfl⟩ hP hD [] rfl (by decide) hl.1 rfl (Nat.le_of_ble_eq_true rfl) d_M_step_25 ⟨Nat.zero_le _, Nat.zero_le _⟩) hP hD hS hA [] rfl (by decide) (fun _ => rfl) (fun r_8 u_9 H locs hp hP hD hS => ?_)
    have hP : va_P D classes [(m0, .inr (5, [.int (ji (co)), .long (jl (Dd)), .long (jl (w)), .ref mf, .ref mm, .ref ml, .long (jl (a)), .long (jl (b)), .long (jl (c)), .int (ji (np)), .ref mp]))] H := hP
    have hD : va_D A [(m0, .inr (5, [.int (ji (co)), .long (jl (Dd)), .long (jl (w)), .ref mf, .ref mm, .ref ml, .long (jl (a)), .long (jl (b)), .long (jl (c)), .int (ji (np)), .ref mp]))] := hD
    obtain rfl : r_8 = jl (fm_ab (c)) := hp
    refine lv_aload_n hx hb d_M_step_28 rfl (lv_at hl 1 rfl) ?_
    refine va_get (D := D) (ci := 5) (v := .long (jl (w))) (C := R_M) (T := T_M) (N := 11) hx hb hts uw_M hown hK.1 hP 0 rfl rfl 2 (by decide) (hts _ fl_M_17) (fun _ h9 => h9) rfl d_M_step_29 ?_
    refine wl_cle hx hb ⟨by omega, by omega⟩ ⟨by omega, by omega⟩ d_M_step_32 d_M_step_33 (tgt := 46) (by decide) (fun h_10 => ?_) (fun h_10 => ?_)
    · refine lv_aload_n hx hb d_M_step_46 rfl (lv_at hl 1 rfl) ?_
      refine va_get (D := D) (ci := 5) (v := .long (jl (w))) (C := R_M) (T := T_M) (N := 11) hx hb hts uw_M hown hK.1 hP 0 rfl rfl 2 (by decide) (hts _ fl_M_17) (fun _ h9 => h9) rfl d_M_step_47 ?_
      refine lv_topl (fun yy hyy => ?_)
      obtain rfl : yy = jl (fm_top w c) := by rw [hyy]; congr 1; rcases fm_top_cases w c with z | z <;> omega
      refine lv_lstore_n (lv' := [(3, .long (jl (fm_top w c))), (1, .long (jl ((2) * (fm_ab (c))))), (0, .ref m0)]) hx hb d_M_step_50 rfl hl (by decide) rfl (fun ls hl => ?_)
      refine lv_lload_n hx hb d_M_step_51 rfl (lv_at hl 0 rfl) ?_
      refine lv_lload_n hx hb d_M_step_52 rfl (lv_at hl 0 rfl) ?_
      refine lv_aload_n hx hb d_M_step_53 rfl (lv_at hl 2 rfl) ?_
      refine va_get (D := D) (ci := 5) (v := .long (jl (b))) (C := R_M) (T := T_M) (N := 11) hx hb hts uw_M hown hK.1 hP 0 rfl rfl 7 (by decide) (hts _ fl_M_76) (fun _ h9 => h9) rfl d_M_step_54 ?_
      refine wl_add hx hb d_M_step_57 ?_
      refine lv_lload_n hx hb d_M_step_58 rfl (lv_at hl 1 rfl) ?_
      refine cl_l (rn_S (wc := []) (As := [.long (jl ((fm_top w c) + (b))), .long (jl ((2) * (fm_ab (c))))]) (rest := [.long (jl (fm_top w c))]) X hK (c_M_rest l D cI cJ cF ⟨by omega, by omega⟩ ⟨by omega, by omega⟩ (by omega) _) co_M_rest in_M ml_M_69 st_M_rest 2 rfl (by decide +kernel) ⟨Nat.le_of_ble_eq_true rfl, Nat.le_of_ble_eq_true rfl⟩ hP hD [] rfl (by decide) hl.1 rfl (Nat.le_of_ble_eq_true rfl) d_M_step_59 ⟨Nat.zero_le _, Nat.zero_le _⟩) hP hD hS hA [] rfl (by decide) (fun _ => rfl) (fun r_11 u_12 H locs hp hP hD hS => ?_)
      have hP : va_P D classes [(m0, .inr (5, [.int (ji (co)), .long (jl (Dd)), .long (jl (w)), .ref mf, .ref mm, .ref ml, .long (jl (a)), .long (jl (b)), .long (jl (c)), .int (ji (np)), .ref mp]))] H := hP
      have hD : va_D A [(m0, .inr (5, [.int (ji (co)), .long (jl (Dd)), .long (jl (w)), .ref mf, .ref mm, .ref ml, .long (jl (a)), .long (jl (b)), .long (jl (c)), .int (ji (np)), .ref mp]))] := hD
      obtain rfl : r_11 = jl (((fm_top w c) + (b)) % ((2) * (fm_ab (c)))) := hp
      refine wl_sub hx hb d_M_step_62 ?_
      obtain ⟨e0, he0⟩ : ∃ t : Int, fm_top w c - (fm_top w c + b) % (2 * fm_ab c) = t := ⟨_, rfl⟩
      rw [he0]
      have hsq := sq_bd (B := 3000000000) (e := e0) (by omega) (by omega)
      refine lv_lstore (lv' := [(5, .long (jl (e0))), (3, .long (jl (fm_top w c))), (1, .long (jl ((2) * (fm_ab (c))))), (0, .ref m0)]) hx hb d_M_step_63 hl (by decide) rfl (fun ls hl => ?_)
      refine lv_lload hx hb d_M_step_65 (lv_at hl 0 rfl) ?_
      refine lv_lload hx hb d_M_step_67 (lv_at hl 0 rfl) ?_
      refine wl_mul hx hb d_M_step_69 ?_
      refine lv_aload_n hx hb d_M_step_70 rfl (lv_at hl 3 rfl) ?_
      refine va_get (D := D) (ci := 5) (v := .long (jl (Dd))) (C := R_M) (T := T_M) (N := 11) hx hb hts uw_M hown hK.1 hP 0 rfl rfl 1 (by decide) (hts _ fl_M_9) (fun _ h9 => h9) rfl d_M_step_71 ?_
      refine wl_sub hx hb d_M_step_74 ?_
      refine w_ldc2 (v := 4) (n := 4) hx hb (by decide) hown (hts _ kc_M_67) d_M_step_75 ?_
      refine lv_aload_n hx hb d_M_step_78 rfl (lv_at hl 3 rfl) ?_
      refine va_get (D := D) (ci := 5) (v := .long (jl (c))) (C := R_M) (T := T_M) (N := 11) hx hb hts uw_M hown hK.1 hP 0 rfl rfl 8 (by decide) (hts _ fl_M_79) (fun _ h9 => h9) rfl d_M_step_79 ?_
      refine wl_mul hx hb d_M_step_82 ?_
      refine wl_div hx hb ⟨by omega, by omega⟩ ⟨by omega, by omega⟩ (by omega) d_M_step_83 ?_
      refine lv_lstore (lv' := [(7, .long (jl ((((e0) * (e0)) - (Dd)).tdiv ((4) * (c))))), (5, .long (jl (e0))), (3, .long (jl (fm_top w c))), (1, .long (jl ((2) * (fm_ab (c))))), (0, .ref m0)]) hx hb d_M_step_84 hl (by decide) rfl (fun ls hl => ?_)
      refine lv_aload_n hx hb d_M_step_86 rfl (lv_at hl 4 rfl) ?_
      refine lv_aload_n hx hb d_M_step_87 rfl (lv_at hl 4 rfl) ?_
      refine va_get (D := D) (ci := 5) (v := .long (jl (c))) (C := R_M) (T := T_M) (N := 11) hx hb hts uw_M hown hK.1 hP 0 rfl rfl 8 (by decide) (hts _ fl_M_79) (fun _ h9 => h9) rfl d_M_step_88 ?_
      refine va_put (D := D) (ci := 5) (v := .long (jl (c))) (ty := .long) (C := R_M) (T := T_M) (N := 11) hx hb hts uw_M ty_M ty_M_ok nm_M hown hK.1 hP hD hS 0 rfl rfl 6 (by decide) (hts _ fl_M_73) (fun _ h9 => h9) rfl (by decide +kernel) rfl rfl (Nat.le_of_ble_eq_true rfl) d_M_step_91 (fun H locs hP hD hS => ?_)
      have hP : va_P D classes [(m0, .inr (5, [.int (ji (co)), .long (jl (Dd)), .long (jl (w)), .ref mf, .ref mm, .ref ml, .long (jl (c)), .long (jl (b)), .long (jl (c)), .int (ji (np)), .ref mp]))] H := hP
      have hD : va_D A [(m0, .inr (5, [.int (ji (co)), .long (jl (Dd)), .long (jl (w)), .ref mf, .ref mm, .ref ml, .long (jl (c)), .long (jl (b)), .long (jl (c)), .int (ji (np)), .ref mp]))] := hD
      refine lv_aload_n hx hb d_M_step_94 rfl (lv_at hl 4 rfl) ?_
      refine lv_lload hx hb d_M_step_95 (lv_at hl 1 rfl) ?_
      refine va_put (D := D) (ci := 5) (v := .long (jl (e0))) (ty := .long) (C := R_M) (T := T_M) (N := 11) hx hb hts uw_M ty_M ty_M_ok nm_M hown hK.1 hP hD hS 0 rfl rfl 7 (by decide) (hts _ fl_M_76) (fun _ h9 => h9) rfl (by decide +kernel) rfl rfl (Nat.le_of_ble_eq_true rfl) d_M_step_97 (fun H locs hP hD hS => ?_)
      have hP : va_P D classes [(m0, .inr (5, [.int (ji (co)), .long (jl (Dd)), .long (jl (w)), .ref mf, .ref mm, .ref ml, .long (jl (c)), .long (jl (e0)), .long (jl (c)), .int (ji (np)), .ref mp]))] H := hP
      have hD : va_D A [(m0, .inr (5, [.int (ji (co)), .long (jl (Dd)), .long (jl (w)), .ref mf, .ref mm, .ref ml, .long (jl (c)), .long (jl (e0)), .long (jl (c)), .int (ji (np)), .ref mp]))] := hD
      refine lv_aload_n hx hb d_M_step_100 rfl (lv_at hl 4 rfl) ?_
      refine lv_lload hx hb d_M_step_101 (lv_at hl 0 rfl) ?_
      refine va_put (D := D) (ci := 5) (v := .long (jl ((((e0) * (e0)) - (Dd)).tdiv ((4) * (c))))) (ty := .long) (C := R_M) (T := T_M) (N := 11) hx hb hts uw_M ty_M ty_M_ok nm_M hown hK.1 hP hD hS 0 rfl rfl 8 (by decide) (hts _ fl_M_79) (fun _ h9 => h9) rfl (by decide +kernel) rfl rfl (Nat.le_of_ble_eq_true rfl) d_M_step_103 (fun H locs hP hD hS => ?_)
      have hP : va_P D classes [(m0, .inr (5, [.int (ji (co)), .long (jl (Dd)), .long (jl (w)), .ref mf, .ref mm, .ref ml, .long (jl (c)), .long (jl (e0)), .long (jl ((((e0) * (e0)) - (Dd)).tdiv ((4) * (c)))), .int (ji (np)), .ref mp]))] H := hP
      have hD : va_D A [(m0, .inr (5, [.int (ji (co)), .long (jl (Dd)), .long (jl (w)), .ref mf, .ref mm, .ref ml, .long (jl (c)), .long (jl (e0)), .long (jl ((((e0) * (e0)) - (Dd)).tdiv ((4) * (c)))), .int (ji (np)), .ref mp]))] := hD
      have hrho := st_rho (w := w) hc0 hd
      have hP : va_P D classes [(m0, .inr (5, [.int (ji (co)), .long (jl (Dd)), .long (jl (w)), .ref mf, .ref mm, .ref ml, .long (jl ((fm_rho Dd w (a, b, c)).1)), .long (jl ((fm_rho Dd w (a, b, c)).2.1)), .long (jl ((fm_rho Dd w (a, b, c)).2.2)), .int (ji (np)), .ref mp]))] H := by rw [hrho, he0]; exact hP
      exact rt_v X hAe hS () trivial hP d_M_step_106
    · refine lv_aload_n hx hb d_M_step_36 rfl (lv_at hl 1 rfl) ?_
      refine va_get (D := D) (ci := 5) (v := .long (jl (c))) (C := R_M) (T := T_M) (N := 11) hx hb hts uw_M hown hK.1 hP 0 rfl rfl 8 (by decide) (hts _ fl_M_79) (fun _ h9 => h9) rfl d_M_step_37 ?_
      refine cl_l (rn_S (wc := []) (As := [.long (jl (c))]) (rest := []) X hK (c_M_size l D cI cJ cF hc.b.j _) co_M_size in_M ml_M_41 st_M_size 1 rfl (by decide +kernel) ⟨Nat.le_of_ble_eq_true rfl, Nat.le_of_ble_eq_true rfl⟩ hP hD [] rfl (by decide) hl.1 rfl (Nat.le_of_ble_eq_true rfl) d_M_step_40 ⟨Nat.zero_le _, Nat.zero_le _⟩) hP hD hS hA [] rfl (by decide) (fun _ => rfl) (fun r_13 u_14 H locs hp hP hD hS => ?_)
      have hP : va_P D classes [(m0, .inr (5, [.int (ji (co)), .long (jl (Dd)), .long (jl (w)), .ref mf, .ref mm, .ref ml, .long (jl (a)), .long (jl (b)), .long (jl (c)), .int (ji (np)), .ref mp]))] H := hP
      have hD : va_D A [(m0, .inr (5, [.int (ji (co)), .long (jl (Dd)), .long (jl (w)), .ref mf, .ref mm, .ref ml, .long (jl (a)), .long (jl (b)), .long (jl (c)), .int (ji (np)), .ref mp]))] := hD
      obtain rfl : r_13 = jl (fm_ab (c)) := hp
      refine lv_goto (tgt := 50) hx hb d_M_step_43 (by decide) ?_
      refine lv_topl (fun yy hyy => ?_)
      obtain rfl : yy = jl (fm_top w c) := by rw [hyy]; congr 1; rcases fm_top_cases w c with z | z <;> omega
      refine lv_lstore_n (lv' := [(3, .long (jl (fm_top w c))), (1, .long (jl ((2) * (fm_ab (c))))), (0, .ref m0)]) hx hb d_M_step_50 rfl hl (by decide) rfl (fun ls hl => ?_)
      refine lv_lload_n hx hb d_M_step_51 rfl (lv_at hl 0 rfl) ?_
      refine lv_lload_n hx hb d_M_step_52 rfl (lv_at hl 0 rfl) ?_
      refine lv_aload_n hx hb d_M_step_53 rfl (lv_at hl 2 rfl) ?_
      refine va_get (D := D) (ci := 5) (v := .long (jl (b))) (C := R_M) (T := T_M) (N := 11) hx hb hts uw_M hown hK.1 hP 0 rfl rfl 7 (by decide) (hts _ fl_M_76) (fun _ h9 => h9) rfl d_M_step_54 ?_
      refine wl_add hx hb d_M_step_57 ?_
      refine lv_lload_n hx hb d_M_step_58 rfl (lv_at hl 1 rfl) ?_
      refine cl_l (rn_S (wc := []) (As := [.long (jl ((fm_top w c) + (b))), .long (jl ((2) * (fm_ab (c))))]) (rest := [.long (jl (fm_top w c))]) X hK (c_M_rest l D cI cJ cF ⟨by omega, by omega⟩ ⟨by omega, by omega⟩ (by omega) _) co_M_rest in_M ml_M_69 st_M_rest 2 rfl (by decide +kernel) ⟨Nat.le_of_ble_eq_true rfl, Nat.le_of_ble_eq_true rfl⟩ hP hD [] rfl (by decide) hl.1 rfl (Nat.le_of_ble_eq_true rfl) d_M_step_59 ⟨Nat.zero_le _, Nat.zero_le _⟩) hP hD hS hA [] rfl (by decide) (fun _ => rfl) (fun r_15 u_16 H locs hp hP hD hS => ?_)
      have hP : va_P D classes [(m0, .inr (5, [.int (ji (co)), .long (jl (Dd)), .long (jl (w)), .ref mf, .ref mm, .ref ml, .long (jl (a)), .long (jl (b)), .long (jl (c)), .int (ji (np)), .ref mp]))] H := hP
      have hD : va_D A [(m0, .inr (5, [.int (ji (co)), .long (jl (Dd)), .long (jl (w)), .ref mf, .ref mm, .ref ml, .long (jl (a)), .long (jl (b)), .long (jl (c)), .int (ji (np)), .ref mp]))] := hD
      obtain rfl : r_15 = jl (((fm_top w c) + (b)) % ((2) * (fm_ab (c)))) := hp
      refine wl_sub hx hb d_M_step_62 ?_
      obtain ⟨e0, he0⟩ : ∃ t : Int, fm_top w c - (fm_top w c + b) % (2 * fm_ab c) = t := ⟨_, rfl⟩
      rw [he0]
      have hsq := sq_bd (B := 3000000000) (e := e0) (by omega) (by omega)
      refine lv_lstore (lv' := [(5, .long (jl (e0))), (3, .long (jl (fm_top w c))), (1, .long (jl ((2) * (fm_ab (c))))), (0, .ref m0)]) hx hb d_M_step_63 hl (by decide) rfl (fun ls hl => ?_)
      refine lv_lload hx hb d_M_step_65 (lv_at hl 0 rfl) ?_
      refine lv_lload hx hb d_M_step_67 (lv_at hl 0 rfl) ?_
      refine wl_mul hx hb d_M_step_69 ?_
      refine lv_aload_n hx hb d_M_step_70 rfl (lv_at hl 3 rfl) ?_
      refine va_get (D := D) (ci := 5) (v := .long (jl (Dd))) (C := R_M) (T := T_M) (N := 11) hx hb hts uw_M hown hK.1 hP 0 rfl rfl 1 (by decide) (hts _ fl_M_9) (fun _ h9 => h9) rfl d_M_step_71 ?_
      refine wl_sub hx hb d_M_step_74 ?_
      refine w_ldc2 (v := 4) (n := 4) hx hb (by decide) hown (hts _ kc_M_67) d_M_step_75 ?_
      refine lv_aload_n hx hb d_M_step_78 rfl (lv_at hl 3 rfl) ?_
      refine va_get (D := D) (ci := 5) (v := .long (jl (c))) (C := R_M) (T := T_M) (N := 11) hx hb hts uw_M hown hK.1 hP 0 rfl rfl 8 (by decide) (hts _ fl_M_79) (fun _ h9 => h9) rfl d_M_step_79 ?_
      refine wl_mul hx hb d_M_step_82 ?_
      refine wl_div hx hb ⟨by omega, by omega⟩ ⟨by omega, by omega⟩ (by omega) d_M_step_83 ?_
      refine lv_lstore (lv' := [(7, .long (jl ((((e0) * (e0)) - (Dd)).tdiv ((4) * (c))))), (5, .long (jl (e0))), (3, .long (jl (fm_top w c))), (1, .long (jl ((2) * (fm_ab (c))))), (0, .ref m0)]) hx hb d_M_step_84 hl (by decide) rfl (fun ls hl => ?_)
      refine lv_aload_n hx hb d_M_step_86 rfl (lv_at hl 4 rfl) ?_
      refine lv_aload_n hx hb d_M_step_87 rfl (lv_at hl 4 rfl) ?_
      refine va_get (D := D) (ci := 5) (v := .long (jl (c))) (C := R_M) (T := T_M) (N := 11) hx hb hts uw_M hown hK.1 hP 0 rfl rfl 8 (by decide) (hts _ fl_M_79) (fun _ h9 => h9) rfl d_M_step_88 ?_
      refine va_put (D := D) (ci := 5) (v := .long (jl (c))) (ty := .long) (C := R_M) (T := T_M) (N := 11) hx hb hts uw_M ty_M ty_M_ok nm_M hown hK.1 hP hD hS 0 rfl rfl 6 (by decide) (hts _ fl_M_73) (fun _ h9 => h9) rfl (by decide +kernel) rfl rfl (Nat.le_of_ble_eq_true rfl) d_M_step_91 (fun H locs hP hD hS => ?_)
      have hP : va_P D classes [(m0, .inr (5, [.int (ji (co)), .long (jl (Dd)), .long (jl (w)), .ref mf, .ref mm, .ref ml, .long (jl (c)), .long (jl (b)), .long (jl (c)), .int (ji (np)), .ref mp]))] H := hP
      have hD : va_D A [(m0, .inr (5, [.int (ji (co)), .long (jl (Dd)), .long (jl (w)), .ref mf, .ref mm, .ref ml, .long (jl (c)), .long (jl (b)), .long (jl (c)), .int (ji (np)), .ref mp]))] := hD
      refine lv_aload_n hx hb d_M_step_94 rfl (lv_at hl 4 rfl) ?_
      refine lv_lload hx hb d_M_step_95 (lv_at hl 1 rfl) ?_
      refine va_put (D := D) (ci := 5) (v := .long (jl (e0))) (ty := .long) (C := R_M) (T := T_M) (N := 11) hx hb hts uw_M ty_M ty_M_ok nm_M hown hK.1 hP hD hS 0 rfl rfl 7 (by decide) (hts _ fl_M_76) (fun _ h9 => h9) rfl (by decide +kernel) rfl rfl (Nat.le_of_ble_eq_true rfl) d_M_step_97 (fun H locs hP hD hS => ?_)
      have hP : va_P D classes [(m0, .inr (5, [.int (ji (co)), .long (jl (Dd)), .long (jl (w)), .ref mf, .ref mm, .ref ml, .long (jl (c)), .long (jl (e0)), .long (jl (c)), .int (ji (np)), .ref mp]))] H := hP
      have hD : va_D A [(m0, .inr (5, [.int (ji (co)), .long (jl (Dd)), .long (jl (w)), .ref mf, .ref mm, .ref ml, .long (jl (c)), .long (jl (e0)), .long (jl (c)), .int (ji (np)), .ref mp]))] := hD
      refine lv_aload_n hx hb d_M_step_100 rfl (lv_at hl 4 rfl) ?_
      refine lv_lload hx hb d_M_step_101 (lv_at hl 0 rfl) ?_
      refine va_put (D := D) (ci := 5) (v := .long (jl ((((e0) * (e0)) - (Dd)).tdiv ((4) * (c))))) (ty := .long) (C := R_M) (T := T_M) (N := 11) hx hb hts uw_M ty_M ty_M_ok nm_M hown hK.1 hP hD hS 0 rfl rfl 8 (by decide) (hts _ fl_M_79) (fun _ h9 => h9) rfl (by decide +kernel) rfl rfl (Nat.le_of_ble_eq_true rfl) d_M_step_103 (fun H locs hP hD hS => ?_)
      have hP : va_P D classes [(m0, .inr (5, [.int (ji (co)), .long (jl (Dd)), .long (jl (w)), .ref mf, .ref mm, .ref ml, .long (jl (c)), .long (jl (e0)), .long (jl ((((e0) * (e0)) - (Dd)).tdiv ((4) * (c)))), .int (ji (np)), .ref mp]))] H := hP
      have hD : va_D A [(m0, .inr (5, [.int (ji (co)), .long (jl (Dd)), .long (jl (w)), .ref mf, .ref mm, .ref ml, .long (jl (c)), .long (jl (e0)), .long (jl ((((e0) * (e0)) - (Dd)).tdiv ((4) * (c)))), .int (ji (np)), .ref mp]))] := hD
      have hrho := st_rho (w := w) hc0 hd
      have hP : va_P D classes [(m0, .inr (5, [.int (ji (co)), .long (jl (Dd)), .long (jl (w)), .ref mf, .ref mm, .ref ml, .long (jl ((fm_rho Dd w (a, b, c)).1)), .long (jl ((fm_rho Dd w (a, b, c)).2.1)), .long (jl ((fm_rho Dd w (a, b, c)).2.2)), .int (ji (np)), .ref mp]))] H := by rw [hrho, he0]; exact hP
      exact rt_v X hAe hS () trivial hP d_M_step_106

set_option maxHeartbeats 4000000 in
set_option maxRecDepth 100000 in
theorem c_M_isReduced (l : Launch) (D : va_G) (cI cJ cF : ClassId) {m0 mf mm ml mp : Nat} {co Dd w np : Int} {a b c : Int} (hg : gD Dd w) (hs : sOK w a b c) : ∀ sz, Met l y_M_isReduced (Cond.code y_M_isReduced b_M_isReduced 1 (some .boolean) :: wb) { frames := 1, cells := 0, slots := 0, locals := 21 } (va_Pc [.ref m0] (cpre D cI cJ cF [(m0, .inr (5, [.int (ji (co)), .long (jl (Dd)), .long (jl (w)), .ref mf, .ref mm, .ref ml, .long (jl (a)), .long (jl (b)), .long (jl (c)), .int (ji (np)), .ref mp]))] sz)) (va_Qi (fun r (u : Unit) => ∃ t : Int, r = ji t ∧ ((t = 1 ∧ (fm_red Dd w (a, b, c))) ∨ (t = 0 ∧ ¬ (fm_red Dd w (a, b, c))))) (fun (u : Unit) tS => va_P D classes [(m0, .inr (5, [.int (ji (co)), .long (jl (Dd)), .long (jl (w)), .ref mf, .ref mm, .ref ml, .long (jl (a)), .long (jl (b)), .long (jl (c)), .int (ji (np)), .ref mp]))] tS.heap) (va_A [(m0, .inr (5, [.int (ji (co)), .long (jl (Dd)), .long (jl (w)), .ref mf, .ref mm, .ref ml, .long (jl (a)), .long (jl (b)), .long (jl (c)), .int (ji (np)), .ref mp]))] sz)) 0 0 (va_A [(m0, .inr (5, [.int (ji (co)), .long (jl (Dd)), .long (jl (w)), .ref mf, .ref mm, .ref ml, .long (jl (a)), .long (jl (b)), .long (jl (c)), .int (ji (np)), .ref mp]))] sz) := by
  refine c_of (Qc := fun sz => va_Qi (fun r (u : Unit) => ∃ t : Int, r = ji t ∧ ((t = 1 ∧ (fm_red Dd w (a, b, c))) ∨ (t = 0 ∧ ¬ (fm_red Dd w (a, b, c))))) (fun (u : Unit) tS => va_P D classes [(m0, .inr (5, [.int (ji (co)), .long (jl (Dd)), .long (jl (w)), .ref mf, .ref mm, .ref ml, .long (jl (a)), .long (jl (b)), .long (jl (c)), .int (ji (np)), .ref mp]))] tS.heap) (va_A [(m0, .inr (5, [.int (ji (co)), .long (jl (Dd)), .long (jl (w)), .ref mf, .ref mm, .ref ml, .long (jl (a)), .long (jl (b)), .long (jl (c)), .int (ji (np)), .ref mp]))] sz)) (by decide +kernel) co_M_isReduced (Nat.le_of_ble_eq_true rfl) ?_
  intro pq eq s mq below meth cq A X hK hP hD hS hA hAe ls hl
  obtain ⟨hx, hb, hml, hown, hr, hlocks, hts⟩ := id X
  have hl : lv_has ls 1 [(0, .ref m0)] := hl
  obtain ⟨s1, s2, s3, s4⟩ := id hs
  have za1 := s1.1
  have za2 := s1.2
  have zb1 := s2.1
  have zb2 := s2.2
  have zc1 := s3.1
  have zc2 := s3.2
  have zw := hg.w
  have zw2 := hg.2.2.2
  have zd1 := hg.2.1
  have zd2 := hg.2.2.1
  have zaa := ab_nat a
  have zbb := ab_nat b
  obtain ⟨v, hv, ev⟩ := jl_of (jl (b * b))
  refine lv_aload_n hx hb d_M_isReduced_0 rfl (lv_at hl 0 rfl) ?_
  refine va_get (D := D) (ci := 5) (v := .long (jl (Dd))) (C := R_M) (T := T_M) (N := 11) hx hb hts uw_M hown hK.1 hP 0 rfl rfl 1 (by decide) (hts _ fl_M_9) (fun _ h9 => h9) rfl d_M_isReduced_1 ?_
  refine w_lconst (v := 0) hx hb rfl d_M_isReduced_4 ?_
  refine wl_cge hx hb ⟨by omega, by omega⟩ ⟨by decide, by decide⟩ d_M_isReduced_5 d_M_isReduced_6 (tgt := 76) (by decide) (fun h_1 => ?_) (fun h_1 => ?_)
  · refine lv_aload_n hx hb d_M_isReduced_76 rfl (lv_at hl 0 rfl) ?_
    refine va_get (D := D) (ci := 5) (v := .long (jl (b))) (C := R_M) (T := T_M) (N := 11) hx hb hts uw_M hown hK.1 hP 0 rfl rfl 7 (by decide) (hts _ fl_M_76) (fun _ h9 => h9) rfl d_M_isReduced_77 ?_
    refine w_lconst (v := 0) hx hb rfl d_M_isReduced_80 ?_
    refine wl_cle hx hb ⟨by omega, by omega⟩ ⟨by decide, by decide⟩ d_M_isReduced_81 d_M_isReduced_82 (tgt := 154) (by decide) (fun h_2 => ?_) (fun h_2 => ?_)
    · refine w_iconst hx hb d_M_isReduced_154 ?_
      exact rt_z X hAe hS () rfl ⟨0, rfl, Or.inr ⟨rfl, fun z => by have := (red_gt hg (by omega) hs hv ev).mp z; omega⟩⟩ hP d_M_isReduced_155
    · refine lv_aload_n hx hb d_M_isReduced_85 rfl (lv_at hl 0 rfl) ?_
      refine va_get (D := D) (ci := 5) (v := .long (jl (b))) (C := R_M) (T := T_M) (N := 11) hx hb hts uw_M hown hK.1 hP 0 rfl rfl 7 (by decide) (hts _ fl_M_76) (fun _ h9 => h9) rfl d_M_isReduced_86 ?_
      refine lv_aload_n hx hb d_M_isReduced_89 rfl (lv_at hl 0 rfl) ?_
      refine va_get (D := D) (ci := 5) (v := .long (jl (b))) (C := R_M) (T := T_M) (N := 11) hx hb hts uw_M hown hK.1 hP 0 rfl rfl 7 (by decide) (hts _ fl_M_76) (fun _ h9 => h9) rfl d_M_isReduced_90 ?_
      refine wl_mul hx hb d_M_isReduced_93 ?_
      refine lv_topl (fun yy hyy => ?_)
      obtain rfl : yy = jl v := hyy.trans ev
      refine lv_aload_n hx hb d_M_isReduced_94 rfl (lv_at hl 0 rfl) ?_
      refine va_get (D := D) (ci := 5) (v := .long (jl (Dd))) (C := R_M) (T := T_M) (N := 11) hx hb hts uw_M hown hK.1 hP 0 rfl rfl 1 (by decide) (hts _ fl_M_9) (fun _ h9 => h9) rfl d_M_isReduced_95 ?_
      refine wl_cge hx hb hv ⟨by omega, by omega⟩ d_M_isReduced_98 d_M_isReduced_99 (tgt := 154) (by decide) (fun h_3 => ?_) (fun h_3 => ?_)
      · refine w_iconst hx hb d_M_isReduced_154 ?_
        exact rt_z X hAe hS () rfl ⟨0, rfl, Or.inr ⟨rfl, fun z => by have := (red_gt hg (by omega) hs hv ev).mp z; omega⟩⟩ hP d_M_isReduced_155
      · refine w_ldc2 (v := 2) (n := 2) hx hb (by decide) hown (hts _ kc_M_53) d_M_isReduced_102 ?_
        refine lv_aload_n hx hb d_M_isReduced_105 rfl (lv_at hl 0 rfl) ?_
        refine va_get (D := D) (ci := 5) (v := .long (jl (a))) (C := R_M) (T := T_M) (N := 11) hx hb hts uw_M hown hK.1 hP 0 rfl rfl 6 (by decide) (hts _ fl_M_73) (fun _ h9 => h9) rfl d_M_isReduced_106 ?_
        refine cl_l (rn_S (wc := []) (As := [.long (jl (a))]) (rest := [.long (jl (2))]) X hK (c_M_size l D cI cJ cF s1.j _) co_M_size in_M ml_M_41 st_M_size 1 rfl (by decide +kernel) ⟨Nat.le_of_ble_eq_true rfl, Nat.le_of_ble_eq_true rfl⟩ hP hD [] rfl (by decide) hl.1 rfl (Nat.le_of_ble_eq_true rfl) d_M_isReduced_109 ⟨Nat.zero_le _, Nat.zero_le _⟩) hP hD hS hA [] rfl (by decide) (fun _ => rfl) (fun r_4 u_5 H locs hp hP hD hS => ?_)
        have hP : va_P D classes [(m0, .inr (5, [.int (ji (co)), .long (jl (Dd)), .long (jl (w)), .ref mf, .ref mm, .ref ml, .long (jl (a)), .long (jl (b)), .long (jl (c)), .int (ji (np)), .ref mp]))] H := hP
        have hD : va_D A [(m0, .inr (5, [.int (ji (co)), .long (jl (Dd)), .long (jl (w)), .ref mf, .ref mm, .ref ml, .long (jl (a)), .long (jl (b)), .long (jl (c)), .int (ji (np)), .ref mp]))] := hD
        obtain rfl : r_4 = jl (fm_ab (a)) := hp
        refine wl_mul hx hb d_M_isReduced_112 ?_
        refine lv_aload_n hx hb d_M_isReduced_113 rfl (lv_at hl 0 rfl) ?_
        refine va_get (D := D) (ci := 5) (v := .long (jl (b))) (C := R_M) (T := T_M) (N := 11) hx hb hts uw_M hown hK.1 hP 0 rfl rfl 7 (by decide) (hts _ fl_M_76) (fun _ h9 => h9) rfl d_M_isReduced_114 ?_
        refine wl_add hx hb d_M_isReduced_117 ?_
        refine lv_aload_n hx hb d_M_isReduced_118 rfl (lv_at hl 0 rfl) ?_
        refine va_get (D := D) (ci := 5) (v := .long (jl (w))) (C := R_M) (T := T_M) (N := 11) hx hb hts uw_M hown hK.1 hP 0 rfl rfl 2 (by decide) (hts _ fl_M_17) (fun _ h9 => h9) rfl d_M_isReduced_119 ?_
        refine wl_cle hx hb ⟨by omega, by omega⟩ ⟨by omega, by omega⟩ d_M_isReduced_122 d_M_isReduced_123 (tgt := 154) (by decide) (fun h_6 => ?_) (fun h_6 => ?_)
        · refine w_iconst hx hb d_M_isReduced_154 ?_
          exact rt_z X hAe hS () rfl ⟨0, rfl, Or.inr ⟨rfl, fun z => by have := (red_gt hg (by omega) hs hv ev).mp z; omega⟩⟩ hP d_M_isReduced_155
        · refine w_ldc2 (v := 2) (n := 2) hx hb (by decide) hown (hts _ kc_M_53) d_M_isReduced_126 ?_
          refine lv_aload_n hx hb d_M_isReduced_129 rfl (lv_at hl 0 rfl) ?_
          refine va_get (D := D) (ci := 5) (v := .long (jl (a))) (C := R_M) (T := T_M) (N := 11) hx hb hts uw_M hown hK.1 hP 0 rfl rfl 6 (by decide) (hts _ fl_M_73) (fun _ h9 => h9) rfl d_M_isReduced_130 ?_
          refine cl_l (rn_S (wc := []) (As := [.long (jl (a))]) (rest := [.long (jl (2))]) X hK (c_M_size l D cI cJ cF s1.j _) co_M_size in_M ml_M_41 st_M_size 1 rfl (by decide +kernel) ⟨Nat.le_of_ble_eq_true rfl, Nat.le_of_ble_eq_true rfl⟩ hP hD [] rfl (by decide) hl.1 rfl (Nat.le_of_ble_eq_true rfl) d_M_isReduced_133 ⟨Nat.zero_le _, Nat.zero_le _⟩) hP hD hS hA [] rfl (by decide) (fun _ => rfl) (fun r_7 u_8 H locs hp hP hD hS => ?_)
          have hP : va_P D classes [(m0, .inr (5, [.int (ji (co)), .long (jl (Dd)), .long (jl (w)), .ref mf, .ref mm, .ref ml, .long (jl (a)), .long (jl (b)), .long (jl (c)), .int (ji (np)), .ref mp]))] H := hP
          have hD : va_D A [(m0, .inr (5, [.int (ji (co)), .long (jl (Dd)), .long (jl (w)), .ref mf, .ref mm, .ref ml, .long (jl (a)), .long (jl (b)), .long (jl (c)), .int (ji (np)), .ref mp]))] := hD
          obtain rfl : r_7 = jl (fm_ab (a)) := hp
          refine wl_mul hx hb d_M_isReduced_136 ?_
          refine lv_aload_n hx hb d_M_isReduced_137 rfl (lv_at hl 0 rfl) ?_
          refine va_get (D := D) (ci := 5) (v := .long (jl (b))) (C := R_M) (T := T_M) (N := 11) hx hb hts uw_M hown hK.1 hP 0 rfl rfl 7 (by decide) (hts _ fl_M_76) (fun _ h9 => h9) rfl d_M_isReduced_138 ?_
          refine wl_sub hx hb d_M_isReduced_141 ?_
          refine lv_aload_n hx hb d_M_isReduced_142 rfl (lv_at hl 0 rfl) ?_
          refine va_get (D := D) (ci := 5) (v := .long (jl (w))) (C := R_M) (T := T_M) (N := 11) hx hb hts uw_M hown hK.1 hP 0 rfl rfl 2 (by decide) (hts _ fl_M_17) (fun _ h9 => h9) rfl d_M_isReduced_143 ?_
          refine wl_cgt hx hb ⟨by omega, by omega⟩ ⟨by omega, by omega⟩ d_M_isReduced_146 d_M_isReduced_147 (tgt := 154) (by decide) (fun h_9 => ?_) (fun h_9 => ?_)
          · refine w_iconst hx hb d_M_isReduced_154 ?_
            exact rt_z X hAe hS () rfl ⟨0, rfl, Or.inr ⟨rfl, fun z => by have := (red_gt hg (by omega) hs hv ev).mp z; omega⟩⟩ hP d_M_isReduced_155
          · refine w_iconst hx hb d_M_isReduced_150 ?_
            refine lv_goto (tgt := 155) hx hb d_M_isReduced_151 (by decide) ?_
            exact rt_z X hAe hS () rfl ⟨1, rfl, Or.inl ⟨rfl, (red_gt hg (by omega) hs hv ev).mpr (by omega)⟩⟩ hP d_M_isReduced_155
  · refine lv_aload_n hx hb d_M_isReduced_9 rfl (lv_at hl 0 rfl) ?_
    refine va_get (D := D) (ci := 5) (v := .long (jl (b))) (C := R_M) (T := T_M) (N := 11) hx hb hts uw_M hown hK.1 hP 0 rfl rfl 7 (by decide) (hts _ fl_M_76) (fun _ h9 => h9) rfl d_M_isReduced_10 ?_
    refine cl_l (rn_S (wc := []) (As := [.long (jl (b))]) (rest := []) X hK (c_M_size l D cI cJ cF s2.j _) co_M_size in_M ml_M_41 st_M_size 1 rfl (by decide +kernel) ⟨Nat.le_of_ble_eq_true rfl, Nat.le_of_ble_eq_true rfl⟩ hP hD [] rfl (by decide) hl.1 rfl (Nat.le_of_ble_eq_true rfl) d_M_isReduced_13 ⟨Nat.zero_le _, Nat.zero_le _⟩) hP hD hS hA [] rfl (by decide) (fun _ => rfl) (fun r_10 u_11 H locs hp hP hD hS => ?_)
    have hP : va_P D classes [(m0, .inr (5, [.int (ji (co)), .long (jl (Dd)), .long (jl (w)), .ref mf, .ref mm, .ref ml, .long (jl (a)), .long (jl (b)), .long (jl (c)), .int (ji (np)), .ref mp]))] H := hP
    have hD : va_D A [(m0, .inr (5, [.int (ji (co)), .long (jl (Dd)), .long (jl (w)), .ref mf, .ref mm, .ref ml, .long (jl (a)), .long (jl (b)), .long (jl (c)), .int (ji (np)), .ref mp]))] := hD
    obtain rfl : r_10 = jl (fm_ab (b)) := hp
    refine lv_aload_n hx hb d_M_isReduced_16 rfl (lv_at hl 0 rfl) ?_
    refine va_get (D := D) (ci := 5) (v := .long (jl (a))) (C := R_M) (T := T_M) (N := 11) hx hb hts uw_M hown hK.1 hP 0 rfl rfl 6 (by decide) (hts _ fl_M_73) (fun _ h9 => h9) rfl d_M_isReduced_17 ?_
    refine wl_cgt hx hb ⟨by omega, by omega⟩ ⟨by omega, by omega⟩ d_M_isReduced_20 d_M_isReduced_21 (tgt := 74) (by decide) (fun h_12 => ?_) (fun h_12 => ?_)
    · refine w_iconst hx hb d_M_isReduced_74 ?_
      exact rt_z X hAe hS () rfl ⟨0, rfl, Or.inr ⟨rfl, fun z => by have := (fm_red_lt (by omega)).mp z; omega⟩⟩ hP d_M_isReduced_75
    · refine lv_aload_n hx hb d_M_isReduced_24 rfl (lv_at hl 0 rfl) ?_
      refine va_get (D := D) (ci := 5) (v := .long (jl (a))) (C := R_M) (T := T_M) (N := 11) hx hb hts uw_M hown hK.1 hP 0 rfl rfl 6 (by decide) (hts _ fl_M_73) (fun _ h9 => h9) rfl d_M_isReduced_25 ?_
      refine lv_aload_n hx hb d_M_isReduced_28 rfl (lv_at hl 0 rfl) ?_
      refine va_get (D := D) (ci := 5) (v := .long (jl (c))) (C := R_M) (T := T_M) (N := 11) hx hb hts uw_M hown hK.1 hP 0 rfl rfl 8 (by decide) (hts _ fl_M_79) (fun _ h9 => h9) rfl d_M_isReduced_29 ?_
      refine wl_cgt hx hb ⟨by omega, by omega⟩ ⟨by omega, by omega⟩ d_M_isReduced_32 d_M_isReduced_33 (tgt := 74) (by decide) (fun h_13 => ?_) (fun h_13 => ?_)
      · refine w_iconst hx hb d_M_isReduced_74 ?_
        exact rt_z X hAe hS () rfl ⟨0, rfl, Or.inr ⟨rfl, fun z => by have := (fm_red_lt (by omega)).mp z; omega⟩⟩ hP d_M_isReduced_75
      · refine lv_aload_n hx hb d_M_isReduced_36 rfl (lv_at hl 0 rfl) ?_
        refine va_get (D := D) (ci := 5) (v := .long (jl (b))) (C := R_M) (T := T_M) (N := 11) hx hb hts uw_M hown hK.1 hP 0 rfl rfl 7 (by decide) (hts _ fl_M_76) (fun _ h9 => h9) rfl d_M_isReduced_37 ?_
        refine w_lconst (v := 0) hx hb rfl d_M_isReduced_40 ?_
        refine wl_cge hx hb ⟨by omega, by omega⟩ ⟨by decide, by decide⟩ d_M_isReduced_41 d_M_isReduced_42 (tgt := 70) (by decide) (fun h_14 => ?_) (fun h_14 => ?_)
        · refine w_iconst hx hb d_M_isReduced_70 ?_
          refine lv_goto (tgt := 75) hx hb d_M_isReduced_71 (by decide) ?_
          exact rt_z X hAe hS () rfl ⟨1, rfl, Or.inl ⟨rfl, (fm_red_lt (by omega)).mpr (by omega)⟩⟩ hP d_M_isReduced_75
        · refine lv_aload_n hx hb d_M_isReduced_45 rfl (lv_at hl 0 rfl) ?_
          refine va_get (D := D) (ci := 5) (v := .long (jl (b))) (C := R_M) (T := T_M) (N := 11) hx hb hts uw_M hown hK.1 hP 0 rfl rfl 7 (by decide) (hts _ fl_M_76) (fun _ h9 => h9) rfl d_M_isReduced_46 ?_
          refine wl_neg hx hb d_M_isReduced_49 ?_
          refine lv_aload_n hx hb d_M_isReduced_50 rfl (lv_at hl 0 rfl) ?_
          refine va_get (D := D) (ci := 5) (v := .long (jl (a))) (C := R_M) (T := T_M) (N := 11) hx hb hts uw_M hown hK.1 hP 0 rfl rfl 6 (by decide) (hts _ fl_M_73) (fun _ h9 => h9) rfl d_M_isReduced_51 ?_
          refine wl_ceq hx hb ⟨by omega, by omega⟩ ⟨by omega, by omega⟩ d_M_isReduced_54 d_M_isReduced_55 (tgt := 74) (by decide) (fun h_15 => ?_) (fun h_15 => ?_)
          · refine w_iconst hx hb d_M_isReduced_74 ?_
            exact rt_z X hAe hS () rfl ⟨0, rfl, Or.inr ⟨rfl, fun z => by have := (fm_red_lt (by omega)).mp z; omega⟩⟩ hP d_M_isReduced_75
          · refine lv_aload_n hx hb d_M_isReduced_58 rfl (lv_at hl 0 rfl) ?_
            refine va_get (D := D) (ci := 5) (v := .long (jl (a))) (C := R_M) (T := T_M) (N := 11) hx hb hts uw_M hown hK.1 hP 0 rfl rfl 6 (by decide) (hts _ fl_M_73) (fun _ h9 => h9) rfl d_M_isReduced_59 ?_
            refine lv_aload_n hx hb d_M_isReduced_62 rfl (lv_at hl 0 rfl) ?_
            refine va_get (D := D) (ci := 5) (v := .long (jl (c))) (C := R_M) (T := T_M) (N := 11) hx hb hts uw_M hown hK.1 hP 0 rfl rfl 8 (by decide) (hts _ fl_M_79) (fun _ h9 => h9) rfl d_M_isReduced_63 ?_
            refine wl_ceq hx hb ⟨by omega, by omega⟩ ⟨by omega, by omega⟩ d_M_isReduced_66 d_M_isReduced_67 (tgt := 74) (by decide) (fun h_16 => ?_) (fun h_16 => ?_)
            · refine w_iconst hx hb d_M_isReduced_74 ?_
              exact rt_z X hAe hS () rfl ⟨0, rfl, Or.inr ⟨rfl, fun z => by have := (fm_red_lt (by omega)).mp z; omega⟩⟩ hP d_M_isReduced_75
            · refine w_iconst hx hb d_M_isReduced_70 ?_
              refine lv_goto (tgt := 75) hx hb d_M_isReduced_71 (by decide) ?_
              exact rt_z X hAe hS () rfl ⟨1, rfl, Or.inl ⟨rfl, (fm_red_lt (by omega)).mpr (by omega)⟩⟩ hP d_M_isReduced_75
