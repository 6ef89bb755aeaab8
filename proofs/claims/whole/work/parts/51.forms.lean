set_option maxHeartbeats 4000000 in
set_option maxRecDepth 100000 in
theorem c_F_become (l : Launch) (D : va_G) (cI cJ cF : ClassId) {f : Nat} {a0 b0 c0 a b c : Int} : ∀ sz, Met l y_F_become (Cond.code y_F_become b_F_become 7 none :: wb) { frames := 0, cells := 0, slots := 0, locals := 0 } (va_Pc [.ref f, .long (jl (a)), .long (jl (b)), .long (jl (c))] (cpre D cI cJ cF [(f, .inr (1, [.long (jl (a0)), .long (jl (b0)), .long (jl (c0))]))] sz)) (va_Qv (fun (u : Unit) => True) (fun (u : Unit) t => va_P D classes [(f, .inr (1, [.long (jl (a)), .long (jl (b)), .long (jl (c))]))] t.heap) (va_A [(f, .inr (1, [.long (jl (a0)), .long (jl (b0)), .long (jl (c0))]))] sz)) 0 0 (va_A [(f, .inr (1, [.long (jl (a0)), .long (jl (b0)), .long (jl (c0))]))] sz) := by
  refine c_of (Qc := fun sz => va_Qv (fun (u : Unit) => True) (fun (u : Unit) t => va_P D classes [(f, .inr (1, [.long (jl (a)), .long (jl (b)), .long (jl (c))]))] t.heap) (va_A [(f, .inr (1, [.long (jl (a0)), .long (jl (b0)), .long (jl (c0))]))] sz)) (by decide +kernel) co_F_become (Nat.le_of_ble_eq_true rfl) ?_
  intro pq eq s mq below meth cq A X hK hP hD hS hA hAe ls hl
  obtain ⟨hx, hb, hml, hown, hr, hlocks, hts⟩ := id X
  have hl : lv_has ls 7 [(0, .ref f), (1, .long (jl (a))), (3, .long (jl (b))), (5, .long (jl (c)))] := hl
  refine lv_aload_n hx hb d_F_become_0 rfl (lv_at hl 0 rfl) ?_
  refine lv_lload_n hx hb d_F_become_1 rfl (lv_at hl 1 rfl) ?_
  refine va_put (D := D) (ci := 1) (v := .long (jl (a))) (ty := .long) (C := R_F) (T := T_F) (N := 3) hx hb hts uw_F ty_F ty_F_ok nm_F hown hK.1 hP hD hS 0 rfl rfl 0 (by decide) (hts _ fl_F_7) (fun _ h9 => h9) rfl (by decide +kernel) rfl rfl (Nat.le_of_ble_eq_true rfl) d_F_become_2 (fun H locs hP hD hS => ?_)
  have hP : va_P D classes [(f, .inr (1, [.long (jl (a)), .long (jl (b0)), .long (jl (c0))]))] H := hP
  have hD : va_D A [(f, .inr (1, [.long (jl (a)), .long (jl (b0)), .long (jl (c0))]))] := hD
  refine lv_aload_n hx hb d_F_become_5 rfl (lv_at hl 0 rfl) ?_
  refine lv_lload_n hx hb d_F_become_6 rfl (lv_at hl 2 rfl) ?_
  refine va_put (D := D) (ci := 1) (v := .long (jl (b))) (ty := .long) (C := R_F) (T := T_F) (N := 3) hx hb hts uw_F ty_F ty_F_ok nm_F hown hK.1 hP hD hS 0 rfl rfl 1 (by decide) (hts _ fl_F_13) (fun _ h9 => h9) rfl (by decide +kernel) rfl rfl (Nat.le_of_ble_eq_true rfl) d_F_become_7 (fun H locs hP hD hS => ?_)
  have hP : va_P D classes [(f, .inr (1, [.long (jl (a)), .long (jl (b)), .long (jl (c0))]))] H := hP
  have hD : va_D A [(f, .inr (1, [.long (jl (a)), .long (jl (b)), .long (jl (c0))]))] := hD
  refine lv_aload_n hx hb d_F_become_10 rfl (lv_at hl 0 rfl) ?_
  refine lv_lload hx hb d_F_become_11 (lv_at hl 3 rfl) ?_
  refine va_put (D := D) (ci := 1) (v := .long (jl (c))) (ty := .long) (C := R_F) (T := T_F) (N := 3) hx hb hts uw_F ty_F ty_F_ok nm_F hown hK.1 hP hD hS 0 rfl rfl 2 (by decide) (hts _ fl_F_16) (fun _ h9 => h9) rfl (by decide +kernel) rfl rfl (Nat.le_of_ble_eq_true rfl) d_F_become_13 (fun H locs hP hD hS => ?_)
  have hP : va_P D classes [(f, .inr (1, [.long (jl (a)), .long (jl (b)), .long (jl (c))]))] H := hP
  have hD : va_D A [(f, .inr (1, [.long (jl (a)), .long (jl (b)), .long (jl (c))]))] := hD
  exact rt_v X hAe hS () trivial hP d_F_become_16

set_option maxHeartbeats 4000000 in
set_option maxRecDepth 100000 in
theorem c_F_copy (l : Launch) (D : va_G) (cI cJ cF : ClassId) {f h : Nat} {a0 b0 c0 a b c : Int} : ∀ sz, Met l y_F_copy (Cond.code y_F_copy b_F_copy 2 none :: wb) { frames := 1, cells := 0, slots := 0, locals := 26 } (va_Pc [.ref f, .ref h] (cpre D cI cJ cF [(f, .inr (1, [.long (jl (a0)), .long (jl (b0)), .long (jl (c0))])), (h, .inr (1, [.long (jl (a)), .long (jl (b)), .long (jl (c))]))] sz)) (va_Qv (fun (u : Unit) => True) (fun (u : Unit) t => va_P D classes [(f, .inr (1, [.long (jl (a)), .long (jl (b)), .long (jl (c))])), (h, .inr (1, [.long (jl (a)), .long (jl (b)), .long (jl (c))]))] t.heap) (va_A [(f, .inr (1, [.long (jl (a0)), .long (jl (b0)), .long (jl (c0))])), (h, .inr (1, [.long (jl (a)), .long (jl (b)), .long (jl (c))]))] sz)) 0 0 (va_A [(f, .inr (1, [.long (jl (a0)), .long (jl (b0)), .long (jl (c0))])), (h, .inr (1, [.long (jl (a)), .long (jl (b)), .long (jl (c))]))] sz) := by
  refine c_of (Qc := fun sz => va_Qv (fun (u : Unit) => True) (fun (u : Unit) t => va_P D classes [(f, .inr (1, [.long (jl (a)), .long (jl (b)), .long (jl (c))])), (h, .inr (1, [.long (jl (a)), .long (jl (b)), .long (jl (c))]))] t.heap) (va_A [(f, .inr (1, [.long (jl (a0)), .long (jl (b0)), .long (jl (c0))])), (h, .inr (1, [.long (jl (a)), .long (jl (b)), .long (jl (c))]))] sz)) (by decide +kernel) co_F_copy (Nat.le_of_ble_eq_true rfl) ?_
  intro pq eq s mq below meth cq A X hK hP hD hS hA hAe ls hl
  obtain ⟨hx, hb, hml, hown, hr, hlocks, hts⟩ := id X
  have hl : lv_has ls 2 [(0, .ref f), (1, .ref h)] := hl
  refine lv_aload_n hx hb d_F_copy_0 rfl (lv_at hl 0 rfl) ?_
  refine lv_aload_n hx hb d_F_copy_1 rfl (lv_at hl 1 rfl) ?_
  refine va_get (D := D) (ci := 1) (v := .long (jl (a))) (C := R_F) (T := T_F) (N := 3) hx hb hts uw_F hown hK.1 hP 1 rfl rfl 0 (by decide) (hts _ fl_F_7) (fun _ h9 => h9) rfl d_F_copy_2 ?_
  refine lv_aload_n hx hb d_F_copy_5 rfl (lv_at hl 1 rfl) ?_
  refine va_get (D := D) (ci := 1) (v := .long (jl (b))) (C := R_F) (T := T_F) (N := 3) hx hb hts uw_F hown hK.1 hP 1 rfl rfl 1 (by decide) (hts _ fl_F_13) (fun _ h9 => h9) rfl d_F_copy_6 ?_
  refine lv_aload_n hx hb d_F_copy_9 rfl (lv_at hl 1 rfl) ?_
  refine va_get (D := D) (ci := 1) (v := .long (jl (c))) (C := R_F) (T := T_F) (N := 3) hx hb hts uw_F hown hK.1 hP 1 rfl rfl 2 (by decide) (hts _ fl_F_16) (fun _ h9 => h9) rfl d_F_copy_10 ?_
  refine cl_v (rn_V (wc := [(f, .inr (1, [.long (jl (a0)), .long (jl (b0)), .long (jl (c0))]))]) (As := [.long (jl (a)), .long (jl (b)), .long (jl (c))]) (rest := []) X hK (c_F_become l D cI cJ cF  _) co_F_become in_F ml_F_19 im_F_become se_F_become 3 rfl (by decide +kernel) ⟨Nat.le_of_ble_eq_true rfl, Nat.le_of_ble_eq_true rfl⟩ hP hD [0] rfl (by decide) (q0 := 0) (ci := 1) rfl rfl rfl hl.1 rfl (Nat.le_of_ble_eq_true rfl) d_F_copy_13 ⟨Nat.zero_le _, Nat.zero_le _⟩) hP hD hS hA [0] rfl (by decide) (fun _ => rfl) (fun u_1 H locs hp hP hD hS => ?_)
  have hP : va_P D classes [(f, .inr (1, [.long (jl (a)), .long (jl (b)), .long (jl (c))])), (h, .inr (1, [.long (jl (a)), .long (jl (b)), .long (jl (c))]))] H := hP
  have hD : va_D A [(f, .inr (1, [.long (jl (a)), .long (jl (b)), .long (jl (c))])), (h, .inr (1, [.long (jl (a)), .long (jl (b)), .long (jl (c))]))] := hD
  exact rt_v X hAe hS () trivial hP d_F_copy_16

set_option maxHeartbeats 4000000 in
set_option maxRecDepth 100000 in
theorem c_F_matches (l : Launch) (D : va_G) (cI cJ cF : ClassId) {f h : Nat} {a b c x y z : Int} (h1 : jL a) (h2 : jL b) (h3 : jL c) (h4 : jL x) (h5 : jL y) (h6 : jL z) : ∀ sz, Met l y_F_matches (Cond.code y_F_matches b_F_matches 2 (some .boolean) :: wb) { frames := 0, cells := 0, slots := 0, locals := 0 } (va_Pc [.ref f, .ref h] (cpre D cI cJ cF [(f, .inr (1, [.long (jl (a)), .long (jl (b)), .long (jl (c))])), (h, .inr (1, [.long (jl (x)), .long (jl (y)), .long (jl (z))]))] sz)) (va_Qi (fun r (u : Unit) => ∃ t : Int, r = ji t ∧ ((t = 1 ∧ (a = x ∧ b = y ∧ c = z)) ∨ (t = 0 ∧ ¬ (a = x ∧ b = y ∧ c = z)))) (fun (u : Unit) t => va_P D classes [(f, .inr (1, [.long (jl (a)), .long (jl (b)), .long (jl (c))])), (h, .inr (1, [.long (jl (x)), .long (jl (y)), .long (jl (z))]))] t.heap) (va_A [(f, .inr (1, [.long (jl (a)), .long (jl (b)), .long (jl (c))])), (h, .inr (1, [.long (jl (x)), .long (jl (y)), .long (jl (z))]))] sz)) 0 0 (va_A [(f, .inr (1, [.long (jl (a)), .long (jl (b)), .long (jl (c))])), (h, .inr (1, [.long (jl (x)), .long (jl (y)), .long (jl (z))]))] sz) := by
  refine c_of (Qc := fun sz => va_Qi (fun r (u : Unit) => ∃ t : Int, r = ji t ∧ ((t = 1 ∧ (a = x ∧ b = y ∧ c = z)) ∨ (t = 0 ∧ ¬ (a = x ∧ b = y ∧ c = z)))) (fun (u : Unit) t => va_P D classes [(f, .inr (1, [.long (jl (a)), .long (jl (b)), .long (jl (c))])), (h, .inr (1, [.long (jl (x)), .long (jl (y)), .long (jl (z))]))] t.heap) (va_A [(f, .inr (1, [.long (jl (a)), .long (jl (b)), .long (jl (c))])), (h, .inr (1, [.long (jl (x)), .long (jl (y)), .long (jl (z))]))] sz)) (by decide +kernel) co_F_matches (Nat.le_of_ble_eq_true rfl) ?_
  intro pq eq s mq below meth cq A X hK hP hD hS hA hAe ls hl
  obtain ⟨hx, hb, hml, hown, hr, hlocks, hts⟩ := id X
  have hl : lv_has ls 2 [(0, .ref f), (1, .ref h)] := hl
  refine lv_aload_n hx hb d_F_matches_0 rfl (lv_at hl 0 rfl) ?_
  refine va_get (D := D) (ci := 1) (v := .long (jl (a))) (C := R_F) (T := T_F) (N := 3) hx hb hts uw_F hown hK.1 hP 0 rfl rfl 0 (by decide) (hts _ fl_F_7) (fun _ h9 => h9) rfl d_F_matches_1 ?_
  refine lv_aload_n hx hb d_F_matches_4 rfl (lv_at hl 1 rfl) ?_
  refine va_get (D := D) (ci := 1) (v := .long (jl (x))) (C := R_F) (T := T_F) (N := 3) hx hb hts uw_F hown hK.1 hP 1 rfl rfl 0 (by decide) (hts _ fl_F_7) (fun _ h9 => h9) rfl d_F_matches_5 ?_
  refine wl_cne hx hb h1 h4 d_F_matches_8 d_F_matches_9 (tgt := 40) (by decide) (fun h_1 => ?_) (fun h_1 => ?_)
  · refine w_iconst hx hb d_F_matches_40 ?_
    exact rt_z X hAe hS () rfl ⟨0, rfl, Or.inr ⟨rfl, fun h => by have z1 := h.1; have z2 := h.2.1; have z3 := h.2.2; omega⟩⟩ hP d_F_matches_41
  · refine lv_aload_n hx hb d_F_matches_12 rfl (lv_at hl 0 rfl) ?_
    refine va_get (D := D) (ci := 1) (v := .long (jl (b))) (C := R_F) (T := T_F) (N := 3) hx hb hts uw_F hown hK.1 hP 0 rfl rfl 1 (by decide) (hts _ fl_F_13) (fun _ h9 => h9) rfl d_F_matches_13 ?_
    refine lv_aload_n hx hb d_F_matches_16 rfl (lv_at hl 1 rfl) ?_
    refine va_get (D := D) (ci := 1) (v := .long (jl (y))) (C := R_F) (T := T_F) (N := 3) hx hb hts uw_F hown hK.1 hP 1 rfl rfl 1 (by decide) (hts _ fl_F_13) (fun _ h9 => h9) rfl d_F_matches_17 ?_
    refine wl_cne hx hb h2 h5 d_F_matches_20 d_F_matches_21 (tgt := 40) (by decide) (fun h_2 => ?_) (fun h_2 => ?_)
    · refine w_iconst hx hb d_F_matches_40 ?_
      exact rt_z X hAe hS () rfl ⟨0, rfl, Or.inr ⟨rfl, fun h => by have z1 := h.1; have z2 := h.2.1; have z3 := h.2.2; omega⟩⟩ hP d_F_matches_41
    · refine lv_aload_n hx hb d_F_matches_24 rfl (lv_at hl 0 rfl) ?_
      refine va_get (D := D) (ci := 1) (v := .long (jl (c))) (C := R_F) (T := T_F) (N := 3) hx hb hts uw_F hown hK.1 hP 0 rfl rfl 2 (by decide) (hts _ fl_F_16) (fun _ h9 => h9) rfl d_F_matches_25 ?_
      refine lv_aload_n hx hb d_F_matches_28 rfl (lv_at hl 1 rfl) ?_
      refine va_get (D := D) (ci := 1) (v := .long (jl (z))) (C := R_F) (T := T_F) (N := 3) hx hb hts uw_F hown hK.1 hP 1 rfl rfl 2 (by decide) (hts _ fl_F_16) (fun _ h9 => h9) rfl d_F_matches_29 ?_
      refine wl_cne hx hb h3 h6 d_F_matches_32 d_F_matches_33 (tgt := 40) (by decide) (fun h_3 => ?_) (fun h_3 => ?_)
      · refine w_iconst hx hb d_F_matches_40 ?_
        exact rt_z X hAe hS () rfl ⟨0, rfl, Or.inr ⟨rfl, fun h => by have z1 := h.1; have z2 := h.2.1; have z3 := h.2.2; omega⟩⟩ hP d_F_matches_41
      · refine w_iconst hx hb d_F_matches_36 ?_
        refine lv_goto (tgt := 41) hx hb d_F_matches_37 (by decide) ?_
        exact rt_z X hAe hS () rfl ⟨1, rfl, Or.inl ⟨rfl, by omega, by omega, by omega⟩⟩ hP d_F_matches_41

set_option maxHeartbeats 4000000 in
set_option maxRecDepth 100000 in
theorem c_F_matches1 (l : Launch) (D : va_G) (cI cJ cF : ClassId) {f : Nat} {a b c : Int} (h1 : jL a) (h2 : jL b) (h3 : jL c) : ∀ sz, Met l y_F_matches (Cond.code y_F_matches b_F_matches 2 (some .boolean) :: wb) { frames := 0, cells := 0, slots := 0, locals := 0 } (va_Pc [.ref f, .ref f] (cpre D cI cJ cF [(f, .inr (1, [.long (jl (a)), .long (jl (b)), .long (jl (c))]))] sz)) (va_Qi (fun r (u : Unit) => ∃ t : Int, r = ji t ∧ t = 1) (fun (u : Unit) t => va_P D classes [(f, .inr (1, [.long (jl (a)), .long (jl (b)), .long (jl (c))]))] t.heap) (va_A [(f, .inr (1, [.long (jl (a)), .long (jl (b)), .long (jl (c))]))] sz)) 0 0 (va_A [(f, .inr (1, [.long (jl (a)), .long (jl (b)), .long (jl (c))]))] sz) := by
  refine c_of (Qc := fun sz => va_Qi (fun r (u : Unit) => ∃ t : Int, r = ji t ∧ t = 1) (fun (u : Unit) t => va_P D classes [(f, .inr (1, [.long (jl (a)), .long (jl (b)), .long (jl (c))]))] t.heap) (va_A [(f, .inr (1, [.long (jl (a)), .long (jl (b)), .long (jl (c))]))] sz)) (by decide +kernel) co_F_matches (Nat.le_of_ble_eq_true rfl) ?_
  intro pq eq s mq below meth cq A X hK hP hD hS hA hAe ls hl
  obtain ⟨hx, hb, hml, hown, hr, hlocks, hts⟩ := id X
  have hl : lv_has ls 2 [(0, .ref f), (1, .ref f)] := hl
  refine lv_aload_n hx hb d_F_matches_0 rfl (lv_at hl 0 rfl) ?_
  refine va_get (D := D) (ci := 1) (v := .long (jl (a))) (C := R_F) (T := T_F) (N := 3) hx hb hts uw_F hown hK.1 hP 0 rfl rfl 0 (by decide) (hts _ fl_F_7) (fun _ h9 => h9) rfl d_F_matches_1 ?_
  refine lv_aload_n hx hb d_F_matches_4 rfl (lv_at hl 1 rfl) ?_
  refine va_get (D := D) (ci := 1) (v := .long (jl (a))) (C := R_F) (T := T_F) (N := 3) hx hb hts uw_F hown hK.1 hP 0 rfl rfl 0 (by decide) (hts _ fl_F_7) (fun _ h9 => h9) rfl d_F_matches_5 ?_
  refine wl_cne hx hb h1 h1 d_F_matches_8 d_F_matches_9 (tgt := 40) (by decide) (fun h_1 => ?_) (fun h_1 => ?_)
  · refine w_iconst hx hb d_F_matches_40 ?_
    exact rt_z X hAe hS () rfl ⟨0, rfl, by omega⟩ hP d_F_matches_41
  · refine lv_aload_n hx hb d_F_matches_12 rfl (lv_at hl 0 rfl) ?_
    refine va_get (D := D) (ci := 1) (v := .long (jl (b))) (C := R_F) (T := T_F) (N := 3) hx hb hts uw_F hown hK.1 hP 0 rfl rfl 1 (by decide) (hts _ fl_F_13) (fun _ h9 => h9) rfl d_F_matches_13 ?_
    refine lv_aload_n hx hb d_F_matches_16 rfl (lv_at hl 1 rfl) ?_
    refine va_get (D := D) (ci := 1) (v := .long (jl (b))) (C := R_F) (T := T_F) (N := 3) hx hb hts uw_F hown hK.1 hP 0 rfl rfl 1 (by decide) (hts _ fl_F_13) (fun _ h9 => h9) rfl d_F_matches_17 ?_
    refine wl_cne hx hb h2 h2 d_F_matches_20 d_F_matches_21 (tgt := 40) (by decide) (fun h_2 => ?_) (fun h_2 => ?_)
    · refine w_iconst hx hb d_F_matches_40 ?_
      exact rt_z X hAe hS () rfl ⟨0, rfl, by omega⟩ hP d_F_matches_41
    · refine lv_aload_n hx hb d_F_matches_24 rfl (lv_at hl 0 rfl) ?_
      refine va_get (D := D) (ci := 1) (v := .long (jl (c))) (C := R_F) (T := T_F) (N := 3) hx hb hts uw_F hown hK.1 hP 0 rfl rfl 2 (by decide) (hts _ fl_F_16) (fun _ h9 => h9) rfl d_F_matches_25 ?_
      refine lv_aload_n hx hb d_F_matches_28 rfl (lv_at hl 1 rfl) ?_
      refine va_get (D := D) (ci := 1) (v := .long (jl (c))) (C := R_F) (T := T_F) (N := 3) hx hb hts uw_F hown hK.1 hP 0 rfl rfl 2 (by decide) (hts _ fl_F_16) (fun _ h9 => h9) rfl d_F_matches_29 ?_
      refine wl_cne hx hb h3 h3 d_F_matches_32 d_F_matches_33 (tgt := 40) (by decide) (fun h_3 => ?_) (fun h_3 => ?_)
      · refine w_iconst hx hb d_F_matches_40 ?_
        exact rt_z X hAe hS () rfl ⟨0, rfl, by omega⟩ hP d_F_matches_41
      · refine w_iconst hx hb d_F_matches_36 ?_
        refine lv_goto (tgt := 41) hx hb d_F_matches_37 (by decide) ?_
        exact rt_z X hAe hS () rfl ⟨1, rfl, rfl⟩ hP d_F_matches_41

set_option maxHeartbeats 4000000 in
set_option maxRecDepth 100000 in
theorem c_F_isBefore (l : Launch) (D : va_G) (cI cJ cF : ClassId) {f h : Nat} {a b c x y z : Int} (h1 : jL a) (h2 : jL b) (h4 : jL x) (h5 : jL y) : ∀ sz, Met l y_F_isBefore (Cond.code y_F_isBefore b_F_isBefore 2 (some .boolean) :: wb) { frames := 0, cells := 0, slots := 0, locals := 0 } (va_Pc [.ref f, .ref h] (cpre D cI cJ cF [(f, .inr (1, [.long (jl (a)), .long (jl (b)), .long (jl (c))])), (h, .inr (1, [.long (jl (x)), .long (jl (y)), .long (jl (z))]))] sz)) (va_Qi (fun r (u : Unit) => ∃ t : Int, r = ji t ∧ ((t = 1 ∧ (a < x ∨ (a = x ∧ b < y))) ∨ (t = 0 ∧ ¬ (a < x ∨ (a = x ∧ b < y))))) (fun (u : Unit) t => va_P D classes [(f, .inr (1, [.long (jl (a)), .long (jl (b)), .long (jl (c))])), (h, .inr (1, [.long (jl (x)), .long (jl (y)), .long (jl (z))]))] t.heap) (va_A [(f, .inr (1, [.long (jl (a)), .long (jl (b)), .long (jl (c))])), (h, .inr (1, [.long (jl (x)), .long (jl (y)), .long (jl (z))]))] sz)) 0 0 (va_A [(f, .inr (1, [.long (jl (a)), .long (jl (b)), .long (jl (c))])), (h, .inr (1, [.long (jl (x)), .long (jl (y)), .long (jl (z))]))] sz) := by
  refine c_of (Qc := fun sz => va_Qi (fun r (u : Unit) => ∃ t : Int, r = ji t ∧ ((t = 1 ∧ (a < x ∨ (a = x ∧ b < y))) ∨ (t = 0 ∧ ¬ (a < x ∨ (a = x ∧ b < y))))) (fun (u : Unit) t => va_P D classes [(f, .inr (1, [.long (jl (a)), .long (jl (b)), .long (jl (c))])), (h, .inr (1, [.long (jl (x)), .long (jl (y)), .long (jl (z))]))] t.heap) (va_A [(f, .inr (1, [.long (jl (a)), .long (jl (b)), .long (jl (c))])), (h, .inr (1, [.long (jl (x)), .long (jl (y)), .long (jl (z))]))] sz)) (by decide +kernel) co_F_isBefore (Nat.le_of_ble_eq_true rfl) ?_
  intro pq eq s mq below meth cq A X hK hP hD hS hA hAe ls hl
  obtain ⟨hx, hb, hml, hown, hr, hlocks, hts⟩ := id X
  have hl : lv_has ls 2 [(0, .ref f), (1, .ref h)] := hl
  refine lv_aload_n hx hb d_F_isBefore_0 rfl (lv_at hl 0 rfl) ?_
  refine va_get (D := D) (ci := 1) (v := .long (jl (a))) (C := R_F) (T := T_F) (N := 3) hx hb hts uw_F hown hK.1 hP 0 rfl rfl 0 (by decide) (hts _ fl_F_7) (fun _ h9 => h9) rfl d_F_isBefore_1 ?_
  refine lv_aload_n hx hb d_F_isBefore_4 rfl (lv_at hl 1 rfl) ?_
  refine va_get (D := D) (ci := 1) (v := .long (jl (x))) (C := R_F) (T := T_F) (N := 3) hx hb hts uw_F hown hK.1 hP 1 rfl rfl 0 (by decide) (hts _ fl_F_7) (fun _ h9 => h9) rfl d_F_isBefore_5 ?_
  refine wl_clt hx hb h1 h4 d_F_isBefore_8 d_F_isBefore_9 (tgt := 36) (by decide) (fun h_1 => ?_) (fun h_1 => ?_)
  · refine w_iconst hx hb d_F_isBefore_36 ?_
    refine lv_goto (tgt := 41) hx hb d_F_isBefore_37 (by decide) ?_
    exact rt_z X hAe hS () rfl ⟨1, rfl, Or.inl ⟨rfl, by omega⟩⟩ hP d_F_isBefore_41
  · refine lv_aload_n hx hb d_F_isBefore_12 rfl (lv_at hl 0 rfl) ?_
    refine va_get (D := D) (ci := 1) (v := .long (jl (a))) (C := R_F) (T := T_F) (N := 3) hx hb hts uw_F hown hK.1 hP 0 rfl rfl 0 (by decide) (hts _ fl_F_7) (fun _ h9 => h9) rfl d_F_isBefore_13 ?_
    refine lv_aload_n hx hb d_F_isBefore_16 rfl (lv_at hl 1 rfl) ?_
    refine va_get (D := D) (ci := 1) (v := .long (jl (x))) (C := R_F) (T := T_F) (N := 3) hx hb hts uw_F hown hK.1 hP 1 rfl rfl 0 (by decide) (hts _ fl_F_7) (fun _ h9 => h9) rfl d_F_isBefore_17 ?_
    refine wl_cne hx hb h1 h4 d_F_isBefore_20 d_F_isBefore_21 (tgt := 40) (by decide) (fun h_2 => ?_) (fun h_2 => ?_)
    · refine w_iconst hx hb d_F_isBefore_40 ?_
      exact rt_z X hAe hS () rfl ⟨0, rfl, Or.inr ⟨rfl, by omega⟩⟩ hP d_F_isBefore_41
    · refine lv_aload_n hx hb d_F_isBefore_24 rfl (lv_at hl 0 rfl) ?_
      refine va_get (D := D) (ci := 1) (v := .long (jl (b))) (C := R_F) (T := T_F) (N := 3) hx hb hts uw_F hown hK.1 hP 0 rfl rfl 1 (by decide) (hts _ fl_F_13) (fun _ h9 => h9) rfl d_F_isBefore_25 ?_
      refine lv_aload_n hx hb d_F_isBefore_28 rfl (lv_at hl 1 rfl) ?_
      refine va_get (D := D) (ci := 1) (v := .long (jl (y))) (C := R_F) (T := T_F) (N := 3) hx hb hts uw_F hown hK.1 hP 1 rfl rfl 1 (by decide) (hts _ fl_F_13) (fun _ h9 => h9) rfl d_F_isBefore_29 ?_
      refine wl_cge hx hb h2 h5 d_F_isBefore_32 d_F_isBefore_33 (tgt := 40) (by decide) (fun h_3 => ?_) (fun h_3 => ?_)
      · refine w_iconst hx hb d_F_isBefore_40 ?_
        exact rt_z X hAe hS () rfl ⟨0, rfl, Or.inr ⟨rfl, by omega⟩⟩ hP d_F_isBefore_41
      · refine w_iconst hx hb d_F_isBefore_36 ?_
        refine lv_goto (tgt := 41) hx hb d_F_isBefore_37 (by decide) ?_
        exact rt_z X hAe hS () rfl ⟨1, rfl, Or.inl ⟨rfl, by omega⟩⟩ hP d_F_isBefore_41

set_option maxHeartbeats 4000000 in
set_option maxRecDepth 100000 in
theorem c_G_becomeFrom (l : Launch) (D : va_G) (cI cJ cF : ClassId) {g o wk st bs eu : Nat} {Dd w : Int} {f : Nat} {a0 b0 c0 a b q : Int} (hD0 : jI Dd) (h1 : jL (b * b - Dd)) (h2 : jL (4 * a)) (h3 : a ≠ 0) (hq : (b * b - Dd).tdiv (4 * a) = q) : ∀ sz, Met l y_G_becomeFrom (Cond.code y_G_becomeFrom b_G_becomeFrom 6 none :: wb) { frames := 1, cells := 0, slots := 0, locals := 26 } (va_Pc [.ref g, .ref f, .long (jl (a)), .long (jl (b))] (cpre D cI cJ cF [(g, .inr (2, [.ref o, .ref wk, .ref st, .ref bs, .ref eu, .int (ji (Dd)), .int (ji (w))])), (f, .inr (1, [.long (jl (a0)), .long (jl (b0)), .long (jl (c0))]))] sz)) (va_Qv (fun (u : Unit) => True) (fun (u : Unit) t => va_P D classes [(g, .inr (2, [.ref o, .ref wk, .ref st, .ref bs, .ref eu, .int (ji (Dd)), .int (ji (w))])), (f, .inr (1, [.long (jl (a)), .long (jl (b)), .long (jl (q))]))] t.heap) (va_A [(g, .inr (2, [.ref o, .ref wk, .ref st, .ref bs, .ref eu, .int (ji (Dd)), .int (ji (w))])), (f, .inr (1, [.long (jl (a0)), .long (jl (b0)), .long (jl (c0))]))] sz)) 0 0 (va_A [(g, .inr (2, [.ref o, .ref wk, .ref st, .ref bs, .ref eu, .int (ji (Dd)), .int (ji (w))])), (f, .inr (1, [.long (jl (a0)), .long (jl (b0)), .long (jl (c0))]))] sz) := by
  refine c_of (Qc := fun sz => va_Qv (fun (u : Unit) => True) (fun (u : Unit) t => va_P D classes [(g, .inr (2, [.ref o, .ref wk, .ref st, .ref bs, .ref eu, .int (ji (Dd)), .int (ji (w))])), (f, .inr (1, [.long (jl (a)), .long (jl (b)), .long (jl (q))]))] t.heap) (va_A [(g, .inr (2, [.ref o, .ref wk, .ref st, .ref bs, .ref eu, .int (ji (Dd)), .int (ji (w))])), (f, .inr (1, [.long (jl (a0)), .long (jl (b0)), .long (jl (c0))]))] sz)) (by decide +kernel) co_G_becomeFrom (Nat.le_of_ble_eq_true rfl) ?_
  intro pq eq s mq below meth cq A X hK hP hD hS hA hAe ls hl
  obtain ⟨hx, hb, hml, hown, hr, hlocks, hts⟩ := id X
  have hl : lv_has ls 6 [(0, .ref g), (1, .ref f), (2, .long (jl (a))), (4, .long (jl (b)))] := hl
  subst hq
  refine lv_aload_n hx hb d_G_becomeFrom_0 rfl (lv_at hl 1 rfl) ?_
  refine lv_lload_n hx hb d_G_becomeFrom_1 rfl (lv_at hl 2 rfl) ?_
  refine lv_lload hx hb d_G_becomeFrom_2 (lv_at hl 3 rfl) ?_
  refine lv_lload hx hb d_G_becomeFrom_4 (lv_at hl 3 rfl) ?_
  refine lv_lload hx hb d_G_becomeFrom_6 (lv_at hl 3 rfl) ?_
  refine wl_mul hx hb d_G_becomeFrom_8 ?_
  refine lv_aload_n hx hb d_G_becomeFrom_9 rfl (lv_at hl 0 rfl) ?_
  refine va_get (D := D) (ci := 2) (v := .int (ji (Dd))) (C := R_G) (T := T_G) (N := 7) hx hb hts uw_G hown hK.1 hP 0 rfl rfl 5 (by decide) (hts _ fl_G_34) (fun _ h9 => h9) rfl d_G_becomeFrom_10 ?_
  refine w_i2l hx hb hD0 d_G_becomeFrom_13 ?_
  refine wl_sub hx hb d_G_becomeFrom_14 ?_
  refine w_ldc2 (v := 4) (n := 4) hx hb (by decide) hown (hts _ kc_G_61) d_G_becomeFrom_15 ?_
  refine lv_lload_n hx hb d_G_becomeFrom_18 rfl (lv_at hl 2 rfl) ?_
  refine wl_mul hx hb d_G_becomeFrom_19 ?_
  refine cl_l (rn_SN (wc := []) (As := [.long (jl (((b) * (b)) - (Dd))), .long (jl ((4) * (a)))]) (rest := [.long (jl (b)), .long (jl (a)), .ref f]) X hK (c_X_quotient l D cI cJ cF h1 h2 _) co_X_quotient in_X nm_G_75 st_X_quotient 2 rfl (by decide +kernel) ⟨Nat.le_of_ble_eq_true rfl, Nat.le_of_ble_eq_true rfl⟩ hP hD [] rfl (by decide) hl.1 rfl (Nat.le_of_ble_eq_true rfl) d_G_becomeFrom_20 ⟨Nat.zero_le _, Nat.zero_le _⟩) hP hD hS hA [] rfl (by decide) (fun _ => rfl) (fun r_1 u_2 H locs hp hP hD hS => ?_)
  have hp : r_1 = jl ((b * b - Dd).tdiv (4 * a)) := by rw [show r_1 = _ from hp]; rw [if_neg (by omega)]
  have hP : va_P D classes [(g, .inr (2, [.ref o, .ref wk, .ref st, .ref bs, .ref eu, .int (ji (Dd)), .int (ji (w))])), (f, .inr (1, [.long (jl (a0)), .long (jl (b0)), .long (jl (c0))]))] H := hP
  have hD : va_D A [(g, .inr (2, [.ref o, .ref wk, .ref st, .ref bs, .ref eu, .int (ji (Dd)), .int (ji (w))])), (f, .inr (1, [.long (jl (a0)), .long (jl (b0)), .long (jl (c0))]))] := hD
  obtain rfl : r_1 = jl ((b * b - Dd).tdiv (4 * a)) := hp
  refine cl_v (rn_VN (wc := [(f, .inr (1, [.long (jl (a0)), .long (jl (b0)), .long (jl (c0))]))]) (As := [.long (jl (a)), .long (jl (b)), .long (jl ((b * b - Dd).tdiv (4 * a)))]) (rest := []) X hK (c_F_become l D cI cJ cF  _) co_F_become in_F nm_G_79 im_F_become se_F_become 3 rfl (by decide +kernel) ⟨Nat.le_of_ble_eq_true rfl, Nat.le_of_ble_eq_true rfl⟩ hP hD [1] rfl (by decide) (q0 := 0) (ci := 1) rfl rfl rfl hl.1 rfl (Nat.le_of_ble_eq_true rfl) d_G_becomeFrom_23 ⟨Nat.zero_le _, Nat.zero_le _⟩) hP hD hS hA [1] rfl (by decide) (fun _ => rfl) (fun u_3 H locs hp hP hD hS => ?_)
  have hP : va_P D classes [(g, .inr (2, [.ref o, .ref wk, .ref st, .ref bs, .ref eu, .int (ji (Dd)), .int (ji (w))])), (f, .inr (1, [.long (jl (a)), .long (jl (b)), .long (jl ((b * b - Dd).tdiv (4 * a)))]))] H := hP
  have hD : va_D A [(g, .inr (2, [.ref o, .ref wk, .ref st, .ref bs, .ref eu, .int (ji (Dd)), .int (ji (w))])), (f, .inr (1, [.long (jl (a)), .long (jl (b)), .long (jl ((b * b - Dd).tdiv (4 * a)))]))] := hD
  exact rt_v X hAe hS () trivial hP d_G_becomeFrom_26

set_option maxHeartbeats 4000000 in
set_option maxRecDepth 100000 in
theorem c_G_isCoefficient (l : Launch) (D : va_G) (cI cJ cF : ClassId) {x : Int} (hx0 : jL x) : ∀ sz, Met l y_G_isCoefficient (Cond.code y_G_isCoefficient b_G_isCoefficient 2 (some .boolean) :: wb) { frames := 0, cells := 0, slots := 0, locals := 0 } (va_Pc [.long (jl (x))] (cpre D cI cJ cF [] sz)) (va_Qi (fun r (u : Unit) => ∃ t : Int, r = ji t ∧ ((t = 1 ∧ (-1073741824 ≤ x ∧ x ≤ 1073741824)) ∨ (t = 0 ∧ ¬ (-1073741824 ≤ x ∧ x ≤ 1073741824)))) (fun (u : Unit) t => va_P D classes [] t.heap) (va_A [] sz)) 0 0 (va_A [] sz) := by
  refine c_of (Qc := fun sz => va_Qi (fun r (u : Unit) => ∃ t : Int, r = ji t ∧ ((t = 1 ∧ (-1073741824 ≤ x ∧ x ≤ 1073741824)) ∨ (t = 0 ∧ ¬ (-1073741824 ≤ x ∧ x ≤ 1073741824)))) (fun (u : Unit) t => va_P D classes [] t.heap) (va_A [] sz)) (by decide +kernel) co_G_isCoefficient (Nat.le_of_ble_eq_true rfl) ?_
  intro pq eq s mq below meth cq A X hK hP hD hS hA hAe ls hl
  obtain ⟨hx, hb, hml, hown, hr, hlocks, hts⟩ := id X
  have hl : lv_has ls 2 [(0, .long (jl (x)))] := hl
  refine lv_lload_n hx hb d_G_isCoefficient_0 rfl (lv_at hl 0 rfl) ?_
  refine w_ldc2 (v := -1073741824) (n := -1073741824) hx hb (by decide) hown (hts _ kc_G_71) d_G_isCoefficient_1 ?_
  refine wl_clt hx hb hx0 ⟨by decide, by decide⟩ d_G_isCoefficient_4 d_G_isCoefficient_5 (tgt := 20) (by decide) (fun h_1 => ?_) (fun h_1 => ?_)
  · refine w_iconst hx hb d_G_isCoefficient_20 ?_
    exact rt_z X hAe hS () rfl ⟨0, rfl, Or.inr ⟨rfl, by omega⟩⟩ hP d_G_isCoefficient_21
  · refine lv_lload_n hx hb d_G_isCoefficient_8 rfl (lv_at hl 0 rfl) ?_
    refine w_ldc2 (v := 1073741824) (n := 1073741824) hx hb (by decide) hown (hts _ kc_G_73) d_G_isCoefficient_9 ?_
    refine wl_cgt hx hb hx0 ⟨by decide, by decide⟩ d_G_isCoefficient_12 d_G_isCoefficient_13 (tgt := 20) (by decide) (fun h_2 => ?_) (fun h_2 => ?_)
    · refine w_iconst hx hb d_G_isCoefficient_20 ?_
      exact rt_z X hAe hS () rfl ⟨0, rfl, Or.inr ⟨rfl, by omega⟩⟩ hP d_G_isCoefficient_21
    · refine w_iconst hx hb d_G_isCoefficient_16 ?_
      refine lv_goto (tgt := 21) hx hb d_G_isCoefficient_17 (by decide) ?_
      exact rt_z X hAe hS () rfl ⟨1, rfl, Or.inl ⟨rfl, by omega, by omega⟩⟩ hP d_G_isCoefficient_21
