set_option maxHeartbeats 4000000 in
set_option maxRecDepth 100000 in
theorem c_P_without (l : Launch) (D : va_G) (cI cJ cF : ClassId) {p n : Nat} (hp0 : fr_P p) (hp2 : p ≤ 1048576) (h0 : 0 < n) (hn : n ≤ 1048576) : ∀ sz, Met l y_P_without (Cond.code y_P_without b_P_without 4 (some .int) :: wb) { frames := 2, cells := 0, slots := 0, locals := 48 } (va_Pc [.int (ji (p)), .int (ji (n))] (cpre D cI cJ cF [] sz)) (va_Qi (fun r (u : Unit) => ∃ m : Nat, r = ji m ∧ wo p n m) (fun (u : Unit) tS => va_P D classes [] tS.heap) (va_A [] sz)) 0 0 (va_A [] sz) := by
  refine c_of (Qc := fun sz => va_Qi (fun r (u : Unit) => ∃ m : Nat, r = ji m ∧ wo p n m) (fun (u : Unit) tS => va_P D classes [] tS.heap) (va_A [] sz)) (by decide +kernel) co_P_without (Nat.le_of_ble_eq_true rfl) ?_
  intro pq eq s mq below meth cq A X hK hP hD hS hA hAe ls hl
  obtain ⟨hx, hb, hml, hown, hr, hlocks, hts⟩ := id X
  have hl : lv_has ls 4 [(0, .int (ji (p))), (1, .int (ji (n)))] := hl
  have hpp := hp0.1
  refine lv_iload_n hx hb d_P_without_0 rfl (lv_at hl 1 rfl) ?_
  refine lv_istore_n (lv' := [(2, .int (ji (n))), (0, .int (ji (p))), (1, .int (ji (n)))]) hx hb d_P_without_1 rfl hl (by decide) rfl (fun ls hl => ?_)
  refine w_iconst hx hb d_P_without_2 ?_
  refine lv_istore_n (lv' := [(3, .int (ji (0))), (2, .int (ji (n))), (0, .int (ji (p))), (1, .int (ji (n)))]) hx hb d_P_without_3 rfl hl (by decide) rfl (fun ls hl => ?_)
  refine lpn (I := fun nlp H locs ls => ∃ (i : Nat) (r : Nat), 20 + 1 - i = nlp ∧ (0 < r ∧ r ∣ n ∧ (∀ q, fr_P q → q ≠ p → q ∣ n → q ∣ r) ∧ 2 ^ i * r ≤ 1048576) ∧ va_P D classes [] H ∧ va_D A [] ∧ va_S A s.heap H locs ∧ lv_has ls 4 [(0, .int (ji (p))), (1, .int (ji (n))), (2, .int (ji (r))), (3, .int (ji (i)))]) ?_ _ _ _ _ ⟨0, n, rfl, ⟨h0, Nat.dvd_refl n, fun _ _ _ z => z, by simpa using hn⟩, hP, hD, hS, lv_sub hl [2, 3, 1, 0] rfl⟩
  rintro nlp H locs ls ⟨i, r, rfl, hi, hP, hD, hS, hl⟩ ih
  have i50 := np_i hi.1 hi.2.2.2
  refine lv_iload_n hx hb d_P_without_4 rfl (lv_at hl 3 rfl) ?_
  refine w_ldc (v := 1000000) (n := 1000000) hx hb (by decide) hown (hts _ kc_P_41) d_P_without_5 ?_
  refine wi_cge hx hb ⟨by omega, by omega⟩ ⟨by decide, by decide⟩ d_P_without_7 (tgt := 37) (by decide) (fun h_1 => ?_) (fun h_1 => ?_)
  · obtain ⟨i1, i2, i3, i4⟩ := hi
    have i5 := np_i i1 i4
    omega
  · obtain ⟨i1, i2, i3, i4⟩ := hi
    have i5 := np_i i1 i4
    have i6 : r ≤ 1048576 := Nat.le_trans (Nat.le_of_dvd h0 i2) hn
    refine lv_iload_n hx hb d_P_without_10 rfl (lv_at hl 2 rfl) ?_
    refine w_i2l hx hb ⟨by omega, by omega⟩ d_P_without_11 ?_
    refine lv_iload_n hx hb d_P_without_12 rfl (lv_at hl 0 rfl) ?_
    refine w_i2l hx hb ⟨by omega, by omega⟩ d_P_without_13 ?_
    refine cl_l (rn_SN (wc := []) (As := [.long (jl (r)), .long (jl (p))]) (rest := []) X hK (c_X_remainder l D cI cJ cF ⟨by omega, by omega⟩ ⟨by omega, by omega⟩ _) co_X_remainder in_X nm_P_29 st_X_remainder 2 rfl (by decide +kernel) ⟨Nat.le_of_ble_eq_true rfl, Nat.le_of_ble_eq_true rfl⟩ hP hD [] rfl (by decide) hl.1 rfl (Nat.le_of_ble_eq_true rfl) d_P_without_14 ⟨Nat.zero_le _, Nat.zero_le _⟩) hP hD hS hA [] rfl (by decide) (fun _ => rfl) (fun r_2 u_3 H locs hp hP hD hS => ?_)
    have hp : r_2 = jl ((r : Int) % (p : Int)) := by rw [show r_2 = _ from hp]; rw [if_pos (by omega)]
    have hm1 := Int.emod_nonneg (r : Int) (show (p : Int) ≠ 0 by omega)
    have hm2 := Int.emod_lt_of_pos (r : Int) (show 0 < (p : Int) by omega)
    have hP : va_P D classes [] H := hP
    have hD : va_D A [] := hD
    obtain rfl : r_2 = jl ((r : Int) % (p : Int)) := hp
    refine w_lconst (v := 0) hx hb rfl d_P_without_17 ?_
    refine wl_cne hx hb ⟨by omega, by omega⟩ ⟨by decide, by decide⟩ d_P_without_18 d_P_without_19 (tgt := 37) (by decide) (fun h_4 => ?_) (fun h_4 => ?_)
    · have hnd : ¬ p ∣ r := fun z => h_4 (np_md.mpr z)
      refine lv_iload_n hx hb d_P_without_37 rfl (lv_at hl 2 rfl) ?_
      exact rt_i X hAe hS () ⟨r, rfl, i1, i2, hnd, i3⟩ hP d_P_without_38
    · have hdv : p ∣ r := np_md.mp (by omega)
      obtain ⟨o1, o2, o3, o4⟩ := wo_step hp0 i1 hdv
      refine lv_iload_n hx hb d_P_without_22 rfl (lv_at hl 2 rfl) ?_
      refine w_i2l hx hb ⟨by omega, by omega⟩ d_P_without_23 ?_
      refine lv_iload_n hx hb d_P_without_24 rfl (lv_at hl 0 rfl) ?_
      refine w_i2l hx hb ⟨by omega, by omega⟩ d_P_without_25 ?_
      refine cl_l (rn_SN (wc := []) (As := [.long (jl (r)), .long (jl (p))]) (rest := []) X hK (c_X_quotient l D cI cJ cF ⟨by omega, by omega⟩ ⟨by omega, by omega⟩ _) co_X_quotient in_X nm_P_42 st_X_quotient 2 rfl (by decide +kernel) ⟨Nat.le_of_ble_eq_true rfl, Nat.le_of_ble_eq_true rfl⟩ hP hD [] rfl (by decide) hl.1 rfl (Nat.le_of_ble_eq_true rfl) d_P_without_26 ⟨Nat.zero_le _, Nat.zero_le _⟩) hP hD hS hA [] rfl (by decide) (fun _ => rfl) (fun r_5 u_6 H locs hp hP hD hS => ?_)
      have hp : r_5 = jl ((r / p : Nat)) := by rw [show r_5 = _ from hp]; rw [if_neg (by omega)]; rfl
      have hP : va_P D classes [] H := hP
      have hD : va_D A [] := hD
      obtain rfl : r_5 = jl ((r / p : Nat)) := hp
      refine w_l2i hx hb d_P_without_29 ?_
      refine lv_istore_n (lv' := [(2, .int (ji ((r / p : Nat)))), (0, .int (ji (p))), (1, .int (ji (n))), (3, .int (ji (i)))]) hx hb d_P_without_30 rfl hl (by decide) rfl (fun ls hl => ?_)
      refine lv_iinc (v := ji ((i) + (1))) (lv' := [(3, .int (ji ((i) + (1)))), (2, .int (ji ((r / p : Nat)))), (0, .int (ji (p))), (1, .int (ji (n)))]) hx hb d_P_without_31 hl (k := 3) rfl (ji_add _ _) (by decide) rfl (fun ls hl => ?_)
      refine lv_goto (tgt := 4) hx hb d_P_without_34 (by decide) ?_
      exact ih _ _ _ _ (by omega) ⟨i + 1, r / p, rfl, ⟨o1, Nat.dvd_trans o2 i2, fun q a b z => o4 q a b (i3 q a b z), np_is i4 o3⟩, hP, hD, hS, lv_sub hl [2, 3, 1, 0] rfl⟩

set_option maxHeartbeats 4000000 in
set_option maxRecDepth 100000 in
theorem c_P_append (l : Launch) (D : va_G) (cI cJ cF : ClassId) {pr fo t : Nat} {F : Nat → Int} {x : Int} (ht : t ≤ 5) : ∀ sz, Met l y_P_append (Cond.code y_P_append b_P_append 2 none :: wb) { frames := 0, cells := 0, slots := 0, locals := 0 } (va_Pc [.ref pr, .int (ji (x))] (cpre D cI cJ cF [(pr, .inr (3, [.ref fo, .int (ji (t))])), (fo, .inl (cI, 6, .inl (fun j => ji ((F) j))))] sz)) (va_Qv (fun (u : Unit) => True) (fun (u : Unit) tS => va_P D classes [(pr, .inr (3, [.ref fo, .int (ji ((t : Int) + 1))])), (fo, .inl (cI, 6, .inl (fun j => ji ((fU F t x) j))))] tS.heap) (va_A [(pr, .inr (3, [.ref fo, .int (ji (t))])), (fo, .inl (cI, 6, .inl (fun j => ji ((F) j))))] sz)) 0 0 (va_A [(pr, .inr (3, [.ref fo, .int (ji (t))])), (fo, .inl (cI, 6, .inl (fun j => ji ((F) j))))] sz) := by
  refine c_of (Qc := fun sz => va_Qv (fun (u : Unit) => True) (fun (u : Unit) tS => va_P D classes [(pr, .inr (3, [.ref fo, .int (ji ((t : Int) + 1))])), (fo, .inl (cI, 6, .inl (fun j => ji ((fU F t x) j))))] tS.heap) (va_A [(pr, .inr (3, [.ref fo, .int (ji (t))])), (fo, .inl (cI, 6, .inl (fun j => ji ((F) j))))] sz)) (by decide +kernel) co_P_append (Nat.le_of_ble_eq_true rfl) ?_
  intro pq eq s mq below meth cq A X hK hP hD hS hA hAe ls hl
  obtain ⟨hx, hb, hml, hown, hr, hlocks, hts⟩ := id X
  have hl : lv_has ls 2 [(0, .ref pr), (1, .int (ji (x)))] := hl
  refine lv_aload_n hx hb d_P_append_0 rfl (lv_at hl 0 rfl) ?_
  refine va_get (D := D) (ci := 3) (v := .int (ji (t))) (C := R_P) (T := T_P) (N := 2) hx hb hts uw_P hown hK.1 hP 0 rfl rfl 1 (by decide) (hts _ fl_P_15) (fun _ h9 => h9) rfl d_P_append_1 ?_
  refine w_bipush hx hb rfl d_P_append_4 ?_
  refine wi_cge hx hb ⟨by omega, by omega⟩ ⟨by decide, by decide⟩ d_P_append_6 (tgt := 29) (by decide) (fun h_1 => ?_) (fun h_1 => ?_)
  · omega
  · refine lv_aload_n hx hb d_P_append_9 rfl (lv_at hl 0 rfl) ?_
    refine va_get (D := D) (ci := 3) (v := .ref fo) (C := R_P) (T := T_P) (N := 2) hx hb hts uw_P hown hK.1 hP 0 rfl rfl 0 (by decide) (hts _ fl_P_9) (fun _ h9 => h9) rfl d_P_append_10 ?_
    refine lv_aload_n hx hb d_P_append_13 rfl (lv_at hl 0 rfl) ?_
    refine va_get (D := D) (ci := 3) (v := .int (ji (t))) (C := R_P) (T := T_P) (N := 2) hx hb hts uw_P hown hK.1 hP 0 rfl rfl 1 (by decide) (hts _ fl_P_15) (fun _ h9 => h9) rfl d_P_append_14 ?_
    refine lv_iload_n hx hb d_P_append_17 rfl (lv_at hl 1 rfl) ?_
    refine w_iast (F := F) hx hb hK hP hD hS 1 rfl ⟨by omega, by omega, by omega⟩ d_P_append_18 (fun H locs hP hD hS => ?_)
    have hP : va_P D classes [(pr, .inr (3, [.ref fo, .int (ji (t))])), (fo, .inl (cI, 6, .inl (fun j => ji ((fU (F) (t : Int).toNat (x)) j))))] H := hP
    have hD : va_D A [(pr, .inr (3, [.ref fo, .int (ji (t))])), (fo, .inl (cI, 6, .inl (fun j => ji ((fU (F) (t : Int).toNat (x)) j))))] := hD
    refine lv_aload_n hx hb d_P_append_19 rfl (lv_at hl 0 rfl) ?_
    refine lv_dup hx hb d_P_append_20 rfl ?_
    refine va_get (D := D) (ci := 3) (v := .int (ji (t))) (C := R_P) (T := T_P) (N := 2) hx hb hts uw_P hown hK.1 hP 0 rfl rfl 1 (by decide) (hts _ fl_P_15) (fun _ h9 => h9) rfl d_P_append_21 ?_
    refine w_iconst hx hb d_P_append_24 ?_
    refine wi_add hx hb d_P_append_25 ?_
    refine va_put (D := D) (ci := 3) (v := .int (ji ((t) + (1)))) (ty := .int) (C := R_P) (T := T_P) (N := 2) hx hb hts uw_P ty_P ty_P_ok nm_P hown hK.1 hP hD hS 0 rfl rfl 1 (by decide) (hts _ fl_P_15) (fun _ h9 => h9) rfl (by decide +kernel) rfl rfl (Nat.le_of_ble_eq_true rfl) d_P_append_26 (fun H locs hP hD hS => ?_)
    have hP : va_P D classes [(pr, .inr (3, [.ref fo, .int (ji ((t) + (1)))])), (fo, .inl (cI, 6, .inl (fun j => ji ((fU (F) (t : Int).toNat (x)) j))))] H := hP
    have hD : va_D A [(pr, .inr (3, [.ref fo, .int (ji ((t) + (1)))])), (fo, .inl (cI, 6, .inl (fun j => ji ((fU (F) (t : Int).toNat (x)) j))))] := hD
    exact rt_v X hAe hS () trivial hP d_P_append_29

set_option maxHeartbeats 4000000 in
set_option maxRecDepth 100000 in
theorem c_P_has (l : Launch) (D : va_G) (cI cJ cF : ClassId) {pr fo tz : Nat} {x : Int} (hxx : jI x) (ht : tz ≤ 6) : ∀ sz, Met l y_P_has (Cond.code y_P_has b_P_has 2 (some .boolean) :: wb) { frames := 0, cells := 0, slots := 0, locals := 0 } (va_Pc [.ref pr, .int (ji (x))] (cpre D cI cJ cF [(pr, .inr (3, [.ref fo, .int (ji (tz))]))] sz)) (va_Qi (fun r (u : Unit) => ∃ t : Int, r = ji t ∧ ((t = 1 ∧ (0 ≤ x ∧ x < tz)) ∨ (t = 0 ∧ ¬ (0 ≤ x ∧ x < tz)))) (fun (u : Unit) tS => va_P D classes [(pr, .inr (3, [.ref fo, .int (ji (tz))]))] tS.heap) (va_A [(pr, .inr (3, [.ref fo, .int (ji (tz))]))] sz)) 0 0 (va_A [(pr, .inr (3, [.ref fo, .int (ji (tz))]))] sz) := by
  refine c_of (Qc := fun sz => va_Qi (fun r (u : Unit) => ∃ t : Int, r = ji t ∧ ((t = 1 ∧ (0 ≤ x ∧ x < tz)) ∨ (t = 0 ∧ ¬ (0 ≤ x ∧ x < tz)))) (fun (u : Unit) tS => va_P D classes [(pr, .inr (3, [.ref fo, .int (ji (tz))]))] tS.heap) (va_A [(pr, .inr (3, [.ref fo, .int (ji (tz))]))] sz)) (by decide +kernel) co_P_has (Nat.le_of_ble_eq_true rfl) ?_
  intro pq eq s mq below meth cq A X hK hP hD hS hA hAe ls hl
  obtain ⟨hx, hb, hml, hown, hr, hlocks, hts⟩ := id X
  have hl : lv_has ls 2 [(0, .ref pr), (1, .int (ji (x)))] := hl
  refine lv_iload_n hx hb d_P_has_0 rfl (lv_at hl 1 rfl) ?_
  refine wi_zlt hx hb hxx d_P_has_1 (tgt := 16) (by decide) (fun h_1 => ?_) (fun h_1 => ?_)
  · refine w_iconst hx hb d_P_has_16 ?_
    exact rt_z X hAe hS () rfl ⟨0, rfl, Or.inr ⟨rfl, by omega⟩⟩ hP d_P_has_17
  · refine lv_iload_n hx hb d_P_has_4 rfl (lv_at hl 1 rfl) ?_
    refine lv_aload_n hx hb d_P_has_5 rfl (lv_at hl 0 rfl) ?_
    refine va_get (D := D) (ci := 3) (v := .int (ji (tz))) (C := R_P) (T := T_P) (N := 2) hx hb hts uw_P hown hK.1 hP 0 rfl rfl 1 (by decide) (hts _ fl_P_15) (fun _ h9 => h9) rfl d_P_has_6 ?_
    refine wi_cge hx hb hxx ⟨by omega, by omega⟩ d_P_has_9 (tgt := 16) (by decide) (fun h_2 => ?_) (fun h_2 => ?_)
    · refine w_iconst hx hb d_P_has_16 ?_
      exact rt_z X hAe hS () rfl ⟨0, rfl, Or.inr ⟨rfl, by omega⟩⟩ hP d_P_has_17
    · refine w_iconst hx hb d_P_has_12 ?_
      refine lv_goto (tgt := 17) hx hb d_P_has_13 (by decide) ?_
      exact rt_z X hAe hS () rfl ⟨1, rfl, Or.inl ⟨rfl, by omega, by omega⟩⟩ hP d_P_has_17

set_option maxHeartbeats 4000000 in
set_option maxRecDepth 100000 in
theorem c_P_at (l : Launch) (D : va_G) (cI cJ cF : ClassId) {pr fo tz : Nat} {F : Nat → Int} {x : Int} (hxx : jI x) (ht : tz ≤ 6) (h0 : 0 ≤ x) (h1 : x < tz) : ∀ sz, Met l y_P_at (Cond.code y_P_at b_P_at 2 (some .int) :: wb) { frames := 1, cells := 0, slots := 0, locals := 21 } (va_Pc [.ref pr, .int (ji (x))] (cpre D cI cJ cF [(pr, .inr (3, [.ref fo, .int (ji (tz))])), (fo, .inl (cI, 6, .inl (fun j => ji ((F) j))))] sz)) (va_Qi (fun r (u : Unit) => r = ji (F x.toNat)) (fun (u : Unit) tS => va_P D classes [(pr, .inr (3, [.ref fo, .int (ji (tz))])), (fo, .inl (cI, 6, .inl (fun j => ji ((F) j))))] tS.heap) (va_A [(pr, .inr (3, [.ref fo, .int (ji (tz))])), (fo, .inl (cI, 6, .inl (fun j => ji ((F) j))))] sz)) 0 0 (va_A [(pr, .inr (3, [.ref fo, .int (ji (tz))])), (fo, .inl (cI, 6, .inl (fun j => ji ((F) j))))] sz) := by
  refine c_of (Qc := fun sz => va_Qi (fun r (u : Unit) => r = ji (F x.toNat)) (fun (u : Unit) tS => va_P D classes [(pr, .inr (3, [.ref fo, .int (ji (tz))])), (fo, .inl (cI, 6, .inl (fun j => ji ((F) j))))] tS.heap) (va_A [(pr, .inr (3, [.ref fo, .int (ji (tz))])), (fo, .inl (cI, 6, .inl (fun j => ji ((F) j))))] sz)) (by decide +kernel) co_P_at (Nat.le_of_ble_eq_true rfl) ?_
  intro pq eq s mq below meth cq A X hK hP hD hS hA hAe ls hl
  obtain ⟨hx, hb, hml, hown, hr, hlocks, hts⟩ := id X
  have hl : lv_has ls 2 [(0, .ref pr), (1, .int (ji (x)))] := hl
  refine lv_aload_n hx hb d_P_at_0 rfl (lv_at hl 0 rfl) ?_
  refine lv_iload_n hx hb d_P_at_1 rfl (lv_at hl 1 rfl) ?_
  refine cl_i (rn_V (wc := [(pr, .inr (3, [.ref fo, .int (ji (tz))]))]) (As := [.int (ji (x))]) (rest := []) X hK (c_P_has l D cI cJ cF hxx ht _) co_P_has in_P ml_P_37 im_P_has se_P_has 1 rfl (by decide +kernel) ⟨Nat.le_of_ble_eq_true rfl, Nat.le_of_ble_eq_true rfl⟩ hP hD [0] rfl (by decide) (q0 := 0) (ci := 3) rfl rfl rfl hl.1 rfl (Nat.le_of_ble_eq_true rfl) d_P_at_2 ⟨Nat.zero_le _, Nat.zero_le _⟩) hP hD hS hA [0] rfl (by decide) (fun _ => rfl) (fun r_1 u_2 H locs hp hP hD hS => ?_)
  obtain ⟨t1, rfl, ht1⟩ := hp
  have hP : va_P D classes [(pr, .inr (3, [.ref fo, .int (ji (tz))])), (fo, .inl (cI, 6, .inl (fun j => ji ((F) j))))] H := hP
  have hD : va_D A [(pr, .inr (3, [.ref fo, .int (ji (tz))])), (fo, .inl (cI, 6, .inl (fun j => ji ((F) j))))] := hD
  refine wi_zeq hx hb ⟨by omega, by omega⟩ d_P_at_5 (tgt := 17) (by decide) (fun h_3 => ?_) (fun h_3 => ?_)
  · omega
  · refine lv_aload_n hx hb d_P_at_8 rfl (lv_at hl 0 rfl) ?_
    refine va_get (D := D) (ci := 3) (v := .ref fo) (C := R_P) (T := T_P) (N := 2) hx hb hts uw_P hown hK.1 hP 0 rfl rfl 0 (by decide) (hts _ fl_P_9) (fun _ h9 => h9) rfl d_P_at_9 ?_
    refine lv_iload_n hx hb d_P_at_12 rfl (lv_at hl 1 rfl) ?_
    refine w_iald (F := F) hx hb hK hP 1 rfl ⟨by omega, by omega, by omega⟩ d_P_at_13 ?_
    refine lv_goto (tgt := 18) hx hb d_P_at_14 (by decide) ?_
    exact rt_i X hAe hS () rfl hP d_P_at_18

set_option maxHeartbeats 4000000 in
set_option maxRecDepth 100000 in
theorem c_P_find (l : Launch) (D : va_G) (cI cJ cF : ClassId) {pr fo n : Nat} {d z0 : Int} {F0 : Nat → Int} (hd : jI d) (hnab : fm_ab d = (n : Int)) (h0 : 0 < n) (hn : n ≤ 1048576) : ∀ sz, Met l y_P_find (Cond.code y_P_find b_P_find 4 none :: wb) { frames := 3, cells := 0, slots := 0, locals := 72 } (va_Pc [.ref pr, .int (ji (d))] (cpre D cI cJ cF [(pr, .inr (3, [.ref fo, .int (ji (z0))])), (fo, .inl (cI, 6, .inl (fun j => ji ((F0) j))))] sz)) (va_Qv (fun (u : List Nat × (Nat → Int)) => oL n u.1 ∧ u.1.length ≤ 6 ∧ lH u.2 u.1) (fun (u : List Nat × (Nat → Int)) tS => va_P D classes [(pr, .inr (3, [.ref fo, .int (ji (u.1.length))])), (fo, .inl (cI, 6, .inl (fun j => ji ((u.2) j))))] tS.heap) (va_A [(pr, .inr (3, [.ref fo, .int (ji (z0))])), (fo, .inl (cI, 6, .inl (fun j => ji ((F0) j))))] sz)) 0 0 (va_A [(pr, .inr (3, [.ref fo, .int (ji (z0))])), (fo, .inl (cI, 6, .inl (fun j => ji ((F0) j))))] sz) := by
  refine c_of (Qc := fun sz => va_Qv (fun (u : List Nat × (Nat → Int)) => oL n u.1 ∧ u.1.length ≤ 6 ∧ lH u.2 u.1) (fun (u : List Nat × (Nat → Int)) tS => va_P D classes [(pr, .inr (3, [.ref fo, .int (ji (u.1.length))])), (fo, .inl (cI, 6, .inl (fun j => ji ((u.2) j))))] tS.heap) (va_A [(pr, .inr (3, [.ref fo, .int (ji (z0))])), (fo, .inl (cI, 6, .inl (fun j => ji ((F0) j))))] sz)) (by decide +kernel) co_P_find (Nat.le_of_ble_eq_true rfl) ?_
  intro pq eq s mq below meth cq A X hK hP hD hS hA hAe ls hl
  obtain ⟨hx, hb, hml, hown, hr, hlocks, hts⟩ := id X
  have hl : lv_has ls 4 [(0, .ref pr), (1, .int (ji (d)))] := hl
  refine lv_aload_n hx hb d_P_find_0 rfl (lv_at hl 0 rfl) ?_
  refine w_iconst hx hb d_P_find_1 ?_
  refine va_put (D := D) (ci := 3) (v := .int (ji (0))) (ty := .int) (C := R_P) (T := T_P) (N := 2) hx hb hts uw_P ty_P ty_P_ok nm_P hown hK.1 hP hD hS 0 rfl rfl 1 (by decide) (hts _ fl_P_15) (fun _ h9 => h9) rfl (by decide +kernel) rfl rfl (Nat.le_of_ble_eq_true rfl) d_P_find_2 (fun H locs hP hD hS => ?_)
  have hP : va_P D classes [(pr, .inr (3, [.ref fo, .int (ji (0))])), (fo, .inl (cI, 6, .inl (fun j => ji ((F0) j))))] H := hP
  have hD : va_D A [(pr, .inr (3, [.ref fo, .int (ji (0))])), (fo, .inl (cI, 6, .inl (fun j => ji ((F0) j))))] := hD
  refine w_iconst hx hb d_P_find_5 ?_
  refine lv_iload_n hx hb d_P_find_6 rfl (lv_at hl 1 rfl) ?_
  refine w_absI X hl.1 hd ml_P_19 ⟨Nat.le_of_ble_eq_true rfl, Nat.le_of_ble_eq_true rfl⟩ ⟨Nat.zero_le _, Nat.zero_le _⟩ d_P_find_7 ?_
  rw [hnab]
  refine cl_i (rn_S (wc := []) (As := [.int (ji (2)), .int (ji (n))]) (rest := []) X hK (c_P_without l D cI cJ cF np_2 (by decide) h0 hn _) co_P_without in_P ml_P_25 st_P_without 2 rfl (by decide +kernel) ⟨Nat.le_of_ble_eq_true rfl, Nat.le_of_ble_eq_true rfl⟩ hP hD [] rfl (by decide) hl.1 rfl (Nat.le_of_ble_eq_true rfl) d_P_find_10 ⟨Nat.zero_le _, Nat.zero_le _⟩) hP hD hS hA [] rfl (by decide) (fun _ => rfl) (fun r_1 u_2 H locs hp hP hD hS => ?_)
  obtain ⟨r1, rfl, hwo⟩ := hp
  have hP : va_P D classes [(pr, .inr (3, [.ref fo, .int (ji (0))])), (fo, .inl (cI, 6, .inl (fun j => ji ((F0) j))))] H := hP
  have hD : va_D A [(pr, .inr (3, [.ref fo, .int (ji (0))])), (fo, .inl (cI, 6, .inl (fun j => ji ((F0) j))))] := hD
  refine lv_istore_n (lv' := [(2, .int (ji (r1))), (0, .ref pr), (1, .int (ji (d)))]) hx hb d_P_find_13 rfl hl (by decide) rfl (fun ls hl => ?_)
  refine w_iconst hx hb d_P_find_14 ?_
  refine lv_istore_n (lv' := [(3, .int (ji (3))), (2, .int (ji (r1))), (0, .ref pr), (1, .int (ji (d)))]) hx hb d_P_find_15 rfl hl (by decide) rfl (fun ls hl => ?_)
  refine lpn (I := fun nlp H locs ls => ∃ (l0 : List Nat) (F : Nat → Int) (p : Nat) (rr : Nat), 1027 - p = nlp ∧ (oI n l0 p rr ∧ ¬ 2 ∣ rr ∧ 3 ≤ p ∧ p ≤ 1026 ∧ lH F l0) ∧ va_P D classes [(pr, .inr (3, [.ref fo, .int (ji (l0.length))])), (fo, .inl (cI, 6, .inl (fun j => ji ((F) j))))] H ∧ va_D A [(pr, .inr (3, [.ref fo, .int (ji (l0.length))])), (fo, .inl (cI, 6, .inl (fun j => ji ((F) j))))] ∧ va_S A s.heap H locs ∧ lv_has ls 4 [(0, .ref pr), (1, .int (ji (d))), (2, .int (ji (rr))), (3, .int (ji (p)))]) ?_ _ _ _ _ ⟨[], F0, 3, r1, rfl, ⟨oI_0 h0 hn hwo, hwo.2.2.1, by decide, by decide, lH_0 _⟩, hP, hD, hS, lv_sub hl [2, 3, 1, 0] rfl⟩
  rintro nlp H locs ls ⟨l0, F, p, rr, rfl, hi, hP, hD, hS, hl⟩ ih
  refine lv_iload_n hx hb d_P_find_16 rfl (lv_at hl 3 rfl) ?_
  refine w_sipush hx hb rfl d_P_find_17 ?_
  refine wi_cgt hx hb ⟨by omega, by omega⟩ ⟨by decide, by decide⟩ d_P_find_20 (tgt := 59) (by decide) (fun h_3 => ?_) (fun h_3 => ?_)
  · obtain ⟨i1, i2, i3, i4, i5⟩ := hi
    have i6 : rr ≤ 1048576 := Nat.le_trans (Nat.le_of_dvd h0 i1.2.2.2.1.1) hn
    have i7 := i1.2.2.2.1.2
    have hbig : rr < p * p := Nat.lt_of_le_of_lt i6 (Nat.lt_of_lt_of_le (by decide) (Nat.mul_le_mul (show 1025 ≤ p by omega) (show 1025 ≤ p by omega)))
    refine lv_iload_n hx hb d_P_find_59 rfl (lv_at hl 2 rfl) ?_
    refine w_iconst hx hb d_P_find_60 ?_
    refine wi_cle hx hb ⟨by omega, by omega⟩ ⟨by decide, by decide⟩ d_P_find_61 (tgt := 69) (by decide) (fun h_4 => ?_) (fun h_4 => ?_)
    · have hr1 : rr = 1 := by omega
      exact rt_v X hAe hS (l0, F) ⟨(by rw [hr1] at i1; exact i1.one no_p1), i1.2.2.2.2.2.1, i5⟩ hP d_P_find_69
    · obtain ⟨l1, l2⟩ := i1.last i2 (by omega) hbig
      have hfin := i1.fin l1 (by omega) l2
      have hlen := hfin.2
      refine lv_aload_n hx hb d_P_find_64 rfl (lv_at hl 0 rfl) ?_
      refine lv_iload_n hx hb d_P_find_65 rfl (lv_at hl 2 rfl) ?_
      refine cl_v (rn_V (wc := [(pr, .inr (3, [.ref fo, .int (ji (l0.length))])), (fo, .inl (cI, 6, .inl (fun j => ji ((F) j))))]) (As := [.int (ji (rr))]) (rest := []) X hK (c_P_append l D cI cJ cF (by omega) _) co_P_append in_P ml_P_33 im_P_append se_P_append 1 rfl (by decide +kernel) ⟨Nat.le_of_ble_eq_true rfl, Nat.le_of_ble_eq_true rfl⟩ hP hD [0, 1] rfl (by decide) (q0 := 0) (ci := 3) rfl rfl rfl hl.1 rfl (Nat.le_of_ble_eq_true rfl) d_P_find_66 ⟨Nat.zero_le _, Nat.zero_le _⟩) hP hD hS hA [0, 1] rfl (by decide) (fun _ => rfl) (fun u_5 H locs hp hP hD hS => ?_)
      have hP : va_P D classes [(pr, .inr (3, [.ref fo, .int (ji ((l0.length) + 1))])), (fo, .inl (cI, 6, .inl (fun j => ji ((fU (F) (l0.length) (rr)) j))))] H := hP
      have hD : va_D A [(pr, .inr (3, [.ref fo, .int (ji ((l0.length) + 1))])), (fo, .inl (cI, 6, .inl (fun j => ji ((fU (F) (l0.length) (rr)) j))))] := hD
      have hP : va_P D classes [(pr, .inr (3, [.ref fo, .int (ji (((l0 ++ [rr]).length : Nat)))])), (fo, .inl (cI, 6, .inl (fun j => ji ((fU (F) (l0.length) (rr)) j))))] H := by rw [List.length_append]; exact hP
      exact rt_v X hAe hS (l0 ++ [rr], fU (F) (l0.length) (rr)) ⟨hfin.1, by rw [List.length_append]; show l0.length + 1 ≤ 6; omega, lH_add i5 rr⟩ hP d_P_find_69
  · obtain ⟨i1, i2, i3, i4, i5⟩ := hi
    have i6 : rr ≤ 1048576 := Nat.le_trans (Nat.le_of_dvd h0 i1.2.2.2.1.1) hn
    have i7 := i1.2.2.2.1.2
    have hpq : p * p ≤ 1024 * 1024 := Nat.mul_le_mul (by omega) (by omega)
    have hpz : ((p * p : Nat) : Int) = (p : Int) * p := Int.natCast_mul p p
    refine lv_iload_n hx hb d_P_find_23 rfl (lv_at hl 3 rfl) ?_
    refine lv_iload_n hx hb d_P_find_24 rfl (lv_at hl 3 rfl) ?_
    refine wi_mul hx hb d_P_find_25 ?_
    refine lv_iload_n hx hb d_P_find_26 rfl (lv_at hl 2 rfl) ?_
    refine wi_cgt hx hb ⟨by omega, by omega⟩ ⟨by omega, by omega⟩ d_P_find_27 (tgt := 59) (by decide) (fun h_6 => ?_) (fun h_6 => ?_)
    · have hbig : rr < p * p := by omega
      refine lv_iload_n hx hb d_P_find_59 rfl (lv_at hl 2 rfl) ?_
      refine w_iconst hx hb d_P_find_60 ?_
      refine wi_cle hx hb ⟨by omega, by omega⟩ ⟨by decide, by decide⟩ d_P_find_61 (tgt := 69) (by decide) (fun h_7 => ?_) (fun h_7 => ?_)
      · have hr1 : rr = 1 := by omega
        exact rt_v X hAe hS (l0, F) ⟨(by rw [hr1] at i1; exact i1.one no_p1), i1.2.2.2.2.2.1, i5⟩ hP d_P_find_69
      · obtain ⟨l1, l2⟩ := i1.last i2 (by omega) hbig
        have hfin := i1.fin l1 (by omega) l2
        have hlen := hfin.2
        refine lv_aload_n hx hb d_P_find_64 rfl (lv_at hl 0 rfl) ?_
        refine lv_iload_n hx hb d_P_find_65 rfl (lv_at hl 2 rfl) ?_
        refine cl_v (rn_V (wc := [(pr, .inr (3, [.ref fo, .int (ji (l0.length))])), (fo, .inl (cI, 6, .inl (fun j => ji ((F) j))))]) (As := [.int (ji (rr))]) (rest := []) X hK (c_P_append l D cI cJ cF (by omega) _) co_P_append in_P ml_P_33 im_P_append se_P_append 1 rfl (by decide +kernel) ⟨Nat.le_of_ble_eq_true rfl, Nat.le_of_ble_eq_true rfl⟩ hP hD [0, 1] rfl (by decide) (q0 := 0) (ci := 3) rfl rfl rfl hl.1 rfl (Nat.le_of_ble_eq_true rfl) d_P_find_66 ⟨Nat.zero_le _, Nat.zero_le _⟩) hP hD hS hA [0, 1] rfl (by decide) (fun _ => rfl) (fun u_8 H locs hp hP hD hS => ?_)
        have hP : va_P D classes [(pr, .inr (3, [.ref fo, .int (ji ((l0.length) + 1))])), (fo, .inl (cI, 6, .inl (fun j => ji ((fU (F) (l0.length) (rr)) j))))] H := hP
        have hD : va_D A [(pr, .inr (3, [.ref fo, .int (ji ((l0.length) + 1))])), (fo, .inl (cI, 6, .inl (fun j => ji ((fU (F) (l0.length) (rr)) j))))] := hD
        have hP : va_P D classes [(pr, .inr (3, [.ref fo, .int (ji (((l0 ++ [rr]).length : Nat)))])), (fo, .inl (cI, 6, .inl (fun j => ji ((fU (F) (l0.length) (rr)) j))))] H := by rw [List.length_append]; exact hP
        exact rt_v X hAe hS (l0 ++ [rr], fU (F) (l0.length) (rr)) ⟨hfin.1, by rw [List.length_append]; show l0.length + 1 ≤ 6; omega, lH_add i5 rr⟩ hP d_P_find_69
    · refine lv_iload_n hx hb d_P_find_30 rfl (lv_at hl 2 rfl) ?_
      refine w_i2l hx hb ⟨by omega, by omega⟩ d_P_find_31 ?_
      refine lv_iload_n hx hb d_P_find_32 rfl (lv_at hl 3 rfl) ?_
      refine w_i2l hx hb ⟨by omega, by omega⟩ d_P_find_33 ?_
      refine cl_l (rn_SN (wc := []) (As := [.long (jl (rr)), .long (jl (p))]) (rest := []) X hK (c_X_remainder l D cI cJ cF ⟨by omega, by omega⟩ ⟨by omega, by omega⟩ _) co_X_remainder in_X nm_P_29 st_X_remainder 2 rfl (by decide +kernel) ⟨Nat.le_of_ble_eq_true rfl, Nat.le_of_ble_eq_true rfl⟩ hP hD [] rfl (by decide) hl.1 rfl (Nat.le_of_ble_eq_true rfl) d_P_find_34 ⟨Nat.zero_le _, Nat.zero_le _⟩) hP hD hS hA [] rfl (by decide) (fun _ => rfl) (fun r_9 u_10 H locs hp hP hD hS => ?_)
      have hp : r_9 = jl ((rr : Int) % (p : Int)) := by rw [show r_9 = _ from hp]; rw [if_pos (by omega)]
      have hm1 := Int.emod_nonneg (rr : Int) (show (p : Int) ≠ 0 by omega)
      have hm2 := Int.emod_lt_of_pos (rr : Int) (show 0 < (p : Int) by omega)
      have hP : va_P D classes [(pr, .inr (3, [.ref fo, .int (ji (l0.length))])), (fo, .inl (cI, 6, .inl (fun j => ji ((F) j))))] H := hP
      have hD : va_D A [(pr, .inr (3, [.ref fo, .int (ji (l0.length))])), (fo, .inl (cI, 6, .inl (fun j => ji ((F) j))))] := hD
      obtain rfl : r_9 = jl ((rr : Int) % (p : Int)) := hp
      refine w_lconst (v := 0) hx hb rfl d_P_find_37 ?_
      refine wl_cne hx hb ⟨by omega, by omega⟩ ⟨by decide, by decide⟩ d_P_find_38 d_P_find_39 (tgt := 53) (by decide) (fun h_11 => ?_) (fun h_11 => ?_)
      · have hnd : ¬ p ∣ rr := fun z => h_11 (np_md.mpr z)
        refine lv_iinc (v := ji ((p) + (2))) (lv' := [(3, .int (ji ((p) + (2)))), (0, .ref pr), (1, .int (ji (d))), (2, .int (ji (rr)))]) hx hb d_P_find_53 hl (k := 3) rfl (ji_add _ _) (by decide) rfl (fun ls hl => ?_)
        refine lv_goto (tgt := 16) hx hb d_P_find_56 (by decide) ?_
        exact ih _ _ _ _ (by omega) ⟨l0, F, p + 2, rr, rfl, ⟨i1.skip hnd, i2, by omega, by omega, i5⟩, hP, hD, hS, lv_sub hl [1, 2, 3, 0] rfl⟩
      · have hdv : p ∣ rr := np_md.mp (by omega)
        have hpp := i1.prime hdv i3
        have hlen := i1.few (Nat.le_of_dvd i7 hdv)
        refine lv_aload_n hx hb d_P_find_42 rfl (lv_at hl 0 rfl) ?_
        refine lv_iload_n hx hb d_P_find_43 rfl (lv_at hl 3 rfl) ?_
        refine cl_v (rn_V (wc := [(pr, .inr (3, [.ref fo, .int (ji (l0.length))])), (fo, .inl (cI, 6, .inl (fun j => ji ((F) j))))]) (As := [.int (ji (p))]) (rest := []) X hK (c_P_append l D cI cJ cF (by omega) _) co_P_append in_P ml_P_33 im_P_append se_P_append 1 rfl (by decide +kernel) ⟨Nat.le_of_ble_eq_true rfl, Nat.le_of_ble_eq_true rfl⟩ hP hD [0, 1] rfl (by decide) (q0 := 0) (ci := 3) rfl rfl rfl hl.1 rfl (Nat.le_of_ble_eq_true rfl) d_P_find_44 ⟨Nat.zero_le _, Nat.zero_le _⟩) hP hD hS hA [0, 1] rfl (by decide) (fun _ => rfl) (fun u_12 H locs hp hP hD hS => ?_)
        have hP : va_P D classes [(pr, .inr (3, [.ref fo, .int (ji ((l0.length) + 1))])), (fo, .inl (cI, 6, .inl (fun j => ji ((fU (F) (l0.length) (p)) j))))] H := hP
        have hD : va_D A [(pr, .inr (3, [.ref fo, .int (ji ((l0.length) + 1))])), (fo, .inl (cI, 6, .inl (fun j => ji ((fU (F) (l0.length) (p)) j))))] := hD
        refine lv_iload_n hx hb d_P_find_47 rfl (lv_at hl 3 rfl) ?_
        refine lv_iload_n hx hb d_P_find_48 rfl (lv_at hl 2 rfl) ?_
        refine cl_i (rn_S (wc := []) (As := [.int (ji (p)), .int (ji (rr))]) (rest := []) X hK (c_P_without l D cI cJ cF hpp (by omega) i7 i6 _) co_P_without in_P ml_P_25 st_P_without 2 rfl (by decide +kernel) ⟨Nat.le_of_ble_eq_true rfl, Nat.le_of_ble_eq_true rfl⟩ hP hD [] rfl (by decide) hl.1 rfl (Nat.le_of_ble_eq_true rfl) d_P_find_49 ⟨Nat.zero_le _, Nat.zero_le _⟩) hP hD hS hA [] rfl (by decide) (fun _ => rfl) (fun r_13 u_14 H locs hp hP hD hS => ?_)
        obtain ⟨r2, rfl, hwo⟩ := hp
        have hP : va_P D classes [(pr, .inr (3, [.ref fo, .int (ji ((l0.length) + 1))])), (fo, .inl (cI, 6, .inl (fun j => ji ((fU (F) (l0.length) (p)) j))))] H := hP
        have hD : va_D A [(pr, .inr (3, [.ref fo, .int (ji ((l0.length) + 1))])), (fo, .inl (cI, 6, .inl (fun j => ji ((fU (F) (l0.length) (p)) j))))] := hD
        refine lv_istore_n (lv' := [(2, .int (ji (r2))), (0, .ref pr), (1, .int (ji (d))), (3, .int (ji (p)))]) hx hb d_P_find_52 rfl hl (by decide) rfl (fun ls hl => ?_)
        refine lv_iinc (v := ji ((p) + (2))) (lv' := [(3, .int (ji ((p) + (2)))), (2, .int (ji (r2))), (0, .ref pr), (1, .int (ji (d)))]) hx hb d_P_find_53 hl (k := 3) rfl (ji_add _ _) (by decide) rfl (fun ls hl => ?_)
        refine lv_goto (tgt := 16) hx hb d_P_find_56 (by decide) ?_
        have hP : va_P D classes [(pr, .inr (3, [.ref fo, .int (ji (((l0 ++ [p]).length : Nat)))])), (fo, .inl (cI, 6, .inl (fun j => ji ((fU (F) (l0.length) (p)) j))))] H := by rw [List.length_append]; exact hP
        have hD : va_D A [(pr, .inr (3, [.ref fo, .int (ji (((l0 ++ [p]).length : Nat)))])), (fo, .inl (cI, 6, .inl (fun j => ji ((fU (F) (l0.length) (p)) j))))] := by rw [List.length_append]; exact hD
        exact ih _ _ _ _ (by omega) ⟨l0 ++ [p], fU (F) (l0.length) (p), p + 2, r2, rfl, ⟨i1.add hdv i3 hwo, fun z => i2 (Nat.dvd_trans z hwo.2.1), by omega, by omega, lH_add i5 p⟩, hP, hD, hS, lv_sub hl [2, 3, 1, 0] rfl⟩
