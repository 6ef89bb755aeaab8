set_option maxHeartbeats 4000000 in
set_option maxRecDepth 100000 in
theorem law_loop (l : Launch) (hl0 : l.stackTraces = false) {pq : Program} {eq : Env} {s : State} {mq : MethodId} {below : List Frame} {meth : Method} {cq : Code} {bq N x m0 ou : Nat} {xs : Nat → Int32} {D : va_G} {cI cJ cF : ClassId} {A : Nat → Prop} {Q : State → Prop} (C0 : LCx pq s mq meth cq bq N xs D cI cJ cF A) (hend : ∀ (H : Heap) (locs : List Loc) (ls : Array Slot) (cells slots : Nat), va_S A s.heap H locs → cells ≤ 670053 → slots ≤ 7085946 → W pq l eq room_1 s mq #[Value.ref bq] below meth cq H locs cells slots Q (F0 mq 831 ls [.int (ji 1)])) : ∀ (n k : Nat) (H : Heap) (locs : List Loc) (ls : Array Slot), 513 ≤ n + k → k ≤ 512 → LSt D cI cJ cF x m0 ou A H → va_S A s.heap H locs → lv_has ls 7 [(0, .ref bq), (1, .ref x), (2, .ref m0), (3, .ref ou), (4, .int (ji (5 * (k : Int))))] → W pq l eq room_1 s mq #[Value.ref bq] below meth cq H locs (25 + 3 * k) (113 + 18 * k) Q (F0 mq 23 ls []) := by
  intro n
  induction n with
  | zero => intro k H locs ls h1 h2; omega
  | succ n ih =>
    intro k H locs ls h1 h2 hLS hS hl
    obtain ⟨X, hK, hT, hZ, hNc, hX, hbl, hbA, hA, hNN⟩ := id C0
    obtain ⟨hx, hb, hml, hown, hr, hlocks, hts⟩ := id X
    refine lv_iload hx hb d_L_law_23 (lv_at hl 4 rfl) ?_
    refine lv_aload_n hx hb d_L_law_25 rfl (lv_at hl 0 rfl) ?_
    refine w_slen hx hb hX hbl hbA hS d_L_law_26 ?_
    refine w_iconst hx hb d_L_law_27 ?_
    refine wi_sub hx hb d_L_law_28 ?_
    have hNl := hNN
    refine wi_cgt hx hb ⟨by omega, by omega⟩ ⟨by omega, by omega⟩ d_L_law_29 (tgt := 830) (by decide) (fun h_1 => ?_) (fun h_1 => ?_)
    · refine w_iconst hx hb d_L_law_830 ?_
      exact hend _ _ _ _ _ hS (by omega) (by omega)
    · have hkk : ∀ (H : Heap) (locs : List Loc) (ls : Array Slot), LSt D cI cJ cF x m0 ou A H → va_S A s.heap H locs → lv_has ls 7 [(0, .ref bq), (1, .ref x), (2, .ref m0), (3, .ref ou), (4, .int (ji (5 * (k : Int))))] → W pq l eq room_1 s mq #[Value.ref bq] below meth cq H locs (25 + 3 * k + 3) (113 + 18 * k + 18) Q (F0 mq 824 ls []) := by
        intro H locs ls hLS hS hl
        refine lv_iinc (v := ji ((5 * (k : Int)) + (5))) (lv' := [(4, .int (ji ((5 * (k : Int)) + (5)))), (0, .ref bq), (1, .ref x), (2, .ref m0), (3, .ref ou)]) hx hb d_L_law_824 hl (k := 4) rfl (ji_add _ _) (by decide) rfl (fun ls hl => ?_)
        refine lv_goto (tgt := 23) hx hb d_L_law_827 (by decide) ?_
        rw [show (5 * (k : Int)) + (5) = 5 * ((k + 1 : Nat) : Int) by omega] at hl
        exact W.widen (k := 25 + 3 * (k + 1)) (n := 113 + 18 * (k + 1)) (by omega) (by omega) (ih (k + 1) H locs ls (by omega) (by omega) hLS hS (lv_sub hl [1, 2, 3, 4, 0] rfl))
      refine lv_aload_n hx hb d_L_law_32 rfl (lv_at hl 0 rfl) ?_
      refine lv_iload hx hb d_L_law_33 (lv_at hl 4 rfl) ?_
      refine w_sld hx hb hX hbl hbA hS hNN (by omega) (by omega) d_L_law_35 ?_
      refine w_bipush hx hb rfl d_L_law_36 ?_
      refine lv_iand hx hb d_L_law_38 ?_
      obtain ⟨y, hy⟩ : ∃ y : Int, y = (ji (sx xs (5 * (k : Int))) &&& ji (15)).toInt := ⟨_, rfl⟩
      refine x_topi (b := ji y) (by rw [hy]; exact (Int32.ofInt_toInt _).symm) ?_
      have hyj : jI y := by rw [hy]; exact ⟨Int32.le_toInt _, by have := Int32.toInt_lt (ji (sx xs (5 * (k : Int))) &&& ji (15)); omega⟩
      rcases (show y = 0 ∨ y = 1 ∨ y = 2 ∨ y = 3 ∨ y = 4 ∨ y = 5 ∨ y = 6 ∨ y = 7 ∨ y = 8 ∨ y = 9 ∨ y = 10 ∨ y = 11 ∨ (y < 0 ∨ 11 < y) by omega) with hv_2 | hv_2 | hv_2 | hv_2 | hv_2 | hv_2 | hv_2 | hv_2 | hv_2 | hv_2 | hv_2 | hv_2 | hv_2
      · refine w_tsIn (v := 0) (tgt := 100) hx hb hyj hv_2 d_L_law_39 (by decide) (by decide) rfl (by decide) ?_
        exact lc_take l hl0 C0 (by omega) (by omega) (by omega) (by omega) hLS hS hl hkk
      · refine w_tsIn (v := 1) (tgt := 136) hx hb hyj hv_2 d_L_law_39 (by decide) (by decide) rfl (by decide) ?_
        exact lc_put l hl0 C0 (by omega) (by omega) (by omega) (by omega) hLS hS hl hkk
      · refine w_tsIn (v := 2) (tgt := 208) hx hb hyj hv_2 d_L_law_39 (by decide) (by decide) rfl (by decide) ?_
        exact lc_compose l hl0 C0 (by omega) (by omega) (by omega) (by omega) hLS hS hl hkk
      · refine w_tsIn (v := 3) (tgt := 268) hx hb hyj hv_2 d_L_law_39 (by decide) (by decide) rfl (by decide) ?_
        exact lc_invert l hl0 C0 (by omega) (by omega) (by omega) (by omega) hLS hS hl hkk
      · refine w_tsIn (v := 4) (tgt := 316) hx hb hyj hv_2 d_L_law_39 (by decide) (by decide) rfl (by decide) ?_
        exact lc_power l hl0 C0 (by omega) (by omega) (by omega) (by omega) hLS hS hl hkk
      · refine w_tsIn (v := 5) (tgt := 408) hx hb hyj hv_2 d_L_law_39 (by decide) (by decide) rfl (by decide) ?_
        exact lc_form l hl0 C0 (by omega) (by omega) (by omega) (by omega) hLS hS hl hkk
      · refine w_tsIn (v := 6) (tgt := 476) hx hb hyj hv_2 d_L_law_39 (by decide) (by decide) rfl (by decide) ?_
        exact lc_same l hl0 C0 (by omega) (by omega) (by omega) (by omega) hLS hS hl hkk
      · refine w_tsIn (v := 7) (tgt := 551) hx hb hyj hv_2 d_L_law_39 (by decide) (by decide) rfl (by decide) ?_
        exact lc_order l hl0 C0 (by omega) (by omega) (by omega) (by omega) hLS hS hl hkk
      · refine w_tsIn (v := 8) (tgt := 607) hx hb hyj hv_2 d_L_law_39 (by decide) (by decide) rfl (by decide) ?_
        exact lc_exponent l hl0 C0 (by omega) (by omega) (by omega) (by omega) hLS hS hl hkk
      · refine w_tsIn (v := 9) (tgt := 675) hx hb hyj hv_2 d_L_law_39 (by decide) (by decide) rfl (by decide) ?_
        exact lc_count l hl0 C0 (by omega) (by omega) (by omega) (by omega) hLS hS hl hkk
      · refine w_tsIn (v := 10) (tgt := 700) hx hb hyj hv_2 d_L_law_39 (by decide) (by decide) rfl (by decide) ?_
        exact lc_prime l hl0 C0 (by omega) (by omega) (by omega) (by omega) hLS hS hl hkk
      · refine w_tsIn (v := 11) (tgt := 756) hx hb hyj hv_2 d_L_law_39 (by decide) (by decide) rfl (by decide) ?_
        exact lc_character l hl0 C0 (by omega) (by omega) (by omega) (by omega) hLS hS hl hkk
      · refine w_tsOut (tgt := 824) hx hb hyj d_L_law_39 hv_2 (by decide) ?_
        exact W.widen (k := 25 + 3 * k + 3) (n := 113 + 18 * k + 18) (by omega) (by omega) (hkk _ _ _ hLS hS hl)
