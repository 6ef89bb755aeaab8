def R_law : String := "FormComposerLaw"
def lw_P (b : Addr) (xs : List Int32) (args : Array Value) (s : State) : Prop := args = #[.ref b] ∧ s.IntsAt b xs ∧ xs.length ≤ 2560 ∧ (Jvm.Cond.and given_1 narrow_1).before args s = true
def lw_Q (_ : Array Value) (s : State) (o : Outcome) (t : State) : Prop := o = .returned (some (.int 1)) ∧ Framed s o t [] 670053 7085946
def lw_Z (below : List Frame) (a : Array Value) (s : State) : State → Prop := fun t => ∃ o, t.status = .running ∧ Ended t below o ∧ lw_Q a s o t
/-- the law's own end, with 1 on the stack, nothing written that was there before, its room as the claim has it -/
theorem lw_ret {p : Program} {l : Launch} {e : Env} {s : State} {m : MethodId} {below : List Frame} {meth : Method} {c : Code} {b : Nat} (hx : p.tables.exec = Jvm.exec) (hb : c.code = code) (hr : meth.sig.returnType = ret) (hlocks : meth.locks = false) {pc : Nat} {H : Heap} {ls : Array Slot} (hdg : decode code pc = .ok (.ireturn, 1)) : W p l e room_1 s m #[Value.ref b] below meth c H [] 670053 7085946 (lw_Z below #[Value.ref b] s) (F0 m pc ls [.int 1]) := by
  intro T hT X
  obtain ⟨fs, hret, hrun, hended, hW, hframe⟩ := X.leave (v := some (.int 1)) (hlocks := hlocks) (fun h => by rw [hr] at h; cases h)
  have hmeth' : T.vm.method? m = some meth := X.method'
  refine ⟨T.setFrames fs, ?_, .returned (some (.int 1)), hrun, hended, rfl, ⟨_, rfl⟩, hW, hframe⟩
  jvm_step X.here [X.here.top, hx, hb, hdg, hmeth', hr, ret, narrow_b1]
  (try refine ⟨rfl, ?_⟩); (try refine ⟨rfl, ?_⟩)
  first | (intro acts; rw [hret _ acts rfl rfl rfl]) | rw [hret _ _ rfl rfl rfl]
  exact Steps.refl _
/-- what holds at the law's entry: the machine, the code, the tables' words (any of lw_tbl by 'hts w (by decide +kernel)'), the script of L ints xs at the cell b, what the Statement gives of the start (any of its parts by flat_of_before) -/
def lw_At (p : Program) (s : State) (m : MethodId) (meth : Method) (c : Code) (b L : Nat) (xs : Nat → Int32) : Prop :=
  p.tables.exec = Jvm.exec ∧ c.code = code ∧ meth.sig.returnType = ret ∧ c.maxLocals = 7 ∧ s.vm.findClass R_law = some m.cls ∧ (∀ w ∈ lw_tbl, w.before #[Value.ref b] s = true) ∧ va_X b L xs s s.heap ∧ b < s.heap.size ∧ meth.locks = false ∧ (Jvm.Cond.and given_1 narrow_1).before #[Value.ref b] s = true
theorem lw_arr {s : State} {args : Array Value} {ty : FieldType} (h : (Cond.arrayClass ty).before args s = true) (ho : ∀ C, ty ≠ .object C) : ∃ cA : ClassId, ArrOfT s cA ty ∧ va_RA s cA ty := by
  obtain ⟨cA, kA, comp, h1, h2, h3⟩ := Cond.arrayClass_spec h
  refine ⟨cA, fun n z => ⟨fun k h => (by cases h), kA, h2, comp, h3⟩, ?_⟩
  cases ty
  case object C => exact absurd rfl (ho C)
  all_goals exact h1
theorem lw_str {s : State} {args : Array Value} {k : Nat} {t : String} {cur : ClassId} (hc : s.vm.findClass R_X = some cur) (h : (Cond.stringRef R_X k t).before args s = true) : ∃ a, vk_R R_X k t a s := by
  obtain ⟨_, _, _, a, _, _, _, _, _, h6⟩ := Cond.stringRef_spec hc h
  exact ⟨a, vk_R.of h h6⟩
theorem lw_nb : ∀ w ∈ nb, w.onTables = true ∧ w ∈ lw_tbl := by decide +kernel
set_option maxHeartbeats 4000000 in
theorem lw_setup {p : Program} {s : State} {m : MethodId} {meth : Method} {c : Code} {b L : Nat} {xs : Nat → Int32} (hL : L ≤ 2560) (C0 : lw_At p s m meth c b L xs) : ∃ (D : va_G) (cI cJ cF : ClassId), LCx p s m meth c b L xs D cI cJ cF (fun q => s.heap.size ≤ q) ∧ va_AO R_F s := by
  obtain ⟨hx, hb, hr, hml, hown, hts0, hX, hbl, hlocks, hgv⟩ := id C0
  have hts : ∀ w ∈ wb, w.before #[Value.ref b] s = true := fun w hw => hts0 w (wb_in hw)
  have hfl := flat_of_before _ hgv
  obtain ⟨c0, i0, n0⟩ := u_known (C := R_E) (T := T_E) (N := 3) (n := 3) hts uw_E (hts _ ia_E)
  obtain ⟨c1, i1, n1⟩ := u_known (C := R_F) (T := T_F) (N := 3) (n := 3) hts uw_F (hts _ ia_F)
  obtain ⟨c2, i2, n2⟩ := u_known (C := R_G) (T := T_G) (N := 7) (n := 7) hts uw_G (hts _ ia_G)
  obtain ⟨c3, i3, n3⟩ := u_known (C := R_P) (T := T_P) (N := 2) (n := 2) hts uw_P (hts _ ia_P)
  obtain ⟨c4, i4, n4⟩ := u_known (C := R_X) (T := T_X) (N := 4) (n := 4) hts uw_X (hts _ ia_X)
  obtain ⟨c5, i5, n5⟩ := u_known (C := R_M) (T := T_M) (N := 11) (n := 11) hts uw_M (hts _ ia_M)
  obtain ⟨cI, aI, rI⟩ := lw_arr (hts _ ac_int) (fun C z => by cases z)
  obtain ⟨cJ, aJ, rJ⟩ := lw_arr (hts _ ac_long) (fun C z => by cases z)
  have ho : va_AO R_F s := va_AO.of (hts0 _ (by decide +kernel : Cond.arrayOver (.object R_F) ∈ lw_tbl))
  obtain ⟨comp, cF, kF, f1, -, f2, f3, f4⟩ := Cond.arrayOver_spec ho
  refine ⟨(fun k => if k = 0 then c0 else if k = 1 then c1 else if k = 2 then c2 else if k = 3 then c3 else if k = 4 then c4 else c5, fun k => if k = 0 then i0 else if k = 1 then i1 else if k = 2 then i2 else if k = 3 then i3 else if k = 4 then i4 else i5), cI, cJ, cF, ⟨⟨hx, hb, hml, hown, hr, hlocks, hts⟩, ⟨⟨?_, ?_⟩, ?_⟩, ?_, ?_, ?_, hX, hbl, Nat.not_le.mpr hbl, fun _ h => h, hL⟩, ho⟩
  · intro k q hq
    match k, hq with
    | 0, hq => cases hq; exact n0
    | 1, hq => cases hq; exact n1
    | 2, hq => cases hq; exact n2
    | 3, hq => cases hq; exact n3
    | 4, hq => cases hq; exact n4
    | 5, hq => cases hq; exact n5
    | k + 6, hq => simp [classes] at hq
  · intro k q hq
    match k, hq with
    | 0, hq => cases hq; exact ⟨aI, rI⟩
    | 1, hq => cases hq; exact ⟨aJ, rJ⟩
    | 2, hq => cases hq; exact ⟨fun N z => ⟨(fun k h => by cases h), kF, f2, comp, f3⟩, kF, comp, f2, f3, f1, f4⟩
    | k + 3, hq => simp at hq
  · exact fun w hw => va_Nw.of (lw_nb w hw).1 (hts0 _ (lw_nb w hw).2)
  · have hc := n4.2.1
    exact ⟨va_Nw.of rfl (hts0 _ (by decide +kernel : Cond.declares (Bundle.initS "java/lang/RuntimeException") ∈ lw_tbl)), va_Nw.of rfl (hts0 _ (by decide +kernel : Cond.declares (Bundle.initS "java/lang/Exception") ∈ lw_tbl)), va_Nw.of rfl (hts0 _ (by decide +kernel : Cond.declares (Bundle.initS "java/lang/Throwable") ∈ lw_tbl)), va_Nw.of rfl (hts0 _ (by decide +kernel : Cond.castable R_IO R_IO ∈ lw_tbl)), va_Nw.of rfl (hts0 _ (by decide +kernel : Cond.castable R_IA R_IA ∈ lw_tbl)), lw_str hc (hts0 _ (by decide +kernel : Cond.stringRef R_X 44 "no such discriminant" ∈ lw_tbl)), lw_str hc (hts0 _ (by decide +kernel : Cond.stringRef R_X 57 "the form can't be taken" ∈ lw_tbl)), lw_str hc (hts0 _ (by decide +kernel : Cond.stringRef R_X 96 "no such coefficient" ∈ lw_tbl)), lw_str hc (hts0 _ (by decide +kernel : Cond.stringRef R_X 127 "no such prime" ∈ lw_tbl)), lw_str hc (hts0 _ (by decide +kernel : Cond.stringRef R_X 150 "no such register" ∈ lw_tbl))⟩
  · have hA' : ∀ a : Nat, a < s.heap.size → ¬ s.heap.size ≤ a := fun a h => by omega
    exact ⟨vx_Zqof (hts0 _ (by decide +kernel : Cond.laysStatic Bundle.tN "UNASSIGNED_STACK" Bundle.steD ∈ lw_tbl)) (hts0 _ (by decide +kernel : Cond.initialized Bundle.tN ∈ lw_tbl)) (hfl _ (by decide +kernel : Cond.isRef (.static Bundle.tN "UNASSIGNED_STACK" Bundle.steD) ∈ flatC (Jvm.Cond.and given_1 narrow_1))) hA', vx_Zqof (hts0 _ (by decide +kernel : Cond.laysStatic Bundle.tN "SUPPRESSED_SENTINEL" Bundle.listD ∈ lw_tbl)) (hts0 _ (by decide +kernel : Cond.initialized Bundle.tN ∈ lw_tbl)) (hfl _ (by decide +kernel : Cond.isRef (.static Bundle.tN "SUPPRESSED_SENTINEL" Bundle.listD) ∈ flatC (Jvm.Cond.and given_1 narrow_1))) hA'⟩
  · exact va_Nc.of (hfl _ (by decide +kernel : Cond.not (.castable R_IA R_IO) ∈ flatC (Jvm.Cond.and given_1 narrow_1)))
theorem va_swapP {D : va_G} {cl : List vw_C} {a b : va_W} {H : Heap} (h : va_P D cl (a ++ b) H) : va_P D cl (b ++ a) H := by
  intro k q hq
  rcases Nat.lt_or_ge k b.length with z | z
  · rw [List.getElem?_append_left z] at hq
    exact h (a.length + k) q (by rw [List.getElem?_append_right (by omega), Nat.add_sub_cancel_left]; exact hq)
  · rw [List.getElem?_append_right z] at hq
    exact h (k - b.length) q (by rw [List.getElem?_append_left (List.getElem?_eq_some_iff.mp hq).1]; exact hq)
theorem va_swapD {A : Nat → Prop} {a b : va_W} (h : va_D A (a ++ b)) : va_D A (b ++ a) := by
  have mv : ∀ (k : Nat) (q : Nat × va_E), (b ++ a)[k]? = some q → ∃ j : Nat, (a ++ b)[j]? = some q ∧ ((k < b.length ∧ j = a.length + k) ∨ (b.length ≤ k ∧ j = k - b.length ∧ j < a.length)) := by
    intro k q hq
    rcases Nat.lt_or_ge k b.length with z | z
    · rw [List.getElem?_append_left z] at hq
      exact ⟨a.length + k, by rw [List.getElem?_append_right (by omega), Nat.add_sub_cancel_left]; exact hq, Or.inl ⟨z, rfl⟩⟩
    · rw [List.getElem?_append_right z] at hq
      have hl := (List.getElem?_eq_some_iff.mp hq).1
      exact ⟨k - b.length, by rw [List.getElem?_append_left hl]; exact hq, Or.inr ⟨z, rfl, hl⟩⟩
  refine ⟨fun i j x y hx hy e => ?_, fun k q hq => ?_⟩
  · obtain ⟨i', h1, h2⟩ := mv i x hx
    obtain ⟨j', h3, h4⟩ := mv j y hy
    have := h.1 i' j' x y h1 h3 e
    omega
  · obtain ⟨j, h1, -⟩ := mv k q hq
    exact h.2 j q h1
theorem st_init {u : (Int × fm_F × fm_F × fm_F) × (List Nat × (Nat → Int)) × (Nat → Int) × (Nat → Int) × (Nat → Int)} {v : Int × (List Nat × (Nat → Int)) × ((Nat → Int) × (Nat → Int) × (Nat → Int)) × fm_F} (hu : (gD (-4) u.1.1 ∧ fm_nm (-4) u.1.1 u.1.2.1 (fm_one ((-4) % 2) (((-4) - (-4) % 2) / 4))) ∧ (oL (-4 : Int).natAbs u.2.1.1 ∧ u.2.1.1.length ≤ 6 ∧ lH u.2.1.2 u.2.1.1) ∧ ∀ j : Nat, j < 8 → (u.2.2.1 j, u.2.2.2.1 j, u.2.2.2.2 j) = u.1.2.1) (hv : gD (-4) v.1 ∧ (oL (-4 : Int).natAbs v.2.1.1 ∧ v.2.1.1.length ≤ 6 ∧ lH v.2.1.2 v.2.1.1) ∧ ∀ j : Nat, j < 8 → fm_nm (-4) v.1 (v.2.2.1.1 j, v.2.2.1.2.1 j, v.2.2.1.2.2 j) (fm_one ((-4) % 2) (((-4) - (-4) % 2) / 4))) :
    v.1 = u.1.1 ∧ ((v.2.1.1.length : Nat) : Int) = ((u.2.1.1.length : Nat) : Int) ∧ gD (-4) u.1.1 ∧ fm_sn (-4) ((-4) % 2) (((-4) - (-4) % 2) / 4) ∧ fm_nm (-4) u.1.1 u.1.2.1 (fm_one ((-4) % 2) (((-4) - (-4) % 2) / 4)) ∧ rN (-4) u.1.1 u.2.2.1 u.2.2.2.1 u.2.2.2.2 ∧ agr u.2.2.1 u.2.2.2.1 u.2.2.2.2 v.2.2.1.1 v.2.2.1.2.1 v.2.2.1.2.2 ∧ rP (-4) ((u.2.1.1.length : Nat) : Int) u.2.1.2 ∧ rP (-4) ((u.2.1.1.length : Nat) : Int) v.2.1.2 ∧ u.2.1.1.length ≤ 6 := by
  obtain ⟨⟨u1, u2⟩, ⟨u3, u4, u5⟩, u6⟩ := hu
  obtain ⟨v1, ⟨v3, v4, v5⟩, v6⟩ := hv
  have e1 := gD_u v1 u1
  have p1 : rP (-4) ((u.2.1.1.length : Nat) : Int) u.2.1.2 := ⟨_, u3, rfl, u4, u5⟩
  have p2 : rP (-4) ((v.2.1.1.length : Nat) : Int) v.2.1.2 := ⟨_, v3, rfl, v4, v5⟩
  have e2 := (rP.u p2 p1).1
  have hs1 : fm_sn (-4) ((-4) % 2) (((-4) - (-4) % 2) / 4) := sn_of (by decide)
  have vo := v_mg u1.1 (fm_one_v hs1) u2.1 u2.2.1 u2.2.2.1
  rw [e1] at v6
  refine ⟨e1, e2, u1, hs1, u2, fun i hi => ?_, fun j hj => ?_, p1, by rw [← e2]; exact p2, u4⟩
  · rw [u6 i hi]
    exact ⟨vo, u2.self⟩
  · rw [u6 j hj]
    exact nm_uniq u1.1 hs1 u2 (v6 j hj) (fm_one_disc hs1) (fm_one_disc hs1) (fm_eq.rf _)
set_option maxHeartbeats 8000000 in
set_option maxRecDepth 100000 in
theorem whole_start {p : Program} {e : Env} {s : State} {m : MethodId} {below : List Frame} {meth : Method} {c : Code} (l : Launch) (hl0 : l.stackTraces = false) {b L : Nat} {xs : Nat → Int32} (hL : L ≤ 2560) (C0 : lw_At p s m meth c b L xs) : W p l e room_1 s m #[Value.ref b] below meth c s.heap [] 0 0 (lw_Z below #[Value.ref b] s) (entryFrame m ([Value.ref b] : List Value).toArray 7) := by
  obtain ⟨D, cI, cJ, cF, CC, ho⟩ := lw_setup hL C0
  obtain ⟨X, hK, hT, hZ, hNc, hX, hbl, hbA, hA, hNN⟩ := id CC
  obtain ⟨hx, hb, hml, hown, hr, hlocks, hts⟩ := id X
  obtain ⟨A, hAq⟩ : ∃ z : Nat → Prop, z = fun q => s.heap.size ≤ q := ⟨_, rfl⟩
  rw [← hAq] at CC hbA hA hZ
  have hend : ∀ (H : Heap) (locs : List Loc) (ls : Array Slot) (cells slots : Nat), va_S A s.heap H locs → cells ≤ 670053 → slots ≤ 7085946 → W p l e room_1 s m #[Value.ref b] below meth c H locs cells slots (lw_Z below #[Value.ref b] s) (F0 m 831 ls [.int (ji 1)]) := by
    intro H locs ls cells slots hS h1 h2
    refine W.widen (k := 670053) (n := 7085946) h1 h2 (va_forget (fun q hq => ?_) ?_)
    · have := hS.2.2 q hq
      rw [hAq] at this
      exact this
    · rw [show ji 1 = 1 by decide]
      exact lw_ret hx hb hr hlocks d_L_law_831
  have hS : va_S A s.heap s.heap [] := va_S.rf
  have hP : va_P D classes [] s.heap := fun k q h => by simp at h
  have hD : va_D A [] := ⟨fun i j p q h => by simp at h, fun k q h => by simp at h⟩
  have hl := lv_entry ([.ref b]) (n := 7) (Nat.le_of_ble_eq_true rfl)
  rw [lg_entry_eq]
  generalize (lg_sl ([.ref b]) ++ List.replicate (7 - (lg_sl ([.ref b])).length) Slot.unset).toArray = ls at hl ⊢
  have hl : lv_has ls 7 [(0, .ref b)] := hl
  refine va_new (own := R_L) (ci := 4) (fs := [.null, .null, .null, .null]) (C := R_X) (T := T_X) (N := 4) hx hb hts uw_X ty_X ty_X_ok hown (hts _ cl_L_8) (hts _ ia_X) (hts _ in_X) hK.1 hP hD hS hA rfl (fun j hj => by rcases (show j = 0 ∨ j = 1 ∨ j = 2 ∨ j = 3 by omega) with rfl | rfl | rfl | rfl <;> rfl) (Nat.le_of_ble_eq_true rfl) (Nat.le_of_ble_eq_true rfl) d_L_law_0 (fun x H hP hD hS => ?_)
  have hP : va_P D classes [(x, .inr (4, [.null, .null, .null, .null]))] H := hP
  have hD : va_D A [(x, .inr (4, [.null, .null, .null, .null]))] := hD
  refine lv_dup hx hb d_L_law_3 rfl ?_
  refine cl_N (B := xNew D cI cF x _) (rn_I (wc := [(x, .inr (4, [.null, .null, .null, .null]))]) (As := []) (rest := [.ref x]) X hK ho (c_X_init l D cI cJ cF _) co_X_init in_X ml_L_54 im_X_init rfl 0 rfl (by decide +kernel) ⟨(Nat.le_of_ble_eq_true rfl), (Nat.le_of_ble_eq_true rfl)⟩ hP hD [0] rfl (by decide) hl.1 rfl (Nat.le_of_ble_eq_true rfl) d_L_law_4 ⟨(Nat.le_of_ble_eq_true rfl), (Nat.le_of_ble_eq_true rfl)⟩) hD hS hA [0] rfl (fun H locs hB h0 hk hS => ?_)
  obtain ⟨g, o, wk, st, bs, eu, pr, fo, ra, hd, rg, fA, u, hpb, hfA, hP1, hD1⟩ := hB
  obtain ⟨hP, hD⟩ := va_app (wc := [(x, .inr (4, [.null, .null, .null, .null]))]) (w1 := [(x, .inr (4, [.ref g, .ref pr, .ref ra, .ref hd]))]) hP hD h0 hA [0] rfl (by decide) rfl hk hP1 hD1
  have hP : va_P D classes (([(x, .inr (4, [.ref g, .ref pr, .ref ra, .ref hd])), (g, .inr (2, [.ref o, .ref wk, .ref st, .ref bs, .ref eu, .int (ji (-4)), .int (ji (u.1.1))])), (o, .inr (1, [.long (jl ((u.1.2.1).1)), .long (jl ((u.1.2.1).2.1)), .long (jl ((u.1.2.1).2.2))])), (wk, .inr (1, [.long (jl ((u.1.2.2.1).1)), .long (jl ((u.1.2.2.1).2.1)), .long (jl ((u.1.2.2.1).2.2))])), (st, .inr (1, [.long (jl ((u.1.2.2.2).1)), .long (jl ((u.1.2.2.2).2.1)), .long (jl ((u.1.2.2.2).2.2))])), (bs, .inr (1, [.long (jl (0)), .long (jl (0)), .long (jl (0))])), (eu, .inr (0, [.long (jl (0)), .long (jl (0)), .long (jl (0))])), (pr, .inr (3, [.ref fo, .int (ji (u.2.1.1.length))])), (fo, .inl (cI, 6, .inl (fun j => ji ((u.2.1.2) j)))), (ra, .inl (cF, 8, .inr (.inr (.inr (.inr fA))))), (hd, .inr (1, [.long (jl (0)), .long (jl (0)), .long (jl (0))]))] : va_W) ++ xR rg (u.2.2.1) (u.2.2.2.1) (u.2.2.2.2)) H := hP
  have hD : va_D A (([(x, .inr (4, [.ref g, .ref pr, .ref ra, .ref hd])), (g, .inr (2, [.ref o, .ref wk, .ref st, .ref bs, .ref eu, .int (ji (-4)), .int (ji (u.1.1))])), (o, .inr (1, [.long (jl ((u.1.2.1).1)), .long (jl ((u.1.2.1).2.1)), .long (jl ((u.1.2.1).2.2))])), (wk, .inr (1, [.long (jl ((u.1.2.2.1).1)), .long (jl ((u.1.2.2.1).2.1)), .long (jl ((u.1.2.2.1).2.2))])), (st, .inr (1, [.long (jl ((u.1.2.2.2).1)), .long (jl ((u.1.2.2.2).2.1)), .long (jl ((u.1.2.2.2).2.2))])), (bs, .inr (1, [.long (jl (0)), .long (jl (0)), .long (jl (0))])), (eu, .inr (0, [.long (jl (0)), .long (jl (0)), .long (jl (0))])), (pr, .inr (3, [.ref fo, .int (ji (u.2.1.1.length))])), (fo, .inl (cI, 6, .inl (fun j => ji ((u.2.1.2) j)))), (ra, .inl (cF, 8, .inr (.inr (.inr (.inr fA))))), (hd, .inr (1, [.long (jl (0)), .long (jl (0)), .long (jl (0))]))] : va_W) ++ xR rg (u.2.2.1) (u.2.2.2.1) (u.2.2.2.2)) := hD
  obtain ⟨wx, hwx⟩ : ∃ z : va_W, z = (([(x, .inr (4, [.ref g, .ref pr, .ref ra, .ref hd])), (g, .inr (2, [.ref o, .ref wk, .ref st, .ref bs, .ref eu, .int (ji (-4)), .int (ji (u.1.1))])), (o, .inr (1, [.long (jl ((u.1.2.1).1)), .long (jl ((u.1.2.1).2.1)), .long (jl ((u.1.2.1).2.2))])), (wk, .inr (1, [.long (jl ((u.1.2.2.1).1)), .long (jl ((u.1.2.2.1).2.1)), .long (jl ((u.1.2.2.1).2.2))])), (st, .inr (1, [.long (jl ((u.1.2.2.2).1)), .long (jl ((u.1.2.2.2).2.1)), .long (jl ((u.1.2.2.2).2.2))])), (bs, .inr (1, [.long (jl (0)), .long (jl (0)), .long (jl (0))])), (eu, .inr (0, [.long (jl (0)), .long (jl (0)), .long (jl (0))])), (pr, .inr (3, [.ref fo, .int (ji (u.2.1.1.length))])), (fo, .inl (cI, 6, .inl (fun j => ji ((u.2.1.2) j)))), (ra, .inl (cF, 8, .inr (.inr (.inr (.inr fA))))), (hd, .inr (1, [.long (jl (0)), .long (jl (0)), .long (jl (0))]))] : va_W) ++ xR rg (u.2.2.1) (u.2.2.2.1) (u.2.2.2.2)) := ⟨_, rfl⟩
  rw [← hwx] at hP hD
  refine lv_astore_n (lv' := [(1, .ref x), (0, .ref b)]) hx hb d_L_law_7 rfl hl (by decide) rfl (fun ls hl => ?_)
  refine va_new (own := R_L) (ci := 5) (fs := [.int (ji (0)), .long (jl (0)), .long (jl (0)), .null, .null, .null, .long (jl (0)), .long (jl (0)), .long (jl (0)), .int (ji (0)), .null]) (C := R_M) (T := T_M) (N := 11) hx hb hts uw_M ty_M ty_M_ok hown (hts _ cl_L_55) (hts _ ia_M) (hts _ in_M) hK.1 hP hD hS hA rfl (fun j hj => by rcases (show j = 0 ∨ j = 1 ∨ j = 2 ∨ j = 3 ∨ j = 4 ∨ j = 5 ∨ j = 6 ∨ j = 7 ∨ j = 8 ∨ j = 9 ∨ j = 10 by omega) with rfl | rfl | rfl | rfl | rfl | rfl | rfl | rfl | rfl | rfl | rfl <;> rfl) (Nat.le_of_ble_eq_true rfl) (Nat.le_of_ble_eq_true rfl) d_L_law_8 (fun m0 H hP hD hS => ?_)
  refine lv_dup hx hb d_L_law_11 rfl ?_
  refine cl_N (B := mNew D cJ m0 _) (rn_I (wc := [(m0, .inr (5, [.int (ji (0)), .long (jl (0)), .long (jl (0)), .null, .null, .null, .long (jl (0)), .long (jl (0)), .long (jl (0)), .int (ji (0)), .null]))]) (As := []) (rest := [.ref m0]) X hK ho (c_M_init l D cI cJ cF _) co_M_init in_M ml_L_57 im_M_init rfl 0 rfl (by decide +kernel) ⟨(Nat.le_of_ble_eq_true rfl), (Nat.le_of_ble_eq_true rfl)⟩ hP hD (sufI wx [(m0, .inr (5, [.int (ji (0)), .long (jl (0)), .long (jl (0)), .null, .null, .null, .long (jl (0)), .long (jl (0)), .long (jl (0)), .int (ji (0)), .null]))]) (suf_C wx _) (suf_n wx _) hl.1 rfl (Nat.le_of_ble_eq_true rfl) d_L_law_12 ⟨(Nat.le_of_ble_eq_true rfl), (Nat.le_of_ble_eq_true rfl)⟩) hD hS hA (sufI wx [(m0, .inr (5, [.int (ji (0)), .long (jl (0)), .long (jl (0)), .null, .null, .null, .long (jl (0)), .long (jl (0)), .long (jl (0)), .int (ji (0)), .null]))]) (suf_C wx _) (fun H locs hB h0 hk hS => ?_)
  obtain ⟨mf, mm, ml, mp, v, hpm, hP1, hD1⟩ := hB
  obtain ⟨hP, hD⟩ := va_app (wc := [(m0, .inr (5, [.int (ji (0)), .long (jl (0)), .long (jl (0)), .null, .null, .null, .long (jl (0)), .long (jl (0)), .long (jl (0)), .int (ji (0)), .null]))]) (w1 := [(m0, .inr (5, [.int (ji (0)), .long (jl (-4)), .long (jl ((v).1)), .ref mf, .ref mm, .ref ml, .long (jl ((v).2.2.2.1)), .long (jl ((v).2.2.2.2.1)), .long (jl ((v).2.2.2.2.2)), .int (ji ((v).2.1.1.length)), .ref mp]))]) hP hD h0 hA (sufI wx [(m0, .inr (5, [.int (ji (0)), .long (jl (0)), .long (jl (0)), .null, .null, .null, .long (jl (0)), .long (jl (0)), .long (jl (0)), .int (ji (0)), .null]))]) (suf_C wx _) (suf_n wx _) rfl hk hP1 hD1
  rw [suf_u (wr := wx) (wc := [(m0, .inr (5, [.int (ji (0)), .long (jl (0)), .long (jl (0)), .null, .null, .null, .long (jl (0)), .long (jl (0)), .long (jl (0)), .int (ji (0)), .null]))]) (w1 := [(m0, .inr (5, [.int (ji (0)), .long (jl (-4)), .long (jl ((v).1)), .ref mf, .ref mm, .ref ml, .long (jl ((v).2.2.2.1)), .long (jl ((v).2.2.2.2.1)), .long (jl ((v).2.2.2.2.2)), .int (ji ((v).2.1.1.length)), .ref mp]))]) rfl] at hP hD
  refine lv_astore_n (lv' := [(2, .ref m0), (1, .ref x), (0, .ref b)]) hx hb d_L_law_15 rfl hl (by decide) rfl (fun ls hl => ?_)
  refine w_iconst hx hb d_L_law_16 ?_
  refine w_newJ (x := 1) (N := 1) hx hb (hts _ ac_long) hK hP hD hS hA (by decide) (by decide) (by decide) (Nat.le_of_ble_eq_true rfl) (Nat.le_of_ble_eq_true rfl) d_L_law_17 (fun ou H hP hD hS => ?_)
  rw [List.append_assoc, List.append_assoc] at hP hD
  have hP := va_swapP hP
  have hD := va_swapD hD
  rw [hwx] at hP hD
  have hP : va_P D classes (([(m0, .inr (5, [.int (ji (0)), .long (jl (-4)), .long (jl ((v).1)), .ref mf, .ref mm, .ref ml, .long (jl ((v).2.2.2.1)), .long (jl ((v).2.2.2.2.1)), .long (jl ((v).2.2.2.2.2)), .int (ji ((v).2.1.1.length)), .ref mp])), (mf, .inl (cJ, 8, .inr (.inl (fun j => jl (((v).2.2.1.1) j))))), (mm, .inl (cJ, 8, .inr (.inl (fun j => jl (((v).2.2.1.2.1) j))))), (ml, .inl (cJ, 8, .inr (.inl (fun j => jl (((v).2.2.1.2.2) j))))), (mp, .inl (cJ, 8, .inr (.inl (fun j => jl (((v).2.1.2) j))))), (ou, .inl (cJ, 1, .inr (.inl (fun j => jl ((fun _ => (0 : Int)) j))))), (x, .inr (4, [.ref g, .ref pr, .ref ra, .ref hd])), (g, .inr (2, [.ref o, .ref wk, .ref st, .ref bs, .ref eu, .int (ji (-4)), .int (ji (u.1.1))])), (o, .inr (1, [.long (jl ((u.1.2.1).1)), .long (jl ((u.1.2.1).2.1)), .long (jl ((u.1.2.1).2.2))])), (wk, .inr (1, [.long (jl ((u.1.2.2.1).1)), .long (jl ((u.1.2.2.1).2.1)), .long (jl ((u.1.2.2.1).2.2))])), (st, .inr (1, [.long (jl ((u.1.2.2.2).1)), .long (jl ((u.1.2.2.2).2.1)), .long (jl ((u.1.2.2.2).2.2))])), (bs, .inr (1, [.long (jl (0)), .long (jl (0)), .long (jl (0))])), (eu, .inr (0, [.long (jl (0)), .long (jl (0)), .long (jl (0))])), (pr, .inr (3, [.ref fo, .int (ji (u.2.1.1.length))])), (fo, .inl (cI, 6, .inl (fun j => ji ((u.2.1.2) j)))), (ra, .inl (cF, 8, .inr (.inr (.inr (.inr fA))))), (hd, .inr (1, [.long (jl (0)), .long (jl (0)), .long (jl (0))]))] : va_W) ++ xR rg (u.2.2.1) (u.2.2.2.1) (u.2.2.2.2)) H := hP
  have hD : va_D A (([(m0, .inr (5, [.int (ji (0)), .long (jl (-4)), .long (jl ((v).1)), .ref mf, .ref mm, .ref ml, .long (jl ((v).2.2.2.1)), .long (jl ((v).2.2.2.2.1)), .long (jl ((v).2.2.2.2.2)), .int (ji ((v).2.1.1.length)), .ref mp])), (mf, .inl (cJ, 8, .inr (.inl (fun j => jl (((v).2.2.1.1) j))))), (mm, .inl (cJ, 8, .inr (.inl (fun j => jl (((v).2.2.1.2.1) j))))), (ml, .inl (cJ, 8, .inr (.inl (fun j => jl (((v).2.2.1.2.2) j))))), (mp, .inl (cJ, 8, .inr (.inl (fun j => jl (((v).2.1.2) j))))), (ou, .inl (cJ, 1, .inr (.inl (fun j => jl ((fun _ => (0 : Int)) j))))), (x, .inr (4, [.ref g, .ref pr, .ref ra, .ref hd])), (g, .inr (2, [.ref o, .ref wk, .ref st, .ref bs, .ref eu, .int (ji (-4)), .int (ji (u.1.1))])), (o, .inr (1, [.long (jl ((u.1.2.1).1)), .long (jl ((u.1.2.1).2.1)), .long (jl ((u.1.2.1).2.2))])), (wk, .inr (1, [.long (jl ((u.1.2.2.1).1)), .long (jl ((u.1.2.2.1).2.1)), .long (jl ((u.1.2.2.1).2.2))])), (st, .inr (1, [.long (jl ((u.1.2.2.2).1)), .long (jl ((u.1.2.2.2).2.1)), .long (jl ((u.1.2.2.2).2.2))])), (bs, .inr (1, [.long (jl (0)), .long (jl (0)), .long (jl (0))])), (eu, .inr (0, [.long (jl (0)), .long (jl (0)), .long (jl (0))])), (pr, .inr (3, [.ref fo, .int (ji (u.2.1.1.length))])), (fo, .inl (cI, 6, .inl (fun j => ji ((u.2.1.2) j)))), (ra, .inl (cF, 8, .inr (.inr (.inr (.inr fA))))), (hd, .inr (1, [.long (jl (0)), .long (jl (0)), .long (jl (0))]))] : va_W) ++ xR rg (u.2.2.1) (u.2.2.2.1) (u.2.2.2.2)) := hD
  obtain ⟨e1, e2, hf⟩ := st_init hpb hpm
  rw [e1, e2] at hP hD
  have hP : va_P D classes (([(m0, .inr (5, [.int (ji (0)), .long (jl (-4)), .long (jl (u.1.1)), .ref mf, .ref mm, .ref ml, .long (jl ((v).2.2.2.1)), .long (jl ((v).2.2.2.2.1)), .long (jl ((v).2.2.2.2.2)), .int (ji (u.2.1.1.length)), .ref mp])), (mf, .inl (cJ, 8, .inr (.inl (fun j => jl (((v).2.2.1.1) j))))), (mm, .inl (cJ, 8, .inr (.inl (fun j => jl (((v).2.2.1.2.1) j))))), (ml, .inl (cJ, 8, .inr (.inl (fun j => jl (((v).2.2.1.2.2) j))))), (mp, .inl (cJ, 8, .inr (.inl (fun j => jl (((v).2.1.2) j))))), (ou, .inl (cJ, 1, .inr (.inl (fun j => jl ((fun _ => (0 : Int)) j))))), (x, .inr (4, [.ref g, .ref pr, .ref ra, .ref hd])), (g, .inr (2, [.ref o, .ref wk, .ref st, .ref bs, .ref eu, .int (ji (-4)), .int (ji (u.1.1))])), (o, .inr (1, [.long (jl ((u.1.2.1).1)), .long (jl ((u.1.2.1).2.1)), .long (jl ((u.1.2.1).2.2))])), (wk, .inr (1, [.long (jl ((u.1.2.2.1).1)), .long (jl ((u.1.2.2.1).2.1)), .long (jl ((u.1.2.2.1).2.2))])), (st, .inr (1, [.long (jl ((u.1.2.2.2).1)), .long (jl ((u.1.2.2.2).2.1)), .long (jl ((u.1.2.2.2).2.2))])), (bs, .inr (1, [.long (jl (0)), .long (jl (0)), .long (jl (0))])), (eu, .inr (0, [.long (jl (0)), .long (jl (0)), .long (jl (0))])), (pr, .inr (3, [.ref fo, .int (ji (u.2.1.1.length))])), (fo, .inl (cI, 6, .inl (fun j => ji ((u.2.1.2) j)))), (ra, .inl (cF, 8, .inr (.inr (.inr (.inr fA))))), (hd, .inr (1, [.long (jl (0)), .long (jl (0)), .long (jl (0))]))] : va_W) ++ xR rg (u.2.2.1) (u.2.2.2.1) (u.2.2.2.2)) H := hP
  have hD : va_D A (([(m0, .inr (5, [.int (ji (0)), .long (jl (-4)), .long (jl (u.1.1)), .ref mf, .ref mm, .ref ml, .long (jl ((v).2.2.2.1)), .long (jl ((v).2.2.2.2.1)), .long (jl ((v).2.2.2.2.2)), .int (ji (u.2.1.1.length)), .ref mp])), (mf, .inl (cJ, 8, .inr (.inl (fun j => jl (((v).2.2.1.1) j))))), (mm, .inl (cJ, 8, .inr (.inl (fun j => jl (((v).2.2.1.2.1) j))))), (ml, .inl (cJ, 8, .inr (.inl (fun j => jl (((v).2.2.1.2.2) j))))), (mp, .inl (cJ, 8, .inr (.inl (fun j => jl (((v).2.1.2) j))))), (ou, .inl (cJ, 1, .inr (.inl (fun j => jl ((fun _ => (0 : Int)) j))))), (x, .inr (4, [.ref g, .ref pr, .ref ra, .ref hd])), (g, .inr (2, [.ref o, .ref wk, .ref st, .ref bs, .ref eu, .int (ji (-4)), .int (ji (u.1.1))])), (o, .inr (1, [.long (jl ((u.1.2.1).1)), .long (jl ((u.1.2.1).2.1)), .long (jl ((u.1.2.1).2.2))])), (wk, .inr (1, [.long (jl ((u.1.2.2.1).1)), .long (jl ((u.1.2.2.1).2.1)), .long (jl ((u.1.2.2.1).2.2))])), (st, .inr (1, [.long (jl ((u.1.2.2.2).1)), .long (jl ((u.1.2.2.2).2.1)), .long (jl ((u.1.2.2.2).2.2))])), (bs, .inr (1, [.long (jl (0)), .long (jl (0)), .long (jl (0))])), (eu, .inr (0, [.long (jl (0)), .long (jl (0)), .long (jl (0))])), (pr, .inr (3, [.ref fo, .int (ji (u.2.1.1.length))])), (fo, .inl (cI, 6, .inl (fun j => ji ((u.2.1.2) j)))), (ra, .inl (cF, 8, .inr (.inr (.inr (.inr fA))))), (hd, .inr (1, [.long (jl (0)), .long (jl (0)), .long (jl (0))]))] : va_W) ++ xR rg (u.2.2.1) (u.2.2.2.1) (u.2.2.2.2)) := hD
  refine lv_astore_n (lv' := [(3, .ref ou), (2, .ref m0), (1, .ref x), (0, .ref b)]) hx hb d_L_law_19 rfl hl (by decide) rfl (fun ls hl => ?_)
  refine w_iconst hx hb d_L_law_20 ?_
  refine lv_istore (lv' := [(4, .int (ji (0))), (3, .ref ou), (2, .ref m0), (1, .ref x), (0, .ref b)]) hx hb d_L_law_21 hl (by decide) rfl (fun ls hl => ?_)
  refine W.widen (k := 25 + 3 * 0) (n := 113 + 18 * 0) (Nat.le_of_ble_eq_true rfl) (Nat.le_of_ble_eq_true rfl) ?_
  obtain ⟨hg, hs, hone, hN, ha, hPF, hPG, hnp⟩ := hf
  exact law_loop l hl0 CC hend 513 0 H _ ls (by decide) (by decide) ⟨g, o, wk, st, bs, eu, pr, fo, ra, hd, mf, mm, ml, mp, rg, fA, (-4), (u.1.1), (((-4) % 2)), ((((-4) - (-4) % 2) / 4)), ((u.1.2.1).1), ((u.1.2.1).2.1), ((u.1.2.1).2.2), ((u.1.2.2.1).1), ((u.1.2.2.1).2.1), ((u.1.2.2.1).2.2), ((u.1.2.2.2).1), ((u.1.2.2.2).2.1), ((u.1.2.2.2).2.2), 0, 0, 0, 0, 0, 0, 0, 0, 0, 0, ((v).2.2.2.1), ((v).2.2.2.2.1), ((v).2.2.2.2.2), (u.2.1.1.length), (u.2.2.1), (u.2.2.2.1), (u.2.2.2.2), (u.2.1.2), ((v).2.2.1.1), ((v).2.2.1.2.1), ((v).2.2.1.2.2), ((v).2.1.2), ((fun _ => (0 : Int))), hg, hs, hone, hN, ha, hPF, hPG, hnp, hfA, hP, hD⟩ hS (lv_sub hl [4, 3, 2, 1, 0] rfl)
set_option maxHeartbeats 4000000 in
theorem lw_walk (l : Launch) (hl0 : l.stackTraces = false) (b : Addr) (xs : List Int32) : MetFree l x (headSpec (Jvm.Cond.code x code maxLocals ret :: tables_1) room_1) (lw_P b xs) (fun _ _ _ _ _ => True) lw_Q := by
  refine MetFree.of_bodyS (code := code) (maxLocals := maxLocals) (ret := ret) (by decide) ?_ ?_
  · intro args s m h hn
    obtain ⟨meth, c, h1, h2, h3, h4, h5, h6, -, -⟩ := Cond.code_spec hn (atoms_spec (ws := Jvm.Cond.code x code maxLocals ret :: tables_1) h _ List.mem_cons_self)
    exact ⟨meth, c, h1, h2, h3, h4, h5, h6⟩
  · intro p e s m args below meth c s₁ B hml0 hP _
    obtain ⟨rfl, hx, hbd, hgv⟩ := hP
    obtain ⟨scr, harrAt, hlist, hof, hsmall⟩ := hx
    obtain ⟨hcb, hkn, -, -⟩ := State.arrayAt?_spec harrAt
    have hown : s.vm.findClass R_law = some m.cls := findClass_of_methodNamed B.named
    have hts0 : ∀ c ∈ (Jvm.Cond.code x code maxLocals ret :: tables_1), c.before #[Value.ref b] s = true := atoms_spec (ws := Jvm.Cond.code x code maxLocals ret :: tables_1) B.pre
    have hts : ∀ w ∈ lw_tbl, w.before #[Value.ref b] s = true := k2_hts_sels lw_privs (fun w hw => hts0 w (List.mem_cons_of_mem _ hw)) lw_privs_ok
    have hml : c.maxLocals = 7 := B.maxLocals_eq (hts0 _ List.mem_cons_self)
    have X₀ : Stand p l e room_1 s m #[Value.ref b] below meth c s₁ [] 0 0 := Stand.of_body B
    have hh0 : s₁.heap = s.heap := by rw [B.state]; rfl
    have hsz : scr.slots.size = xs.length := by rw [← Array.length_toList, hlist, List.length_map]
    have hval : ∀ j : Nat, j < xs.length → scr.slots[j]? = some (.int (xs.getD j 0)) := fun j hj => by
      rw [← Array.getElem?_toList, hlist]
      simp [hj]
    have hbl : b < s.heap.size := (Array.getElem?_eq_some_iff.mp hcb).1
    have hX : va_X b xs.length (fun j => xs.getD j 0) s s.heap := ⟨scr, hcb, hof, hkn, hsz, hval⟩
    have K : W p l e room_1 s m #[Value.ref b] below meth c s₁.heap [] 0 0 (lw_Z below #[Value.ref b] s) (entryFrame m ([Value.ref b] : List Value).toArray 7) := by
      rw [hh0]
      exact whole_start l hl0 hbd ⟨B.exec, B.bytes, B.returns, hml, hown, hts, hX, hbl, B.notSynchronized, hgv⟩
    obtain ⟨t, a1, o, b1, b2, b3⟩ := K s₁ rfl X₀
    exact ⟨t, o, a1, b1, b2, b3⟩
theorem lw_pre_spec {args : Array Value} {s : State} (h : (Jvm.Cond.and given_1 narrow_1).before args s = true) (hr : rest_1_c.before args s = true) : ∃ (b : Addr) (xs : List Int32), lw_P b xs args s := by
  have hs := flat_of_before _ h
  have hq := flat_of_before _ hr
  have hc : (Cond.count 1).before args s = true := hs _ (by decide +kernel)
  have harr : (Cond.arrayOf (.arg 0) .int).before args s = true := hs _ (by decide +kernel)
  have hle : (Cond.le (.length (.arg 0)) (.int 2560)).before args s = true := hs _ (by decide +kernel)
  have hlen : (Cond.isInt (.length (.arg 0))).before args s = true := hq _ (by decide +kernel)
  have hall : (Cond.all (.arg 0) (.isInt (.elem (.arg 0) (.index 0)))).before args s = true := hq _ (by decide +kernel)
  obtain ⟨b, xs, hb, hx⟩ := State.ints_of_pre rfl harr hlen hall
  have hsm : xs.length < 2 ^ 31 := hx.choose_spec.2.2.2
  have hev : (Term.length (.arg 0)).eval args s none [] s = some (.int xs.length.toInt32) := hx.length_eval hb
  have hv := Cond.le_ints hev (show (Term.int 2560).eval args s none [] s = some (.int 2560) from rfl)
  have hd : xs.length.toInt32 ≤ 2560 := by
    simpa [Cond.before, Cond.holds, hv] using hle
  have hN : xs.length ≤ 2560 := (Int32.ofNat_le_ofNat hsm (by decide)).mp (show Int32.ofNat xs.length ≤ Int32.ofNat 2560 from hd)
  exact ⟨b, xs, Cond.one_arg hc (show args[0]? = some (.ref b) from hb), hx, hN, h⟩
theorem lw_comes (l : Launch) (hl0 : l.stackTraces = false) : Comes l x (Jvm.Cond.code x code maxLocals ret :: tables_1) room_1 (fun tb e args s => Calls_1 tb e args s ∧ rest_1 tb e args s ∧ Pre_1 tb e args s)
    (fun _ _ args s o t => lw_Q args s o t) := by
  intro p e ha hc hk s m args below hf hfit hheap happ hpre
  obtain ⟨b, xs, hP⟩ := lw_pre_spec hpre.2.2 hpre.2.1
  obtain ⟨k, o, h1, h2, h3, hQ⟩ := lw_walk l hl0 b xs p e ha hc hk s m args below hf ((Spec.applies_iff_loose hf).mp happ).1 hP trivial
  exact ⟨k, o, h1, h2, h3, hQ⟩
theorem lw_frame {s t : State} {o : Outcome} {args : Array Value} (h : Framed s o t [] 670053 7085946) :
    Framed s o t (fieldLocs frame_1_writes args s ++ arrayLocs frame_1_arrays args s ++ staticLocs frame_1_statics s) 670053 7085946 := h
theorem lw_limb (L : Cond) (hL : ∀ (args : Array Value) (s t : State), L.after args s (.returned (some (.int 1))) t = true) :
    ArmFor flags0 classFile x code maxLocals ret World_1 tables_1 room_1 Calls_1 rest_1 Pre_1
      (fun tb e a s o t => postC L tb e a s o t ∧ Framed s o t (fieldLocs frame_1_writes a s ++ arrayLocs frame_1_arrays a s ++ staticLocs frame_1_statics s) 670053 7085946) := by
  intro l hfl _ _ p e ha hc hk s m args below hf hfit hheap happ hpre
  obtain ⟨k, o, h1, h2, h3, rfl, hF⟩ := lw_comes l (by unfold Launch.stackTraces; rw [hfl]; decide +kernel) p e ha hc hk s m args below hf hfit hheap happ hpre
  exact ⟨k, _, h1, h2, h3, hL args s _, lw_frame hF⟩
theorem i_vc : Claimed_1_1 ∧ Claimed_1_2 := ⟨lw_limb limb_1_1 (fun args s t => by simp [limb_1_1, Cond.after, Cond.holds, Cond.value]), lw_limb limb_1_2 (fun args s t => Cond.after_iff.mpr (by
  first | (rw [show limb_1_2 = Cond.eq .result (.int 1) from rfl, Cond.eq_ints (x := 1) (y := 1) rfl rfl]; simp; done) | (simp [limb_1_2, Cond.value, Term.eval]; done)))⟩
