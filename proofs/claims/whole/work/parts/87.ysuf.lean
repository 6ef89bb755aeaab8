/-! Calls over the last cells of a world; the law's helpers, which catch. -/
def sufI (wr wc : va_W) : List Nat := (List.range wc.length).map (fun i => wr.length + i)
theorem suf_C (wr wc : va_W) : (sufI wr wc).map (fun i => (wr ++ wc)[i]?) = wc.map some := by
  apply List.ext_getElem?
  intro k
  unfold sufI
  rw [List.getElem?_map, List.getElem?_map, List.getElem?_map]
  rcases Nat.lt_or_ge k wc.length with h | h
  · rw [List.getElem?_range h]
    simp only [Option.map_some]
    rw [List.getElem?_append_right (by omega), Nat.add_sub_cancel_left, List.getElem?_eq_getElem h]
    rfl
  · rw [List.getElem?_eq_none (by simpa using h), List.getElem?_eq_none h]
    rfl
theorem suf_n (wr wc : va_W) : (sufI wr wc).Nodup := by
  unfold sufI
  rw [List.nodup_iff_pairwise_ne, List.pairwise_map]
  have h := (List.nodup_iff_pairwise_ne.mp (List.nodup_range (n := wc.length)))
  exact h.imp (fun hab e => hab (by omega))
theorem wup_len : ∀ (is : List Nat) (ws xs : va_W), (wup ws is xs).length = ws.length := by
  intro is
  induction is with
  | nil => intro ws xs; cases xs <;> rfl
  | cons i is ih =>
    intro ws xs
    cases xs with
    | nil => rfl
    | cons x xs =>
      show (wup (ws.set i x) is xs).length = _
      rw [ih, List.length_set]
theorem suf_u {wr wc w1 : va_W} (h : w1.length = wc.length) : wup (wr ++ wc) (sufI wr wc) w1 = wr ++ w1 := by
  apply List.ext_getElem?
  intro k
  have hil : (sufI wr wc).length = w1.length := by unfold sufI; simp [h]
  have hlt : ∀ i ∈ sufI wr wc, i < (wr ++ wc).length := by
    intro i hi
    unfold sufI at hi
    rw [List.mem_map] at hi
    obtain ⟨j, hj, rfl⟩ := hi
    rw [List.mem_range] at hj
    rw [List.length_append]
    omega
  rcases Nat.lt_or_ge k (wr ++ wc).length with hk | hk
  · have hk2 : k < (wup (wr ++ wc) (sufI wr wc) w1).length := by rw [wup_len]; exact hk
    obtain ⟨q, hq⟩ : ∃ q, (wup (wr ++ wc) (sufI wr wc) w1)[k]? = some q := ⟨_, List.getElem?_eq_getElem hk2⟩
    rw [hq]
    rcases wup_get _ _ _ (suf_n wr wc) hil hlt k _ hq with ⟨h1, h2⟩ | ⟨j, h1, h2⟩
    · have hkr : k < wr.length := by
        rcases Nat.lt_or_ge k wr.length with z | z
        · exact z
        · exfalso
          apply h1
          unfold sufI
          rw [List.mem_map]
          rw [List.length_append] at hk
          exact ⟨k - wr.length, by rw [List.mem_range]; omega, by omega⟩
      rw [← h2, List.getElem?_append_left hkr, List.getElem?_append_left hkr]
    · have hj : k = wr.length + j ∧ j < wc.length := by
        unfold sufI at h1
        rw [List.getElem?_map] at h1
        rcases Nat.lt_or_ge j wc.length with z | z
        · rw [List.getElem?_range z] at h1
          exact ⟨(Option.some.inj h1).symm, z⟩
        · rw [List.getElem?_eq_none (by simpa using z)] at h1
          cases h1
      rw [hj.1, List.getElem?_append_right (by omega), Nat.add_sub_cancel_left]
      exact h2.symm
  · rw [List.getElem?_eq_none (by rw [wup_len]; exact hk), List.getElem?_eq_none (by rw [List.length_append] at hk ⊢; omega)]
theorem len_of {w1 wc : va_W} (h : w1.map (fun q => q.1) = wc.map (fun q => q.1)) : w1.length = wc.length := by
  have := congrArg List.length h
  simpa using this
theorem xR_fst (rg : Nat → Nat) (F1 F2 F3 : Nat → Int) : (xR rg F1 F2 F3).map (fun q => q.1) = (List.range 8).map rg := by
  unfold xR
  rw [List.map_map]
  rfl
theorem fst_app {a b : va_W} {rg : Nat → Nat} {F1 F2 F3 G1 G2 G3 : Nat → Int} (h : a.map (fun q => q.1) = b.map (fun q => q.1)) : (a ++ xR rg F1 F2 F3).map (fun q => q.1) = (b ++ xR rg G1 G2 G3).map (fun q => q.1) := by
  rw [List.map_append, List.map_append, xR_fst, xR_fst, h]
section SK
variable {p : Program} {l : Launch} {e : Env} {R : Room} {s : State} {m : MethodId} {args : Array Value} {below : List Frame} {meth : Method} {c : Code} {H : Heap} {locs : List Loc} {cells slots mc ms : Nat} {Q : State → Prop}
variable {pc : Nat} {ls : Array Slot} {rest st0 : List Value} {a : Array Value} {A : Nat → Prop} {H0 : Heap} {D : va_G} {wr wc : va_W} {cI cJ cF : ClassId}
theorem cs_v {S : Type} {post : S → Prop} {W1 : S → va_W} (hr : va_Run p l e R s m args below meth c H locs cells slots 0 0 (F0 m pc ls st0) rest (va_Qv post (fun u t => va_P D classes (W1 u) t.heap) (va_A wc H.size) a) (va_A wc H.size)) (hP : va_P D classes (wr ++ wc) H) (hD : va_D A (wr ++ wc)) (hS : va_S A H0 H locs) (hA : ∀ q, H0.size ≤ q → A q) (hf : ∀ u, (W1 u).map (fun q => q.1) = wc.map (fun q => q.1))
    (kk : ∀ (u : S) (H1 : Heap) (locs1 : List Loc), post u → va_P D classes (wr ++ W1 u) H1 → va_D A (wr ++ W1 u) → va_S A H0 H1 locs1 → W p l e R s m args below meth c H1 locs1 cells slots Q (F0 m (pc + 3) ls rest)) : W p l e R s m args below meth c H locs cells slots Q (F0 m pc ls st0) := by
  refine cl_v hr hP hD hS hA (sufI wr wc) (suf_C wr wc) (suf_n wr wc) hf (fun u H1 locs1 hp h1 h2 h3 => ?_)
  rw [suf_u (len_of (hf u))] at h1 h2
  exact kk u H1 locs1 hp h1 h2 h3
theorem cs_i {S : Type} {post : Int32 → S → Prop} {W1 : S → va_W} (hr : va_Run p l e R s m args below meth c H locs cells slots mc ms (F0 m pc ls st0) rest (va_Qi post (fun u t => va_P D classes (W1 u) t.heap) (va_A wc H.size) a) (va_A wc H.size)) (hP : va_P D classes (wr ++ wc) H) (hD : va_D A (wr ++ wc)) (hS : va_S A H0 H locs) (hA : ∀ q, H0.size ≤ q → A q) (hf : ∀ u, (W1 u).map (fun q => q.1) = wc.map (fun q => q.1))
    (kk : ∀ (r : Int32) (u : S) (H1 : Heap) (locs1 : List Loc), post r u → va_P D classes (wr ++ W1 u) H1 → va_D A (wr ++ W1 u) → va_S A H0 H1 locs1 → W p l e R s m args below meth c H1 locs1 (cells + mc) (slots + ms) Q (F0 m (pc + 3) ls (.int r :: rest))) : W p l e R s m args below meth c H locs cells slots Q (F0 m pc ls st0) := by
  have hF := va_free hD hS hA (sufI wr wc) (suf_C wr wc)
  refine va_calli hr hS (fun q _ h => hF q h) hF (fun r u t H1 locs1 ht _ hp hB _ hk hS1 => ?_)
  have hB' : va_P D classes (W1 u) H1 := by rw [← ht]; exact hB
  obtain ⟨h1, h2⟩ := va_upd hP hD (sufI wr wc) (suf_C wr wc) (suf_n wr wc) (hf u) hk hB'
  rw [suf_u (len_of (hf u))] at h1 h2
  exact kk r u H1 locs1 hp h1 h2 hS1
theorem xs_v {S SX : Type} {post : S → Prop} {W1 : S → va_W} {px : SX → Prop} {EX : String → SX → Prop} {WX : SX → va_W} (hr : vx_Run p l e R s m args below meth c H locs cells slots mc ms (F0 m pc ls st0) rest (va_Qv post (fun u t => va_P D classes (W1 u) t.heap) (va_A wc H.size) a) (vx_X px (fun E u t => EX E u ∧ va_P D classes (WX u) t.heap) (va_A wc H.size)) (va_A wc H.size)) (hP : va_P D classes (wr ++ wc) H) (hD : va_D A (wr ++ wc)) (hS : va_S A H0 H locs) (hA : ∀ q, H0.size ≤ q → A q) (hf : ∀ u, (W1 u).map (fun q => q.1) = wc.map (fun q => q.1)) (hfX : ∀ u, (WX u).map (fun q => q.1) = wc.map (fun q => q.1))
    (kx : ∀ (E : String) (ce : Cell) (q9 : Addr) (u : SX) (H1 : Heap) (locs1 : List Loc), px u → EX E u → va_P D classes (wr ++ WX u) H1 → va_D A (wr ++ WX u) → va_S A H0 H1 locs1 → H1[q9]? = some ce → ce.vm = .none → s.vm.findClass E = some ce.cls → vx_W p l e R s m args below meth c H1 locs1 (cells + mc) (slots + ms) Q (F0 m pc ls rest) q9)
    (kk : ∀ (u : S) (H1 : Heap) (locs1 : List Loc), post u → va_P D classes (wr ++ W1 u) H1 → va_D A (wr ++ W1 u) → va_S A H0 H1 locs1 → W p l e R s m args below meth c H1 locs1 (cells + mc) (slots + ms) Q (F0 m (pc + 3) ls rest)) : W p l e R s m args below meth c H locs cells slots Q (F0 m pc ls st0) := by
  refine xl_v hr hP hD hS hA (sufI wr wc) (suf_C wr wc) (suf_n wr wc) hf hfX (fun E ce q9 u H1 locs1 hp hE h1 h2 h3 k1 k2 k3 => ?_) (fun u H1 locs1 hp h1 h2 h3 => ?_)
  · rw [suf_u (len_of (hfX u))] at h1 h2
    exact kx E ce q9 u H1 locs1 hp hE h1 h2 h3 k1 k2 k3
  · rw [suf_u (len_of (hf u))] at h1 h2
    exact kk u H1 locs1 hp h1 h2 h3
theorem xs_i {S SX : Type} {post : Int32 → S → Prop} {W1 : S → va_W} {px : SX → Prop} {EX : String → SX → Prop} {WX : SX → va_W} (hr : vx_Run p l e R s m args below meth c H locs cells slots mc ms (F0 m pc ls st0) rest (va_Qi post (fun u t => va_P D classes (W1 u) t.heap) (va_A wc H.size) a) (vx_X px (fun E u t => EX E u ∧ va_P D classes (WX u) t.heap) (va_A wc H.size)) (va_A wc H.size)) (hP : va_P D classes (wr ++ wc) H) (hD : va_D A (wr ++ wc)) (hS : va_S A H0 H locs) (hA : ∀ q, H0.size ≤ q → A q) (hf : ∀ u, (W1 u).map (fun q => q.1) = wc.map (fun q => q.1)) (hfX : ∀ u, (WX u).map (fun q => q.1) = wc.map (fun q => q.1))
    (kx : ∀ (E : String) (ce : Cell) (q9 : Addr) (u : SX) (H1 : Heap) (locs1 : List Loc), px u → EX E u → va_P D classes (wr ++ WX u) H1 → va_D A (wr ++ WX u) → va_S A H0 H1 locs1 → H1[q9]? = some ce → ce.vm = .none → s.vm.findClass E = some ce.cls → vx_W p l e R s m args below meth c H1 locs1 (cells + mc) (slots + ms) Q (F0 m pc ls rest) q9)
    (kk : ∀ (r : Int32) (u : S) (H1 : Heap) (locs1 : List Loc), post r u → va_P D classes (wr ++ W1 u) H1 → va_D A (wr ++ W1 u) → va_S A H0 H1 locs1 → W p l e R s m args below meth c H1 locs1 (cells + mc) (slots + ms) Q (F0 m (pc + 3) ls (.int r :: rest))) : W p l e R s m args below meth c H locs cells slots Q (F0 m pc ls st0) := by
  refine xl_i hr hP hD hS hA (sufI wr wc) (suf_C wr wc) (suf_n wr wc) hf hfX (fun E ce q9 u H1 locs1 hp hE h1 h2 h3 k1 k2 k3 => ?_) (fun r u H1 locs1 hp h1 h2 h3 => ?_)
  · rw [suf_u (len_of (hfX u))] at h1 h2
    exact kx E ce q9 u H1 locs1 hp hE h1 h2 h3 k1 k2 k3
  · rw [suf_u (len_of (hf u))] at h1 h2
    exact kk r u H1 locs1 hp h1 h2 h3
variable {y : MethodName} {bytes cc : ByteArray} {maxL nL n index fr lo : Nat} {ret : Option FieldType} {Qc : Array Value → State → Outcome → State → Prop} {XC : String → State → State → Prop} {own C host : String} {As : List Value} {b : Addr} {hh : List (Nat × Nat × Nat × Nat)}
theorem rx_S {rt : Option FieldType} (X : cx p s m args meth c cc nL rt own) (hK : kq D cI cJ cF s) (ht : tq s) (hz : zq A s H0) (hS : va_S A H0 H locs) (hA : ∀ q, H0.size ≤ q → A q) (hM : vx_Met l y (Cond.code y bytes maxL ret :: wb) { frames := fr, cells := mc, slots := ms, locals := lo } (va_Pc (.ref b :: As) (xpre D cI cJ cF wc H.size)) Qc XC mc ms (va_A wc H.size)) (co : Cond.code y bytes maxL ret ∈ wb) (ini : Cond.initialized y.cls ∈ wb) (ml : Cond.methodLink own index y ∈ wb) (im : Cond.instanceMethod y ∈ wb) (se : Cond.selects y.cls y y ∈ wb) (nA : Nat) (hnA : As.length = nA) (hd : y.cls ≠ "java/lang/invoke/MethodHandle" ∧ y.cls ≠ "java/lang/invoke/VarHandle" ∧ (parseMethodDescriptor y.desc).map (fun d => d.parameters.length) = some nA) (hR : fr + 1 ≤ R.frames ∧ 8 + (maxL + 11) + lo ≤ R.locals) (hP : va_P D classes (wr ++ wc) H) (hD : va_D A (wr ++ wc)) {ci q0 : Nat} {fs : List Value} {vc : vw_C} (hv : wc[q0]? = some (b, .inr (ci, fs))) (hc : classes[ci]? = some vc) (hcn : vc.1 = y.cls) (hsize : ls.size = nL) (hstack : st0 = As.reverse ++ .ref b :: rest) (hW : (rest.map fun v => v.category).sum ≤ 8) (hdg : decode cc pc = .ok (.invokevirtual index, 3)) (hf : cells + mc ≤ R.cells ∧ slots + ms ≤ R.slots) :
    vx_Run p l e R s m args below meth c H locs cells slots mc ms (F0 m pc ls st0) rest (Qc (Value.ref b :: As).toArray) XC (va_A wc H.size) :=
  rx_V X hK ht hz hS hA hM co ini ml im se nA hnA hd hR hP hD (sufI wr wc) (suf_C wr wc) (suf_n wr wc) hv hc hcn hsize hstack hW hdg hf
theorem rn_VS {rt : Option FieldType} (X : cx p s m args meth c cc nL rt own) (hK : kq D cI cJ cF s) (hM : Met l y (Cond.code y bytes maxL ret :: wb) { frames := fr, cells := 0, slots := 0, locals := lo } (va_Pc (.ref b :: As) (cpre D cI cJ cF wc H.size)) Qc 0 0 (va_A wc H.size)) (co : Cond.code y bytes maxL ret ∈ wb) (ini : Cond.initialized y.cls ∈ wb) (ml : Cond.methodLink own index y ∈ wb) (im : Cond.instanceMethod y ∈ wb) (se : Cond.selects y.cls y y ∈ wb) (nA : Nat) (hnA : As.length = nA) (hd : y.cls ≠ "java/lang/invoke/MethodHandle" ∧ y.cls ≠ "java/lang/invoke/VarHandle" ∧ (parseMethodDescriptor y.desc).map (fun d => d.parameters.length) = some nA) (hR : fr + 1 ≤ R.frames ∧ 8 + (maxL + 11) + lo ≤ R.locals) (hP : va_P D classes (wr ++ wc) H) (hD : va_D A (wr ++ wc)) {ci q0 : Nat} {fs : List Value} {vc : vw_C} (hv : wc[q0]? = some (b, .inr (ci, fs))) (hc : classes[ci]? = some vc) (hcn : vc.1 = y.cls) (hsize : ls.size = nL) (hstack : st0 = As.reverse ++ .ref b :: rest) (hW : (rest.map fun v => v.category).sum ≤ 8) (hdg : decode cc pc = .ok (.invokevirtual index, 3)) (hf : cells ≤ R.cells ∧ slots ≤ R.slots) :
    va_Run p l e R s m args below meth c H locs cells slots 0 0 (F0 m pc ls st0) rest (Qc (Value.ref b :: As).toArray) (va_A wc H.size) :=
  rn_V X hK hM co ini ml im se nA hnA hd hR hP hD (sufI wr wc) (suf_C wr wc) (suf_n wr wc) hv hc hcn hsize hstack hW hdg hf
/-- what the law's helpers take as given: also that the two kinds of throws differ -/
def lpre (D : va_G) (cI cJ cF : ClassId) (ws : va_W) (sz : Nat) (U : State) : Prop := xpre D cI cJ cF ws sz U ∧ va_Nc R_IA R_IO U
theorem lpre.blind {ws : va_W} {sz : Nat} : FrameBlind (va_Pc As (lpre D cI cJ cF ws sz)) := by
  intro a U g mk q
  obtain ⟨q0, q1, q2⟩ := q
  have h := xpre.blind (D := D) (cI := cI) (cJ := cJ) (cF := cF) (ws := ws) (sz := sz) (As := As) a U g mk ⟨q0, q1⟩
  exact ⟨h.1, h.2, va_Nc.moved (u := U) (U := U.calling g mk a) (Vm.Alike.refl U.vm) q2⟩
theorem lpre.pre {ws : va_W} (hK : kq D cI cJ cF s) (hP : va_P D classes ws H) (hD : va_D (fun _ => True) ws) (ht : tq s) (hz : zq (va_A ws H.size) s H) (hc : va_Nc R_IA R_IO s) : PreS s H (va_Pc As (lpre D cI cJ cF ws H.size)) As :=
  ⟨lpre.blind, fun U hU hW => ⟨rfl, ((xpre.pre (As := As) hK hP hD ht hz).2 U hU hW).2, va_Nc.moved hW.alike hc⟩⟩
theorem rn_H {rt : Option FieldType} (X : cx p s m args meth c cc nL rt own) (hK : kq D cI cJ cF s) (ht : tq s) (hz : zq A s H0) (hc : va_Nc R_IA R_IO s) (hS : va_S A H0 H locs) (hA : ∀ q, H0.size ≤ q → A q) (hM : Met l y (Cond.codeWith y bytes maxL ret hh :: wb) { frames := fr, cells := mc, slots := ms, locals := lo } (va_Pc As (lpre D cI cJ cF wc H.size)) Qc mc ms (va_A wc H.size)) (co : Cond.codeWith y bytes maxL ret hh ∈ wb) (ini : Cond.initialized y.cls ∈ wb) (ml : Cond.methodLink own index y ∈ wb) (st : Cond.static y ∈ wb) (nA : Nat) (hnA : As.length = nA) (hd : y.cls ≠ "java/lang/invoke/MethodHandle" ∧ y.cls ≠ "java/lang/invoke/VarHandle" ∧ (parseMethodDescriptor y.desc).map (fun d => d.parameters.length) = some nA) (hR : fr + 1 ≤ R.frames ∧ 8 + (maxL + 11) + lo ≤ R.locals) (hP : va_P D classes (wr ++ wc) H) (hD : va_D A (wr ++ wc)) (hsize : ls.size = nL) (hstack : st0 = As.reverse ++ rest) (hW : (rest.map fun v => v.category).sum ≤ 8) (hdg : decode cc pc = .ok (.invokestatic index, 3)) (hf : cells + mc ≤ R.cells ∧ slots + ms ≤ R.slots) :
    va_Run p l e R s m args below meth c H locs cells slots mc ms (F0 m pc ls st0) rest (Qc As.toArray) (va_A wc H.size) := by
  have hts := X.2.2.2.2.2.2
  have F := rn_fix X _ co
  have hz' : zq (va_A wc H.size) s H := (hz.kept hS.2.1).narrow (va_free hD hS hA (sufI wr wc) (suf_C wr wc))
  refine vx_runSW (hh := hh) (bytes := bytes) (maxL := maxL) (ret := ret) F hM ⟨⟨rfl, rfl, hR.1, hR.2, pay_in F.2.2.2.2 (wb_G co), List.mem_cons_self⟩, hts _ co, hts _ ini, ⟨hd.1, hd.2.1⟩, fun sig h => ?_, hts _ ml, hts _ st⟩ (lpre.pre hK (hP.cut (sufI wr wc) (suf_C wr wc)) (hD.cut (sufI wr wc) (suf_n wr wc) (suf_C wr wc)).any ht hz' hc) rfl hnA hsize hstack (lv_room (m := m) (pc := pc) (ls := ls) (rest := st0) hW) hdg hf
  have h2 := hd.2.2
  rw [h] at h2
  exact (Option.some.inj h2).symm
end SK
theorem c_ofH {l : Launch} {y : MethodName} {cc : ByteArray} {nL mc ms : Nat} {ret : Option FieldType} {hh : List (Nat × Nat × Nat × Nat)} {rm : Room} {As : List Value} {ws : va_W} {D : va_G} {cI cJ cF : ClassId} {Qc : Nat → Array Value → State → Outcome → State → Prop} (hy : plainName y.cls = true) (co : Cond.codeWith y cc nL ret hh ∈ wb) (hn : (lg_sl As).length ≤ nL)
    (body : ∀ (p : Program) (e : Env) (s : State) (m : MethodId) (below : List Frame) (meth : Method) (c : Code) (A : Nat → Prop), cx p s m As.toArray meth c cc nL ret y.cls → kq D cI cJ cF s → va_P D classes ws s.heap → va_D A ws → va_S A s.heap s.heap [] → (∀ q, s.heap.size ≤ q → A q) → A = va_A ws s.heap.size → tq s → zq A s s.heap → va_Nc R_IA R_IO s → c.exceptionTable.toList = tableOf hh → ∀ ls : Array Slot, lv_has ls nL (lv_args 0 As) → W p l e rm s m As.toArray below meth c s.heap [] 0 0 (MQ below (Qc s.heap.size) As.toArray s mc ms A) (F0 m 0 ls [])) :
    ∀ sz : Nat, Met l y (Cond.codeWith y cc nL ret hh :: wb) rm (va_Pc As (lpre D cI cJ cF ws sz)) (Qc sz) mc ms (va_A ws sz) := by
  intro sz
  refine va_MetW (cc := cc) (maxL := nL) (ret := ret) (hh := hh) hy rfl ?_
  intro p e s m args below meth c s₁ B hml hv
  obtain ⟨rfl, ⟨⟨hsz, hP, hK, hD0⟩, ht, hz⟩, hc⟩ := hv
  subst hsz
  have hts := atoms_spec (ws := Cond.codeWith y cc nL ret hh :: wb) B.pre
  have htab := vx_table (x := y) B (hts _ List.mem_cons_self)
  rw [lg_entry_eq]
  exact body p e s m below meth c (va_A ws s.heap.size) ⟨B.exec, B.bytes, hml, findClass_of_methodNamed B.named, B.returns, B.notSynchronized, fun w hw => hts w (List.mem_cons_of_mem _ hw)⟩ hK hP hD0.self va_S.rf (fun q h => Or.inr h) rfl ht hz hc htab _ (lv_entry As hn)
