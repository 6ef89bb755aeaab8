/-! Contracts of one shape, and calls that write their cells in place. -/
def wup : va_W → List Nat → va_W → va_W
  | ws, i :: is, x :: xs => wup (ws.set i x) is xs
  | ws, _, _ => ws
theorem wup_get : ∀ (is : List Nat) (ws xs : va_W), is.Nodup → is.length = xs.length → (∀ i ∈ is, i < ws.length) → ∀ (k : Nat) (q : Nat × va_E), (wup ws is xs)[k]? = some q → (k ∉ is ∧ ws[k]? = some q) ∨ ∃ j : Nat, is[j]? = some k ∧ xs[j]? = some q := by
  intro is
  induction is with
  | nil =>
    intro ws xs _ _ _ k q h
    refine Or.inl ⟨by simp, ?_⟩
    cases xs <;> exact h
  | cons i is ih =>
    intro ws xs hn hl hi k q h
    match xs, hl, h with
    | x :: xs, hl, h =>
      rw [List.nodup_cons] at hn
      rcases ih (ws.set i x) xs hn.2 (by simpa using hl) (fun j hj => by rw [List.length_set]; exact hi j (List.mem_cons_of_mem _ hj)) k q h with ⟨h1, h2⟩ | ⟨j, h1, h2⟩
      · by_cases e : k = i
        · right
          subst e
          rw [List.getElem?_set_self (hi k List.mem_cons_self)] at h2
          exact ⟨0, rfl, h2⟩
        · left
          rw [List.getElem?_set_ne (fun z => e z.symm)] at h2
          exact ⟨fun z => (List.mem_cons.mp z).elim e h1, h2⟩
      · exact Or.inr ⟨j + 1, h1, h2⟩
/-- behind a call: the callee's cells in place, the others unchanged -/
theorem va_upd {A0 : Nat → Prop} {D : va_G} {cl : List vw_C} {ws wc w1 : va_W} {H H1 : Heap} (hP : va_P D cl ws H) (hD : va_D A0 ws) (is : List Nat) (hC : is.map (fun i => ws[i]?) = wc.map some) (hn : is.Nodup) (hf : w1.map (fun q => q.1) = wc.map (fun q => q.1)) (hk : ∀ q : Nat, q < H.size → ¬ va_A wc H.size q → H1[q]? = H[q]?) (hP1 : va_P D cl w1 H1) : va_P D cl (wup ws is w1) H1 ∧ va_D A0 (wup ws is w1) := by
  have hlen : is.length = wc.length := by
    have := congrArg List.length hC
    simpa using this
  have hlen1 : w1.length = wc.length := by
    have := congrArg List.length hf
    simpa using this
  have at' : ∀ (j k : Nat), is[j]? = some k → ∃ q, wc[j]? = some q ∧ ws[k]? = some q := by
    intro j k hj
    have h1 : (is.map (fun i => ws[i]?))[j]? = some (ws[k]?) := by rw [List.getElem?_map, hj]; rfl
    rw [hC, List.getElem?_map] at h1
    cases hq : wc[j]? with
    | none => rw [hq] at h1; cases h1
    | some q => rw [hq] at h1; exact ⟨q, rfl, (Option.some.inj h1).symm⟩
  have hlt : ∀ i ∈ is, i < ws.length := by
    intro i hi
    obtain ⟨j, hj⟩ := List.getElem?_of_mem hi
    obtain ⟨q, -, h2⟩ := at' j i hj
    exact (List.getElem?_eq_some_iff.mp h2).1
  have get := wup_get is ws w1 hn (by omega) hlt
  have adr : ∀ (k : Nat) (q : Nat × va_E), (wup ws is w1)[k]? = some q → ∃ e, ws[k]? = some (q.1, e) := by
    intro k q h
    rcases get k q h with ⟨-, h2⟩ | ⟨j, h1, h2⟩
    · exact ⟨q.2, h2⟩
    · obtain ⟨r, h3, h4⟩ := at' j k h1
      have h5 : (w1.map (fun q => q.1))[j]? = (wc.map (fun q => q.1))[j]? := by rw [hf]
      rw [List.getElem?_map, List.getElem?_map, h2, h3] at h5
      have h6 : q.1 = r.1 := Option.some.inj h5
      exact ⟨r.2, by rw [h4, h6]⟩
  refine ⟨fun k q h => ?_, fun i j x y hx hy hxy => ?_, fun k q h => ?_⟩
  · rcases get k q h with ⟨h1, h2⟩ | ⟨j, h1, h2⟩
    · have hl := (hP k q h2).lt
      refine (hP k q h2).kept (hk q.1 hl (fun z => ?_))
      rcases z with ⟨k2, e, z⟩ | z
      · cases hi : is[k2]? with
        | none =>
          have := List.getElem?_eq_none_iff.mp hi
          have := (List.getElem?_eq_some_iff.mp z).1
          omega
        | some i =>
          obtain ⟨r, h3, h4⟩ := at' k2 i hi
          rw [z] at h3
          have h5 := hD.1 k i q r h2 h4 (by rw [← Option.some.inj h3])
          rw [h5] at h1
          exact h1 (List.mem_of_getElem? hi)
      · omega
    · exact hP1 j q h2
  · obtain ⟨e, h1⟩ := adr i x hx
    obtain ⟨e', h2⟩ := adr j y hy
    exact hD.1 i j _ _ h1 h2 hxy
  · obtain ⟨e, h1⟩ := adr k q h
    exact hD.2 k (q.1, e) h1
-- what all contracts take as given of the tables
abbrev tys3 (cI cJ cF : ClassId) : List (ClassId × FieldType) := [(cI, .int), (cJ, .long), (cF, .object "FormComposer$Form")]
def kq (D : va_G) (cI cJ cF : ClassId) (U : State) : Prop := va_K D classes (tys3 cI cJ cF) U ∧ nw U
def cpre (D : va_G) (cI cJ cF : ClassId) (ws : va_W) (sz : Nat) (U : State) : Prop := U.heap.size = sz ∧ va_P D classes ws U.heap ∧ kq D cI cJ cF U ∧ va_D (fun _ => True) ws
theorem kq.warm {D : va_G} {cI cJ cF : ClassId} {s U : State} (hW : s.WarmedH U.vm) (h : kq D cI cJ cF s) : kq D cI cJ cF U := ⟨va_K.moved hW.alike h.1, nw.warm hW h.2⟩
theorem cpre.blind {D : va_G} {cI cJ cF : ClassId} {ws : va_W} {sz : Nat} {As : List Value} : FrameBlind (va_Pc As (cpre D cI cJ cF ws sz)) := by
  intro a U g mk q
  obtain ⟨q0, q1, qP, ⟨qK, qN⟩, qD⟩ := q
  exact ⟨q0, q1, qP, ⟨va_K.moved (u := U) (U := U.calling g mk a) (Vm.Alike.refl U.vm) qK, nw.same (u := U) (U := U.calling g mk a) rfl qN⟩, qD⟩
theorem cpre.pre {D : va_G} {cI cJ cF : ClassId} {ws : va_W} {As : List Value} {s : State} {H : Heap} (hK : kq D cI cJ cF s) (hP : va_P D classes ws H) (hD : va_D (fun _ => True) ws) : PreS s H (va_Pc As (cpre D cI cJ cF ws H.size)) As :=
  ⟨cpre.blind, fun U hU hW => ⟨rfl, by rw [hU], by rw [hU]; exact hP, hK.warm hW, hD⟩⟩
theorem va_D.any {A : Nat → Prop} {ws : va_W} (h : va_D A ws) : va_D (fun _ => True) ws := h.weaken (fun _ _ _ _ => trivial)
/-- the part of a world at some places -/
theorem va_P.cut {D : va_G} {cl : List vw_C} {ws wc : va_W} {H : Heap} (h : va_P D cl ws H) (is : List Nat) (hC : is.map (fun i => ws[i]?) = wc.map some) : va_P D cl wc H := by
  intro k q hk
  have h1 : (is.map (fun i => ws[i]?))[k]? = some (some q) := by rw [hC, List.getElem?_map, hk]; rfl
  rw [List.getElem?_map] at h1
  cases hi : is[k]? with
  | none => rw [hi] at h1; cases h1
  | some i => rw [hi] at h1; exact h i q (Option.some.inj h1)
theorem va_D.cut {A : Nat → Prop} {ws wc : va_W} (h : va_D A ws) (is : List Nat) (hn : is.Nodup) (hC : is.map (fun i => ws[i]?) = wc.map some) : va_D A wc := by
  have at' : ∀ (k : Nat) (q : Nat × va_E), wc[k]? = some q → ∃ i, is[k]? = some i ∧ ws[i]? = some q := by
    intro k q hk
    have h1 : (is.map (fun i => ws[i]?))[k]? = some (some q) := by rw [hC, List.getElem?_map, hk]; rfl
    rw [List.getElem?_map] at h1
    cases hi : is[k]? with
    | none => rw [hi] at h1; cases h1
    | some i => rw [hi] at h1; exact ⟨i, rfl, Option.some.inj h1⟩
  refine ⟨fun i j x y hx hy e => ?_, fun k q hk => ?_⟩
  · obtain ⟨a, a1, a2⟩ := at' i x hx
    obtain ⟨b, b1, b2⟩ := at' j y hy
    have hab := h.1 a b x y a2 b2 e
    subst hab
    have l1 := (List.getElem?_eq_some_iff.mp a1).1
    have l2 := (List.getElem?_eq_some_iff.mp b1).1
    exact (List.getElem?_inj l1 hn).mp (a1.trans b1.symm)
  · obtain ⟨a, a1, a2⟩ := at' k q hk
    exact h.2 a q a2
section CL
variable {p : Program} {l : Launch} {e : Env} {R : Room} {s : State} {m : MethodId} {args : Array Value} {below : List Frame} {meth : Method} {c : Code} {H : Heap} {locs : List Loc} {cells slots : Nat} {Q : State → Prop}
variable {pc : Nat} {ls : Array Slot} {rest st0 : List Value} {a : Array Value} {A : Nat → Prop} {H0 : Heap} {D : va_G} {ws wc : va_W} {cI cJ cF : ClassId}
theorem cl_i {S : Type} {post : Int32 → S → Prop} {W1 : S → va_W} (hr : va_Run p l e R s m args below meth c H locs cells slots 0 0 (F0 m pc ls st0) rest (va_Qi post (fun u t => va_P D classes (W1 u) t.heap) (va_A wc H.size) a) (va_A wc H.size)) (hP : va_P D classes ws H) (hD : va_D A ws) (hS : va_S A H0 H locs) (hA : ∀ q, H0.size ≤ q → A q) (is : List Nat) (hC : is.map (fun i => ws[i]?) = wc.map some) (hn : is.Nodup) (hf : ∀ u, (W1 u).map (fun q => q.1) = wc.map (fun q => q.1))
    (kk : ∀ (r : Int32) (u : S) (H1 : Heap) (locs1 : List Loc), post r u → va_P D classes (wup ws is (W1 u)) H1 → va_D A (wup ws is (W1 u)) → va_S A H0 H1 locs1 → W p l e R s m args below meth c H1 locs1 cells slots Q (F0 m (pc + 3) ls (.int r :: rest))) : W p l e R s m args below meth c H locs cells slots Q (F0 m pc ls st0) := by
  have hF := va_free hD hS hA is hC
  refine va_calli hr hS (fun q _ h => hF q h) hF (fun r u t H1 locs1 ht _ hp hB _ hk hS1 => ?_)
  have hB' : va_P D classes (W1 u) H1 := by rw [← ht]; exact hB
  obtain ⟨h1, h2⟩ := va_upd hP hD is hC hn (hf u) hk hB'
  exact kk r u H1 locs1 hp h1 h2 hS1
theorem cl_l {S : Type} {post : Int64 → S → Prop} {W1 : S → va_W} (hr : va_Run p l e R s m args below meth c H locs cells slots 0 0 (F0 m pc ls st0) rest (va_Ql post (fun u t => va_P D classes (W1 u) t.heap) (va_A wc H.size) a) (va_A wc H.size)) (hP : va_P D classes ws H) (hD : va_D A ws) (hS : va_S A H0 H locs) (hA : ∀ q, H0.size ≤ q → A q) (is : List Nat) (hC : is.map (fun i => ws[i]?) = wc.map some) (hn : is.Nodup) (hf : ∀ u, (W1 u).map (fun q => q.1) = wc.map (fun q => q.1))
    (kk : ∀ (r : Int64) (u : S) (H1 : Heap) (locs1 : List Loc), post r u → va_P D classes (wup ws is (W1 u)) H1 → va_D A (wup ws is (W1 u)) → va_S A H0 H1 locs1 → W p l e R s m args below meth c H1 locs1 cells slots Q (F0 m (pc + 3) ls (.long r :: rest))) : W p l e R s m args below meth c H locs cells slots Q (F0 m pc ls st0) := by
  have hF := va_free hD hS hA is hC
  refine va_calll hr hS (fun q _ h => hF q h) hF (fun r u t H1 locs1 ht _ hp hB _ hk hS1 => ?_)
  have hB' : va_P D classes (W1 u) H1 := by rw [← ht]; exact hB
  obtain ⟨h1, h2⟩ := va_upd hP hD is hC hn (hf u) hk hB'
  exact kk r u H1 locs1 hp h1 h2 hS1
theorem cl_v {S : Type} {post : S → Prop} {W1 : S → va_W} (hr : va_Run p l e R s m args below meth c H locs cells slots 0 0 (F0 m pc ls st0) rest (va_Qv post (fun u t => va_P D classes (W1 u) t.heap) (va_A wc H.size) a) (va_A wc H.size)) (hP : va_P D classes ws H) (hD : va_D A ws) (hS : va_S A H0 H locs) (hA : ∀ q, H0.size ≤ q → A q) (is : List Nat) (hC : is.map (fun i => ws[i]?) = wc.map some) (hn : is.Nodup) (hf : ∀ u, (W1 u).map (fun q => q.1) = wc.map (fun q => q.1))
    (kk : ∀ (u : S) (H1 : Heap) (locs1 : List Loc), post u → va_P D classes (wup ws is (W1 u)) H1 → va_D A (wup ws is (W1 u)) → va_S A H0 H1 locs1 → W p l e R s m args below meth c H1 locs1 cells slots Q (F0 m (pc + 3) ls rest)) : W p l e R s m args below meth c H locs cells slots Q (F0 m pc ls st0) := by
  have hF := va_free hD hS hA is hC
  refine va_callv hr hS (fun q _ h => hF q h) hF (fun u t H1 locs1 ht _ hp hB _ hk hS1 => ?_)
  have hB' : va_P D classes (W1 u) H1 := by rw [← ht]; exact hB
  obtain ⟨h1, h2⟩ := va_upd hP hD is hC hn (hf u) hk hB'
  exact kk u H1 locs1 hp h1 h2 hS1
-- the four kinds of calls
variable {y : MethodName} {bytes cc : ByteArray} {maxL nL n index fr lo : Nat} {ret : Option FieldType} {Qc : Array Value → State → Outcome → State → Prop} {own C host : String} {As : List Value} {b : Addr}
/-- what a method's walk has at hand: the machine, its code, its class, the words -/
def cx (p : Program) (s : State) (m : MethodId) (args : Array Value) (meth : Method) (c : Code) (cc : ByteArray) (nL : Nat) (ret : Option FieldType) (own : String) : Prop :=
  p.tables.exec = Jvm.exec ∧ c.code = cc ∧ c.maxLocals = nL ∧ s.vm.findClass own = some m.cls ∧ meth.sig.returnType = ret ∧ meth.locks = false ∧ ∀ w ∈ wb, w.before args s = true
theorem rn_fix {rt : Option FieldType} (X : cx p s m args meth c cc nL rt own) (w : Cond) (hw : w ∈ wb) : CallFix p m c cc nL s args (w :: wb) own := ⟨X.1, X.2.1, X.2.2.1, X.2.2.2.1, fun z hz => (List.mem_cons.mp hz).elim (fun e => by rw [e]; exact X.2.2.2.2.2.2 _ hw) (X.2.2.2.2.2.2 z)⟩
theorem rn_S {rt : Option FieldType} (X : cx p s m args meth c cc nL rt own) (hK : kq D cI cJ cF s) (hM : Met l y (Cond.code y bytes maxL ret :: wb) { frames := fr, cells := 0, slots := 0, locals := lo } (va_Pc As (cpre D cI cJ cF wc H.size)) Qc 0 0 (va_A wc H.size)) (co : Cond.code y bytes maxL ret ∈ wb) (ini : Cond.initialized y.cls ∈ wb) (ml : Cond.methodLink own index y ∈ wb) (st : Cond.static y ∈ wb) (nA : Nat) (hnA : As.length = nA) (hd : y.cls ≠ "java/lang/invoke/MethodHandle" ∧ y.cls ≠ "java/lang/invoke/VarHandle" ∧ (parseMethodDescriptor y.desc).map (fun d => d.parameters.length) = some nA) (hR : fr + 1 ≤ R.frames ∧ 8 + (maxL + 11) + lo ≤ R.locals) (hP : va_P D classes ws H) (hD : va_D A ws) (is : List Nat) (hC : is.map (fun i => ws[i]?) = wc.map some) (hn : is.Nodup) (hsize : ls.size = nL) (hstack : st0 = As.reverse ++ rest) (hW : (rest.map fun v => v.category).sum ≤ 8) (hdg : decode cc pc = .ok (.invokestatic index, 3)) (hf : cells ≤ R.cells ∧ slots ≤ R.slots) :
    va_Run p l e R s m args below meth c H locs cells slots 0 0 (F0 m pc ls st0) rest (Qc As.toArray) (va_A wc H.size) := by
  have hts := X.2.2.2.2.2.2
  have F := rn_fix X _ co
  exact va_runS F hM ⟨callB_of (n := nA) F.2.2.2.2 (wb_G co) rfl rfl rfl (hts _ ini) (hts _ ml) hd hR, hts _ st⟩ (cpre.pre hK (hP.cut is hC) (hD.cut is hn hC).any) rfl hnA hsize hstack (lv_room (m := m) (pc := pc) (ls := ls) (rest := st0) hW) hdg hf
theorem rn_SN {rt : Option FieldType} (X : cx p s m args meth c cc nL rt own) (hK : kq D cI cJ cF s) (hM : Met l y (Cond.code y bytes maxL ret :: wb) { frames := fr, cells := 0, slots := 0, locals := lo } (va_Pc As (cpre D cI cJ cF wc H.size)) Qc 0 0 (va_A wc H.size)) (co : Cond.code y bytes maxL ret ∈ wb) (ini : Cond.initialized y.cls ∈ wb) (ml : Cond.methodLinkNest own index y host ∈ nb) (st : Cond.static y ∈ wb) (nA : Nat) (hnA : As.length = nA) (hd : y.cls ≠ "java/lang/invoke/MethodHandle" ∧ y.cls ≠ "java/lang/invoke/VarHandle" ∧ (parseMethodDescriptor y.desc).map (fun d => d.parameters.length) = some nA) (hR : fr + 1 ≤ R.frames ∧ 8 + (maxL + 11) + lo ≤ R.locals) (hP : va_P D classes ws H) (hD : va_D A ws) (is : List Nat) (hC : is.map (fun i => ws[i]?) = wc.map some) (hn : is.Nodup) (hsize : ls.size = nL) (hstack : st0 = As.reverse ++ rest) (hW : (rest.map fun v => v.category).sum ≤ 8) (hdg : decode cc pc = .ok (.invokestatic index, 3)) (hf : cells ≤ R.cells ∧ slots ≤ R.slots) :
    va_Run p l e R s m args below meth c H locs cells slots 0 0 (F0 m pc ls st0) rest (Qc As.toArray) (va_A wc H.size) := by
  have hts := X.2.2.2.2.2.2
  have F := rn_fix X _ co
  exact va_runSN F hM ⟨va_cnB nA F.2.2.2.2 (wb_G co) rfl rfl rfl (hK.2 _ ml) (hts _ ini) hd hR, hts _ st, trivial⟩ (cpre.pre hK (hP.cut is hC) (hD.cut is hn hC).any) rfl hnA hsize hstack (lv_room (m := m) (pc := pc) (ls := ls) (rest := st0) hW) hdg hf
theorem rn_V {rt : Option FieldType} (X : cx p s m args meth c cc nL rt own) (hK : kq D cI cJ cF s) (hM : Met l y (Cond.code y bytes maxL ret :: wb) { frames := fr, cells := 0, slots := 0, locals := lo } (va_Pc (.ref b :: As) (cpre D cI cJ cF wc H.size)) Qc 0 0 (va_A wc H.size)) (co : Cond.code y bytes maxL ret ∈ wb) (ini : Cond.initialized y.cls ∈ wb) (ml : Cond.methodLink own index y ∈ wb) (im : Cond.instanceMethod y ∈ wb) (se : Cond.selects y.cls y y ∈ wb) (nA : Nat) (hnA : As.length = nA) (hd : y.cls ≠ "java/lang/invoke/MethodHandle" ∧ y.cls ≠ "java/lang/invoke/VarHandle" ∧ (parseMethodDescriptor y.desc).map (fun d => d.parameters.length) = some nA) (hR : fr + 1 ≤ R.frames ∧ 8 + (maxL + 11) + lo ≤ R.locals) (hP : va_P D classes ws H) (hD : va_D A ws) (is : List Nat) (hC : is.map (fun i => ws[i]?) = wc.map some) (hn : is.Nodup) {ci q0 : Nat} {fs : List Value} {vc : vw_C} (hv : wc[q0]? = some (b, .inr (ci, fs))) (hc : classes[ci]? = some vc) (hcn : vc.1 = y.cls) (hsize : ls.size = nL) (hstack : st0 = As.reverse ++ .ref b :: rest) (hW : (rest.map fun v => v.category).sum ≤ 8) (hdg : decode cc pc = .ok (.invokevirtual index, 3)) (hf : cells ≤ R.cells ∧ slots ≤ R.slots) :
    va_Run p l e R s m args below meth c H locs cells slots 0 0 (F0 m pc ls st0) rest (Qc (Value.ref b :: As).toArray) (va_A wc H.size) := by
  have hts := X.2.2.2.2.2.2
  have F := rn_fix X _ co
  have hPc := hP.cut is hC
  have hrec := va_recv hK.1 hPc hc hv
  rw [hcn] at hrec
  have hpre := cpre.pre (As := .ref b :: As) hK hPc (hD.cut is hn hC).any
  exact va_runV F hM ⟨callB_of (n := nA) F.2.2.2.2 (wb_G co) rfl rfl rfl (hts _ ini) (hts _ ml) hd hR, hts _ im, hts _ se⟩ ⟨hpre.1, hrec, hpre.2⟩ rfl hnA hsize hstack (lv_room (m := m) (pc := pc) (ls := ls) (rest := st0) hW) hdg hf
theorem rn_VN {rt : Option FieldType} (X : cx p s m args meth c cc nL rt own) (hK : kq D cI cJ cF s) (hM : Met l y (Cond.code y bytes maxL ret :: wb) { frames := fr, cells := 0, slots := 0, locals := lo } (va_Pc (.ref b :: As) (cpre D cI cJ cF wc H.size)) Qc 0 0 (va_A wc H.size)) (co : Cond.code y bytes maxL ret ∈ wb) (ini : Cond.initialized y.cls ∈ wb) (ml : Cond.methodLinkNest own index y host ∈ nb) (im : Cond.instanceMethod y ∈ wb) (se : Cond.selects y.cls y y ∈ wb) (nA : Nat) (hnA : As.length = nA) (hd : y.cls ≠ "java/lang/invoke/MethodHandle" ∧ y.cls ≠ "java/lang/invoke/VarHandle" ∧ (parseMethodDescriptor y.desc).map (fun d => d.parameters.length) = some nA) (hR : fr + 1 ≤ R.frames ∧ 8 + (maxL + 11) + lo ≤ R.locals) (hP : va_P D classes ws H) (hD : va_D A ws) (is : List Nat) (hC : is.map (fun i => ws[i]?) = wc.map some) (hn : is.Nodup) {ci q0 : Nat} {fs : List Value} {vc : vw_C} (hv : wc[q0]? = some (b, .inr (ci, fs))) (hc : classes[ci]? = some vc) (hcn : vc.1 = y.cls) (hsize : ls.size = nL) (hstack : st0 = As.reverse ++ .ref b :: rest) (hW : (rest.map fun v => v.category).sum ≤ 8) (hdg : decode cc pc = .ok (.invokevirtual index, 3)) (hf : cells ≤ R.cells ∧ slots ≤ R.slots) :
    va_Run p l e R s m args below meth c H locs cells slots 0 0 (F0 m pc ls st0) rest (Qc (Value.ref b :: As).toArray) (va_A wc H.size) := by
  have hts := X.2.2.2.2.2.2
  have F := rn_fix X _ co
  have hPc := hP.cut is hC
  have hrec := va_recv hK.1 hPc hc hv
  rw [hcn] at hrec
  have hpre := cpre.pre (As := .ref b :: As) hK hPc (hD.cut is hn hC).any
  exact va_runVN F hM ⟨va_cnB nA F.2.2.2.2 (wb_G co) rfl rfl rfl (hK.2 _ ml) (hts _ ini) hd hR, hts _ im, hts _ se⟩ ⟨hpre.1, hrec, hpre.2⟩ rfl hnA hsize hstack (lv_room (m := m) (pc := pc) (ls := ls) (rest := st0) hW) hdg hf
end CL
/-- a contract by its walk -/
theorem c_of {l : Launch} {y : MethodName} {cc : ByteArray} {nL mc ms : Nat} {ret : Option FieldType} {rm : Room} {As : List Value} {ws : va_W} {D : va_G} {cI cJ cF : ClassId} {Qc : Nat → Array Value → State → Outcome → State → Prop} (hy : plainFor y = true) (co : Cond.code y cc nL ret ∈ wb) (hn : (lg_sl As).length ≤ nL)
    (body : ∀ (p : Program) (e : Env) (s : State) (m : MethodId) (below : List Frame) (meth : Method) (c : Code) (A : Nat → Prop), cx p s m As.toArray meth c cc nL ret y.cls → kq D cI cJ cF s → va_P D classes ws s.heap → va_D A ws → va_S A s.heap s.heap [] → (∀ q, s.heap.size ≤ q → A q) → A = va_A ws s.heap.size → ∀ ls : Array Slot, lv_has ls nL (lv_args 0 As) → W p l e rm s m As.toArray below meth c s.heap [] 0 0 (MQ below (Qc s.heap.size) As.toArray s mc ms A) (F0 m 0 ls [])) :
    ∀ sz : Nat, Met l y (Cond.code y cc nL ret :: wb) rm (va_Pc As (cpre D cI cJ cF ws sz)) (Qc sz) mc ms (va_A ws sz) := by
  intro sz
  refine va_MetF (cc := cc) (maxL := nL) (ret := ret) hy rfl ?_
  intro p e s m args below meth c s₁ B hml hv
  obtain ⟨rfl, hsz, hP, hK, hD0⟩ := hv
  subst hsz
  have hts := atoms_spec (ws := Cond.code y cc nL ret :: wb) B.pre
  rw [lg_entry_eq]
  exact body p e s m below meth c (va_A ws s.heap.size) ⟨B.exec, B.bytes, hml, findClass_of_methodNamed B.named, B.returns, B.notSynchronized, fun w hw => hts w (List.mem_cons_of_mem _ hw)⟩ hK hP hD0.self va_S.rf (fun q h => Or.inr h) rfl _ (lv_entry As hn)
