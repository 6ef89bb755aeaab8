/-! Constructors: what a callee makes anew comes behind the caller's cells. -/
def ipre (D : va_G) (cI cJ cF : ClassId) (ws : va_W) (sz : Nat) (U : State) : Prop := cpre D cI cJ cF ws sz U ∧ va_AO R_F U
theorem ipre.blind {D : va_G} {cI cJ cF : ClassId} {ws : va_W} {sz : Nat} {As : List Value} : FrameBlind (va_Pc As (ipre D cI cJ cF ws sz)) := by
  intro a U g mk q
  obtain ⟨q0, q1, q2⟩ := q
  have h := cpre.blind (D := D) (cI := cI) (cJ := cJ) (cF := cF) (ws := ws) (sz := sz) (As := As) a U g mk ⟨q0, q1⟩
  exact ⟨h.1, h.2, va_AO.moved (u := U) (U := U.calling g mk a) (Vm.Alike.refl U.vm) q2⟩
theorem ipre.pre {D : va_G} {cI cJ cF : ClassId} {ws : va_W} {As : List Value} {s : State} {H : Heap} (hK : kq D cI cJ cF s) (hP : va_P D classes ws H) (hD : va_D (fun _ => True) ws) (ho : va_AO R_F s) : PreS s H (va_Pc As (ipre D cI cJ cF ws H.size)) As :=
  ⟨ipre.blind, fun U hU hW => ⟨rfl, ⟨by rw [hU], by rw [hU]; exact hP, hK.warm hW, hD⟩, va_AO.moved hW.alike ho⟩⟩
theorem c_ofI {l : Launch} {y : MethodName} {cc : ByteArray} {nL mc ms : Nat} {ret : Option FieldType} {rm : Room} {As : List Value} {ws : va_W} {D : va_G} {cI cJ cF : ClassId} {Qc : Nat → Array Value → State → Outcome → State → Prop} (hy : plainFor y = true) (hyn : y.name = "<init>") (co : Cond.code y cc nL ret ∈ wb) (hn : (lg_sl As).length ≤ nL)
    (body : ∀ (p : Program) (e : Env) (s : State) (m : MethodId) (below : List Frame) (meth : Method) (c : Code) (A : Nat → Prop), cx p s m As.toArray meth c cc nL ret y.cls → kq D cI cJ cF s → va_P D classes ws s.heap → va_D A ws → va_S A s.heap s.heap [] → (∀ q, s.heap.size ≤ q → A q) → A = va_A ws s.heap.size → meth.name = "<init>" → va_AO R_F s → ∀ ls : Array Slot, lv_has ls nL (lv_args 0 As) → W p l e rm s m As.toArray below meth c s.heap [] 0 0 (MQ below (Qc s.heap.size) As.toArray s mc ms A) (F0 m 0 ls [])) :
    ∀ sz : Nat, Met l y (Cond.code y cc nL ret :: wb) rm (va_Pc As (ipre D cI cJ cF ws sz)) (Qc sz) mc ms (va_A ws sz) := by
  intro sz
  refine va_MetF (cc := cc) (maxL := nL) (ret := ret) hy rfl ?_
  intro p e s m args below meth c s₁ B hml hv
  obtain ⟨rfl, ⟨hsz, hP, hK, hD0⟩, ho⟩ := hv
  subst hsz
  have hts := atoms_spec (ws := Cond.code y cc nL ret :: wb) B.pre
  rw [lg_entry_eq]
  exact body p e s m below meth c (va_A ws s.heap.size) ⟨B.exec, B.bytes, hml, findClass_of_methodNamed B.named, B.returns, B.notSynchronized, fun w hw => hts w (List.mem_cons_of_mem _ hw)⟩ hK hP hD0.self va_S.rf (fun q h => Or.inr h) rfl (by rw [(name_of_methodNamed B.named B.method).1]; exact hyn) ho _ (lv_entry As hn)
theorem va_Dn {ws w1 wn : va_W} {sz : Nat} (h : va_D (va_A ws sz) (w1 ++ wn)) (hf : w1.map (fun q => q.1) = ws.map (fun q => q.1)) : va_D (fun q => sz ≤ q) wn := by
  have sh : ∀ (k : Nat) (q : Nat × va_E), wn[k]? = some q → (w1 ++ wn)[w1.length + k]? = some q := by
    intro k q hk
    rw [List.getElem?_append_right (by omega), Nat.add_sub_cancel_left]
    exact hk
  refine ⟨fun i j x y hx hy e => ?_, fun k q hk => ?_⟩
  · have := h.1 _ _ x y (sh i x hx) (sh j y hy) e
    omega
  · rcases h.2 _ q (sh k q hk) with ⟨i, ev, hi⟩ | z
    · have h5 : (w1.map (fun q => q.1))[i]? = (ws.map (fun q => q.1))[i]? := by rw [hf]
      rw [List.getElem?_map, List.getElem?_map, hi] at h5
      cases hw : w1[i]? with
      | none => rw [hw] at h5; cases h5
      | some r =>
        rw [hw] at h5
        have hlt := (List.getElem?_eq_some_iff.mp hw).1
        have h6 : (w1 ++ wn)[i]? = some r := by rw [List.getElem?_append_left hlt]; exact hw
        have := h.1 _ _ r q h6 (sh k q hk) (Option.some.inj h5)
        omega
    · exact z
theorem va_app {A0 : Nat → Prop} {D : va_G} {ws wc w1 wn : va_W} {H0 H H1 : Heap} (hP : va_P D classes ws H) (hD : va_D A0 ws) (h0 : H0.size ≤ H.size) (hA : ∀ q, H0.size ≤ q → A0 q) (is : List Nat) (hC : is.map (fun i => ws[i]?) = wc.map some) (hn : is.Nodup) (hf : w1.map (fun q => q.1) = wc.map (fun q => q.1)) (hk : ∀ q : Nat, q < H.size → ¬ va_A wc H.size q → H1[q]? = H[q]?) (hP1 : va_P D classes (w1 ++ wn) H1) (hDn : va_D (fun q => H.size ≤ q) wn) : va_P D classes (wup ws is w1 ++ wn) H1 ∧ va_D A0 (wup ws is w1 ++ wn) := by
  have hPl : va_P D classes w1 H1 := fun k q h => hP1 k q (by rw [List.getElem?_append_left (List.getElem?_eq_some_iff.mp h).1]; exact h)
  have hPr : va_P D classes wn H1 := fun k q h => hP1 (w1.length + k) q (by rw [List.getElem?_append_right (by omega), Nat.add_sub_cancel_left]; exact h)
  obtain ⟨u1, u2⟩ := va_upd hP hD is hC hn hf hk hPl
  have hlen : is.length = wc.length := by
    have := congrArg List.length hC
    simpa using this
  have hlen1 : w1.length = wc.length := by
    have := congrArg List.length hf
    simpa using this
  have at' : ∀ (j k : Nat), is[j]? = some k → ∃ q, wc[j]? = some q ∧ ws[k]? = some q := by
    intro j k hj
    have h1 : (is.map (fun i => ws[i]?))[j]? = some (ws[k]?) := by rw [List.getElem?_map, hj]; rfl
    rw [hC, List.getElem?_map] at h1
    cases hq : wc[j]? with
    | none => rw [hq] at h1; cases h1
    | some q => rw [hq] at h1; exact ⟨q, rfl, (Option.some.inj h1).symm⟩
  have hlt : ∀ i ∈ is, i < ws.length := by
    intro i hi
    obtain ⟨j, hj⟩ := List.getElem?_of_mem hi
    obtain ⟨q, -, h2⟩ := at' j i hj
    exact (List.getElem?_eq_some_iff.mp h2).1
  have lt : ∀ (k : Nat) (q : Nat × va_E), (wup ws is w1)[k]? = some q → q.1 < H.size := by
    intro k q h
    rcases wup_get is ws w1 hn (by omega) hlt k q h with ⟨-, h2⟩ | ⟨j, h1, h2⟩
    · exact (hP k q h2).lt
    · obtain ⟨r, h3, h4⟩ := at' j k h1
      have h5 : (w1.map (fun q => q.1))[j]? = (wc.map (fun q => q.1))[j]? := by rw [hf]
      rw [List.getElem?_map, List.getElem?_map, h2, h3] at h5
      have h6 : q.1 = r.1 := Option.some.inj h5
      rw [h6]
      exact (hP k r h4).lt
  have sp : ∀ (k : Nat) (q : Nat × va_E), (wup ws is w1 ++ wn)[k]? = some q → ((wup ws is w1)[k]? = some q ∧ q.1 < H.size) ∨ (∃ j : Nat, k = (wup ws is w1).length + j ∧ wn[j]? = some q ∧ H.size ≤ q.1) := by
    intro k q h
    rcases Nat.lt_or_ge k (wup ws is w1).length with z | z
    · rw [List.getElem?_append_left z] at h
      exact Or.inl ⟨h, lt k q h⟩
    · rw [List.getElem?_append_right z] at h
      exact Or.inr ⟨k - (wup ws is w1).length, by omega, h, hDn.2 _ q h⟩
  refine ⟨fun k q h => ?_, fun i j x y hx hy e => ?_, fun k q h => ?_⟩
  · rcases sp k q h with ⟨h1, -⟩ | ⟨j, -, h1, -⟩
    · exact u1 k q h1
    · exact hPr j q h1
  · rcases sp i x hx with ⟨x1, x2⟩ | ⟨a, x1, x2, x3⟩ <;> rcases sp j y hy with ⟨y1, y2⟩ | ⟨b, y1, y2, y3⟩
    · exact u2.1 i j x y x1 y1 e
    · rw [e] at x2; omega
    · rw [e] at x3; omega
    · have := hDn.1 a b x y x2 y2 e
      omega
  · rcases sp k q h with ⟨h1, -⟩ | ⟨j, -, h1, h2⟩
    · exact u2.2 k q h1
    · exact hA _ (by omega)
section NK
variable {p : Program} {l : Launch} {e : Env} {R : Room} {s : State} {m : MethodId} {args : Array Value} {below : List Frame} {meth : Method} {c : Code} {H : Heap} {locs : List Loc} {cells slots : Nat} {Q : State → Prop}
variable {pc : Nat} {ls : Array Slot} {rest st0 : List Value} {a : Array Value} {A : Nat → Prop} {H0 : Heap} {D : va_G} {ws wc : va_W} {cI cJ cF : ClassId}
variable {y : MethodName} {bytes cc : ByteArray} {maxL nL n index fr lo mc ms : Nat} {Qc : Array Value → State → Outcome → State → Prop} {own host : String} {As : List Value} {b : Addr}
theorem cl_N {B : Heap → Prop} (hr : va_Run p l e R s m args below meth c H locs cells slots mc ms (F0 m pc ls st0) rest (va_Qv (fun _ : Unit => True) (fun _ t => B t.heap) (va_A wc H.size) a) (va_A wc H.size)) (hD : va_D A ws) (hS : va_S A H0 H locs) (hA : ∀ q, H0.size ≤ q → A q) (is : List Nat) (hC : is.map (fun i => ws[i]?) = wc.map some)
    (kk : ∀ (H1 : Heap) (locs1 : List Loc), B H1 → H0.size ≤ H.size → (∀ q : Nat, q < H.size → ¬ va_A wc H.size q → H1[q]? = H[q]?) → va_S A H0 H1 locs1 → W p l e R s m args below meth c H1 locs1 (cells + mc) (slots + ms) Q (F0 m (pc + 3) ls rest)) : W p l e R s m args below meth c H locs cells slots Q (F0 m pc ls st0) := by
  have hF := va_free hD hS hA is hC
  refine va_callv hr hS (fun q _ h => hF q h) hF (fun u t H1 locs1 ht _ hp hB _ hk hS1 => ?_)
  exact kk H1 locs1 (by rw [← ht]; exact hB) hS.1 hk hS1
theorem rn_I {rt : Option FieldType} (X : cx p s m args meth c cc nL rt own) (hK : kq D cI cJ cF s) (ho : va_AO R_F s) (hM : Met l y (Cond.code y bytes maxL none :: wb) { frames := fr, cells := mc, slots := ms, locals := lo } (va_Pc (.ref b :: As) (ipre D cI cJ cF wc H.size)) Qc mc ms (va_A wc H.size)) (co : Cond.code y bytes maxL none ∈ wb) (ini : Cond.initialized y.cls ∈ wb) (ml : Cond.methodLink own index y ∈ wb) (im : Cond.instanceMethod y ∈ wb) (hyn : y.name = "<init>") (nA : Nat) (hnA : As.length = nA) (hd : y.cls ≠ "java/lang/invoke/MethodHandle" ∧ y.cls ≠ "java/lang/invoke/VarHandle" ∧ (parseMethodDescriptor y.desc).map (fun d => d.parameters.length) = some nA) (hR : fr + 1 ≤ R.frames ∧ 8 + (maxL + 11) + lo ≤ R.locals) (hP : va_P D classes ws H) (hD : va_D A ws) (is : List Nat) (hC : is.map (fun i => ws[i]?) = wc.map some) (hn : is.Nodup) (hsize : ls.size = nL) (hstack : st0 = As.reverse ++ .ref b :: rest) (hW : (rest.map fun v => v.category).sum ≤ 8) (hdg : decode cc pc = .ok (.invokespecial index, 3)) (hf : cells + mc ≤ R.cells ∧ slots + ms ≤ R.slots) :
    va_Run p l e R s m args below meth c H locs cells slots mc ms (F0 m pc ls st0) rest (Qc (Value.ref b :: As).toArray) (va_A wc H.size) := by
  have hts := X.2.2.2.2.2.2
  have F := rn_fix X _ co
  exact va_runI F hM ⟨callB_of (n := nA) F.2.2.2.2 (wb_G co) rfl rfl rfl (hts _ ini) (hts _ ml) hd hR, hyn, hts _ im⟩ (ipre.pre hK (hP.cut is hC) (hD.cut is hn hC).any ho) rfl hnA hsize hstack (lv_room (m := m) (pc := pc) (ls := ls) (rest := st0) hW) hdg hf
theorem rn_IN {rt : Option FieldType} (X : cx p s m args meth c cc nL rt own) (hK : kq D cI cJ cF s) (ho : va_AO R_F s) (hM : Met l y (Cond.code y bytes maxL none :: wb) { frames := fr, cells := mc, slots := ms, locals := lo } (va_Pc (.ref b :: As) (ipre D cI cJ cF wc H.size)) Qc mc ms (va_A wc H.size)) (co : Cond.code y bytes maxL none ∈ wb) (ini : Cond.initialized y.cls ∈ wb) (ml : Cond.methodLinkNest own index y host ∈ nb) (im : Cond.instanceMethod y ∈ wb) (hyn : y.name = "<init>") (nA : Nat) (hnA : As.length = nA) (hd : y.cls ≠ "java/lang/invoke/MethodHandle" ∧ y.cls ≠ "java/lang/invoke/VarHandle" ∧ (parseMethodDescriptor y.desc).map (fun d => d.parameters.length) = some nA) (hR : fr + 1 ≤ R.frames ∧ 8 + (maxL + 11) + lo ≤ R.locals) (hP : va_P D classes ws H) (hD : va_D A ws) (is : List Nat) (hC : is.map (fun i => ws[i]?) = wc.map some) (hn : is.Nodup) (hsize : ls.size = nL) (hstack : st0 = As.reverse ++ .ref b :: rest) (hW : (rest.map fun v => v.category).sum ≤ 8) (hdg : decode cc pc = .ok (.invokespecial index, 3)) (hf : cells + mc ≤ R.cells ∧ slots + ms ≤ R.slots) :
    va_Run p l e R s m args below meth c H locs cells slots mc ms (F0 m pc ls st0) rest (Qc (Value.ref b :: As).toArray) (va_A wc H.size) := by
  have hts := X.2.2.2.2.2.2
  have F := rn_fix X _ co
  exact va_runIN F hM ⟨va_cnB nA F.2.2.2.2 (wb_G co) rfl rfl rfl (hK.2 _ ml) (hts _ ini) hd hR, hyn, hts _ im⟩ (ipre.pre hK (hP.cut is hC) (hD.cut is hn hC).any ho) rfl hnA hsize hstack (lv_room (m := m) (pc := pc) (ls := ls) (rest := st0) hW) hdg hf
theorem w_obj {rt : Option FieldType} (X : cx p s m args meth c cc nL rt own) (ml : Cond.methodLink own index y_O_initV ∈ wb) (hsize : ls.size = nL) (hdg : decode cc pc = .ok (.invokespecial index, 3)) (hf : 1 ≤ R.frames) (hl : 12 ≤ R.locals) {b : Nat} (kk : W p l e R s m args below meth c H locs cells slots Q (F0 m (pc + 3) ls [])) : W p l e R s m args below meth c H locs cells slots Q (F0 m pc ls [.ref b]) := by
  obtain ⟨hx, hb, hml, hown, hr, hlocks, hts⟩ := X
  exact W.objInit hx hb hown (hts _ ml) (hts _ im_O_initV) (hts _ co_O_initV) rfl (by rw [hml]; exact hsize) rfl hdg hf hl kk
theorem kq_one {cA cB : ClassId} {ty : FieldType} {k : Nat} (h : va_K D classes (tys3 cI cJ cF ++ [(cA, ty)]) s) (hk : (tys3 cI cJ cF)[k]? = some (cB, ty)) : cA = cB := by
  have h1 := (h.2 3 (cA, ty) rfl).2
  have h2 := (h.2 k (cB, ty) (by rw [List.getElem?_append_left (List.getElem?_eq_some_iff.mp hk).1]; exact hk)).2
  cases ty
  case object C =>
    obtain ⟨_, _, _, _, _, a4⟩ := h1
    obtain ⟨_, _, _, _, _, b4⟩ := h2
    exact Option.some.inj (a4.symm.trans b4)
  all_goals exact Option.some.inj (Eq.trans (Eq.symm h1) h2)
theorem ji_zero : ji 0 = 0 := by decide
theorem jl_zero : jl 0 = 0 := by decide
theorem w_newI (hexec : p.tables.exec = Jvm.exec) (hb : c.code = cc) (harr : (Cond.arrayClass .int).before args s = true) (hK : kq D cI cJ cF s) (hP : va_P D classes ws H) (hD : va_D A ws) (hS : va_S A H0 H locs) (hA : ∀ q, H0.size ≤ q → A q) {x : Int} {N : Nat} (hn : ¬ ji x < 0) (hN : (ji x).toNatClampNeg = N) (hbytes : N * componentBytes .int ≤ 536870912) (hcells : cells + 1 ≤ R.cells) (hslots : slots + N ≤ R.slots) (hdg : decode cc pc = .ok (.newarray .int, 2))
    (kk : ∀ (q : Nat) (H1 : Heap), va_P D classes (ws ++ [(q, .inl (cI, N, .inl (fun j => ji ((fun _ => (0 : Int)) j))))]) H1 → va_D A (ws ++ [(q, .inl (cI, N, .inl (fun j => ji ((fun _ => (0 : Int)) j))))]) → va_S A H0 H1 locs → W p l e R s m args below meth c H1 locs (cells + 1) (slots + N) Q (F0 m (pc + 2) ls (.ref q :: rest))) : W p l e R s m args below meth c H locs cells slots Q (F0 m pc ls (.int (ji x) :: rest)) := by
  refine va_newa (atype := .int) (ty := .int) (a0 := (N, .inl (fun j => ji ((fun _ => (0 : Int)) j)))) hexec hb harr rfl hK.1 hP hD hS hA (fun cA => by show arrV cA N (fun _ => Value.int (ji 0)) = _; rw [ji_zero]; rfl) hn hN hbytes hcells hslots hdg (fun q cA H1 k1 k2 k3 k4 => ?_)
  obtain rfl := kq_one (k := 0) k1 rfl
  exact kk q H1 k2 k3 k4
theorem w_newJ (hexec : p.tables.exec = Jvm.exec) (hb : c.code = cc) (harr : (Cond.arrayClass .long).before args s = true) (hK : kq D cI cJ cF s) (hP : va_P D classes ws H) (hD : va_D A ws) (hS : va_S A H0 H locs) (hA : ∀ q, H0.size ≤ q → A q) {x : Int} {N : Nat} (hn : ¬ ji x < 0) (hN : (ji x).toNatClampNeg = N) (hbytes : N * componentBytes .long ≤ 536870912) (hcells : cells + 1 ≤ R.cells) (hslots : slots + N ≤ R.slots) (hdg : decode cc pc = .ok (.newarray .long, 2))
    (kk : ∀ (q : Nat) (H1 : Heap), va_P D classes (ws ++ [(q, .inl (cJ, N, .inr (.inl (fun j => jl ((fun _ => (0 : Int)) j)))))]) H1 → va_D A (ws ++ [(q, .inl (cJ, N, .inr (.inl (fun j => jl ((fun _ => (0 : Int)) j)))))]) → va_S A H0 H1 locs → W p l e R s m args below meth c H1 locs (cells + 1) (slots + N) Q (F0 m (pc + 2) ls (.ref q :: rest))) : W p l e R s m args below meth c H locs cells slots Q (F0 m pc ls (.int (ji x) :: rest)) := by
  refine va_newa (atype := .long) (ty := .long) (a0 := (N, .inr (.inl (fun j => jl ((fun _ => (0 : Int)) j))))) hexec hb harr rfl hK.1 hP hD hS hA (fun cA => by show arrV cA N (fun _ => Value.long (jl 0)) = _; rw [jl_zero]; rfl) hn hN hbytes hcells hslots hdg (fun q cA H1 k1 k2 k3 k4 => ?_)
  obtain rfl := kq_one (k := 1) k1 rfl
  exact kk q H1 k2 k3 k4
theorem w_newR (hexec : p.tables.exec = Jvm.exec) (hb : c.code = cc) (hown : s.vm.findClass own = some m.cls) (hcl : (Cond.classLink own index R_F).before args s = true) (ho : va_AO R_F s) (hK : kq D cI cJ cF s) (hP : va_P D classes ws H) (hD : va_D A ws) (hS : va_S A H0 H locs) (hA : ∀ q, H0.size ≤ q → A q) {x : Int} {N : Nat} (hn : ¬ ji x < 0) (hN : (ji x).toNatClampNeg = N) (hbytes : N * 4 ≤ 536870912) (hcells : cells + 1 ≤ R.cells) (hslots : slots + N ≤ R.slots) (hdg : decode cc pc = .ok (.anewarray index, 3))
    (kk : ∀ (q : Nat) (H1 : Heap), va_P D classes (ws ++ [(q, .inl (cF, N, .inr (.inr (.inr (.inr (fun _ => none))))))]) H1 → va_D A (ws ++ [(q, .inl (cF, N, .inr (.inr (.inr (.inr (fun _ => none))))))]) → va_S A H0 H1 locs → W p l e R s m args below meth c H1 locs (cells + 1) (slots + N) Q (F0 m (pc + 3) ls (.ref q :: rest))) : W p l e R s m args below meth c H locs cells slots Q (F0 m pc ls (.int (ji x) :: rest)) := by
  refine va_newq hexec hb hown hcl ho hK.1 hP hD hS hA hn hN hbytes hcells hslots hdg (fun q cA H1 k1 k2 k3 k4 => ?_)
  obtain rfl := kq_one (k := 2) k1 rfl
  exact kk q H1 k2 k3 k4
theorem rt_N {B : Heap → Prop} (X : cx p s m args meth c cc nL none own) (hAe : A = va_A ws s.heap.size) (hS : va_S A s.heap H locs) (hB : B H) (hdg : decode cc pc = .ok (.return_, 1)) : W p l e R s m args below meth c H locs mc ms (MQ below (va_Qv (fun _ : Unit => True) (fun _ t => B t.heap) (va_A ws s.heap.size)) args s mc ms A) (F0 m pc ls []) := by
  obtain ⟨hx, hb, hml, hown, hr, hlocks, hts⟩ := X
  subst hAe
  exact W.vret hx hb hr (fun t ht _ => ⟨⟨(), rfl, trivial, by show B t.heap; rw [ht]; exact hB⟩, hS.F ht⟩) hS.2.2 hdg
end NK
theorem dV4 : dV (-4) := by
  refine ⟨by decide, by decide, by decide, fun x h => ?_⟩
  have h2 : 0 ≤ x * x := by
    rcases Int.le_total 0 x with z | z
    · exact Int.mul_nonneg z z
    · exact Int.mul_nonneg_of_nonpos_of_nonpos z z
  omega
theorem va_kept0 {D : va_G} {ws : va_W} {H H1 : Heap} (hP : va_P D classes ws H) (hk : ∀ q : Nat, q < H.size → ¬ va_A [] H.size q → H1[q]? = H[q]?) : va_P D classes ws H1 := by
  intro k q h
  have hl := (hP k q h).lt
  refine (hP k q h).kept (hk q.1 hl ?_)
  rintro (⟨k2, e2, z⟩ | z)
  · simp at z
  · omega
