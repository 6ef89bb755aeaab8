/-! Methods that may throw: contracts of one shape, their calls, the throw itself; registers at a place that a number names. -/
def tq (U : State) : Prop := va_Nw (.declares (Bundle.initS "java/lang/RuntimeException")) U ∧ va_Nw (.declares (Bundle.initS "java/lang/Exception")) U ∧ va_Nw (.declares (Bundle.initS "java/lang/Throwable")) U ∧ va_Nw (.castable R_IO R_IO) U ∧ va_Nw (.castable R_IA R_IA) U ∧ (∃ a, vk_R R_X 44 "no such discriminant" a U) ∧ (∃ a, vk_R R_X 57 "the form can't be taken" a U) ∧ (∃ a, vk_R R_X 96 "no such coefficient" a U) ∧ (∃ a, vk_R R_X 127 "no such prime" a U) ∧ (∃ a, vk_R R_X 150 "no such register" a U)
theorem tq.warm {s U : State} (hW : s.WarmedH U.vm) (h : tq s) : tq U := by
  obtain ⟨h1, h2, h3, h4, h5, ⟨a1, h6⟩, ⟨a2, h7⟩, ⟨a3, h8⟩, ⟨a4, h9⟩, ⟨a5, h10⟩⟩ := h
  exact ⟨h1.warmD hW, h2.warmD hW, h3.warmD hW, h4.warmC hW, h5.warmC hW, ⟨a1, vk_R.warm hW h6⟩, ⟨a2, vk_R.warm hW h7⟩, ⟨a3, vk_R.warm hW h8⟩, ⟨a4, vk_R.warm hW h9⟩, ⟨a5, vk_R.warm hW h10⟩⟩
theorem tq.same {u U : State} (e : U.vm = u.vm) (h : tq u) : tq U := by
  obtain ⟨h1, h2, h3, h4, h5, ⟨a1, h6⟩, ⟨a2, h7⟩, ⟨a3, h8⟩, ⟨a4, h9⟩, ⟨a5, h10⟩⟩ := h
  exact ⟨h1.same rfl e.symm, h2.same rfl e.symm, h3.same rfl e.symm, h4.same rfl e.symm, h5.same rfl e.symm, ⟨a1, vk_R.same e h6⟩, ⟨a2, vk_R.same e h7⟩, ⟨a3, vk_R.same e h8⟩, ⟨a4, vk_R.same e h9⟩, ⟨a5, vk_R.same e h10⟩⟩
def zq (A : Nat → Prop) (U : State) (H : Heap) : Prop := vx_Zq Bundle.tN "UNASSIGNED_STACK" Bundle.steD A U H ∧ vx_Zq Bundle.tN "SUPPRESSED_SENTINEL" Bundle.listD A U H
theorem zq.kept {A : Nat → Prop} {U : State} {H H1 : Heap} (h : zq A U H) (hq : ∀ a : Nat, a < H.size → ¬ A a → H1[a]? = H[a]?) : zq A U H1 := ⟨h.1.kept hq, h.2.kept hq⟩
theorem zq.narrow {A B : Nat → Prop} {U : State} {H : Heap} (h : zq A U H) (hAB : ∀ q, B q → A q) : zq B U H := ⟨h.1.narrow hAB, h.2.narrow hAB⟩
theorem zq.moved {A : Nat → Prop} {u U : State} {H : Heap} (hvm : u.vm.Alike U.vm) (h : zq A u H) : zq A U H := ⟨vx_Zq.moved hvm h.1, vx_Zq.moved hvm h.2⟩
def xpre (D : va_G) (cI cJ cF : ClassId) (ws : va_W) (sz : Nat) (U : State) : Prop := cpre D cI cJ cF ws sz U ∧ tq U ∧ zq (va_A ws sz) U U.heap
theorem xpre.blind {D : va_G} {cI cJ cF : ClassId} {ws : va_W} {sz : Nat} {As : List Value} : FrameBlind (va_Pc As (xpre D cI cJ cF ws sz)) := by
  intro a U g mk q
  obtain ⟨q0, qc, qt, qz⟩ := q
  have hb := cpre.blind (D := D) (cI := cI) (cJ := cJ) (cF := cF) (ws := ws) (sz := sz) (As := As) a U g mk ⟨q0, qc⟩
  exact ⟨q0, hb.2, tq.same (u := U) (U := U.calling g mk a) rfl qt, zq.moved (u := U) (U := U.calling g mk a) (Vm.Alike.refl U.vm) qz⟩
theorem xpre.pre {D : va_G} {cI cJ cF : ClassId} {ws : va_W} {As : List Value} {s : State} {H : Heap} (hK : kq D cI cJ cF s) (hP : va_P D classes ws H) (hD : va_D (fun _ => True) ws) (ht : tq s) (hz : zq (va_A ws H.size) s H) : PreS s H (va_Pc As (xpre D cI cJ cF ws H.size)) As :=
  ⟨xpre.blind, fun U hU hW => ⟨rfl, ⟨by rw [hU], by rw [hU]; exact hP, hK.warm hW, hD⟩, ht.warm hW, by rw [hU]; exact zq.moved hW.alike hz⟩⟩
/-- a contract by its walk, for a method that may throw -/
theorem x_of {l : Launch} {y : MethodName} {cc : ByteArray} {nL mc ms : Nat} {ret : Option FieldType} {rm : Room} {As : List Value} {ws : va_W} {D : va_G} {cI cJ cF : ClassId} {Qc : Nat → Array Value → State → Outcome → State → Prop} {XC : Nat → String → State → State → Prop} (hy : plainName y.cls = true) (co : Cond.code y cc nL ret ∈ wb) (hn : (lg_sl As).length ≤ nL)
    (body : ∀ (p : Program) (e : Env) (s : State) (m : MethodId) (below : List Frame) (meth : Method) (c : Code) (A : Nat → Prop), cx p s m As.toArray meth c cc nL ret y.cls → kq D cI cJ cF s → va_P D classes ws s.heap → va_D A ws → va_S A s.heap s.heap [] → (∀ q, s.heap.size ≤ q → A q) → A = va_A ws s.heap.size → tq s → zq A s s.heap → (∀ x ∈ c.exceptionTable.toList, False) → ∀ ls : Array Slot, lv_has ls nL (lv_args 0 As) → W p l e rm s m As.toArray below meth c s.heap [] 0 0 (vx_MQ below (Qc s.heap.size) (XC s.heap.size) As.toArray s mc ms A) (F0 m 0 ls [])) :
    ∀ sz : Nat, vx_Met l y (Cond.code y cc nL ret :: wb) rm (va_Pc As (xpre D cI cJ cF ws sz)) (Qc sz) (XC sz) mc ms (va_A ws sz) := by
  intro sz
  refine vx_ofW (cc := cc) (maxL := nL) (ret := ret) hy rfl ?_
  intro p e s m args below meth c s₁ B hml hex hv
  obtain ⟨rfl, ⟨hsz, hP, hK, hD0⟩, ht, hz⟩ := hv
  subst hsz
  have hts := atoms_spec (ws := Cond.code y cc nL ret :: wb) B.pre
  rw [lg_entry_eq]
  exact body p e s m below meth c (va_A ws s.heap.size) ⟨B.exec, B.bytes, hml, findClass_of_methodNamed B.named, B.returns, B.notSynchronized, fun w hw => hts w (List.mem_cons_of_mem _ hw)⟩ hK hP hD0.self va_S.rf (fun q h => Or.inr h) rfl ht hz hex _ (lv_entry As hn)
section XL
variable {p : Program} {l : Launch} {e : Env} {R : Room} {s : State} {m : MethodId} {args : Array Value} {below : List Frame} {meth : Method} {c : Code} {H : Heap} {locs : List Loc} {cells slots mc ms : Nat} {Q : State → Prop}
variable {pc : Nat} {ls : Array Slot} {rest st0 : List Value} {a : Array Value} {A : Nat → Prop} {H0 : Heap} {D : va_G} {ws wc : va_W} {cI cJ cF : ClassId}
theorem vx_callr {S SX : Type} {post : S → Prop} {px : SX → Prop} {B : S → Nat → State → Prop} {BX : String → SX → State → Prop} {A0 A1 AX : Nat → Prop} {free : Addr → Prop} (hr : vx_Run p l e R s m args below meth c H locs cells slots mc ms (F0 m pc ls st0) rest (va_Qr post B A1 a) (vx_X px BX AX) free) (hS : va_S A0 H0 H locs) (hA : ∀ q, q < H.size → A1 q → A0 q) (hf : ∀ q, free q → A0 q) (hAX : ∀ q, q < H.size → AX q → A0 q)
    (kx : ∀ (E : String) (ce : Cell) (q9 : Addr) (u : SX) (t : State) (H1 : Heap) (locs1 : List Loc), t.heap = H1 → s.vm.Alike t.vm → px u → BX E u t → H.size ≤ H1.size → (∀ q : Nat, q < H.size → ¬ AX q → H1[q]? = H[q]?) → va_S A0 H0 H1 locs1 → H1[q9]? = some ce → ce.vm = .none → s.vm.findClass E = some ce.cls → vx_W p l e R s m args below meth c H1 locs1 (cells + mc) (slots + ms) Q (F0 m pc ls rest) q9)
    (kk : ∀ (u : S) (ra : Nat) (t : State) (H1 : Heap) (locs1 : List Loc), t.heap = H1 → s.vm.Alike t.vm → post u → B u ra t → H.size ≤ H1.size → (∀ q : Nat, q < H.size → ¬ A1 q → H1[q]? = H[q]?) → va_S A0 H0 H1 locs1 → W p l e R s m args below meth c H1 locs1 (cells + mc) (slots + ms) Q (F0 m (pc + 3) ls (.ref ra :: rest))) : W p l e R s m args below meth c H locs cells slots Q (F0 m pc ls st0) := by
  intro T hT X
  rcases hr T hT X with ⟨v, st₀, t, T', L, h0, X', hL, e1, e2, ⟨⟨u, ra, hv, hp, hb⟩, hF⟩, st⟩ | ⟨q, st₀, t, T', L, E, ce, h0, X', hL, e1, e2, ⟨u, hp, hb, hF⟩, hce, hcv, hcl, st⟩
  · cases hv
    obtain ⟨k1, k2, k3⟩ := vx_keep h0 e1 hS hA hf hL hF
    obtain ⟨t2, a1, b1⟩ := kk u ra t T'.heap (locs ++ L) e1.symm (by rw [← e2]; exact X'.warmed.alike) hp hb k1 k2 k3 T' rfl X'
    exact ⟨t2, st t2 a1, b1⟩
  · obtain ⟨k1, k2, k3⟩ := vx_keep h0 e1 hS hAX hf hL hF
    obtain ⟨t2, a1, b1⟩ := kx E ce q u t T'.heap (locs ++ L) e1.symm (by rw [← e2]; exact X'.warmed.alike) hp hb k1 k2 k3 (by rw [e1]; exact hce) hcv hcl T' rfl X'
    exact ⟨t2, st.trans a1, b1⟩
/-- calls that may throw, their cells in place -/
theorem xl_r {S SX : Type} {post : S → Prop} {W1 : S → va_W} {rr : S → Nat} {px : SX → Prop} {EX : String → SX → Prop} {WX : SX → va_W} (hr : vx_Run p l e R s m args below meth c H locs cells slots mc ms (F0 m pc ls st0) rest (va_Qr post (fun u a t => a = rr u ∧ va_P D classes (W1 u) t.heap) (va_A wc H.size) a) (vx_X px (fun E u t => EX E u ∧ va_P D classes (WX u) t.heap) (va_A wc H.size)) (va_A wc H.size)) (hP : va_P D classes ws H) (hD : va_D A ws) (hS : va_S A H0 H locs) (hA : ∀ q, H0.size ≤ q → A q) (is : List Nat) (hC : is.map (fun i => ws[i]?) = wc.map some) (hn : is.Nodup) (hf : ∀ u, (W1 u).map (fun q => q.1) = wc.map (fun q => q.1)) (hfX : ∀ u, (WX u).map (fun q => q.1) = wc.map (fun q => q.1))
    (kx : ∀ (E : String) (ce : Cell) (q9 : Addr) (u : SX) (H1 : Heap) (locs1 : List Loc), px u → EX E u → va_P D classes (wup ws is (WX u)) H1 → va_D A (wup ws is (WX u)) → va_S A H0 H1 locs1 → H1[q9]? = some ce → ce.vm = .none → s.vm.findClass E = some ce.cls → vx_W p l e R s m args below meth c H1 locs1 (cells + mc) (slots + ms) Q (F0 m pc ls rest) q9)
    (kk : ∀ (u : S) (H1 : Heap) (locs1 : List Loc), post u → va_P D classes (wup ws is (W1 u)) H1 → va_D A (wup ws is (W1 u)) → va_S A H0 H1 locs1 → W p l e R s m args below meth c H1 locs1 (cells + mc) (slots + ms) Q (F0 m (pc + 3) ls (.ref (rr u) :: rest))) : W p l e R s m args below meth c H locs cells slots Q (F0 m pc ls st0) := by
  have hF := va_free hD hS hA is hC
  refine vx_callr hr hS (fun q _ h => hF q h) hF (fun q _ h => hF q h) (fun E ce q9 u t H1 locs1 ht _ hp hB _ hk hS1 h1 h2 h3 => ?_) (fun u ra t H1 locs1 ht _ hp hB _ hk hS1 => ?_)
  · have hB' : va_P D classes (WX u) H1 := by rw [← ht]; exact hB.2
    obtain ⟨k1, k2⟩ := va_upd hP hD is hC hn (hfX u) hk hB'
    exact kx E ce q9 u H1 locs1 hp hB.1 k1 k2 hS1 h1 h2 h3
  · have hB' : va_P D classes (W1 u) H1 := by rw [← ht]; exact hB.2
    obtain ⟨k1, k2⟩ := va_upd hP hD is hC hn (hf u) hk hB'
    have := kk u H1 locs1 hp k1 k2 hS1
    rw [hB.1]
    exact this
theorem xl_v {S SX : Type} {post : S → Prop} {W1 : S → va_W} {px : SX → Prop} {EX : String → SX → Prop} {WX : SX → va_W} (hr : vx_Run p l e R s m args below meth c H locs cells slots mc ms (F0 m pc ls st0) rest (va_Qv post (fun u t => va_P D classes (W1 u) t.heap) (va_A wc H.size) a) (vx_X px (fun E u t => EX E u ∧ va_P D classes (WX u) t.heap) (va_A wc H.size)) (va_A wc H.size)) (hP : va_P D classes ws H) (hD : va_D A ws) (hS : va_S A H0 H locs) (hA : ∀ q, H0.size ≤ q → A q) (is : List Nat) (hC : is.map (fun i => ws[i]?) = wc.map some) (hn : is.Nodup) (hf : ∀ u, (W1 u).map (fun q => q.1) = wc.map (fun q => q.1)) (hfX : ∀ u, (WX u).map (fun q => q.1) = wc.map (fun q => q.1))
    (kx : ∀ (E : String) (ce : Cell) (q9 : Addr) (u : SX) (H1 : Heap) (locs1 : List Loc), px u → EX E u → va_P D classes (wup ws is (WX u)) H1 → va_D A (wup ws is (WX u)) → va_S A H0 H1 locs1 → H1[q9]? = some ce → ce.vm = .none → s.vm.findClass E = some ce.cls → vx_W p l e R s m args below meth c H1 locs1 (cells + mc) (slots + ms) Q (F0 m pc ls rest) q9)
    (kk : ∀ (u : S) (H1 : Heap) (locs1 : List Loc), post u → va_P D classes (wup ws is (W1 u)) H1 → va_D A (wup ws is (W1 u)) → va_S A H0 H1 locs1 → W p l e R s m args below meth c H1 locs1 (cells + mc) (slots + ms) Q (F0 m (pc + 3) ls rest)) : W p l e R s m args below meth c H locs cells slots Q (F0 m pc ls st0) := by
  have hF := va_free hD hS hA is hC
  refine vx_callv hr hS (fun q _ h => hF q h) hF (fun q _ h => hF q h) (fun E ce q9 u t H1 locs1 ht _ hp hB _ hk hS1 h1 h2 h3 => ?_) (fun u t H1 locs1 ht _ hp hB _ hk hS1 => ?_)
  · have hB' : va_P D classes (WX u) H1 := by rw [← ht]; exact hB.2
    obtain ⟨k1, k2⟩ := va_upd hP hD is hC hn (hfX u) hk hB'
    exact kx E ce q9 u H1 locs1 hp hB.1 k1 k2 hS1 h1 h2 h3
  · have hB' : va_P D classes (W1 u) H1 := by rw [← ht]; exact hB
    obtain ⟨k1, k2⟩ := va_upd hP hD is hC hn (hf u) hk hB'
    exact kk u H1 locs1 hp k1 k2 hS1
theorem xl_i {S SX : Type} {post : Int32 → S → Prop} {W1 : S → va_W} {px : SX → Prop} {EX : String → SX → Prop} {WX : SX → va_W} (hr : vx_Run p l e R s m args below meth c H locs cells slots mc ms (F0 m pc ls st0) rest (va_Qi post (fun u t => va_P D classes (W1 u) t.heap) (va_A wc H.size) a) (vx_X px (fun E u t => EX E u ∧ va_P D classes (WX u) t.heap) (va_A wc H.size)) (va_A wc H.size)) (hP : va_P D classes ws H) (hD : va_D A ws) (hS : va_S A H0 H locs) (hA : ∀ q, H0.size ≤ q → A q) (is : List Nat) (hC : is.map (fun i => ws[i]?) = wc.map some) (hn : is.Nodup) (hf : ∀ u, (W1 u).map (fun q => q.1) = wc.map (fun q => q.1)) (hfX : ∀ u, (WX u).map (fun q => q.1) = wc.map (fun q => q.1))
    (kx : ∀ (E : String) (ce : Cell) (q9 : Addr) (u : SX) (H1 : Heap) (locs1 : List Loc), px u → EX E u → va_P D classes (wup ws is (WX u)) H1 → va_D A (wup ws is (WX u)) → va_S A H0 H1 locs1 → H1[q9]? = some ce → ce.vm = .none → s.vm.findClass E = some ce.cls → vx_W p l e R s m args below meth c H1 locs1 (cells + mc) (slots + ms) Q (F0 m pc ls rest) q9)
    (kk : ∀ (r : Int32) (u : S) (H1 : Heap) (locs1 : List Loc), post r u → va_P D classes (wup ws is (W1 u)) H1 → va_D A (wup ws is (W1 u)) → va_S A H0 H1 locs1 → W p l e R s m args below meth c H1 locs1 (cells + mc) (slots + ms) Q (F0 m (pc + 3) ls (.int r :: rest))) : W p l e R s m args below meth c H locs cells slots Q (F0 m pc ls st0) := by
  have hF := va_free hD hS hA is hC
  refine vx_calli hr hS (fun q _ h => hF q h) hF (fun q _ h => hF q h) (fun E ce q9 u t H1 locs1 ht _ hp hB _ hk hS1 h1 h2 h3 => ?_) (fun r u t H1 locs1 ht _ hp hB _ hk hS1 => ?_)
  · have hB' : va_P D classes (WX u) H1 := by rw [← ht]; exact hB.2
    obtain ⟨k1, k2⟩ := va_upd hP hD is hC hn (hfX u) hk hB'
    exact kx E ce q9 u H1 locs1 hp hB.1 k1 k2 hS1 h1 h2 h3
  · have hB' : va_P D classes (W1 u) H1 := by rw [← ht]; exact hB
    obtain ⟨k1, k2⟩ := va_upd hP hD is hC hn (hf u) hk hB'
    exact kk r u H1 locs1 hp k1 k2 hS1
variable {y : MethodName} {bytes cc : ByteArray} {maxL nL n index fr lo : Nat} {ret : Option FieldType} {Qc : Array Value → State → Outcome → State → Prop} {XC : String → State → State → Prop} {own C host : String} {As : List Value} {b : Addr}
theorem rx_V {rt : Option FieldType} (X : cx p s m args meth c cc nL rt own) (hK : kq D cI cJ cF s) (ht : tq s) (hz : zq A s H0) (hS : va_S A H0 H locs) (hA : ∀ q, H0.size ≤ q → A q) (hM : vx_Met l y (Cond.code y bytes maxL ret :: wb) { frames := fr, cells := mc, slots := ms, locals := lo } (va_Pc (.ref b :: As) (xpre D cI cJ cF wc H.size)) Qc XC mc ms (va_A wc H.size)) (co : Cond.code y bytes maxL ret ∈ wb) (ini : Cond.initialized y.cls ∈ wb) (ml : Cond.methodLink own index y ∈ wb) (im : Cond.instanceMethod y ∈ wb) (se : Cond.selects y.cls y y ∈ wb) (nA : Nat) (hnA : As.length = nA) (hd : y.cls ≠ "java/lang/invoke/MethodHandle" ∧ y.cls ≠ "java/lang/invoke/VarHandle" ∧ (parseMethodDescriptor y.desc).map (fun d => d.parameters.length) = some nA) (hR : fr + 1 ≤ R.frames ∧ 8 + (maxL + 11) + lo ≤ R.locals) (hP : va_P D classes ws H) (hD : va_D A ws) (is : List Nat) (hC : is.map (fun i => ws[i]?) = wc.map some) (hn : is.Nodup) {ci q0 : Nat} {fs : List Value} {vc : vw_C} (hv : wc[q0]? = some (b, .inr (ci, fs))) (hc : classes[ci]? = some vc) (hcn : vc.1 = y.cls) (hsize : ls.size = nL) (hstack : st0 = As.reverse ++ .ref b :: rest) (hW : (rest.map fun v => v.category).sum ≤ 8) (hdg : decode cc pc = .ok (.invokevirtual index, 3)) (hf : cells + mc ≤ R.cells ∧ slots + ms ≤ R.slots) :
    vx_Run p l e R s m args below meth c H locs cells slots mc ms (F0 m pc ls st0) rest (Qc (Value.ref b :: As).toArray) XC (va_A wc H.size) := by
  have hts := X.2.2.2.2.2.2
  have F := rn_fix X _ co
  have hPc := hP.cut is hC
  have hrec := va_recv hK.1 hPc hc hv
  rw [hcn] at hrec
  have hz' : zq (va_A wc H.size) s H := (hz.kept hS.2.1).narrow (va_free hD hS hA is hC)
  have hpre := xpre.pre (As := .ref b :: As) hK hPc (hD.cut is hn hC).any ht hz'
  exact vx_runV F hM ⟨callB_of (n := nA) F.2.2.2.2 (wb_G co) rfl rfl rfl (hts _ ini) (hts _ ml) hd hR, hts _ im, hts _ se⟩ ⟨hpre.1, hrec, hpre.2⟩ rfl hnA hsize hstack (lv_room (m := m) (pc := pc) (ls := ls) (rest := st0) hW) hdg hf
end XL
/-! the throw -/
abbrev xnames : List String := ["java/lang/RuntimeException", "java/lang/Exception"]
def xB (cls : String) : List Cond := [.declares (Bundle.initS "java/lang/RuntimeException"), .declares (Bundle.initS "java/lang/Exception"), .declares (Bundle.initS "java/lang/Throwable"), .castable cls cls]
theorem xg_IO : ∀ w ∈ (vx_atS R_X 98 R_IO xnames).filter goodWord, w ∈ lw_tbl := by decide +kernel
theorem xg_IA : ∀ w ∈ (vx_atS R_X 46 R_IA xnames).filter goodWord, w ∈ lw_tbl := by decide +kernel
theorem xb_IO : ∀ w ∈ (vx_atS R_X 98 R_IO xnames).filter (fun w => !goodWord w), w ∈ xB R_IO := by decide +kernel
theorem xb_IA : ∀ w ∈ (vx_atS R_X 46 R_IA xnames).filter (fun w => !goodWord w), w ∈ xB R_IA := by decide +kernel
theorem xo_IO : ∀ w ∈ Cond.classLink R_X 94 R_IO :: Cond.initialized R_IO :: vx_atS R_X 98 R_IO xnames, vx_ot w = true := by decide +kernel
theorem xo_IA : ∀ w ∈ Cond.classLink R_X 42 R_IA :: Cond.initialized R_IA :: vx_atS R_X 46 R_IA xnames, vx_ot w = true := by decide +kernel
theorem xf_IO : Bundle.fit R_IO = true := by decide +kernel
theorem xf_IA : Bundle.fit R_IA = true := by decide +kernel
theorem xf_n : ∀ n ∈ xnames, Bundle.fit n = true := by decide +kernel
theorem xa_IO {args : Array Value} {s : State} (hts : ∀ w ∈ wb, w.before args s = true) (ht : tq s) : ∀ w ∈ vx_atS R_X 98 R_IO xnames, w.before args s = true :=
  vx_hat (B := xB R_IO) (fun w hw => hts w (List.mem_filter.mpr ⟨xg_IO w hw, (List.mem_filter.mp hw).2⟩)) xb_IO (vx_c (ht.1.use rfl) (vx_c (ht.2.1.use rfl) (vx_c (ht.2.2.1.use rfl) (vx_c (ht.2.2.2.1.use rfl) vx_n))))
theorem xa_IA {args : Array Value} {s : State} (hts : ∀ w ∈ wb, w.before args s = true) (ht : tq s) : ∀ w ∈ vx_atS R_X 46 R_IA xnames, w.before args s = true :=
  vx_hat (B := xB R_IA) (fun w hw => hts w (List.mem_filter.mpr ⟨xg_IA w hw, (List.mem_filter.mp hw).2⟩)) xb_IA (vx_c (ht.1.use rfl) (vx_c (ht.2.1.use rfl) (vx_c (ht.2.2.1.use rfl) (vx_c (ht.2.2.2.2.1.use rfl) vx_n))))
section XT
variable {p : Program} {l : Launch} {e : Env} {R : Room} {s : State} {m : MethodId} {args : Array Value} {below : List Frame} {meth : Method} {c : Code} {H : Heap} {locs : List Loc} {cells slots mc ms : Nat} {cc : ByteArray} {nL pc : Nat} {rt : Option FieldType} {ls : Array Slot} {rest : List Value} {A : Nat → Prop} {D : va_G} {ws : va_W} {Qc : Array Value → State → Outcome → State → Prop} {text : String} {is sa : Nat}
/-- a throw that leaves the world as it is -/
theorem x_thrIO {SX : Type} {px : SX → Prop} {EX : String → SX → Prop} {WX : SX → va_W} (X : cx p s m args meth c cc nL rt R_X) (hl : l.stackTraces = false) (hstr : vk_R R_X is text sa s) (ht : tq s) (hz : zq A s s.heap) (hS : va_S A s.heap H locs) (hex : ∀ x ∈ c.exceptionTable.toList, False) (hsize : ls.size = nL)
    (d0 : decode cc pc = .ok (.new 94, 3)) (d3 : decode cc (pc + 3) = .ok (.dup, 1)) (d4 : decode cc (pc + 4) = .ok (.ldc is, 2)) (d6 : decode cc (pc + 6) = .ok (.invokespecial 98, 3)) (d9 : decode cc (pc + 9) = .ok (.athrow, 1))
    (hRframes : 5 < R.frames) (hRlocals : (rest.map fun v => v.category).sum + 82 ≤ R.locals) (hRcells : cells + 1 ≤ R.cells) (hRslots : slots + 6 ≤ R.slots) (u : SX) (hpx : px u) (hEX : EX R_IO u) (hP : va_P D classes (WX u) H) (hc : cells + 1 ≤ mc) (hs : slots + 6 ≤ ms) :
    W p l e R s m args below meth c H locs cells slots (vx_MQ below Qc (vx_X px (fun E u t => EX E u ∧ va_P D classes (WX u) t.heap) A) args s mc ms A) (F0 m pc ls rest) := by
  obtain ⟨hx, hb, hml, hown, hr, hlocks, hts⟩ := X
  refine vx_throwS (names := xnames) hx hb hl hown xf_IO xf_n (hts _ cl_X_94) (hts _ in_IO) hstr (xa_IO hts ht) xo_IO hz.1 hz.2 hS (hsize.trans hml.symm) d0 d3 d4 d6 d9 (fun x h => (hex x h).elim) hRframes hRlocals hRcells hRslots hlocks (fun t _ h1 h2 => ?_) hS.2.2 hc hs
  refine ⟨u, hpx, ⟨hEX, fun k q hk => (hP k q hk).kept (h2 q.1 (hP k q hk).lt)⟩, Nat.le_trans hS.1 h1, fun q q1 q2 => ?_⟩
  rw [h2 q (Nat.lt_of_lt_of_le q1 hS.1)]
  exact hS.2.1 q q1 q2
theorem x_thrIA {SX : Type} {px : SX → Prop} {EX : String → SX → Prop} {WX : SX → va_W} (X : cx p s m args meth c cc nL rt R_X) (hl : l.stackTraces = false) (hstr : vk_R R_X is text sa s) (ht : tq s) (hz : zq A s s.heap) (hS : va_S A s.heap H locs) (hex : ∀ x ∈ c.exceptionTable.toList, False) (hsize : ls.size = nL)
    (d0 : decode cc pc = .ok (.new 42, 3)) (d3 : decode cc (pc + 3) = .ok (.dup, 1)) (d4 : decode cc (pc + 4) = .ok (.ldc is, 2)) (d6 : decode cc (pc + 6) = .ok (.invokespecial 46, 3)) (d9 : decode cc (pc + 9) = .ok (.athrow, 1))
    (hRframes : 5 < R.frames) (hRlocals : (rest.map fun v => v.category).sum + 82 ≤ R.locals) (hRcells : cells + 1 ≤ R.cells) (hRslots : slots + 6 ≤ R.slots) (u : SX) (hpx : px u) (hEX : EX R_IA u) (hP : va_P D classes (WX u) H) (hc : cells + 1 ≤ mc) (hs : slots + 6 ≤ ms) :
    W p l e R s m args below meth c H locs cells slots (vx_MQ below Qc (vx_X px (fun E u t => EX E u ∧ va_P D classes (WX u) t.heap) A) args s mc ms A) (F0 m pc ls rest) := by
  obtain ⟨hx, hb, hml, hown, hr, hlocks, hts⟩ := X
  refine vx_throwS (names := xnames) hx hb hl hown xf_IA xf_n (hts _ cl_X_42) (hts _ in_IA) hstr (xa_IA hts ht) xo_IA hz.1 hz.2 hS (hsize.trans hml.symm) d0 d3 d4 d6 d9 (fun x h => (hex x h).elim) hRframes hRlocals hRcells hRslots hlocks (fun t _ h1 h2 => ?_) hS.2.2 hc hs
  refine ⟨u, hpx, ⟨hEX, fun k q hk => (hP k q hk).kept (h2 q.1 (hP k q hk).lt)⟩, Nat.le_trans hS.1 h1, fun q q1 q2 => ?_⟩
  rw [h2 q (Nat.lt_of_lt_of_le q1 hS.1)]
  exact hS.2.1 q q1 q2
/-- a callee's throw goes on to the caller -/
theorem x_out {SX : Type} {px : SX → Prop} {EX : String → SX → Prop} {WX : SX → va_W} (X : cx p s m args meth c cc nL rt R_X) (hS : va_S A s.heap H locs) (hex : ∀ x ∈ c.exceptionTable.toList, False) {E : String} {ce : Cell} {q : Addr} (h1 : H[q]? = some ce) (h2 : ce.vm = .none) (h3 : s.vm.findClass E = some ce.cls) (u : SX) (hpx : px u) (hEX : EX E u) (hP : va_P D classes (WX u) H) (hc : cells ≤ mc) (hs : slots ≤ ms) :
    vx_W p l e R s m args below meth c H locs cells slots (vx_MQ below Qc (vx_X px (fun E u t => EX E u ∧ va_P D classes (WX u) t.heap) A) args s mc ms A) (F0 m pc ls rest) q := by
  obtain ⟨hx, hb, hml, hown, hr, hlocks, hts⟩ := X
  exact vx_out (fun x h => (hex x h).elim) hlocks h1 h2 h3 (fun t ht _ => ⟨u, hpx, ⟨hEX, by rw [ht]; exact hP⟩, hS.F ht⟩) hS.2.2 hc hs
end XT
/-! the eight registers -/
def xR (rg : Nat → Nat) (F1 F2 F3 : Nat → Int) : va_W := (List.range 8).map (fun i => (rg i, .inr (1, [.long (jl (F1 i)), .long (jl (F2 i)), .long (jl (F3 i))])))
theorem xr_at {rg : Nat → Nat} {F1 F2 F3 : Nat → Int} (pre : va_W) {k : Nat} (hk : k < 8) : (pre ++ xR rg F1 F2 F3)[pre.length + k]? = some (rg k, .inr (1, [.long (jl (F1 k)), .long (jl (F2 k)), .long (jl (F3 k))])) := by
  rw [List.getElem?_append_right (by omega), Nat.add_sub_cancel_left]
  unfold xR
  rw [List.getElem?_map, List.getElem?_range hk]
  rfl
theorem xr_up {rg : Nat → Nat} {F1 F2 F3 : Nat → Int} (pre : va_W) {k : Nat} (hk : k < 8) (a b c : Int) : (pre ++ xR rg F1 F2 F3).set (pre.length + k) (rg k, .inr (1, [.long (jl a), .long (jl b), .long (jl c)])) = pre ++ xR rg (fU F1 k a) (fU F2 k b) (fU F3 k c) := by
  rw [List.set_append_right _ _ (by omega), Nat.add_sub_cancel_left]
  congr 1
  unfold xR
  apply List.ext_getElem?
  intro j
  rw [List.getElem?_set]
  by_cases e : k = j
  · subst e
    rw [if_pos rfl, if_pos (by simpa using hk), List.getElem?_map, List.getElem?_range hk]
    simp [fU]
  · rw [if_neg e, List.getElem?_map, List.getElem?_map]
    by_cases hj : j < 8
    · rw [List.getElem?_range hj]
      simp [fU, show ¬ j = k from fun z => e z.symm]
    · rw [List.getElem?_eq_none (by simpa using hj)]
      rfl
theorem fU_id (F : Nat → Int) (k : Nat) : fU F k (F k) = F := by
  funext j
  unfold fU
  split
  · rename_i h; rw [h]
  · rfl
theorem xr_id {rg : Nat → Nat} {F1 F2 F3 : Nat → Int} (pre : va_W) {k : Nat} (hk : k < 8) : (pre ++ xR rg F1 F2 F3).set (pre.length + k) (rg k, .inr (1, [.long (jl (F1 k)), .long (jl (F2 k)), .long (jl (F3 k))])) = pre ++ xR rg F1 F2 F3 := by
  rw [xr_up pre hk, fU_id, fU_id, fU_id]
