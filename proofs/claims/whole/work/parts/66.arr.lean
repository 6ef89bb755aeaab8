/-! Arrays of whole numbers. -/
def fU (F : Nat → Int) (k : Nat) (x : Int) : Nat → Int := fun j => if j = k then x else F j
theorem fU_self (F : Nat → Int) (k : Nat) (x : Int) : fU F k x k = x := by simp [fU]
theorem fU_ne (F : Nat → Int) {k j : Nat} (x : Int) (h : j ≠ k) : fU F k x j = F j := by simp [fU, h]
theorem upd_ji (F : Nat → Int) (k : Nat) (x : Int) : upd (fun j => ji (F j)) k (ji x) = fun j => ji (fU F k x j) := by
  funext j
  unfold upd fU
  split <;> rfl
theorem upd_jl (F : Nat → Int) (k : Nat) (x : Int) : vp_updL (fun j => jl (F j)) k (jl x) = fun j => jl (fU F k x j) := by
  funext j
  unfold vp_updL fU
  split <;> rfl
theorem ji_clamp {i : Int} (h : jI i) : (ji i).toNatClampNeg = i.toNat := by
  show (ji i).toInt.toNat = i.toNat
  rw [ji_int h]
theorem ji_vin {i : Int} {n : Nat} (h0 : 0 ≤ i) (h1 : i < n) (hn : n ≤ 2147483647) : vp_in (ji i) n := by
  have hi : jI i := ⟨by omega, by omega⟩
  rintro (z | z)
  · have : ji i < ji 0 := z
    rw [ji_lt hi ⟨by decide, by decide⟩] at this
    omega
  · rw [ji_clamp hi] at z
    omega
section WAR
variable {p : Program} {l : Launch} {e : Env} {R : Room} {s : State} {m : MethodId} {args : Array Value} {below : List Frame} {meth : Method} {c : Code} {H : Heap} {locs : List Loc} {cells slots : Nat} {Q : State → Prop}
variable {cc : ByteArray} {pc : Nat} {ls : Array Slot} {rest : List Value} {D : va_G} {A : Nat → Prop} {a : Nat} {ws : va_W} {H0 : Heap} {cI cJ cF : ClassId}
theorem w_iald (hexec : p.tables.exec = Jvm.exec) (hb : c.code = cc) (hK : kq D cI cJ cF s) (hP : va_P D classes ws H) (q0 : Nat) {n : Nat} {F : Nat → Int} (ha : ws[q0]? = some (a, .inl (cI, n, .inl (fun j => ji (F j))))) {i : Int} (h : 0 ≤ i ∧ i < n ∧ n ≤ 2147483647) (hdg : decode cc pc = .ok (.iaload, 1)) (kk : W p l e R s m args below meth c H locs cells slots Q (F0 m (pc + 1) ls (.int (ji (F i.toNat)) :: rest))) : W p l e R s m args below meth c H locs cells slots Q (F0 m pc ls (.int (ji i) :: .ref a :: rest)) :=
  va_iald hexec hb hK.1 hP q0 0 ha rfl (ji_vin h.1 h.2.1 h.2.2) hdg (by rw [ji_clamp ⟨by omega, by omega⟩]; exact kk)
theorem w_lald (hexec : p.tables.exec = Jvm.exec) (hb : c.code = cc) (hK : kq D cI cJ cF s) (hP : va_P D classes ws H) (q0 : Nat) {n : Nat} {F : Nat → Int} (ha : ws[q0]? = some (a, .inl (cJ, n, .inr (.inl (fun j => jl (F j)))))) {i : Int} (h : 0 ≤ i ∧ i < n ∧ n ≤ 2147483647) (hdg : decode cc pc = .ok (.laload, 1)) (kk : W p l e R s m args below meth c H locs cells slots Q (F0 m (pc + 1) ls (.long (jl (F i.toNat)) :: rest))) : W p l e R s m args below meth c H locs cells slots Q (F0 m pc ls (.int (ji i) :: .ref a :: rest)) :=
  va_lald hexec hb hK.1 hP q0 1 ha rfl (ji_vin h.1 h.2.1 h.2.2) hdg (by rw [ji_clamp ⟨by omega, by omega⟩]; exact kk)
theorem w_iast (hexec : p.tables.exec = Jvm.exec) (hb : c.code = cc) (hK : kq D cI cJ cF s) (hP : va_P D classes ws H) (hD : va_D A ws) (hS : va_S A H0 H locs) (q0 : Nat) {n : Nat} {F : Nat → Int} (ha : ws[q0]? = some (a, .inl (cI, n, .inl (fun j => ji (F j))))) {i x : Int} (h : 0 ≤ i ∧ i < n ∧ n ≤ 2147483647) (hdg : decode cc pc = .ok (.iastore, 1))
    (kk : ∀ (H1 : Heap) (locs1 : List Loc), va_P D classes (ws.set q0 (a, .inl (cI, n, .inl (fun j => ji (fU F i.toNat x j))))) H1 → va_D A (ws.set q0 (a, .inl (cI, n, .inl (fun j => ji (fU F i.toNat x j))))) → va_S A H0 H1 locs1 → W p l e R s m args below meth c H1 locs1 cells slots Q (F0 m (pc + 1) ls rest)) : W p l e R s m args below meth c H locs cells slots Q (F0 m pc ls (.int (ji x) :: .int (ji i) :: .ref a :: rest)) := by
  refine va_iast hexec hb hK.1 hP hD hS q0 0 ha rfl (ji_vin h.1 h.2.1 h.2.2) hdg (fun H1 locs1 h1 h2 h3 => ?_)
  rw [upd_ji, ji_clamp ⟨by omega, by omega⟩] at h1 h2
  exact kk H1 locs1 h1 h2 h3
theorem w_last (hexec : p.tables.exec = Jvm.exec) (hb : c.code = cc) (hK : kq D cI cJ cF s) (hP : va_P D classes ws H) (hD : va_D A ws) (hS : va_S A H0 H locs) (q0 : Nat) {n : Nat} {F : Nat → Int} (ha : ws[q0]? = some (a, .inl (cJ, n, .inr (.inl (fun j => jl (F j)))))) {i x : Int} (h : 0 ≤ i ∧ i < n ∧ n ≤ 2147483647) (hdg : decode cc pc = .ok (.lastore, 1))
    (kk : ∀ (H1 : Heap) (locs1 : List Loc), va_P D classes (ws.set q0 (a, .inl (cJ, n, .inr (.inl (fun j => jl (fU F i.toNat x j)))))) H1 → va_D A (ws.set q0 (a, .inl (cJ, n, .inr (.inl (fun j => jl (fU F i.toNat x j)))))) → va_S A H0 H1 locs1 → W p l e R s m args below meth c H1 locs1 cells slots Q (F0 m (pc + 1) ls rest)) : W p l e R s m args below meth c H locs cells slots Q (F0 m pc ls (.long (jl x) :: .int (ji i) :: .ref a :: rest)) := by
  refine va_last hexec hb hK.1 hP hD hS q0 1 ha rfl (ji_vin h.1 h.2.1 h.2.2) hdg (fun H1 locs1 h1 h2 h3 => ?_)
  rw [upd_jl, ji_clamp ⟨by omega, by omega⟩] at h1 h2
  exact kk H1 locs1 h1 h2 h3
end WAR
