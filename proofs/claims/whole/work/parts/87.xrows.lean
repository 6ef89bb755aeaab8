/-! Rows for the class's own methods: references out of the row of registers, switches, ends. -/
section XRW
variable {p : Program} {l : Launch} {e : Env} {R : Room} {s : State} {m : MethodId} {args : Array Value} {below : List Frame} {meth : Method} {c : Code} {H : Heap} {locs : List Loc} {cells slots : Nat} {Q : State → Prop}
variable {cc : ByteArray} {pc : Nat} {ls : Array Slot} {rest : List Value} {D : va_G} {A : Nat → Prop} {a : Nat} {ws : va_W} {H0 : Heap} {cI cJ cF : ClassId}
theorem w_aald (hexec : p.tables.exec = Jvm.exec) (hb : c.code = cc) (hK : kq D cI cJ cF s) (hP : va_P D classes ws H) (q0 : Nat) {rg : Nat → Nat} {f : Nat → Option Nat} (ha : ws[q0]? = some (a, .inl (cF, 8, .inr (.inr (.inr (.inr f)))))) (hf : ∀ j : Nat, j < 8 → f j = some (rg j)) {i : Int} (h0 : 0 ≤ i) (h1 : i ≤ 7) (hdg : decode cc pc = .ok (.aaload, 1)) (kk : W p l e R s m args below meth c H locs cells slots Q (F0 m (pc + 1) ls (.ref (rg i.toNat) :: rest))) : W p l e R s m args below meth c H locs cells slots Q (F0 m pc ls (.int (ji i) :: .ref a :: rest)) := by
  refine va_aldq hexec hb hK.1 hP q0 2 ha rfl (ji_vin h0 (by omega) (by decide)) hdg ?_
  rw [ji_clamp ⟨by omega, by omega⟩, hf i.toNat (by omega)]
  exact kk
theorem w_tsOut (hexec : p.tables.exec = Jvm.exec) (hb : c.code = cc) {dflt lo hi : Int} {offs : Array Int} {len : Nat} {x : Int} {tgt : Nat} (hx : jI x) (hdg : decode cc pc = .ok (.tableswitch dflt lo hi offs, len)) (h : x < lo ∨ hi < x) (ht : (pc : Int) + dflt = (tgt : Int)) (k : W p l e R s m args below meth c H locs cells slots Q (F0 m tgt ls rest)) : W p l e R s m args below meth c H locs cells slots Q (F0 m pc ls (.int (ji x) :: rest)) :=
  lv_tableOut hexec hb hdg (by rw [ji_int hx]; exact h) ht k
theorem w_tsIn (hexec : p.tables.exec = Jvm.exec) (hb : c.code = cc) {dflt lo hi : Int} {offs : Array Int} {len : Nat} {x v : Int} {off : Int} {tgt : Nat} (hx : jI x) (hxv : x = v) (hdg : decode cc pc = .ok (.tableswitch dflt lo hi offs, len)) (h1 : ¬ v < lo) (h2 : ¬ hi < v) (ho : offs[(v - lo).toNat]? = some off) (ht : (pc : Int) + off = (tgt : Int)) (k : W p l e R s m args below meth c H locs cells slots Q (F0 m tgt ls rest)) : W p l e R s m args below meth c H locs cells slots Q (F0 m pc ls (.int (ji x) :: rest)) := by
  subst hxv
  exact lv_tableIn hexec hb hdg (by rw [ji_int hx]; exact h1) (by rw [ji_int hx]; exact h2) (by rw [ji_int hx]; exact ho) ht k
end XRW
section RTR
variable {p : Program} {l : Launch} {e : Env} {R : Room} {s : State} {m : MethodId} {args : Array Value} {below : List Frame} {meth : Method} {c : Code} {H : Heap} {locs : List Loc} {mc ms : Nat}
variable {pc : Nat} {ls : Array Slot} {A : Nat → Prop} {D : va_G} {ws : va_W} {cc : ByteArray} {nL : Nat} {own C : String}
theorem rt_r {S : Type} {post : S → Prop} {rr : S → Nat} {W1 : S → va_W} (X : cx p s m args meth c cc nL (some (.object C)) own) (hAe : A = va_A ws s.heap.size) (hS : va_S A s.heap H locs) (u : S) {a : Nat} (ha : a = rr u) (hp : post u) (hP : va_P D classes (W1 u) H) (hdg : decode cc pc = .ok (.areturn, 1)) : W p l e R s m args below meth c H locs mc ms (MQ below (va_Qr post (fun u a t => a = rr u ∧ va_P D classes (W1 u) t.heap) (va_A ws s.heap.size)) args s mc ms A) (F0 m pc ls [.ref a]) := by
  obtain ⟨hx, hb, hml, hown, hr, hlocks, hts⟩ := X
  subst hAe
  exact W.aret hx hb hr (Or.inl ⟨C, rfl⟩) (Or.inr ⟨a, rfl⟩) (fun t ht _ => ⟨⟨u, a, rfl, hp, ha, by show va_P D classes (W1 u) t.heap; rw [ht]; exact hP⟩, hS.F ht⟩) hS.2.2 hdg
end RTR
