/-! Math.abs and Math.max over whole numbers. -/
theorem co_absJ : Cond.code Lib.MathLoose.abs_long.x Lib.MathLoose.abs_long.code 2 (some .long) ∈ wb := wb_t 156 (by decide +kernel) (by decide +kernel)
theorem co_maxJ : Cond.code Lib.MathLoose.max_long.x Lib.MathLoose.max_long.code 4 (some .long) ∈ wb := wb_t 163 (by decide +kernel) (by decide +kernel)
theorem co_absI : Cond.code Lib.Math.abs.name Lib.Math.abs.code 1 (some .int) ∈ wb := wb_t 187 (by decide +kernel) (by decide +kernel)
theorem jl_ab {x : Int} (hx : jL x) : (if 0 < jl x then jl x else -jl x) = jl (fm_ab x) := by
  have h0 : jl 0 = 0 := rfl
  rcases fm_ab_cases x with ⟨h, e⟩ | ⟨h, e⟩
  · rw [e]
    by_cases h1 : 0 < x
    · rw [if_pos (by rw [← h0]; exact (jl_lt ⟨by decide, by decide⟩ hx).mpr h1)]
    · have : x = 0 := by omega
      rw [this]
      decide
  · rw [e, if_neg (fun q => by rw [← h0] at q; have := (jl_lt ⟨by decide, by decide⟩ hx).mp q; omega), jl_neg]
theorem ji_ab {x : Int} (hx : jI x) : (if 0 ≤ ji x then ji x else 0 - ji x) = ji (fm_ab x) := by
  have h0 : ji 0 = 0 := rfl
  rcases fm_ab_cases x with ⟨h, e⟩ | ⟨h, e⟩
  · rw [e, if_pos (by rw [← h0]; exact (ji_le ⟨by decide, by decide⟩ hx).mpr h)]
  · rw [e, if_neg (fun q => by rw [← h0] at q; have := (ji_le ⟨by decide, by decide⟩ hx).mp q; omega), ← h0, ji_sub]
    congr 1
    omega
theorem jl_max {x y : Int} (hx : jL x) (hy : jL y) : (if jl y < jl x then jl x else jl y) = jl (if y < x then x else y) := by
  by_cases h : y < x
  · rw [if_pos h, if_pos ((jl_lt hy hx).mpr h)]
  · rw [if_neg h, if_neg (fun q => h ((jl_lt hy hx).mp q))]
section WMA
variable {p : Program} {l : Launch} {e : Env} {R : Room} {s : State} {m : MethodId} {args : Array Value} {below : List Frame} {meth : Method} {c : Code} {H : Heap} {locs : List Loc} {cells slots : Nat} {Q : State → Prop}
variable {cc : ByteArray} {pc : Nat} {ls : Array Slot} {rest : List Value} {nL : Nat} {rt : Option FieldType} {own : String} {index : Nat}
theorem w_absJ (X : cx p s m args meth c cc nL rt own) (hsz : ls.size = nL) {x : Int} (hx : jL x) (ml : Cond.methodLink own index Lib.MathLoose.abs_long.x ∈ wb) (hR : 1 ≤ R.frames ∧ (rest.map fun v => v.category).sum + 13 ≤ R.locals) (hf : cells ≤ R.cells ∧ slots ≤ R.slots) (hdg : decode cc pc = .ok (.invokestatic index, 3)) (k : W p l e R s m args below meth c H locs cells slots Q (F0 m (pc + 3) ls (.long (jl (fm_ab x)) :: rest))) : W p l e R s m args below meth c H locs cells slots Q (F0 m pc ls (.long (jl x) :: rest)) := by
  obtain ⟨hxx, hb, hml, hown, -, -, hts⟩ := X
  exact va_mabs_long hxx hb (hml.trans hsz.symm) hown (hts _ ml) (hts _ st_J_absJ) (hts _ in_J) (hts _ co_absJ) hR.1 hR.2 hf.1 hf.2 hdg (by rw [jl_ab hx]; exact k)
theorem w_absI (X : cx p s m args meth c cc nL rt own) (hsz : ls.size = nL) {x : Int} (hx : jI x) (ml : Cond.methodLink own index Lib.Math.abs.name ∈ wb) (hR : 1 ≤ R.frames ∧ (rest.map fun v => v.category).sum + 13 ≤ R.locals) (hf : cells ≤ R.cells ∧ slots ≤ R.slots) (hdg : decode cc pc = .ok (.invokestatic index, 3)) (k : W p l e R s m args below meth c H locs cells slots Q (F0 m (pc + 3) ls (.int (ji (fm_ab x)) :: rest))) : W p l e R s m args below meth c H locs cells slots Q (F0 m pc ls (.int (ji x) :: rest)) := by
  obtain ⟨hxx, hb, hml, hown, -, -, hts⟩ := X
  exact va_mabs hxx hb (hml.trans hsz.symm) hown (hts _ ml) (hts _ st_J_absI) (hts _ in_J) (hts _ co_absI) hR.1 hR.2 hf.1 hf.2 hdg (by rw [ji_ab hx]; exact k)
theorem w_maxJ (X : cx p s m args meth c cc nL rt own) (hsz : ls.size = nL) {x y : Int} (hx : jL x) (hy : jL y) (ml : Cond.methodLink own index Lib.MathLoose.max_long.x ∈ wb) (hR : 1 ≤ R.frames ∧ (rest.map fun v => v.category).sum + 15 ≤ R.locals) (hf : cells ≤ R.cells ∧ slots ≤ R.slots) (hdg : decode cc pc = .ok (.invokestatic index, 3)) (k : W p l e R s m args below meth c H locs cells slots Q (F0 m (pc + 3) ls (.long (jl (if y < x then x else y)) :: rest))) : W p l e R s m args below meth c H locs cells slots Q (F0 m pc ls (.long (jl y) :: .long (jl x) :: rest)) := by
  obtain ⟨hxx, hb, hml, hown, -, -, hts⟩ := X
  exact va_mmax_long hxx hb (hml.trans hsz.symm) hown (hts _ ml) (hts _ st_J_maxJ) (hts _ in_J) (hts _ co_maxJ) hR.1 hR.2 hf.1 hf.2 hdg (by rw [jl_max hx hy]; exact k)
end WMA
section WLD
variable {p : Program} {l : Launch} {e : Env} {R : Room} {s : State} {m : MethodId} {args : Array Value} {below : List Frame} {meth : Method} {c : Code} {H : Heap} {locs : List Loc} {cells slots : Nat} {Q : State → Prop}
variable {cc : ByteArray} {pc : Nat} {ls : Array Slot} {rest : List Value} {own : String} {index : Nat}
theorem w_ldc (hexec : p.tables.exec = Jvm.exec) (hb : c.code = cc) {v : Int32} {n : Int} (h : v = ji n) (hown : s.vm.findClass own = some m.cls) (hconst : (Cond.constant own index v).before args s = true) (hdg : decode cc pc = .ok (.ldc index, 2)) (k : W p l e R s m args below meth c H locs cells slots Q (F0 m (pc + 2) ls (.int (ji n) :: rest))) : W p l e R s m args below meth c H locs cells slots Q (F0 m pc ls rest) := by
  subst h
  exact lv_ldc hexec hb hown hconst hdg k
theorem w_ldc2 (hexec : p.tables.exec = Jvm.exec) (hb : c.code = cc) {v : Int64} {n : Int} (h : v = jl n) (hown : s.vm.findClass own = some m.cls) (hconst : (Cond.constantLong own index v).before args s = true) (hdg : decode cc pc = .ok (.ldc2_w index, 3)) (k : W p l e R s m args below meth c H locs cells slots Q (F0 m (pc + 3) ls (.long (jl n) :: rest))) : W p l e R s m args below meth c H locs cells slots Q (F0 m pc ls rest) := by
  subst h
  exact lv_ldc2 hexec hb hown hconst hdg k
end WLD
