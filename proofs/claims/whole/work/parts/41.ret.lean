/-! Ends of methods, for contracts of the one shape. -/
section RT
variable {p : Program} {l : Launch} {e : Env} {R : Room} {s : State} {m : MethodId} {args : Array Value} {below : List Frame} {meth : Method} {c : Code} {H : Heap} {locs : List Loc} {mc ms : Nat}
variable {pc : Nat} {ls : Array Slot} {A : Nat → Prop} {D : va_G} {ws : va_W} {cc : ByteArray} {nL : Nat} {own : String}
theorem rt_i {S : Type} {post : Int32 → S → Prop} {W1 : S → va_W} (X : cx p s m args meth c cc nL (some .int) own) (hAe : A = va_A ws s.heap.size) (hS : va_S A s.heap H locs) (u : S) {v : Int32} (hp : post v u) (hP : va_P D classes (W1 u) H) (hdg : decode cc pc = .ok (.ireturn, 1)) : W p l e R s m args below meth c H locs mc ms (MQ below (va_Qi post (fun u t => va_P D classes (W1 u) t.heap) (va_A ws s.heap.size)) args s mc ms A) (F0 m pc ls [.int v]) := by
  obtain ⟨hx, hb, hml, hown, hr, hlocks, hts⟩ := X
  subst hAe
  exact W.iret hx hb hr (fun t ht _ => ⟨⟨v, u, rfl, hp, by show va_P D classes (W1 u) t.heap; rw [ht]; exact hP⟩, hS.F ht⟩) hS.2.2 hdg
theorem rt_z {S : Type} {post : Int32 → S → Prop} {W1 : S → va_W} (X : cx p s m args meth c cc nL (some .boolean) own) (hAe : A = va_A ws s.heap.size) (hS : va_S A s.heap H locs) (u : S) {v : Int32} (hn : narrow .boolean (.int v) = .int v) (hp : post v u) (hP : va_P D classes (W1 u) H) (hdg : decode cc pc = .ok (.ireturn, 1)) : W p l e R s m args below meth c H locs mc ms (MQ below (va_Qi post (fun u t => va_P D classes (W1 u) t.heap) (va_A ws s.heap.size)) args s mc ms A) (F0 m pc ls [.int v]) := by
  obtain ⟨hx, hb, hml, hown, hr, hlocks, hts⟩ := X
  subst hAe
  exact W.zret hx hb hr hn (fun t ht _ => ⟨⟨v, u, rfl, hp, by show va_P D classes (W1 u) t.heap; rw [ht]; exact hP⟩, hS.F ht⟩) hS.2.2 hdg
theorem rt_l {S : Type} {post : Int64 → S → Prop} {W1 : S → va_W} (X : cx p s m args meth c cc nL (some .long) own) (hAe : A = va_A ws s.heap.size) (hS : va_S A s.heap H locs) (u : S) {v : Int64} (hp : post v u) (hP : va_P D classes (W1 u) H) (hdg : decode cc pc = .ok (.lreturn, 1)) : W p l e R s m args below meth c H locs mc ms (MQ below (va_Ql post (fun u t => va_P D classes (W1 u) t.heap) (va_A ws s.heap.size)) args s mc ms A) (F0 m pc ls [.long v]) := by
  obtain ⟨hx, hb, hml, hown, hr, hlocks, hts⟩ := X
  subst hAe
  exact W.lret hx hb hr (fun t ht _ => ⟨⟨v, u, rfl, hp, by show va_P D classes (W1 u) t.heap; rw [ht]; exact hP⟩, hS.F ht⟩) hS.2.2 hdg
theorem rt_v {S : Type} {post : S → Prop} {W1 : S → va_W} (X : cx p s m args meth c cc nL none own) (hAe : A = va_A ws s.heap.size) (hS : va_S A s.heap H locs) (u : S) (hp : post u) (hP : va_P D classes (W1 u) H) (hdg : decode cc pc = .ok (.return_, 1)) : W p l e R s m args below meth c H locs mc ms (MQ below (va_Qv post (fun u t => va_P D classes (W1 u) t.heap) (va_A ws s.heap.size)) args s mc ms A) (F0 m pc ls []) := by
  obtain ⟨hx, hb, hml, hown, hr, hlocks, hts⟩ := X
  subst hAe
  exact W.vret hx hb hr (fun t ht _ => ⟨⟨u, rfl, hp, by show va_P D classes (W1 u) t.heap; rw [ht]; exact hP⟩, hS.F ht⟩) hS.2.2 hdg
end RT
