/-! What the law compares, as statements on the registers of class and reference. -/
def agr (F1 F2 F3 G1 G2 G3 : Nat → Int) : Prop := ∀ j : Nat, j < 8 → (F1 j, F2 j, F3 j) = (G1 j, G2 j, G3 j)
section LM
variable {D w s n : Int} {F1 F2 F3 G1 G2 G3 A1 A2 A3 B1 B2 B3 : Nat → Int}
theorem agr.rN (h : agr F1 F2 F3 G1 G2 G3) (hN : rN D w F1 F2 F3) : rN D w G1 G2 G3 := fun i hi => by rw [← h i hi]; exact hN i hi
theorem gD_u {w' : Int} (h : gD D w) (h' : gD D w') : w = w' := by
  have lt : ∀ {a b : Int}, 0 ≤ a → a < b → D < (a + 1) * (a + 1) → ¬ b * b < D := by
    intro a b h0 h1 h2 h3
    have := Int.mul_le_mul (show a + 1 ≤ b by omega) (show a + 1 ≤ b by omega) (by omega) (by omega)
    omega
  have sq : ∀ a : Int, 0 ≤ a * a := by
    intro a
    rcases Int.le_total 0 a with z | z
    · exact Int.mul_nonneg z z
    · exact Int.mul_nonneg_of_nonpos_of_nonpos z z
  rcases h.1 with ⟨a1, a2⟩ | ⟨a1, a2, a3⟩ <;> rcases h'.1 with ⟨b1, b2⟩ | ⟨b1, b2, b3⟩
  · omega
  · have := sq w'; omega
  · have := sq w; omega
  · rcases Int.lt_trichotomy w w' with z | z | z
    · exact absurd b2 (lt a1 z a3)
    · exact z
    · exact absurd a2 (lt b1 z b3)
theorem st_keep (ha : agr F1 F2 F3 G1 G2 G3) (hN : rN D w F1 F2 F3) (hF : rKeep F1 F2 F3 A1 A2 A3) (hG : rKeep G1 G2 G3 B1 B2 B3) : rN D w A1 A2 A3 ∧ agr A1 A2 A3 B1 B2 B3 := by
  obtain ⟨rfl, rfl, rfl⟩ := hF
  obtain ⟨rfl, rfl, rfl⟩ := hG
  exact ⟨hN, ha⟩
theorem st_put (ha : agr F1 F2 F3 G1 G2 G3) (hN : rN D w F1 F2 F3) {k : Nat} {z z' : fm_F} (hv : fm_v D z) (hn : fm_nm D w z z) (hz : z = z') (hF : rPut F1 F2 F3 A1 A2 A3 k z) (hG : rPut G1 G2 G3 B1 B2 B3 k z') : rN D w A1 A2 A3 ∧ agr A1 A2 A3 B1 B2 B3 := by
  obtain ⟨rfl, rfl, rfl⟩ := hF
  obtain ⟨rfl, rfl, rfl⟩ := hG
  subst hz
  refine ⟨hN.put k hv hn, fun j hj => ?_⟩
  by_cases e : j = k
  · subst e
    rw [fU_self, fU_self, fU_self, fU_self, fU_self, fU_self]
  · rw [fU_ne _ _ e, fU_ne _ _ e, fU_ne _ _ e, fU_ne _ _ e, fU_ne _ _ e, fU_ne _ _ e]
    exact ha j hj
theorem stp (hg : gD D w) (hs : fm_sn D s n) (ha : agr F1 F2 F3 G1 G2 G3) (hN : rN D w F1 F2 F3) {ok tk : Prop} {f : fm_F} {i : Nat} {k c : Int} (hv : tk → fm_v D f)
    (hL : (k = 1 ∧ ¬ ok ∧ rKeep F1 F2 F3 A1 A2 A3) ∨ (k = 2 ∧ ok ∧ ¬ tk ∧ rKeep F1 F2 F3 A1 A2 A3) ∨ (k = 0 ∧ ok ∧ tk ∧ ∃ z : fm_F, fm_nm D w z f ∧ rPut F1 F2 F3 A1 A2 A3 i z))
    (hM : (¬ ok ∧ c = 1 ∧ rKeep G1 G2 G3 B1 B2 B3) ∨ (ok ∧ ¬ tk ∧ c = 2 ∧ rKeep G1 G2 G3 B1 B2 B3) ∨ (ok ∧ tk ∧ c = 0 ∧ ∃ z : fm_F, fm_nm D w z f ∧ rPut G1 G2 G3 B1 B2 B3 i z)) :
    c = k ∧ (0 ≤ k ∧ k ≤ 2) ∧ rN D w A1 A2 A3 ∧ agr A1 A2 A3 B1 B2 B3 := by
  rcases hL with ⟨rfl, l1, l2⟩ | ⟨rfl, l1, l2, l3⟩ | ⟨rfl, l1, l2, z, l3, l4⟩ <;> rcases hM with ⟨m1, rfl, m2⟩ | ⟨m1, m2, rfl, m3⟩ | ⟨m1, m2, rfl, z', m3, m4⟩
  · exact ⟨rfl, by decide, st_keep ha hN l2 m2⟩
  · exact absurd m1 l1
  · exact absurd m1 l1
  · exact absurd l1 m1
  · exact ⟨rfl, by decide, st_keep ha hN l3 m3⟩
  · exact absurd m2 l2
  · exact absurd l1 m1
  · exact absurd l2 m2
  · have vf := hv l2
    exact ⟨rfl, by decide, st_put ha hN (v_mg hg.1 vf l3.1 l3.2.1 l3.2.2.1) l3.self (nm_uniq hg.1 hs l3 m3 vf.1 vf.1 (fm_eq.rf _)) l4 m4⟩
theorem stc (hg : gD D w) (hs : fm_sn D s n) (ha : agr F1 F2 F3 G1 G2 G3) (hN : rN D w F1 F2 F3) {ok : Prop} {f g f' g' : fm_F} {i : Nat} {k c : Int} (hf : ok → f = f' ∧ g = g')
    (hL : (k = 1 ∧ ¬ ok ∧ rKeep F1 F2 F3 A1 A2 A3) ∨ (k = 0 ∧ ok ∧ ∃ z F : fm_F, fm_v D F ∧ fm_cp s n f g F ∧ fm_nm D w z F ∧ rPut F1 F2 F3 A1 A2 A3 i z))
    (hM : (¬ ok ∧ c = 1 ∧ rKeep G1 G2 G3 B1 B2 B3) ∨ (ok ∧ c = 0 ∧ ∃ z F : fm_F, fm_v D F ∧ fm_cp s n f' g' F ∧ fm_nm D w z F ∧ rPut G1 G2 G3 B1 B2 B3 i z)) :
    c = k ∧ (0 ≤ k ∧ k ≤ 2) ∧ rN D w A1 A2 A3 ∧ agr A1 A2 A3 B1 B2 B3 := by
  rcases hL with ⟨rfl, l1, l2⟩ | ⟨rfl, l1, z, F, l2, l3, l4, l5⟩ <;> rcases hM with ⟨m1, rfl, m2⟩ | ⟨m1, rfl, z', F', m2, m3, m4, m5⟩
  · exact ⟨rfl, by decide, st_keep ha hN l2 m2⟩
  · exact absurd m1 l1
  · exact absurd l1 m1
  · obtain ⟨rfl, rfl⟩ := hf l1
    exact ⟨rfl, by decide, st_put ha hN (v_mg hg.1 l2 l4.1 l4.2.1 l4.2.2.1) l4.self (nm_uniq hg.1 hs l4 m4 l2.1 m2.1 (l3.fn m3)) l5 m5⟩
theorem sti (hg : gD D w) (hs : fm_sn D s n) (ha : agr F1 F2 F3 G1 G2 G3) (hN : rN D w F1 F2 F3) {ok : Prop} {f f' : fm_F} {i : Nat} {k c : Int} (hf : ok → f = f' ∧ fm_v D f)
    (hL : (k = 1 ∧ ¬ ok ∧ rKeep F1 F2 F3 A1 A2 A3) ∨ (k = 0 ∧ ok ∧ ∃ z : fm_F, fm_nm D w z (fm_inv f) ∧ rPut F1 F2 F3 A1 A2 A3 i z))
    (hM : (¬ ok ∧ c = 1 ∧ rKeep G1 G2 G3 B1 B2 B3) ∨ (ok ∧ c = 0 ∧ ∃ z : fm_F, fm_nm D w z (fm_inv f') ∧ rPut G1 G2 G3 B1 B2 B3 i z)) :
    c = k ∧ (0 ≤ k ∧ k ≤ 2) ∧ rN D w A1 A2 A3 ∧ agr A1 A2 A3 B1 B2 B3 := by
  rcases hL with ⟨rfl, l1, l2⟩ | ⟨rfl, l1, z, l3, l4⟩ <;> rcases hM with ⟨m1, rfl, m2⟩ | ⟨m1, rfl, z', m3, m4⟩
  · exact ⟨rfl, by decide, st_keep ha hN l2 m2⟩
  · exact absurd m1 l1
  · exact absurd l1 m1
  · obtain ⟨rfl, vf⟩ := hf l1
    have vi := fm_inv_v vf
    exact ⟨rfl, by decide, st_put ha hN (v_mg hg.1 vi l3.1 l3.2.1 l3.2.2.1) l3.self (nm_uniq hg.1 hs l3 m3 vi.1 vi.1 (fm_eq.rf _)) l4 m4⟩
theorem stw (hg : gD D w) (hs : fm_sn D s n) (ha : agr F1 F2 F3 G1 G2 G3) (hN : rN D w F1 F2 F3) {ok : Prop} {f f' : fm_F} {i : Nat} {k c e : Int} (hf : ok → f = f')
    (hL : (k = 1 ∧ ¬ ok ∧ rKeep F1 F2 F3 A1 A2 A3) ∨ (k = 0 ∧ ok ∧ ∃ z F : fm_F, fm_v D F ∧ fm_pz D s n f e F ∧ fm_nm D w z F ∧ rPut F1 F2 F3 A1 A2 A3 i z))
    (hM : (¬ ok ∧ c = 1 ∧ rKeep G1 G2 G3 B1 B2 B3) ∨ (ok ∧ c = 0 ∧ ∃ z : fm_F, fm_v D z ∧ fm_nm D w z z ∧ fm_pz D s n f' e z ∧ rPut G1 G2 G3 B1 B2 B3 i z)) :
    c = k ∧ (0 ≤ k ∧ k ≤ 2) ∧ rN D w A1 A2 A3 ∧ agr A1 A2 A3 B1 B2 B3 := by
  rcases hL with ⟨rfl, l1, l2⟩ | ⟨rfl, l1, z, F, l2, l3, l4, l5⟩ <;> rcases hM with ⟨m1, rfl, m2⟩ | ⟨m1, rfl, z', m2, m3, m4, m5⟩
  · exact ⟨rfl, by decide, st_keep ha hN l2 m2⟩
  · exact absurd m1 l1
  · exact absurd l1 m1
  · obtain rfl := hf l1
    exact ⟨rfl, by decide, st_put ha hN (v_mg hg.1 l2 l4.1 l4.2.1 l4.2.2.1) l4.self (nm_uniq hg.1 hs l4 m3 l2.1 m2.1 (pz_fn l3 m4)) l5 m5⟩
/-- the calls that ask: the same code, and with no throw the same answer -/
theorem sta {ok : Prop} {k c O v : Int} {T T' : Prop} (hL : (k = 1 ∧ ¬ ok) ∨ (k = 0 ∧ ok ∧ T)) (hM : (¬ ok ∧ c = 1 ∧ v = 0) ∨ (ok ∧ c = 0 ∧ T')) (h : ok → T → T' → O = v) : c = k ∧ (0 ≤ k ∧ k ≤ 1) ∧ (k = 0 → O = v) := by
  rcases hL with ⟨rfl, l1⟩ | ⟨rfl, l1, l2⟩ <;> rcases hM with ⟨m1, rfl, -⟩ | ⟨m1, rfl, m2⟩
  · exact ⟨rfl, by decide, fun z => absurd z (by decide)⟩
  · exact absurd m1 l1
  · exact absurd l1 m1
  · exact ⟨rfl, by decide, fun _ => h l1 l2 m2⟩
theorem st_pr {n1 n2 : Int} {PF PG : Nat → Int} (h1 : rP D n1 PF) (h2 : rP D n2 PG) {x : Int} (h0 : 0 ≤ x) (hx : x < n1) : PF x.toNat = PG x.toNat := (rP.u h1 h2).2 x.toNat (by omega)
theorem agr.fst (ha : agr F1 F2 F3 G1 G2 G3) {j : Nat} (hj : j < 8) : F1 j = G1 j := congrArg (fun q => q.1) (ha j hj)
theorem agr.snd (ha : agr F1 F2 F3 G1 G2 G3) {j : Nat} (hj : j < 8) : F2 j = G2 j := congrArg (fun q => q.2.1) (ha j hj)
theorem agr.thd (ha : agr F1 F2 F3 G1 G2 G3) {j : Nat} (hj : j < 8) : F3 j = G3 j := congrArg (fun q => q.2.2) (ha j hj)
end LM
theorem st_take {Dd w d k c Dm wm npm : Int} {o xx yy : fm_F} {np : Nat} {PF PG PGm F1 F2 F3 G1 G2 G3 B1 B2 B3 : Nat → Int} {s0 n0 : Int} {u : Int × Int × fm_F × fm_F × fm_F × Nat × (Nat → Int) × (Nat → Int) × (Nat → Int) × (Nat → Int)}
    (hg : gD Dd w) (hs : fm_sn Dd s0 n0) (hone : fm_nm Dd w o (fm_one s0 n0)) (hN : rN Dd w F1 F2 F3) (ha : agr F1 F2 F3 G1 G2 G3) (hPF : rP Dd ((np : Nat) : Int) PF) (hPG : rP Dd ((np : Nat) : Int) PG) (hnp : np ≤ 6)
    (hL : (k = 0 ∧ dV d ∧ u.1 = d ∧ gD d u.2.1 ∧ fm_nm d u.2.1 u.2.2.1 (fm_one (d % 2) ((d - d % 2) / 4)) ∧ rP d ((u.2.2.2.2.2.1 : Nat) : Int) u.2.2.2.2.2.2.1 ∧ u.2.2.2.2.2.1 ≤ 6 ∧ ∀ j : Nat, j < 8 → (u.2.2.2.2.2.2.2.1 j, u.2.2.2.2.2.2.2.2.1 j, u.2.2.2.2.2.2.2.2.2 j) = u.2.2.1) ∨ (k = 1 ∧ ¬ dV d ∧ u = (Dd, w, o, xx, yy, np, PF, F1, F2, F3)))
    (hM : (dV d ∧ c = 0 ∧ Dm = d ∧ gD d wm ∧ rP d npm PGm ∧ ∀ j : Nat, j < 8 → fm_nm d wm (B1 j, B2 j, B3 j) (fm_one (d % 2) ((d - d % 2) / 4))) ∨ (¬ dV d ∧ c = 1 ∧ Dm = Dd ∧ wm = w ∧ npm = ((np : Nat) : Int) ∧ PGm = PG ∧ rKeep G1 G2 G3 B1 B2 B3)) :
    (c = k ∧ (0 ≤ k ∧ k ≤ 2)) ∧ Dm = u.1 ∧ wm = u.2.1 ∧ npm = ((u.2.2.2.2.2.1 : Nat) : Int) ∧ ∃ s1 n1 : Int, gD u.1 u.2.1 ∧ fm_sn u.1 s1 n1 ∧ fm_nm u.1 u.2.1 u.2.2.1 (fm_one s1 n1) ∧ rN u.1 u.2.1 u.2.2.2.2.2.2.2.1 u.2.2.2.2.2.2.2.2.1 u.2.2.2.2.2.2.2.2.2 ∧ agr u.2.2.2.2.2.2.2.1 u.2.2.2.2.2.2.2.2.1 u.2.2.2.2.2.2.2.2.2 B1 B2 B3 ∧ rP u.1 ((u.2.2.2.2.2.1 : Nat) : Int) u.2.2.2.2.2.2.1 ∧ rP u.1 ((u.2.2.2.2.2.1 : Nat) : Int) PGm ∧ u.2.2.2.2.2.1 ≤ 6 := by
  rcases hL with ⟨rfl, l1, l2, l3, l4, l5, l6, l7⟩ | ⟨rfl, l1, rfl⟩ <;> rcases hM with ⟨m1, rfl, m2, m3, m4, m5⟩ | ⟨m1, rfl, m2, m3, m4, m5, m6⟩
  · have e1 := gD_u m3 l3
    have e2 := (rP.u m4 l5).1
    have hs1 := sn_of l1.2.2.1
    have vo := v_mg l3.1 (fm_one_v hs1) l4.1 l4.2.1 l4.2.2.1
    subst l2
    rw [e1] at m5
    rw [e2] at m4
    refine ⟨⟨rfl, by decide⟩, m2, e1, e2, _, _, l3, hs1, l4, fun i hi => ?_, fun j hj => ?_, l5, m4, l6⟩
    · rw [l7 i hi]
      exact ⟨vo, l4.self⟩
    · rw [l7 j hj]
      exact nm_uniq l3.1 hs1 l4 (m5 j hj) (fm_one_disc hs1) (fm_one_disc hs1) (fm_eq.rf _)
  · exact absurd l1 m1
  · exact absurd m1 l1
  · subst m5
    exact ⟨⟨rfl, by decide⟩, m2, m3, m4, s0, n0, hg, hs, hone, (st_keep ha hN ⟨rfl, rfl, rfl⟩ m6).1, (st_keep ha hN ⟨rfl, rfl, rfl⟩ m6).2, hPF, hPG, hnp⟩
def sx (xs : Nat → Int32) (i : Int) : Int := (xs i.toNat).toInt
theorem sx_j (xs : Nat → Int32) (i : Int) : jI (sx xs i) := ⟨Int32.le_toInt _, by have := Int32.toInt_lt (xs i.toNat); unfold sx; omega⟩
def pk (a b : Int) : Int := ((jl a <<< ((ji 32).toInt64 &&& 63)) ||| (jl b &&& jl 4294967295)).toInt
theorem pk_e (a b : Int) : ((jl a <<< ((ji 32).toInt64 &&& 63)) ||| (jl b &&& jl 4294967295)) = jl (pk a b) := (Int64.ofInt_toInt _).symm
theorem pk_j (a b : Int) : jL (pk a b) := by
  have h1 := Int64.le_toInt ((jl a <<< ((ji 32).toInt64 &&& 63)) ||| (jl b &&& jl 4294967295))
  have h2 := Int64.toInt_lt ((jl a <<< ((ji 32).toInt64 &&& 63)) ||| (jl b &&& jl 4294967295))
  unfold pk
  exact ⟨h1, by omega⟩
section LW
variable {p : Program} {l : Launch} {e : Env} {R : Room} {s : State} {m : MethodId} {args : Array Value} {below : List Frame} {meth : Method} {c : Code} {H : Heap} {locs : List Loc} {cells slots : Nat} {Q : State → Prop}
variable {cc : ByteArray} {pc : Nat} {ls : Array Slot} {rest : List Value} {A : Nat → Prop} {H0 : Heap}
theorem w_sld (hexec : p.tables.exec = Jvm.exec) (hb : c.code = cc) {b L : Nat} {xs : Nat → Int32} (hX : va_X b L xs s H0) (hbl : b < H0.size) (hbA : ¬ A b) (hS : va_S A H0 H locs) (hL : L ≤ 2560) {i : Int} (h0 : 0 ≤ i) (h1 : i < L) (hdg : decode cc pc = .ok (.iaload, 1))
    (kk : W p l e R s m args below meth c H locs cells slots Q (F0 m (pc + 1) ls (.int (ji (sx xs i)) :: rest))) : W p l e R s m args below meth c H locs cells slots Q (F0 m pc ls (.int (ji i) :: .ref b :: rest)) := by
  refine va_sld hexec hb hX hbl hbA hS (ji_vin h0 h1 (by omega)) hdg ?_
  rw [ji_clamp ⟨by omega, by omega⟩, ← Int32.ofInt_toInt (xs i.toNat)]
  exact kk
theorem w_slen (hexec : p.tables.exec = Jvm.exec) (hb : c.code = cc) {b L : Nat} {xs : Nat → Int32} (hX : va_X b L xs s H0) (hbl : b < H0.size) (hbA : ¬ A b) (hS : va_S A H0 H locs) (hdg : decode cc pc = .ok (.arraylength, 1))
    (kk : W p l e R s m args below meth c H locs cells slots Q (F0 m (pc + 1) ls (.int (ji (L : Int)) :: rest))) : W p l e R s m args below meth c H locs cells slots Q (F0 m pc ls (.ref b :: rest)) := by
  refine va_slen hexec hb hX hbl hbA hS hdg ?_
  rw [show Int32.ofNat L = ji (L : Int) from Int32.ofInt_eq_ofNat.symm]
  exact kk
end LW
theorem sta_b {O v a : Int} {P P' : Prop} (hP : P ↔ P') (t : (O = 1 ∧ P) ∨ (O = a ∧ ¬ P)) (t' : (v = 1 ∧ P') ∨ (v = a ∧ ¬ P')) : O = v := by
  rcases t with ⟨a1, a2⟩ | ⟨a1, a2⟩ <;> rcases t' with ⟨b1, b2⟩ | ⟨b1, b2⟩
  · exact a1.trans b1.symm
  · exact absurd (hP.mp a2) b2
  · exact absurd (hP.mpr b2) a2
  · exact a1.trans b1.symm
theorem sta_f {F1 F2 F3 G1 G2 G3 : Nat → Int} (ha : agr F1 F2 F3 G1 G2 G3) {r : Nat} (hr : r < 8) {x O v : Int} (h0 : 0 ≤ x ∧ x ≤ 2) (t : (x = 0 → O = F1 r) ∧ (x = 1 → O = F2 r) ∧ (x = 2 → O = F3 r)) (t' : (x = 0 → v = G1 r) ∧ (x = 1 → v = G2 r) ∧ (x = 2 → v = G3 r)) : O = v := by
  rcases (show x = 0 ∨ x = 1 ∨ x = 2 by omega) with e | e | e
  · exact (t.1 e).trans ((ha.fst hr).trans (t'.1 e).symm)
  · exact (t.2.1 e).trans ((ha.snd hr).trans (t'.2.1 e).symm)
  · exact (t.2.2 e).trans ((ha.thd hr).trans (t'.2.2 e).symm)
theorem form_j {D w : Int} {G1 G2 G3 : Nat → Int} (hg : gD D w) (hN : rN D w G1 G2 G3) {r : Nat} (hr : r < 8) {x v : Int} (h0 : 0 ≤ x ∧ x ≤ 2) (t' : (x = 0 → v = G1 r) ∧ (x = 1 → v = G2 r) ∧ (x = 2 → v = G3 r)) : jI v := by
  have hb1 := red_b30 hg (hN r hr).1.1 (hN r hr).2.2.1
  have zb1 := hb1.1.1
  have zb2 := hb1.1.2
  have zb3 := hb1.2.1.1
  have zb4 := hb1.2.1.2
  have zb5 := hb1.2.2.1
  have zb6 := hb1.2.2.2
  dsimp only at zb1 zb2 zb3 zb4 zb5 zb6
  rcases (show x = 0 ∨ x = 1 ∨ x = 2 by omega) with e | e | e
  · rw [t'.1 e]; exact ⟨by omega, by omega⟩
  · rw [t'.2.1 e]; exact ⟨by omega, by omega⟩
  · rw [t'.2.2 e]; exact ⟨by omega, by omega⟩
theorem prime_j {D w np : Int} {PG : Nat → Int} (hg : gD D w) (hP : rP D np PG) {x : Int} (h0 : 0 ≤ x ∧ x < np) : jI (PG x.toNat) := by
  have hD0 : D ≠ 0 := fun z => fm_nsq hg.1 0 (by omega)
  obtain ⟨p, hPp, hp1, hp3, hpD, hpn⟩ := hP.at hD0 (k := x) h0.1 h0.2
  have z1 := hg.2.1
  have z2 := hg.2.2.1
  rw [hPp]
  exact ⟨by omega, by omega⟩
theorem st_count {D w np v v' x : Int} {f g : fm_F} (hfg : f = g) (h1 : x = 0 → v = D) (h2 : x = 1 → v = w) (h3 : x = 2 → v = np) (h4 : x = 3 → fm_ct D w f v) (h5 : ¬ (0 ≤ x ∧ x ≤ 3) → v = -1) (k1 : x = 0 → v' = D) (k2 : x = 1 → v' = w) (k3 : x = 2 → v' = np) (k4 : x = 3 → fm_ct D w g v') (k5 : ¬ (0 ≤ x ∧ x ≤ 3) → v' = -1) : v = v' := by
  subst hfg
  rcases (show x = 0 ∨ x = 1 ∨ x = 2 ∨ x = 3 ∨ ¬ (0 ≤ x ∧ x ≤ 3) by omega) with e | e | e | e | e
  · exact (h1 e).trans (k1 e).symm
  · exact (h2 e).trans (k2 e).symm
  · exact (h3 e).trans (k3 e).symm
  · exact (h4 e).uniq (k4 e)
  · exact (h5 e).trans (k5 e).symm
