/-! Bits (the first rows are pasted from the kit's laws/BITS.to-paste). -/
theorem wb_tb (n : Nat) : (lN n).toBitVec = BitVec.ofNat 64 n := rfl
theorem wb_inj {a b : Int64} (h : a.toBitVec = b.toBitVec) : a = b := Int64.toBitVec_inj.mp h
theorem wb_tn {n : Nat} (h : n < 2 ^ 64) : (lN n).toBitVec.toNat = n := by rw [wb_tb, BitVec.toNat_ofNat, Nat.mod_eq_of_lt h]
theorem wb_cu : ∀ k, k < 64 → ((nI k).toInt64.toUInt64 &&& Int64.toUInt64 63) = UInt64.ofNat k := by decide +kernel
theorem wb_lt2 {a b : Nat} (h : a < b) : 2 ^ a < 2 ^ b := Nat.pow_lt_pow_right (by decide) h
theorem wb_shr {n k : Nat} (hn : n < 2 ^ 64) (hk : k < 64) : ((lN n).toUInt64 >>> ((nI k).toInt64.toUInt64 &&& Int64.toUInt64 63)).toInt64 = lN (n / 2 ^ k) := by
  rw [wb_cu k hk]
  apply wb_inj
  apply BitVec.eq_of_toNat_eq
  show ((lN n).toUInt64 >>> UInt64.ofNat k).toNat = (BitVec.ofNat 64 _).toNat
  have h1 : (UInt64.ofNat k).toNat = k := by
    show (BitVec.ofNat 64 k).toNat = k
    rw [BitVec.toNat_ofNat, Nat.mod_eq_of_lt (by omega)]
  have h2 : (lN n).toUInt64.toNat = n := wb_tn hn
  rw [UInt64.toNat_shiftRight, h1, h2, Nat.mod_eq_of_lt hk, Nat.shiftRight_eq_div_pow, BitVec.toNat_ofNat, Nat.mod_eq_of_lt (Nat.lt_of_le_of_lt (Nat.div_le_self _ _) hn)]
theorem wb_and {a b : Nat} (ha : a < 2 ^ 64) (hb : b < 2 ^ 64) : lN a &&& lN b = lN (a &&& b) := by
  apply wb_inj
  rw [Int64.toBitVec_and, wb_tb, wb_tb, wb_tb]
  apply BitVec.eq_of_toNat_eq
  rw [BitVec.toNat_and, BitVec.toNat_ofNat, BitVec.toNat_ofNat, BitVec.toNat_ofNat, Nat.mod_eq_of_lt ha, Nat.mod_eq_of_lt hb, Nat.mod_eq_of_lt (Nat.and_lt_two_pow _ hb)]
theorem wb_mask {n k : Nat} (hn : n < 2 ^ 64) (hk : k < 64) : lN n &&& lN (2 ^ k - 1) = lN (n % 2 ^ k) := by
  rw [wb_and hn (by have := wb_lt2 hk; omega), Nat.and_two_pow_sub_one_eq_mod]
theorem wb_a1 {n : Nat} (hn : n < 2 ^ 64) : lN n &&& 1 = lN (n % 2) := wb_mask (k := 1) hn (by decide)
theorem jl_nat (n : Nat) : jl (n : Int) = lN n := Int64.ofInt_eq_ofNat
theorem ji_nat (n : Nat) : ji (n : Int) = nI n := Int32.ofInt_eq_ofNat
theorem jl_u0 {n : Nat} (h : n < 2 ^ 64) : jl (n : Int) = jl 0 ↔ n = 0 := by
  constructor
  · intro e
    rw [jl_nat] at e
    have : (lN n).toBitVec.toNat = (jl 0).toBitVec.toNat := by rw [e]
    rw [wb_tn h] at this
    rw [this]
    rfl
  · rintro rfl
    rfl
theorem jl_and1 {n : Nat} (h : n < 2 ^ 64) : jl (n : Int) &&& jl 1 = jl ((n % 2 : Nat) : Int) := by
  rw [jl_nat, jl_nat]
  exact wb_a1 h
theorem jl_ushr1 {n : Nat} (h : n < 2 ^ 64) : ((jl (n : Int)).toUInt64 >>> ((ji 1).toInt64.toUInt64 &&& Int64.toUInt64 63)).toInt64 = jl ((n / 2 : Nat) : Int) := by
  rw [jl_nat, jl_nat]
  exact wb_shr (k := 1) h (by decide)
theorem ji_and1 {d : Int} (hd : jI d) : ji d &&& ji 1 = ji (d % 2) := by
  have h1 := pk_and (ji d) (m := ji 1) 1 (by decide)
  rw [h1]
  have h2 := ji_int hd
  have h3 : (ji d).toBitVec.toNat % 2 ^ 1 = (d % 2).toNat := by
    have h4 : (ji d).toInt = (ji d).toBitVec.toInt := rfl
    rw [h2, BitVec.toInt_eq_toNat_cond] at h4
    have h5 := (ji d).toBitVec.isLt
    split at h4 <;> omega
  rw [h3, ← ji_nat]
  congr 1
  omega
theorem ji_shr1 {d : Int} (h0 : 0 ≤ d) (hd : jI d) : ji d >>> (ji 1 &&& 31) = ji (d / 2) := by
  obtain ⟨n, rfl⟩ : ∃ n : Nat, d = n := ⟨d.toNat, by omega⟩
  rw [ji_nat, pk_shrN (k := 1) (by have := hd.2; omega) _ (by decide)]
  have : ((n : Int) / 2) = ((n / 2 ^ 1 : Nat) : Int) := by omega
  rw [this, ji_nat]
section WBT
variable {p : Program} {l : Launch} {e : Env} {R : Room} {s : State} {m : MethodId} {args : Array Value} {below : List Frame} {meth : Method} {c : Code} {H : Heap} {locs : List Loc} {cells slots : Nat} {Q : State → Prop}
variable {cc : ByteArray} {pc : Nat} {ls : Array Slot} {rest : List Value}
theorem wl_ceqU (hexec : p.tables.exec = Jvm.exec) (hb : c.code = cc) {x y : Int64} {P : Prop} {off : Int} {tgt : Nat} (h : x = y ↔ P) (hdg : decode cc pc = .ok (.lcmp, 1)) (hdg2 : decode cc (pc + 1) = .ok (.ifCond .eq off, 3)) (ht : ((pc + 1 : Nat) : Int) + off = (tgt : Int)) (kt : P → W p l e R s m args below meth c H locs cells slots Q (F0 m tgt ls rest)) (kf : ¬ P → W p l e R s m args below meth c H locs cells slots Q (F0 m (pc + 1 + 3) ls rest)) : W p l e R s m args below meth c H locs cells slots Q (F0 m pc ls (.long y :: .long x :: rest)) := by
  refine W.lcmp hexec hb hdg ?_
  have e1 : lg_cmp x y = 0 ↔ x = y := by
    unfold lg_cmp
    constructor
    · intro z
      by_cases h1 : x > y
      · rw [if_pos h1] at z; exact absurd z (by decide)
      · rw [if_neg h1] at z
        by_cases h2 : x = y
        · exact h2
        · rw [if_neg h2] at z; exact absurd z (by decide)
    · rintro rfl
      rw [if_neg (fun q => Int64.lt_irrefl q), if_pos rfl]
  exact lv_if_eq hexec hb hdg2 ht (fun q => kt (h.mp (e1.mp q))) (fun q => kf (fun z => q (e1.mpr (h.mpr z))))
end WBT
