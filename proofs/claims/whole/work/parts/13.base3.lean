/-! numbers: masks, rests -/
theorem zw_of (x : Int64) : ∃ n, n < 2 ^ 64 ∧ x = lN n := ⟨x.toBitVec.toNat, x.toBitVec.isLt, Int64.toBitVec_inj.mp (by show _ = BitVec.ofNat 64 _; simp)⟩
theorem zw_of32 (x : Int32) : ∃ n, n < 2 ^ 32 ∧ x = nI n := ⟨x.toBitVec.toNat, x.toBitVec.isLt, Int32.toBitVec_inj.mp (by show _ = BitVec.ofNat 32 _; simp)⟩
theorem zw_and (a b : Nat) : lN a &&& lN b = lN (a &&& b) := by
  apply Int64.toBitVec_inj.1
  show BitVec.ofNat 64 a &&& BitVec.ofNat 64 b = BitVec.ofNat 64 (a &&& b)
  apply BitVec.eq_of_getLsbD_eq
  intro i hi
  simp [hi]
theorem zw_mask (n k : Nat) : lN n &&& lN (2 ^ k - 1) = lN (n % 2 ^ k) := by rw [zw_and, Nat.and_two_pow_sub_one_eq_mod]
theorem zs31 (x : Int64) : ∃ m : Nat, m < 2 ^ 31 ∧ (x &&& 2147483647).toInt32 = nI m := by
  obtain ⟨n, -, rfl⟩ := zw_of x
  refine ⟨n % 2 ^ 31, Nat.mod_lt _ (by decide), ?_⟩
  rw [show (2147483647 : Int64) = lN (2 ^ 31 - 1) from rfl, zw_mask, lN_i]
theorem zpos_nI {x : Int32} (h : 0 ≤ x.toInt) : ∃ n : Nat, n < 2 ^ 31 ∧ x = nI n ∧ x.toInt = n := by
  obtain ⟨j, hj, rfl⟩ := nI_of (x := x) (fun q => by have := zlt.mp q; have e0 : (0 : Int32).toInt = 0 := by decide
                                                     omega)
  exact ⟨j, hj, rfl, nI_toInt hj⟩
theorem zdr {x : Int64} {s of : Int32} (e : s = (x &&& 2147483647).toInt32) (h : 0 < of.toInt) : 0 ≤ (s / 65536 - s / 65536 / of * of).toInt ∧ (s / 65536 - s / 65536 / of * of).toInt < of.toInt := by
  obtain ⟨m, hm, hs⟩ := zs31 x
  rw [hs] at e
  obtain ⟨o, ho, rfl, hoi⟩ := zpos_nI (x := of) (by omega)
  subst e
  rw [show (65536 : Int32) = nI 65536 from rfl, pk_div hm (by decide) (by decide), pk_rem (by omega) (by omega) ho]
  have : m / 65536 % o < o := Nat.mod_lt _ (by omega)
  rw [nI_toInt (by omega), nI_toInt ho]
  omega
theorem zdr1 {x : Int64} {s of : Int32} (e : s = (x &&& 2147483647).toInt32) (h : 0 < of.toInt) : 0 ≤ (s / 65536 - s / 65536 / of * of).toInt := (zdr e h).1
theorem zdr2 {x : Int64} {s of : Int32} (e : s = (x &&& 2147483647).toInt32) (h : 0 < of.toInt) : (s / 65536 - s / 65536 / of * of).toInt < of.toInt := (zdr e h).2
theorem zl_rem {x y r : Int64} (hx : ¬ x = 0) (e : r = y - y / x * x) : r.toInt.natAbs < x.toInt.natAbs := by
  have hx0 : x.toInt ≠ 0 := fun q => hx (zl_eq.mpr (by rw [q]; decide))
  have h1 : r.toInt = (y.toInt.tmod x.toInt).bmod (2 ^ 64) := by
    rw [e, Int64.toInt_sub, Int64.toInt_mul, Int64.toInt_div]
    rw [Int.bmod_mul_bmod, Int.sub_bmod_bmod]
    congr 1
    have := Int.mul_tdiv_add_tmod y.toInt x.toInt
    rw [Int.mul_comm]
    have q := Int.mul_comm x.toInt (y.toInt.tdiv x.toInt)
    omega
  have h2 : (y.toInt.tmod x.toInt).natAbs < x.toInt.natAbs := by
    rw [Int.natAbs_tmod]; exact Nat.mod_lt _ (by omega)
  have l1 := Int64.le_toInt x
  have l2 := Int64.toInt_lt x
  rw [h1, Int.bmod_def]
  have e64 : ((2 ^ 64 : Nat) : Int) = 18446744073709551616 := by decide
  rw [e64]
  have l1' : -9223372036854775808 ≤ x.toInt := by have := l1; simp at this; omega
  have l2' : x.toInt < 9223372036854775808 := by have := l2; simp at this; omega
  generalize y.toInt.tmod x.toInt = t at h2 ⊢
  omega
