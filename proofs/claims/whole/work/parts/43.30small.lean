/-! small questions that both sides ask; the common divisor; sums -/
theorem z_isIn1 {a b c : Int64} (h1 : b.toInt ≤ a.toInt) (h2 : a.toInt ≤ c.toInt) : m_X6_isIn a b c = 1 := by
  unfold m_X6_isIn
  rw [if_neg (fun x => by rw [zlc_lt] at x; omega), if_neg (fun x => by rw [zlc_gt] at x; omega)]
theorem z_isIn0 {a b c : Int64} (h : a.toInt < b.toInt ∨ c.toInt < a.toInt) : m_X6_isIn a b c = 0 := by
  unfold m_X6_isIn
  by_cases q : a.toInt < b.toInt
  · rw [if_pos (zlc_lt.mpr q)]
  · rw [if_neg (fun x => q (zlc_lt.mp x)), if_pos (zlc_gt.mpr (by omega))]
theorem z_glass {N : Nat} (hN : N ≤ 9) (x : Int32) : (m_X3_has (nI N) x = 0 ∧ m_X6_isGlass (nI N) x = 0) ∨ (∃ g, g < N ∧ x = nI g ∧ m_X3_has (nI N) x = 1 ∧ m_X6_isGlass (nI N) x = 1) := by
  have e0 : (0 : Int64).toInt = 0 := by decide
  have e1 : ((nI N - 1).toInt64).toInt = (N : Int) - 1 := by
    rw [Int32.toInt_toInt64, zn1, pk_sub_toInt (by omega) (by omega)]; rfl
  rcases pk_ix x (n := N) (by omega) with q | q | ⟨j, hj, rfl⟩
  · refine Or.inl ⟨?_, ?_⟩
    · unfold m_X3_has; rw [if_pos q]
    · have q2 := zlt.mp q
      have e3 : (0 : Int32).toInt = 0 := by decide
      unfold m_X6_isGlass cut
      exact z_isIn0 (Or.inl (by rw [Int32.toInt_toInt64]; omega))
  · refine Or.inl ⟨?_, ?_⟩
    · unfold m_X3_has
      by_cases q0 : x < 0
      · rw [if_pos q0]
      · rw [if_neg q0, if_pos q]
    · have q2 := zle.mp q
      rw [nI_toInt (by omega)] at q2
      unfold m_X6_isGlass cut
      exact z_isIn0 (Or.inr (by rw [Int32.toInt_toInt64 x, e1]; omega))
  · refine Or.inr ⟨j, hj, rfl, zx_has hN hj, ?_⟩
    unfold m_X6_isGlass cut
    exact z_isIn1 (by rw [Int32.toInt_toInt64, nI_toInt (by omega), e0]; omega) (by rw [Int32.toInt_toInt64 (nI j), nI_toInt (by omega), e1]; omega)
theorem zm_glass {N g : Nat} (hN : N ≤ 9) (hg : g < N) : m_X6_isGlass (nI N) (nI g) = 1 := by
  rcases z_glass hN (nI g) with ⟨h, -⟩ | ⟨j, -, -, -, h⟩
  · rw [zx_has hN hg] at h; exact absurd h (by decide)
  · exact h
theorem z_from {M : Nat} {a : Int32} {b : Int64} (ha : a = nI M) (hb : b = lN M) (hM : M < 2 ^ 30) (x : Int32) : (m_X5_isFromOneTo a x = 0 ∧ m_X6_isIn x.toInt64 1 b = 0) ∨ (∃ m, 1 ≤ m ∧ m ≤ M ∧ x = nI m ∧ m_X5_isFromOneTo a x = 1 ∧ m_X6_isIn x.toInt64 1 b = 1) := by
  subst ha hb
  have e1 : (1 : Int64).toInt = 1 := by decide
  have e2 : (1 : Int32).toInt = 1 := by decide
  have e3 : (lN M).toInt = M := pk_lT (by omega)
  have e4 : (nI M).toInt = M := nI_toInt (by omega)
  by_cases q : x.toInt < 1
  · refine Or.inl ⟨?_, z_isIn0 (Or.inl (by rw [Int32.toInt_toInt64]; omega))⟩
    unfold m_X5_isFromOneTo
    rw [if_pos (zlt.mpr (by omega))]
  · by_cases q2 : (M : Int) < x.toInt
    · refine Or.inl ⟨?_, z_isIn0 (Or.inr (by rw [Int32.toInt_toInt64]; omega))⟩
      unfold m_X5_isFromOneTo
      rw [if_neg (fun h => q (by have := zlt.mp h; omega)), if_pos (zlt.mpr (by omega))]
    · obtain ⟨m, hm, rfl, hmi⟩ := zpos_nI (x := x) (by omega)
      refine Or.inr ⟨m, by omega, by omega, rfl, ?_, z_isIn1 (by rw [Int32.toInt_toInt64]; omega) (by rw [Int32.toInt_toInt64]; omega)⟩
      unfold m_X5_isFromOneTo
      rw [if_neg (fun h => q (by have := zlt.mp h; omega)), if_neg (fun h => q2 (by have := zlt.mp h; omega))]
/-- 0 to M, as the class asks it (less than 0, or more than M) and as the reference does -/
theorem z_upto {M : Nat} {a : Int32} {b : Int64} (ha : a = nI M) (hb : b = lN M) (hM : M < 2 ^ 30) (x : Int32) : ((x < 0 ∨ (¬ x < 0 ∧ ¬ x ≤ a ∧ a < x)) ∧ m_X6_isIn x.toInt64 0 b = 0) ∨ (∃ m, m ≤ M ∧ x = nI m ∧ ¬ x < 0 ∧ x ≤ a ∧ ¬ a < x ∧ m_X6_isIn x.toInt64 0 b = 1) := by
  subst ha hb
  have e1 : (0 : Int64).toInt = 0 := by decide
  have e2 : (0 : Int32).toInt = 0 := by decide
  have e3 : (lN M).toInt = M := pk_lT (by omega)
  have e4 : (nI M).toInt = M := nI_toInt (by omega)
  by_cases q : x.toInt < 0
  · exact Or.inl ⟨Or.inl (zlt.mpr (by omega)), z_isIn0 (Or.inl (by rw [Int32.toInt_toInt64]; omega))⟩
  · by_cases q2 : (M : Int) < x.toInt
    · exact Or.inl ⟨Or.inr ⟨fun h => q (by have := zlt.mp h; omega), fun h => by have := zle.mp h; omega, zlt.mpr (by omega)⟩, z_isIn0 (Or.inr (by rw [Int32.toInt_toInt64]; omega))⟩
    · obtain ⟨m, hm, rfl, hmi⟩ := zpos_nI (x := x) (by omega)
      exact Or.inr ⟨m, by omega, rfl, fun h => q (by have := zlt.mp h; omega), zle.mpr (by omega), fun h => q2 (by have := zlt.mp h; omega), z_isIn1 (by rw [Int32.toInt_toInt64]; omega) (by rw [Int32.toInt_toInt64]; omega)⟩
theorem z_part (x : Int32) : (m_X5_isPart x = 0 ∧ m_X6_isPart x = 0) ∨ ((x = 0 ∨ x = 1) ∧ m_X5_isPart x = 1 ∧ m_X6_isPart x = 1) := by
  have hp : m_X5_isPart x = if x = 0 then 1 else if x = 1 then 1 else 0 := rfl
  have hq : m_X6_isPart x = m_X6_isIn x.toInt64 0 1 := rfl
  rw [hp, hq]
  rcases z_upto (M := 1) (a := 1) (b := 1) rfl rfl (by omega) x with ⟨h1, h2⟩ | ⟨m, hm, rfl, h3, h4, h5, h6⟩
  · refine Or.inl ⟨?_, h2⟩
    rw [if_neg, if_neg]
    · rintro rfl; revert h1; decide
    · rintro rfl; revert h1; decide
  · refine Or.inr ?_
    rcases (show m = 0 ∨ m = 1 by omega) with rfl | rfl
    · exact ⟨Or.inl nI_0, by rw [if_pos nI_0], h6⟩
    · exact ⟨Or.inr rfl, by rw [if_neg (by decide), if_pos (show nI 1 = 1 from rfl)], h6⟩
theorem z_lacks {N : Nat} (hN : N ≤ 9) : (N = 0 ∧ nI N = 0 ∧ m_X6_lacks (nI N) = 1) ∨ (0 < N ∧ ¬ nI N = 0 ∧ m_X6_lacks (nI N) = 0) := by
  unfold m_X6_lacks
  rcases Nat.eq_zero_or_pos N with q | q
  · subst q; exact Or.inl ⟨rfl, rfl, rfl⟩
  · have := nI_ne0 q (by omega)
    exact Or.inr ⟨q, this, if_neg this⟩
theorem z_shl {N : Nat} (hN : N ≤ 9) : (1 : Int32) <<< (nI N &&& 31) = nI (2 ^ N) := by
  rcases (show N = 0 ∨ N = 1 ∨ N = 2 ∨ N = 3 ∨ N = 4 ∨ N = 5 ∨ N = 6 ∨ N = 7 ∨ N = 8 ∨ N = 9 by omega) with q | q | q | q | q | q | q | q | q | q <;> subst q <;> decide +kernel
theorem z_pow9 {N : Nat} (hN : N ≤ 9) : 0 < 2 ^ N ∧ 2 ^ N ≤ 512 := ⟨Nat.two_pow_pos N, Nat.pow_le_pow_right (by omega) hN⟩
theorem z_set {N : Nat} (hN : N ≤ 9) (x : Int32) : (m_X3_isSet (nI N) x = 0 ∧ m_X6_isIn x.toInt64 0 ((((1 : Int32) <<< (nI N &&& 31)) - 1).toInt64) = 0) ∨ (∃ s, s < 2 ^ N ∧ x = nI s ∧ m_X3_isSet (nI N) x = 1 ∧ m_X6_isIn x.toInt64 0 ((((1 : Int32) <<< (nI N &&& 31)) - 1).toInt64) = 1) := by
  unfold m_X3_isSet
  have hp := z_pow9 hN
  have e0 : (0 : Int64).toInt = 0 := by decide
  have e0' : (0 : Int32).toInt = 0 := by decide
  rw [z_shl hN]
  have e1 : ((nI (2 ^ N) - 1).toInt64).toInt = (2 ^ N : Nat) - 1 := by
    rw [Int32.toInt_toInt64, zn1, pk_sub_toInt (by omega) (by omega)]; rfl
  rcases pk_ix x (n := 2 ^ N) (by omega) with q | q | ⟨j, hj, rfl⟩
  · have q2 := zlt.mp q
    refine Or.inl ⟨by rw [if_pos q], z_isIn0 (Or.inl ?_)⟩
    rw [Int32.toInt_toInt64]; omega
  · have q2 := zle.mp q
    rw [nI_toInt (by omega)] at q2
    refine Or.inl ⟨?_, z_isIn0 (Or.inr ?_)⟩
    · by_cases q0 : x < 0
      · rw [if_pos q0]
      · rw [if_neg q0, if_pos q]
    · rw [Int32.toInt_toInt64 x, e1]; omega
  · refine Or.inr ⟨j, hj, rfl, ?_, z_isIn1 ?_ ?_⟩
    · rw [if_neg (nI_pos (by omega)), if_neg (nI_ge hj (by omega))]
    · rw [Int32.toInt_toInt64, nI_toInt (by omega)]; omega
    · rw [Int32.toInt_toInt64 (nI j), nI_toInt (by omega), e1]; omega
theorem z_and31 {g : Nat} (hg : g ≤ 9) : ((nI g &&& 31).toBitVec.smod 32).toNat = g := by
  rcases (show g = 0 ∨ g = 1 ∨ g = 2 ∨ g = 3 ∨ g = 4 ∨ g = 5 ∨ g = 6 ∨ g = 7 ∨ g = 8 ∨ g = 9 by omega) with q | q | q | q | q | q | q | q | q | q <;> subst q <;> decide +kernel
theorem z_bit {s g : Nat} (hs : s < 2 ^ 31) (hg : g ≤ 9) : ((nI s >>> (nI g &&& 31)) &&& 1) = nI (s / 2 ^ g % 2) := by
  rw [pk_shrN hs _ g (z_and31 hg), pk_andN (k := 1) (by have := Nat.div_le_self s (2 ^ g); omega) rfl]
theorem z_bit1 {s g : Nat} (hs : s < 2 ^ 31) (hg : g ≤ 9) : (((nI s >>> (nI g &&& 31)) &&& 1) = 1) ↔ s / 2 ^ g % 2 = 1 := by
  rw [z_bit hs hg, zn1, nI_eq (by omega) (by omega)]
theorem z_bit0 {s g : Nat} (hs : s < 2 ^ 31) (hg : g ≤ 9) : (((nI s >>> (nI g &&& 31)) &&& 1) = 0) ↔ ¬ s / 2 ^ g % 2 = 1 := by
  rw [z_bit hs hg, zn0, nI_eq (by omega) (by omega)]; omega
/-! the common divisor -/
theorem zgc_x : ∀ (fuel i k x y : Nat), x ≤ y → x * y < 2 ^ k → i + k ≤ 100 → 100 < fuel + i → y < 2 ^ 62 → lp_X5_commonDivisor_2 rs_X5_commonDivisor_2 fuel (nI i) (lN x) (lN y) = lN (Nat.gcd x y) := by
  intro fuel
  induction fuel with
  | zero => intro i k x y _ _ h3 h4 _; omega
  | succ f ih =>
    intro i k x y h1 h2 h3 h4 h5
    rw [lp_X5_commonDivisor_2, show (100 : Int32) = nI 100 from rfl]
    by_cases q : i = 100
    · rw [if_pos (nI_le (by omega) (by omega))]
      have k0 : k = 0 := by omega
      rw [k0] at h2
      have hx : x = 0 := by
        rcases Nat.eq_zero_or_pos x with z | z
        · exact z
        · have : 1 * 1 ≤ x * y := Nat.mul_le_mul z (by omega)
          omega
      rw [hx, Nat.gcd_zero_left]
      rfl
    · rw [if_neg (nI_ge (by omega) (by omega)), zl0]
      by_cases hx : x = 0
      · rw [if_pos ((zc_eq (by omega) (by omega)).mpr hx), hx, Nat.gcd_zero_left]
        rfl
      · rw [if_neg (fun h => hx ((zc_eq (by omega) (by omega)).mp h))]
        simp only [cut]
        rw [pk_lRem (by omega) (by omega) (by omega), nI_1, Nat.gcd_rec]
        have hm : y % x < x := Nat.mod_lt _ (by omega)
        have hdm := Nat.div_add_mod y x
        have hq : 1 ≤ y / x := Nat.div_pos h1 (by omega)
        have hxx : x * 1 ≤ x * (y / x) := Nat.mul_le_mul_left x hq
        have h2m : 2 * (y % x) < y := by omega
        have hp : 2 * (y % x * x) < x * y := by
          rw [← Nat.mul_assoc, Nat.mul_comm x y]
          exact Nat.mul_lt_mul_of_pos_right h2m (by omega)
        have hk : k ≠ 0 := by
          intro k0
          rw [k0] at h2
          have : 1 * 1 ≤ x * y := Nat.mul_le_mul (by omega) (by omega)
          omega
        obtain ⟨k', rfl⟩ : ∃ k', k = k' + 1 := ⟨k - 1, by omega⟩
        rw [Nat.pow_succ] at h2
        exact ih (i + 1) k' (y % x) x (by omega) (by omega) (by omega) (by omega) (by omega)
theorem zgc_x1 {x y k : Nat} (h : x * y < 2 ^ k) (hk : k ≤ 98) (hx0 : 0 < x) (hx : x < 2 ^ 62) (hy : y < 2 ^ 62) : m_X5_commonDivisor (lN x) (lN y) = lN (Nat.gcd x y) := by
  unfold m_X5_commonDivisor
  by_cases q : x ≤ y
  · exact zgc_x 102 0 k x y q h (by omega) (by omega) hy
  · rw [lp_X5_commonDivisor_2, if_neg (by decide), zl0, if_neg (fun h => by have := (zc_eq (by omega) (by omega)).mp h; omega)]
    simp only [cut]
    rw [pk_lRem (by omega) (by omega) (by omega), Nat.gcd_rec, Nat.mod_eq_of_lt (show y < x by omega)]
    rw [Nat.mul_comm] at h
    exact zgc_x 101 1 k y x (by omega) h (by omega) (by omega) hx
theorem zgc_m {ct : Int64 → Int64 → Int64} : ∀ (fuel x y : Nat), x < fuel → x < 2 ^ 62 → y < 2 ^ 62 → lp_X6_term_2 ct fuel (lN y) (lN x) = ct (lN (Nat.gcd x y)) (lN 0) := by
  intro fuel
  induction fuel with
  | zero => intro x y h _ _; omega
  | succ f ih =>
    intro x y h1 h2 h3
    rw [lp_X6_term_2, zl0]
    by_cases hx : x = 0
    · rw [if_pos ((zc_eq (by omega) (by omega)).mpr hx), hx, Nat.gcd_zero_left]
    · rw [if_neg (fun h => hx ((zc_eq (by omega) (by omega)).mp h))]
      simp only [cut]
      have hm : y % x < x := Nat.mod_lt _ (by omega)
      rw [pk_lRem (by omega) (by omega) (by omega), Nat.gcd_rec]
      exact ih (y % x) x (by omega) (by omega) (by omega)
theorem z_term {u : Nat} (hu : u < 2 ^ 43) (p : Int32) : m_X5_partOf (lN (12 * u)) p = m_X6_term (lN u) p := by
  have hM : zM < 2 ^ 33 := by decide
  have hW : zW < 2 ^ 29 := by decide
  have hW0 : 0 < zW := by decide
  have hMW : zM = 12 * zW := rfl
  have hr : m_X6_term (lN u) p = rs_X6_term_2 p (lN u) (lN (Nat.gcd u zW)) (lN 0) := by
    unfold m_X6_term
    rw [pk_lT (by omega), show ((u : Nat) : Int).natAbs + 1 = u + 1 by omega, zWl]
    exact zgc_m (u + 1) u zW (by omega) (by omega) (by omega)
  have hG0 : 0 < Nat.gcd u zW := Nat.gcd_pos_of_pos_right _ hW0
  have hGle : Nat.gcd u zW ≤ zW := Nat.gcd_le_right _ hW0
  have hc : m_X5_commonDivisor (lN (12 * u)) (lN zM) = lN (12 * Nat.gcd u zW) := by
    rcases Nat.eq_zero_or_pos u with z | z
    · subst z
      rw [Nat.gcd_zero_left, Nat.mul_zero]
      unfold m_X5_commonDivisor
      rw [lp_X5_commonDivisor_2, if_neg (by decide), zl0, if_pos ((zc_eq (by omega) (by omega)).mpr rfl)]
      rfl
    · have hb : 12 * u * zM < 2 ^ 80 := by
        have h1 : 12 * u * zM ≤ 2 ^ 47 * zM := Nat.mul_le_mul_right _ (by omega)
        have h2 : 2 ^ 47 * zM < 2 ^ 80 := by decide
        omega
      rw [zgc_x1 hb (by omega) (by omega) (by omega) (by omega), hMW, Nat.gcd_mul_left]
  unfold m_X5_partOf
  simp only [cut]
  rw [zMl, hc, hr, if_neg (show ¬ lN (12 * Nat.gcd u zW) < 1 from fun h => by rw [show (1 : Int64) = lN 1 from rfl, pk_lLT (by omega) (by omega)] at h; omega)]
  unfold rs_X6_term_2
  by_cases q : p = 0
  · rw [if_pos q, if_pos q, pk_lDiv (by omega) (by omega) (by omega), pk_lDiv (by omega) (by omega) (by omega), Nat.mul_div_mul_left _ _ (by omega)]
  · rw [if_neg q, if_neg q, pk_lDiv (by omega) (by omega) (by omega), zWl, pk_lDiv (by omega) (by omega) (by omega), hMW, Nat.mul_div_mul_left _ _ (by omega)]
/-! sums -/
def zSu (A : Nat → Nat) : Nat → Nat → Nat
  | 0, _ => 0
  | r + 1, g => A g + zSu A r (g + 1)
theorem zSu_9 (A : Nat → Nat) : zSu A 9 0 = zSum9 A := by
  simp only [zSu, zSum9, Nat.reduceAdd]; omega
theorem zSu_N {A : Nat → Nat} {N : Nat} (hN : N ≤ 9) (h : ∀ g, N ≤ g → g < 9 → A g = 0) : zSu A N 0 = zSum9 A := by
  rcases (show N = 0 ∨ N = 1 ∨ N = 2 ∨ N = 3 ∨ N = 4 ∨ N = 5 ∨ N = 6 ∨ N = 7 ∨ N = 8 ∨ N = 9 by omega) with q | q | q | q | q | q | q | q | q | q <;> subst q <;> simp [zSu, zSum9, h] <;> omega
theorem zx_together {A : Nat → Nat} {ic : Nat → Int64} (h : ∀ g, g < 9 → ic g = lN (A g)) : m_X0_together ic = lN (zSum9 A) := by
  have hl : ∀ (r g fuel b : Nat), g + r = 9 → r < fuel → lp_X0_together_2 rs_X0_together_2 ic fuel (nI g) (lN b) = lN (b + zSu A r g) := by
    intro r
    induction r with
    | zero =>
      intro g fuel b h1 h2
      obtain ⟨f, rfl⟩ : ∃ f, fuel = f + 1 := ⟨fuel - 1, by omega⟩
      rw [lp_X0_together_2, zn9, if_pos (nI_le (by omega) (by omega))]
      rfl
    | succ r ih =>
      intro g fuel b h1 h2
      obtain ⟨f, rfl⟩ : ∃ f, fuel = f + 1 := ⟨fuel - 1, by omega⟩
      rw [lp_X0_together_2, zn9, if_neg (nI_ge (by omega) (by omega))]
      simp only [cut]
      rw [nI_clamp (by omega), h g (by omega), lN_add, nI_1, ih (g + 1) f _ (by omega) (by omega), zSu, Nat.add_assoc]
  rw [← zSu_9]
  have := hl 9 0 11 0 (by omega) (by omega)
  rw [Nat.zero_add] at this
  exact this
theorem zm_together {A : Nat → Nat} {am : Nat → Int64} {N : Nat} (hN : N ≤ 9) (h : ∀ g, g < 9 → am g = lN (A g)) (h0 : ∀ g, N ≤ g → g < 9 → A g = 0) : m_X6_together (nI N) am = lN (zSum9 A) := by
  have hl : ∀ (r g fuel b : Nat), g + r = N → r < fuel → lp_X6_together_2 (nI N) rs_X6_together_2 am fuel (nI g) (lN b) = lN (b + zSu A r g) := by
    intro r
    induction r with
    | zero =>
      intro g fuel b h1 h2
      obtain ⟨f, rfl⟩ : ∃ f, fuel = f + 1 := ⟨fuel - 1, by omega⟩
      rw [lp_X6_together_2, if_pos (nI_le (by omega) (by omega))]
      rfl
    | succ r ih =>
      intro g fuel b h1 h2
      obtain ⟨f, rfl⟩ : ∃ f, fuel = f + 1 := ⟨fuel - 1, by omega⟩
      rw [lp_X6_together_2, if_neg (nI_ge (by omega) (by omega))]
      simp only [cut]
      rw [nI_clamp (by omega), h g (by omega), lN_add, nI_1, ih (g + 1) f _ (by omega) (by omega), zSu, Nat.add_assoc]
  rw [← zSu_N hN h0]
  have := hl N 0 11 0 (by omega) (by omega)
  rw [Nat.zero_add] at this
  exact this
theorem zSum9_12 {A : Nat → Nat} (h : ∀ j, j < 9 → 12 ∣ A j) : zSum9 A = 12 * zSum9 (fun j => A j / 12) := by
  have h0 := h 0 (by omega)
  have h1 := h 1 (by omega)
  have h2 := h 2 (by omega)
  have h3 := h 3 (by omega)
  have h4 := h 4 (by omega)
  have h5 := h 5 (by omega)
  have h6 := h 6 (by omega)
  have h7 := h 7 (by omega)
  have h8 := h 8 (by omega)
  simp only [zSum9]
  omega
/-! emptying, copying -/
theorem zx_fill {ic : Nat → Int64} : ∀ j, j < 9 → m_J7_fill_d0a16 ic 0 j = 0 := by
  have hl : ∀ (r g fuel : Nat) (b : Nat → Int64), g + r = 9 → r < fuel → (∀ j, j < g → b j = 0) → ∀ j, j < 9 → lp_J7_fill_d0a16_2 rs_J7_fill_d0a16_2 0 fuel (nI g) b j = 0 := by
    intro r
    induction r with
    | zero =>
      intro g fuel b h1 h2 hi
      obtain ⟨f, rfl⟩ : ∃ f, fuel = f + 1 := ⟨fuel - 1, by omega⟩
      rw [lp_J7_fill_d0a16_2, zn9, if_pos (nI_le (by omega) (by omega))]
      intro j hj
      exact hi j (by omega)
    | succ r ih =>
      intro g fuel b h1 h2 hi
      obtain ⟨f, rfl⟩ : ∃ f, fuel = f + 1 := ⟨fuel - 1, by omega⟩
      rw [lp_J7_fill_d0a16_2, zn9, if_neg (nI_ge (by omega) (by omega))]
      simp only [cut]
      rw [nI_clamp (by omega), nI_1]
      refine ih (g + 1) f _ (by omega) (by omega) (fun j hj => ?_)
      by_cases q : j = g
      · rw [q, pk_uLs]
      · rw [pk_uLn q]; exact hi j (by omega)
  exact hl 9 0 11 ic (by omega) (by omega) (fun j hj => by omega)
theorem zx_fillI {ic : Nat → Int32} : ∀ j, j < 9 → m_J7_fill_53178 ic 0 j = 0 := by
  have hl : ∀ (r g fuel : Nat) (b : Nat → Int32), g + r = 9 → r < fuel → (∀ j, j < g → b j = 0) → ∀ j, j < 9 → lp_J7_fill_53178_2 rs_J7_fill_53178_2 0 fuel (nI g) b j = 0 := by
    intro r
    induction r with
    | zero =>
      intro g fuel b h1 h2 hi
      obtain ⟨f, rfl⟩ : ∃ f, fuel = f + 1 := ⟨fuel - 1, by omega⟩
      rw [lp_J7_fill_53178_2, zn9, if_pos (nI_le (by omega) (by omega))]
      intro j hj
      exact hi j (by omega)
    | succ r ih =>
      intro g fuel b h1 h2 hi
      obtain ⟨f, rfl⟩ : ∃ f, fuel = f + 1 := ⟨fuel - 1, by omega⟩
      rw [lp_J7_fill_53178_2, zn9, if_neg (nI_ge (by omega) (by omega))]
      simp only [cut]
      rw [nI_clamp (by omega), nI_1]
      refine ih (g + 1) f _ (by omega) (by omega) (fun j hj => ?_)
      by_cases q : j = g
      · rw [q, pk_us]
      · rw [pk_un q]; exact hi j (by omega)
  exact hl 9 0 11 ic (by omega) (by omega) (fun j hj => by omega)
theorem zx_empty {ic : Nat → Int64} : zFp (fun _ => 0) (m_X0_makeEmpty ic) := ⟨rfl, fun g hg => zx_fill g hg⟩
theorem z_cl0 : (0 : Int32).toNatClampNeg = 0 := rfl
theorem z_cl9 : (9 : Int32).toNatClampNeg = 9 := rfl
theorem z_cl27 : (27 : Int32).toNatClampNeg = 27 := rfl
theorem z_cpy {α : Type} {f g : Nat → α} {n j : Nat} (h : j < n) : va_cpy f g 0 0 n j = f j := by
  rw [pk_cpy_in (by omega) (by omega)]
  simp
theorem zx_copy {A : Nat → Nat} {sp : Int64} {ic wc : Nat → Int64} (h : zFc A sp ic) : zFp A (m_X0_copyFrom wc sp ic) := by
  unfold m_X0_copyFrom
  simp only [cut]
  refine ⟨h.1, fun g hg => ?_⟩
  show va_cpy ic wc (0 : Int32).toNatClampNeg (0 : Int32).toNatClampNeg (9 : Int32).toNatClampNeg g = _
  rw [z_cl0, z_cl9, z_cpy hg]
  exact h.2 g hg
theorem zm_empty {am dm : Nat → Int64} : (m_X6_empty am dm).1 = 0 ∧ (m_X6_empty am dm).2.1 = 0 ∧ ∀ j, j < 9 → (m_X6_empty am dm).2.2.1 j = 0 ∧ (m_X6_empty am dm).2.2.2 j = 0 := by
  have hl : ∀ (r g fuel : Nat) (a b : Nat → Int64), g + r = 9 → r < fuel → (∀ j, j < g → a j = 0 ∧ b j = 0) → ∃ a' b' : Nat → Int64, lp_X6_empty_2 rs_X6_empty_2 fuel (nI g) a b = (0, 0, a', b') ∧ ∀ j, j < 9 → a' j = 0 ∧ b' j = 0 := by
    intro r
    induction r with
    | zero =>
      intro g fuel a b h1 h2 hi
      obtain ⟨f, rfl⟩ : ∃ f, fuel = f + 1 := ⟨fuel - 1, by omega⟩
      rw [lp_X6_empty_2, zn9, if_pos (nI_le (by omega) (by omega))]
      exact ⟨a, b, rfl, fun j hj => hi j (by omega)⟩
    | succ r ih =>
      intro g fuel a b h1 h2 hi
      obtain ⟨f, rfl⟩ : ∃ f, fuel = f + 1 := ⟨fuel - 1, by omega⟩
      rw [lp_X6_empty_2, zn9, if_neg (nI_ge (by omega) (by omega))]
      simp only [cut]
      rw [nI_clamp (by omega), nI_1]
      refine ih (g + 1) f _ _ (by omega) (by omega) (fun j hj => ?_)
      by_cases q : j = g
      · rw [q, pk_uLs, pk_uLs]; exact ⟨rfl, rfl⟩
      · rw [pk_uLn q, pk_uLn q]; exact hi j (by omega)
  obtain ⟨a', b', e, h⟩ := hl 9 0 11 am dm (by omega) (by omega) (fun j hj => by omega)
  unfold m_X6_empty
  rw [show (0 : Int32) = nI 0 from rfl, e]
  exact ⟨rfl, rfl, h⟩
/-! full or not -/
theorem zx_isFull {N : Nat} {L t C : Nat → Nat} {S : Nat → Nat → Nat} {sz : Int32} {kd tk sc sh : Nat → Int32} (h : zStd N L t C S sz kd tk sc sh) {A : Nat → Nat} {ic : Nat → Int64} (hf : ∀ g, g < 9 → ic g = lN (A g)) (hB : ∀ g, g < 9 → A g < 2 ^ 62) {g : Nat} (hg : g < N) : m_X0_isFull ic sz tk (nI g) = if A g = t g * zM then 1 else 0 := by
  have hN := h.1
  obtain ⟨-, e2, e3, -⟩ := h.2.2 g hg
  have hT := zM_lt e3
  have hA := hB g (by omega)
  unfold m_X0_isFull
  simp only [cut]
  rw [h.2.1, zx_has hN hg, if_neg (by decide), nI_clamp (by omega), e2, nI_l (by omega), zMl, lN_mul, hf g (by omega)]
  simp only [zc_eq (show A g < 2 ^ 63 by omega) (show t g * zM < 2 ^ 63 by omega)]
theorem zm_isFull {N : Nat} {K Hd C : Nat → Nat} {S : Nat → Nat → Nat} {gl : Int32} {rows : Nat → Int32} (h : zTow N K Hd C S) (hm : zStM N K Hd C S gl rows) {A : Nat → Nat} {am : Nat → Int64} (hf : zFm A am) (hd : zDv A) (hB : ∀ g, g < 9 → A g < 2 ^ 62) {g : Nat} (hg : g < N) : m_X6_isFull rows am (nI g) = if A g = zT K Hd g * zM then 1 else 0 := by
  have hN := h.1
  have hT := zT_le h hg
  have hM := zM_lt hT
  have hA := hB g (by omega)
  have hW := zMW (zT K Hd g)
  have hA12 := zDv12 hd (j := g) (by omega)
  unfold m_X6_isFull
  simp only [cut]
  rw [zm_takesOf h hm hg, nI_clamp (by omega), nI_l (by omega), zWl, lN_mul, hf g (by omega), Nat.mul_comm zW]
  simp only [zc_eq (show A g / 12 < 2 ^ 63 by omega) (show zT K Hd g * zW < 2 ^ 63 by omega)]
  by_cases q : A g = zT K Hd g * zM
  · rw [if_pos q, if_pos (by omega)]
  · rw [if_neg q, if_neg (by omega)]
theorem z_fullMany {N : Nat} {K Hd C : Nat → Nat} {S : Nat → Nat → Nat} {sz : Int32} {kd hd tk sc sh : Nat → Int32} {gl : Int32} {rows : Nat → Int32} (h : zTow N K Hd C S) (hc : zStC N K Hd C S sz kd hd tk sc sh) (hm : zStM N K Hd C S gl rows) {A : Nat → Nat} {ic am : Nat → Int64} (hf : ∀ g, g < 9 → ic g = lN (A g)) (hf2 : zFm A am) (hd' : zDv A) (hB : ∀ g, g < 9 → A g < 2 ^ 62) : m_X0_howManyFull ic sz tk = m_X6_fullMany gl rows am := by
  have hN := h.1
  have hl : ∀ (r g fuel : Nat) (b : Int32), g + r = N → r < fuel → lp_X0_howManyFull_2 sz rs_X0_howManyFull_2 ic tk fuel (nI g) b = lp_X6_fullMany_2 gl rs_X6_fullMany_2 rows am fuel (nI g) b := by
    intro r
    induction r with
    | zero =>
      intro g fuel b h1 h2
      obtain ⟨f, rfl⟩ : ∃ f, fuel = f + 1 := ⟨fuel - 1, by omega⟩
      rw [lp_X0_howManyFull_2, lp_X6_fullMany_2, hc.1, hm.1, if_pos (nI_le (by omega) (by omega)), if_pos (nI_le (by omega) (by omega))]
      rfl
    | succ r ih =>
      intro g fuel b h1 h2
      obtain ⟨f, rfl⟩ : ∃ f, fuel = f + 1 := ⟨fuel - 1, by omega⟩
      have e1 := zx_isFull (zx_std h hc) hf hB (g := g) (by omega)
      have e2 := zm_isFull h hm hf2 hd' hB (g := g) (by omega)
      have l1 : ¬ sz ≤ nI g := by rw [hc.1]; exact nI_ge (by omega) (by omega)
      have l2 : ¬ gl ≤ nI g := by rw [hm.1]; exact nI_ge (by omega) (by omega)
      rw [lp_X0_howManyFull_2, lp_X6_fullMany_2, if_neg l1, if_neg l2]
      simp only [cut]
      rw [e1, e2, nI_1, ih (g + 1) f _ (by omega) (by omega), ih (g + 1) f _ (by omega) (by omega)]
      by_cases q : A g = zT K Hd g * zM
      · rw [if_pos q, if_neg (by decide), if_neg (by decide)]
      · rw [if_neg q, if_pos rfl, if_pos rfl, Int32.add_zero]
  exact hl N 0 11 0 (by omega) (by omega)
