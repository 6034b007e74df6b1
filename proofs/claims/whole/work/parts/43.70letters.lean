/-! letters: the bytes of a long -/
theorem zw_cnt : ∀ k, k < 64 → ((nI k).toInt64.toUInt64 &&& Int64.toUInt64 63).toNat = k := by decide +kernel
theorem zw_shr {n k : Nat} (hn : n < 2 ^ 64) (hk : k < 64) : ((lN n).toUInt64 >>> ((nI k).toInt64.toUInt64 &&& Int64.toUInt64 63)).toInt64 = lN (n / 2 ^ k) := by
  apply Int64.toBitVec_inj.mp
  apply BitVec.eq_of_toNat_eq
  show ((lN n).toUInt64 >>> ((nI k).toInt64.toUInt64 &&& Int64.toUInt64 63)).toNat = (BitVec.ofNat 64 (n / 2 ^ k)).toNat
  have h2 : (lN n).toUInt64.toNat = n := by
    show (BitVec.ofNat 64 n).toNat = n
    rw [BitVec.toNat_ofNat, Nat.mod_eq_of_lt hn]
  rw [UInt64.toNat_shiftRight, zw_cnt k hk, h2, Nat.mod_eq_of_lt hk, Nat.shiftRight_eq_div_pow, BitVec.toNat_ofNat, Nat.mod_eq_of_lt (Nat.lt_of_le_of_lt (Nat.div_le_self _ _) hn)]
def zBy (n k : Nat) : Nat := n / 2 ^ (8 * k) % 2 ^ 8
theorem zBy_lt (n k : Nat) : zBy n k < 2 ^ 8 := Nat.mod_lt _ (by omega)
theorem zx_code {n k : Nat} (hn : n < 2 ^ 64) (hk : k < 8) : m_X5_codeAt (lN n) (nI k) = nI (zBy n k) := by
  unfold m_X5_codeAt
  rw [show (8 : Int32) = nI 8 from rfl, pk_mul, zw_shr hn (by omega), show (255 : Int64) = lN (2 ^ 8 - 1) from rfl, zw_mask, lN_i]
  rfl
theorem zm_byte (n k : Nat) : (lN (n / 2 ^ (8 * k)) &&& 255).toInt32 = nI (zBy n k) := by
  rw [show (255 : Int64) = lN (2 ^ 8 - 1) from rfl, zw_mask, lN_i]
  rfl
theorem zm_shift {n k : Nat} (hn : n < 2 ^ 64) : ((lN (n / 2 ^ (8 * k))).toUInt64 >>> ((8 : Int32).toInt64.toUInt64 &&& Int64.toUInt64 63)).toInt64 = lN (n / 2 ^ (8 * (k + 1))) := by
  rw [show (8 : Int32) = nI 8 from rfl, zw_shr (Nat.lt_of_le_of_lt (Nat.div_le_self _ _) hn) (by omega), Nat.div_div_eq_div_mul, ← Nat.pow_add, show 8 * k + 8 = 8 * (k + 1) by omega]
theorem zm_lettersBad (ct : Int32 → Int64 → Int32 → Int32 → (Int32 × Int32 × (Nat → Int32))) : ∀ (r k fuel : Nat) (left : Int64) (many : Int32), k + r = 8 → r < fuel → ∃ (a : Int32) (b : Int64) (d : Int32), lp_X6_letters_3 ct fuel (nI k) left 0 many = ct a b 0 d := by
  intro r
  induction r with
  | zero =>
    intro k fuel left many e1 e2
    obtain ⟨f, rfl⟩ : ∃ f, fuel = f + 1 := ⟨fuel - 1, by omega⟩
    rw [lp_X6_letters_3, show (8 : Int32) = nI 8 from rfl, if_pos (nI_le (by omega) (by omega))]
    exact ⟨_, _, _, rfl⟩
  | succ r ih =>
    intro k fuel left many e1 e2
    obtain ⟨f, rfl⟩ : ∃ f, fuel = f + 1 := ⟨fuel - 1, by omega⟩
    rw [lp_X6_letters_3, show (8 : Int32) = nI 8 from rfl, if_neg (nI_ge (by omega) (by omega))]
    simp only [z_cut]
    rw [if_pos trivial, nI_1]
    exact ih (k + 1) f _ _ (by omega) (by omega)
theorem z_lettersIn {n : Nat} (hn : n < 2 ^ 64) (ct : Int32 → Int64 → Int32 → Int32 → (Int32 × Int32 × (Nat → Int32))) : ∀ (r k fuel l : Nat), k + r = 8 → r < fuel → l ≤ k → (∀ j, j < l → 1 ≤ zBy n j ∧ zBy n j ≤ 126) → (lp_X5_lettersIn_2 rs_X5_lettersIn_2 (lN n) fuel (nI k) (nI l) = -1 ∧ ∃ (a : Int32) (b : Int64) (d : Int32), lp_X6_letters_3 ct fuel (nI k) (lN (n / 2 ^ (8 * k))) 1 (nI l) = ct a b 0 d) ∨ (∃ (l' : Nat) (a : Int32) (b : Int64), l' ≤ 8 ∧ (∀ j, j < l' → 1 ≤ zBy n j ∧ zBy n j ≤ 126) ∧ lp_X5_lettersIn_2 rs_X5_lettersIn_2 (lN n) fuel (nI k) (nI l) = nI l' ∧ lp_X6_letters_3 ct fuel (nI k) (lN (n / 2 ^ (8 * k))) 1 (nI l) = ct a b 1 (nI l')) := by
  intro r
  induction r with
  | zero =>
    intro k fuel l e1 e2 e3 hi
    obtain ⟨f, rfl⟩ : ∃ f, fuel = f + 1 := ⟨fuel - 1, by omega⟩
    rw [lp_X6_letters_3, lp_X5_lettersIn_2, show (8 : Int32) = nI 8 from rfl, if_pos (nI_le (by omega) (by omega)), if_pos (nI_le (by omega) (by omega))]
    exact Or.inr ⟨l, _, _, by omega, hi, rfl, rfl⟩
  | succ r ih =>
    intro k fuel l e1 e2 e3 hi
    obtain ⟨f, rfl⟩ : ∃ f, fuel = f + 1 := ⟨fuel - 1, by omega⟩
    have hb := zBy_lt n k
    rw [lp_X6_letters_3, lp_X5_lettersIn_2]
    simp only [z_cut]
    rw [zx_code hn (show k < 8 by omega), zm_byte, zm_shift hn, show (8 : Int32) = nI 8 from rfl, if_neg (nI_ge (show k < 8 by omega) (by omega)), if_neg (nI_ge (show k < 8 by omega) (by omega)), show (126 : Int32) = nI 126 from rfl, if_neg (show ¬ (1 : Int32) = 0 by decide), nI_1]
    by_cases q : 126 < zBy n k
    · rw [if_pos (nI_lt q (by omega)), if_pos (nI_lt q (by omega))]
      exact Or.inl ⟨rfl, zm_lettersBad ct r (k + 1) f _ _ (by omega) (by omega)⟩
    · rw [if_neg (nI_nlt (show zBy n k ≤ 126 by omega) (by omega)), if_neg (nI_nlt (show zBy n k ≤ 126 by omega) (by omega))]
      by_cases q0 : zBy n k = 0
      · have z0 : nI (zBy n k) = 0 := by rw [q0]; rfl
        have z1 : nI (zBy n k) ≤ 0 := by rw [q0]; decide
        rw [if_pos z0, if_pos z0, if_pos z0, if_pos z1, Int32.add_zero]
        exact ih (k + 1) f l (by omega) (by omega) (by omega) hi
      · have z0 : ¬ nI (zBy n k) = 0 := nI_ne0 (by omega) (by omega)
        have z1 : ¬ nI (zBy n k) ≤ 0 := nI_nle (by omega) (by omega)
        rw [if_neg z0, if_neg z0, if_neg z0, if_neg z1, nI_1]
        by_cases ql : l = k
        · have c1 : nI k ≤ nI l := nI_le (by omega) (by omega)
          have c2 : nI l = nI k := by rw [ql]
          rw [if_pos c1, if_pos rfl, if_pos c2]
          refine ih (k + 1) f (l + 1) (by omega) (by omega) (by omega) (fun j hj => ?_)
          by_cases qj : j = k
          · rw [qj]; omega
          · exact hi j (by omega)
        · have c1 : ¬ nI k ≤ nI l := nI_ge (by omega) (by omega)
          have c2 : ¬ nI l = nI k := fun x => ql ((nI_eq (by omega) (by omega)).mp x)
          rw [if_neg c1, if_neg (show ¬ (1 : Int32) = 0 by decide), if_neg c2]
          exact Or.inl ⟨rfl, zm_lettersBad ct r (k + 1) f _ _ (by omega) (by omega)⟩
theorem zx_write {P v : Nat} (hP : P < 70) (hv : v ≤ 126) (codes : Nat → Int32) : m_X1_write (nI P) codes (nI v) = (nI (P + 1), upd codes P (nI v)) := by
  unfold m_X1_write
  rw [show (70 : Int32) = nI 70 from rfl, if_neg (nI_ge hP (by omega))]
  simp only [z_cut]
  rw [nI_clamp (by omega), pk_vc, pk_char, pk_tn (by omega), Nat.mod_eq_of_lt (by omega), nI_1]
theorem z_lettersLoop {n l : Nat} (hn : n < 2 ^ 64) (hl : l ≤ 8) (hb : ∀ j, j < l → 1 ≤ zBy n j ∧ zBy n j ≤ 126) : ∀ (r k fuel P : Nat) (pc pg : Nat → Int32), k + r = l → r < fuel → P + r ≤ 70 → (∀ j, j < P → ∃ ch : Nat, 1 ≤ ch ∧ ch ≤ 126 ∧ pc j = nI ch ∧ pg j = nI ch) → ∃ pc' pg' : Nat → Int32, lp_X5_letters_2 (nI l) rs_X5_letters_2 (lN n) fuel (nI k) (nI P) pc = (nI (P + r), nI (P + r), pc') ∧ lp_X6_letters_4 (nI l) rs_X6_letters_4 (lN n) fuel (nI k) (nI P) pg = (nI (P + r), nI (P + r), pg') ∧ ∀ j, j < P + r → ∃ ch : Nat, 1 ≤ ch ∧ ch ≤ 126 ∧ pc' j = nI ch ∧ pg' j = nI ch := by
  intro r
  induction r with
  | zero =>
    intro k fuel P pc pg e1 e2 e3 hi
    obtain ⟨f, rfl⟩ : ∃ f, fuel = f + 1 := ⟨fuel - 1, by omega⟩
    rw [lp_X5_letters_2, lp_X6_letters_4, if_pos (nI_le (by omega) (by omega)), if_pos (nI_le (by omega) (by omega))]
    exact ⟨pc, pg, rfl, rfl, hi⟩
  | succ r ih =>
    intro k fuel P pc pg e1 e2 e3 hi
    obtain ⟨f, rfl⟩ : ∃ f, fuel = f + 1 := ⟨fuel - 1, by omega⟩
    have hk := hb k (by omega)
    have hcode := zx_code hn (show k < 8 by omega)
    have hcode2 : (((lN n).toUInt64 >>> ((8 * nI k).toInt64.toUInt64 &&& Int64.toUInt64 63)).toInt64 &&& 255).toInt32 = nI (zBy n k) := hcode
    rw [lp_X5_letters_2, lp_X6_letters_4, if_neg (nI_ge (show k < l by omega) (by omega)), if_neg (nI_ge (show k < l by omega) (by omega))]
    simp only [z_cut]
    rw [hcode, hcode2, zx_write (show P < 70 by omega) hk.2]
    simp only [z_cut2]
    rw [nI_clamp (show P < 2 ^ 31 by omega), nI_1, nI_1, show P + (r + 1) = (P + 1) + r by omega]
    refine ih (k + 1) f (P + 1) _ _ (by omega) (by omega) (by omega) (fun j hj => ?_)
    by_cases q : j = P
    · rw [q, pk_us, pk_us]; exact ⟨zBy n k, hk.1, hk.2, rfl, rfl⟩
    · rw [pk_un q, pk_un q]; exact hi j (by omega)
theorem z_letters {ps : Int32} {pc : Nat → Int32} {pm : Int32} {pg : Nat → Int32} (h : zPg ps pc pm pg) (w : Int64) : ∃ (r c1 : Int32) (c2 : Nat → Int32) (d1 : Int32) (d2 : Nat → Int32), m_X5_letters ps pc w = (r, c1, c2) ∧ m_X6_letters pm pg w = (r, d1, d2) ∧ zPg c1 c2 d1 d2 := by
  obtain ⟨n, hn, rfl⟩ := zw_of w
  obtain ⟨P, hP, rfl, rfl, hi⟩ := h
  have hin := z_lettersIn hn (rs_X6_letters_3 (nI P) pg (lN n)) 8 0 10 0 (by omega) (by omega) (by omega) (fun j hj => by omega)
  rw [show n / 2 ^ (8 * 0) = n from Nat.div_one n] at hin
  unfold m_X5_letters m_X6_letters m_X5_lettersIn
  simp only [z_cut]
  rcases hin with ⟨a, x, b, d, e⟩ | ⟨l, a, b, h1, h2, h3, h4⟩
  · rw [show (0 : Int32) = nI 0 from rfl, a, e]
    unfold rs_X6_letters_3
    rw [if_neg (show ¬ nI 0 ≤ -1 by decide), if_pos rfl]
    exact ⟨_, _, _, _, _, rfl, rfl, P, hP, rfl, rfl, hi⟩
  · rw [show (0 : Int32) = nI 0 from rfl, h3, h4]
    unfold rs_X6_letters_3
    rw [if_pos (nI_le (Nat.zero_le _) (by omega)), if_neg (show ¬ (1 : Int32) = 0 by decide), nI_add, show (70 : Int32) = nI 70 from rfl]
    by_cases q : P + l ≤ 70
    · rw [if_pos (nI_le q (by omega)), if_pos (nI_le q (by omega))]
      obtain ⟨pc', pg', g1, g2, g3⟩ := z_lettersLoop hn h1 h2 l 0 10 P pc pg (by omega) (by omega) (by omega) hi
      rw [g1, show (0 : Int32) = nI 0 from rfl, g2]
      exact ⟨_, _, _, _, _, rfl, rfl, P + l, q, rfl, rfl, g3⟩
    · rw [if_neg (nI_ge (by omega) (by omega)), if_neg (nI_ge (by omega) (by omega))]
      exact ⟨_, _, _, _, _, rfl, rfl, P, hP, rfl, rfl, hi⟩
