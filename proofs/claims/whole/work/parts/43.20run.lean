/-! the machine's numbers; the run over of the class and of the reference, as the flow -/
theorem zc_le {a b : Nat} (ha : a < 2 ^ 63) (hb : b < 2 ^ 63) : lg_cmp (lN a) (lN b) ≤ 0 ↔ a ≤ b := by rw [zlc_le, pk_lT ha, pk_lT hb]; omega
theorem zc_ge {a b : Nat} (ha : a < 2 ^ 63) (hb : b < 2 ^ 63) : 0 ≤ lg_cmp (lN a) (lN b) ↔ b ≤ a := by rw [zlc_ge, pk_lT ha, pk_lT hb]; omega
theorem zc_eq {a b : Nat} (ha : a < 2 ^ 63) (hb : b < 2 ^ 63) : lg_cmp (lN a) (lN b) = 0 ↔ a = b := by rw [zlc_eq, pk_lT ha, pk_lT hb]; omega
theorem zl0 : (0 : Int64) = lN 0 := rfl
theorem zMl : (5159780352 : Int64) = lN zM := rfl
theorem zWl : (429981696 : Int64) = lN zW := rfl
theorem zn0 : (0 : Int32) = nI 0 := rfl
theorem zn1 : (1 : Int32) = nI 1 := rfl
theorem zn2 : (2 : Int32) = nI 2 := rfl
theorem zn3 : (3 : Int32) = nI 3 := rfl
theorem zn4 : (4 : Int32) = nI 4 := rfl
theorem zn6 : (6 : Int32) = nI 6 := rfl
theorem zn9 : (9 : Int32) = nI 9 := rfl
theorem zsubT {a b : Nat} (ha : a < 2 ^ 62) (hb : b < 2 ^ 62) : (lN a - lN b).toInt = (a : Int) - b := by
  rw [Int64.toInt_sub, pk_lT (by omega), pk_lT (by omega), Int.bmod_def]
  have e : ((2 ^ 64 : Nat) : Int) = 18446744073709551616 := by decide
  rw [e]; omega
theorem zc_sub0 {a b : Nat} (ha : a < 2 ^ 62) (hb : b < 2 ^ 62) : lg_cmp (lN a - lN b) 0 ≤ 0 ↔ a ≤ b := by
  rw [zlc_le, zsubT ha hb]
  have e : (0 : Int64).toInt = 0 := by decide
  rw [e]; omega
theorem zx_has {N g : Nat} (hN : N ≤ 9) (hg : g < N) : m_X3_has (nI N) (nI g) = 1 := by
  unfold m_X3_has
  rw [if_neg (nI_pos (by omega)), if_neg (nI_ge hg (by omega))]
theorem zx_hasnt {N : Nat} (hN : N ≤ 9) : m_X3_has (nI N) (nI 9) = 0 := by
  unfold m_X3_has
  rw [if_neg (nI_pos (by omega)), if_pos (nI_le hN (by omega))]
def zFp (A : Nat → Nat) (r : Int64 × (Nat → Int64)) : Prop := zFc A r.1 r.2
def zGp (A : Nat → Nat) (x : Int64) (r : Int64 × (Nat → Int64)) : Prop := r.1 = x ∧ zFm A r.2
/-- the stand of the class, as far as the run over looks at it -/
def zStd (N : Nat) (L t C : Nat → Nat) (S : Nat → Nat → Nat) (sz : Int32) (kd tk sc sh : Nat → Int32) : Prop := N ≤ 9 ∧ sz = nI N ∧ ∀ g, g < N → (L g = if kd g = 3 then 1 else 0) ∧ tk g = nI (t g) ∧ t g ≤ 9 ∧ sc g = nI (C g) ∧ C g ≤ 3 ∧ ∀ k, k < C g → sh (3 * g + k) = nI (S g k) ∧ (S g k = 9 ∨ (g < S g k ∧ S g k < N))
def zStr (N : Nat) (L t C : Nat → Nat) (S : Nat → Nat → Nat) (gl : Int32) (rows : Nat → Int32) (tk : Nat → Int64) (ln : Nat → Int32) : Prop := N ≤ 9 ∧ gl = nI N ∧ ∀ g, g < N → L g ≤ 1 ∧ ln g = nI (L g) ∧ tk g = lN (t g * zW) ∧ t g ≤ 9 ∧ rows (6 * g + 2) = nI (C g) ∧ C g ≤ 3 ∧ ∀ k, k < C g → rows (6 * g + 3 + k) = nI (S g k) ∧ (S g k = 9 ∨ (g < S g k ∧ S g k < N))
theorem zStd.ok {N : Nat} {L t C : Nat → Nat} {S : Nat → Nat → Nat} {sz : Int32} {kd tk sc sh : Nat → Int32} (h : zStd N L t C S sz kd tk sc sh) : zEok N (zE L C S) := zE_ok h.1 (fun g hg => by
  obtain ⟨h1, -, -, -, h5, h6⟩ := h.2.2 g hg
  exact ⟨h5, by rw [h1]; split <;> omega, fun k hk => (h6 k hk).2⟩)
theorem zStr.ok {N : Nat} {L t C : Nat → Nat} {S : Nat → Nat → Nat} {gl : Int32} {rows : Nat → Int32} {tk : Nat → Int64} {ln : Nat → Int32} (h : zStr N L t C S gl rows tk ln) : zEok N (zE L C S) := zE_ok h.1 (fun g hg => by
  obtain ⟨h1, -, -, -, -, h5, h6⟩ := h.2.2 g hg
  exact ⟨h5, h1, fun k hk => (h6 k hk).2⟩)
theorem zx_shareLoop {N g c l O : Nat} {s : Nat → Nat} {A : Nat → Nat} {sh : Nat → Int32} (hN : N ≤ 9) (hg : g < N) (hc : c ≤ 3) (hl : l ≤ 1) (hO : O / (c + l) * (c + l) = O) (hs : ∀ k, k < c → sh (3 * g + k) = nI (s k) ∧ (s k = 9 ∨ (g < s k ∧ s k < N))) : ∀ (fuel k : Nat) (b5 : Int64) (b6 : Nat → Int64), k ≤ c → c < fuel + k → zFc (fun j => A j + zEk c s l O j k) b5 b6 → zFp (fun j => A j + zEk c s l O j c) (lp_X0_shareOut_2 (nI c) rs_X0_shareOut_2 sh (nI g) (lN O) (lN (O / (c + l))) (nI N) fuel (nI k) b5 b6)
  | 0, k, _, _, h1, h2, _ => by omega
  | f + 1, k, b5, b6, h1, h2, h => by
    rw [lp_X0_shareOut_2]
    by_cases q : k = c
    · subst q
      rw [if_pos (nI_le (Nat.le_refl _) (by omega))]
      exact h
    · rw [if_neg (nI_ge (by omega) (by omega))]
      obtain ⟨e1, e2⟩ := hs k (by omega)
      have ei : (nI g * 3 + nI k).toNatClampNeg = 3 * g + k := by
        rw [zn3, pk_mul, nI_add, nI_clamp (by omega)]; omega
      have ej : (if nI k = 0 then lN O - lN (O / (c + l)) * (nI c - 1).toInt64 else lN (O / (c + l))) = lN (O / (c + l) * (if k = 0 then 1 + l else 1)) := by
        by_cases k0 : k = 0
        · subst k0
          have hP : O / (c + l) * (c - 1) + O / (c + l) * (1 + l) = O := by
            rw [← Nat.mul_add, show c - 1 + (1 + l) = c + l by omega]; exact hO
          rw [if_pos nI_0, if_pos rfl, zn1, pk_sub (by omega), nI_l (by omega), lN_mul, lN_sub (by omega)]
          congr 1
          omega
        · rw [if_neg (nI_ne0 (by omega) (by omega)), if_neg k0, Nat.mul_one]
      simp only [cut]
      rw [ei, e1, ej, nI_1]
      have hz : ∀ j, zEk c s l O j (k + 1) = zEk c s l O j k + (if s k = j then O / (c + l) * (if k = 0 then 1 + l else 1) else 0) := fun j => rfl
      rcases e2 with t | t
      · rw [t, zx_hasnt hN, if_pos rfl]
        refine zx_shareLoop hN hg hc hl hO hs f (k + 1) _ _ (by omega) (by omega) ⟨?_, fun j hj => ?_⟩
        · show b5 + _ = lN (A 9 + zEk c s l O 9 (k + 1))
          rw [h.1, lN_add, hz, if_pos t, Nat.add_assoc]
        · show b6 j = lN (A j + zEk c s l O j (k + 1))
          rw [h.2 j hj, hz, if_neg (by omega)]
          rfl
      · rw [zx_has hN t.2, if_neg (by decide), nI_clamp (by omega)]
        refine zx_shareLoop hN hg hc hl hO hs f (k + 1) _ _ (by omega) (by omega) ⟨?_, fun j hj => ?_⟩
        · show b5 = lN (A 9 + zEk c s l O 9 (k + 1))
          rw [h.1, hz, if_neg (by omega)]
          rfl
        · show vp_updL b6 (s k) (b6 (s k) + _) j = lN (A j + zEk c s l O j (k + 1))
          by_cases hj2 : j = s k
          · rw [hj2, pk_uLs, h.2 (s k) (by omega), lN_add, hz, if_pos rfl, Nat.add_assoc]
          · rw [pk_uLn hj2, h.2 j hj, hz, if_neg (fun q => hj2 q.symm)]
            rfl
theorem zx_shareOut {N : Nat} {L t C : Nat → Nat} {S : Nat → Nat → Nat} {sz : Int32} {kd tk sc sh : Nat → Int32} (h : zStd N L t C S sz kd tk sc sh) {g O : Nat} {B : Nat → Nat} {b5 : Int64} {b6 : Nat → Int64} (hg : g < N) (hO : 12 ^ (9 - g) ∣ O) (hB : O < 2 ^ 62) (hf : zFc B b5 b6) : zFp (fun j => B j + zE L C S g O j) (m_X0_shareOut b5 b6 sz kd sc sh (nI g) (lN O)) := by
  obtain ⟨hN, rfl, hh⟩ := h
  obtain ⟨h1, -, -, h4, h5, h6⟩ := hh g hg
  have hL : L g ≤ 1 := by rw [h1]; split <;> omega
  unfold m_X0_shareOut
  have hp : m_X3_partsOf (nI N) kd sc (nI g) = nI (if C g = 0 then 0 else C g + L g) := by
    unfold m_X3_partsOf
    simp only [cut]
    rw [zx_has hN hg, if_neg (by decide), nI_clamp (by omega), h4]
    by_cases c0 : C g = 0
    · rw [if_pos (by rw [c0]; rfl), if_pos c0]; rfl
    · rw [if_neg (nI_ne0 (by omega) (by omega)), if_neg c0, h1]
      split
      · rw [nI_1]
      · rfl
  simp only [cut]
  rw [hp, nI_clamp (by omega), h4]
  by_cases c0 : C g = 0
  · rw [if_pos c0, if_neg (by decide)]
    refine ⟨?_, fun j hj => ?_⟩
    · show b5 + lN O = lN (B 9 + zE L C S g O 9)
      unfold zE
      rw [if_pos c0, if_pos rfl, hf.1, lN_add]
    · show b6 j = lN (B j + zE L C S g O j)
      unfold zE
      rw [if_pos c0, if_neg (by omega), hf.2 j hj]
      rfl
  · rw [if_neg c0, if_pos (by rw [zn0]; exact nI_lt (by omega) (by omega)), nI_l (by omega), pk_lDiv (by omega) (by omega) (by omega)]
    have hb := zby (Nat.pos_of_ne_zero c0) h5 hL
    have hd : (C g + L g) ∣ O := by
      rw [show 9 - g = (8 - g) + 1 by omega] at hO
      exact (zdivp hO hb).1
    have e : zE L C S g O = fun j => zEk (C g) (S g) (L g) O j (C g) := by funext j; unfold zE; rw [if_neg c0]
    rw [e]
    exact zx_shareLoop hN hg h5 hL (Nat.div_mul_cancel hd) h6 5 0 b5 b6 (by omega) (by omega) hf
theorem zx_runLoop {N : Nat} {L t C : Nat → Nat} {S : Nat → Nat → Nat} {sz : Int32} {kd tk sc sh : Nat → Int32} (h : zStd N L t C S sz kd tk sc sh) {T : Nat → Nat} (hT : ∀ g, 12 ^ 9 ∣ T g) (hTT : ∀ g, g < N → T g < 2 ^ 62 ∧ (tk g).toInt64 * 5159780352 = lN (T g)) : ∀ (r g fuel : Nat) (A : Nat → Nat) (b2 : Int64) (b3 : Nat → Int64), g + r = N → r < fuel → zDv A → zS10 A < 2 ^ 62 → zFc A b2 b3 → zFp (zRn T (zE L C S) r g A) (lp_X0_runOver_2 sz rs_X0_runOver_2 tk kd sc sh fuel (nI g) b2 b3) := by
  intro r
  induction r with
  | zero =>
    intro g fuel A b2 b3 h1 h2 hd hB hf
    obtain ⟨f, rfl⟩ : ∃ f, fuel = f + 1 := ⟨fuel - 1, by omega⟩
    have hN := h.1
    rw [lp_X0_runOver_2, h.2.1, if_pos (nI_le (by omega) (by omega))]
    exact hf
  | succ r ih =>
    intro g fuel A b2 b3 h1 h2 hd hB hf
    obtain ⟨f, rfl⟩ : ∃ f, fuel = f + 1 := ⟨fuel - 1, by omega⟩
    have hN := h.1
    have hok := h.ok
    have hA := zS10_le (A := A) (j := g) (by omega)
    have hgg : g < N := by omega
    obtain ⟨hTb, e2⟩ := hTT g hgg
    have ho := zover_dvd hok hT hgg hd
    rw [lp_X0_runOver_2, h.2.1, if_neg (nI_ge (by omega) (by omega)), nI_clamp (by omega), e2, hf.2 g (by omega), nI_1]
    simp only [cut, cut2]
    rw [zRn]
    by_cases q : A g ≤ T g
    · rw [if_pos ((zc_sub0 (by omega) hTb).mpr q), zSt_fix hok hgg q, ← h.2.1]
      exact ih (g + 1) f A b2 b3 (by omega) (by omega) hd hB hf
    · rw [if_neg (fun x => q ((zc_sub0 (by omega) hTb).mp x)), lN_sub (by omega), lN_sub (by omega), ← h.2.1]
      have hB2 : zFc (fun j => if j = g then T g else A j) b2 (vp_updL b3 g (lN (A g - (A g - T g)))) := by
        refine ⟨?_, fun j hj => ?_⟩
        · show b2 = lN (if 9 = g then _ else A 9)
          rw [if_neg (by omega)]; exact hf.1
        · show vp_updL b3 g _ j = lN (if j = g then T g else A j)
          by_cases hj2 : j = g
          · rw [hj2, pk_uLs, if_pos rfl, show A g - (A g - T g) = T g by omega]
          · rw [pk_uLn hj2, if_neg hj2]; exact hf.2 j hj
      have hS := zx_shareOut h hgg ho (by omega) hB2
      have e : (fun j => (if j = g then T g else A j) + zE L C S g (A g - T g) j) = zSt T (zE L C S) g A := by
        funext j
        unfold zSt
        by_cases hj2 : j = g
        · rw [if_pos hj2, if_pos hj2, hj2, (hok.2 g hgg).2.2.1 _ g (by omega)]
          show T g + 0 = min (A g) (T g)
          omega
        · rw [if_neg hj2, if_neg hj2]
      rw [e] at hS
      refine ih (g + 1) f _ _ _ (by omega) (by omega) (zSt_dv hok hT hgg hd) ?_ hS
      rw [zSt_sum hok hT hgg hd]; exact hB
theorem zM_lt {t : Nat} (h : t ≤ 9) : t * zM < 2 ^ 62 := by
  have h2 : t * zM ≤ 9 * zM := Nat.mul_le_mul_right _ h
  exact Nat.lt_of_le_of_lt h2 (by decide)
theorem zx_run {N : Nat} {L t C : Nat → Nat} {S : Nat → Nat → Nat} {sz : Int32} {kd tk sc sh : Nat → Int32} (h : zStd N L t C S sz kd tk sc sh) {A : Nat → Nat} {b2 : Int64} {b3 : Nat → Int64} (hd : zDv A) (hB : zS10 A < 2 ^ 62) (hf : zFc A b2 b3) : zFp (zRn (fun g => t g * zM) (zE L C S) N 0 A) (m_X0_runOver b2 b3 sz kd tk sc sh) := by
  have hN := h.1
  refine zx_runLoop h (T := fun g => t g * zM) (fun g => zM_dvd _) (fun g hg => ?_) N 0 11 A b2 b3 (by omega) (by omega) hd hB hf
  obtain ⟨-, e2, e3, -⟩ := h.2.2 g hg
  refine ⟨zM_lt e3, ?_⟩
  rw [e2, nI_l (by omega), zMl, lN_mul]
/-- pouring so many measures into a glass -/
def zPo (A : Nat → Nat) (g m : Nat) : Nat → Nat := fun j => A j + (if j = g then m * zM else 0)
theorem zPo_dv {A : Nat → Nat} (h : zDv A) {g m : Nat} : zDv (zPo A g m) := zDv_add h (zDv_pt (zM_dvd m))
theorem zPo_sum {A : Nat → Nat} {g m : Nat} (hg : g < 9) : zS10 (zPo A g m) = zS10 A + m * zM := by
  have h := zS10_ind (F := A) (i := g) (x := m * zM) (by omega)
  rw [← h]
  congr 1
  funext j
  unfold zPo
  by_cases q : j = g
  · rw [if_pos q, if_pos q.symm]
  · rw [if_neg q, if_neg (fun x => q x.symm)]
theorem zx_add {N : Nat} {L t C : Nat → Nat} {S : Nat → Nat → Nat} {sz : Int32} {kd tk sc sh : Nat → Int32} (h : zStd N L t C S sz kd tk sc sh) {A : Nat → Nat} {b2 : Int64} {b3 : Nat → Int64} {g m : Nat} (hg : g < N) (hm : m < 2 ^ 20) (hd : zDv A) (hB : zS10 A < 2 ^ 61) (hf : zFc A b2 b3) : zFp (zRn (fun g => t g * zM) (zE L C S) N 0 (zPo A g m)) (m_X0_addTo b2 b3 sz kd tk sc sh (nI g) (nI m)) := by
  have hN := h.1
  unfold m_X0_addTo
  simp only [cut, cut2]
  rw [show m_X3_has sz (nI g) = 1 by rw [h.2.1]; exact zx_has hN hg, if_neg (by decide), nI_clamp (by omega), nI_l (by omega), zMl, lN_mul, hf.2 g (by omega), lN_add]
  refine zx_run h (zPo_dv hd) ?_ ⟨?_, fun j hj => ?_⟩
  · rw [zPo_sum (by omega)]
    have h2 : m * zM ≤ 2 ^ 20 * zM := Nat.mul_le_mul_right _ (by omega)
    have h3 : 2 ^ 20 * zM < 2 ^ 61 := by decide
    omega
  · rw [hf.1]; unfold zPo; rw [if_neg (by omega)]; rfl
  · unfold zPo
    by_cases q : j = g
    · rw [q, pk_uLs, if_pos rfl]
    · rw [pk_uLn q, if_neg q]; exact hf.2 j hj
/-! the reference -/
theorem zm_shareLoop {N g c l O : Nat} {s : Nat → Nat} {B : Nat → Nat} {rows ln : Nat → Int32} {ct : Int32 → Int64 → (Nat → Int64) → (Int64 × (Nat → Int64))} (hN : N ≤ 9) (hg : g < N) (hc : c ≤ 3) (hl : l ≤ 1) (hd : 12 ^ (9 - g) ∣ O) (hO0 : 0 < O) (hOB : O < 2 ^ 62) (hlg : ln g = nI l) (hBd : ∀ j, j < 9 → 12 ∣ B j) (hs : ∀ k, k < c → rows (6 * g + 3 + k) = nI (s k) ∧ (s k = 9 ∨ (g < s k ∧ s k < N))) : ∀ (fuel k X : Nat) (b13 : Nat → Int64), k ≤ c → c < fuel + k → X + zEk c s l O 9 k = O / (c + l) * (if k = 0 then 0 else k + l) → 12 ∣ X → (∀ j, j < 9 → 12 ∣ zEk c s l O j k) → (∀ j, j < 9 → b13 j = lN ((B j + zEk c s l O j k) / 12)) → ∃ (kk : Int32) (X' : Nat) (b' : Nat → Int64), lp_X6_runOver_a_6 (nI c) ct (lN (O / 12)) rows (nI g) ln (nI c + ln g) fuel (nI k) (lN (O / 12 - X / 12)) b13 = ct kk (lN (O / 12 - X' / 12)) b' ∧ X' + zEk c s l O 9 c = O / (c + l) * (if c = 0 then 0 else c + l) ∧ 12 ∣ X' ∧ (∀ j, j < 9 → 12 ∣ zEk c s l O j c) ∧ (∀ j, j < 9 → b' j = lN ((B j + zEk c s l O j c) / 12))
  | 0, k, _, _, h1, h2, _, _, _, _ => by omega
  | f + 1, k, X, b13, h1, h2, hX, hX12, hE12, hb => by
    rw [lp_X6_runOver_a_6]
    by_cases q : k = c
    · subst q
      rw [if_pos (nI_le (Nat.le_refl _) (by omega))]
      exact ⟨_, X, b13, rfl, hX, hX12, hE12, hb⟩
    · have hO12 : 12 ∣ O := Nat.dvd_trans (Nat.pow_dvd_pow 12 (show 1 ≤ 9 - g by omega)) hd
      have hO1 : 0 < O / 12 := Nat.div_pos (Nat.le_of_dvd hO0 hO12) (by omega)
      rw [if_neg (nI_ge (by omega) (by omega)), if_neg (fun x => by rw [zl0, zc_le (by omega) (by omega)] at x; omega)]
      obtain ⟨e1, e2⟩ := hs k (by omega)
      have ei : (6 * nI g + 3 + nI k).toNatClampNeg = 6 * g + 3 + k := by
        rw [zn3, zn6, pk_mul, nI_add, nI_add, nI_clamp (by omega)]
      simp only [cut]
      rw [ei, e1, nI_1]
      have hz : ∀ j, zEk c s l O j (k + 1) = zEk c s l O j k + (if s k = j then O / (c + l) * (if k = 0 then 1 + l else 1) else 0) := fun j => rfl
      have hw : O / (c + l) * (if k = 0 then 0 else k + l) + O / (c + l) * (if k = 0 then 1 + l else 1) = O / (c + l) * (if k + 1 = 0 then 0 else k + 1 + l) := by
        rw [← Nat.mul_add, if_neg (show ¬ k + 1 = 0 by omega)]
        congr 1
        split <;> omega
      rcases e2 with t | t
      · rw [t, zn9, if_pos (nI_le (by omega) (by omega))]
        refine zm_shareLoop hN hg hc hl hd hO0 hOB hlg hBd hs f (k + 1) X b13 (by omega) (by omega) ?_ hX12 (fun j hj => ?_) (fun j hj => ?_)
        · rw [hz, if_pos t, ← hw, ← hX]; omega
        · rw [hz, if_neg (by omega)]; exact hE12 j hj
        · rw [hz, if_neg (by omega)]; exact hb j hj
      · have hb12 := zby (show 0 < c by omega) hc hl
        have hd2 : 12 ^ (8 - g) ∣ O / (c + l) := by
          rw [show 9 - g = (8 - g) + 1 by omega] at hd
          exact (zdivp hd hb12).2
        have hP12 : 12 ∣ O / (c + l) := Nat.dvd_trans (Nat.pow_dvd_pow 12 (show 1 ≤ 8 - g by omega)) hd2
        have hP : O / 12 / (c + l) = O / (c + l) / 12 := by rw [Nat.div_div_eq_div_mul, Nat.div_div_eq_div_mul, Nat.mul_comm]
        have hj : (if nI k = 0 then 1 + ln g else 1).toInt64 = lN (if k = 0 then 1 + l else 1) := by
          by_cases k0 : k = 0
          · rw [if_pos (by rw [k0]; rfl), if_pos k0, hlg, zn1, nI_add, nI_l (by omega)]
          · rw [if_neg (nI_ne0 (by omega) (by omega)), if_neg k0]; rfl
        generalize hwk : (if k = 0 then 1 + l else 1) = w at *
        have hW : O / (c + l) / 12 * w = O / (c + l) * w / 12 := by
          obtain ⟨u, hu⟩ := hP12
          rw [hu, Nat.mul_div_cancel_left _ (by omega), Nat.mul_assoc, Nat.mul_div_cancel_left _ (by omega)]
        have hPw12 : 12 ∣ O / (c + l) * w := Nat.dvd_trans hP12 (Nat.dvd_mul_right _ _)
        rw [if_neg (by rw [zn9]; exact nI_ge (by omega) (by omega)), nI_clamp (by omega), nI_clamp (by omega), hj, hlg, nI_add, nI_l (by omega), pk_lDiv (by omega) (by omega) (by omega), hP, lN_mul, hW]
        have hle : X + O / (c + l) * w ≤ O := by
          have h3 : O / (c + l) * (if k + 1 = 0 then 0 else k + 1 + l) ≤ O := by
            rw [if_neg (by omega)]
            refine Nat.le_trans (Nat.mul_le_mul_left _ (show k + 1 + l ≤ c + l by omega)) (Nat.div_mul_le_self _ _)
          rw [← hw, ← hX] at h3
          omega
        rw [lN_sub (by omega), show O / 12 - X / 12 - O / (c + l) * w / 12 = O / 12 - (X + O / (c + l) * w) / 12 by omega]
        have e4 : nI (c + l) = nI c + ln g := by rw [hlg, nI_add]
        rw [e4]
        refine zm_shareLoop hN hg hc hl hd hO0 hOB hlg hBd hs f (k + 1) (X + O / (c + l) * w) _ (by omega) (by omega) ?_ (Nat.dvd_add hX12 hPw12) (fun j hj => ?_) (fun j hj => ?_)
        · rw [hz, if_neg (by omega), ← hw, ← hX]; omega
        · rw [hz]
          split
          · exact Nat.dvd_add (hE12 j hj) hPw12
          · exact hE12 j hj
        · rw [hz]
          by_cases hj2 : j = s k
          · have h1 := hBd j hj
            have h2 := hE12 j hj
            rw [if_pos hj2.symm, hj2, pk_uLs, hb (s k) (by omega), lN_add, ← hj2]
            congr 1
            omega
          · rw [pk_uLn hj2, if_neg (fun x => hj2 x.symm), hb j hj]
            rfl
