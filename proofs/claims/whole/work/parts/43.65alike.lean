/-! alike; pourings by a seed -/
def zAl (N s : Nat) (B : Nat → Nat) : Prop := ∀ i, i < N → s / 2 ^ i % 2 = 1 → 0 < B i ∧ ∀ j, j < N → s / 2 ^ j % 2 = 1 → B j = B i
theorem z_bitOut {N s j : Nat} (hs : s < 2 ^ N) (hj : N ≤ j) : ¬ s / 2 ^ j % 2 = 1 := by
  rw [Nat.div_eq_of_lt (Nat.lt_of_lt_of_le hs (Nat.pow_le_pow_right (by omega) hj))]
  omega
theorem zx_alike {N s : Nat} (hN : N ≤ 9) (hs : s < 2 ^ N) {B : Nat → Nat} {ic : Nat → Int64} (hf : ∀ g, g < 9 → ic g = lN (B g)) (hB : ∀ g, g < 9 → B g < 2 ^ 62) : (m_X0_areAlike ic (nI s) = 1 ∧ zAl N s B) ∨ (m_X0_areAlike ic (nI s) = 0 ∧ ¬ zAl N s B) := by
  have hp := z_pow9 hN
  have hs31 : s < 2 ^ 31 := by omega
  have hl : ∀ (r g fuel fi : Nat), g + r = 9 → r < fuel → fi < 2 ^ 62 → ((fi = 0 ∧ ∀ j, j < g → ¬ s / 2 ^ j % 2 = 1) ∨ (0 < fi ∧ (∃ i, i < g ∧ s / 2 ^ i % 2 = 1) ∧ ∀ j, j < g → s / 2 ^ j % 2 = 1 → B j = fi)) → (lp_X0_areAlike_2 rs_X0_areAlike_2 (nI s) ic fuel (nI g) (lN fi) = 1 ∧ zAl N s B) ∨ (lp_X0_areAlike_2 rs_X0_areAlike_2 (nI s) ic fuel (nI g) (lN fi) = 0 ∧ ¬ zAl N s B) := by
    intro r
    induction r with
    | zero =>
      intro g fuel fi h1 h2 h3 hi
      obtain ⟨f, rfl⟩ : ∃ f, fuel = f + 1 := ⟨fuel - 1, by omega⟩
      rw [lp_X0_areAlike_2, zn9, if_pos (nI_le (by omega) (by omega))]
      refine Or.inl ⟨rfl, fun i hi1 hi2 => ?_⟩
      rcases hi with ⟨-, b⟩ | ⟨a, -, c⟩
      · exact absurd hi2 (b i (by omega))
      · rw [c i (by omega) hi2]
        exact ⟨a, fun j hj1 hj2 => c j (by omega) hj2⟩
    | succ r ih =>
      intro g fuel fi h1 h2 h3 hi
      obtain ⟨f, rfl⟩ : ∃ f, fuel = f + 1 := ⟨fuel - 1, by omega⟩
      have c1 := hB g (by omega)
      rw [lp_X0_areAlike_2, zn9, if_neg (nI_ge (by omega) (by omega))]
      simp only [z_cut]
      rw [nI_clamp (show g < 2 ^ 31 by omega), hf g (by omega), nI_1, zl0]
      by_cases q : s / 2 ^ g % 2 = 1
      · have hgN : g < N := by
          rcases Nat.lt_or_ge g N with t | t
          · exact t
          · exact absurd q (z_bitOut hs t)
        rw [if_pos ((z_bit1 hs31 (by omega)).mpr q)]
        by_cases q0 : B g = 0
        · rw [if_pos ((zc_eq (by omega) (by omega)).mpr q0)]
          exact Or.inr ⟨rfl, fun x => by have := (x g hgN q).1; omega⟩
        · rw [if_neg (fun x => q0 ((zc_eq (by omega) (by omega)).mp x))]
          rcases hi with ⟨a, b⟩ | ⟨a, ⟨i, i1, i2⟩, c⟩
          · rw [if_pos ((zc_eq (by omega) (by omega)).mpr a)]
            refine ih (g + 1) f (B g) (by omega) (by omega) c1 (Or.inr ⟨by omega, ⟨g, by omega, q⟩, fun j hj hb => ?_⟩)
            by_cases q3 : j = g
            · rw [q3]
            · exact absurd hb (b j (by omega))
          · rw [if_neg (fun x => by have := (zc_eq (by omega) (by omega)).mp x; omega)]
            by_cases q4 : B g = fi
            · rw [if_pos ((zc_eq (by omega) (by omega)).mpr q4)]
              refine ih (g + 1) f (B g) (by omega) (by omega) c1 (Or.inr ⟨by omega, ⟨g, by omega, q⟩, fun j hj hb => ?_⟩)
              by_cases q3 : j = g
              · rw [q3]
              · rw [c j (by omega) hb, q4]
            · rw [if_neg (fun x => q4 ((zc_eq (by omega) (by omega)).mp x))]
              refine Or.inr ⟨rfl, fun x => q4 ?_⟩
              have hiN : i < N := by omega
              rw [← c i i1 i2]
              exact (x i hiN i2).2 g hgN q
      · rw [if_neg (fun x => q ((z_bit1 hs31 (by omega)).mp x))]
        refine ih (g + 1) f fi (by omega) (by omega) h3 ?_
        rcases hi with ⟨a, b⟩ | ⟨a, ⟨i, i1, i2⟩, c⟩
        · refine Or.inl ⟨a, fun j hj => ?_⟩
          by_cases q3 : j = g
          · rw [q3]; exact q
          · exact b j (by omega)
        · refine Or.inr ⟨a, ⟨i, by omega, i2⟩, fun j hj hb => ?_⟩
          by_cases q3 : j = g
          · rw [q3] at hb; exact absurd hb q
          · exact c j (by omega) hb
  exact hl 9 0 11 0 (by omega) (by omega) (by omega) (Or.inl ⟨rfl, fun j hj => by omega⟩)
theorem z_m1' (x : Int32) : x + (-1) = x - 1 := by
  rw [Int32.sub_eq_add_neg]
theorem zm_alike {N s : Nat} (hN : N ≤ 9) (hs : s < 2 ^ N) {B : Nat → Nat} {w : Nat → Int64} (hf : zFm B w) (hd : zDv B) (hB : ∀ g, g < 9 → B g < 2 ^ 62) (ct : Int32 → Int32 → Int64 → (Int32 × (Nat → Int64) × (Nat → Int32) × (Nat → Int64))) : ∃ (kk x : Int32) (z : Int64), lp_X6_alikeOf_6 ct (nI s) w 11 (nI N - 1) 1 0 = ct kk x z ∧ ((x = 1 ∧ zAl N s B) ∨ (x = 0 ∧ ¬ zAl N s B)) := by
  have hp := z_pow9 hN
  have hs31 : s < 2 ^ 31 := by omega
  have hl : ∀ (r fuel : Nat) (is : Int32) (fi : Nat), r ≤ N → r < fuel → fi < 2 ^ 62 → ((is = 0 ∧ ¬ zAl N s B) ∨ (is = 1 ∧ ((fi = 0 ∧ ∀ j, r ≤ j → j < N → ¬ s / 2 ^ j % 2 = 1) ∨ (0 < fi ∧ (∃ i, r ≤ i ∧ i < N ∧ s / 2 ^ i % 2 = 1) ∧ ∀ j, r ≤ j → j < N → s / 2 ^ j % 2 = 1 → B j / 12 = fi)))) → ∃ (kk x : Int32) (z : Int64), lp_X6_alikeOf_6 ct (nI s) w fuel (nI r - 1) is (lN fi) = ct kk x z ∧ ((x = 1 ∧ zAl N s B) ∨ (x = 0 ∧ ¬ zAl N s B)) := by
    intro r
    induction r with
    | zero =>
      intro fuel is fi h1 h2 h3 hi
      obtain ⟨f, rfl⟩ : ∃ f, fuel = f + 1 := ⟨fuel - 1, by omega⟩
      rw [lp_X6_alikeOf_6, if_pos (show nI 0 - 1 < 0 by decide)]
      refine ⟨_, is, _, rfl, ?_⟩
      rcases hi with ⟨a, b⟩ | ⟨a, b⟩
      · exact Or.inr ⟨a, b⟩
      · refine Or.inl ⟨a, fun i hi1 hi2 => ?_⟩
        rcases b with ⟨-, b⟩ | ⟨b, -, c⟩
        · exact absurd hi2 (b i (by omega) hi1)
        · have ci := c i (by omega) hi1 hi2
          refine ⟨by omega, fun j hj1 hj2 => ?_⟩
          have cj := c j (by omega) hj1 hj2
          have d1 := zDv12 hd (j := i) (by omega)
          have d2 := zDv12 hd (j := j) (by omega)
          omega
    | succ r ih =>
      intro fuel is fi h1 h2 h3 hi
      obtain ⟨f, rfl⟩ : ∃ f, fuel = f + 1 := ⟨fuel - 1, by omega⟩
      have c1 := hB r (by omega)
      have d1 := zDv12 hd (j := r) (by omega)
      have l0 : ¬ nI r < 0 := nI_pos (by omega)
      rw [lp_X6_alikeOf_6, nI_pred, if_neg l0]
      simp only [z_cut]
      rw [nI_clamp (show r < 2 ^ 31 by omega), hf r (by omega), z_m1', zl0]
      by_cases q : s / 2 ^ r % 2 = 1
      · simp only [if_pos ((z_bit1 hs31 (show r ≤ 9 by omega)).mpr q), if_neg (show ¬ (1 : Int32) = 0 by decide)]
        rcases hi with ⟨a, b⟩ | ⟨a, b⟩
        · rw [if_pos a]
          exact ih f 0 (B r / 12) (by omega) (by omega) (by omega) (Or.inl ⟨rfl, b⟩)
        · rw [if_neg (z10 a)]
          by_cases q0 : B r = 0
          · rw [if_pos ((zc_le (by omega) (by omega)).mpr (by omega))]
            exact ih f 0 (B r / 12) (by omega) (by omega) (by omega) (Or.inl ⟨rfl, fun x => by have := (x r (by omega) q).1; omega⟩)
          · rw [if_neg (fun x => q0 (by have := (zc_le (by omega) (by omega)).mp x; omega))]
            rcases b with ⟨e, b⟩ | ⟨e, ⟨i, i1, i2, i3⟩, c⟩
            · rw [if_pos ((zc_eq (by omega) (by omega)).mpr e)]
              refine ih f 1 (B r / 12) (by omega) (by omega) (by omega) (Or.inr ⟨rfl, Or.inr ⟨by omega, ⟨r, by omega, by omega, q⟩, fun j j1 j2 hb => ?_⟩⟩)
              by_cases q3 : j = r
              · rw [q3]
              · exact absurd hb (b j (by omega) j2)
            · rw [if_neg (fun x => by have := (zc_eq (by omega) (by omega)).mp x; omega)]
              by_cases q4 : fi = B r / 12
              · rw [if_pos ((zc_eq (by omega) (by omega)).mpr q4)]
                refine ih f 1 (B r / 12) (by omega) (by omega) (by omega) (Or.inr ⟨rfl, Or.inr ⟨by omega, ⟨r, by omega, by omega, q⟩, fun j j1 j2 hb => ?_⟩⟩)
                by_cases q3 : j = r
                · rw [q3]
                · rw [c j (by omega) j2 hb, q4]
              · rw [if_neg (fun x => q4 ((zc_eq (by omega) (by omega)).mp x))]
                refine ih f 0 (B r / 12) (by omega) (by omega) (by omega) (Or.inl ⟨rfl, fun x => q4 ?_⟩)
                have ci := c i i1 i2 i3
                have := (x i i2 i3).2 r (by omega) q
                omega
      · simp only [if_neg (fun x => q ((z_bit1 hs31 (show r ≤ 9 by omega)).mp x)), if_pos (show (0 : Int32) = 0 from rfl)]
        have hi' : (is = 0 ∧ ¬ zAl N s B) ∨ (is = 1 ∧ ((fi = 0 ∧ ∀ j, r ≤ j → j < N → ¬ s / 2 ^ j % 2 = 1) ∨ (0 < fi ∧ (∃ i, r ≤ i ∧ i < N ∧ s / 2 ^ i % 2 = 1) ∧ ∀ j, r ≤ j → j < N → s / 2 ^ j % 2 = 1 → B j / 12 = fi))) := by
          rcases hi with ⟨a, b⟩ | ⟨a, b⟩
          · exact Or.inl ⟨a, b⟩
          · refine Or.inr ⟨a, ?_⟩
            rcases b with ⟨e, b⟩ | ⟨e, ⟨i, i1, i2, i3⟩, c⟩
            · refine Or.inl ⟨e, fun j j1 j2 => ?_⟩
              by_cases q3 : j = r
              · rw [q3]; exact q
              · exact b j (by omega) j2
            · refine Or.inr ⟨e, ⟨i, by omega, i2, i3⟩, fun j j1 j2 hb => ?_⟩
              by_cases q3 : j = r
              · rw [q3] at hb; exact absurd hb q
              · exact c j (by omega) j2 hb
        rcases hi' with ⟨a, b⟩ | ⟨a, b⟩
        · rw [if_pos a]
          exact ih f 0 fi (by omega) (by omega) h3 (Or.inl ⟨rfl, b⟩)
        · rw [if_neg (z10 a)]
          exact ih f 1 fi (by omega) (by omega) h3 (Or.inr ⟨rfl, b⟩)
  exact hl N 11 1 0 (Nat.le_refl _) (by omega) (by omega) (Or.inr ⟨rfl, Or.inl ⟨rfl, fun j h1 h2 => by omega⟩⟩)
theorem z_ones : ∀ s, s < 512 → ((2 : Int32) ≤ m_J6_bitCount_0f7a4 (nI s) ↔ ¬ m_X6_ones (nI s) ≤ 1) := by decide +kernel
/-- when nothing changes any more, the reference goes on to its end -/
theorem zm_alikeEnd {N : Nat} {L t C : Nat → Nat} {S : Nat → Nat → Nat} {gl : Int32} {rows : Nat → Int32} {tk : Nat → Int64} {ln : Nat → Int32} (h : zStr N L t C S gl rows tk ln) (hN0 : 0 < N) {s : Nat} (hs : s < 2 ^ N) {B : Nat → Nat} (hd : zDv B) (hB : zS10 B < 2 ^ 60) (hfix : ∀ j, j < 9 → zRn (fun g => t g * zM) (zE L C S) N 0 (zPo B 0 1) j = B j) (hna : ¬ zAl N s B) : ∀ (r k fuel : Nat) (w : Nat → Int64), k + r = 1000 → r < fuel → zFm B w → ∃ w' : Nat → Int64, lp_X6_alikeOf_5 (rs_X6_alikeOf_5 tk ln) gl rows tk ln (nI s) fuel (nI k) w = (-1, tk, ln, w') := by
  have hN := h.1
  have hok := h.ok
  intro r
  induction r with
  | zero =>
    intro k fuel w e1 e2 hf
    obtain ⟨f, rfl⟩ : ∃ f, fuel = f + 1 := ⟨fuel - 1, by omega⟩
    rw [lp_X6_alikeOf_5, show (1000 : Int32) = nI 1000 from rfl, if_pos (nI_le (by omega) (by omega))]
    exact ⟨w, rfl⟩
  | succ r ih =>
    intro k fuel w e1 e2 hf
    obtain ⟨f, rfl⟩ : ∃ f, fuel = f + 1 := ⟨fuel - 1, by omega⟩
    have hpo := zFm_po (m := 1) hd (show 0 < 9 by omega) hf
    rw [Nat.one_mul, ← zWl] at hpo
    have hz1 : zM < 2 ^ 40 := by decide
    have hrun := (zm_runw h (zPo_dv (g := 0) (m := 1) hd) (by rw [zPo_sum (by omega)]; omega) hpo).2
    have hrun2 : zFm B (m_X6_runOver_w gl rows tk ln (vp_updL w 0 (w 0 + 429981696))).2 := fun j hj => by rw [hrun j hj, hfix j hj]
    rw [lp_X6_alikeOf_5, show (1000 : Int32) = nI 1000 from rfl, if_neg (nI_ge (by omega) (by omega))]
    simp only [z_cut, z_cut2]
    rw [z_cl0]
    obtain ⟨kk, x, z, g1, g2⟩ := zm_alike hN hs hrun2 hd (fun j hj => by have := zS10_le (A := B) (j := j) (by omega); omega) (rs_X6_alikeOf_6 (nI k) (fun c0 c1 => lp_X6_alikeOf_5 (rs_X6_alikeOf_5 tk ln) gl rows tk ln (nI s) f c0 c1) (m_X6_runOver_w gl rows tk ln (vp_updL w 0 (w 0 + 429981696))).2 tk ln)
    rw [show gl - 1 = nI N - 1 by rw [h.2.1], g1]
    unfold rs_X6_alikeOf_6
    rcases g2 with ⟨a, b⟩ | ⟨a, b⟩
    · exact absurd b hna
    · rw [if_pos a]
      simp only [z_cut]
      rw [nI_1]
      exact ih (k + 1) f _ (by omega) (by omega) hrun2
theorem z_alikeLoop {N : Nat} {L t C : Nat → Nat} {S : Nat → Nat → Nat} {sz : Int32} {kd tk sc sh : Nat → Int32} (hx : zStd N L t C S sz kd tk sc sh) {gl : Int32} {rows : Nat → Int32} {tkm : Nat → Int64} {ln : Nat → Int32} (h : zStr N L t C S gl rows tkm ln) (hN0 : 0 < N) {s : Nat} (hs : s < 2 ^ N) : ∀ (r k fx fm : Nat) (B : Nat → Nat) (b6 : Int64) (b7 w : Nat → Int64), k + r = 1000 → 1 ≤ k → r < fx → r < fm → zDv B → zS10 B = (k - 1) * zM → (∀ j, j < N → B j ≤ t j * zM) → zFc B b6 b7 → zFm B w → (lp_X5_alike_2 rs_X5_alike_2 sz kd tk sc sh (nI s) fx (nI k) b6 b7).1 = (lp_X6_alikeOf_5 (rs_X6_alikeOf_5 tkm ln) gl rows tkm ln (nI s) fm (nI k) w).1 := by
  have hN := h.1
  have hok := h.ok
  intro r
  induction r with
  | zero =>
    intro k fx fm B b6 b7 w e1 e2 e3 e4 hd hS hT hf hm
    obtain ⟨f, rfl⟩ : ∃ f, fm = f + 1 := ⟨fm - 1, by omega⟩
    obtain ⟨f', rfl⟩ : ∃ f', fx = f' + 1 := ⟨fx - 1, by omega⟩
    rw [lp_X5_alike_2, lp_X6_alikeOf_5, show (1000 : Int32) = nI 1000 from rfl, show (999 : Int32) = nI 999 from rfl, if_pos (nI_lt (by omega) (by omega)), if_pos (nI_le (by omega) (by omega))]
    rfl
  | succ r ih =>
    intro k fx fm B b6 b7 w e1 e2 e3 e4 hd hS hT hf hm
    obtain ⟨f, rfl⟩ : ∃ f, fm = f + 1 := ⟨fm - 1, by omega⟩
    obtain ⟨f', rfl⟩ : ∃ f', fx = f' + 1 := ⟨fx - 1, by omega⟩
    have hkz : (k - 1) * zM ≤ 1000 * zM := Nat.mul_le_mul_right _ (by omega)
    have hkz2 : 1000 * zM < 2 ^ 50 := by decide
    have hz1 : zM < 2 ^ 40 := by decide
    have hpo := zFm_po (m := 1) hd (show 0 < 9 by omega) hm
    rw [Nat.one_mul, ← zWl] at hpo
    have hrun := (zm_runw h (zPo_dv (g := 0) (m := 1) hd) (by rw [zPo_sum (by omega)]; omega) hpo).2
    have hadd := zx_add hx (g := 0) (m := 1) hN0 (by omega) hd (by omega) hf
    have d2 := zRn_dv hok (T := fun g => t g * zM) (fun g => zM_dvd _) N 0 (zPo B 0 1) (by omega) (zPo_dv hd)
    have s2 := zRn_sum hok (T := fun g => t g * zM) (fun g => zM_dvd _) N 0 (zPo B 0 1) (by omega) (zPo_dv hd)
    rw [zPo_sum (by omega), Nat.one_mul] at s2
    have hbd : ∀ j, j < 10 → zRn (fun g => t g * zM) (zE L C S) N 0 (zPo B 0 1) j < 2 ^ 62 := fun j hj => by
      have := zS10_le (A := zRn (fun g => t g * zM) (zE L C S) N 0 (zPo B 0 1)) hj
      omega
    have hle : ∀ j, B j ≤ zRn (fun g => t g * zM) (zE L C S) N 0 (zPo B 0 1) j := fun j => by
      have hfx := zRn_fix (T := fun g => t g * zM) hok N 0 B (by omega) (fun j _ hj => hT j (by omega))
      have := zRn_mono (T := fun g => t g * zM) hok N 0 B (zPo B 0 1) (by omega) (fun i => Nat.le_add_right _ _) j
      rw [hfx] at this
      exact this
    have hT2 : ∀ j, j < N → zRn (fun g => t g * zM) (zE L C S) N 0 (zPo B 0 1) j ≤ t j * zM := fun j hj => zRn_le hok (T := fun g => t g * zM) N 0 _ (by omega) j (by omega) (by omega)
    rw [lp_X5_alike_2, lp_X6_alikeOf_5, show (1000 : Int32) = nI 1000 from rfl, show (999 : Int32) = nI 999 from rfl, if_neg (nI_nlt (show k ≤ 999 by omega) (by omega)), if_neg (nI_ge (by omega) (by omega))]
    simp only [z_cut, z_cut2]
    rw [z_cl0]
    generalize hF : zRn (fun g => t g * zM) (zE L C S) N 0 (zPo B 0 1) = F at hrun hadd d2 s2 hbd hle hT2
    obtain ⟨kk, x, z, g1, g2⟩ := zm_alike hN hs hrun d2 (fun j hj => hbd j (by omega)) (rs_X6_alikeOf_6 (nI k) (fun c0 c1 => lp_X6_alikeOf_5 (rs_X6_alikeOf_5 tkm ln) gl rows tkm ln (nI s) f c0 c1) (m_X6_runOver_w gl rows tkm ln (vp_updL w 0 (w 0 + 429981696))).2 tkm ln)
    rw [show gl - 1 = nI N - 1 by rw [h.2.1], g1]
    unfold rs_X6_alikeOf_6
    have ha2 : zFc F (m_X0_addTo b6 b7 sz kd tk sc sh 0 1).1 (m_X0_addTo b6 b7 sz kd tk sc sh 0 1).2 := hadd
    generalize m_X0_addTo b6 b7 sz kd tk sc sh 0 1 = R at ha2 ⊢
    rcases zx_alike hN hs ha2.2 (fun j hj => hbd j (by omega)) with ⟨x1, x2⟩ | ⟨x1, x2⟩
    · rcases g2 with ⟨a, b⟩ | ⟨a, b⟩
      · rw [if_neg (z10 x1), if_neg (z10 a)]
      · exact absurd x2 b
    · rcases g2 with ⟨a, b⟩ | ⟨a, b⟩
      · exact absurd b x2
      · rw [if_pos x1, if_pos a]
        simp only [z_cut]
        rw [nI_1]
        have h9 := hle 9
        have b9 := hbd 9 (by omega)
        rw [ha2.1, hf.1, lN_sub h9, zMl]
        by_cases q : F 9 - B 9 = zM
        · rw [if_pos ((zc_eq (by omega) (by omega)).mpr q)]
          have hsum : zSum9 B = zSum9 F := by
            have e1 : zS10 F = zSum9 F + F 9 := rfl
            have e2 : zS10 B = zSum9 B + B 9 := rfl
            omega
          have heq := zSum9_eq (fun j _ => hle j) hsum
          have hfix : ∀ j, j < 9 → zRn (fun g => t g * zM) (zE L C S) N 0 (zPo F 0 1) j = F j := fun j hj => by
            rw [zRn_ext hok N 0 (zPo F 0 1) (zPo B 0 1) (by omega) (fun i hi => by unfold zPo; rw [heq i hi]) j hj, hF]
          obtain ⟨w', ew⟩ := zm_alikeEnd h hN0 hs d2 (by omega) hfix x2 r (k + 1) f _ (by omega) (by omega) hrun
          rw [ew]
        · rw [if_neg (fun x => q ((zc_eq (by omega) (by omega)).mp x))]
          refine ih (k + 1) f' f F _ _ _ (by omega) (by omega) (by omega) (by omega) d2 ?_ hT2 ⟨rfl, ha2.2⟩ hrun
          rw [s2, hS, show k + 1 - 1 = (k - 1) + 1 by omega, Nat.add_mul, Nat.one_mul]
theorem z_alike {N : Nat} {K Hd C : Nat → Nat} {S : Nat → Nat → Nat} {sz : Int32} {kd hd tk sc sh : Nat → Int32} {gl : Int32} {rows : Nat → Int32} (h : zTow N K Hd C S) (hc : zStC N K Hd C S sz kd hd tk sc sh) (hm : zStM N K Hd C S gl rows) (p1 : Int32) (s0 : Int64) (tr am tkm : Nat → Int64) (ln : Nat → Int32) (wd : Nat → Int64) : (m_X5_alike sz kd tk sc sh s0 tr p1).1 = (m_X6_alike gl rows am tkm ln wd p1).1 := by
  have hN := h.1
  unfold m_X5_alike m_X6_alike
  simp only [z_cut]
  rcases z_lacks hN with ⟨a, b, c⟩ | ⟨a, b, c⟩
  · rw [if_pos (show sz = 0 by rw [hc.1]; exact b), if_neg (z10 (show m_X6_lacks gl = 1 by rw [hm.1]; exact c))]
  · rw [if_neg (show ¬ sz = 0 by rw [hc.1]; exact b), if_pos (show m_X6_lacks gl = 0 by rw [hm.1]; exact c)]
    rcases z_set hN p1 with ⟨x, y⟩ | ⟨s, hs, rfl, x, y⟩
    · rw [if_pos (show m_X3_isSet sz p1 = 0 by rw [hc.1]; exact x), if_pos (show m_X6_isIn p1.toInt64 0 ((((1 : Int32) <<< (gl &&& 31)) - 1).toInt64) = 0 by rw [hm.1]; exact y)]
    · rw [if_neg (z10 (show m_X3_isSet sz (nI s) = 1 by rw [hc.1]; exact x)), if_neg (z10 (show m_X6_isIn (nI s).toInt64 0 ((((1 : Int32) <<< (gl &&& 31)) - 1).toInt64) = 1 by rw [hm.1]; exact y))]
      have hp := z_pow9 hN
      have ho := z_ones s (by omega)
      by_cases q : m_X6_ones (nI s) ≤ 1
      · rw [if_neg (fun x => ho.mp x q), if_pos q]
      · rw [if_pos (ho.mpr q), if_neg q]
        obtain ⟨u1, u2, w, eb, hr, hw⟩ := zm_begin h hm am tkm ln wd 0
        have h1 : zFc (fun _ => 0) (m_X0_makeEmpty tr).1 (m_X0_makeEmpty tr).2 := zx_empty (ic := tr)
        unfold m_X6_alikeOf
        rw [eb]
        simp only [z_cut2, z_cut3, z_cut4]
        rw [zn1]
        exact z_alikeLoop (zx_std h hc) hr a hs 999 1 1001 1001 (fun _ => 0) _ _ _ (by omega) (by omega) (by omega) (by omega) z_0dv (by rw [z_0sum, Nat.sub_self, Nat.zero_mul]) (fun j _ => Nat.zero_le _) h1 (fun j hj => by show w j = lN (0 / 12); rw [hw j hj, if_pos rfl, Nat.zero_div]; rfl)
/-! pourings -/
theorem z_draw {N : Nat} (hN0 : 0 < N) (hN : N ≤ 9) (x : Int32) : ∃ g, g < N ∧ m_X5_drawn (m_X5_nextSeed x) (nI N) = nI g ∧ m_X6_draw x (nI N) = (nI g, m_X5_nextSeed x) := by
  have h0 : 0 < (nI N).toInt := by rw [nI_toInt (by omega)]; omega
  obtain ⟨a, b⟩ := zdr (x := (1103515245 : Int64) * x.toInt64 + 12345) (s := m_X5_nextSeed x) (of := nI N) rfl h0
  rw [nI_toInt (by omega)] at b
  obtain ⟨g, -, hg, hg2⟩ := zpos_nI a
  refine ⟨g, by omega, ?_, ?_⟩
  · unfold m_X5_drawn
    rw [if_neg (nI_nle hN0 (by omega))]
    exact hg
  · rw [← hg]
    rfl
theorem z_drawn4 (x : Int32) : m_X6_draw x 4 = (m_X5_drawn (m_X5_nextSeed x) 4, m_X5_nextSeed x) := by
  unfold m_X5_drawn
  rw [if_neg (by decide)]
  rfl
theorem z_pourLoop {N : Nat} {L t C : Nat → Nat} {S : Nat → Nat → Nat} {sz : Int32} {kd tk sc sh : Nat → Int32} (hx : zStd N L t C S sz kd tk sc sh) {gl : Int32} {rows : Nat → Int32} {tkm : Nat → Int64} {ln : Nat → Int32} (h : zStr N L t C S gl rows tkm ln) (hN0 : 0 < N) {M : Nat} (hM : M ≤ 60) (ct : Int32 → Int32 → (Nat → Int64) → (Int32 × Int32 × (Nat → Int64) × (Nat → Int32) × (Nat → Int64))) : ∀ (r k fuel : Nat) (B : Nat → Nat) (sd : Int32) (b5 : Int64) (b6 w : Nat → Int64), k + r = M → r < fuel → zDv B → zS10 B < 2 ^ 46 + k * zM → zFc B b5 b6 → zFm B w → ∃ (F : Nat → Nat) (s' : Int32) (a : Int64) (b : Nat → Int64) (kk : Int32) (w' : Nat → Int64), lp_X5_pourBySeed_2 (nI M) rs_X5_pourBySeed_2 sz kd tk sc sh fuel (nI k) sd b5 b6 = (s', a, b) ∧ lp_X6_pourings_3 (nI M) ct gl rows tkm ln fuel (nI k) sd w = ct kk s' w' ∧ zDv F ∧ zS10 F < 2 ^ 50 ∧ zFc F a b ∧ zFm F w' := by
  have hN := h.1
  have hok := h.ok
  intro r
  induction r with
  | zero =>
    intro k fuel B sd b5 b6 w e1 e2 hd hS hf hm
    obtain ⟨f, rfl⟩ : ∃ f, fuel = f + 1 := ⟨fuel - 1, by omega⟩
    rw [lp_X5_pourBySeed_2, lp_X6_pourings_3, if_pos (nI_le (by omega) (by omega)), if_pos (nI_le (by omega) (by omega))]
    have hkz : k * zM ≤ 60 * zM := Nat.mul_le_mul_right _ (by omega)
    have hkz2 : 60 * zM < 2 ^ 46 := by decide
    exact ⟨B, sd, b5, b6, _, w, rfl, rfl, hd, by omega, hf, hm⟩
  | succ r ih =>
    intro k fuel B sd b5 b6 w e1 e2 hd hS hf hm
    obtain ⟨f, rfl⟩ : ∃ f, fuel = f + 1 := ⟨fuel - 1, by omega⟩
    have hkz : k * zM ≤ 60 * zM := Nat.mul_le_mul_right _ (by omega)
    have hkz2 : 60 * zM < 2 ^ 46 := by decide
    have hz1 : zM < 2 ^ 40 := by decide
    obtain ⟨g, hg, g1, g2⟩ := z_draw hN0 hN sd
    have hpo := zFm_po (m := 1) hd (show g < 9 by omega) hm
    rw [Nat.one_mul, ← zWl] at hpo
    have hrun := (zm_runw h (zPo_dv (g := g) (m := 1) hd) (by rw [zPo_sum (by omega)]; omega) hpo).2
    have hadd := zx_add hx (g := g) (m := 1) hg (by omega) hd (by omega) hf
    have d2 := zRn_dv hok (T := fun g => t g * zM) (fun g => zM_dvd _) N 0 (zPo B g 1) (by omega) (zPo_dv hd)
    have s2 := zRn_sum hok (T := fun g => t g * zM) (fun g => zM_dvd _) N 0 (zPo B g 1) (by omega) (zPo_dv hd)
    rw [zPo_sum (by omega), Nat.one_mul] at s2
    have hs1 : (k + 1) * zM = k * zM + zM := by rw [Nat.add_mul, Nat.one_mul]
    rw [lp_X5_pourBySeed_2, lp_X6_pourings_3, if_neg (nI_ge (by omega) (by omega)), if_neg (nI_ge (by omega) (by omega))]
    rw [h.2.1, hx.2.1] at *
    rw [g2]
    simp only [z_cut, z_cut2]
    rw [g1, nI_clamp (show g < 2 ^ 31 by omega), z_drawn4]
    simp only [z_cut2]
    have ha2 : zFc (zRn (fun g => t g * zM) (zE L C S) N 0 (zPo B g 1)) (m_X0_addTo b5 b6 (nI N) kd tk sc sh (nI g) 1).1 (m_X0_addTo b5 b6 (nI N) kd tk sc sh (nI g) 1).2 := hadd
    generalize zRn (fun g => t g * zM) (zE L C S) N 0 (zPo B g 1) = F at hrun ha2 d2 s2
    by_cases q : m_X5_drawn (m_X5_nextSeed (m_X5_nextSeed sd)) 4 = 0
    · rw [if_pos q, if_pos q]
      obtain ⟨i, hi, i1, i2⟩ := z_draw hN0 hN (m_X5_nextSeed (m_X5_nextSeed sd))
      rw [i1, i2]
      have l0 : ¬ nI i < 0 := nI_pos (by omega)
      have l9 : nI i < 9 := by rw [zn9]; exact nI_lt (by omega) (by omega)
      unfold m_X0_takeOut
      simp only [z_cut, z_cut2, if_neg l0, if_pos l9, nI_clamp (show i < 2 ^ 31 by omega)]
      rw [nI_1]
      have su := zS10_up (A := F) (x := 0) (show i < 9 by omega)
      refine ih (k + 1) f (fun j => if j = i then 0 else F j) _ _ _ _ (by omega) (by omega) (zDv_up d2 (Nat.dvd_zero _)) (by omega) ⟨?_, fun j hj => ?_⟩ (fun j hj => ?_)
      · show _ = lN (if 9 = i then 0 else F 9)
        rw [if_neg (by omega)]; exact ha2.1
      · show vp_updL _ i 0 j = lN (if j = i then 0 else F j)
        by_cases q3 : j = i
        · rw [q3, pk_uLs, if_pos rfl]; rfl
        · rw [pk_uLn q3, if_neg q3]; exact ha2.2 j hj
      · show vp_updL _ i 0 j = lN ((if j = i then 0 else F j) / 12)
        by_cases q3 : j = i
        · rw [q3, pk_uLs, if_pos rfl]; rfl
        · rw [pk_uLn q3, if_neg q3]; exact hrun j hj
    · rw [if_neg q, if_neg q, nI_1]
      exact ih (k + 1) f F _ _ _ _ (by omega) (by omega) d2 (by omega) ha2 hrun
theorem z_pourCount {N : Nat} {L t C : Nat → Nat} {S : Nat → Nat → Nat} {sz : Int32} {kd tk sc sh : Nat → Int32} (hx : zStd N L t C S sz kd tk sc sh) {gl : Int32} {rows : Nat → Int32} {tkm : Nat → Int64} {ln : Nat → Int32} (h : zStr N L t C S gl rows tkm ln) {F : Nat → Nat} {ic w : Nat → Int64} (hd : zDv F) (hB : ∀ g, g < 9 → F g < 2 ^ 62) (hf : ∀ g, g < 9 → ic g = lN (F g)) (hm : zFm F w) (ct : Int32 → Int32 → Int32 → (Int32 × Int32 × (Nat → Int64) × (Nat → Int32) × (Nat → Int64))) : ∃ kk : Int32, lp_X6_pourings_4 gl ct w tkm 11 0 0 0 = ct kk (m_X0_howManyWithNothing ic sz) (m_X0_howManyFull ic sz tk) := by
  have hN := h.1
  have hl : ∀ (r g fuel : Nat) (b26 b27 : Int32), g + r = N → r < fuel → ∃ kk : Int32, lp_X6_pourings_4 gl ct w tkm fuel (nI g) b26 b27 = ct kk (lp_X0_howManyWithNothing_2 sz rs_X0_howManyWithNothing_2 ic fuel (nI g) b26) (lp_X0_howManyFull_2 sz rs_X0_howManyFull_2 ic tk fuel (nI g) b27) := by
    intro r
    induction r with
    | zero =>
      intro g fuel b26 b27 e1 e2
      obtain ⟨f, rfl⟩ : ∃ f, fuel = f + 1 := ⟨fuel - 1, by omega⟩
      have l1 : sz ≤ nI g := by rw [hx.2.1]; exact nI_le (by omega) (by omega)
      have l2 : gl ≤ nI g := by rw [h.2.1]; exact nI_le (by omega) (by omega)
      rw [lp_X6_pourings_4, lp_X0_howManyWithNothing_2, lp_X0_howManyFull_2, if_pos l1, if_pos l1, if_pos l2]
      exact ⟨_, rfl⟩
    | succ r ih =>
      intro g fuel b26 b27 e1 e2
      obtain ⟨f, rfl⟩ : ∃ f, fuel = f + 1 := ⟨fuel - 1, by omega⟩
      have hg : g < N := by omega
      have l1 : ¬ sz ≤ nI g := by rw [hx.2.1]; exact nI_ge hg (by omega)
      have l2 : ¬ gl ≤ nI g := by rw [h.2.1]; exact nI_ge hg (by omega)
      obtain ⟨-, -, r3, r4, -⟩ := h.2.2 g hg
      have hM := zM_lt r4
      have hMW := zMW (t g)
      have hBg := hB g (by omega)
      have h12 := zDv12 hd (j := g) (by omega)
      have ef := zx_isFull hx hf hB hg
      rw [lp_X6_pourings_4, lp_X0_howManyWithNothing_2, lp_X0_howManyFull_2, if_neg l1, if_neg l1, if_neg l2]
      simp only [z_cut]
      rw [ef, nI_clamp (show g < 2 ^ 31 by omega), hm g (by omega), hf g (by omega), r3, nI_1, zl0]
      have j1 : (if lg_cmp (lN (F g / 12)) (lN (t g * zW)) = 0 then (1 : Int32) else 0) = if F g = t g * zM then 1 else 0 := by
        by_cases q : F g = t g * zM
        · rw [if_pos q, if_pos ((zc_eq (by omega) (by omega)).mpr (by omega))]
        · rw [if_neg q, if_neg (fun x => q (by have := (zc_eq (by omega) (by omega)).mp x; omega))]
      have j2 : (if lg_cmp (lN (F g / 12)) (lN 0) = 0 then (1 : Int32) else 0) = if F g = 0 then 1 else 0 := by
        by_cases q : F g = 0
        · rw [if_pos q, if_pos ((zc_eq (by omega) (by omega)).mpr (by omega))]
        · rw [if_neg q, if_neg (fun x => q (by have := (zc_eq (by omega) (by omega)).mp x; omega))]
      rw [j1, j2]
      by_cases q : F g = t g * zM
      · rw [if_pos q, if_neg (show ¬ (1 : Int32) = 0 by decide)]
        by_cases q0 : F g = 0
        · rw [if_pos q0, if_pos ((zc_eq (by omega) (by omega)).mpr q0)]
          exact ih (g + 1) f _ _ (by omega) (by omega)
        · rw [if_neg q0, if_neg (fun x => q0 ((zc_eq (by omega) (by omega)).mp x)), Int32.add_zero]
          exact ih (g + 1) f _ _ (by omega) (by omega)
      · rw [if_neg q, if_pos rfl, Int32.add_zero]
        by_cases q0 : F g = 0
        · rw [if_pos q0, if_pos ((zc_eq (by omega) (by omega)).mpr q0)]
          exact ih (g + 1) f _ _ (by omega) (by omega)
        · rw [if_neg q0, if_neg (fun x => q0 ((zc_eq (by omega) (by omega)).mp x)), Int32.add_zero]
          exact ih (g + 1) f _ _ (by omega) (by omega)
  exact hl N 0 11 0 0 (by omega) (by omega)
theorem z_pourings {N : Nat} {K Hd C : Nat → Nat} {S : Nat → Nat → Nat} {sz : Int32} {kd hd tk sc sh : Nat → Int32} {gl : Int32} {rows : Nat → Int32} (h : zTow N K Hd C S) (hc : zStC N K Hd C S sz kd hd tk sc sh) (hm : zStM N K Hd C S gl rows) {A : Nat → Nat} {sp : Int64} {ic am : Nat → Int64} (hfc : zFc A sp ic) (hf : zFm A am) (hd' : zDv A) (hB : zS10 A < 2 ^ 46) (p1 p2 p3 sd0 : Int32) (s0 : Int64) (tr tkm : Nat → Int64) (ln : Nat → Int32) (wd : Nat → Int64) : (m_X5_pourings sz kd tk sc sh sp ic s0 tr p1 p2 p3).1 = (m_X6_pourings gl sd0 rows am tkm ln wd p1 p2 p3).1 := by
  have hN := h.1
  unfold m_X5_pourings m_X6_pourings
  simp only [z_cut]
  rcases z_lacks hN with ⟨a, b, c⟩ | ⟨a, b, c⟩
  · rw [if_pos (show sz = 0 by rw [hc.1]; exact b), if_neg (z10 (show m_X6_lacks gl = 1 by rw [hm.1]; exact c))]
  · rw [if_neg (show ¬ sz = 0 by rw [hc.1]; exact b), if_pos (show m_X6_lacks gl = 0 by rw [hm.1]; exact c)]
    rcases z_from (M := 60) (a := 60) (b := 60) rfl rfl (by omega) p1 with ⟨x, y⟩ | ⟨m, m1, m2, rfl, x, y⟩
    · rw [if_pos x, if_pos y]
    · rw [if_neg (z10 x), if_neg (z10 y)]
      by_cases q2 : p2 < 0
      · rw [if_pos q2, if_pos q2]
      · rw [if_neg q2, if_neg q2]
        rcases z_upto (M := 2) (a := 2) (b := 2) rfl rfl (by omega) p3 with ⟨h1, h2⟩ | ⟨n, hn, rfl, h3, h4, h5, h6⟩
        · rw [if_pos h2]
          rcases h1 with q | ⟨q1, q2, q3⟩
          · rw [if_pos q]
          · rw [if_neg q1, if_neg q2]
        · rw [if_neg h3, if_pos h4, if_neg (z10 h6)]
          obtain ⟨u1, u2, w, eb, hr, hw⟩ := zm_begin h hm am tkm ln wd 1
          have hfw : zFm A w := fun j hj => by rw [hw j hj, if_neg (by decide)]; exact hf j hj
          have h1 : zFc A (m_X0_copyFrom tr sp ic).1 (m_X0_copyFrom tr sp ic).2 := zx_copy (wc := tr) hfc
          obtain ⟨F, s', xa, xb, kk, w', g1, g2, g3, g4, g5, g6⟩ := z_pourLoop (zx_std h hc) hr a m2 (rs_X6_pourings_3 gl (nI n) u1 u2) m 0 62 A p2 _ _ w (by omega) (by omega) hd' (by omega) h1 hfw
          unfold m_X5_pourBySeed
          rw [eb]
          simp only [z_cut2, z_cut3]
          rw [show (0 : Int32) = nI 0 from rfl, g1, g2]
          unfold rs_X6_pourings_3
          obtain ⟨k2, g7⟩ := z_pourCount (zx_std h hc) hr g3 (fun j hj => by have := zS10_le (A := F) (j := j) (by omega); omega) g5.2 g6 (rs_X6_pourings_4 (nI n) s' u1 u2 w')
          rw [g7]
          unfold rs_X6_pourings_4
          simp only [z_cut]
          rcases (show n = 0 ∨ n = 1 ∨ n = 2 by omega) with rfl | rfl | rfl
          · rw [if_pos rfl, if_pos (show nI 0 = 0 from rfl)]
          · rw [if_neg (show ¬ nI 1 = nI 0 by decide), if_pos (show nI 1 = 1 from rfl), if_neg (show ¬ nI 1 = 0 by decide), if_pos (show nI 1 = 1 from rfl)]
          · rw [if_neg (show ¬ nI 2 = nI 0 by decide), if_neg (show ¬ nI 2 = 1 by decide), if_neg (show ¬ nI 2 = 0 by decide), if_neg (show ¬ nI 2 = 1 by decide)]
