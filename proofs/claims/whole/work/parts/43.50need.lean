/-! how much is needed: the class halves, the reference counts -/
def zFl (N : Nat) (T : Nat → Nat) (s : Nat) (B : Nat → Nat) : Prop := ∀ g, g < N → s / 2 ^ g % 2 = 1 → B g = T g
theorem zx_areFull {N : Nat} {L t C : Nat → Nat} {S : Nat → Nat → Nat} {sz : Int32} {kd tk sc sh : Nat → Int32} (h : zStd N L t C S sz kd tk sc sh) {B : Nat → Nat} {ic : Nat → Int64} (hf : ∀ g, g < 9 → ic g = lN (B g)) (hB : ∀ g, g < 9 → B g < 2 ^ 62) {s : Nat} (hs : s < 2 ^ 31) : (m_X0_areFull ic sz tk (nI s) = 1 ∧ zFl N (fun g => t g * zM) s B) ∨ (m_X0_areFull ic sz tk (nI s) = 0 ∧ ¬ zFl N (fun g => t g * zM) s B) := by
  have hN := h.1
  have hz := h.2.1
  subst hz
  have hl : ∀ (r g fuel : Nat), g + r = N → r < fuel → (∀ j, j < g → s / 2 ^ j % 2 = 1 → B j = t j * zM) → (lp_X0_areFull_2 (nI N) rs_X0_areFull_2 (nI s) ic tk fuel (nI g) = 1 ∧ zFl N (fun g => t g * zM) s B) ∨ (lp_X0_areFull_2 (nI N) rs_X0_areFull_2 (nI s) ic tk fuel (nI g) = 0 ∧ ¬ zFl N (fun g => t g * zM) s B) := by
    intro r
    induction r with
    | zero =>
      intro g fuel h1 h2 hi
      obtain ⟨f, rfl⟩ : ∃ f, fuel = f + 1 := ⟨fuel - 1, by omega⟩
      rw [lp_X0_areFull_2, if_pos (nI_le (by omega) (by omega))]
      exact Or.inl ⟨rfl, fun j hj => hi j (by omega)⟩
    | succ r ih =>
      intro g fuel h1 h2 hi
      obtain ⟨f, rfl⟩ : ∃ f, fuel = f + 1 := ⟨fuel - 1, by omega⟩
      rw [lp_X0_areFull_2, if_neg (nI_ge (by omega) (by omega))]
      simp only [cut]
      rw [zx_isFull h hf hB (show g < N by omega), nI_1]
      by_cases q : s / 2 ^ g % 2 = 1
      · rw [if_pos ((z_bit1 hs (by omega)).mpr q)]
        by_cases q2 : B g = t g * zM
        · rw [if_pos q2, if_neg (by decide)]
          refine ih (g + 1) f (by omega) (by omega) (fun j hj hb => ?_)
          by_cases q3 : j = g
          · rw [q3]; exact q2
          · exact hi j (by omega) hb
        · rw [if_neg q2, if_pos rfl]
          exact Or.inr ⟨rfl, fun x => q2 (x g (by omega) q)⟩
      · rw [if_neg (fun x => q ((z_bit1 hs (by omega)).mp x))]
        refine ih (g + 1) f (by omega) (by omega) (fun j hj hb => ?_)
        by_cases q3 : j = g
        · rw [q3] at hb; exact absurd hb q
        · exact hi j (by omega) hb
  exact hl N 0 11 (by omega) (by omega) (fun j hj => by omega)
theorem zx_would {N : Nat} {L t C : Nat → Nat} {S : Nat → Nat → Nat} {sz : Int32} {kd tk sc sh : Nat → Int32} (h : zStd N L t C S sz kd tk sc sh) {A : Nat → Nat} {sp : Int64} {ic : Nat → Int64} {g m : Nat} (hg : g < N) (hm : m < 2 ^ 20) (hd : zDv A) (hB : zS10 A < 2 ^ 46) (hf : zFc A sp ic) (tr : Nat → Int64) {s : Nat} (hs : s < 2 ^ 31) : ∃ (x : Int32) (a : Int64) (b : Nat → Int64), m_X5_wouldFill sz kd tk sc sh sp ic tr (nI s) (nI g) (nI m) = (x, a, b) ∧ ((x = 1 ∧ zFl N (fun g => t g * zM) s (zRn (fun g => t g * zM) (zE L C S) N 0 (zPo A g m))) ∨ (x = 0 ∧ ¬ zFl N (fun g => t g * zM) s (zRn (fun g => t g * zM) (zE L C S) N 0 (zPo A g m)))) := by
  have hN := h.1
  have h1 : zFc A (m_X0_copyFrom tr sp ic).1 (m_X0_copyFrom tr sp ic).2 := zx_copy (wc := tr) hf
  have h2 := zx_add h hg hm hd (by omega) h1
  have hsum : zS10 (zPo A g m) = zS10 A + m * zM := zPo_sum (by omega)
  have hmz : m * zM ≤ 2 ^ 20 * zM := Nat.mul_le_mul_right _ (by omega)
  have hmz2 : 2 ^ 20 * zM < 2 ^ 61 := by decide
  have hrs := zRn_sum h.ok (T := fun g => t g * zM) (fun g => zM_dvd _) N 0 (zPo A g m) (by omega) (zPo_dv hd)
  refine ⟨_, _, _, rfl, ?_⟩
  exact zx_areFull h h2.2 (fun j hj => by have := zS10_le (A := zRn (fun g => t g * zM) (zE L C S) N 0 (zPo A g m)) (j := j) (by omega); omega) hs
theorem zFl_mono {N : Nat} {T : Nat → Nat} {E : Nat → Nat → Nat → Nat} (h : zEok N E) {A : Nat → Nat} {g s m m' : Nat} (hm : m ≤ m') (hf : zFl N T s (zRn T E N 0 (zPo A g m))) : zFl N T s (zRn T E N 0 (zPo A g m')) := by
  intro j hj hb
  have e := hf j hj hb
  have h1 := zRn_mono (T := T) h N 0 (zPo A g m) (zPo A g m') (by omega) (fun i => by
    unfold zPo
    have := Nat.mul_le_mul_right zM hm
    split <;> omega) j
  have h2 := zRn_le (T := T) h N 0 (zPo A g m') (by omega) j (by omega) (by omega)
  omega
theorem zx_leastLoop {P : Nat → Prop} {sz : Int32} {kd tk sc sh : Nat → Int32} {sp : Int64} {ic : Nat → Int64} {s g : Int32} (hw : ∀ (m : Nat) (tr : Nat → Int64), m ≤ 999 → ∃ (x : Int32) (a : Int64) (b : Nat → Int64), m_X5_wouldFill sz kd tk sc sh sp ic tr s g (nI m) = (x, a, b) ∧ ((x = 1 ∧ P m) ∨ (x = 0 ∧ ¬ P m))) (hP : ∀ m m', m ≤ m' → P m → P m') : ∀ (k fuel st lo hi : Nat) (b7 : Int64) (b8 : Nat → Int64), st + k = 10 → k < fuel → lo ≤ hi → hi ≤ 999 → hi - lo < 2 ^ k → P hi → (∀ j, j < lo → ¬ P j) → ∃ (m0 : Nat) (a : Int64) (b : Nat → Int64), m0 ≤ 999 ∧ P m0 ∧ (∀ j, j < m0 → ¬ P j) ∧ lp_X5_leastToFill_2 rs_X5_leastToFill_2 sz kd tk sc sh sp ic s g fuel (nI st) (nI hi) (nI lo) b7 b8 = (nI m0, a, b) := by
  intro k
  induction k with
  | zero =>
    intro fuel st lo hi b7 b8 h1 h2 h3 h4 h5 h6 h7
    obtain ⟨f, rfl⟩ : ∃ f, fuel = f + 1 := ⟨fuel - 1, by omega⟩
    have e : lo = hi := by omega
    subst e
    rw [lp_X5_leastToFill_2, show (10 : Int32) = nI 10 from rfl, if_pos (nI_le (by omega) (by omega))]
    exact ⟨lo, _, _, h4, h6, h7, rfl⟩
  | succ k ih =>
    intro fuel st lo hi b7 b8 h1 h2 h3 h4 h5 h6 h7
    obtain ⟨f, rfl⟩ : ∃ f, fuel = f + 1 := ⟨fuel - 1, by omega⟩
    rw [lp_X5_leastToFill_2, show (10 : Int32) = nI 10 from rfl, if_neg (nI_ge (by omega) (by omega))]
    by_cases e : hi = lo
    · subst e
      rw [if_pos (nI_le (by omega) (by omega))]
      exact ⟨hi, _, _, h4, h6, h7, rfl⟩
    · rw [if_neg (nI_ge (by omega) (by omega)), nI_add, zn2, pk_div (by omega) (by omega) (by omega)]
      rw [Nat.pow_succ] at h5
      obtain ⟨x, a, b, e1, e2⟩ := hw ((lo + hi) / 2) b8 (by omega)
      simp only [cut]
      rw [e1]
      simp only [cut3]
      rw [nI_1, nI_1]
      rcases e2 with ⟨e3, e4⟩ | ⟨e3, e4⟩
      · rw [if_neg (z10 e3)]
        exact ih f (st + 1) lo ((lo + hi) / 2) a b (by omega) (by omega) (by omega) (by omega) (by omega) e4 h7
      · rw [if_pos e3]
        exact ih f (st + 1) ((lo + hi) / 2 + 1) hi a b (by omega) (by omega) (by omega) (by omega) (by omega) h6 (fun j hj q => e4 (hP j _ (by omega) q))
theorem zx_least {P : Nat → Prop} {sz : Int32} {kd tk sc sh : Nat → Int32} {sp : Int64} {ic : Nat → Int64} {s g : Int32} (hw : ∀ (m : Nat) (tr : Nat → Int64), m ≤ 999 → ∃ (x : Int32) (a : Int64) (b : Nat → Int64), m_X5_wouldFill sz kd tk sc sh sp ic tr s g (nI m) = (x, a, b) ∧ ((x = 1 ∧ P m) ∨ (x = 0 ∧ ¬ P m))) (hP : ∀ m m', m ≤ m' → P m → P m') (tr : Nat → Int64) : (∃ (m0 : Nat) (a : Int64) (b : Nat → Int64), m0 ≤ 999 ∧ P m0 ∧ (∀ j, j < m0 → ¬ P j) ∧ m_X5_leastToFill sz kd tk sc sh sp ic tr s g = (nI m0, a, b)) ∨ (¬ P 999 ∧ ∃ (a : Int64) (b : Nat → Int64), m_X5_leastToFill sz kd tk sc sh sp ic tr s g = (-1, a, b)) := by
  unfold m_X5_leastToFill
  obtain ⟨x, a, b, e1, e2⟩ := hw 999 tr (by omega)
  rw [show (999 : Int32) = nI 999 from rfl, e1]
  simp only [cut3]
  rcases e2 with ⟨e3, e4⟩ | ⟨e3, e4⟩
  · rw [if_neg (z10 e3)]
    exact Or.inl (zx_leastLoop hw hP 10 12 0 0 999 a b (by omega) (by omega) (by omega) (by omega) (by omega) e4 (fun j hj => by omega))
  · rw [if_pos e3]
    exact Or.inr ⟨e4, a, b, rfl⟩
theorem zm_needIn {N : Nat} {L t C : Nat → Nat} {S : Nat → Nat → Nat} {gl : Int32} {rows : Nat → Int32} {tk : Nat → Int64} {ln : Nat → Int32} (h : zStr N L t C S gl rows tk ln) {B : Nat → Nat} {b5 : Nat → Int64} (hf : zFm B b5) (hd : zDv B) (hB : ∀ g, g < 9 → B g < 2 ^ 62) {s : Nat} (hs : s < 2 ^ 31) (ct : Int32 → Int32 → (Int32 × (Nat → Int64) × (Nat → Int32) × (Nat → Int64))) : ∃ (kk x : Int32), lp_X6_needOf_6 gl ct (nI s) b5 tk 11 0 1 = ct kk x ∧ ((x = 1 ∧ zFl N (fun g => t g * zM) s B) ∨ (x = 0 ∧ ¬ zFl N (fun g => t g * zM) s B)) := by
  have hN := h.1
  have hz := h.2.1
  subst hz
  have hl : ∀ (r g fuel : Nat) (b9 : Int32), g + r = N → r < fuel → ((b9 = 1 ∧ ∀ j, j < g → s / 2 ^ j % 2 = 1 → B j = t j * zM) ∨ (b9 = 0 ∧ ¬ zFl N (fun g => t g * zM) s B)) → ∃ (kk x : Int32), lp_X6_needOf_6 (nI N) ct (nI s) b5 tk fuel (nI g) b9 = ct kk x ∧ ((x = 1 ∧ zFl N (fun g => t g * zM) s B) ∨ (x = 0 ∧ ¬ zFl N (fun g => t g * zM) s B)) := by
    intro r
    induction r with
    | zero =>
      intro g fuel b9 h1 h2 hi
      obtain ⟨f, rfl⟩ : ∃ f, fuel = f + 1 := ⟨fuel - 1, by omega⟩
      rw [lp_X6_needOf_6, if_pos (nI_le (by omega) (by omega))]
      refine ⟨_, b9, rfl, ?_⟩
      rcases hi with ⟨a, b⟩ | ⟨a, b⟩
      · exact Or.inl ⟨a, fun j hj => b j (by omega)⟩
      · exact Or.inr ⟨a, b⟩
    | succ r ih =>
      intro g fuel b9 h1 h2 hi
      obtain ⟨f, rfl⟩ : ∃ f, fuel = f + 1 := ⟨fuel - 1, by omega⟩
      obtain ⟨-, -, e3, e4, -⟩ := h.2.2 g (by omega)
      have hM := zM_lt e4
      have hMW := zMW (t g)
      have hBg := hB g (by omega)
      have h12 := zDv12 hd (j := g) (by omega)
      rw [lp_X6_needOf_6, if_neg (nI_ge (by omega) (by omega))]
      simp only [cut]
      rw [nI_1, nI_clamp (show g < 2 ^ 31 by omega), hf g (by omega), e3]
      rcases hi with ⟨a, b⟩ | ⟨a, b⟩
      · rw [if_neg (z10 a)]
        by_cases q : s / 2 ^ g % 2 = 1
        · rw [if_neg (fun x => (z_bit0 hs (by omega)).mp x q)]
          by_cases q2 : B g = t g * zM
          · rw [if_pos ((zc_eq (by omega) (by omega)).mpr (by omega))]
            refine ih (g + 1) f 1 (by omega) (by omega) (Or.inl ⟨rfl, fun j hj hb => ?_⟩)
            by_cases q3 : j = g
            · rw [q3]; exact q2
            · exact b j (by omega) hb
          · rw [if_neg (fun x => q2 (by have := (zc_eq (by omega) (by omega)).mp x; omega))]
            exact ih (g + 1) f 0 (by omega) (by omega) (Or.inr ⟨rfl, fun x => q2 (x g (by omega) q)⟩)
        · rw [if_pos ((z_bit0 hs (by omega)).mpr q)]
          refine ih (g + 1) f 1 (by omega) (by omega) (Or.inl ⟨rfl, fun j hj hb => ?_⟩)
          by_cases q3 : j = g
          · rw [q3] at hb; exact absurd hb q
          · exact b j (by omega) hb
      · rw [if_pos a]
        exact ih (g + 1) f 0 (by omega) (by omega) (Or.inr ⟨rfl, b⟩)
  exact hl N 0 11 1 (by omega) (by omega) (Or.inl ⟨rfl, fun j hj => by omega⟩)
theorem zPo_step {N : Nat} {T : Nat → Nat} {E : Nat → Nat → Nat → Nat} (h : zEok N E) (hT : ∀ g, 12 ^ 9 ∣ T g) {A : Nat → Nat} (hd : zDv A) (g m : Nat) : zRn T E N 0 (zPo (zRn T E N 0 (zPo A g m)) g 1) = zRn T E N 0 (zPo A g (m + 1)) := by
  have e := zRn_add h hT N 0 (zPo A g m) (fun j => if j = g then 1 * zM else 0) (by omega) (zPo_dv hd) (zDv_pt (zM_dvd 1))
  show zRn T E N 0 (fun j => zRn T E N 0 (zPo A g m) j + (if j = g then 1 * zM else 0)) = _
  rw [e]
  congr 1
  funext j
  show A j + (if j = g then m * zM else 0) + (if j = g then 1 * zM else 0) = A j + (if j = g then (m + 1) * zM else 0)
  have := Nat.add_mul m 1 zM
  split <;> omega
theorem zPo_0 {N : Nat} {T : Nat → Nat} {E : Nat → Nat → Nat → Nat} (h : zEok N E) {A : Nat → Nat} (hA : ∀ j, j < N → A j ≤ T j) (g : Nat) : zRn T E N 0 (zPo A g 0) = A := by
  have e : zPo A g 0 = A := by
    funext j
    unfold zPo
    rw [Nat.zero_mul]
    split <;> rfl
  rw [e]
  exact zRn_fix h N 0 A (by omega) (fun j _ hj => hA j (by omega))
theorem zm_needLoop {N : Nat} {L t C : Nat → Nat} {S : Nat → Nat → Nat} {gl : Int32} {rows : Nat → Int32} {tk : Nat → Int64} {ln : Nat → Int32} (h : zStr N L t C S gl rows tk ln) {A : Nat → Nat} (hd : zDv A) (hB : zS10 A < 2 ^ 46) {s g0 : Nat} (hs : s < 2 ^ 31) (hg : g0 < N) : ∀ (r m fuel : Nat) (b5 : Nat → Int64), m + r = 1000 → r < fuel → zFm (zRn (fun g => t g * zM) (zE L C S) N 0 (zPo A g0 m)) b5 → (∀ j, j < m → ¬ zFl N (fun g => t g * zM) s (zRn (fun g => t g * zM) (zE L C S) N 0 (zPo A g0 j))) → (∃ (m0 : Nat) (w : Nat → Int64), m0 < 1000 ∧ zFl N (fun g => t g * zM) s (zRn (fun g => t g * zM) (zE L C S) N 0 (zPo A g0 m0)) ∧ (∀ j, j < m0 → ¬ zFl N (fun g => t g * zM) s (zRn (fun g => t g * zM) (zE L C S) N 0 (zPo A g0 j))) ∧ lp_X6_needOf_5 (rs_X6_needOf_5 tk ln) gl (nI g0) rows tk ln (nI s) fuel (nI m) b5 = (nI m0, tk, ln, w)) ∨ ((∀ j, j < 1000 → ¬ zFl N (fun g => t g * zM) s (zRn (fun g => t g * zM) (zE L C S) N 0 (zPo A g0 j))) ∧ ∃ w : Nat → Int64, lp_X6_needOf_5 (rs_X6_needOf_5 tk ln) gl (nI g0) rows tk ln (nI s) fuel (nI m) b5 = (-1, tk, ln, w)) := by
  have hN := h.1
  have hok := h.ok
  intro r
  induction r with
  | zero =>
    intro m fuel b5 h1 h2 hf hi
    obtain ⟨f, rfl⟩ : ∃ f, fuel = f + 1 := ⟨fuel - 1, by omega⟩
    rw [lp_X6_needOf_5, show (1000 : Int32) = nI 1000 from rfl, if_pos (nI_le (by omega) (by omega))]
    exact Or.inr ⟨fun j hj => hi j (by omega), _, rfl⟩
  | succ r ih =>
    intro m fuel b5 h1 h2 hf hi
    obtain ⟨f, rfl⟩ : ∃ f, fuel = f + 1 := ⟨fuel - 1, by omega⟩
    have hsum : zS10 (zPo A g0 m) = zS10 A + m * zM := zPo_sum (by omega)
    have hmz : m * zM ≤ 1000 * zM := Nat.mul_le_mul_right _ (by omega)
    have hmz2 : 1000 * zM < 2 ^ 50 := by decide
    have hrs := zRn_sum hok (T := fun g => t g * zM) (fun g => zM_dvd _) N 0 (zPo A g0 m) (by omega) (zPo_dv hd)
    have hdv := zRn_dv hok (T := fun g => t g * zM) (fun g => zM_dvd _) N 0 (zPo A g0 m) (by omega) (zPo_dv hd)
    rw [lp_X6_needOf_5, show (1000 : Int32) = nI 1000 from rfl, if_neg (nI_ge (by omega) (by omega))]
    obtain ⟨kk, x, e1, e2⟩ := zm_needIn h hf hdv (fun j hj => by have := zS10_le (A := zRn (fun g => t g * zM) (zE L C S) N 0 (zPo A g0 m)) (j := j) (by omega); omega) hs (rs_X6_needOf_6 b5 (nI g0) gl rows tk ln (nI m) (fun c0 c1 => lp_X6_needOf_5 (rs_X6_needOf_5 tk ln) gl (nI g0) rows tk ln (nI s) f c0 c1))
    rw [e1]
    unfold rs_X6_needOf_6
    rcases e2 with ⟨a, b⟩ | ⟨a, b⟩
    · rw [if_neg (z10 a)]
      exact Or.inl ⟨m, b5, by omega, b, hi, rfl⟩
    · rw [if_pos a]
      simp only [cut, cut2]
      rw [nI_clamp (show g0 < 2 ^ 31 by omega), nI_1]
      have hpo := zFm_po (m := 1) hdv (show g0 < 9 by omega) hf
      rw [Nat.one_mul, ← zWl] at hpo
      have hrun := (zm_runw h (zPo_dv (g := g0) (m := 1) hdv) (by rw [zPo_sum (by omega), hrs]; omega) hpo).2
      rw [zPo_step hok (fun g => zM_dvd _) hd] at hrun
      refine ih (m + 1) f _ (by omega) (by omega) hrun (fun j hj => ?_)
      by_cases q : j = m
      · rw [q]; exact b
      · exact hi j (by omega)
/-- both ask alike -/
theorem z_need {N : Nat} {K Hd C : Nat → Nat} {S : Nat → Nat → Nat} {sz : Int32} {kd hd tk sc sh : Nat → Int32} {gl : Int32} {rows : Nat → Int32} (h : zTow N K Hd C S) (hc : zStC N K Hd C S sz kd hd tk sc sh) (hm : zStM N K Hd C S gl rows) {A : Nat → Nat} {sp : Int64} {ic am : Nat → Int64} (hf : zFc A sp ic) (hf2 : zFm A am) (hI : zIn N (zT K Hd) A) (hB : zS10 A < 2 ^ 46) {s g : Nat} (hs : s < 2 ^ 31) (hg : g < N) (tr tkm : Nat → Int64) (ln : Nat → Int32) (wd : Nat → Int64) : (m_X5_leastToFill sz kd tk sc sh sp ic tr (nI s) (nI g)).1 = (m_X6_needOf gl rows am tkm ln wd (nI s) (nI g)).1 := by
  have hN := h.1
  have hst := zx_std h hc
  have hok := hst.ok
  obtain ⟨u1, u2, w, eb, hr, hw⟩ := zm_begin h hm am tkm ln wd 1
  have hX := zx_least (P := fun m => zFl N (fun g => zT K Hd g * zM) s (zRn (fun g => zT K Hd g * zM) (zE (zL K) C S) N 0 (zPo A g m))) (sz := sz) (kd := kd) (tk := tk) (sc := sc) (sh := sh) (sp := sp) (ic := ic) (s := nI s) (g := nI g) (fun m tr hm9 => zx_would hst hg (by omega) hI.2.2 hB hf tr hs) (fun m m' hmm q => zFl_mono hok hmm q) tr
  have hwF : zFm (zRn (fun g => zT K Hd g * zM) (zE (zL K) C S) N 0 (zPo A g 0)) w := by
    rw [zPo_0 hok (fun j hj => hI.1 j hj)]
    intro j hj
    rw [hw j hj, if_neg (by decide)]
    exact hf2 j hj
  have hM := zm_needLoop hr hI.2.2 hB hs hg 1000 0 1002 w (by omega) (by omega) hwF (fun j hj => by omega)
  unfold m_X6_needOf
  rw [eb]
  simp only [cut3]
  rw [show (0 : Int32) = nI 0 from rfl]
  rcases hM with ⟨m0, w', q1, q2, q3, q4⟩ | ⟨q1, w', q2⟩
  · rw [q4]
    rcases hX with ⟨m1, a, b, r1, r2, r3, r4⟩ | ⟨r1, a, b, r2⟩
    · rw [r4]
      show nI m1 = nI m0
      rcases Nat.lt_trichotomy m0 m1 with t | t | t
      · exact absurd q2 (r3 m0 t)
      · rw [t]
      · exact absurd r2 (q3 m1 t)
    · exact absurd (zFl_mono hok (show m0 ≤ 999 by omega) q2) r1
  · rw [q2]
    rcases hX with ⟨m1, a, b, r1, r2, r3, r4⟩ | ⟨r1, a, b, r2⟩
    · exact absurd r2 (q1 m1 (by omega))
    · rw [r2]
