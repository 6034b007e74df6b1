/-! two glasses changed about -/
def zSw (a b : Nat) (f : Nat → Nat) : Nat → Nat := fun j => if j = b then f a else if j = a then f b else f j
theorem zSw_2 {a b : Nat} (hab : a ≠ b) (f : Nat → Nat) : zSw a b (zSw a b f) = f := by
  funext j
  show (if j = b then zSw a b f a else if j = a then zSw a b f b else zSw a b f j) = f j
  have ea : zSw a b f a = f b := by
    show (if a = b then f a else if a = a then f b else f a) = f b
    rw [if_neg hab, if_pos rfl]
  have eb : zSw a b f b = f a := by
    show (if b = b then f a else _) = f a
    rw [if_pos rfl]
  by_cases q : j = b
  · rw [if_pos q, ea, q]
  · rw [if_neg q]
    by_cases q2 : j = a
    · rw [if_pos q2, eb, q2]
    · rw [if_neg q2]
      show (if j = b then f a else if j = a then f b else f j) = f j
      rw [if_neg q, if_neg q2]
theorem z_swI (f : Nat → Int32) {a b : Nat} (ha : a < 2 ^ 31) (hb : b < 2 ^ 31) (j : Nat) : m_X3_exchangeIn f (nI a) (nI b) j = if j = b then f a else if j = a then f b else f j := by
  unfold m_X3_exchangeIn
  simp only [z_cut]
  rw [nI_clamp ha, nI_clamp hb]
  by_cases q : j = b
  · rw [if_pos q, q, pk_us]
  · rw [if_neg q, pk_un q]
    by_cases q2 : j = a
    · rw [if_pos q2, q2, pk_us]
    · rw [if_neg q2, pk_un q2]
theorem zx_swap {N : Nat} {L t C : Nat → Nat} {S : Nat → Nat → Nat} {sz : Int32} {kd tk sc sh : Nat → Int32} (h : zStd N L t C S sz kd tk sc sh) {a b : Nat} (ha : a < N) (hb : b < N) (hd : Nat → Int32) : ∃ k' h' t' : Nat → Int32, m_X3_exchange sz kd hd tk (nI a) (nI b) = (k', h', t') ∧ zStd N (zSw a b L) (zSw a b t) C S sz k' t' sc sh := by
  have hN := h.1
  unfold m_X3_exchange
  simp only [z_cut]
  rw [h.2.1, if_neg (z10 (zx_has hN ha)), if_neg (z10 (zx_has hN hb))]
  refine ⟨_, _, _, rfl, hN, rfl, fun j hj => ?_⟩
  obtain ⟨e1, e2, e3, e4⟩ := h.2.2 j hj
  obtain ⟨a1, a2, a3, -⟩ := h.2.2 a ha
  obtain ⟨b1, b2, b3, -⟩ := h.2.2 b hb
  rw [z_swI kd (by omega) (by omega), z_swI tk (by omega) (by omega)]
  show (if j = b then L a else if j = a then L b else L j) = _ ∧ _ = nI (if j = b then t a else if j = a then t b else t j) ∧ (if j = b then t a else if j = a then t b else t j) ≤ 9 ∧ _
  by_cases q : j = b
  · simp only [if_pos q]; exact ⟨a1, a2, a3, e4⟩
  · simp only [if_neg q]
    by_cases q2 : j = a
    · simp only [if_pos q2]; exact ⟨b1, b2, b3, e4⟩
    · simp only [if_neg q2]; exact ⟨e1, e2, e3, e4⟩
theorem zm_swap {N : Nat} {L t C : Nat → Nat} {S : Nat → Nat → Nat} {gl : Int32} {rows : Nat → Int32} {tk : Nat → Int64} {ln : Nat → Int32} (h : zStr N L t C S gl rows tk ln) {a b : Nat} (ha : a < N) (hb : b < N) : zStr N (zSw a b L) (zSw a b t) C S gl rows (vp_updL (vp_updL tk a (tk b)) b (tk a)) (upd (upd ln a (ln b)) b (ln a)) := by
  refine ⟨h.1, h.2.1, fun j hj => ?_⟩
  obtain ⟨e1, e2, e3, e4, e5⟩ := h.2.2 j hj
  obtain ⟨a1, a2, a3, a4, -⟩ := h.2.2 a ha
  obtain ⟨b1, b2, b3, b4, -⟩ := h.2.2 b hb
  show (if j = b then L a else if j = a then L b else L j) ≤ 1 ∧ _ = nI (if j = b then L a else if j = a then L b else L j) ∧ _ = lN ((if j = b then t a else if j = a then t b else t j) * zW) ∧ (if j = b then t a else if j = a then t b else t j) ≤ 9 ∧ _
  by_cases q : j = b
  · simp only [if_pos q]; rw [q, pk_us, pk_uLs, ← q]; exact ⟨a1, a2, a3, a4, e5⟩
  · simp only [if_neg q]
    rw [pk_un q, pk_uLn q]
    by_cases q2 : j = a
    · simp only [if_pos q2]; rw [q2, pk_us, pk_uLs, ← q2]; exact ⟨b1, b2, b3, b4, e5⟩
    · simp only [if_neg q2]; rw [pk_un q2, pk_uLn q2]; exact ⟨e1, e2, e3, e4, e5⟩
/-- what is spilt in all, after the change and the pouring -/
def zSv (N : Nat) (L t C : Nat → Nat) (S : Nat → Nat → Nat) (A : Nat → Nat) (m : Nat) : Nat := zRn (fun g => t g * zM) (zE L C S) N 0 (zPo (zRn (fun g => t g * zM) (zE L C S) N 0 A) 0 m) 9
theorem zSv_ok {N : Nat} {L t C : Nat → Nat} {S : Nat → Nat → Nat} (hok : zEok N (zE L C S)) {A : Nat → Nat} (hd : zDv A) (hB : zS10 A < 2 ^ 46) {m : Nat} (hm : m ≤ 99) : 12 ∣ zSv N L t C S A m ∧ A 9 ≤ zSv N L t C S A m ∧ zSv N L t C S A m < 2 ^ 62 := by
  have hN := hok.1
  have d1 := zRn_dv hok (T := fun g => t g * zM) (fun g => zM_dvd _) N 0 A (by omega) hd
  have d2 := zRn_dv hok (T := fun g => t g * zM) (fun g => zM_dvd _) N 0 (zPo (zRn (fun g => t g * zM) (zE L C S) N 0 A) 0 m) (by omega) (zPo_dv d1)
  have s1 := zRn_sum hok (T := fun g => t g * zM) (fun g => zM_dvd _) N 0 A (by omega) hd
  have s2 := zRn_sum hok (T := fun g => t g * zM) (fun g => zM_dvd _) N 0 (zPo (zRn (fun g => t g * zM) (zE L C S) N 0 A) 0 m) (by omega) (zPo_dv d1)
  rw [zPo_sum (by omega), s1] at s2
  have hmz : m * zM ≤ 99 * zM := Nat.mul_le_mul_right _ hm
  have hmz2 : 99 * zM < 2 ^ 46 := by decide
  have n1 := zRn_9 (N := N) (T := fun g => t g * zM) (E := zE L C S) N 0 A hN (by omega)
  have n2 := zRn_9 (N := N) (T := fun g => t g * zM) (E := zE L C S) N 0 (zPo (zRn (fun g => t g * zM) (zE L C S) N 0 A) 0 m) hN (by omega)
  have e9 : zPo (zRn (fun g => t g * zM) (zE L C S) N 0 A) 0 m 9 = zRn (fun g => t g * zM) (zE L C S) N 0 A 9 := by unfold zPo; rw [if_neg (by omega)]; rfl
  rw [e9] at n2
  refine ⟨zDv9 d2, Nat.le_trans n1 n2, ?_⟩
  have := zS10_le (A := zRn (fun g => t g * zM) (zE L C S) N 0 (zPo (zRn (fun g => t g * zM) (zE L C S) N 0 A) 0 m)) (j := 9) (by omega)
  unfold zSv
  omega
theorem zx_spilt {N : Nat} {L t C : Nat → Nat} {S : Nat → Nat → Nat} {sz : Int32} {kd tk sc sh : Nat → Int32} (h : zStd N L t C S sz kd tk sc sh) (hN0 : 0 < N) {A : Nat → Nat} (hd : zDv A) (hB : zS10 A < 2 ^ 46) {sp : Int64} {ic : Nat → Int64} (hf : zFc A sp ic) {m : Nat} (hm : m ≤ 99) (tr : Nat → Int64) : ∃ (a : Int64) (b : Nat → Int64), m_X5_spiltThen sz kd tk sc sh sp ic tr (nI m) = (lN (zSv N L t C S A m), a, b) := by
  have hok := h.ok
  have h1 : zFc A (m_X0_copyFrom tr sp ic).1 (m_X0_copyFrom tr sp ic).2 := zx_copy (wc := tr) hf
  have h2 := zx_run h hd (by omega) h1
  have d1 := zRn_dv hok (T := fun g => t g * zM) (fun g => zM_dvd _) N 0 A (by omega) hd
  have s1 := zRn_sum hok (T := fun g => t g * zM) (fun g => zM_dvd _) N 0 A (by omega) hd
  have h3 := zx_add h (g := 0) (m := m) hN0 (by omega) d1 (by rw [s1]; omega) h2
  unfold m_X5_spiltThen
  simp only [z_cut2]
  rw [show (0 : Int32) = nI 0 from rfl]
  exact ⟨_, _, Prod.ext h3.1 rfl⟩
theorem zm_spilt {N : Nat} {K Hd C : Nat → Nat} {S : Nat → Nat → Nat} {gl : Int32} {rows : Nat → Int32} (h : zTow N K Hd C S) (hm : zStM N K Hd C S gl rows) (hN0 : 0 < N) {A : Nat → Nat} (hd : zDv A) (hB : zS10 A < 2 ^ 46) {am : Nat → Int64} (hf : zFm A am) {m a b : Nat} (hm9 : m ≤ 99) (ha : a < N) (hb : b < N) (tk : Nat → Int64) (ln : Nat → Int32) (wd : Nat → Int64) : ∃ (u : Nat → Int64) (v : Nat → Int32) (w : Nat → Int64), m_X6_spiltBy gl rows am tk ln wd (nI a) (nI b) (nI m) = (lN ((zSv N (zSw a b (zL K)) (zSw a b (zT K Hd)) C S A m - A 9) / 12), u, v, w) := by
  have hN := h.1
  obtain ⟨u1, u2, w, eb, hr, hw⟩ := zm_begin h hm am tk ln wd 1
  have hr2 := zm_swap hr ha hb
  have hok := hr2.ok
  have hfw : zFm A w := fun j hj => by rw [hw j hj, if_neg (by decide)]; exact hf j hj
  have h1 := zm_runw hr2 hd (by omega) hfw
  have d1 := zRn_dv hok (T := fun g => zSw a b (zT K Hd) g * zM) (fun g => zM_dvd _) N 0 A (by omega) hd
  have s1 := zRn_sum hok (T := fun g => zSw a b (zT K Hd) g * zM) (fun g => zM_dvd _) N 0 A (by omega) hd
  have hmz : m * zM ≤ 99 * zM := Nat.mul_le_mul_right _ hm9
  have hmz2 : 99 * zM < 2 ^ 46 := by decide
  have h2 := zm_runw hr2 (zPo_dv (g := 0) (m := m) d1) (by rw [zPo_sum (by omega), s1]; omega) (zFm_po (m := m) d1 (show 0 < 9 by omega) h1.2)
  unfold m_X6_spiltBy
  rw [eb]
  simp only [z_cut3, z_cut, z_cut2]
  rw [nI_clamp (show a < 2 ^ 31 by omega), nI_clamp (show b < 2 ^ 31 by omega), nI_l (show m < 2 ^ 31 by omega), zWl, lN_mul, Nat.mul_comm zW m, z_cl0]
  refine ⟨_, _, _, Prod.ext ?_ rfl⟩
  refine Eq.trans (congrArg (fun x => x + _) h1.1) ?_
  refine Eq.trans (congrArg (fun x => _ + x) h2.1) ?_
  rw [lN_add]
  have d2 := zRn_dv hok (T := fun g => zSw a b (zT K Hd) g * zM) (fun g => zM_dvd _) N 0 (zPo (zRn (fun g => zSw a b (zT K Hd) g * zM) (zE (zSw a b (zL K)) C S) N 0 A) 0 m) (by omega) (zPo_dv d1)
  have n1 := zRn_9 (N := N) (T := fun g => zSw a b (zT K Hd) g * zM) (E := zE (zSw a b (zL K)) C S) N 0 A hN (by omega)
  have n2 := zRn_9 (N := N) (T := fun g => zSw a b (zT K Hd) g * zM) (E := zE (zSw a b (zL K)) C S) N 0 (zPo (zRn (fun g => zSw a b (zT K Hd) g * zM) (zE (zSw a b (zL K)) C S) N 0 A) 0 m) hN (by omega)
  have e9 : zPo (zRn (fun g => zSw a b (zT K Hd) g * zM) (zE (zSw a b (zL K)) C S) N 0 A) 0 m 9 = zRn (fun g => zSw a b (zT K Hd) g * zM) (zE (zSw a b (zL K)) C S) N 0 A 9 := by unfold zPo; rw [if_neg (by omega)]; rfl
  have v0 := zDv9 hd
  have v1 := zDv9 d1
  have v2 := zDv9 d2
  rw [e9] at n2 ⊢
  unfold zSv
  generalize zRn (fun g => zSw a b (zT K Hd) g * zM) (zE (zSw a b (zL K)) C S) N 0 (zPo (zRn (fun g => zSw a b (zT K Hd) g * zM) (zE (zSw a b (zL K)) C S) N 0 A) 0 m) 9 = z2 at n2 v2 ⊢
  generalize zRn (fun g => zSw a b (zT K Hd) g * zM) (zE (zSw a b (zL K)) C S) N 0 A 9 = z1 at n1 n2 v1 ⊢
  rw [show (z1 - A 9) / 12 + (z2 - z1) / 12 = (z2 - A 9) / 12 by omega]
/-- the best so far, as the class and as the reference hold it -/
def zBe (p2 x y : Int32) : Prop := (x = -1 ∧ y = -1) ∨ ∃ a b : Nat, a < 9 ∧ b < 9 ∧ x = (if p2 = 0 then nI a else nI b) ∧ y = nI (9 * a + b)
section
variable {N : Nat} {K Hd C : Nat → Nat} {S : Nat → Nat → Nat} {gl : Int32} {rows : Nat → Int32} {A : Nat → Nat} {am : Nat → Int64} {sp : Int64} {ic : Nat → Int64} {m : Nat} {p2 : Int32} {u5 u6 : Nat → Int32}
theorem z_chIn (h : zTow N K Hd C S) (hm : zStM N K Hd C S gl rows) (hN0 : 0 < N) (hd : zDv A) (hB : zS10 A < 2 ^ 46) (hf : zFm A am) (hfc : zFc A sp ic) (hm9 : m ≤ 99) {a : Nat} (ha : a < N) (cx : Int32 → Int32 → Int64 → (Nat → Int32) → (Nat → Int32) → (Nat → Int32) → Int64 → (Nat → Int64) → (Int32 × Int32 × (Nat → Int32) × (Nat → Int32) × (Nat → Int32) × (Nat → Int32) × (Nat → Int32) × Int64 × (Nat → Int64))) (cm : Int32 → Int32 → Int64 → (Nat → Int64) → (Nat → Int32) → (Nat → Int64) → (Int32 × Int32 × (Nat → Int64) × (Nat → Int32) × (Nat → Int64))) : ∀ (r b fuel l : Nat) (x y : Int32) (k0 h0 t0 : Nat → Int32) (s0 : Int64) (i0 : Nat → Int64) (tk : Nat → Int64) (ln : Nat → Int32) (wd : Nat → Int64), b + r = N → r < fuel → a < b → zStd N (zL K) (zT K Hd) C S (nI N) k0 t0 u5 u6 → 12 ∣ l → A 9 ≤ l → l < 2 ^ 62 → zBe p2 x y → ∃ (kk x' : Int32) (l' : Nat) (k1 h1 t1 : Nat → Int32) (s1 : Int64) (i1 : Nat → Int64) (kk' y' : Int32) (tk' : Nat → Int64) (ln' : Nat → Int32) (wd' : Nat → Int64), lp_X5_bestOfPair_6 (nI N) cx (nI N) (nI a) u5 u6 sp ic (nI m) p2 fuel (nI b) x (lN l) k0 h0 t0 s0 i0 = cx kk x' (lN l') k1 h1 t1 s1 i1 ∧ lp_X6_change_6 gl cm rows am (nI a) (nI m) fuel (nI b) y (lN ((l - A 9) / 12)) tk ln wd = cm kk' y' (lN ((l' - A 9) / 12)) tk' ln' wd' ∧ zStd N (zL K) (zT K Hd) C S (nI N) k1 t1 u5 u6 ∧ 12 ∣ l' ∧ A 9 ≤ l' ∧ l' < 2 ^ 62 ∧ zBe p2 x' y' := by
  have hN := h.1
  have v0 := zDv9 hd
  intro r
  induction r with
  | zero =>
    intro b fuel l x y k0 h0 t0 s0 i0 tk ln wd e1 e2 hab hst l1 l2 l3 hbe
    obtain ⟨f, rfl⟩ : ∃ f, fuel = f + 1 := ⟨fuel - 1, by omega⟩
    rw [lp_X5_bestOfPair_6, lp_X6_change_6, hm.1, if_pos (nI_le (by omega) (by omega)), if_pos (nI_le (by omega) (by omega))]
    exact ⟨_, _, l, _, _, _, _, _, _, _, _, _, _, rfl, rfl, hst, l1, l2, l3, hbe⟩
  | succ r ih =>
    intro b fuel l x y k0 h0 t0 s0 i0 tk ln wd e1 e2 hab hst l1 l2 l3 hbe
    obtain ⟨f, rfl⟩ : ∃ f, fuel = f + 1 := ⟨fuel - 1, by omega⟩
    have hb : b < N := by omega
    obtain ⟨k1, h1, t1, f1, hst1⟩ := zx_swap hst ha hb h0
    obtain ⟨sa, sb, f2⟩ := zx_spilt hst1 hN0 hd hB hfc hm9 i0
    obtain ⟨k2, h2, t2, f3, hst2⟩ := zx_swap hst1 ha hb h1
    rw [zSw_2 (by omega), zSw_2 (by omega)] at hst2
    obtain ⟨ua, ub, uc, f4⟩ := zm_spilt h hm hN0 hd hB hf hm9 ha hb tk ln wd
    obtain ⟨w1, w2, w3⟩ := zSv_ok hst1.ok (t := zSw a b (zT K Hd)) hd hB hm9
    have lg : ¬ gl ≤ nI b := by rw [hm.1]; exact nI_ge hb (by omega)
    rw [lp_X5_bestOfPair_6, lp_X6_change_6, if_neg (nI_ge hb (by omega)), if_neg lg, f1, f4]
    simp only [z_cut3, z_cut4]
    rw [f2]
    simp only [z_cut3]
    rw [f3]
    simp only [z_cut3, z_cut]
    rw [nI_1]
    generalize zSv N (zSw a b (zL K)) (zSw a b (zT K Hd)) C S A m = z at w1 w2 w3 ⊢
    by_cases q : l ≤ z
    · rw [if_pos ((zc_ge (by omega) (by omega)).mpr q)]
      have q' := (zc_ge (a := (z - A 9) / 12) (b := (l - A 9) / 12) (by omega) (by omega)).mpr (by omega)
      rw [if_pos q', if_pos q']
      exact ih (b + 1) f l x y _ _ _ _ _ _ _ _ (by omega) (by omega) (by omega) hst2 l1 l2 l3 hbe
    · rw [if_neg (fun s => q ((zc_ge (by omega) (by omega)).mp s))]
      have q' : ¬ 0 ≤ lg_cmp (lN ((z - A 9) / 12)) (lN ((l - A 9) / 12)) := fun s => q (by have := (zc_ge (by omega) (by omega)).mp s; omega)
      rw [if_neg q', if_neg q']
      have e9 : (9 : Int32) * nI a + nI b = nI (9 * a + b) := by rw [zn9, pk_mul, nI_add]
      rw [e9]
      by_cases qp : p2 = 0
      · rw [if_pos qp]
        exact ih (b + 1) f z _ _ _ _ _ _ _ _ _ _ (by omega) (by omega) (by omega) hst2 w1 w2 w3 (Or.inr ⟨a, b, by omega, by omega, by rw [if_pos qp], rfl⟩)
      · rw [if_neg qp]
        exact ih (b + 1) f z _ _ _ _ _ _ _ _ _ _ (by omega) (by omega) (by omega) hst2 w1 w2 w3 (Or.inr ⟨a, b, by omega, by omega, by rw [if_neg qp], rfl⟩)
theorem z_chOut (h : zTow N K Hd C S) (hm : zStM N K Hd C S gl rows) (hN0 : 0 < N) (hd : zDv A) (hB : zS10 A < 2 ^ 46) (hf : zFm A am) (hfc : zFc A sp ic) (hm9 : m ≤ 99) (v4 : Int32) : ∀ (r a fuel l : Nat) (x y : Int32) (k0 h0 t0 : Nat → Int32) (s0 : Int64) (i0 : Nat → Int64) (tk : Nat → Int64) (ln : Nat → Int32) (wd : Nat → Int64), a + r = N → r < fuel → zStd N (zL K) (zT K Hd) C S (nI N) k0 t0 u5 u6 → 12 ∣ l → A 9 ≤ l → l < 2 ^ 62 → zBe p2 x y → (lp_X5_bestOfPair_5 (nI N) (rs_X5_bestOfPair_5 (nI N) u5 u6) (nI N) u5 u6 sp ic (nI m) p2 fuel (nI a) x (lN l) k0 h0 t0 s0 i0).1 = (lp_X6_change_5 gl (rs_X6_change_5 v4 p2) rows am (nI m) fuel (nI a) y (lN ((l - A 9) / 12)) tk ln wd).1 ∧ (lp_X6_change_5 gl (rs_X6_change_5 v4 p2) rows am (nI m) fuel (nI a) y (lN ((l - A 9) / 12)) tk ln wd).2.1 = v4 := by
  have hN := h.1
  intro r
  induction r with
  | zero =>
    intro a fuel l x y k0 h0 t0 s0 i0 tk ln wd e1 e2 hst l1 l2 l3 hbe
    obtain ⟨f, rfl⟩ : ∃ f, fuel = f + 1 := ⟨fuel - 1, by omega⟩
    rw [lp_X5_bestOfPair_5, lp_X6_change_5, hm.1, if_pos (nI_le (by omega) (by omega)), if_pos (nI_le (by omega) (by omega))]
    unfold rs_X5_bestOfPair_5 rs_X6_change_5
    rcases hbe with ⟨q1, q2⟩ | ⟨i, j, q1, q2, q3, q4⟩
    · rw [if_pos q2]; exact ⟨q1, rfl⟩
    · have ne : ¬ y = -1 := fun s => by
        rw [q4] at s
        have := nI_pos (n := 9 * i + j) (by omega)
        rw [s] at this
        exact this (by decide)
      rw [if_neg ne, q4, q3, zn9, pk_div (by omega) (by omega) (by omega)]
      by_cases qp : p2 = 0
      · rw [if_pos qp, if_pos qp, show (9 * i + j) / 9 = i by omega]; exact ⟨rfl, rfl⟩
      · rw [if_neg qp, if_neg qp, pk_mul, pk_sub (by omega), show 9 * i + j - (9 * i + j) / 9 * 9 = j by omega]; exact ⟨rfl, rfl⟩
  | succ r ih =>
    intro a fuel l x y k0 h0 t0 s0 i0 tk ln wd e1 e2 hst l1 l2 l3 hbe
    obtain ⟨f, rfl⟩ : ∃ f, fuel = f + 1 := ⟨fuel - 1, by omega⟩
    have ha : a < N := by omega
    have lg : ¬ gl ≤ nI a := by rw [hm.1]; exact nI_ge ha (by omega)
    rw [lp_X5_bestOfPair_5, lp_X6_change_5, if_neg (nI_ge ha (by omega)), if_neg lg]
    simp only [z_cut]
    rw [nI_1]
    obtain ⟨kk, x', l', k1, h1, t1, s1, i1, kk', y', tk', ln', wd', g1, g2, g3, g4, g5, g6, g7⟩ := z_chIn h hm hN0 hd hB hf hfc hm9 ha (rs_X5_bestOfPair_6 (nI a) (fun c0 c1 c2 c3 c4 c5 c6 c7 => lp_X5_bestOfPair_5 (nI N) (rs_X5_bestOfPair_5 (nI N) u5 u6) (nI N) u5 u6 sp ic (nI m) p2 f c0 c1 c2 c3 c4 c5 c6 c7)) (rs_X6_change_6 (nI a) (fun c0 c1 c2 c3 c4 c5 => lp_X6_change_5 gl (rs_X6_change_5 v4 p2) rows am (nI m) f c0 c1 c2 c3 c4 c5)) (N - (a + 1)) (a + 1) 11 l x y k0 h0 t0 s0 i0 tk ln wd (by omega) (by omega) (by omega) hst l1 l2 l3 hbe
    rw [g1, g2]
    unfold rs_X5_bestOfPair_6 rs_X6_change_6
    simp only [z_cut]
    rw [nI_1]
    exact ih (a + 1) f l' x' y' k1 h1 t1 s1 i1 tk' ln' wd' (by omega) (by omega) g3 g4 g5 g6 g7
end
theorem zSw_0 (f : Nat → Nat) : zSw 0 0 f = f := by
  funext j
  show (if j = 0 then f 0 else if j = 0 then f 0 else f j) = f j
  by_cases q : j = 0
  · rw [if_pos q, q]
  · rw [if_neg q, if_neg q]
theorem z_change {N : Nat} {K Hd C : Nat → Nat} {S : Nat → Nat → Nat} {sz : Int32} {kd hd tk sc sh : Nat → Int32} {gl : Int32} {rows : Nat → Int32} (h : zTow N K Hd C S) (hc : zStC N K Hd C S sz kd hd tk sc sh) (hm : zStM N K Hd C S gl rows) (hN0 : 0 < N) {A : Nat → Nat} {sp : Int64} {ic am : Nat → Int64} (hfc : zFc A sp ic) (hf : zFm A am) (hd' : zDv A) (hB : zS10 A < 2 ^ 46) {m : Nat} (hm9 : m ≤ 99) (p2 v4 : Int32) (k1 k2 k3 k4 k5 : Nat → Int32) (tr tkm : Nat → Int64) (ln : Nat → Int32) (wd : Nat → Int64) : (m_X5_bestOfPair sz kd hd tk sc sh k1 k2 k3 k4 k5 sp ic tr (nI m) p2).1 = (cut4 (m_X6_spiltBy gl rows am tkm ln wd 0 0 (nI m)) (fun r5 u6 u7 u8 => lp_X6_change_5 gl (rs_X6_change_5 v4 p2) rows am (nI m) 11 0 (-1) r5 u6 u7 u8)).1 ∧ (cut4 (m_X6_spiltBy gl rows am tkm ln wd 0 0 (nI m)) (fun r5 u6 u7 u8 => lp_X6_change_5 gl (rs_X6_change_5 v4 p2) rows am (nI m) 11 0 (-1) r5 u6 u7 u8)).2.1 = v4 := by
  have hN := h.1
  obtain ⟨u2, u3, u4, u5, u6, ec, hc2⟩ := zx_stdCopy h hc k1 k2 k3 k4 k5
  have hst := zx_std h hc2
  obtain ⟨xa, xb, f1⟩ := zx_spilt hst hN0 hd' hB hfc hm9 tr
  obtain ⟨ua, ub, uc, f2⟩ := zm_spilt h hm hN0 hd' hB hf hm9 hN0 hN0 tkm ln wd
  rw [zSw_0, zSw_0] at f2
  obtain ⟨w1, w2, w3⟩ := zSv_ok hst.ok (t := zT K Hd) hd' hB hm9
  unfold m_X5_bestOfPair
  rw [ec]
  simp only [z_cut6]
  rw [f1, show (0 : Int32) = nI 0 from rfl, f2]
  simp only [z_cut3, z_cut4]
  have hz := hc.1
  rw [hz] at hst ⊢
  exact z_chOut h hm hN0 hd' hB hf hfc hm9 v4 N 0 11 _ (-1) (-1) _ _ _ _ _ _ _ _ (by omega) (by omega) hst w1 w2 w3 (Or.inl ⟨rfl, rfl⟩)
