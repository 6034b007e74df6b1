/-! the run over of the reference -/
theorem zm_share {N : Nat} {L t C : Nat → Nat} {S : Nat → Nat → Nat} {gl : Int32} {rows : Nat → Int32} {tk : Nat → Int64} {ln : Nat → Int32} (h : zStr N L t C S gl rows tk ln) {g O : Nat} {B : Nat → Nat} {b13 : Nat → Int64} {ct : Int32 → Int64 → (Nat → Int64) → (Int64 × (Nat → Int64))} (hg : g < N) (hd : 12 ^ (9 - g) ∣ O) (hB : O < 2 ^ 62) (hBd : ∀ j, j < 9 → 12 ∣ B j) (hb : ∀ j, j < 9 → b13 j = lN (B j / 12)) : ∃ (kk : Int32) (b' : Nat → Int64), lp_X6_runOver_a_6 (nI (C g)) ct (lN (O / 12)) rows (nI g) ln (nI (C g) + ln g) 5 (nI 0) (lN (O / 12)) b13 = ct kk (lN (zE L C S g O 9 / 12)) b' ∧ (∀ j, j < 9 → b' j = lN ((B j + zE L C S g O j) / 12)) := by
  have hok := h.ok
  obtain ⟨hN, -, hh⟩ := h
  obtain ⟨h1, h2, -, -, -, h5, h6⟩ := hh g hg
  by_cases c0 : C g = 0
  · have e : ∀ j, zE L C S g O j = if 9 = j then O else 0 := fun j => by unfold zE; rw [if_pos c0]
    rw [c0, lp_X6_runOver_a_6, if_pos (nI_le (by omega) (by omega)), e 9, if_pos rfl]
    refine ⟨_, b13, rfl, fun j hj => ?_⟩
    rw [e, if_neg (by omega), hb j hj]; rfl
  · by_cases o0 : O = 0
    · rw [o0, lp_X6_runOver_a_6, if_neg (nI_ge (by omega) (by omega)), if_pos (by rw [zl0, zc_le (by omega) (by omega)]; omega)]
      have e := (hok.2 g hg).1
      rw [e 9]
      refine ⟨_, b13, rfl, fun j hj => ?_⟩
      rw [e, hb j hj]; rfl
    · obtain ⟨kk, X', b', e1, e2, e3, e4, e5⟩ := zm_shareLoop (ct := ct) (B := B) hN hg h5 h1 hd (by omega) hB h2 hBd h6 5 0 0 b13 (by omega) (by omega) (by rw [if_pos rfl]; rfl) (Nat.dvd_zero _) (fun j _ => Nat.dvd_zero _) hb
      have e : ∀ j, zE L C S g O j = zEk (C g) (S g) (L g) O j (C g) := fun j => by unfold zE; rw [if_neg c0]
      have hb12 := zby (Nat.pos_of_ne_zero c0) h5 h1
      have hdd : (C g + L g) ∣ O := by
        rw [show 9 - g = (8 - g) + 1 by omega] at hd
        exact (zdivp hd hb12).1
      rw [if_neg c0, Nat.div_mul_cancel hdd] at e2
      have hO12 : 12 ∣ O := Nat.dvd_trans (Nat.pow_dvd_pow 12 (show 1 ≤ 9 - g by omega)) hd
      refine ⟨kk, b', ?_, fun j hj => ?_⟩
      · rw [e 9, show zEk (C g) (S g) (L g) O 9 (C g) / 12 = O / 12 - X' / 12 by omega]
        exact e1
      · rw [e]; exact e5 j hj
theorem zMW (t : Nat) : t * zM = 12 * (t * zW) := by
  rw [show zM = 12 * zW from rfl, Nat.mul_left_comm]
theorem zm_runLoop {N : Nat} {L t C : Nat → Nat} {S : Nat → Nat → Nat} {gl : Int32} {rows : Nat → Int32} {tk : Nat → Int64} {ln : Nat → Int32} (h : zStr N L t C S gl rows tk ln) {T : Nat → Nat} (hT : ∀ g, 12 ^ 9 ∣ T g) (hTT : ∀ g, g < N → T g < 2 ^ 62 ∧ tk g = lN (T g / 12)) : ∀ (r g fuel : Nat) (A : Nat → Nat) (b2 : Int64) (b3 : Nat → Int64), g + r = N → r < fuel → zDv A → zS10 A < 2 ^ 62 → zFm A b3 → zGp (zRn T (zE L C S) r g A) (b2 + lN ((zRn T (zE L C S) r g A 9 - A 9) / 12)) (lp_X6_runOver_a_5 gl rs_X6_runOver_a_5 tk rows ln fuel (nI g) b2 b3) := by
  intro r
  induction r with
  | zero =>
    intro g fuel A b2 b3 h1 h2 hd hB hf
    obtain ⟨f, rfl⟩ : ∃ f, fuel = f + 1 := ⟨fuel - 1, by omega⟩
    have hN := h.1
    rw [lp_X6_runOver_a_5, h.2.1, if_pos (nI_le (by omega) (by omega))]
    refine ⟨?_, hf⟩
    show b2 = b2 + lN ((A 9 - A 9) / 12)
    rw [Nat.sub_self]
    exact (Int64.add_zero b2).symm
  | succ r ih =>
    intro g fuel A b2 b3 h1 h2 hd hB hf
    obtain ⟨f, rfl⟩ : ∃ f, fuel = f + 1 := ⟨fuel - 1, by omega⟩
    have hN := h.1
    have hok := h.ok
    have hgg : g < N := by omega
    obtain ⟨e1, e2, -, -, e5, e6, e7⟩ := h.2.2 g hgg
    obtain ⟨hTb, e3⟩ := hTT g hgg
    have hT12 : 12 ∣ T g := Nat.dvd_trans (by decide) (hT g)
    have hA := zS10_le (A := A) (j := g) (by omega)
    have ho := zover_dvd hok hT hgg hd
    have hA12 : 12 ∣ A g := zDv12 hd (by omega)
    have ec : (6 * nI g + 2).toNatClampNeg = 6 * g + 2 := by
      rw [zn2, zn6, pk_mul, nI_add, nI_clamp (by omega)]
    rw [lp_X6_runOver_a_5, h.2.1, if_neg (nI_ge (by omega) (by omega))]
    simp only [cut]
    rw [nI_clamp (by omega), ec, e5, hf g (by omega), e3]
    have ej : (if lg_cmp (lN (A g / 12)) (lN (T g / 12)) ≤ 0 then 0 else lN (A g / 12) - lN (T g / 12)) = lN ((A g - T g) / 12) := by
      by_cases q : A g ≤ T g
      · rw [if_pos ((zc_le (by omega) (by omega)).mpr (by omega)), show A g - T g = 0 by omega]; rfl
      · rw [if_neg (fun x => q (by have := (zc_le (by omega) (by omega)).mp x; omega)), lN_sub (by omega), show A g / 12 - T g / 12 = (A g - T g) / 12 by omega]
    rw [ej, lN_sub (by omega)]
    obtain ⟨kk, b', f1, f2⟩ := zm_share h (B := fun j => if j = g then min (A g) (T g) else A j) (b13 := vp_updL b3 g (lN (A g / 12 - (A g - T g) / 12))) (ct := rs_X6_runOver_a_6 b2 (nI g) (fun c0 c1 c2 => lp_X6_runOver_a_5 (nI N) rs_X6_runOver_a_5 tk rows ln f c0 c1 c2)) hgg ho (by omega) (fun j hj => by
      show 12 ∣ (if j = g then min (A g) (T g) else A j)
      split
      · omega
      · exact zDv12 hd (by omega)) (fun j hj => by
      show vp_updL b3 g _ j = lN ((if j = g then min (A g) (T g) else A j) / 12)
      by_cases hj2 : j = g
      · rw [hj2, pk_uLs, if_pos rfl, show A g / 12 - (A g - T g) / 12 = min (A g) (T g) / 12 by omega]
      · rw [pk_uLn hj2, if_neg hj2, hf j hj])
    rw [zn0, f1]
    unfold rs_X6_runOver_a_6
    simp only [cut]
    rw [nI_1, ← h.2.1]
    have e : (fun j => (if j = g then min (A g) (T g) else A j) + zE L C S g (A g - T g) j) = zSt T (zE L C S) g A := by
      funext j
      unfold zSt
      by_cases hj2 : j = g
      · rw [if_pos hj2, if_pos hj2, hj2, (hok.2 g hgg).2.2.1 _ g (by omega)]
        rfl
      · rw [if_neg hj2, if_neg hj2]
    have hdS := zSt_dv hok hT hgg hd
    have hI := ih (g + 1) f (zSt T (zE L C S) g A) (b2 + lN (zE L C S g (A g - T g) 9 / 12)) b' (by omega) (by omega) hdS (by rw [zSt_sum hok hT hgg hd]; exact hB) (fun j hj => by rw [← e]; exact f2 j hj)
    have h9 : zSt T (zE L C S) g A 9 = A 9 + zE L C S g (A g - T g) 9 := by
      unfold zSt; rw [if_neg (by omega)]
    have d1 := zDv9 hd
    have d2 := zDv9 hdS
    have d3 := zDv9 (zRn_dv hok hT r (g + 1) _ (by omega) hdS)
    have d4 := zRn_9 (T := fun g => T g) (E := zE L C S) r (g + 1) (zSt T (zE L C S) g A) hN (by omega)
    rw [zRn]
    refine ⟨?_, hI.2⟩
    rw [hI.1, Int64.add_assoc, lN_add]
    generalize zRn T (zE L C S) r (g + 1) (zSt T (zE L C S) g A) 9 = z at d3 d4 ⊢
    rw [show zE L C S g (A g - T g) 9 / 12 + (z - zSt T (zE L C S) g A 9) / 12 = (z - A 9) / 12 by omega]
theorem zm_run {N : Nat} {L t C : Nat → Nat} {S : Nat → Nat → Nat} {gl : Int32} {rows : Nat → Int32} {tk : Nat → Int64} {ln : Nat → Int32} (h : zStr N L t C S gl rows tk ln) {A : Nat → Nat} {b3 : Nat → Int64} (hd : zDv A) (hB : zS10 A < 2 ^ 62) (hf : zFm A b3) : zGp (zRn (fun g => t g * zM) (zE L C S) N 0 A) (lN ((zRn (fun g => t g * zM) (zE L C S) N 0 A 9 - A 9) / 12)) (m_X6_runOver_a gl rows b3 tk ln) := by
  have hN := h.1
  have hh := zm_runLoop h (T := fun g => t g * zM) (fun g => zM_dvd _) (fun g hg => by
    obtain ⟨-, -, e3, e4, -⟩ := h.2.2 g hg
    refine ⟨zM_lt e4, ?_⟩
    show tk g = lN (t g * zM / 12)
    rw [e3, zMW, Nat.mul_div_cancel_left _ (by omega)]) N 0 11 A 0 b3 (by omega) (by omega) hd hB hf
  rw [Int64.zero_add] at hh
  exact hh
theorem zw6 {v8 : Int32} {ct : Int32 → Int64 → (Nat → Int64) → (Int64 × (Nat → Int64))} {j7 : Int64} {rows : Nat → Int32} {b1 : Int32} {ln : Nat → Int32} {v9 : Int32} : ∀ (f : Nat) (b11 : Int32) (b12 : Int64) (b13 : Nat → Int64), lp_X6_runOver_w_6 v8 ct j7 rows b1 ln v9 f b11 b12 b13 = lp_X6_runOver_a_6 v8 ct j7 rows b1 ln v9 f b11 b12 b13
  | 0, _, _, _ => rfl
  | f + 1, b11, b12, b13 => by
    rw [lp_X6_runOver_w_6, lp_X6_runOver_a_6]
    simp only [cut, zw6 f]
theorem zw5 {gl : Int32} {rows : Nat → Int32} {tk : Nat → Int64} {ln : Nat → Int32} : ∀ (f : Nat) (b1 : Int32) (b2 : Int64) (b3 : Nat → Int64), lp_X6_runOver_w_5 gl rs_X6_runOver_w_5 tk rows ln f b1 b2 b3 = lp_X6_runOver_a_5 gl rs_X6_runOver_a_5 tk rows ln f b1 b2 b3
  | 0, _, _, _ => rfl
  | f + 1, b1, b2, b3 => by
    have ih : (fun c0 c1 c2 => lp_X6_runOver_w_5 gl rs_X6_runOver_w_5 tk rows ln f c0 c1 c2) = (fun c0 c1 c2 => lp_X6_runOver_a_5 gl rs_X6_runOver_a_5 tk rows ln f c0 c1 c2) := by
      funext c0 c1 c2
      exact zw5 f c0 c1 c2
    rw [lp_X6_runOver_w_5, lp_X6_runOver_a_5, ih]
    simp only [cut, zw6]
    rfl
theorem zw_eq (gl : Int32) (rows : Nat → Int32) (tk : Nat → Int64) (ln : Nat → Int32) (wd : Nat → Int64) : m_X6_runOver_w gl rows tk ln wd = m_X6_runOver_a gl rows wd tk ln := zw5 11 0 0 wd
theorem zm_runw {N : Nat} {L t C : Nat → Nat} {S : Nat → Nat → Nat} {gl : Int32} {rows : Nat → Int32} {tk : Nat → Int64} {ln : Nat → Int32} (h : zStr N L t C S gl rows tk ln) {A : Nat → Nat} {b3 : Nat → Int64} (hd : zDv A) (hB : zS10 A < 2 ^ 62) (hf : zFm A b3) : zGp (zRn (fun g => t g * zM) (zE L C S) N 0 A) (lN ((zRn (fun g => t g * zM) (zE L C S) N 0 A 9 - A 9) / 12)) (m_X6_runOver_w gl rows tk ln b3) := by
  rw [zw_eq]
  exact zm_run h hd hB hf
theorem zFm_po {A : Nat → Nat} {b3 : Nat → Int64} {g m : Nat} (hd : zDv A) (hg : g < 9) (hf : zFm A b3) : zFm (zPo A g m) (vp_updL b3 g (b3 g + lN (m * zW))) := by
  intro j hj
  have h1 := zDv12 hd (j := j) (by omega)
  unfold zPo
  by_cases q : j = g
  · rw [q, pk_uLs, if_pos rfl, hf g hg, lN_add, zMW]
    congr 1
    rw [q] at h1
    omega
  · rw [pk_uLn q, if_neg q, hf j hj]; rfl
/-! the takes and leans that the reference lays -/
def zL (K : Nat → Nat) (g : Nat) : Nat := if K g = 3 then 1 else 0
theorem zL_le (K : Nat → Nat) (g : Nat) : zL K g ≤ 1 := by unfold zL; split <;> omega
theorem zT_le {N : Nat} {K Hd C : Nat → Nat} {S : Nat → Nat → Nat} (h : zTow N K Hd C S) {g : Nat} (hg : g < N) : zT K Hd g ≤ 9 := by
  obtain ⟨-, -, h3, -⟩ := h.2 g hg
  unfold zT
  split
  · omega
  · split <;> omega
theorem zm_takesOf {N : Nat} {K Hd C : Nat → Nat} {S : Nat → Nat → Nat} {gl : Int32} {rows : Nat → Int32} (h : zTow N K Hd C S) (hm : zStM N K Hd C S gl rows) {g : Nat} (hg : g < N) : m_X6_takesOf rows (nI g) = nI (zT K Hd g) := by
  obtain ⟨h1, h2, h3, -⟩ := h.2 g hg
  obtain ⟨e1, e2, -⟩ := hm.2 g hg
  have h9 := h.1
  have i1 : (6 * nI g).toNatClampNeg = 6 * g := by rw [zn6, pk_mul, nI_clamp (by omega)]
  have i2 : (6 * nI g + 1).toNatClampNeg = 6 * g + 1 := by rw [zn6, pk_mul, nI_1, nI_clamp (by omega)]
  unfold m_X6_takesOf zT
  simp only [cut]
  rw [i1, i2, e1, e2, zn1, zn2, zn4, pk_sub h2]
  simp only [nI_eq (show K g < 2 ^ 31 by omega) (show 1 < 2 ^ 31 by omega), nI_eq (show K g < 2 ^ 31 by omega) (show 2 < 2 ^ 31 by omega), nI_eq (show K g < 2 ^ 31 by omega) (show 4 < 2 ^ 31 by omega)]
  by_cases q1 : K g = 1
  · rw [if_pos q1, if_pos q1]
  · rw [if_neg q1, if_neg q1]
    by_cases q2 : K g = 2
    · rw [if_pos q2, if_pos (Or.inl q2)]; rfl
    · rw [if_neg q2]
      by_cases q4 : K g = 4
      · rw [if_pos q4, if_pos (Or.inr q4)]; rfl
      · rw [if_neg q4, if_neg (by omega)]
theorem zm_layLoop {N : Nat} {K Hd C : Nat → Nat} {S : Nat → Nat → Nat} {gl : Int32} {rows : Nat → Int32} (h : zTow N K Hd C S) (hm : zStM N K Hd C S gl rows) : ∀ (r g fuel : Nat) (b2 : Nat → Int64) (b3 : Nat → Int32), g + r = N → r < fuel → (∀ j, j < g → b2 j = lN (zT K Hd j * zW) ∧ b3 j = nI (zL K j)) → ∀ j, j < N → (lp_X6_layTakes_2 gl rs_X6_layTakes_2 rows fuel (nI g) b2 b3).1 j = lN (zT K Hd j * zW) ∧ (lp_X6_layTakes_2 gl rs_X6_layTakes_2 rows fuel (nI g) b2 b3).2 j = nI (zL K j)
  | _, _, 0, _, _, _, h2, _ => by omega
  | 0, g, f + 1, b2, b3, h1, h2, hi => by
    have h9 := h.1
    rw [lp_X6_layTakes_2, hm.1, if_pos (nI_le (by omega) (by omega))]
    intro j hj
    exact hi j (by omega)
  | r + 1, g, f + 1, b2, b3, h1, h2, hi => by
    have h9 := h.1
    obtain ⟨k1, -⟩ := h.2 g (by omega)
    obtain ⟨e1, e2, -⟩ := hm.2 g (by omega)
    have hT := zT_le h (g := g) (by omega)
    have i1 : (6 * nI g).toNatClampNeg = 6 * g := by rw [zn6, pk_mul, nI_clamp (by omega)]
    rw [lp_X6_layTakes_2, hm.1, if_neg (nI_ge (by omega) (by omega))]
    simp only [cut]
    rw [zm_takesOf h hm (by omega), nI_l (by omega), zWl, lN_mul, nI_clamp (by omega), i1, e1, zn3, nI_1, ← hm.1]
    have hstep : ∀ x, x = nI (zL K g) → ∀ j, j < N → (lp_X6_layTakes_2 gl rs_X6_layTakes_2 rows f (nI (g + 1)) (vp_updL b2 g (lN (zW * zT K Hd g))) (upd b3 g x)).1 j = lN (zT K Hd j * zW) ∧ (lp_X6_layTakes_2 gl rs_X6_layTakes_2 rows f (nI (g + 1)) (vp_updL b2 g (lN (zW * zT K Hd g))) (upd b3 g x)).2 j = nI (zL K j) := fun x hx => by
      refine zm_layLoop h hm r (g + 1) f _ _ (by omega) (by omega) (fun j hj => ?_)
      by_cases q : j = g
      · rw [q, pk_uLs, pk_us, Nat.mul_comm]; exact ⟨rfl, hx⟩
      · rw [pk_uLn q, pk_un q]; exact hi j (by omega)
    by_cases q : K g = 3
    · rw [if_pos (by rw [q])]
      exact hstep 1 (by unfold zL; rw [if_pos q]; rfl)
    · rw [if_neg (fun x => q ((nI_eq (by omega) (by omega)).mp x))]
      exact hstep 0 (by unfold zL; rw [if_neg q]; rfl)
theorem zm_lay {N : Nat} {K Hd C : Nat → Nat} {S : Nat → Nat → Nat} {gl : Int32} {rows : Nat → Int32} (h : zTow N K Hd C S) (hm : zStM N K Hd C S gl rows) (tk : Nat → Int64) (ln : Nat → Int32) : zStr N (zL K) (zT K Hd) C S gl rows (m_X6_layTakes gl rows tk ln).1 (m_X6_layTakes gl rows tk ln).2 := by
  have h9 := h.1
  refine ⟨h9, hm.1, fun g hg => ?_⟩
  obtain ⟨-, -, -, k4, k5⟩ := h.2 g hg
  obtain ⟨-, -, e3, e4⟩ := hm.2 g hg
  obtain ⟨l1, l2⟩ := zm_layLoop h hm N 0 11 tk ln (by omega) (by omega) (fun j hj => by omega) g hg
  refine ⟨zL_le K g, l2, l1, zT_le h hg, e3, k4, fun k hk => ⟨?_, k5 k hk⟩⟩
  rw [e4 k (by omega), if_pos hk]
theorem zx_std {N : Nat} {K Hd C : Nat → Nat} {S : Nat → Nat → Nat} {sz : Int32} {kd hd tk sc sh : Nat → Int32} (h : zTow N K Hd C S) (hc : zStC N K Hd C S sz kd hd tk sc sh) : zStd N (zL K) (zT K Hd) C S sz kd tk sc sh := by
  refine ⟨h.1, hc.1, fun g hg => ?_⟩
  obtain ⟨k1, -, -, k4, k5⟩ := h.2 g hg
  obtain ⟨e1, -, e3, e4, e5⟩ := hc.2 g hg
  refine ⟨?_, e3, zT_le h hg, e4, k4, fun k hk => ⟨e5 k hk, k5 k hk⟩⟩
  unfold zL
  rw [e1, zn3]
  simp only [nI_eq (show K g < 2 ^ 31 by omega) (show 3 < 2 ^ 31 by omega)]
theorem zm_beginLoop {u1 : Nat → Int64} {u2 : Nat → Int32} {p : Int32} {am : Nat → Int64} : ∀ (r g fuel : Nat) (b4 : Nat → Int64), g + r = 9 → r < fuel → (∀ j, j < g → b4 j = if p = 0 then 0 else am j) → ∃ w : Nat → Int64, lp_X6_beginWould_2 (rs_X6_beginWould_2 u1 u2) p am fuel (nI g) b4 = (u1, u2, w) ∧ ∀ j, j < 9 → w j = if p = 0 then 0 else am j
  | _, _, 0, _, _, h2, _ => by omega
  | 0, g, f + 1, b4, h1, h2, hi => by
    rw [lp_X6_beginWould_2, zn9, if_pos (nI_le (by omega) (by omega))]
    exact ⟨b4, rfl, fun j hj => hi j (by omega)⟩
  | r + 1, g, f + 1, b4, h1, h2, hi => by
    rw [lp_X6_beginWould_2, zn9, if_neg (nI_ge (by omega) (by omega))]
    simp only [cut]
    rw [nI_1, nI_clamp (by omega)]
    have hs : ∀ x, x = (if p = 0 then 0 else am g) → ∃ w : Nat → Int64, lp_X6_beginWould_2 (rs_X6_beginWould_2 u1 u2) p am f (nI (g + 1)) (vp_updL b4 g x) = (u1, u2, w) ∧ ∀ j, j < 9 → w j = if p = 0 then 0 else am j := fun x hx => by
      refine zm_beginLoop r (g + 1) f _ (by omega) (by omega) (fun j hj => ?_)
      by_cases q : j = g
      · rw [q, pk_uLs]; exact hx
      · rw [pk_uLn q]; exact hi j (by omega)
    by_cases q : p = 0
    · rw [if_pos q]; exact hs 0 (by rw [if_pos q])
    · rw [if_neg q]; exact hs _ (by rw [if_neg q])
theorem zm_begin {N : Nat} {K Hd C : Nat → Nat} {S : Nat → Nat → Nat} {gl : Int32} {rows : Nat → Int32} (h : zTow N K Hd C S) (hm : zStM N K Hd C S gl rows) (am tk : Nat → Int64) (ln : Nat → Int32) (wd : Nat → Int64) (p : Int32) : ∃ (u1 : Nat → Int64) (u2 : Nat → Int32) (w : Nat → Int64), m_X6_beginWould gl rows am tk ln wd p = (u1, u2, w) ∧ zStr N (zL K) (zT K Hd) C S gl rows u1 u2 ∧ ∀ j, j < 9 → w j = if p = 0 then 0 else am j := by
  unfold m_X6_beginWould
  simp only [cut2]
  obtain ⟨w, e1, e2⟩ := zm_beginLoop (u1 := (m_X6_layTakes gl rows tk ln).1) (u2 := (m_X6_layTakes gl rows tk ln).2) (p := p) (am := am) 9 0 11 wd (by omega) (by omega) (fun j hj => by omega)
  exact ⟨_, _, w, e1, zm_lay h hm tk ln, e2⟩
