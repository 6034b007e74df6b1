/-! a glass that takes less; chips; costs -/
theorem zStr_take {N : Nat} {L t C : Nat → Nat} {S : Nat → Nat → Nat} {gl : Int32} {rows : Nat → Int32} {tk : Nat → Int64} {ln : Nat → Int32} (h : zStr N L t C S gl rows tk ln) {g x : Nat} (hx : x ≤ 9) : zStr N L (fun j => if j = g then x else t j) C S gl rows (vp_updL tk g (lN (x * zW))) ln := by
  refine ⟨h.1, h.2.1, fun j hj => ?_⟩
  obtain ⟨a1, a2, a3, a4, a5⟩ := h.2.2 j hj
  refine ⟨a1, a2, ?_, ?_, a5⟩
  · show vp_updL tk g (lN (x * zW)) j = lN ((if j = g then x else t j) * zW)
    by_cases q : j = g
    · rw [q, pk_uLs, if_pos rfl]
    · rw [pk_uLn q, if_neg q]; exact a3
  · show (if j = g then x else t j) ≤ 9
    split <;> omega
theorem zStd_take {N : Nat} {L t C : Nat → Nat} {S : Nat → Nat → Nat} {sz : Int32} {kd tk sc sh : Nat → Int32} (h : zStd N L t C S sz kd tk sc sh) {g x : Nat} (hx : x ≤ 9) : zStd N L (fun j => if j = g then x else t j) C S sz kd (upd tk g (nI x)) sc sh := by
  refine ⟨h.1, h.2.1, fun j hj => ?_⟩
  obtain ⟨a1, a2, a3, a4⟩ := h.2.2 j hj
  refine ⟨a1, ?_, ?_, a4⟩
  · show upd tk g (nI x) j = nI (if j = g then x else t j)
    by_cases q : j = g
    · rw [q, pk_us, if_pos rfl]
    · rw [pk_un q, if_neg q]; exact a2
  · show (if j = g then x else t j) ≤ 9
    split <;> omega
theorem zx_stdCopy {N : Nat} {K Hd C : Nat → Nat} {S : Nat → Nat → Nat} {sz : Int32} {kd hd tk sc sh : Nat → Int32} (h : zTow N K Hd C S) (hc : zStC N K Hd C S sz kd hd tk sc sh) (k1 k2 k3 k4 k5 : Nat → Int32) : ∃ u2 u3 u4 u5 u6 : Nat → Int32, m_X3_copyFrom k1 k2 k3 k4 k5 sz kd hd tk sc sh = (sz, u2, u3, u4, u5, u6) ∧ zStC N K Hd C S sz u2 u3 u4 u5 u6 := by
  have hN := h.1
  refine ⟨_, _, _, _, _, rfl, hc.1, fun g hg => ?_⟩
  obtain ⟨a1, a2, a3, a4, a5⟩ := hc.2 g hg
  obtain ⟨-, -, -, b4, -⟩ := h.2 g hg
  rw [z_cl0, z_cl9, z_cl27, z_cpy (show g < 9 by omega), z_cpy (show g < 9 by omega), z_cpy (show g < 9 by omega), z_cpy (show g < 9 by omega)]
  refine ⟨a1, a2, a3, a4, fun k hk => ?_⟩
  rw [z_cpy (show 3 * g + k < 27 by omega)]
  exact a5 k hk
theorem z_0dv : zDv (fun _ => 0) := zDv_0
theorem z_0sum : zS10 (fun _ => 0) = 0 := rfl
theorem zx_addE {N : Nat} {L t C : Nat → Nat} {S : Nat → Nat → Nat} {sz : Int32} {kd tk sc sh : Nat → Int32} (h : zStd N L t C S sz kd tk sc sh) (hN0 : 0 < N) {m : Nat} (hm : m < 2 ^ 20) (tr : Nat → Int64) : zFp (zRn (fun g => t g * zM) (zE L C S) N 0 (zPo (fun _ => 0) 0 m)) (m_X0_addTo (m_X0_makeEmpty tr).1 (m_X0_makeEmpty tr).2 sz kd tk sc sh 0 (nI m)) := by
  have h1 : zFc (fun _ => 0) (m_X0_makeEmpty tr).1 (m_X0_makeEmpty tr).2 := zx_empty (ic := tr)
  exact zx_add h (g := 0) hN0 hm z_0dv (by rw [z_0sum]; omega) h1
theorem z_Fbound {N : Nat} {t : Nat → Nat} {E : Nat → Nat → Nat → Nat} (h : zEok N E) {m : Nat} (hm : m ≤ 999) : zDv (zRn (fun g => t g * zM) E N 0 (zPo (fun _ => 0) 0 m)) ∧ zS10 (zRn (fun g => t g * zM) E N 0 (zPo (fun _ => 0) 0 m)) = m * zM ∧ m * zM < 2 ^ 46 ∧ ∀ j, j < 10 → zRn (fun g => t g * zM) E N 0 (zPo (fun _ => 0) 0 m) j < 2 ^ 46 := by
  have h1 := zRn_dv h (T := fun g => t g * zM) (fun g => zM_dvd _) N 0 (zPo (fun _ => 0) 0 m) (by omega) (zPo_dv z_0dv)
  have h2 := zRn_sum h (T := fun g => t g * zM) (fun g => zM_dvd _) N 0 (zPo (fun _ => 0) 0 m) (by omega) (zPo_dv z_0dv)
  rw [zPo_sum (by omega), z_0sum, Nat.zero_add] at h2
  have h3 : m * zM ≤ 999 * zM := Nat.mul_le_mul_right _ hm
  have h4 : 999 * zM < 2 ^ 46 := by decide
  refine ⟨h1, h2, by omega, fun j hj => ?_⟩
  have := zS10_le (A := zRn (fun g => t g * zM) E N 0 (zPo (fun _ => 0) 0 m)) hj
  omega
theorem zFm_0po {m : Nat} {w : Nat → Int64} (hw : ∀ j, j < 9 → w j = 0) : zFm (zPo (fun _ => 0) 0 m) (vp_updL w 0 (lN (m * zW))) := by
  intro j hj
  show _ = lN ((0 + (if j = 0 then m * zM else 0)) / 12)
  by_cases q : j = 0
  · rw [q, pk_uLs, if_pos rfl, zMW]
    congr 1
    omega
  · rw [pk_uLn q, if_neg q, hw j hj]; rfl
theorem zx_standsAs {B A : Nat → Nat} {ia ib : Nat → Int64} (h1 : ∀ g, g < 9 → ia g = lN (B g)) (h2 : ∀ g, g < 9 → ib g = lN (A g)) (b1 : ∀ g, g < 9 → B g < 2 ^ 62) (b2 : ∀ g, g < 9 → A g < 2 ^ 62) : (m_X0_standsAs ia ib = 1 ∧ ∀ j, j < 9 → B j = A j) ∨ (m_X0_standsAs ia ib = 0 ∧ ¬ ∀ j, j < 9 → B j = A j) := by
  have hl : ∀ (r g fuel : Nat), g + r = 9 → r < fuel → (∀ j, j < g → B j = A j) → (lp_X0_standsAs_2 rs_X0_standsAs_2 ia ib fuel (nI g) = 1 ∧ ∀ j, j < 9 → B j = A j) ∨ (lp_X0_standsAs_2 rs_X0_standsAs_2 ia ib fuel (nI g) = 0 ∧ ¬ ∀ j, j < 9 → B j = A j) := by
    intro r
    induction r with
    | zero =>
      intro g fuel e1 e2 hi
      obtain ⟨f, rfl⟩ : ∃ f, fuel = f + 1 := ⟨fuel - 1, by omega⟩
      rw [lp_X0_standsAs_2, zn9, if_pos (nI_le (by omega) (by omega))]
      exact Or.inl ⟨rfl, fun j hj => hi j (by omega)⟩
    | succ r ih =>
      intro g fuel e1 e2 hi
      obtain ⟨f, rfl⟩ : ∃ f, fuel = f + 1 := ⟨fuel - 1, by omega⟩
      have c1 := b1 g (by omega)
      have c2 := b2 g (by omega)
      rw [lp_X0_standsAs_2, zn9, if_neg (nI_ge (by omega) (by omega))]
      simp only [z_cut]
      rw [nI_clamp (show g < 2 ^ 31 by omega), h1 g (by omega), h2 g (by omega), nI_1]
      by_cases q : B g = A g
      · rw [if_pos ((zc_eq (by omega) (by omega)).mpr q)]
        refine ih (g + 1) f (by omega) (by omega) (fun j hj => ?_)
        by_cases q3 : j = g
        · rw [q3]; exact q
        · exact hi j (by omega)
      · rw [if_neg (fun x => q ((zc_eq (by omega) (by omega)).mp x))]
        exact Or.inr ⟨rfl, fun x => q (x g (by omega))⟩
  exact hl 9 0 11 (by omega) (by omega) (fun j hj => by omega)
theorem zx_leaves {N : Nat} {L t C : Nat → Nat} {S : Nat → Nat → Nat} {sz : Int32} {kd tk sc sh : Nat → Int32} (h : zStd N L t C S sz kd tk sc sh) (hN0 : 0 < N) {m : Nat} (hm : m ≤ 999) {A : Nat → Nat} {ic : Nat → Int64} (hf : ∀ g, g < 9 → ic g = lN (A g)) (hB : ∀ g, g < 9 → A g < 2 ^ 62) (tr : Nat → Int64) : ∃ (x : Int32) (a : Int64) (b : Nat → Int64), m_X5_leavesWhatStands sz kd tk sc sh ic tr (nI m) = (x, a, b) ∧ ((x = 1 ∧ ∀ j, j < 9 → zRn (fun g => t g * zM) (zE L C S) N 0 (zPo (fun _ => 0) 0 m) j = A j) ∨ (x = 0 ∧ ¬ ∀ j, j < 9 → zRn (fun g => t g * zM) (zE L C S) N 0 (zPo (fun _ => 0) 0 m) j = A j)) := by
  have h2 := zx_addE h hN0 (show m < 2 ^ 20 by omega) tr
  have hb := z_Fbound (t := t) h.ok hm
  refine ⟨_, _, _, rfl, ?_⟩
  exact zx_standsAs h2.2 hf (fun g hg => by have := hb.2.2.2 g (by omega); omega) hB
theorem zm_leavesLoop {N : Nat} (hN : N ≤ 9) {B A : Nat → Nat} {ia ib : Nat → Int64} (h1 : zFm B ia) (h2 : zFm A ib) (d1 : zDv B) (d2 : zDv A) (b1 : ∀ g, g < 9 → B g < 2 ^ 62) (b2 : ∀ g, g < 9 → A g < 2 ^ 62) (hout : ∀ g, N ≤ g → g < 9 → B g = A g) (ct : Int32 → Int32 → (Int32 × (Nat → Int64) × (Nat → Int32) × (Nat → Int64))) : ∃ (kk x : Int32), lp_X6_leaves_2 (nI N) ct ia ib 11 0 1 = ct kk x ∧ ((x = 1 ∧ ∀ j, j < 9 → B j = A j) ∨ (x = 0 ∧ ¬ ∀ j, j < 9 → B j = A j)) := by
  have hl : ∀ (r g fuel : Nat) (b9 : Int32), g + r = N → r < fuel → ((b9 = 1 ∧ ∀ j, j < g → B j = A j) ∨ (b9 = 0 ∧ ¬ ∀ j, j < 9 → B j = A j)) → ∃ (kk x : Int32), lp_X6_leaves_2 (nI N) ct ia ib fuel (nI g) b9 = ct kk x ∧ ((x = 1 ∧ ∀ j, j < 9 → B j = A j) ∨ (x = 0 ∧ ¬ ∀ j, j < 9 → B j = A j)) := by
    intro r
    induction r with
    | zero =>
      intro g fuel b9 e1 e2 hi
      obtain ⟨f, rfl⟩ : ∃ f, fuel = f + 1 := ⟨fuel - 1, by omega⟩
      rw [lp_X6_leaves_2, if_pos (nI_le (by omega) (by omega))]
      refine ⟨_, b9, rfl, ?_⟩
      rcases hi with ⟨a, b⟩ | ⟨a, b⟩
      · refine Or.inl ⟨a, fun j hj => ?_⟩
        by_cases q : j < g
        · exact b j q
        · exact hout j (by omega) hj
      · exact Or.inr ⟨a, b⟩
    | succ r ih =>
      intro g fuel b9 e1 e2 hi
      obtain ⟨f, rfl⟩ : ∃ f, fuel = f + 1 := ⟨fuel - 1, by omega⟩
      have c1 := b1 g (by omega)
      have c2 := b2 g (by omega)
      have v1 := zDv12 d1 (j := g) (by omega)
      have v2 := zDv12 d2 (j := g) (by omega)
      rw [lp_X6_leaves_2, if_neg (nI_ge (by omega) (by omega))]
      simp only [z_cut]
      rw [nI_clamp (show g < 2 ^ 31 by omega), h1 g (by omega), h2 g (by omega), nI_1]
      rcases hi with ⟨a, b⟩ | ⟨a, b⟩
      · rw [if_neg (z10 a)]
        by_cases q : B g = A g
        · rw [if_pos ((zc_eq (by omega) (by omega)).mpr (by omega))]
          refine ih (g + 1) f 1 (by omega) (by omega) (Or.inl ⟨rfl, fun j hj => ?_⟩)
          by_cases q3 : j = g
          · rw [q3]; exact q
          · exact b j (by omega)
        · rw [if_neg (fun x => q (by have := (zc_eq (by omega) (by omega)).mp x; omega))]
          exact ih (g + 1) f 0 (by omega) (by omega) (Or.inr ⟨rfl, fun x => q (x g (by omega))⟩)
      · rw [if_pos a]
        exact ih (g + 1) f 0 (by omega) (by omega) (Or.inr ⟨rfl, b⟩)
  exact hl N 0 11 1 (by omega) (by omega) (Or.inl ⟨rfl, fun j hj => by omega⟩)
theorem z_Fout {N : Nat} {T : Nat → Nat} {E : Nat → Nat → Nat → Nat} (h : zEok N E) (hN0 : 0 < N) {m j : Nat} (h1 : N ≤ j) (h2 : j < 9) : zRn T E N 0 (zPo (fun _ => 0) 0 m) j = 0 := by
  rw [zRn_out h N 0 _ (by omega) j h1 h2]
  unfold zPo
  rw [if_neg (by omega)]
theorem zm_leaves {N : Nat} {K Hd C : Nat → Nat} {S : Nat → Nat → Nat} {gl : Int32} {rows : Nat → Int32} (h : zTow N K Hd C S) (hm : zStM N K Hd C S gl rows) (hN0 : 0 < N) {m : Nat} (hm9 : m ≤ 999) {A : Nat → Nat} {am : Nat → Int64} (hf : zFm A am) (hd : zDv A) (hB : ∀ g, g < 9 → A g < 2 ^ 62) (hA0 : ∀ g, N ≤ g → g < 9 → A g = 0) {t' : Nat → Nat} {p2 : Int32} (hp : (p2 = -1 ∧ t' = zT K Hd) ∨ (∃ g, g < N ∧ p2 = nI g ∧ 1 ≤ zT K Hd g ∧ t' = fun j => if j = g then zT K Hd g - 1 else zT K Hd j)) (tk : Nat → Int64) (ln : Nat → Int32) (wd : Nat → Int64) : ∃ (x : Int32) (a : Nat → Int64) (b : Nat → Int32) (c : Nat → Int64), m_X6_leaves gl rows am tk ln wd (nI m) p2 = (x, a, b, c) ∧ ((x = 1 ∧ ∀ j, j < 9 → zRn (fun g => t' g * zM) (zE (zL K) C S) N 0 (zPo (fun _ => 0) 0 m) j = A j) ∨ (x = 0 ∧ ¬ ∀ j, j < 9 → zRn (fun g => t' g * zM) (zE (zL K) C S) N 0 (zPo (fun _ => 0) 0 m) j = A j)) := by
  have hN := h.1
  obtain ⟨u1, u2, w, eb, hr, hw⟩ := zm_begin h hm am tk ln wd 0
  have hok := hr.ok
  have hb := z_Fbound (t := t') hok hm9
  have hw0 : ∀ j, j < 9 → w j = 0 := fun j hj => by rw [hw j hj, if_pos rfl]
  have hs : ∃ j4 : Nat → Int64, (if p2 = -1 then u1 else vp_updL u1 p2.toNatClampNeg (u1 p2.toNatClampNeg - 429981696)) = j4 ∧ zStr N (zL K) t' C S gl rows j4 u2 := by
    rcases hp with ⟨a, b⟩ | ⟨g, a, b, c, e⟩
    · refine ⟨u1, by rw [if_pos a], ?_⟩
      rw [b]; exact hr
    · refine ⟨_, rfl, ?_⟩
      obtain ⟨-, -, r3, r4, -⟩ := hr.2.2 g a
      have hsub : lN (zT K Hd g * zW) - 429981696 = lN ((zT K Hd g - 1) * zW) := by
        have e2 : zT K Hd g * zW = (zT K Hd g - 1) * zW + zW := by
          rw [← Nat.succ_mul]; congr 1; omega
        rw [zWl, lN_sub (by omega), e2, Nat.add_sub_cancel]
      rw [b, if_neg (fun x => by have := nI_pos (n := g) (by omega); rw [x] at this; exact this (by decide))]
      rw [nI_clamp (by omega), r3, hsub, e]
      exact zStr_take hr (by omega)
  obtain ⟨j4, ej, hr2⟩ := hs
  have hrun := (zm_runw hr2 (A := zPo (fun _ => 0) 0 m) (zPo_dv z_0dv) (by rw [zPo_sum (by omega), z_0sum]; omega) (zFm_0po hw0)).2
  unfold m_X6_leaves
  rw [eb]
  simp only [z_cut3]
  simp only [z_cut, z_cut2]
  rw [ej, nI_l (show m < 2 ^ 31 by omega), zWl, lN_mul, Nat.mul_comm zW m, z_cl0]
  obtain ⟨kk, x, e1, e2⟩ := zm_leavesLoop hN hrun hf hb.1 hd (fun g hg => by have := hb.2.2.2 g (by omega); omega) hB (fun g g1 g2 => by rw [z_Fout hok hN0 g1 g2, hA0 g g1 g2]) (rs_X6_leaves_2 j4 u2 (m_X6_runOver_w gl rows j4 u2 (vp_updL w 0 (lN (m * zW)))).2)
  rw [hm.1] at e1 ⊢
  rw [e1]
  exact ⟨_, _, _, _, rfl, e2⟩
theorem z_or0 (x : Int32) : x ||| 0 = x := by simp
theorem z_chipLoop {N : Nat} {K Hd C : Nat → Nat} {S : Nat → Nat → Nat} {sz : Int32} {kd hd tk sc sh : Nat → Int32} {gl : Int32} {rows : Nat → Int32} (h : zTow N K Hd C S) (hc : zStC N K Hd C S sz kd hd tk sc sh) (hm : zStM N K Hd C S gl rows) (hN0 : 0 < N) {m : Nat} (hm9 : m ≤ 999) {A : Nat → Nat} {ic am : Nat → Int64} (hf : ∀ g, g < 9 → ic g = lN (A g)) (hf2 : zFm A am) (hd' : zDv A) (hB : ∀ g, g < 9 → A g < 2 ^ 62) (hA0 : ∀ g, N ≤ g → g < 9 → A g = 0) {u1 : Int32} {u2 u5 u6 : Nat → Int32} {ct : Int32 → Int32 → (Nat → Int32) → Int64 → (Nat → Int64) → (Int32 × Int32 × (Nat → Int32) × (Nat → Int32) × (Nat → Int32) × (Nat → Int32) × (Nat → Int32) × Int64 × (Nat → Int64))} (hct : ∀ a b c d e, (ct a b c d e).1 = b) : ∀ (r g fuel : Nat) (b : Int32) (b13 : Nat → Int32) (b14 : Int64) (b15 : Nat → Int64) (b8 : Nat → Int64) (b9 : Nat → Int32) (b10 : Nat → Int64), g + r = N → r < fuel → zStd N (zL K) (zT K Hd) C S u1 u2 b13 u5 u6 → (lp_X5_chipBits_2 sz ct kd hd u1 u2 u5 u6 ic (nI m) tk fuel (nI g) b b13 b14 b15).1 = (lp_X6_chipsOf_2 gl rs_X6_chipsOf_2 rows am (nI m) fuel (nI g) b b8 b9 b10).1 := by
  have hN := h.1
  intro r
  induction r with
  | zero =>
    intro g fuel b b13 b14 b15 b8 b9 b10 e1 e2 hst
    obtain ⟨f, rfl⟩ : ∃ f, fuel = f + 1 := ⟨fuel - 1, by omega⟩
    rw [lp_X5_chipBits_2, lp_X6_chipsOf_2, hc.1, hm.1, if_pos (nI_le (by omega) (by omega)), if_pos (nI_le (by omega) (by omega)), hct]
    rfl
  | succ r ih =>
    intro g fuel b b13 b14 b15 b8 b9 b10 e1 e2 hst
    obtain ⟨f, rfl⟩ : ∃ f, fuel = f + 1 := ⟨fuel - 1, by omega⟩
    have hg : g < N := by omega
    obtain ⟨a1, a2, a3, -, -⟩ := hc.2 g hg
    obtain ⟨k1, k2, k3, -⟩ := h.2 g hg
    have i0 : (6 * nI g).toNatClampNeg = 6 * g := by rw [zn6, pk_mul, nI_clamp (by omega)]
    have l1 : ¬ sz ≤ nI g := by rw [hc.1]; exact nI_ge hg (by omega)
    have l2 : ¬ gl ≤ nI g := by rw [hm.1]; exact nI_ge hg (by omega)
    rw [lp_X5_chipBits_2, lp_X6_chipsOf_2, if_neg l1, if_neg l2]
    simp only [z_cut]
    rw [nI_clamp (show g < 2 ^ 31 by omega), i0, a1, (hm.2 g hg).1, nI_1, z_or0]
    by_cases q0 : K g = 0
    · have hT : zT K Hd g = Hd g := by unfold zT; rw [if_neg (by omega), if_neg (by omega)]
      have et : m_X5_takenBy 1 (hd g) = nI (zT K Hd g - 1) := by
        show hd g - 1 = _
        rw [a2, zn1, pk_sub (by omega), hT]
      rw [if_pos (by rw [q0]; rfl), if_pos (by rw [q0]; rfl), et, a3]
      have hst2 := zStd_take hst (g := g) (x := zT K Hd g - 1) (by omega)
      obtain ⟨x, xa, xb, f1, f2⟩ := zx_leaves hst2 hN0 hm9 hf hB b15
      obtain ⟨y, ya, yb, yc, f3, f4⟩ := zm_leaves h hm hN0 hm9 hf2 hd' hB hA0 (Or.inr ⟨g, hg, rfl, by omega, rfl⟩) b8 b9 b10
      have hst3 : zStd N (zL K) (zT K Hd) C S u1 u2 (upd (upd b13 g (nI (zT K Hd g - 1))) g (nI (zT K Hd g))) u5 u6 := by
        have := zStd_take hst2 (g := g) (x := zT K Hd g) (by omega)
        have e : (fun j => if j = g then zT K Hd g else if j = g then zT K Hd g - 1 else zT K Hd j) = zT K Hd := by
          funext j
          by_cases q : j = g
          · rw [if_pos q, q]
          · rw [if_neg q, if_neg q]
        rw [e] at this
        exact this
      rw [f1, f3]
      simp only [z_cut3, z_cut4]
      rcases f2 with ⟨x1, x2⟩ | ⟨x1, x2⟩
      · rcases f4 with ⟨y1, y2⟩ | ⟨y1, y2⟩
        · rw [if_neg (z10 x1), if_neg (z10 y1)]
          exact ih (g + 1) f _ _ _ _ _ _ _ (by omega) (by omega) hst3
        · exact absurd x2 y2
      · rcases f4 with ⟨y1, y2⟩ | ⟨y1, y2⟩
        · exact absurd y2 x2
        · rw [if_pos x1, if_pos y1]
          exact ih (g + 1) f _ _ _ _ _ _ _ (by omega) (by omega) hst3
    · have q1 : ¬ nI (K g) = 0 := nI_ne0 (by omega) (by omega)
      rw [if_neg q1, if_neg q1]
      exact ih (g + 1) f _ _ _ _ _ _ _ (by omega) (by omega) hst
theorem z_chips {N : Nat} {K Hd C : Nat → Nat} {S : Nat → Nat → Nat} {sz : Int32} {kd hd tk sc sh : Nat → Int32} {gl : Int32} {rows : Nat → Int32} (h : zTow N K Hd C S) (hc : zStC N K Hd C S sz kd hd tk sc sh) (hm : zStM N K Hd C S gl rows) (hN0 : 0 < N) {m : Nat} (hm9 : m ≤ 999) {A : Nat → Nat} {ic am : Nat → Int64} (hf : ∀ g, g < 9 → ic g = lN (A g)) (hf2 : zFm A am) (hd' : zDv A) (hB : ∀ g, g < 9 → A g < 2 ^ 62) (hA0 : ∀ g, N ≤ g → g < 9 → A g = 0) (k1 k2 k3 k4 k5 : Nat → Int32) (tr : Nat → Int64) (tkm : Nat → Int64) (ln : Nat → Int32) (wd : Nat → Int64) : (m_X5_chipBits sz kd hd tk sc sh k1 k2 k3 k4 k5 ic tr (nI m)).1 = (m_X6_chipsOf gl rows am tkm ln wd (nI m)).1 := by
  obtain ⟨u2, u3, u4, u5, u6, ec, hc2⟩ := zx_stdCopy h hc k1 k2 k3 k4 k5
  have hst := zx_std h hc2
  obtain ⟨x, xa, xb, f1, f2⟩ := zx_leaves hst hN0 hm9 hf hB tr
  obtain ⟨y, ya, yb, yc, f3, f4⟩ := zm_leaves h hm hN0 hm9 hf2 hd' hB hA0 (t' := zT K Hd) (p2 := -1) (Or.inl ⟨rfl, rfl⟩) tkm ln wd
  unfold m_X5_chipBits m_X6_chipsOf
  rw [ec]
  simp only [z_cut6]
  rw [f1, f3]
  simp only [z_cut3, z_cut4, z_cut]
  rw [show (0 : Int32) = nI 0 from rfl]
  have hxy : (if x = nI 0 then nI 0 else (512 : Int32)) = (if y = nI 0 then nI 0 else (512 : Int32)) := by
    rcases f2 with ⟨x1, x2⟩ | ⟨x1, x2⟩
    · rcases f4 with ⟨y1, y2⟩ | ⟨y1, y2⟩
      · rw [x1, y1]
      · exact absurd x2 y2
    · rcases f4 with ⟨y1, y2⟩ | ⟨y1, y2⟩
      · exact absurd y2 x2
      · rw [x1, y1]
  rw [hxy]
  exact z_chipLoop h hc hm hN0 hm9 hf hf2 hd' hB hA0 (fun _ _ _ _ _ => rfl) N 0 11 _ _ _ _ _ _ _ (by omega) (by have := h.1; omega) hst
/-! costs -/
theorem zSum9_le {A B : Nat → Nat} (h : ∀ j, j < 9 → A j ≤ B j) : zSum9 A ≤ zSum9 B := by
  have h0 := h 0 (by omega)
  have h1 := h 1 (by omega)
  have h2 := h 2 (by omega)
  have h3 := h 3 (by omega)
  have h4 := h 4 (by omega)
  have h5 := h 5 (by omega)
  have h6 := h 6 (by omega)
  have h7 := h 7 (by omega)
  have h8 := h 8 (by omega)
  simp only [zSum9]
  omega
def zOt (g : Nat) (F : Nat → Nat) : Nat := zSum9 (fun j => (if j = g then 0 else F j) / 12)
theorem zx_others {N : Nat} {L t C : Nat → Nat} {S : Nat → Nat → Nat} {sz : Int32} {kd tk sc sh : Nat → Int32} (h : zStd N L t C S sz kd tk sc sh) (hN0 : 0 < N) {m g : Nat} (hm : m ≤ 999) (hg : g < 9) (tr : Nat → Int64) : ∃ (a : Int64) (b : Nat → Int64), m_X5_inOthers sz kd tk sc sh tr (nI g) (nI m) = (lN (12 * zOt g (zRn (fun g => t g * zM) (zE L C S) N 0 (zPo (fun _ => 0) 0 m))), a, b) := by
  have h2 := zx_addE h hN0 (show m < 2 ^ 20 by omega) tr
  have hb := z_Fbound (t := t) h.ok hm
  have l0 : ¬ nI g < 0 := nI_pos (by omega)
  have l9 : nI g < 9 := by rw [zn9]; exact nI_lt hg (by omega)
  unfold m_X5_inOthers m_X0_takeOut
  simp only [z_cut, z_cut2, if_neg l0, if_pos l9, nI_clamp (show g < 2 ^ 31 by omega)]
  have e := zx_together (A := fun j => if j = g then 0 else zRn (fun g => t g * zM) (zE L C S) N 0 (zPo (fun _ => 0) 0 m) j) (ic := vp_updL (m_X0_addTo (m_X0_makeEmpty tr).1 (m_X0_makeEmpty tr).2 sz kd tk sc sh 0 (nI m)).2 g 0) (fun j hj => by
    show vp_updL _ g 0 j = lN (if j = g then 0 else _)
    by_cases q : j = g
    · rw [q, pk_uLs, if_pos rfl]; rfl
    · rw [pk_uLn q, if_neg q]; exact h2.2 j hj)
  rw [zSum9_12 (A := fun j => if j = g then 0 else zRn (fun g => t g * zM) (zE L C S) N 0 (zPo (fun _ => 0) 0 m) j) (fun j hj => by
    show 12 ∣ (if j = g then 0 else _)
    split
    · exact Nat.dvd_zero _
    · exact zDv12 hb.1 (by omega))] at e
  exact ⟨_, _, Prod.ext e rfl⟩
theorem zm_others {N : Nat} {K Hd C : Nat → Nat} {S : Nat → Nat → Nat} {gl : Int32} {rows : Nat → Int32} (h : zTow N K Hd C S) (hm : zStM N K Hd C S gl rows) (hN0 : 0 < N) {m g : Nat} (hm9 : m ≤ 999) (hg : g < N) (am : Nat → Int64) {t' : Nat → Nat} {p3 : Int32} (hp : (p3 = 0 ∧ t' = zT K Hd) ∨ (p3 = 1 ∧ t' = fun j => if j = g then 0 else zT K Hd j)) (tk : Nat → Int64) (ln : Nat → Int32) (wd : Nat → Int64) : ∃ (a : Nat → Int64) (b : Nat → Int32) (c : Nat → Int64), m_X6_othersBy gl rows am tk ln wd (nI g) (nI m) p3 = (lN (zOt g (zRn (fun g => t' g * zM) (zE (zL K) C S) N 0 (zPo (fun _ => 0) 0 m))), a, b, c) := by
  have hN := h.1
  obtain ⟨u1, u2, w, eb, hr, hw⟩ := zm_begin h hm am tk ln wd 0
  have hok := hr.ok
  have hb := z_Fbound (t := t') hok hm9
  have hw0 : ∀ j, j < 9 → w j = 0 := fun j hj => by rw [hw j hj, if_pos rfl]
  obtain ⟨-, -, r3, r4, -⟩ := hr.2.2 g hg
  have hs : zStr N (zL K) t' C S gl rows (vp_updL u1 g (if p3 = 0 then u1 g else 0)) u2 := by
    rcases hp with ⟨a, b⟩ | ⟨a, b⟩
    · rw [if_pos a, r3, b]
      have := zStr_take hr (g := g) (x := zT K Hd g) r4
      have e : (fun j => if j = g then zT K Hd g else zT K Hd j) = zT K Hd := by
        funext j
        by_cases q : j = g
        · rw [if_pos q, q]
        · rw [if_neg q]
      rw [e] at this
      exact this
    · rw [if_neg (z10 a), b]
      have := zStr_take hr (g := g) (x := 0) (by omega)
      rw [Nat.zero_mul] at this
      exact this
  have hrun := (zm_runw hs (A := zPo (fun _ => 0) 0 m) (zPo_dv z_0dv) (by rw [zPo_sum (by omega), z_0sum]; omega) (zFm_0po hw0)).2
  unfold m_X6_othersBy
  rw [eb]
  simp only [z_cut3, z_cut, z_cut2]
  rw [nI_clamp (show g < 2 ^ 31 by omega), nI_l (show m < 2 ^ 31 by omega), zWl, lN_mul, Nat.mul_comm zW m, z_cl0]
  generalize m_X6_runOver_w gl rows (vp_updL u1 g (if p3 = 0 then u1 g else 0)) u2 (vp_updL w 0 (lN (m * zW))) = R at hrun ⊢
  generalize hF : zRn (fun g => t' g * zM) (zE (zL K) C S) N 0 (zPo (fun _ => 0) 0 m) = F at hrun hb ⊢
  have hF0 : ∀ j, N ≤ j → j < 9 → F j = 0 := fun j h1 h2 => by rw [← hF]; exact z_Fout hok hN0 h1 h2
  have hl : ∀ (r k fuel b : Nat) (ct : Int32 → Int64 → (Int64 × (Nat → Int64) × (Nat → Int32) × (Nat → Int64))), k + r = N → r < fuel → ∃ kk : Int32, lp_X6_othersBy_2 (nI N) ct (nI g) R.2 fuel (nI k) (lN b) = ct kk (lN (b + zSu (fun j => (if j = g then 0 else F j) / 12) r k)) := by
    intro r
    induction r with
    | zero =>
      intro k fuel b ct e1 e2
      obtain ⟨f, rfl⟩ : ∃ f, fuel = f + 1 := ⟨fuel - 1, by omega⟩
      rw [lp_X6_othersBy_2, if_pos (nI_le (by omega) (by omega))]
      exact ⟨_, rfl⟩
    | succ r ih =>
      intro k fuel b ct e1 e2
      obtain ⟨f, rfl⟩ : ∃ f, fuel = f + 1 := ⟨fuel - 1, by omega⟩
      rw [lp_X6_othersBy_2, if_neg (nI_ge (by omega) (by omega))]
      simp only [z_cut]
      have ej : (if nI k = nI g then 0 else R.2 (nI k).toNatClampNeg) = lN ((if k = g then 0 else F k) / 12) := by
        by_cases q : k = g
        · rw [if_pos (by rw [q]), if_pos q]; rfl
        · rw [if_neg (fun x => q ((nI_eq (by omega) (by omega)).mp x)), if_neg q, nI_clamp (by omega)]
          exact hrun k (by omega)
      rw [ej, lN_add, nI_1]
      obtain ⟨kk, e⟩ := ih (k + 1) f (b + (if k = g then 0 else F k) / 12) ct (by omega) (by omega)
      exact ⟨kk, by rw [e, zSu, Nat.add_assoc]⟩
  obtain ⟨kk, e⟩ := hl N 0 11 0 (rs_X6_othersBy_2 (vp_updL u1 g (if p3 = 0 then u1 g else 0)) u2 R.2) (by omega) (by omega)
  rw [zSu_N hN (fun j h1 h2 => by
    show (if j = g then 0 else F j) / 12 = 0
    rw [if_neg (by omega), hF0 j h1 h2]), Nat.zero_add] at e
  rw [hm.1]
  exact ⟨_, _, _, e⟩
theorem zOt_le {g : Nat} {F G : Nat → Nat} (h : ∀ j, j ≠ g → F j ≤ G j) : zOt g F ≤ zOt g G := by
  refine zSum9_le (fun j _ => ?_)
  show (if j = g then 0 else F j) / 12 ≤ (if j = g then 0 else G j) / 12
  by_cases q : j = g
  · rw [if_pos q, if_pos q]; exact Nat.le_refl _
  · rw [if_neg q, if_neg q]; exact Nat.div_le_div_right (h j q)
theorem zOt_lt {g : Nat} {F : Nat → Nat} (hd : zDv F) (hS : zS10 F < 2 ^ 46) : zOt g F < 2 ^ 43 := by
  have e := zSum9_12 (A := F) (fun j hj => zDv12 hd (by omega))
  have e2 : zOt g F ≤ zSum9 (fun j => F j / 12) := zSum9_le (fun j _ => by
    show (if j = g then 0 else F j) / 12 ≤ F j / 12
    split
    · omega
    · exact Nat.le_refl _)
  have e3 : zSum9 F ≤ zS10 F := by unfold zS10; omega
  omega
theorem z_costs {N : Nat} {K Hd C : Nat → Nat} {S : Nat → Nat → Nat} {sz : Int32} {kd hd tk sc sh : Nat → Int32} {gl : Int32} {rows : Nat → Int32} (h : zTow N K Hd C S) (hc : zStC N K Hd C S sz kd hd tk sc sh) (hm : zStM N K Hd C S gl rows) (p1 p2 p3 z0 : Int32) (k1 k2 k3 k4 k5 : Nat → Int32) (s0 : Int64) (tr am tkm : Nat → Int64) (ln : Nat → Int32) (wd : Nat → Int64) : (m_X5_costs sz kd hd tk sc sh z0 k1 k2 k3 k4 k5 s0 tr p1 p2 p3).1 = (m_X6_costs gl rows am tkm ln wd p1 p2 p3).1 := by
  have hN := h.1
  unfold m_X5_costs m_X6_costs
  simp only [z_cut]
  rcases z_glass hN p1 with ⟨a, b⟩ | ⟨g, hg, rfl, a, b⟩
  · rw [hc.1, hm.1, if_pos a, if_pos b]
  · rw [if_neg (z10 (show m_X3_has sz (nI g) = 1 by rw [hc.1]; exact a)), if_neg (z10 (show m_X6_isGlass gl (nI g) = 1 by rw [hm.1]; exact b))]
    rcases z_from (M := 99) (a := 99) (b := 99) rfl rfl (by omega) p2 with ⟨a, b⟩ | ⟨m, m1, m2, rfl, a, b⟩
    · rw [if_pos a, if_pos b]
    · rw [if_neg (z10 a), if_neg (z10 b)]
      rcases z_part p3 with ⟨a, b⟩ | ⟨-, a, b⟩
      · rw [if_pos a, if_pos b]
      · rw [if_neg (z10 a), if_neg (z10 b)]
        have hN0 : 0 < N := by omega
        obtain ⟨u2, u3, u4, u5, u6, ec, hc2⟩ := zx_stdCopy h hc k1 k2 k3 k4 k5
        have hst := zx_std h hc2
        have hok := hst.ok
        obtain ⟨xa, xb, f1⟩ := zx_others hst hN0 (m := m) (g := g) (by omega) (by omega) tr
        have hst2 := zStd_take hst (g := g) (x := 0) (by omega)
        obtain ⟨xc, xd, f2⟩ := zx_others hst2 hN0 (m := m) (g := g) (by omega) (by omega) xb
        obtain ⟨ya, yb, yc, f3⟩ := zm_others h hm hN0 (m := m) (g := g) (by omega) hg am (p3 := 1) (Or.inr ⟨rfl, rfl⟩) tkm ln wd
        obtain ⟨yd, ye, yf, f4⟩ := zm_others h hm hN0 (m := m) (g := g) (by omega) hg am (p3 := 0) (Or.inl ⟨rfl, rfl⟩) ya yb yc
        rw [ec]
        simp only [z_cut6]
        rw [f1]
        simp only [z_cut3]
        rw [nI_clamp (show g < 2 ^ 31 by omega), show (0 : Int32) = nI 0 from rfl, f2, f3]
        simp only [z_cut3, z_cut4]
        rw [show nI 0 = (0 : Int32) from rfl, f4]
        have hb2 := z_Fbound (t := fun j => if j = g then 0 else zT K Hd j) hok (show m ≤ 999 by omega)
        have hle := zOt_le (g := g) (zRn_cork hok (T := fun g => zT K Hd g * zM) (T' := fun j => (if j = g then 0 else zT K Hd j) * zM) (g0 := g) (fun j hj => by show (if j = g then 0 else zT K Hd j) * zM = _; rw [if_neg hj]) (by show (if g = g then 0 else zT K Hd g) * zM ≤ _; rw [if_pos rfl, Nat.zero_mul]; exact Nat.zero_le _) N 0 (zPo (fun _ => 0) 0 m) (zPo (fun _ => 0) 0 m) (by omega) (fun j _ => Nat.le_refl _))
        have hlt := zOt_lt (g := g) hb2.1 (by rw [hb2.2.1]; exact hb2.2.2.1)
        show m_X5_partOf (lN _ - lN _) p3 = m_X6_term (lN _ - lN _) p3
        rw [lN_sub (Nat.mul_le_mul_left 12 hle), lN_sub hle, ← Nat.mul_sub]
        exact z_term (by omega) p3
