/-! the tower that was read -/
theorem zx_hasAll {kd hd tk sc sh rows : Nat → Int32} {R : Nat} (hR : R ≤ 8) (hg : ∀ g, g ≤ R → zGl kd hd tk sc sh rows g) : (m_X3_hasAllShares (nI (R + 1)) sc sh = 1 ∧ ∀ v, zSh sc sh R v → v = 9 ∨ v < R + 1) ∨ (m_X3_hasAllShares (nI (R + 1)) sc sh = 0 ∧ ∃ v, zSh sc sh R v ∧ v < 9 ∧ R + 1 ≤ v) := by
  have hin : ∀ (g c : Nat) (s : Nat → Nat) (ct : Int32 → Int32), g ≤ R → c ≤ 3 → sc g = nI c → (∀ k, k < c → (s k = 9 ∨ (g < s k ∧ s k ≤ 8)) ∧ sh (3 * g + k) = nI (s k)) → ∀ (r k fuel : Nat), k + r = c → r < fuel → (∀ j, j < k → s j = 9 ∨ s j < R + 1) → (lp_X3_hasAllShares_6 sc (nI g) ct (nI (R + 1)) sh fuel (nI k) = ct (nI c) ∧ ∀ j, j < c → s j = 9 ∨ s j < R + 1) ∨ (lp_X3_hasAllShares_6 sc (nI g) ct (nI (R + 1)) sh fuel (nI k) = 0 ∧ ∃ j, j < c ∧ s j < 9 ∧ R + 1 ≤ s j) := by
    intro g c s ct hgR hc3 hc hs r
    induction r with
    | zero =>
      intro k fuel e1 e2 hi
      obtain ⟨f, rfl⟩ : ∃ f, fuel = f + 1 := ⟨fuel - 1, by omega⟩
      have ek : k = c := by omega
      subst ek
      rw [lp_X3_hasAllShares_6, nI_clamp (by omega), hc, if_pos (nI_le (Nat.le_refl _) (by omega))]
      exact Or.inl ⟨rfl, hi⟩
    | succ r ih =>
      intro k fuel e1 e2 hi
      obtain ⟨f, rfl⟩ : ∃ f, fuel = f + 1 := ⟨fuel - 1, by omega⟩
      obtain ⟨b1, b2⟩ := hs k (by omega)
      have ei : (nI g * 3 + nI k).toNatClampNeg = 3 * g + k := by
        rw [zn3, pk_mul, nI_add, nI_clamp (by omega)]; omega
      have eo : m_X3_shareOf (nI (R + 1)) sc sh (nI g) (nI k) = nI (s k) := by
        unfold m_X3_shareOf
        simp only [z_cut]
        rw [if_neg (z10 (zx_has (N := R + 1) (by omega) (show g < R + 1 by omega))), if_neg (nI_pos (by omega)), nI_clamp (show g < 2 ^ 31 by omega), hc, if_pos (nI_lt (by omega) (by omega)), ei, b2]
      rw [lp_X3_hasAllShares_6]
      simp only [z_cut]
      rw [nI_clamp (show g < 2 ^ 31 by omega), hc, if_neg (nI_ge (show k < c by omega) (by omega)), eo, nI_1]
      have hstep : s k = 9 ∨ s k < R + 1 → ∀ j, j < k + 1 → s j = 9 ∨ s j < R + 1 := fun hk j hj => by
        by_cases q : j = k
        · rw [q]; exact hk
        · exact hi j (by omega)
      by_cases q9 : s k = 9
      · rw [if_pos (show nI (s k) = 9 by rw [q9]; rfl)]
        exact ih (k + 1) f (by omega) (by omega) (hstep (Or.inl q9))
      · have n9 : ¬ nI (s k) = 9 := by rw [zn9]; exact z_nch (by omega) (by omega) q9
        rw [if_neg n9]
        by_cases qR : s k < R + 1
        · rw [if_neg (z10 (zx_has (N := R + 1) (by omega) qR))]
          exact ih (k + 1) f (by omega) (by omega) (hstep (Or.inr qR))
        · have h0 : m_X3_has (nI (R + 1)) (nI (s k)) = 0 := by
            unfold m_X3_has
            rw [if_neg (nI_pos (by omega)), if_pos (nI_le (by omega) (by omega))]
          rw [if_pos h0]
          exact Or.inr ⟨rfl, k, by omega, by omega, by omega⟩
  have hout : ∀ (r g fuel : Nat), g + r = R + 1 → r < fuel → (∀ v j k c, j < g → c ≤ 3 → sc j = nI c → k < c → sh (3 * j + k) = nI v → v ≤ 9 → v = 9 ∨ v < R + 1) → (lp_X3_hasAllShares_5 (nI (R + 1)) rs_X3_hasAllShares_5 sc sh fuel (nI g) = 1 ∧ ∀ v, zSh sc sh R v → v = 9 ∨ v < R + 1) ∨ (lp_X3_hasAllShares_5 (nI (R + 1)) rs_X3_hasAllShares_5 sc sh fuel (nI g) = 0 ∧ ∃ v, zSh sc sh R v ∧ v < 9 ∧ R + 1 ≤ v) := by
    intro r
    induction r with
    | zero =>
      intro g fuel e1 e2 hi
      obtain ⟨f, rfl⟩ : ∃ f, fuel = f + 1 := ⟨fuel - 1, by omega⟩
      rw [lp_X3_hasAllShares_5, if_pos (nI_le (by omega) (by omega))]
      refine Or.inl ⟨rfl, ?_⟩
      rintro v ⟨j, k, c, a1, a2, a3, a4, a5, a6⟩
      exact hi v j k c (by omega) a2 a3 a4 a5 a6
    | succ r ih =>
      intro g fuel e1 e2 hi
      obtain ⟨f, rfl⟩ : ∃ f, fuel = f + 1 := ⟨fuel - 1, by omega⟩
      obtain ⟨K, H, c, s, a1, a2, a3, a4, a5, a6, a7, a8, a9, a10, a11, a12, a13⟩ := hg g (by omega)
      rw [lp_X3_hasAllShares_5, if_neg (nI_ge (by omega) (by omega))]
      rcases hin g c s (rs_X3_hasAllShares_6 (nI g) (fun c0 => lp_X3_hasAllShares_5 (nI (R + 1)) rs_X3_hasAllShares_5 sc sh f c0)) (by omega) a4 a8 a12 c 0 5 (by omega) (by omega) (fun j hj => by omega) with ⟨b1, b2⟩ | ⟨b1, j, b2, b3, b4⟩
      · rw [show (0 : Int32) = nI 0 from rfl, b1]
        unfold rs_X3_hasAllShares_6
        simp only [z_cut]
        rw [nI_1]
        refine ih (g + 1) f (by omega) (by omega) (fun v j k c' d1 d2 d3 d4 d5 d6 => ?_)
        by_cases q : j = g
        · rw [q, a8] at d3
          have ec := (nI_eq (by omega) (by omega)).mp d3
          rw [q, (a12 k (by omega)).2] at d5
          have b1' := (a12 k (by omega)).1
          have ev := (nI_eq (by omega) (by omega)).mp d5
          have := b2 k (by omega)
          omega
        · exact hi v j k c' (by omega) d2 d3 d4 d5 d6
      · rw [show (0 : Int32) = nI 0 from rfl, b1]
        exact Or.inr ⟨rfl, s j, ⟨g, j, c, by omega, a4, a8, b2, (a12 j b2).2, by omega⟩, b3, b4⟩
  exact hout (R + 1) 0 10 (by omega) (by omega) (fun v j k c hj => by omega)
/-- it may end -/
theorem z_end {pl sz : Int32} {kd hd tk sc sh : Nat → Int32} {rm st mo : Int32} {rows : Nat → Int32} (h : zRd pl sz kd hd tk sc sh rm st mo rows) : (m_X2_mayEnd pl sz sc sh = 0 ∧ ((¬ st = 2 ∧ ¬ st = 4) ∨ ((st = 2 ∨ st = 4) ∧ ¬ mo ≤ rm))) ∨ (m_X2_mayEnd pl sz sc sh = 1 ∧ (st = 2 ∨ st = 4) ∧ mo ≤ rm ∧ ∃ R : Nat, R ≤ 8 ∧ sz = nI (R + 1) ∧ rm = nI R ∧ (∀ g, g ≤ R → zGl kd hd tk sc sh rows g) ∧ ∀ v, zSh sc sh R v → v = 9 ∨ v < R + 1) := by
  obtain ⟨R, M, hR, rfl, rfl, rfl, hM, hg, hs, hm, hp⟩ := h
  have eR : (nI (R + 1) - 1).toNatClampNeg = R := by rw [nI_pred, nI_clamp (by omega)]
  have hfin : (st = 2 ∨ st = 4) → zGl kd hd tk sc sh rows R → m_X2_mayEndGlass pl (nI (R + 1)) sc = 1 → (m_X2_mayEnd pl (nI (R + 1)) sc sh = 0 ∧ ((¬ st = 2 ∧ ¬ st = 4) ∨ ((st = 2 ∨ st = 4) ∧ ¬ nI M ≤ nI R))) ∨ (m_X2_mayEnd pl (nI (R + 1)) sc sh = 1 ∧ (st = 2 ∨ st = 4) ∧ nI M ≤ nI R ∧ ∃ R' : Nat, R' ≤ 8 ∧ nI (R + 1) = nI (R' + 1) ∧ nI R = nI R' ∧ (∀ g, g ≤ R' → zGl kd hd tk sc sh rows g) ∧ ∀ v, zSh sc sh R' v → v = 9 ∨ v < R' + 1) := by
    intro hst hgl hme
    have hall : ∀ g, g ≤ R → zGl kd hd tk sc sh rows g := fun g hgR => by
      by_cases q : g = R
      · rw [q]; exact hgl
      · exact hg g (by omega)
    unfold m_X2_mayEnd
    simp only [z_cut]
    rw [hme, if_neg (show ¬ (1 : Int32) = 0 by decide)]
    rcases zx_hasAll hR hall with ⟨a, b⟩ | ⟨a, v, b1, b2, b3⟩
    · rw [a, if_neg (show ¬ (1 : Int32) = 0 by decide)]
      refine Or.inr ⟨rfl, hst, ?_, R, hR, rfl, rfl, hall, b⟩
      refine nI_le ?_ (by omega)
      rcases hm with t | t
      · omega
      · have := b M t
        omega
    · rw [a, if_pos rfl]
      have := hs v b1 b2
      exact Or.inl ⟨rfl, Or.inr ⟨hst, nI_ge (by omega) (by omega)⟩⟩
  rcases hp with ⟨rfl, rfl, p1, p2⟩ | ⟨rfl, rfl, p1, p2, p3, K, k1, k2, k3, k4⟩ | ⟨rfl, rfl, p1, p2⟩ | ⟨rfl, p1, p2⟩
  · exact Or.inl ⟨rfl, Or.inl ⟨by decide, by decide⟩⟩
  · exact Or.inl ⟨rfl, Or.inl ⟨by decide, by decide⟩⟩
  · exact hfin (Or.inl rfl) p1 rfl
  · have hme : m_X2_mayEndGlass 3 (nI (R + 1)) sc = if sc R ≤ 0 then 0 else 1 := by
      unfold m_X2_mayEndGlass m_X3_lastShareCount
      simp only [z_cut]
      rw [if_neg (show ¬ (3 : Int32) = 2 by decide), if_pos trivial, if_neg (nI_nle (show 0 < R + 1 by omega) (by omega)), eR]
    rcases p2 with ⟨p2, rfl⟩ | ⟨p2, rfl⟩
    · rw [p2, if_pos (show (0 : Int32) ≤ 0 by decide)] at hme
      refine Or.inl ⟨?_, Or.inl ⟨by decide, by decide⟩⟩
      unfold m_X2_mayEnd
      simp only [z_cut]
      rw [hme, if_pos rfl]
    · refine hfin (Or.inr rfl) p1 ?_
      obtain ⟨K, H, c, s, a1, a2, a3, a4, a5, a6, a7, a8, a9, a10, a11, a12, a13⟩ := p1
      rw [hme, a8, if_neg (nI_nle ?_ (by omega))]
      rcases Nat.eq_zero_or_pos c with t | t
      · rw [t] at a8; exact absurd a8 p2
      · exact t
/-- the glasses as plain numbers -/
theorem z_plain {kd hd tk sc sh rows : Nat → Int32} {R : Nat} (hR : R ≤ 8) (hg : ∀ g, g ≤ R → zGl kd hd tk sc sh rows g) (hv : ∀ v, zSh sc sh R v → v = 9 ∨ v < R + 1) : ∃ (K Hd C : Nat → Nat) (S : Nat → Nat → Nat), zTow (R + 1) K Hd C S ∧ zStC (R + 1) K Hd C S (nI (R + 1)) kd hd tk sc sh ∧ zStM (R + 1) K Hd C S (nI (R + 1)) rows := by
  have hh : ∀ g : Nat, ∃ x : Nat × Nat × Nat × (Nat → Nat), g ≤ R → x.1 ≤ 4 ∧ 1 ≤ x.2.1 ∧ x.2.1 ≤ 9 ∧ x.2.2.1 ≤ 3 ∧ kd g = nI x.1 ∧ hd g = nI x.2.1 ∧ tk g = nI (zT1 x.1 x.2.1) ∧ sc g = nI x.2.2.1 ∧ rows (6 * g) = nI x.1 ∧ rows (6 * g + 1) = nI x.2.1 ∧ rows (6 * g + 2) = nI x.2.2.1 ∧ (∀ k, k < x.2.2.1 → (x.2.2.2 k = 9 ∨ (g < x.2.2.2 k ∧ x.2.2.2 k ≤ 8)) ∧ sh (3 * g + k) = nI (x.2.2.2 k)) ∧ ∀ k, k < 3 → rows (6 * g + 3 + k) = if k < x.2.2.1 then nI (x.2.2.2 k) else -1 := fun g => by
    by_cases q : g ≤ R
    · obtain ⟨K, H, c, s, a⟩ := hg g q
      exact ⟨(K, H, c, s), fun _ => a⟩
    · exact ⟨(0, 0, 0, fun _ => 0), fun x => absurd x q⟩
  obtain ⟨F, hF⟩ := Classical.axiomOfChoice hh
  refine ⟨fun g => (F g).1, fun g => (F g).2.1, fun g => (F g).2.2.1, fun g => (F g).2.2.2, ⟨by omega, fun g hgR => ?_⟩, ⟨rfl, fun g hgR => ?_⟩, ⟨rfl, fun g hgR => ?_⟩⟩
  · obtain ⟨a1, a2, a3, a4, a5, a6, a7, a8, a9, a10, a11, a12, a13⟩ := hF g (by omega)
    refine ⟨a1, a2, a3, a4, fun k hk => ?_⟩
    obtain ⟨b1, b2⟩ := a12 k hk
    have := hv _ ⟨g, k, _, by omega, a4, a8, hk, b2, by omega⟩
    show (F g).2.2.2 k = 9 ∨ (g < (F g).2.2.2 k ∧ (F g).2.2.2 k < R + 1)
    omega
  · obtain ⟨a1, a2, a3, a4, a5, a6, a7, a8, a9, a10, a11, a12, a13⟩ := hF g (by omega)
    exact ⟨a5, a6, a7, a8, fun k hk => (a12 k hk).2⟩
  · obtain ⟨a1, a2, a3, a4, a5, a6, a7, a8, a9, a10, a11, a12, a13⟩ := hF g (by omega)
    exact ⟨a9, a10, a11, a13⟩
theorem zStM_ext {N : Nat} {K Hd C : Nat → Nat} {S : Nat → Nat → Nat} {gl : Int32} {rows rows' : Nat → Int32} (h : zStM N K Hd C S gl rows) (he : ∀ j, j < 6 * N → rows' j = rows j) : zStM N K Hd C S gl rows' := by
  refine ⟨h.1, fun g hg => ?_⟩
  obtain ⟨a1, a2, a3, a4⟩ := h.2 g hg
  refine ⟨(he _ (by omega)).trans a1, (he _ (by omega)).trans a2, (he _ (by omega)).trans a3, fun k hk => (he _ (by omega)).trans (a4 k hk)⟩
theorem zm_tw5 {N : Nat} (hN : N ≤ 9) {am dm : Nat → Int64} {tr u2 u3 u4 : Int32} {u5 tu rows : Nat → Int32} : ∃ (r' t' : Nat → Int32) (a' d' : Nat → Int64), lp_X6_tower_5 (nI N) (rs_X6_tower_5 am dm tr (nI N) u2 u3 u4 u5 tu) u5 56 0 rows = (nI N, 0, u2, u3, u4, nI N, tr + 1, 0, 0, u5, r', t', a', d') ∧ (∀ j, j < 6 * N → r' j = u5 j) ∧ ∀ j, j < 9 → t' j = 0 ∧ a' j = 0 ∧ d' j = 0 := by
  have hl : ∀ (ct : Int32 → (Nat → Int32) → (Int32 × Int32 × Int32 × Int32 × Int32 × Int32 × Int32 × Int32 × Int64 × (Nat → Int32) × (Nat → Int32) × (Nat → Int32) × (Nat → Int64) × (Nat → Int64))) (r k fuel : Nat) (b : Nat → Int32), k + r = 6 * N → r < fuel → (∀ j, j < k → b j = u5 j) → ∃ (kk : Int32) (b' : Nat → Int32), lp_X6_tower_5 (nI N) ct u5 fuel (nI k) b = ct kk b' ∧ ∀ j, j < 6 * N → b' j = u5 j := by
    intro ct r
    induction r with
    | zero =>
      intro k fuel b e1 e2 hi
      obtain ⟨f, rfl⟩ : ∃ f, fuel = f + 1 := ⟨fuel - 1, by omega⟩
      rw [lp_X6_tower_5, zn6, pk_mul, if_pos (nI_le (by omega) (by omega))]
      exact ⟨_, b, rfl, fun j hj => hi j (by omega)⟩
    | succ r ih =>
      intro k fuel b e1 e2 hi
      obtain ⟨f, rfl⟩ : ∃ f, fuel = f + 1 := ⟨fuel - 1, by omega⟩
      rw [lp_X6_tower_5, zn6, pk_mul, if_neg (nI_ge (by omega) (by omega))]
      simp only [z_cut]
      rw [nI_clamp (show k < 2 ^ 31 by omega), nI_1]
      refine ih (k + 1) f _ (by omega) (by omega) (fun j hj => ?_)
      by_cases q : j = k
      · rw [q, pk_us]
      · rw [pk_un q]; exact hi j (by omega)
  have hl2 : ∀ (ct : Int32 → (Nat → Int32) → (Int32 × Int32 × Int32 × Int32 × Int32 × Int32 × Int32 × Int32 × Int64 × (Nat → Int32) × (Nat → Int32) × (Nat → Int32) × (Nat → Int64) × (Nat → Int64))) (r k fuel : Nat) (b : Nat → Int32), k + r = 9 → r < fuel → (∀ j, j < k → b j = 0) → ∃ (kk : Int32) (b' : Nat → Int32), lp_X6_tower_6 ct fuel (nI k) b = ct kk b' ∧ ∀ j, j < 9 → b' j = 0 := by
    intro ct r
    induction r with
    | zero =>
      intro k fuel b e1 e2 hi
      obtain ⟨f, rfl⟩ : ∃ f, fuel = f + 1 := ⟨fuel - 1, by omega⟩
      rw [lp_X6_tower_6, zn9, if_pos (nI_le (by omega) (by omega))]
      exact ⟨_, b, rfl, fun j hj => hi j (by omega)⟩
    | succ r ih =>
      intro k fuel b e1 e2 hi
      obtain ⟨f, rfl⟩ : ∃ f, fuel = f + 1 := ⟨fuel - 1, by omega⟩
      rw [lp_X6_tower_6, zn9, if_neg (nI_ge (by omega) (by omega))]
      simp only [z_cut]
      rw [nI_clamp (show k < 2 ^ 31 by omega), nI_1]
      refine ih (k + 1) f _ (by omega) (by omega) (fun j hj => ?_)
      by_cases q : j = k
      · rw [q, pk_us]
      · rw [pk_un q]; exact hi j (by omega)
  obtain ⟨kk, r', g1, g2⟩ := hl (rs_X6_tower_5 am dm tr (nI N) u2 u3 u4 u5 tu) (6 * N) 0 56 rows (by omega) (by omega) (fun j hj => by omega)
  obtain ⟨kk2, t', g3, g4⟩ := hl2 (rs_X6_tower_6 am dm tr (nI N) u2 u3 u4 u5 r') 9 0 11 tu (by omega) (by omega) (fun j hj => by omega)
  obtain ⟨z1, z2, z3⟩ := zm_empty (am := am) (dm := dm)
  refine ⟨r', t', (m_X6_empty am dm).2.2.1, (m_X6_empty am dm).2.2.2, ?_, g2, fun j hj => ⟨g4 j hj, z3 j hj⟩⟩
  rw [show (0 : Int32) = nI 0 from rfl, g1]
  unfold rs_X6_tower_5
  rw [show (0 : Int32) = nI 0 from rfl, g3]
  unfold rs_X6_tower_6
  simp only [z_cut4, z_cut]
  rw [z1, z2]
  rfl
theorem zm_tw7 {N : Nat} (hN : N ≤ 9) {am dm : Nat → Int64} {tr u2 u3 u4 : Int32} {u5 tu rows : Nat → Int32} : ∃ (r' t' : Nat → Int32) (a' d' : Nat → Int64), lp_X6_tower_7 (nI N) (rs_X6_tower_7 am dm tr (nI N) u2 u3 u4 u5 tu) u5 56 0 rows = (nI N, 0, u2, u3, u4, nI N, tr + 1, 0, 0, u5, r', t', a', d') ∧ (∀ j, j < 6 * N → r' j = u5 j) ∧ ∀ j, j < 9 → t' j = 0 ∧ a' j = 0 ∧ d' j = 0 := by
  have hl : ∀ (ct : Int32 → (Nat → Int32) → (Int32 × Int32 × Int32 × Int32 × Int32 × Int32 × Int32 × Int32 × Int64 × (Nat → Int32) × (Nat → Int32) × (Nat → Int32) × (Nat → Int64) × (Nat → Int64))) (r k fuel : Nat) (b : Nat → Int32), k + r = 6 * N → r < fuel → (∀ j, j < k → b j = u5 j) → ∃ (kk : Int32) (b' : Nat → Int32), lp_X6_tower_7 (nI N) ct u5 fuel (nI k) b = ct kk b' ∧ ∀ j, j < 6 * N → b' j = u5 j := by
    intro ct r
    induction r with
    | zero =>
      intro k fuel b e1 e2 hi
      obtain ⟨f, rfl⟩ : ∃ f, fuel = f + 1 := ⟨fuel - 1, by omega⟩
      rw [lp_X6_tower_7, zn6, pk_mul, if_pos (nI_le (by omega) (by omega))]
      exact ⟨_, b, rfl, fun j hj => hi j (by omega)⟩
    | succ r ih =>
      intro k fuel b e1 e2 hi
      obtain ⟨f, rfl⟩ : ∃ f, fuel = f + 1 := ⟨fuel - 1, by omega⟩
      rw [lp_X6_tower_7, zn6, pk_mul, if_neg (nI_ge (by omega) (by omega))]
      simp only [z_cut]
      rw [nI_clamp (show k < 2 ^ 31 by omega), nI_1]
      refine ih (k + 1) f _ (by omega) (by omega) (fun j hj => ?_)
      by_cases q : j = k
      · rw [q, pk_us]
      · rw [pk_un q]; exact hi j (by omega)
  have hl2 : ∀ (ct : Int32 → (Nat → Int32) → (Int32 × Int32 × Int32 × Int32 × Int32 × Int32 × Int32 × Int32 × Int64 × (Nat → Int32) × (Nat → Int32) × (Nat → Int32) × (Nat → Int64) × (Nat → Int64))) (r k fuel : Nat) (b : Nat → Int32), k + r = 9 → r < fuel → (∀ j, j < k → b j = 0) → ∃ (kk : Int32) (b' : Nat → Int32), lp_X6_tower_8 ct fuel (nI k) b = ct kk b' ∧ ∀ j, j < 9 → b' j = 0 := by
    intro ct r
    induction r with
    | zero =>
      intro k fuel b e1 e2 hi
      obtain ⟨f, rfl⟩ : ∃ f, fuel = f + 1 := ⟨fuel - 1, by omega⟩
      rw [lp_X6_tower_8, zn9, if_pos (nI_le (by omega) (by omega))]
      exact ⟨_, b, rfl, fun j hj => hi j (by omega)⟩
    | succ r ih =>
      intro k fuel b e1 e2 hi
      obtain ⟨f, rfl⟩ : ∃ f, fuel = f + 1 := ⟨fuel - 1, by omega⟩
      rw [lp_X6_tower_8, zn9, if_neg (nI_ge (by omega) (by omega))]
      simp only [z_cut]
      rw [nI_clamp (show k < 2 ^ 31 by omega), nI_1]
      refine ih (k + 1) f _ (by omega) (by omega) (fun j hj => ?_)
      by_cases q : j = k
      · rw [q, pk_us]
      · rw [pk_un q]; exact hi j (by omega)
  obtain ⟨kk, r', g1, g2⟩ := hl (rs_X6_tower_7 am dm tr (nI N) u2 u3 u4 u5 tu) (6 * N) 0 56 rows (by omega) (by omega) (fun j hj => by omega)
  obtain ⟨kk2, t', g3, g4⟩ := hl2 (rs_X6_tower_8 am dm tr (nI N) u2 u3 u4 u5 r') 9 0 11 tu (by omega) (by omega) (fun j hj => by omega)
  obtain ⟨z1, z2, z3⟩ := zm_empty (am := am) (dm := dm)
  refine ⟨r', t', (m_X6_empty am dm).2.2.1, (m_X6_empty am dm).2.2.2, ?_, g2, fun j hj => ⟨g4 j hj, z3 j hj⟩⟩
  rw [show (0 : Int32) = nI 0 from rfl, g1]
  unfold rs_X6_tower_7
  rw [show (0 : Int32) = nI 0 from rfl, g3]
  unfold rs_X6_tower_8
  simp only [z_cut4, z_cut]
  rw [z1, z2]
  rfl
theorem z_tower {ps : Int32} {pc : Nat → Int32} {pm : Int32} {pg : Nat → Int32} (hp : zPg ps pc pm pg) (ik tr tr' sz gl po po' : Int32) (rk rh rt rs rsh kd hd tk sc sh rr rows : Nat → Int32) (sp sp' : Int64) (ic dc am dm : Nat → Int64) (tc tm : Nat → Int32) : (∃ (u2 u3 : Int32) (u4 u5 u6 u7 u8 : Nat → Int32) (v2 v3 v4 : Int32) (v5 : Nat → Int32), m_X5_tower ik tr ps pc rk rh rt rs rsh sz kd hd tk sc sh po sp ic dc tc = (-103, ik, tr, ps, u2, u3, u4, u5, u6, u7, u8, sz, kd, hd, tk, sc, sh, po, sp, ic, dc, tc) ∧ m_X6_tower pm gl tr' po' sp' pg rr rows tm am dm = (-103, pm, v2, v3, v4, gl, tr', po', sp', v5, rows, tm, am, dm)) ∨ (∃ (N : Nat) (K Hd C : Nat → Nat) (S : Nat → Nat → Nat) (u2 u3 : Int32) (u4 u5 u6 u7 u8 : Nat → Int32) (v2 v3 v4 : Int32) (v5 : Nat → Int32) (k' h' t' c' s' : Nat → Int32) (i' d' : Nat → Int64) (tu' : Nat → Int32) (r' tm' : Nat → Int32) (a' e' : Nat → Int64), m_X5_tower ik tr ps pc rk rh rt rs rsh sz kd hd tk sc sh po sp ic dc tc = (nI N, 0, tr + 1, 0, u2, u3, u4, u5, u6, u7, u8, nI N, k', h', t', c', s', 0, 0, i', d', tu') ∧ m_X6_tower pm gl tr' po' sp' pg rr rows tm am dm = (nI N, 0, v2, v3, v4, nI N, tr' + 1, 0, 0, v5, r', tm', a', e') ∧ zTow N K Hd C S ∧ zStC N K Hd C S (nI N) k' h' t' c' s' ∧ zStM N K Hd C S (nI N) r' ∧ ∀ j, j < 9 → i' j = 0 ∧ d' j = 0 ∧ tu' j = 0 ∧ tm' j = 0 ∧ a' j = 0 ∧ e' j = 0) := by
  obtain ⟨P, hP, e1, e2, hi⟩ := hp
  unfold m_X5_tower m_X6_tower
  rcases z_fault hP e1 e2 hi rk rh rt rs rsh rr with ⟨i, a1, a2, a3⟩ | ⟨pl, sz2, kd2, hd2, tk2, sc2, sh2, rm2, st2, mo2, rows2, a1, a2, a3⟩
  · simp only [z_cut8, z_cut5]
    rw [a2, a3, e1, e2, if_pos (nI_lt a1 (by omega)), if_pos (nI_lt a1 (by omega))]
    exact Or.inl ⟨_, _, _, _, _, _, _, _, _, _, _, rfl, rfl⟩
  · rw [a1, a2]
    simp only [z_cut8, z_cut5]
    rw [e1, e2, if_neg (nI_nlt (Nat.le_refl P) (by omega)), if_neg (nI_nlt (Nat.le_refl P) (by omega))]
    simp only [z_cut]
    rcases z_end a3 with ⟨b1, b2⟩ | ⟨b1, b2, b3, R, b4, b5, b6, b7, b8⟩
    · rw [if_pos b1]
      refine Or.inl ⟨_, _, _, _, _, _, _, rm2, st2, mo2, rows2, rfl, ?_⟩
      rcases b2 with ⟨c1, c2⟩ | ⟨c1, c2⟩
      · rw [if_neg c1, if_neg c2]
      · by_cases q : st2 = 2
        · rw [if_pos q, if_neg c2]
        · rw [if_neg q, if_pos (by rcases c1 with t | t; exact absurd t q; exact t), if_neg c2]
    · rw [if_neg (z10 b1)]
      obtain ⟨K, Hd, C, S, t1, t2, t3⟩ := z_plain b4 b7 b8
      obtain ⟨w2, w3, w4, w5, w6, ec, hc2⟩ := zx_stdCopy t1 t2 kd hd tk sc sh
      rw [← b5] at ec
      rw [ec]
      simp only [z_cut6]
      have z9 := t1.1
      refine Or.inr ?_
      have hz1 : ∀ j, j < 9 → (m_X0_makeEmpty ic).2 j = 0 := fun j hj => by
        have := (zx_empty (ic := ic)).2 j hj
        exact this
      have hmk : m_X4_makeNew ic dc tc = (0, 0, (m_X0_makeEmpty ic).2, m_J7_fill_d0a16 dc 0, m_J7_fill_53178 tc 0) := rfl
      rw [hmk]
      simp only [z_cut5]
      by_cases q : st2 = 2
      · obtain ⟨r', t', a', d', g1, g2, g3⟩ := zm_tw5 (N := R + 1) z9 (am := am) (dm := dm) (tr := tr') (u2 := rm2) (u3 := st2) (u4 := mo2) (u5 := rows2) (tu := tm) (rows := rows)
        rw [if_pos q, if_pos b3, show rm2 + 1 = nI (R + 1) by rw [b6, nI_1], g1, b5]
        exact ⟨R + 1, K, Hd, C, S, _, _, _, _, _, _, _, _, _, _, _, w2, w3, w4, w5, w6, _, _, _, r', t', a', d', rfl, rfl, t1, hc2, zStM_ext t3 g2, fun j hj => ⟨hz1 j hj, zx_fill j hj, zx_fillI j hj, g3 j hj⟩⟩
      · obtain ⟨r', t', a', d', g1, g2, g3⟩ := zm_tw7 (N := R + 1) z9 (am := am) (dm := dm) (tr := tr') (u2 := rm2) (u3 := st2) (u4 := mo2) (u5 := rows2) (tu := tm) (rows := rows)
        rw [if_neg q, if_pos (by rcases b2 with t | t; exact absurd t q; exact t), if_pos b3, show rm2 + 1 = nI (R + 1) by rw [b6, nI_1], g1, b5]
        exact ⟨R + 1, K, Hd, C, S, _, _, _, _, _, _, _, _, _, _, _, w2, w3, w4, w5, w6, _, _, _, r', t', a', d', rfl, rfl, t1, hc2, zStM_ext t3 g2, fun j hj => ⟨hz1 j hj, zx_fill j hj, zx_fillI j hj, g3 j hj⟩⟩
