/-! reading a tower: the two readers, letter by letter -/
def zT1 (K H : Nat) : Nat := if K = 1 then H - 1 else if K = 2 ∨ K = 4 then 0 else H
def zGl (kd hd tk sc sh rows : Nat → Int32) (g : Nat) : Prop := ∃ (K H c : Nat) (s : Nat → Nat), K ≤ 4 ∧ 1 ≤ H ∧ H ≤ 9 ∧ c ≤ 3 ∧ kd g = nI K ∧ hd g = nI H ∧ tk g = nI (zT1 K H) ∧ sc g = nI c ∧ rows (6 * g) = nI K ∧ rows (6 * g + 1) = nI H ∧ rows (6 * g + 2) = nI c ∧ (∀ k, k < c → (s k = 9 ∨ (g < s k ∧ s k ≤ 8)) ∧ sh (3 * g + k) = nI (s k)) ∧ ∀ k, k < 3 → rows (6 * g + 3 + k) = if k < c then nI (s k) else -1
theorem zGl_ext {kd hd tk sc sh rows kd' hd' tk' sc' sh' rows' : Nat → Int32} {g : Nat} (h : zGl kd hd tk sc sh rows g) (h1 : kd' g = kd g) (h2 : hd' g = hd g) (h3 : tk' g = tk g) (h4 : sc' g = sc g) (h5 : ∀ k, k < 3 → sh' (3 * g + k) = sh (3 * g + k)) (h6 : ∀ i, i < 6 → rows' (6 * g + i) = rows (6 * g + i)) : zGl kd' hd' tk' sc' sh' rows' g := by
  obtain ⟨K, H, c, s, a1, a2, a3, a4, a5, a6, a7, a8, a9, a10, a11, a12, a13⟩ := h
  refine ⟨K, H, c, s, a1, a2, a3, a4, h1.trans a5, h2.trans a6, h3.trans a7, h4.trans a8, (h6 0 (by omega)).trans a9, (h6 1 (by omega)).trans a10, (h6 2 (by omega)).trans a11, fun k hk => ⟨(a12 k hk).1, (h5 k (by omega)).trans (a12 k hk).2⟩, fun k hk => ?_⟩
  have e := h6 (3 + k) (by omega)
  rw [← Nat.add_assoc] at e
  exact e.trans (a13 k hk)
/-- v is told as a share -/
def zSh (sc sh : Nat → Int32) (R v : Nat) : Prop := ∃ g k c : Nat, g ≤ R ∧ c ≤ 3 ∧ sc g = nI c ∧ k < c ∧ sh (3 * g + k) = nI v ∧ v ≤ 9
def zPl (pl st : Int32) (kd hd tk sc sh rows : Nat → Int32) (R : Nat) : Prop := (pl = 0 ∧ st = 0 ∧ kd R = 0 ∧ sc R = 0) ∨ (pl = 1 ∧ st = 1 ∧ sc R = 0 ∧ rows (6 * R + 2) = 0 ∧ (∀ k, k < 3 → rows (6 * R + 3 + k) = -1) ∧ ∃ K : Nat, 1 ≤ K ∧ K ≤ 4 ∧ kd R = nI K ∧ rows (6 * R) = nI K) ∨ (pl = 2 ∧ st = 2 ∧ zGl kd hd tk sc sh rows R ∧ sc R = 0) ∨ (pl = 3 ∧ zGl kd hd tk sc sh rows R ∧ ((sc R = 0 ∧ st = 3) ∨ (¬ sc R = 0 ∧ st = 4)))
def zRd (pl sz : Int32) (kd hd tk sc sh : Nat → Int32) (rm st mo : Int32) (rows : Nat → Int32) : Prop := ∃ R M : Nat, R ≤ 8 ∧ sz = nI (R + 1) ∧ rm = nI R ∧ mo = nI M ∧ M ≤ 8 ∧ (∀ g, g < R → zGl kd hd tk sc sh rows g) ∧ (∀ v, zSh sc sh R v → v < 9 → v ≤ M) ∧ (M = 0 ∨ zSh sc sh R M) ∧ zPl pl st kd hd tk sc sh rows R
theorem zx_taken : ∀ K, K < 5 → ∀ H, H < 10 → 1 ≤ H → m_X5_takenBy (nI K) (nI H) = nI (zT1 K H) := by decide +kernel
def zKd (ch : Nat) : Nat := if ch = 99 then 1 else if ch = 107 then 2 else if ch = 108 then 3 else if ch = 115 then 4 else 0
theorem zKd_le (ch : Nat) : zKd ch ≤ 4 := by unfold zKd; split <;> (try split) <;> (try split) <;> (try split) <;> omega
theorem z_kind : ∀ ch, ch < 127 → m_J0_indexOf_0f7a4 (nI ch) + 1 = nI (zKd ch) ∧ m_X6_kindOf (nI ch) = if zKd ch = 0 then -1 else nI (zKd ch) := by decide +kernel
theorem z_isD {ch a b : Nat} {x y : Int64} (hx : x = lN a) (hy : y = lN b) (ha : a < 2 ^ 30) (hb : b < 2 ^ 30) (hc : ch < 2 ^ 30) : (m_X6_isIn (nI ch).toInt64 x y = 1 ∧ a ≤ ch ∧ ch ≤ b) ∨ (m_X6_isIn (nI ch).toInt64 x y = 0 ∧ (ch < a ∨ b < ch)) := by
  subst hx hy
  have e0 : ((nI ch).toInt64).toInt = ch := by rw [Int32.toInt_toInt64, nI_toInt (by omega)]
  have e1 : (lN a).toInt = a := pk_lT (by omega)
  have e2 : (lN b).toInt = b := pk_lT (by omega)
  by_cases q : a ≤ ch ∧ ch ≤ b
  · exact Or.inl ⟨z_isIn1 (by omega) (by omega), q⟩
  · exact Or.inr ⟨z_isIn0 (by omega), by omega⟩
theorem z_n1 {n : Nat} (h : n < 2 ^ 31) : ¬ nI n = -1 := fun x => by
  have := nI_pos h
  rw [x] at this
  exact this (by decide)
section
variable {kd hd tk sc sh rows : Nat → Int32} {R ch : Nat}
theorem zx_holds (hR : R ≤ 8) {K : Nat} (hK : K ≤ 4) (hk : kd R = nI K) (hc : ch ≤ 126) (pl : Int32) : (49 ≤ ch ∧ ch ≤ 57 ∧ m_X2_readsHolds pl (nI (R + 1)) kd hd tk (nI ch) = (1, 2, upd hd R (nI (ch - 48)), upd tk R (nI (zT1 K (ch - 48))))) ∨ ((ch < 49 ∨ 57 < ch) ∧ m_X2_readsHolds pl (nI (R + 1)) kd hd tk (nI ch) = (0, pl, hd, tk)) := by
  have eR : (nI (R + 1) - 1).toNatClampNeg = R := by rw [nI_pred, nI_clamp (by omega)]
  unfold m_X2_readsHolds
  rw [show (49 : Int32) = nI 49 from rfl, show (57 : Int32) = nI 57 from rfl]
  by_cases q1 : ch < 49
  · rw [if_pos (nI_lt q1 (by omega))]
    exact Or.inr ⟨Or.inl q1, rfl⟩
  · rw [if_neg (nI_nlt (show 49 ≤ ch by omega) (by omega))]
    by_cases q2 : ch ≤ 57
    · rw [if_pos (nI_le q2 (by omega))]
      refine Or.inl ⟨by omega, q2, ?_⟩
      unfold m_X3_tellHolds
      rw [if_neg (nI_nle (by omega) (by omega)), eR]
      simp only [z_cut, z_cut2]
      rw [hk, show (48 : Int32) = nI 48 from rfl, pk_sub (by omega), zx_taken K (by omega) (ch - 48) (by omega) (by omega)]
    · rw [if_neg (nI_ge (show 57 < ch by omega) (by omega))]
      exact Or.inr ⟨Or.inr (by omega), rfl⟩
theorem zm_holds (hR : R ≤ 8) (hc : ch ≤ 126) : (49 ≤ ch ∧ ch ≤ 57 ∧ m_X6_goHolds (nI R) rows (nI ch) = (1, 2, upd rows (6 * R + 1) (nI (ch - 48)))) ∨ ((ch < 49 ∨ 57 < ch) ∧ ∃ x, m_X6_goHolds (nI R) rows (nI ch) = (0, 2, x)) := by
  have i1 : (6 * nI R + 1).toNatClampNeg = 6 * R + 1 := by rw [zn6, pk_mul, nI_1, nI_clamp (by omega)]
  unfold m_X6_goHolds
  simp only [z_cut]
  rw [i1]
  rcases z_isD (ch := ch) (a := 49) (b := 57) (x := 49) (y := 57) rfl rfl (by omega) (by omega) (by omega) with ⟨a, b, c⟩ | ⟨a, b⟩
  · rw [a, show (48 : Int32) = nI 48 from rfl, pk_sub (by omega)]
    exact Or.inl ⟨b, c, rfl⟩
  · rw [a]
    exact Or.inr ⟨b, _, rfl⟩
theorem zm_go0 (hR : R ≤ 8) (j : Int32) (ct : Int32 → (Nat → Int32) → (Int32 × Int32 × Int32 × Int32 × (Nat → Int32))) : ∃ rows' : Nat → Int32, (∀ n, n < 6 * R → rows' n = rows n) ∧ rows' (6 * R) = j ∧ rows' (6 * R + 2) = 0 ∧ (∀ k, k < 3 → rows' (6 * R + 3 + k) = -1) ∧ lp_X6_go_2 ct (6 * nI R) 5 3 (upd (upd rows (6 * R) j) (6 * R + 2) 0) = ct (nI 6) rows' := by
  have ei : ∀ k, k < 6 → (6 * nI R + nI k).toNatClampNeg = 6 * R + k := fun k hk => by rw [zn6, pk_mul, nI_add, nI_clamp (by omega)]
  refine ⟨upd (upd (upd (upd (upd rows (6 * R) j) (6 * R + 2) 0) (6 * R + 3) (-1)) (6 * R + 4) (-1)) (6 * R + 5) (-1), fun n hn => ?_, ?_, ?_, fun k hk => ?_, ?_⟩
  · rw [pk_un (by omega), pk_un (by omega), pk_un (by omega), pk_un (by omega), pk_un (by omega)]
  · rw [pk_un (by omega), pk_un (by omega), pk_un (by omega), pk_un (by omega), pk_us]
  · rw [pk_un (by omega), pk_un (by omega), pk_un (by omega), pk_us]
  · rcases (show k = 0 ∨ k = 1 ∨ k = 2 by omega) with rfl | rfl | rfl
    · rw [pk_un (by omega), pk_un (by omega)]; exact pk_us
    · rw [pk_un (by omega)]; exact pk_us
    · exact pk_us
  · rw [lp_X6_go_2, show (3 : Int32) = nI 3 from rfl, if_neg (show ¬ (6 : Int32) ≤ nI 3 by decide)]
    simp only [z_cut]
    rw [ei 3 (by omega), nI_1, lp_X6_go_2, if_neg (show ¬ (6 : Int32) ≤ nI (3 + 1) by decide)]
    simp only [z_cut]
    rw [ei 4 (by omega), nI_1, lp_X6_go_2, if_neg (show ¬ (6 : Int32) ≤ nI (4 + 1) by decide)]
    simp only [z_cut]
    rw [ei 5 (by omega), nI_1, lp_X6_go_2, if_pos (show (6 : Int32) ≤ nI (5 + 1) by decide)]
/-- a glass whose holds are told -/
theorem zGl_new {K H : Nat} (hK : K ≤ 4) (h1 : 1 ≤ H) (h9 : H ≤ 9) (e1 : kd R = nI K) (e2 : sc R = 0) (e3 : rows (6 * R) = nI K) (e4 : rows (6 * R + 2) = 0) (e5 : ∀ k, k < 3 → rows (6 * R + 3 + k) = -1) : zGl kd (upd hd R (nI H)) (upd tk R (nI (zT1 K H))) sc sh (upd rows (6 * R + 1) (nI H)) R := by
  refine ⟨K, H, 0, fun _ => 9, hK, h1, h9, by omega, e1, pk_us, pk_us, e2, ?_, pk_us, ?_, fun k hk => by omega, fun k hk => ?_⟩
  · rw [pk_un (by omega)]; exact e3
  · rw [pk_un (by omega)]; exact e4
  · rw [pk_un (by omega), if_neg (by omega)]; exact e5 k hk
theorem zSh_next {v : Nat} : zSh (upd sc (R + 1) 0) sh (R + 1) v ↔ zSh sc sh R v := by
  constructor
  · rintro ⟨g, k, c, a1, a2, a3, a4, a5, a6⟩
    by_cases q : g = R + 1
    · rw [q, pk_us] at a3
      have := (nI_eq (a := 0) (b := c) (by omega) (by omega)).mp a3
      omega
    · rw [pk_un q] at a3
      exact ⟨g, k, c, by omega, a2, a3, a4, a5, a6⟩
  · rintro ⟨g, k, c, a1, a2, a3, a4, a5, a6⟩
    refine ⟨g, k, c, by omega, a2, ?_, a4, a5, a6⟩
    rw [pk_un (by omega)]
    exact a3
theorem zx_put (hR : R < 8) : m_X3_putGlass (nI (R + 1)) kd sc = (1, nI (R + 1 + 1), upd kd (R + 1) 0, upd sc (R + 1) 0) := by
  unfold m_X3_putGlass
  rw [zn9, if_pos (nI_lt (by omega) (by omega))]
  simp only [z_cut]
  rw [nI_clamp (by omega), nI_1]
theorem zx_put8 (hR : R = 8) : m_X3_putGlass (nI (R + 1)) kd sc = (0, nI (R + 1), kd, sc) := by
  unfold m_X3_putGlass
  rw [zn9, if_neg (nI_nlt (by omega) (by omega))]
end
theorem z_nch {ch n : Nat} (hc : ch ≤ 126) (hn : n ≤ 126) (q : ch ≠ n) : ¬ nI ch = nI n := fun x => q ((nI_eq (by omega) (by omega)).mp x)
theorem z_next {kd hd tk sc sh rows : Nat → Int32} {R M : Nat} (hR : R ≤ 8) (hM : M ≤ 8) (hg : ∀ g, g < R → zGl kd hd tk sc sh rows g) (hs : ∀ v, zSh sc sh R v → v < 9 → v ≤ M) (hm : M = 0 ∨ zSh sc sh R M) (hgl : zGl kd hd tk sc sh rows R) (pl st : Int32) (hst : st = 2 ∨ st = 4) : (R = 8 ∧ m_X2_readsNext pl (nI (R + 1)) kd sc 47 = (0, pl, nI (R + 1), kd, sc) ∧ m_X6_goNext (nI R) st = (0, nI R, 0)) ∨ (R < 8 ∧ m_X2_readsNext pl (nI (R + 1)) kd sc 47 = (1, 0, nI (R + 1 + 1), upd kd (R + 1) 0, upd sc (R + 1) 0) ∧ m_X6_goNext (nI R) st = (1, nI (R + 1), 0) ∧ zRd 0 (nI (R + 1 + 1)) (upd kd (R + 1) 0) hd tk (upd sc (R + 1) 0) sh (nI (R + 1)) 0 (nI M) rows) := by
  have hgo : m_X6_goNext (nI R) st = if nI 8 ≤ nI R then (0, nI R + 0, 0) else (1, nI R + 1, 0) := by
    unfold m_X6_goNext
    rcases hst with q | q
    · rw [if_pos q]; rfl
    · rw [q, if_neg (by decide), if_pos rfl]; rfl
  by_cases q : R = 8
  · refine Or.inl ⟨q, ?_, ?_⟩
    · unfold m_X2_readsNext
      rw [if_pos rfl, zx_put8 q]
      rfl
    · rw [hgo, if_pos (nI_le (by omega) (by omega)), Int32.add_zero]
  · refine Or.inr ⟨by omega, ?_, ?_, R + 1, M, by omega, rfl, rfl, rfl, hM, fun g hgR => ?_, fun v hv => hs v (zSh_next.mp hv), ?_, Or.inl ⟨rfl, rfl, pk_us, pk_us⟩⟩
    · unfold m_X2_readsNext
      rw [if_pos rfl, zx_put (by omega)]
      rfl
    · rw [hgo, if_neg (nI_ge (by omega) (by omega)), nI_1]
    · have h0 : zGl kd hd tk sc sh rows g := by
        by_cases q2 : g = R
        · rw [q2]; exact hgl
        · exact hg g (by omega)
      exact zGl_ext h0 (pk_un (by omega)) rfl rfl (pk_un (by omega)) (fun _ _ => rfl) (fun _ _ => rfl)
    · rcases hm with q2 | q2
      · exact Or.inl q2
      · exact Or.inr (zSh_next.mpr q2)
/-- one more share -/
theorem z_more {kd hd tk sc sh rows : Nat → Int32} {R M c v : Nat} (hR : R ≤ 8) (hM : M ≤ 8) (hg : ∀ g, g < R → zGl kd hd tk sc sh rows g) (hs : ∀ v, zSh sc sh R v → v < 9 → v ≤ M) (hm : M = 0 ∨ zSh sc sh R M) (hgl : zGl kd hd tk sc sh rows R) (hc : sc R = nI c) (hc3 : c < 3) (hv : v = 9 ∨ (R < v ∧ v ≤ 8)) : zRd 3 (nI (R + 1)) kd hd tk (upd sc R (nI (c + 1))) (upd sh (3 * R + c) (nI v)) (nI R) 4 (nI (if v = 9 then M else if v ≤ M then M else v)) (upd (upd rows (6 * R + 3 + c) (nI v)) (6 * R + 2) (nI (c + 1))) := by
  have hnew : zSh (upd sc R (nI (c + 1))) (upd sh (3 * R + c) (nI v)) R v := ⟨R, c, c + 1, Nat.le_refl _, by omega, pk_us, by omega, pk_us, by omega⟩
  have hold : ∀ w, zSh sc sh R w → zSh (upd sc R (nI (c + 1))) (upd sh (3 * R + c) (nI v)) R w := by
    rintro w ⟨g, k, c', a1, a2, a3, a4, a5, a6⟩
    by_cases q : g = R
    · rw [q, hc] at a3
      have e := (nI_eq (by omega) (by omega)).mp a3
      refine ⟨R, k, c + 1, Nat.le_refl _, by omega, pk_us, by omega, ?_, a6⟩
      rw [pk_un (by omega), ← q]; exact a5
    · refine ⟨g, k, c', a1, a2, ?_, a4, ?_, a6⟩
      · rw [pk_un q]; exact a3
      · rw [pk_un (by omega)]; exact a5
  have hback : ∀ w, zSh (upd sc R (nI (c + 1))) (upd sh (3 * R + c) (nI v)) R w → zSh sc sh R w ∨ w = v := by
    rintro w ⟨g, k, c', a1, a2, a3, a4, a5, a6⟩
    by_cases q : g = R
    · rw [q, pk_us] at a3
      have e := (nI_eq (by omega) (by omega)).mp a3
      by_cases qk : k = c
      · rw [q, qk, pk_us] at a5
        exact Or.inr ((nI_eq (by omega) (by omega)).mp a5).symm
      · rw [q, pk_un (by omega)] at a5
        exact Or.inl ⟨R, k, c, Nat.le_refl _, by omega, hc, by omega, a5, a6⟩
    · rw [pk_un q] at a3
      rw [pk_un (by omega)] at a5
      exact Or.inl ⟨g, k, c', a1, a2, a3, a4, a5, a6⟩
  refine ⟨R, _, hR, rfl, rfl, rfl, ?_, fun g hgR => ?_, fun w hw hw9 => ?_, ?_, Or.inr (Or.inr (Or.inr ⟨rfl, ?_, Or.inr ⟨?_, rfl⟩⟩))⟩
  · split
    · exact hM
    · split <;> omega
  · refine zGl_ext (hg g hgR) rfl rfl rfl (pk_un (by omega)) (fun k hk => pk_un (by omega)) (fun i hi => ?_)
    rw [pk_un (by omega), pk_un (by omega)]
  · rcases hback w hw with t | t
    · have := hs w t hw9
      split
      · exact this
      · split <;> omega
    · rw [if_neg (by omega)]
      split <;> omega
  · by_cases q1 : v = 9
    · rw [if_pos q1]
      rcases hm with t | t
      · exact Or.inl t
      · exact Or.inr (hold M t)
    · rw [if_neg q1]
      by_cases q2 : v ≤ M
      · rw [if_pos q2]
        rcases hm with t | t
        · exact Or.inl t
        · exact Or.inr (hold M t)
      · rw [if_neg q2]; exact Or.inr hnew
  · obtain ⟨K, H, c', s, a1, a2, a3, a4, a5, a6, a7, a8, a9, a10, a11, a12, a13⟩ := hgl
    have ec : c' = c := by
      rw [hc] at a8
      exact ((nI_eq (by omega) (by omega)).mp a8).symm
    subst ec
    refine ⟨K, H, c' + 1, fun k => if k = c' then v else s k, a1, a2, a3, by omega, a5, a6, a7, pk_us, ?_, ?_, pk_us, fun k hk => ?_, fun k hk => ?_⟩
    · rw [pk_un (by omega), pk_un (by omega)]; exact a9
    · rw [pk_un (by omega), pk_un (by omega)]; exact a10
    · show ((if k = c' then v else s k) = 9 ∨ (R < (if k = c' then v else s k) ∧ (if k = c' then v else s k) ≤ 8)) ∧ upd sh (3 * R + c') (nI v) (3 * R + k) = nI (if k = c' then v else s k)
      by_cases q : k = c'
      · rw [if_pos q, q, pk_us]; exact ⟨hv, rfl⟩
      · rw [if_neg q, pk_un (by omega)]; exact a12 k (by omega)
    · show upd (upd rows (6 * R + 3 + c') (nI v)) (6 * R + 2) (nI (c' + 1)) (6 * R + 3 + k) = if k < c' + 1 then nI (if k = c' then v else s k) else -1
      rw [pk_un (by omega)]
      by_cases q : k = c'
      · rw [q, pk_us, if_pos (by omega), if_pos rfl]
      · rw [pk_un (by omega), if_neg q, a13 k hk]
        by_cases q2 : k < c'
        · rw [if_pos q2, if_pos (by omega)]
        · rw [if_neg q2, if_neg (by omega)]
  · rw [pk_us]; exact nI_ne0 (by omega) (by omega)
