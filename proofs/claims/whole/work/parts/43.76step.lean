/-! one letter; all letters -/
theorem z_ift {α : Type} {h : Decidable True} (a b : α) : @ite α True h a b = a := if_pos trivial
theorem zx_tell {sc sh : Nat → Int32} {R c : Nat} (hR : R ≤ 8) (hc : sc R = nI c) (hc3 : c ≤ 3) (x : Int32) : (c < 3 ∧ m_X3_tellShare (nI (R + 1)) sc sh x = (1, upd sc R (nI (c + 1)), upd sh (3 * R + c) x)) ∨ (c = 3 ∧ m_X3_tellShare (nI (R + 1)) sc sh x = (0, sc, sh)) := by
  have eR : (nI (R + 1) - 1).toNatClampNeg = R := by rw [nI_pred, nI_clamp (by omega)]
  have ei : ((nI (R + 1) - 1) * 3 + nI c).toNatClampNeg = 3 * R + c := by
    rw [nI_pred, zn3, pk_mul, nI_add, nI_clamp (by omega)]; omega
  unfold m_X3_tellShare m_X3_lastShareCount
  simp only [z_cut]
  rw [if_neg (nI_nle (show 0 < R + 1 by omega) (by omega)), if_neg (nI_ne0 (show 0 < R + 1 by omega) (by omega)), eR, hc, ei, nI_1]
  by_cases q : c < 3
  · rw [zn3, if_pos (nI_lt q (by omega))]
    exact Or.inl ⟨q, rfl⟩
  · rw [zn3, if_neg (nI_nlt (by omega) (by omega))]
    exact Or.inr ⟨by omega, rfl⟩
theorem zx_readsShare {sc sh : Nat → Int32} {R c ch : Nat} (hR : R ≤ 8) (hc : sc R = nI c) (hc3 : c ≤ 3) (h2 : ch ≤ 126) : (∃ v, ((v = 9 ∧ ch = 45) ∨ (R < v ∧ v ≤ 8 ∧ ch = v + 48)) ∧ c < 3 ∧ m_X2_readsShare (nI (R + 1)) sc sh (nI ch) = (1, upd sc R (nI (c + 1)), upd sh (3 * R + c) (nI v))) ∨ (¬ (c < 3 ∧ (ch = 45 ∨ (R + 48 < ch ∧ ch ≤ 56))) ∧ m_X2_readsShare (nI (R + 1)) sc sh (nI ch) = (0, sc, sh)) := by
  unfold m_X2_readsShare
  rw [show (45 : Int32) = nI 45 from rfl]
  by_cases q : ch = 45
  · rw [if_pos (by rw [q])]
    rcases zx_tell (sh := sh) hR hc hc3 9 with ⟨a, b⟩ | ⟨a, b⟩
    · rw [b]
      exact Or.inl ⟨9, Or.inl ⟨rfl, q⟩, a, rfl⟩
    · rw [b]
      exact Or.inr ⟨by omega, rfl⟩
  · rw [if_neg (z_nch h2 (by omega) q), show (48 : Int32) = nI 48 from rfl]
    simp only [z_cut]
    by_cases q1 : ch < R + 1 + 48
    · have l : nI ch - nI 48 < nI (R + 1) := by
        rw [zlt, pk_sub_toInt (by omega) (by omega), nI_toInt (by omega)]; omega
      rw [if_pos l]
      exact Or.inr ⟨by omega, rfl⟩
    · rw [pk_sub (by omega), if_neg (nI_nlt (show R + 1 ≤ ch - 48 by omega) (by omega)), zn9]
      by_cases q2 : 57 ≤ ch
      · rw [if_pos (nI_le (by omega) (by omega))]
        exact Or.inr ⟨by omega, rfl⟩
      · rw [if_neg (nI_ge (by omega) (by omega))]
        rcases zx_tell (sh := sh) hR hc hc3 (nI (ch - 48)) with ⟨a, b⟩ | ⟨a, b⟩
        · rw [b]
          exact Or.inl ⟨ch - 48, Or.inr ⟨by omega, by omega, by omega⟩, a, rfl⟩
        · rw [b]
          exact Or.inr ⟨by omega, rfl⟩
theorem zm_goShare {rows : Nat → Int32} {R M c ch : Nat} (hR : R ≤ 8) (hM : M ≤ 8) (hc : rows (6 * R + 2) = nI c) (hc3 : c ≤ 3) (h2 : ch ≤ 126) : (∃ v, ((v = 9 ∧ ch = 45) ∨ (R < v ∧ v ≤ 8 ∧ ch = v + 48)) ∧ c < 3 ∧ m_X6_goShare (nI R) (nI M) rows (nI ch) = (1, 4, nI (if v = 9 then M else if v ≤ M then M else v), upd (upd rows (6 * R + 3 + c) (nI v)) (6 * R + 2) (nI (c + 1)))) ∨ (¬ (c < 3 ∧ (ch = 45 ∨ (R + 48 < ch ∧ ch ≤ 56))) ∧ (m_X6_goShare (nI R) (nI M) rows (nI ch)).1 = 0) := by
  have i2 : (6 * nI R + 2).toNatClampNeg = 6 * R + 2 := by rw [zn6, zn2, pk_mul, nI_add, nI_clamp (by omega)]
  have i3 : (6 * nI R + 3 + nI c).toNatClampNeg = 6 * R + 3 + c := by rw [zn6, zn3, pk_mul, nI_add, nI_add, nI_clamp (by omega)]
  unfold m_X6_goShare
  simp only [z_cut]
  rw [i2, hc, i3, pk_un (show 6 * R + 2 ≠ 6 * R + 3 + c by omega), hc, nI_1]
  by_cases q3 : c < 3
  · rw [if_neg (show ¬ (3 : Int32) ≤ nI c by rw [zn3]; exact nI_ge q3 (by omega)), show (45 : Int32) = nI 45 from rfl]
    by_cases q : ch = 45
    · have c45 : nI ch = nI 45 := by rw [q]
      simp only [if_pos c45, if_pos (show (9 : Int32) = 9 from rfl), if_pos (show (9 : Int32) ≤ 9 by decide)]
      refine Or.inl ⟨9, Or.inl ⟨rfl, q⟩, q3, ?_⟩
      rw [if_pos rfl]
      rfl
    · have c45 : ¬ nI ch = nI 45 := z_nch h2 (by omega) q
      simp only [if_neg c45]
      by_cases q1 : ch < 48
      · have hT : (nI ch - 48).toInt = (ch : Int) - 48 := pk_sub_toInt (a := ch) (b := 48) (by omega) (by omega)
        have n9 : ¬ nI ch - 48 = 9 := fun x => by
          rw [x] at hT
          have : (9 : Int32).toInt = 9 := by decide
          omega
        have hI : m_X6_isIn (nI ch - 48).toInt64 (nI R + 1).toInt64 8 = 0 := z_isIn0 (Or.inl (by
          rw [Int32.toInt_toInt64, hT, Int32.toInt_toInt64, nI_1, nI_toInt (by omega)]; omega))
        rw [if_neg n9, if_pos hI]
        exact Or.inr ⟨by omega, rfl⟩
      · have e8 : nI ch - 48 = nI (ch - 48) := by rw [show (48 : Int32) = nI 48 from rfl, pk_sub (by omega)]
        rw [e8, nI_1, nI_l (show R + 1 < 2 ^ 31 by omega)]
        rcases z_isD (ch := ch - 48) (a := R + 1) (b := 8) (x := lN (R + 1)) (y := 8) rfl rfl (by omega) (by omega) (by omega) with ⟨a, b, d⟩ | ⟨a, b⟩
        · have n9 : ¬ nI (ch - 48) = 9 := by rw [zn9]; exact z_nch (by omega) (by omega) (by omega)
          have l9 : ¬ 9 ≤ nI (ch - 48) := by rw [zn9]; exact nI_ge (by omega) (by omega)
          rw [if_neg n9, if_neg (z10 a), if_neg l9]
          refine Or.inl ⟨ch - 48, Or.inr ⟨by omega, by omega, by omega⟩, q3, ?_⟩
          rw [if_neg (show ¬ ch - 48 = 9 by omega)]
          by_cases qm : ch - 48 ≤ M
          · rw [if_pos qm, if_pos (nI_le qm (by omega))]
          · rw [if_neg qm, if_neg (nI_ge (by omega) (by omega))]
        · rw [if_pos a]
          refine Or.inr ⟨by omega, ?_⟩
          split <;> rfl
  · rw [if_pos (show (3 : Int32) ≤ nI c by rw [zn3]; exact nI_le (by omega) (by omega))]
    exact Or.inr ⟨by omega, rfl⟩
theorem z_step {pl sz : Int32} {kd hd tk sc sh : Nat → Int32} {rm st mo : Int32} {rows : Nat → Int32} (h : zRd pl sz kd hd tk sc sh rm st mo rows) {ch : Nat} (h1 : 1 ≤ ch) (h2 : ch ≤ 126) : ((m_X2_goesOnWith pl sz kd hd tk sc sh (nI ch)).1 = 0 ∧ (m_X6_go rm st mo rows (nI ch)).1 = 0) ∨ ∃ (pl' sz' : Int32) (kd' hd' tk' sc' sh' : Nat → Int32) (rm' st' mo' : Int32) (rows' : Nat → Int32), m_X2_goesOnWith pl sz kd hd tk sc sh (nI ch) = (1, pl', sz', kd', hd', tk', sc', sh') ∧ m_X6_go rm st mo rows (nI ch) = (1, rm', st', mo', rows') ∧ zRd pl' sz' kd' hd' tk' sc' sh' rm' st' mo' rows' := by
  obtain ⟨R, M, hR, rfl, rfl, rfl, hM, hg, hs, hm, hp⟩ := h
  have eR : (nI (R + 1) - 1).toNatClampNeg = R := by rw [nI_pred, nI_clamp (by omega)]
  have i0 : (6 * nI R).toNatClampNeg = 6 * R := by rw [zn6, pk_mul, nI_clamp (by omega)]
  have i2 : (6 * nI R + 2).toNatClampNeg = 6 * R + 2 := by rw [zn6, zn2, pk_mul, nI_add, nI_clamp (by omega)]
  rcases hp with ⟨rfl, rfl, p1, p2⟩ | ⟨rfl, rfl, p1, p2, p3, K, k1, k2, k3, k4⟩ | ⟨rfl, rfl, p1, p2⟩ | ⟨rfl, p1, p2⟩
  · obtain ⟨q1, q2⟩ := z_kind ch (by omega)
    have hK := zKd_le ch
    unfold m_X2_goesOnWith m_X6_go m_X2_readsKind
    simp only [z_cut]
    rw [if_pos trivial, if_pos trivial, q1, q2, i0, i2]
    by_cases q : zKd ch = 0
    · have z0 : nI (zKd ch) = 0 := by rw [q]; rfl
      simp only [if_pos q, if_pos z0, z_cut3, z_ift]
      obtain ⟨rows', r1, r2, r3, r4, r5⟩ := zm_go0 (rows := rows) hR 0 (rs_X6_go_2 (-1) (nI R) (nI ch) (nI M))
      rw [r5]
      unfold rs_X6_go_2
      rw [if_pos rfl]
      rcases zx_holds (hd := hd) (tk := tk) hR (K := 0) (by omega) (p1.trans nI_0.symm) h2 0 with ⟨a, b, c⟩ | ⟨a, c⟩
      · rcases zm_holds (rows := rows') hR h2 with ⟨a', b', c'⟩ | ⟨a', x, c'⟩
        · rw [c, c']
          simp only [z_cut3, z_cut4, if_neg (show ¬ (1 : Int32) = 0 by decide)]
          refine Or.inr ⟨_, _, _, _, _, _, _, _, _, _, _, rfl, rfl, R, M, hR, rfl, rfl, rfl, hM, fun g hgR => ?_, hs, hm, Or.inr (Or.inr (Or.inl ⟨rfl, rfl, zGl_new (by omega) (by omega) (by omega) (p1.trans nI_0.symm) p2 (r2.trans nI_0.symm) r3 r4, p2⟩))⟩
          refine zGl_ext (hg g hgR) rfl (pk_un (by omega)) (pk_un (by omega)) rfl (fun _ _ => rfl) (fun i hi => ?_)
          rw [pk_un (by omega), r1 _ (by omega)]
        · exact absurd a' (by omega)
      · rcases zm_holds (rows := rows') hR h2 with ⟨a', b', c'⟩ | ⟨a', x, c'⟩
        · exact absurd a (by omega)
        · rw [c, c']
          simp only [z_cut3, z_cut4, z_ift]
          exact Or.inl ⟨by first | rfl | trivial, by first | rfl | trivial⟩
    · have z0 : ¬ nI (zKd ch) = 0 := nI_ne0 (by omega) (by omega)
      have zm : ¬ nI (zKd ch) = -1 := z_n1 (by omega)
      simp only [if_neg q, if_neg z0, if_neg zm, z_cut3, if_neg (show ¬ (1 : Int32) = 0 by decide)]
      obtain ⟨rows', r1, r2, r3, r4, r5⟩ := zm_go0 (rows := rows) hR (nI (zKd ch)) (rs_X6_go_2 (nI (zKd ch)) (nI R) (nI ch) (nI M))
      rw [r5]
      unfold rs_X6_go_2 m_X3_tellKind
      rw [if_neg zm, if_neg (nI_nle (show 0 < R + 1 by omega) (by omega)), eR]
      simp only [z_cut]
      refine Or.inr ⟨_, _, _, _, _, _, _, _, _, _, _, rfl, rfl, R, M, hR, rfl, rfl, rfl, hM, fun g hgR => ?_, hs, hm, Or.inr (Or.inl ⟨rfl, rfl, p2, r3, r4, zKd ch, by omega, hK, pk_us, r2⟩)⟩
      exact zGl_ext (hg g hgR) (pk_un (by omega)) rfl rfl rfl (fun _ _ => rfl) (fun i hi => r1 _ (by omega))
  · unfold m_X2_goesOnWith m_X6_go
    simp only [z_cut]
    rw [if_neg (show ¬ (1 : Int32) = 0 by decide), if_pos trivial, if_neg (show ¬ (1 : Int32) = 0 by decide), if_pos trivial]
    rcases zx_holds (hd := hd) (tk := tk) hR k2 k3 h2 1 with ⟨a, b, c⟩ | ⟨a, c⟩
    · rcases zm_holds (rows := rows) hR h2 with ⟨a', b', c'⟩ | ⟨a', x, c'⟩
      · rw [c, c']
        simp only [z_cut3, z_cut4]
        refine Or.inr ⟨_, _, _, _, _, _, _, _, _, _, _, rfl, rfl, R, M, hR, rfl, rfl, rfl, hM, fun g hgR => ?_, hs, hm, Or.inr (Or.inr (Or.inl ⟨rfl, rfl, zGl_new k2 (by omega) (by omega) k3 p1 k4 p2 p3, p1⟩))⟩
        refine zGl_ext (hg g hgR) rfl (pk_un (by omega)) (pk_un (by omega)) rfl (fun _ _ => rfl) (fun i hi => ?_)
        rw [pk_un (by omega)]
      · exact absurd a' (by omega)
    · rcases zm_holds (rows := rows) hR h2 with ⟨a', b', c'⟩ | ⟨a', x, c'⟩
      · exact absurd a (by omega)
      · rw [c, c']
        simp only [z_cut3, z_cut4]
        exact Or.inl ⟨by first | rfl | trivial, by first | rfl | trivial⟩
  · unfold m_X2_goesOnWith m_X6_go m_X2_readsColon
    simp only [z_cut]
    rw [if_neg (show ¬ (2 : Int32) = 0 by decide), if_neg (show ¬ (2 : Int32) = 1 by decide), if_pos trivial, if_neg (show ¬ (2 : Int32) = 0 by decide), if_neg (show ¬ (2 : Int32) = 1 by decide), if_pos trivial, show (58 : Int32) = nI 58 from rfl, show (47 : Int32) = nI 47 from rfl]
    by_cases q : ch = 58
    · have c58 : nI ch = nI 58 := by rw [q]
      have c47 : ¬ nI ch = nI 47 := z_nch h2 (by omega) (by omega)
      rw [if_pos c58, if_neg c47, if_pos c58]
      simp only [z_cut2, if_neg (show ¬ (1 : Int32) = 0 by decide)]
      exact Or.inr ⟨_, _, _, _, _, _, _, _, _, _, _, rfl, rfl, R, M, hR, rfl, rfl, rfl, hM, hg, hs, hm, Or.inr (Or.inr (Or.inr ⟨rfl, p1, Or.inl ⟨p2, rfl⟩⟩))⟩
    · have c58 : ¬ nI ch = nI 58 := z_nch h2 (by omega) q
      rw [if_neg c58]
      simp only [z_cut2, z_ift]
      by_cases q7 : ch = 47
      · rw [if_pos (show nI ch = nI 47 by rw [q7]), show nI ch = 47 by rw [q7]; rfl]
        rcases z_next hR hM hg hs hm p1 2 2 (Or.inl rfl) with ⟨a, b, c⟩ | ⟨a, b, c, d⟩
        · rw [b, c]
          simp only [z_cut3, z_cut5, z_ift]
          exact Or.inl ⟨by first | rfl | trivial, by first | rfl | trivial⟩
        · rw [b, c]
          simp only [z_cut3, z_cut5, if_neg (show ¬ (1 : Int32) = 0 by decide)]
          exact Or.inr ⟨_, _, _, _, _, _, _, _, _, _, _, rfl, rfl, d⟩
      · have c47 : ¬ nI ch = nI 47 := z_nch h2 (by omega) q7
        rw [if_neg c47, if_neg c58]
        unfold m_X2_readsNext
        rw [show (47 : Int32) = nI 47 from rfl, if_neg c47]
        simp only [z_cut5, z_ift]
        exact Or.inl ⟨by first | rfl | trivial, by first | rfl | trivial⟩
  · obtain ⟨c, hc3, hc, hcr⟩ : ∃ c, c ≤ 3 ∧ sc R = nI c ∧ rows (6 * R + 2) = nI c := by
      obtain ⟨K, H, c, s, a1, a2, a3, a4, a5, a6, a7, a8, a9, a10, a11, a12, a13⟩ := p1
      exact ⟨c, a4, a8, a11⟩
    have hst0 : ¬ st = 0 ∧ ¬ st = 1 ∧ ¬ st = 2 := by
      rcases p2 with ⟨-, q⟩ | ⟨-, q⟩ <;> rw [q] <;> decide
    unfold m_X2_goesOnWith m_X6_go
    simp only [z_cut]
    rw [if_neg (show ¬ (3 : Int32) = 0 by decide), if_neg (show ¬ (3 : Int32) = 1 by decide), if_neg (show ¬ (3 : Int32) = 2 by decide), if_neg hst0.1, if_neg hst0.2.1, if_neg hst0.2.2, show (47 : Int32) = nI 47 from rfl]
    rcases zx_readsShare (sh := sh) hR hc hc3 h2 with ⟨v, a, b, d⟩ | ⟨a, d⟩
    · have q7 : ¬ ch = 47 := by omega
      rw [d, if_neg (z_nch h2 (by omega) q7)]
      simp only [z_cut3, if_neg (show ¬ (1 : Int32) = 0 by decide)]
      rcases zm_goShare hR hM hcr hc3 h2 with ⟨v', a', b', d'⟩ | ⟨a', d'⟩
      · have ev : v' = v := by omega
        subst ev
        rw [d']
        simp only [z_cut4]
        exact Or.inr ⟨_, _, _, _, _, _, _, _, _, _, _, rfl, rfl, z_more hR hM hg hs hm p1 hc b (by omega)⟩
      · exact absurd a' (by omega)
    · rw [d]
      simp only [z_cut3, z_ift]
      unfold m_X2_mayEndGlass m_X3_lastShareCount
      simp only [z_cut, z_ift]
      rw [if_neg (show ¬ (3 : Int32) = 2 by decide), if_neg (nI_nle (show 0 < R + 1 by omega) (by omega)), eR]
      by_cases q7 : ch = 47
      · rw [if_pos (show nI ch = nI 47 by rw [q7]), show nI ch = 47 by rw [q7]; rfl]
        rcases p2 with ⟨p2, rfl⟩ | ⟨p2, rfl⟩
        · rw [p2, if_pos (show (0 : Int32) ≤ 0 by decide), if_pos rfl]
          exact Or.inl ⟨by first | rfl | trivial, by first | rfl | trivial⟩
        · have c0 : 0 < c := by
            rcases Nat.eq_zero_or_pos c with t | t
            · rw [t] at hc; exact absurd hc p2
            · exact t
          rw [hc, if_neg (nI_nle c0 (by omega)), if_neg (show ¬ (1 : Int32) = 0 by decide)]
          rcases z_next hR hM hg hs hm p1 3 4 (Or.inr rfl) with ⟨a, b, e⟩ | ⟨a, b, e, f⟩
          · rw [b, e]
            simp only [z_cut3, z_cut5, z_ift]
            exact Or.inl ⟨by first | rfl | trivial, by first | rfl | trivial⟩
          · rw [b, e]
            simp only [z_cut3, z_cut5, if_neg (show ¬ (1 : Int32) = 0 by decide)]
            exact Or.inr ⟨_, _, _, _, _, _, _, _, _, _, _, rfl, rfl, f⟩
      · have c47 : ¬ nI ch = nI 47 := z_nch h2 (by omega) q7
        rw [if_neg c47]
        rcases zm_goShare hR hM hcr hc3 h2 with ⟨v', a', b', d'⟩ | ⟨a', d'⟩
        · exact absurd a (by omega)
        · refine Or.inl ⟨?_, ?_⟩
          · unfold m_X2_readsNext
            rw [show (47 : Int32) = nI 47 from rfl, if_neg c47]
            simp only [z_cut5, z_ift]
            split <;> rfl
          · simp only [z_cut4]
            exact d'
theorem zx_pageAt {P k : Nat} (hP : P ≤ 70) (hk : k < P) (pc : Nat → Int32) : m_X1_codeAt (nI P) pc (nI k) = pc k := by
  unfold m_X1_codeAt
  rw [if_neg (nI_pos (by omega)), if_neg (nI_ge hk (by omega)), nI_clamp (by omega)]
theorem z_faultLoop {P : Nat} {pc pg : Nat → Int32} (hP : P ≤ 70) (hp : ∀ j, j < P → ∃ ch : Nat, 1 ≤ ch ∧ ch ≤ 126 ∧ pc j = nI ch ∧ pg j = nI ch) : ∀ (r k fuel : Nat) (pl sz : Int32) (kd hd tk sc sh : Nat → Int32) (rm st mo : Int32) (rows : Nat → Int32), k + r = P → r < fuel → zRd pl sz kd hd tk sc sh rm st mo rows → (∃ i, i < P ∧ (lp_X5_fault_2 (nI P) (rs_X5_fault_2 (nI P)) pc fuel (nI k) pl sz kd hd tk sc sh).1 = nI i ∧ (lp_X6_faultOf_2 (nI P) rs_X6_faultOf_2 pg fuel (nI k) rm st mo rows).1 = nI i) ∨ ∃ (pl' sz' : Int32) (kd' hd' tk' sc' sh' : Nat → Int32) (rm' st' mo' : Int32) (rows' : Nat → Int32), lp_X5_fault_2 (nI P) (rs_X5_fault_2 (nI P)) pc fuel (nI k) pl sz kd hd tk sc sh = (nI P, pl', sz', kd', hd', tk', sc', sh') ∧ lp_X6_faultOf_2 (nI P) rs_X6_faultOf_2 pg fuel (nI k) rm st mo rows = (nI P, rm', st', mo', rows') ∧ zRd pl' sz' kd' hd' tk' sc' sh' rm' st' mo' rows' := by
  intro r
  induction r with
  | zero =>
    intro k fuel pl sz kd hd tk sc sh rm st mo rows e1 e2 h
    obtain ⟨f, rfl⟩ : ∃ f, fuel = f + 1 := ⟨fuel - 1, by omega⟩
    have ek : k = P := by omega
    subst ek
    rw [lp_X5_fault_2, lp_X6_faultOf_2, if_pos (nI_le (Nat.le_refl _) (by omega)), if_pos (nI_le (Nat.le_refl _) (by omega))]
    exact Or.inr ⟨_, _, _, _, _, _, _, _, _, _, _, rfl, rfl, h⟩
  | succ r ih =>
    intro k fuel pl sz kd hd tk sc sh rm st mo rows e1 e2 h
    obtain ⟨f, rfl⟩ : ∃ f, fuel = f + 1 := ⟨fuel - 1, by omega⟩
    obtain ⟨ch, c1, c2, c3, c4⟩ := hp k (by omega)
    rw [lp_X5_fault_2, lp_X6_faultOf_2, if_neg (nI_ge (show k < P by omega) (by omega)), if_neg (nI_ge (show k < P by omega) (by omega))]
    simp only [z_cut]
    rw [zx_pageAt hP (by omega), c3, nI_clamp (show k < 2 ^ 31 by omega), c4]
    rcases z_step h c1 c2 with ⟨a, b⟩ | ⟨pl', sz', kd', hd', tk', sc', sh', rm', st', mo', rows', a, b, c⟩
    · simp only [z_cut8, z_cut5]
      rw [if_pos a, if_pos b]
      exact Or.inl ⟨k, by omega, rfl, rfl⟩
    · rw [a, b]
      simp only [z_cut8, z_cut5, if_neg (show ¬ (1 : Int32) = 0 by decide)]
      rw [nI_1]
      exact ih (k + 1) f _ _ _ _ _ _ _ _ _ _ _ (by omega) (by omega) c
theorem z_fault {ps : Int32} {pc : Nat → Int32} {pm : Int32} {pg : Nat → Int32} {P : Nat} (hP : P ≤ 70) (e1 : ps = nI P) (e2 : pm = nI P) (hp : ∀ j, j < P → ∃ ch : Nat, 1 ≤ ch ∧ ch ≤ 126 ∧ pc j = nI ch ∧ pg j = nI ch) (kd hd tk sc sh rows : Nat → Int32) : (∃ i, i < P ∧ (m_X5_fault ps pc kd hd tk sc sh).1 = nI i ∧ (m_X6_faultOf pm pg rows).1 = nI i) ∨ ∃ (pl' sz' : Int32) (kd' hd' tk' sc' sh' : Nat → Int32) (rm' st' mo' : Int32) (rows' : Nat → Int32), m_X5_fault ps pc kd hd tk sc sh = (nI P, pl', sz', kd', hd', tk', sc', sh') ∧ m_X6_faultOf pm pg rows = (nI P, rm', st', mo', rows') ∧ zRd pl' sz' kd' hd' tk' sc' sh' rm' st' mo' rows' := by
  subst e1 e2
  have hst : m_X2_start kd sc = (0, nI 1, upd kd 0 0, upd sc 0 0) := rfl
  unfold m_X5_fault m_X6_faultOf
  rw [hst]
  simp only [z_cut4]
  have hno : ∀ v, ¬ zSh (upd sc 0 0) sh 0 v := by
    rintro v ⟨g, k, c, a1, a2, a3, a4, a5, a6⟩
    have hg0 : g = 0 := by omega
    rw [hg0, pk_us] at a3
    have := (nI_eq (a := 0) (b := c) (by omega) (by omega)).mp a3
    omega
  exact z_faultLoop hP hp P 0 72 0 (nI 1) _ hd tk _ sh 0 0 0 rows (by omega) (by omega) ⟨0, 0, by omega, rfl, rfl, rfl, by omega, fun g hg => by omega, fun v hv => absurd hv (hno v), Or.inl rfl, Or.inl ⟨rfl, rfl, pk_us, pk_us⟩⟩
