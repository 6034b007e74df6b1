/-! the table in bounds; the small calls, class and reference alike -/
theorem z_cut {α β : Type} (x : α) (f : α → β) : cut x f = f x := (Eq.refl (f x)).trans (Eq.refl (f x))
theorem z10 {x : Int32} (h : x = 1) : ¬ x = 0 := by subst h; decide
theorem zTab_S {N : Nat} {T A d : Nat → Nat} {p : Nat} {pc : Int32} {sc : Int64} {ic dc : Nat → Int64} {tc : Nat → Int32} {pm : Int32} {sm : Int64} {am dm : Nat → Int64} {tm : Nat → Int32} (h : zTab N T A d p pc sc ic dc tc pm sm am dm tm) : zS10 A < 2 ^ 46 ∧ (∀ g, g < 10 → A g < 2 ^ 46) ∧ ∀ g, g < 9 → d g < 2 ^ 43 := by
  obtain ⟨h1, -, -, -, -, -, -, -, -, h10⟩ := h
  have h2 : p * zM ≤ 9999 * zM := Nat.mul_le_mul_right _ h1
  have h3 : 9999 * zM < 2 ^ 46 := by decide
  refine ⟨by omega, fun g hg => ?_, fun g hg => ?_⟩
  · have := zS10_le (A := A) hg
    omega
  · have h4 : d g ≤ zSum9 d := by
      rcases (show g = 0 ∨ g = 1 ∨ g = 2 ∨ g = 3 ∨ g = 4 ∨ g = 5 ∨ g = 6 ∨ g = 7 ∨ g = 8 by omega) with q | q | q | q | q | q | q | q | q <;> subst q <;> simp [zSum9] <;> omega
    omega
theorem zTab_in {N : Nat} {T A d : Nat → Nat} {p : Nat} {pc : Int32} {sc : Int64} {ic dc : Nat → Int64} {tc : Nat → Int32} {pm : Int32} {sm : Int64} {am dm : Nat → Int64} {tm : Nat → Int32} (h : zTab N T A d p pc sc ic dc tc pm sm am dm tm) : ∀ g, g < 9 → ic g = lN (12 * (A g / 12)) ∧ am g = lN (A g / 12) ∧ A g / 12 < 2 ^ 43 := by
  intro g hg
  have hS := (zTab_S h).2.1 g (by omega)
  obtain ⟨-, -, -, h4, -, h6, -, -, h9, -⟩ := h
  have h12 := zDv12 h9.2.2 (j := g) (by omega)
  refine ⟨?_, h6 g hg, by omega⟩
  rw [h4.2 g hg, show 12 * (A g / 12) = A g by omega]
theorem zTab_dr {N : Nat} {T A d : Nat → Nat} {p : Nat} {pc : Int32} {sc : Int64} {ic dc : Nat → Int64} {tc : Nat → Int32} {pm : Int32} {sm : Int64} {am dm : Nat → Int64} {tm : Nat → Int32} (h : zTab N T A d p pc sc ic dc tc pm sm am dm tm) : ∀ g, g < 9 → dc g = lN (12 * d g) ∧ dm g = lN (d g) ∧ d g < 2 ^ 43 := by
  intro g hg
  have hS := (zTab_S h).2.2 g hg
  obtain ⟨-, -, -, -, -, -, h7, -⟩ := h
  exact ⟨(h7 g hg).1, (h7 g hg).2, hS⟩
theorem z_in {N : Nat} (hN : N ≤ 9) {ic am : Nat → Int64} {u : Nat → Nat} (h : ∀ g, g < 9 → ic g = lN (12 * u g) ∧ am g = lN (u g) ∧ u g < 2 ^ 43) (p1 p2 : Int32) : m_X5_in (nI N) ic p1 p2 = m_X6_in (nI N) am p1 p2 := by
  unfold m_X5_in m_X6_in
  simp only [cut]
  rcases z_glass hN p1 with ⟨a, b⟩ | ⟨g, hg, rfl, a, b⟩
  · rw [if_pos a, if_pos b]
  · rw [if_neg (z10 a), if_neg (z10 b)]
    rcases z_part p2 with ⟨a, b⟩ | ⟨-, a, b⟩
    · rw [if_pos a, if_pos b]
    · obtain ⟨e1, e2, e3⟩ := h g (by omega)
      rw [if_neg (z10 a), if_neg (z10 b), nI_clamp (by omega), e1, e2]
      exact z_term e3 p2
theorem z_drunk {N : Nat} (hN : N ≤ 9) {ic am : Nat → Int64} {u : Nat → Nat} (h : ∀ g, g < 9 → ic g = lN (12 * u g) ∧ am g = lN (u g) ∧ u g < 2 ^ 43) (p1 p2 : Int32) : m_X5_drunk (nI N) ic p1 p2 = m_X6_drunk (nI N) am p1 p2 := by
  unfold m_X5_drunk m_X6_drunk
  simp only [cut]
  rcases z_glass hN p1 with ⟨a, b⟩ | ⟨g, hg, rfl, a, b⟩
  · rw [if_pos a, if_pos b]
  · rw [if_neg (z10 a), if_neg (z10 b)]
    rcases z_part p2 with ⟨a, b⟩ | ⟨-, a, b⟩
    · rw [if_pos a, if_pos b]
    · obtain ⟨e1, e2, e3⟩ := h g (by omega)
      rw [if_neg (z10 a), if_neg (z10 b), nI_clamp (by omega), e1, e2]
      exact z_term e3 p2
theorem z_allOf {N : Nat} {T A d : Nat → Nat} {p : Nat} {pc : Int32} {sc : Int64} {ic dc : Nat → Int64} {tc : Nat → Int32} {pm : Int32} {sm : Int64} {am dm : Nat → Int64} {tm : Nat → Int32} (hN : N ≤ 9) (h : zTab N T A d p pc sc ic dc tc pm sm am dm tm) (q : Int32) : m_X5_partOf sc q = m_X6_term sm q ∧ m_X5_partOf (m_X0_together ic) q = m_X6_term (m_X6_together (nI N) am) q := by
  have hS := zTab_S h
  obtain ⟨-, -, -, h4, h5, h6, -, -, h9, -⟩ := h
  have h12 := zDv9 h9.2.2
  have h9b := hS.2.1 9 (by omega)
  refine ⟨?_, ?_⟩
  · rw [h4.1, h5, show A 9 = 12 * (A 9 / 12) by omega, z_term (by omega), show 12 * (A 9 / 12) / 12 = A 9 / 12 by omega]
  · have e1 := zSum9_12 (A := A) (fun j hj => zDv12 h9.2.2 (by omega))
    have e2 := zm_together hN (A := fun j => A j / 12) (am := am) (fun g hg => h6 g hg) (fun g a b => by rw [h9.2.1 g a b])
    have e3 : zSum9 A ≤ zS10 A := by unfold zS10; omega
    rw [zx_together h4.2, e2, e1]
    exact z_term (by omega) q
theorem z_all {N : Nat} {T A d : Nat → Nat} {p : Nat} {pc : Int32} {sc : Int64} {ic dc : Nat → Int64} {tc : Nat → Int32} {pm : Int32} {sm : Int64} {am dm : Nat → Int64} {tm : Nat → Int32} (hN : N ≤ 9) (h : zTab N T A d p pc sc ic dc tc pm sm am dm tm) (p1 p2 : Int32) : m_X5_all sc ic p1 p2 = m_X6_all (nI N) sm am p1 p2 := by
  have hh := z_allOf hN h p2
  have hq : ∀ x, m_X6_isPart x = m_X6_isIn x.toInt64 0 1 := fun _ => rfl
  unfold m_X5_all m_X6_all
  simp only [z_cut]
  rcases z_upto (M := 1) (a := 1) (b := 1) rfl rfl (by omega) p1 with ⟨h1, h2⟩ | ⟨m, hm, rfl, h3, h4, h5, h6⟩
  · rw [if_pos ((hq p1).trans h2)]
    rcases h1 with q | ⟨q1, q2, q3⟩
    · rw [if_pos q]
    · rw [if_neg q1, if_pos q3]
  · rw [if_neg h3, if_neg h5, if_neg (z10 ((hq (nI m)).trans h6))]
    rcases z_part p2 with ⟨a, b⟩ | ⟨-, a, b⟩
    · rw [if_pos a, if_pos b]
    · rw [if_neg (z10 a), if_neg (z10 b)]
      by_cases q : nI m = 0
      · rw [if_pos q, if_pos q]; exact hh.1
      · rw [if_neg q, if_neg q]; exact hh.2
theorem z_share {N : Nat} {K Hd C : Nat → Nat} {S : Nat → Nat → Nat} {sz : Int32} {kd hd tk sc sh : Nat → Int32} {gl : Int32} {rows : Nat → Int32} (h : zTow N K Hd C S) (hc : zStC N K Hd C S sz kd hd tk sc sh) (hm : zStM N K Hd C S gl rows) {g k : Nat} (hg : g < N) (hk : k < 3) : m_X3_shareOf sz sc sh (nI g) (nI k) = rows (6 * g + 3 + k) := by
  have hN := h.1
  obtain ⟨-, -, -, k4, -⟩ := h.2 g hg
  obtain ⟨-, -, -, e4, e5⟩ := hc.2 g hg
  obtain ⟨-, -, -, f4⟩ := hm.2 g hg
  unfold m_X3_shareOf
  simp only [cut]
  rw [hc.1, if_neg (z10 (zx_has hN hg)), if_neg (nI_pos (by omega)), nI_clamp (by omega), e4, f4 k hk]
  have ei : (nI g * 3 + nI k).toNatClampNeg = 3 * g + k := by
    rw [zn3, pk_mul, nI_add, nI_clamp (by omega)]; omega
  by_cases q : k < C g
  · rw [if_pos (nI_lt q (by omega)), if_pos q, ei, e5 k q]
  · rw [if_neg (nI_nlt (by omega) (by omega)), if_neg q]
theorem z_tell {N : Nat} {K Hd C : Nat → Nat} {S : Nat → Nat → Nat} {sz : Int32} {kd hd tk sc sh : Nat → Int32} {gl : Int32} {rows : Nat → Int32} (h : zTow N K Hd C S) (hc : zStC N K Hd C S sz kd hd tk sc sh) (hm : zStM N K Hd C S gl rows) {A : Nat → Nat} {ic am : Nat → Int64} {tc tm : Nat → Int32} (hf : ∀ g, g < 9 → ic g = lN (A g)) (hf2 : zFm A am) (hd' : zDv A) (hB : ∀ g, g < 9 → A g < 2 ^ 62) (ht : ∀ g, g < 9 → tc g = tm g) {g : Nat} (hg : g < N) (p2 : Int32) : m_X5_about sz kd hd tk sc sh ic tc (nI g) p2 = m_X6_tellGlass rows tm am (nI g) p2 := by
  have hN := h.1
  obtain ⟨e1, e2, e3, e4, -⟩ := hc.2 g hg
  obtain ⟨f1, f2, f3, -⟩ := hm.2 g hg
  have i0 : (6 * nI g).toNatClampNeg = 6 * g := by rw [zn6, pk_mul, nI_clamp (by omega)]
  have i1 : (6 * nI g + 1).toNatClampNeg = 6 * g + 1 := by rw [zn6, pk_mul, nI_1, nI_clamp (by omega)]
  have i3 : (6 * nI g + 3 - 1).toNatClampNeg = 6 * g + 2 := by rw [zn6, zn3, zn1, pk_mul, nI_add, pk_sub (by omega), nI_clamp (by omega)]; omega
  have i4 : (6 * nI g + 4 - 1).toNatClampNeg = 6 * g + 3 + 0 := by rw [zn6, zn4, zn1, pk_mul, nI_add, pk_sub (by omega), nI_clamp (by omega)]; omega
  have i5 : (6 * nI g + 5 - 1).toNatClampNeg = 6 * g + 3 + 1 := by rw [zn6, show (5 : Int32) = nI 5 from rfl, zn1, pk_mul, nI_add, pk_sub (by omega), nI_clamp (by omega)]; omega
  have i6 : (6 * nI g + 6 - 1).toNatClampNeg = 6 * g + 3 + 2 := by rw [zn6, zn1, pk_mul, nI_add, pk_sub (by omega), nI_clamp (by omega)]; omega
  unfold m_X5_about m_X6_tellGlass
  simp only [cut]
  rw [if_neg (z10 (show m_X3_has sz (nI g) = 1 by rw [hc.1]; exact zx_has hN hg)), nI_clamp (by omega), i0, i1]
  by_cases q0 : p2 = 0
  · rw [if_pos q0, if_pos q0, e1, f1]
  rw [if_neg q0, if_neg q0]
  by_cases q1 : p2 = 1
  · rw [if_pos q1, if_pos q1, e2, f2]
  rw [if_neg q1, if_neg q1]
  by_cases q2 : p2 = 2
  · rw [if_pos q2, if_pos q2, e3, zm_takesOf h hm hg]
  rw [if_neg q2, if_neg q2]
  by_cases q3 : p2 = 3
  · subst q3; rw [if_pos rfl, if_pos rfl, e4, i3, f3]
  rw [if_neg q3, if_neg q3]
  by_cases q4 : p2 = 4
  · subst q4; rw [if_pos rfl, if_pos rfl, i4, show (4 : Int32) - 4 = nI 0 from rfl]; exact z_share h hc hm hg (by omega)
  rw [if_neg q4, if_neg q4]
  by_cases q5 : p2 = 5
  · subst q5; rw [if_pos rfl, if_pos rfl, i5, show (5 : Int32) - 4 = nI 1 from rfl]; exact z_share h hc hm hg (by omega)
  rw [if_neg q5, if_neg q5]
  by_cases q6 : p2 = 6
  · subst q6; rw [if_pos rfl, if_pos rfl, i6, show (6 : Int32) - 4 = nI 2 from rfl]; exact z_share h hc hm hg (by omega)
  rw [if_neg q6, if_neg q6]
  by_cases q7 : p2 = 7
  · rw [if_pos q7, if_pos q7, ht g (by omega)]
  rw [if_neg q7, if_neg q7]
  by_cases q8 : p2 = 8
  · rw [if_pos q8, if_pos q8, zx_isFull (zx_std h hc) hf hB hg, zm_isFull h hm hf2 hd' hB hg]
  rw [if_neg q8, if_neg q8]
theorem z_about {N : Nat} {K Hd C : Nat → Nat} {S : Nat → Nat → Nat} {sz : Int32} {kd hd tk sc sh : Nat → Int32} {gl : Int32} {rows : Nat → Int32} (h : zTow N K Hd C S) (hc : zStC N K Hd C S sz kd hd tk sc sh) (hm : zStM N K Hd C S gl rows) {A : Nat → Nat} {ic am : Nat → Int64} {tc tm : Nat → Int32} (hf : ∀ g, g < 9 → ic g = lN (A g)) (hf2 : zFm A am) (hd' : zDv A) (hB : ∀ g, g < 9 → A g < 2 ^ 62) (ht : ∀ g, g < 9 → tc g = tm g) (p1 p2 : Int32) : m_X5_about sz kd hd tk sc sh ic tc p1 p2 = m_X6_about gl rows tm am p1 p2 := by
  rcases z_glass h.1 p1 with ⟨a, b⟩ | ⟨g, hg, rfl, a, b⟩
  · unfold m_X5_about m_X6_about
    simp only [cut]
    rw [hc.1, hm.1, if_pos a, if_pos b]
  · rw [z_tell h hc hm hf hf2 hd' hB ht hg p2]
    unfold m_X6_about
    simp only [cut]
    rw [hm.1, if_neg (z10 b)]
theorem z_as {N : Nat} {K Hd C : Nat → Nat} {S : Nat → Nat → Nat} {sz : Int32} {kd hd tk sc sh : Nat → Int32} {gl : Int32} {rows : Nat → Int32} (h : zTow N K Hd C S) (hc : zStC N K Hd C S sz kd hd tk sc sh) (hm : zStM N K Hd C S gl rows) (p1 p2 : Int32) : m_X5_as sz kd p1 p2 = m_X6_as gl rows p1 p2 := by
  have hN := h.1
  unfold m_X5_as m_X6_as
  simp only [cut]
  rw [hc.1, hm.1]
  rcases z_glass hN p1 with ⟨a, b⟩ | ⟨g, hg, rfl, a, b⟩
  · rw [if_pos a, if_pos b]
  · rw [if_neg (z10 a), if_neg (z10 b)]
    rcases z_upto (M := 4) (a := 4) (b := 4) rfl rfl (by omega) p2 with ⟨h1, h2⟩ | ⟨m, hm4, rfl, h3, h4, h5, h6⟩
    · rw [if_pos h2]
      rcases h1 with q | ⟨q1, q2, q3⟩
      · rw [if_pos q]
      · rw [if_neg q1, if_neg q2]
    · have i0 : (6 * nI g).toNatClampNeg = 6 * g := by rw [zn6, pk_mul, nI_clamp (by omega)]
      have hk : m_X3_isOfKind (nI N) kd (nI g) (nI m) = if nI m = 0 then 1 else if nI m = nI (K g) then 1 else if nI m = 2 then if nI (K g) = 4 then 1 else 0 else 0 := by
        unfold m_X3_isOfKind
        simp only [z_cut]
        rw [if_neg (z10 a), nI_clamp (by omega), (hc.2 g hg).1]
      rw [if_neg h3, if_pos h4, if_neg (z10 h6), hk, i0, (hm.2 g hg).1]
theorem z_turnOf {N : Nat} {K Hd C : Nat → Nat} {S : Nat → Nat → Nat} {sz : Int32} {kd hd tk sc sh : Nat → Int32} {gl : Int32} {rows : Nat → Int32} (h : zTow N K Hd C S) (hc : zStC N K Hd C S sz kd hd tk sc sh) (hm : zStM N K Hd C S gl rows) {tc tm : Nat → Int32} (ht : ∀ g, g < 9 → tc g = tm g) (p1 p2 : Int32) : (m_X5_turn sz kd tc p1 p2).1 = (m_X6_turn gl rows tm p1 p2).1 ∧ ∀ g, g < 9 → (m_X5_turn sz kd tc p1 p2).2 g = (m_X6_turn gl rows tm p1 p2).2 g := by
  have hN := h.1
  unfold m_X5_turn m_X6_turn
  simp only [cut]
  rw [hc.1, hm.1]
  rcases z_glass hN p1 with ⟨a, b⟩ | ⟨g, hg, rfl, a, b⟩
  · rw [if_pos a, if_pos b]
    exact ⟨rfl, ht⟩
  · rw [if_neg (z10 a), if_neg (z10 b)]
    rcases z_upto (M := 9) (a := 9) (b := 9) rfl rfl (by omega) p2 with ⟨h1, h2⟩ | ⟨m, hm9, rfl, h3, h4, h5, h6⟩
    · rw [if_pos h2]
      rcases h1 with q | ⟨q1, q2, q3⟩
      · rw [if_pos q]; exact ⟨rfl, ht⟩
      · rw [if_neg q1, if_neg q2]; exact ⟨rfl, ht⟩
    · have i0 : (6 * nI g).toNatClampNeg = 6 * g := by rw [zn6, pk_mul, nI_clamp (by omega)]
      rw [if_neg h3, if_pos h4, if_neg (z10 h6), nI_clamp (by omega), i0, (hc.2 g hg).1, (hm.2 g hg).1]
      have hu : ∀ j, j < 9 → upd tc g (nI m) j = upd tm g (nI m) j := fun j hj => by
        by_cases q : j = g
        · rw [q, pk_us, pk_us]
        · rw [pk_un q, pk_un q]; exact ht j hj
      by_cases q4 : nI (K g) = 4
      · rw [if_pos q4, if_pos q4]
        by_cases q0 : m = 0
        · subst q0
          rw [if_pos nI_0, if_pos (show nI 0 ≤ 0 by decide)]
          exact ⟨ht g (by omega), hu⟩
        · rw [if_neg (nI_ne0 (by omega) (by omega)), if_neg (nI_nle (by omega) (by omega))]
          exact ⟨rfl, ht⟩
      · rw [if_neg q4, if_neg q4]
        exact ⟨ht g (by omega), hu⟩
theorem z_count {N : Nat} {K Hd C : Nat → Nat} {S : Nat → Nat → Nat} {sz : Int32} {kd hd tk sc sh : Nat → Int32} {gl : Int32} {rows : Nat → Int32} (h : zTow N K Hd C S) (hc : zStC N K Hd C S sz kd hd tk sc sh) (hm : zStM N K Hd C S gl rows) {A : Nat → Nat} {ic am : Nat → Int64} (hf : ∀ g, g < 9 → ic g = lN (A g)) (hf2 : zFm A am) (hd' : zDv A) (hB : ∀ g, g < 9 → A g < 2 ^ 62) (rd dn ps pd q : Int32) : m_X5_count rd dn ps sz tk pd ic q = m_X6_countOf ps gl rd pd dn rows am q := by
  unfold m_X5_count m_X6_countOf
  simp only [cut]
  rw [z_fullMany h hc hm hf hf2 hd' hB, hc.1, hm.1]
