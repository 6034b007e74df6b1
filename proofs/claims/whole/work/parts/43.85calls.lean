/-! calls that change nothing but what is tried -/
section
variable {N : Nat} {K Hd C : Nat → Nat} {S : Nat → Nat → Nat} {sz : Int32} {kd hd tk sc sh : Nat → Int32} {gl : Int32} {rows : Nat → Int32} {A d : Nat → Nat} {p : Nat} {pc : Int32} {sp : Int64} {ic dc : Nat → Int64} {tc : Nat → Int32} {pm : Int32} {sm : Int64} {am dm : Nat → Int64} {tm : Nat → Int32}
theorem z_needCall (h : zTow N K Hd C S) (hc : zStC N K Hd C S sz kd hd tk sc sh) (hm : zStM N K Hd C S gl rows) (ht : zTab N (zT K Hd) A d p pc sp ic dc tc pm sm am dm tm) (p1 p2 : Int32) (s0 : Int64) (tr tkm : Nat → Int64) (ln : Nat → Int32) (wd : Nat → Int64) : (m_X5_need sz kd tk sc sh sp ic s0 tr p1 p2).1 = (m_X6_need gl rows am tkm ln wd p1 p2).1 := by
  have hN := h.1
  have hS := zTab_S ht
  unfold m_X5_need m_X6_need
  simp only [z_cut, z_cut3, z_cut4]
  rcases z_glass hN p1 with ⟨a, b⟩ | ⟨g, hg, rfl, a, b⟩
  · rw [if_pos (show m_X3_has sz p1 = 0 by rw [hc.1]; exact a), if_pos (show m_X6_isGlass gl p1 = 0 by rw [hm.1]; exact b)]
  · rw [if_neg (z10 (show m_X3_has sz (nI g) = 1 by rw [hc.1]; exact a)), if_neg (z10 (show m_X6_isGlass gl (nI g) = 1 by rw [hm.1]; exact b))]
    rcases z_glass hN p2 with ⟨a, b⟩ | ⟨g2, hg2, rfl, a, b⟩
    · rw [if_pos (show m_X3_has sz p2 = 0 by rw [hc.1]; exact a), if_pos (show m_X6_isGlass gl p2 = 0 by rw [hm.1]; exact b)]
    · rw [if_neg (z10 (show m_X3_has sz (nI g2) = 1 by rw [hc.1]; exact a)), if_neg (z10 (show m_X6_isGlass gl (nI g2) = 1 by rw [hm.1]; exact b)), z_shl (N := g) (by omega)]
      have hp := z_pow9 (N := g) (by omega)
      exact z_need h hc hm ht.2.2.2.1 ht.2.2.2.2.2.1 ht.2.2.2.2.2.2.2.2.1 hS.1 (by omega) hg2 tr tkm ln wd
theorem z_needAllCall (h : zTow N K Hd C S) (hc : zStC N K Hd C S sz kd hd tk sc sh) (hm : zStM N K Hd C S gl rows) (ht : zTab N (zT K Hd) A d p pc sp ic dc tc pm sm am dm tm) (p1 : Int32) (s0 : Int64) (tr tkm : Nat → Int64) (ln : Nat → Int32) (wd : Nat → Int64) : (m_X5_needAll sz kd tk sc sh sp ic s0 tr p1).1 = (m_X6_needAll gl rows am tkm ln wd p1).1 := by
  have hN := h.1
  have hS := zTab_S ht
  unfold m_X5_needAll m_X6_needAll
  simp only [z_cut, z_cut3, z_cut4]
  rcases z_lacks hN with ⟨a, b, c⟩ | ⟨a, b, c⟩
  · rw [if_pos (show sz = 0 by rw [hc.1]; exact b), if_neg (z10 (show m_X6_lacks gl = 1 by rw [hm.1]; exact c))]
  · rw [if_neg (show ¬ sz = 0 by rw [hc.1]; exact b), if_pos (show m_X6_lacks gl = 0 by rw [hm.1]; exact c)]
    rcases z_set hN p1 with ⟨x, y⟩ | ⟨s, hs, rfl, x, y⟩
    · rw [if_pos (show m_X3_isSet sz p1 = 0 by rw [hc.1]; exact x), if_pos (show m_X6_isIn p1.toInt64 0 ((((1 : Int32) <<< (gl &&& 31)) - 1).toInt64) = 0 by rw [hm.1]; exact y)]
    · rw [if_neg (z10 (show m_X3_isSet sz (nI s) = 1 by rw [hc.1]; exact x)), if_neg (z10 (show m_X6_isIn (nI s).toInt64 0 ((((1 : Int32) <<< (gl &&& 31)) - 1).toInt64) = 1 by rw [hm.1]; exact y)), show (0 : Int32) = nI 0 from rfl]
      have hp := z_pow9 hN
      exact z_need h hc hm ht.2.2.2.1 ht.2.2.2.2.2.1 ht.2.2.2.2.2.2.2.2.1 hS.1 (by omega) a tr tkm ln wd
theorem z_chipsCall (h : zTow N K Hd C S) (hc : zStC N K Hd C S sz kd hd tk sc sh) (hm : zStM N K Hd C S gl rows) (ht : zTab N (zT K Hd) A d p pc sp ic dc tc pm sm am dm tm) (p1 z0 : Int32) (k1 k2 k3 k4 k5 : Nat → Int32) (s0 : Int64) (tr tkm : Nat → Int64) (ln : Nat → Int32) (wd : Nat → Int64) : (m_X5_chips sz kd hd tk sc sh z0 k1 k2 k3 k4 k5 ic s0 tr p1).1 = (m_X6_chips gl rows am tkm ln wd p1).1 := by
  have hN := h.1
  have hS := zTab_S ht
  unfold m_X5_chips m_X6_chips
  simp only [z_cut, z_cut9, z_cut4]
  rcases z_lacks hN with ⟨a, b, c⟩ | ⟨a, b, c⟩
  · rw [if_pos (show sz = 0 by rw [hc.1]; exact b), if_neg (z10 (show m_X6_lacks gl = 1 by rw [hm.1]; exact c))]
  · rw [if_neg (show ¬ sz = 0 by rw [hc.1]; exact b), if_pos (show m_X6_lacks gl = 0 by rw [hm.1]; exact c)]
    rcases z_upto (M := 999) (a := 999) (b := 999) rfl rfl (by omega) p1 with ⟨h1, h2⟩ | ⟨m, hm9, rfl, h3, h4, h5, h6⟩
    · rw [if_pos h2]
      rcases h1 with q | ⟨q1, q2, q3⟩
      · rw [if_pos q]
      · rw [if_neg q1, if_neg q2]
    · rw [if_neg h3, if_pos h4, if_neg (z10 h6)]
      exact z_chips h hc hm a hm9 ht.2.2.2.1.2 ht.2.2.2.2.2.1 ht.2.2.2.2.2.2.2.2.1.2.2 (fun g hg => by have := hS.2.1 g (by omega); omega) ht.2.2.2.2.2.2.2.2.1.2.1 k1 k2 k3 k4 k5 tr tkm ln wd
theorem z_changeCall (h : zTow N K Hd C S) (hc : zStC N K Hd C S sz kd hd tk sc sh) (hm : zStM N K Hd C S gl rows) (ht : zTab N (zT K Hd) A d p pc sp ic dc tc pm sm am dm tm) {D : Nat} (hD : D ≤ 30) {cd dn : Int32} (e1 : cd = nI D) (e2 : dn = nI D) (p1 p2 z0 : Int32) (k1 k2 k3 k4 k5 : Nat → Int32) (s0 : Int64) (tr tkm : Nat → Int64) (ln : Nat → Int32) (wd : Nat → Int64) : (m_X5_change cd sz kd hd tk sc sh z0 k1 k2 k3 k4 k5 sp ic s0 tr p1 p2).1 = (m_X6_change gl dn rows am tkm ln wd p1 p2).1 ∧ ∃ D' : Nat, D' ≤ 30 ∧ (m_X5_change cd sz kd hd tk sc sh z0 k1 k2 k3 k4 k5 sp ic s0 tr p1 p2).2.1 = nI D' ∧ (m_X6_change gl dn rows am tkm ln wd p1 p2).2.1 = nI D' := by
  have hN := h.1
  have hS := zTab_S ht
  have hq : ∀ x, m_X6_isPart x = m_X6_isIn x.toInt64 0 1 := fun _ => rfl
  unfold m_X5_change m_X6_change
  simp only [z_cut, z_cut9]
  rcases z_lacks hN with ⟨a, b, c⟩ | ⟨a, b, c⟩
  · rw [if_pos (show sz = 0 by rw [hc.1]; exact b), if_neg (z10 (show m_X6_lacks gl = 1 by rw [hm.1]; exact c))]
    exact ⟨rfl, D, hD, e1, e2⟩
  · rw [if_neg (show ¬ sz = 0 by rw [hc.1]; exact b), if_pos (show m_X6_lacks gl = 0 by rw [hm.1]; exact c)]
    rcases z_from (M := 99) (a := 99) (b := 99) rfl rfl (by omega) p1 with ⟨x, y⟩ | ⟨m, m1, m2, rfl, x, y⟩
    · rw [if_pos x, if_pos y]
      exact ⟨rfl, D, hD, e1, e2⟩
    · rw [if_neg (z10 x), if_neg (z10 y)]
      rcases z_upto (M := 1) (a := 1) (b := 1) rfl rfl (by omega) p2 with ⟨h1, h2⟩ | ⟨n, hn, rfl, h3, h4, h5, h6⟩
      · rw [if_pos ((hq p2).trans h2)]
        rcases h1 with q | ⟨q1, q2, q3⟩
        · rw [if_pos q]
          exact ⟨rfl, D, hD, e1, e2⟩
        · rw [if_neg q1, if_neg q2]
          exact ⟨rfl, D, hD, e1, e2⟩
      · rw [if_neg h3, if_pos h4, if_neg (z10 ((hq (nI n)).trans h6))]
        by_cases q : D = 30
        · have c1 : ¬ cd < 30 := by rw [e1]; exact nI_nlt (b := 30) (by omega) (by omega)
          have c2 : dn = 30 := by rw [e2, q]; rfl
          rw [if_neg c1, if_pos c2]
          exact ⟨rfl, D, hD, e1, e2⟩
        · have c1 : cd < 30 := by rw [e1]; exact nI_lt (b := 30) (by omega) (by omega)
          have c2 : ¬ dn = 30 := by rw [e2]; exact fun s => q ((nI_eq (b := 30) (by omega) (by omega)).mp s)
          rw [if_pos c1, if_neg c2]
          obtain ⟨z1, z2⟩ := z_change h hc hm a ht.2.2.2.1 ht.2.2.2.2.2.1 ht.2.2.2.2.2.2.2.2.1.2.2 hS.1 m2 (nI n) (dn + 1) k1 k2 k3 k4 k5 tr tkm ln wd
          exact ⟨z1, D + 1, by omega, by rw [e1, nI_1], z2.trans (by rw [e2, nI_1])⟩
end
