/-! pouring, drinking, emptying, keeping: the table of the class beside that of the reference -/
theorem zTab_ext {N : Nat} {T A d : Nat → Nat} {p : Nat} {pc : Int32} {sp : Int64} {ic dc : Nat → Int64} {tc : Nat → Int32} {pm : Int32} {sm : Int64} {am dm : Nat → Int64} {tm : Nat → Int32} {ic' dc' : Nat → Int64} {tc' : Nat → Int32} {am' dm' : Nat → Int64} {tm' : Nat → Int32} (h : zTab N T A d p pc sp ic dc tc pm sm am dm tm) (h1 : ∀ j, j < 9 → ic' j = ic j) (h2 : ∀ j, j < 9 → dc' j = dc j) (h3 : ∀ j, j < 9 → tc' j = tc j) (h4 : ∀ j, j < 9 → am' j = am j) (h5 : ∀ j, j < 9 → dm' j = dm j) (h6 : ∀ j, j < 9 → tm' j = tm j) : zTab N T A d p pc sp ic' dc' tc' pm sm am' dm' tm' := by
  obtain ⟨t1, t2, t3, t4, t5, t6, t7, t8, t9, t10⟩ := h
  refine ⟨t1, t2, t3, ⟨t4.1, fun g hg => ?_⟩, t5, fun g hg => ?_, fun g hg => ⟨?_, ?_⟩, fun g hg => ?_, t9, t10⟩
  · rw [h1 g hg]; exact t4.2 g hg
  · rw [h4 g hg]; exact t6 g hg
  · rw [h2 g hg]; exact (t7 g hg).1
  · rw [h5 g hg]; exact (t7 g hg).2
  · rw [h3 g hg, h6 g hg]; exact t8 g hg
theorem z_pourIn {N : Nat} {K Hd C : Nat → Nat} {S : Nat → Nat → Nat} {sz : Int32} {kd hd tk sc sh : Nat → Int32} {gl : Int32} {rows : Nat → Int32} (h : zTow N K Hd C S) (hc : zStC N K Hd C S sz kd hd tk sc sh) (hm : zStM N K Hd C S gl rows) {A d : Nat → Nat} {p : Nat} {pc : Int32} {sp : Int64} {ic dc : Nat → Int64} {tc : Nat → Int32} {pm : Int32} {sm : Int64} {am dm : Nat → Int64} {tm : Nat → Int32} (ht : zTab N (zT K Hd) A d p pc sp ic dc tc pm sm am dm tm) {g m : Nat} (hg : g < N) (hm9 : m ≤ 99) (hp : p + m ≤ 9999) (tkm : Nat → Int64) (ln : Nat → Int32) : ∃ A' : Nat → Nat, zTab N (zT K Hd) A' d (p + m) (m_X4_addTo pc sp ic sz kd tk sc sh (nI g) (nI m)).1 (m_X4_addTo pc sp ic sz kd tk sc sh (nI g) (nI m)).2.1 (m_X4_addTo pc sp ic sz kd tk sc sh (nI g) (nI m)).2.2 dc tc (m_X6_pourInto gl pm sm rows am tkm ln (nI g) (nI m)).1 (m_X6_pourInto gl pm sm rows am tkm ln (nI g) (nI m)).2.1 (m_X6_pourInto gl pm sm rows am tkm ln (nI g) (nI m)).2.2.1 dm tm := by
  have hN := h.1
  have hS := zTab_S ht
  obtain ⟨t1, t2, t3, t4, t5, t6, t7, t8, t9, t10⟩ := ht
  have hok := (zx_std h hc).ok
  have hmz : m * zM ≤ 99 * zM := Nat.mul_le_mul_right _ hm9
  have hmz2 : 99 * zM < 2 ^ 40 := by decide
  have hx := zx_add (zx_std h hc) hg (show m < 2 ^ 20 by omega) t9.2.2 (by omega) t4
  have hdp : zDv (zPo A g m) := zPo_dv t9.2.2
  have hsum : zS10 (zPo A g m) = zS10 A + m * zM := zPo_sum (by omega)
  have hr := zm_run (zm_lay h hm tkm ln) hdp (by omega) (zFm_po (m := m) t9.2.2 (show g < 9 by omega) t6)
  have hdr := zRn_dv hok (T := fun g => zT K Hd g * zM) (fun g => zM_dvd _) N 0 _ (by omega) hdp
  refine ⟨zRn (fun g => zT K Hd g * zM) (zE (zL K) C S) N 0 (zPo A g m), ?_⟩
  unfold m_X4_addTo m_X6_pourInto
  simp only [cut, cut2]
  rw [nI_clamp (show g < 2 ^ 31 by omega), nI_l (show m < 2 ^ 31 by omega), zWl, lN_mul, Nat.mul_comm zW m]
  refine ⟨hp, by rw [t2, nI_add], by rw [t3, nI_add], hx, ?_, hr.2, t7, t8, ⟨fun j hj => ?_, fun j h1 h2 => ?_, hdr⟩, ?_⟩
  · have d1 := zDv9 t9.2.2
    have d2 := zDv9 hdr
    have d3 := zRn_9 (N := N) (T := fun g => zT K Hd g * zM) (E := zE (zL K) C S) N 0 (zPo A g m) hN (by omega)
    have e9 : zPo A g m 9 = A 9 := by unfold zPo; rw [if_neg (by omega)]; rfl
    rw [hr.1, t5, lN_add]
    rw [e9] at d3 ⊢
    congr 1
    omega
  · exact zRn_le hok (T := fun g => zT K Hd g * zM) N 0 _ (by omega) j (by omega) (by omega)
  · rw [zRn_out hok N 0 _ (by omega) j h1 h2]
    unfold zPo
    rw [if_neg (by omega), t9.2.1 j h1 h2]
  · rw [zRn_sum hok (T := fun g => zT K Hd g * zM) (fun g => zM_dvd _) N 0 _ (by omega) hdp, hsum, Nat.add_mul]
    omega
theorem z_drinkIn {N : Nat} {T A d : Nat → Nat} {p : Nat} {pc : Int32} {sp : Int64} {ic dc : Nat → Int64} {tc : Nat → Int32} {pm : Int32} {sm : Int64} {am dm : Nat → Int64} {tm : Nat → Int32} (ht : zTab N T A d p pc sp ic dc tc pm sm am dm tm) {g : Nat} (hg : g < 9) : (m_X4_drinkFrom ic dc (nI g)).1 = lN (A g) ∧ (m_X6_emptyOne am dm (nI g)).1 = (if A g = 0 then 0 else 1) ∧ zTab N T (fun j => if j = g then 0 else A j) (fun j => if j = g then d g + A g / 12 else d j) p pc sp (m_X4_drinkFrom ic dc (nI g)).2.1 (m_X4_drinkFrom ic dc (nI g)).2.2 tc pm sm (m_X6_emptyOne am dm (nI g)).2.1 (m_X6_emptyOne am dm (nI g)).2.2 tm := by
  have hS := zTab_S ht
  have hI := zTab_in ht g hg
  obtain ⟨t1, t2, t3, t4, t5, t6, t7, t8, t9, t10⟩ := ht
  have d12 := zDv12 t9.2.2 (j := g) (by omega)
  have hAb := hS.2.1 g (by omega)
  have l0 : ¬ nI g < 0 := nI_pos (by omega)
  have l9 : nI g < 9 := by rw [zn9]; exact nI_lt hg (by omega)
  unfold m_X4_drinkFrom m_X0_takeOut m_X6_emptyOne
  simp only [cut, cut2, if_neg l0, if_pos l9, nI_clamp (show g < 2 ^ 31 by omega)]
  refine ⟨t4.2 g hg, ?_, t1, t2, t3, ⟨?_, fun j hj => ?_⟩, ?_, fun j hj => ?_, fun j hj => ?_, t8, ⟨fun j hj => ?_, fun j h1 h2 => ?_, ?_⟩, ?_⟩
  · rw [t6 g hg, zl0]
    by_cases q : A g = 0
    · rw [if_pos ((zc_le (by omega) (by omega)).mpr (by omega)), if_pos q]
    · rw [if_neg (fun x => q (by have := (zc_le (by omega) (by omega)).mp x; omega)), if_neg q]
  · show sp = lN (if 9 = g then 0 else A 9)
    rw [if_neg (by omega)]; exact t4.1
  · show vp_updL ic g 0 j = lN (if j = g then 0 else A j)
    by_cases q : j = g
    · rw [q, pk_uLs, if_pos rfl]; rfl
    · rw [pk_uLn q, if_neg q]; exact t4.2 j hj
  · show sm = lN ((if 9 = g then 0 else A 9) / 12)
    rw [if_neg (by omega)]; exact t5
  · show vp_updL am g 0 j = lN ((if j = g then 0 else A j) / 12)
    by_cases q : j = g
    · rw [q, pk_uLs, if_pos rfl]; rfl
    · rw [pk_uLn q, if_neg q]; exact t6 j hj
  · show vp_updL dc g (dc g + ic g) j = lN (12 * (if j = g then d g + A g / 12 else d j)) ∧ vp_updL dm g (dm g + am g) j = lN (if j = g then d g + A g / 12 else d j)
    by_cases q : j = g
    · rw [q, pk_uLs, pk_uLs, if_pos rfl, hI.1, hI.2.1, (t7 g hg).1, (t7 g hg).2, lN_add, lN_add, Nat.mul_add]
      exact ⟨rfl, rfl⟩
    · rw [pk_uLn q, pk_uLn q, if_neg q]; exact t7 j hj
  · show (if j = g then 0 else A j) ≤ _
    split
    · omega
    · exact t9.1 j hj
  · show (if j = g then 0 else A j) = 0
    split
    · rfl
    · exact t9.2.1 j h1 h2
  · exact zDv_up t9.2.2 (Nat.dvd_zero _)
  · have e1 := zS10_up (A := A) (x := 0) hg
    have e2 := zSum9_up (A := d) (x := d g + A g / 12) hg
    omega
/-! an evening -/
theorem z_drinkTail {N : Nat} {T A d : Nat → Nat} {p : Nat} {pc : Int32} {sp : Int64} {dc : Nat → Int64} {tc : Nat → Int32} {pm : Int32} {sm : Int64} {am dm : Nat → Int64} {tm : Nat → Int32} {hour : Int32} : ∀ (r g fuel : Nat) (ic dc : Nat → Int64), g + r = 9 → N ≤ g → r < fuel → zTab N T A d p pc sp ic dc tc pm sm am dm tm → zTab N T A d p pc sp (lp_X4_drinkersOf_2 rs_X4_drinkersOf_2 tc hour fuel (nI g) ic dc).1 (lp_X4_drinkersOf_2 rs_X4_drinkersOf_2 tc hour fuel (nI g) ic dc).2 tc pm sm am dm tm := by
  intro r
  induction r with
  | zero =>
    intro g fuel ic dc h1 hN h2 ht
    obtain ⟨f, rfl⟩ : ∃ f, fuel = f + 1 := ⟨fuel - 1, by omega⟩
    rw [lp_X4_drinkersOf_2, zn9, if_pos (nI_le (by omega) (by omega))]
    exact ht
  | succ r ih =>
    intro g fuel ic dc h1 hN h2 ht
    obtain ⟨f, rfl⟩ : ∃ f, fuel = f + 1 := ⟨fuel - 1, by omega⟩
    rw [lp_X4_drinkersOf_2, zn9, if_neg (nI_ge (by omega) (by omega))]
    simp only [cut, cut3]
    rw [nI_clamp (show g < 2 ^ 31 by omega), nI_1]
    by_cases q1 : tc g ≤ 0
    · rw [if_pos q1]; exact ih (g + 1) f ic dc (by omega) (by omega) (by omega) ht
    · rw [if_neg q1]
      by_cases q2 : hour - hour / tc g * tc g = 0
      · rw [if_pos q2]
        refine ih (g + 1) f _ _ (by omega) (by omega) (by omega) ?_
        have l0 : ¬ nI g < 0 := nI_pos (by omega)
        have l9 : nI g < 9 := by rw [zn9]; exact nI_lt (by omega) (by omega)
        unfold m_X4_drinkFrom m_X0_takeOut
        simp only [cut, cut2, if_neg l0, if_pos l9, nI_clamp (show g < 2 ^ 31 by omega)]
        have hA0 : A g = 0 := ht.2.2.2.2.2.2.2.2.1.2.1 g hN (by omega)
        have hi0 : ic g = 0 := by rw [ht.2.2.2.1.2 g (by omega), hA0]; rfl
        refine zTab_ext ht (fun j hj => ?_) (fun j hj => ?_) (fun _ _ => rfl) (fun _ _ => rfl) (fun _ _ => rfl) (fun _ _ => rfl)
        · by_cases q : j = g
          · rw [q, pk_uLs, hi0]
          · rw [pk_uLn q]
        · by_cases q : j = g
          · rw [q, pk_uLs, hi0, Int64.add_zero]
          · rw [pk_uLn q]
      · rw [if_neg q2]; exact ih (g + 1) f ic dc (by omega) (by omega) (by omega) ht
theorem z_drinkLoop {N : Nat} {T : Nat → Nat} {p : Nat} {pc : Int32} {sp : Int64} {tc : Nat → Int32} {pm : Int32} {sm : Int64} {tm : Nat → Int32} {hour : Int32} {ct : Int32 → (Nat → Int64) → (Nat → Int64) → (Int32 × Int32 × Int64 × (Nat → Int64) × (Nat → Int64) × (Nat → Int64) × (Nat → Int32))} (hN : N ≤ 9) : ∀ (r g fx fm : Nat) (A d : Nat → Nat) (ic dc am dm : Nat → Int64), g + r = N → 9 < fx + g → r < fm → zTab N T A d p pc sp ic dc tc pm sm am dm tm → ∃ (kk : Int32) (A' d' : Nat → Nat) (am' dm' : Nat → Int64), lp_X6_evening_6 (nI N) ct tm hour fm (nI g) am dm = ct kk am' dm' ∧ zTab N T A' d' p pc sp (lp_X4_drinkersOf_2 rs_X4_drinkersOf_2 tc hour fx (nI g) ic dc).1 (lp_X4_drinkersOf_2 rs_X4_drinkersOf_2 tc hour fx (nI g) ic dc).2 tc pm sm am' dm' tm := by
  intro r
  induction r with
  | zero =>
    intro g fx fm A d ic dc am dm h1 h2 h3 ht
    obtain ⟨f, rfl⟩ : ∃ f, fm = f + 1 := ⟨fm - 1, by omega⟩
    rw [lp_X6_evening_6, if_pos (nI_le (by omega) (by omega))]
    exact ⟨_, A, d, am, dm, rfl, z_drinkTail (dc := dc) (9 - g) g fx ic dc (by omega) (by omega) (by omega) ht⟩
  | succ r ih =>
    intro g fx fm A d ic dc am dm h1 h2 h3 ht
    obtain ⟨f, rfl⟩ : ∃ f, fm = f + 1 := ⟨fm - 1, by omega⟩
    obtain ⟨f', rfl⟩ : ∃ f', fx = f' + 1 := ⟨fx - 1, by omega⟩
    rw [lp_X6_evening_6, if_neg (nI_ge (by omega) (by omega)), lp_X4_drinkersOf_2, zn9, if_neg (nI_ge (by omega) (by omega))]
    simp only [cut, cut3]
    rw [nI_clamp (show g < 2 ^ 31 by omega), nI_1, ht.2.2.2.2.2.2.2.1 g (by omega)]
    by_cases q1 : tm g ≤ 0
    · rw [if_pos q1, if_pos q1]; exact ih (g + 1) f' f A d ic dc am dm (by omega) (by omega) (by omega) ht
    · rw [if_neg q1, if_neg q1]
      by_cases q2 : hour - hour / tm g * tm g = 0
      · rw [if_pos q2, if_pos q2]
        exact ih (g + 1) f' f _ _ _ _ _ _ (by omega) (by omega) (by omega) (z_drinkIn ht (g := g) (by omega)).2.2
      · rw [if_neg q2, if_neg q2]; exact ih (g + 1) f' f A d ic dc am dm (by omega) (by omega) (by omega) ht
theorem z_evenLoop {N : Nat} {K Hd C : Nat → Nat} {S : Nat → Nat → Nat} {sz : Int32} {kd hd tk sc sh : Nat → Int32} {gl : Int32} {rows : Nat → Int32} (h : zTow N K Hd C S) (hc : zStC N K Hd C S sz kd hd tk sc sh) (hm : zStM N K Hd C S gl rows) (hN0 : 0 < N) {H m : Nat} (hH : H ≤ 24) (hm9 : m ≤ 9) {tc tm : Nat → Int32} : ∀ (r k fuel : Nat) (A d : Nat → Nat) (p : Nat) (pc : Int32) (sp : Int64) (ic dc : Nat → Int64) (pm : Int32) (sm : Int64) (am dm : Nat → Int64) (tkm : Nat → Int64) (ln : Nat → Int32), k + r = H + 1 → r < fuel → p + r * m ≤ 9999 → zTab N (zT K Hd) A d p pc sp ic dc tc pm sm am dm tm → ∃ (A' d' : Nat → Nat) (p' : Nat) (X : Int32 × Int32 × Int64 × (Nat → Int64) × (Nat → Int64)) (Y : Int32 × Int32 × Int64 × (Nat → Int64) × (Nat → Int64) × (Nat → Int64) × (Nat → Int32)), lp_X5_evening_2 (nI H) rs_X5_evening_2 sz kd tk sc sh (nI m) tc fuel (nI k) pc sp ic dc = X ∧ lp_X6_evening_5 (nI H) rs_X6_evening_5 gl rows (nI m) tm fuel (nI k) pm sm am dm tkm ln = Y ∧ X.1 = Y.1 ∧ zTab N (zT K Hd) A' d' p' X.2.1 X.2.2.1 X.2.2.2.1 X.2.2.2.2 tc Y.2.1 Y.2.2.1 Y.2.2.2.1 Y.2.2.2.2.1 tm := by
  intro r
  induction r with
  | zero =>
    intro k fuel A d p pc sp ic dc pm sm am dm tkm ln h1 h2 h3 ht
    obtain ⟨f, rfl⟩ : ∃ f, fuel = f + 1 := ⟨fuel - 1, by omega⟩
    rw [lp_X5_evening_2, lp_X6_evening_5, if_pos (nI_lt (show H < k by omega) (by omega)), if_pos (nI_lt (show H < k by omega) (by omega))]
    exact ⟨A, d, p, _, _, rfl, rfl, by show pc = pm; rw [ht.2.1, ht.2.2.1], ht⟩
  | succ r ih =>
    intro k fuel A d p pc sp ic dc pm sm am dm tkm ln h1 h2 h3 ht
    obtain ⟨f, rfl⟩ : ∃ f, fuel = f + 1 := ⟨fuel - 1, by omega⟩
    have hrm : (r + 1) * m = r * m + m := by rw [Nat.add_mul, Nat.one_mul]
    rw [lp_X5_evening_2, lp_X6_evening_5, if_neg (nI_nlt (show k ≤ H by omega) (by omega)), if_neg (nI_nlt (show k ≤ H by omega) (by omega))]
    simp only [cut, cut2, cut3, cut5]
    obtain ⟨A1, hA1⟩ := z_pourIn h hc hm ht (g := 0) (m := m) hN0 (by omega) (by omega) tkm ln
    rw [hm.1] at hA1
    rw [hm.1, show (0 : Int32) = nI 0 from rfl]
    obtain ⟨kk, A2, d2, am2, dm2, e1, e2⟩ := z_drinkLoop (hour := nI k) (ct := rs_X6_evening_6 (nI k) (fun c0 c1 c2 c3 c4 c5 c6 => lp_X6_evening_5 (nI H) rs_X6_evening_5 (nI N) rows (nI m) tm f c0 c1 c2 c3 c4 c5 c6) (m_X6_pourInto (nI N) pm sm rows am tkm ln (nI 0) (nI m)).1 (m_X6_pourInto (nI N) pm sm rows am tkm ln (nI 0) (nI m)).2.1 (m_X6_pourInto (nI N) pm sm rows am tkm ln (nI 0) (nI m)).2.2.2.1 (m_X6_pourInto (nI N) pm sm rows am tkm ln (nI 0) (nI m)).2.2.2.2) h.1 N 0 11 11 _ _ _ _ _ _ (by omega) (by omega) (by have := h.1; omega) hA1
    rw [e1]
    unfold rs_X6_evening_6
    simp only [cut]
    rw [nI_1, ← hm.1]
    rw [← hm.1] at e2
    exact ih (k + 1) f A2 d2 (p + m) _ _ _ _ _ _ _ _ _ _ (by omega) (by omega) (by omega) e2
/-! image and restore -/
theorem zm_image {am dm : Nat → Int64} {tm : Nat → Int32} {ct : Int32 → (Nat → Int64) → (Nat → Int64) → (Nat → Int32) → (Int32 × Int32 × Int32 × Int64 × (Nat → Int64) × (Nat → Int64) × (Nat → Int32))} : ∀ (r g fuel : Nat) (a b : Nat → Int64) (c : Nat → Int32), g + r = 9 → r < fuel → (∀ j, j < g → a j = am j ∧ b j = dm j ∧ c j = tm j) → ∃ (kk : Int32) (a' b' : Nat → Int64) (c' : Nat → Int32), lp_X6_image_2 ct am dm tm fuel (nI g) a b c = ct kk a' b' c' ∧ ∀ j, j < 9 → a' j = am j ∧ b' j = dm j ∧ c' j = tm j := by
  intro r
  induction r with
  | zero =>
    intro g fuel a b c h1 h2 hi
    obtain ⟨f, rfl⟩ : ∃ f, fuel = f + 1 := ⟨fuel - 1, by omega⟩
    rw [lp_X6_image_2, zn9, if_pos (nI_le (by omega) (by omega))]
    exact ⟨_, a, b, c, rfl, fun j hj => hi j (by omega)⟩
  | succ r ih =>
    intro g fuel a b c h1 h2 hi
    obtain ⟨f, rfl⟩ : ∃ f, fuel = f + 1 := ⟨fuel - 1, by omega⟩
    rw [lp_X6_image_2, zn9, if_neg (nI_ge (by omega) (by omega))]
    simp only [cut]
    rw [nI_clamp (show g < 2 ^ 31 by omega), nI_1]
    refine ih (g + 1) f _ _ _ (by omega) (by omega) (fun j hj => ?_)
    by_cases q : j = g
    · rw [q, pk_uLs, pk_uLs, pk_us]; exact ⟨rfl, rfl, rfl⟩
    · rw [pk_uLn q, pk_uLn q, pk_un q]; exact hi j (by omega)
theorem zm_restore {am dm : Nat → Int64} {tm : Nat → Int32} {ct : Int32 → (Nat → Int32) → (Nat → Int64) → (Nat → Int64) → (Int32 × Int32 × Int64 × (Nat → Int32) × (Nat → Int64) × (Nat → Int64))} : ∀ (r g fuel : Nat) (c : Nat → Int32) (a b : Nat → Int64), g + r = 9 → r < fuel → (∀ j, j < g → a j = am j ∧ b j = dm j ∧ c j = tm j) → ∃ (kk : Int32) (c' : Nat → Int32) (a' b' : Nat → Int64), lp_X6_restore_2 ct am dm tm fuel (nI g) c a b = ct kk c' a' b' ∧ ∀ j, j < 9 → a' j = am j ∧ b' j = dm j ∧ c' j = tm j := by
  intro r
  induction r with
  | zero =>
    intro g fuel c a b h1 h2 hi
    obtain ⟨f, rfl⟩ : ∃ f, fuel = f + 1 := ⟨fuel - 1, by omega⟩
    rw [lp_X6_restore_2, zn9, if_pos (nI_le (by omega) (by omega))]
    exact ⟨_, c, a, b, rfl, fun j hj => hi j (by omega)⟩
  | succ r ih =>
    intro g fuel c a b h1 h2 hi
    obtain ⟨f, rfl⟩ : ∃ f, fuel = f + 1 := ⟨fuel - 1, by omega⟩
    rw [lp_X6_restore_2, zn9, if_neg (nI_ge (by omega) (by omega))]
    simp only [cut]
    rw [nI_clamp (show g < 2 ^ 31 by omega), nI_1]
    refine ih (g + 1) f _ _ _ (by omega) (by omega) (fun j hj => ?_)
    by_cases q : j = g
    · rw [q, pk_uLs, pk_uLs, pk_us]; exact ⟨rfl, rfl, rfl⟩
    · rw [pk_uLn q, pk_uLn q, pk_un q]; exact hi j (by omega)
theorem zx_keep {kic kdc : Nat → Int64} {ktc : Nat → Int32} {pc : Int32} {sp : Int64} {ic dc : Nat → Int64} {tc : Nat → Int32} : ∃ (i' d' : Nat → Int64) (t' : Nat → Int32), m_X4_copyFrom kic kdc ktc pc sp ic dc tc = (pc, sp, i', d', t') ∧ ∀ j, j < 9 → i' j = ic j ∧ d' j = dc j ∧ t' j = tc j := by
  refine ⟨_, _, _, rfl, fun j hj => ⟨?_, ?_, ?_⟩⟩
  · show va_cpy ic kic (0 : Int32).toNatClampNeg (0 : Int32).toNatClampNeg (9 : Int32).toNatClampNeg j = _
    rw [z_cl0, z_cl9, z_cpy hj]
  · rw [z_cl0, z_cl9, z_cpy hj]
  · rw [z_cl0, z_cl9, z_cpy hj]
