/-! the flow in plain numbers: ten places (the cloth is 9), what one glass gives on, one run over all, and its laws -/
theorem zS10_st {A F : Nat → Nat} {g m : Nat} (hg : g < 9) (hF : F g = 0) : zS10 (fun j => if j = g then m else A j + F j) + A g = zS10 A + zS10 F + m := by
  rcases (show g = 0 ∨ g = 1 ∨ g = 2 ∨ g = 3 ∨ g = 4 ∨ g = 5 ∨ g = 6 ∨ g = 7 ∨ g = 8 by omega) with q | q | q | q | q | q | q | q | q <;> subst q <;> simp [zS10, zSum9, hF] <;> omega
theorem zS10_ind {F : Nat → Nat} {i x : Nat} (hi : i < 10) : zS10 (fun j => F j + if i = j then x else 0) = zS10 F + x := by
  rcases (show i = 0 ∨ i = 1 ∨ i = 2 ∨ i = 3 ∨ i = 4 ∨ i = 5 ∨ i = 6 ∨ i = 7 ∨ i = 8 ∨ i = 9 by omega) with q | q | q | q | q | q | q | q | q | q <;> subst q <;> simp [zS10, zSum9] <;> omega
theorem zS10_le {A : Nat → Nat} {j : Nat} (hj : j < 10) : A j ≤ zS10 A := by
  rcases (show j = 0 ∨ j = 1 ∨ j = 2 ∨ j = 3 ∨ j = 4 ∨ j = 5 ∨ j = 6 ∨ j = 7 ∨ j = 8 ∨ j = 9 by omega) with q | q | q | q | q | q | q | q | q | q <;> subst q <;> simp [zS10, zSum9] <;> omega
theorem zSum9_up {A : Nat → Nat} {i x : Nat} (hi : i < 9) : zSum9 (fun j => if j = i then x else A j) + A i = zSum9 A + x := by
  rcases (show i = 0 ∨ i = 1 ∨ i = 2 ∨ i = 3 ∨ i = 4 ∨ i = 5 ∨ i = 6 ∨ i = 7 ∨ i = 8 by omega) with q | q | q | q | q | q | q | q | q <;> subst q <;> simp [zSum9] <;> omega
theorem zS10_up {A : Nat → Nat} {i x : Nat} (hi : i < 9) : zS10 (fun j => if j = i then x else A j) + A i = zS10 A + x := by
  have h := zSum9_up (A := A) (x := x) hi
  have h2 : (fun j => if j = i then x else A j) 9 = A 9 := if_neg (by omega)
  unfold zS10
  rw [h2]
  omega
theorem zSum9_ext {A B : Nat → Nat} (h : ∀ j, j < 9 → A j = B j) : zSum9 A = zSum9 B := by
  unfold zSum9
  rw [h 0 (by omega), h 1 (by omega), h 2 (by omega), h 3 (by omega), h 4 (by omega), h 5 (by omega), h 6 (by omega), h 7 (by omega), h 8 (by omega)]
theorem zSum9_eq {A B : Nat → Nat} (h : ∀ j, j < 9 → A j ≤ B j) (e : zSum9 A = zSum9 B) : ∀ j, j < 9 → A j = B j := by
  unfold zSum9 at e
  have h0 := h 0 (by omega)
  have h1 := h 1 (by omega)
  have h2 := h 2 (by omega)
  have h3 := h 3 (by omega)
  have h4 := h 4 (by omega)
  have h5 := h 5 (by omega)
  have h6 := h 6 (by omega)
  have h7 := h 7 (by omega)
  have h8 := h 8 (by omega)
  intro j hj
  rcases (show j = 0 ∨ j = 1 ∨ j = 2 ∨ j = 3 ∨ j = 4 ∨ j = 5 ∨ j = 6 ∨ j = 7 ∨ j = 8 by omega) with q | q | q | q | q | q | q | q | q <;> subst q <;> omega
def zSt (T : Nat → Nat) (E : Nat → Nat → Nat → Nat) (g : Nat) (A : Nat → Nat) : Nat → Nat := fun j => if j = g then min (A g) (T g) else A j + E g (A g - T g) j
def zRn (T : Nat → Nat) (E : Nat → Nat → Nat → Nat) : Nat → Nat → (Nat → Nat) → (Nat → Nat)
  | 0, _, A => A
  | r + 1, g, A => zRn T E r (g + 1) (zSt T E g A)
/-- what is asked of the shares: of glass g, when o runs over, E g o j comes to the place j -/
def zEok (N : Nat) (E : Nat → Nat → Nat → Nat) : Prop := N ≤ 9 ∧ ∀ g, g < N → (∀ j, E g 0 j = 0) ∧ (∀ o o' j, o ≤ o' → E g o j ≤ E g o' j) ∧ (∀ o j, j ≤ g → E g o j = 0) ∧ (∀ o j, N ≤ j → j < 9 → E g o j = 0) ∧ (∀ o o' j, 12 ^ (9 - g) ∣ o → 12 ^ (9 - g) ∣ o' → E g (o + o') j = E g o j + E g o' j) ∧ (∀ o j, j < 10 → 12 ^ (9 - g) ∣ o → 12 ^ zEx j ∣ E g o j) ∧ (∀ o, 12 ^ (9 - g) ∣ o → zS10 (E g o) = o)
theorem zmin_dvd {d a b : Nat} (h1 : d ∣ a) (h2 : d ∣ b) : d ∣ min a b := by
  rcases Nat.le_total a b with q | q
  · rw [Nat.min_eq_left q]; exact h1
  · rw [Nat.min_eq_right q]; exact h2
theorem zEx_lt {g : Nat} (h : g < 9) : zEx g = 9 - g := if_pos h
theorem zpow9 {d j : Nat} (h : 12 ^ 9 ∣ d) : 12 ^ (9 - j) ∣ d := Nat.dvd_trans (Nat.pow_dvd_pow 12 (by omega)) h
theorem zpow9x {d j : Nat} (h : 12 ^ 9 ∣ d) : 12 ^ zEx j ∣ d := by
  unfold zEx
  split
  · exact zpow9 h
  · exact Nat.dvd_trans (Nat.pow_dvd_pow 12 (by omega)) h
theorem zM_dvd (t : Nat) : 12 ^ 9 ∣ t * zM := ⟨t, by unfold zM; omega⟩
section
variable {N : Nat} {T : Nat → Nat} {E : Nat → Nat → Nat → Nat}
theorem zSt_here {g : Nat} {A : Nat → Nat} : zSt T E g A g = min (A g) (T g) := by
  unfold zSt; rw [if_pos rfl]
theorem zSt_low (h : zEok N E) {g : Nat} {A : Nat → Nat} (hg : g < N) {j : Nat} (hj : j < g) : zSt T E g A j = A j := by
  unfold zSt
  rw [if_neg (by omega), (h.2 g hg).2.2.1 _ j (by omega)]
  rfl
theorem zSt_out (h : zEok N E) {g : Nat} {A : Nat → Nat} (hg : g < N) {j : Nat} (h1 : N ≤ j) (h2 : j < 9) : zSt T E g A j = A j := by
  unfold zSt
  rw [if_neg (by omega), (h.2 g hg).2.2.2.1 _ j h1 h2]
  rfl
theorem zRn_low (h : zEok N E) : ∀ (r g : Nat) (A : Nat → Nat), g + r ≤ N → ∀ j, j < g → zRn T E r g A j = A j
  | 0, _, _, _, _, _ => rfl
  | r + 1, g, A, hr, j, hj => by
    rw [zRn, zRn_low h r (g + 1) _ (by omega) j (by omega), zSt_low h (by omega) hj]
theorem zRn_out (h : zEok N E) : ∀ (r g : Nat) (A : Nat → Nat), g + r ≤ N → ∀ j, N ≤ j → j < 9 → zRn T E r g A j = A j
  | 0, _, _, _, _, _, _ => rfl
  | r + 1, g, A, hr, j, h1, h2 => by
    rw [zRn, zRn_out h r (g + 1) _ (by omega) j h1 h2, zSt_out h (by omega) h1 h2]
theorem zRn_here (h : zEok N E) {r g : Nat} {A : Nat → Nat} (hr : g + (r + 1) ≤ N) : zRn T E (r + 1) g A g = min (A g) (T g) := by
  rw [zRn, zRn_low h r (g + 1) _ (by omega) g (by omega), zSt_here]
theorem zRn_le (h : zEok N E) : ∀ (r g : Nat) (A : Nat → Nat), g + r ≤ N → ∀ j, g ≤ j → j < g + r → zRn T E r g A j ≤ T j
  | 0, g, _, _, j, h1, h2 => by omega
  | r + 1, g, A, hr, j, h1, h2 => by
    rcases Nat.eq_or_lt_of_le h1 with q | q
    · subst q; rw [zRn_here h hr]; omega
    · rw [zRn]; exact zRn_le h r (g + 1) _ (by omega) j q (by omega)
theorem zSt_mono (h : zEok N E) {g : Nat} {A B : Nat → Nat} (hg : g < N) (hab : ∀ j, A j ≤ B j) (j : Nat) : zSt T E g A j ≤ zSt T E g B j := by
  unfold zSt
  have h1 := hab g
  have h2 := hab j
  split
  · omega
  · exact Nat.add_le_add h2 ((h.2 g hg).2.1 _ _ j (by omega))
theorem zRn_mono (h : zEok N E) : ∀ (r g : Nat) (A B : Nat → Nat), g + r ≤ N → (∀ j, A j ≤ B j) → ∀ j, zRn T E r g A j ≤ zRn T E r g B j
  | 0, _, _, _, _, hab, j => hab j
  | r + 1, g, A, B, hr, hab, j => zRn_mono h r (g + 1) _ _ (by omega) (fun i => zSt_mono h (by omega) hab i) j
theorem zSt_fix (h : zEok N E) {g : Nat} {A : Nat → Nat} (hg : g < N) (hA : A g ≤ T g) : zSt T E g A = A := by
  funext j
  unfold zSt
  rw [show A g - T g = 0 by omega, (h.2 g hg).1 j]
  split
  · rename_i q; subst q; omega
  · rfl
theorem zRn_fix (h : zEok N E) : ∀ (r g : Nat) (A : Nat → Nat), g + r ≤ N → (∀ j, g ≤ j → j < g + r → A j ≤ T j) → zRn T E r g A = A
  | 0, _, _, _, _ => rfl
  | r + 1, g, A, hr, hA => by
    rw [zRn, zSt_fix h (by omega) (hA g (by omega) (by omega))]
    exact zRn_fix h r (g + 1) A (by omega) (fun j h1 h2 => hA j (by omega) (by omega))
theorem zover_dvd (h : zEok N E) (hT : ∀ g, 12 ^ 9 ∣ T g) {g : Nat} {A : Nat → Nat} (hg : g < N) (hA : zDv A) : 12 ^ (9 - g) ∣ A g - T g := by
  have h9 := h.1
  have := hA g (by omega)
  rw [zEx_lt (by omega)] at this
  exact Nat.dvd_sub this (zpow9 (hT g))
theorem zSt_dv (h : zEok N E) (hT : ∀ g, 12 ^ 9 ∣ T g) {g : Nat} {A : Nat → Nat} (hg : g < N) (hA : zDv A) : zDv (zSt T E g A) := by
  intro j hj
  have ho := zover_dvd h hT hg hA
  unfold zSt
  split
  · rename_i q; subst q; exact zmin_dvd (hA j hj) (zpow9x (hT j))
  · exact Nat.dvd_add (hA j hj) ((h.2 g hg).2.2.2.2.2.1 _ j hj ho)
theorem zRn_dv (h : zEok N E) (hT : ∀ g, 12 ^ 9 ∣ T g) : ∀ (r g : Nat) (A : Nat → Nat), g + r ≤ N → zDv A → zDv (zRn T E r g A)
  | 0, _, _, _, hA => hA
  | r + 1, g, A, hr, hA => zRn_dv h hT r (g + 1) _ (by omega) (zSt_dv h hT (by omega) hA)
theorem zSt_sum (h : zEok N E) (hT : ∀ g, 12 ^ 9 ∣ T g) {g : Nat} {A : Nat → Nat} (hg : g < N) (hA : zDv A) : zS10 (zSt T E g A) = zS10 A := by
  have h9 := h.1
  have ho := zover_dvd h hT hg hA
  have e := zS10_st (A := A) (F := E g (A g - T g)) (g := g) (m := min (A g) (T g)) (by omega) ((h.2 g hg).2.2.1 _ g (by omega))
  rw [(h.2 g hg).2.2.2.2.2.2 _ ho] at e
  show zS10 (fun j => if j = g then min (A g) (T g) else A j + E g (A g - T g) j) = zS10 A
  omega
theorem zRn_sum (h : zEok N E) (hT : ∀ g, 12 ^ 9 ∣ T g) : ∀ (r g : Nat) (A : Nat → Nat), g + r ≤ N → zDv A → zS10 (zRn T E r g A) = zS10 A
  | 0, _, _, _, _ => rfl
  | r + 1, g, A, hr, hA => by
    rw [zRn, zRn_sum h hT r (g + 1) _ (by omega) (zSt_dv h hT (by omega) hA), zSt_sum h hT (by omega) hA]
theorem zRn_ext (h : zEok N E) : ∀ (r g : Nat) (A B : Nat → Nat), g + r ≤ N → (∀ j, j < 9 → A j = B j) → ∀ j, j < 9 → zRn T E r g A j = zRn T E r g B j
  | 0, _, _, _, _, hab, j, hj => hab j hj
  | r + 1, g, A, B, hr, hab, j, hj => by
    have h9 := h.1
    refine zRn_ext h r (g + 1) _ _ (by omega) (fun i hi => ?_) j hj
    unfold zSt
    rw [hab g (by omega), hab i hi]
/-- a smaller take of one glass leaves no less in the others -/
theorem zRn_cork (h : zEok N E) {T' : Nat → Nat} {g0 : Nat} (h1 : ∀ j, j ≠ g0 → T' j = T j) (h2 : T' g0 ≤ T g0) : ∀ (r g : Nat) (A B : Nat → Nat), g + r ≤ N → (∀ j, (j ≠ g0 ∨ g ≤ g0) → A j ≤ B j) → ∀ j, j ≠ g0 → zRn T E r g A j ≤ zRn T' E r g B j
  | 0, _, _, _, _, hab, j, hj => hab j (Or.inl hj)
  | r + 1, g, A, B, hr, hab, j, hj => by
    refine zRn_cork h h1 h2 r (g + 1) _ _ (by omega) (fun i hi => ?_) j hj
    have hi2 := hab i (by omega)
    unfold zSt
    split
    · rename_i q
      subst q
      have := h1 i (by omega)
      omega
    · by_cases q : g ≤ g0
      · have hg := hab g (by omega)
        have ht : T' g ≤ T g := by
          by_cases q2 : g = g0
          · subst q2; exact h2
          · rw [h1 g q2]; exact Nat.le_refl _
        exact Nat.add_le_add hi2 ((h.2 g (by omega)).2.1 _ _ i (by omega))
      · have hg := hab g (by omega)
        have ht := h1 g (by omega)
        exact Nat.add_le_add hi2 ((h.2 g (by omega)).2.1 _ _ i (by omega))
/-- poured in two goes is as poured in one -/
theorem zRn_add (h : zEok N E) (hT : ∀ g, 12 ^ 9 ∣ T g) : ∀ (r g : Nat) (x y : Nat → Nat), g + r ≤ N → zDv x → zDv y → zRn T E r g (fun i => zRn T E r g x i + y i) = zRn T E r g (fun i => x i + y i)
  | 0, _, _, _, _, _, _ => rfl
  | r + 1, g, x, y, hr, hx, hy => by
    have h9 := h.1
    have hXg : zRn T E (r + 1) g x g = min (x g) (T g) := zRn_here h hr
    have hxg : 12 ^ (9 - g) ∣ x g := by have := hx g (by omega); rwa [zEx_lt (by omega)] at this
    have hyg : 12 ^ (9 - g) ∣ y g := by have := hy g (by omega); rwa [zEx_lt (by omega)] at this
    have hTg : 12 ^ (9 - g) ∣ T g := zpow9 (hT g)
    have hX : zRn T E (r + 1) g x = zRn T E r (g + 1) (zSt T E g x) := rfl
    have hdo : 12 ^ (9 - g) ∣ (min (x g) (T g) + y g - T g) := Nat.dvd_sub (Nat.dvd_add (zmin_dvd hxg hTg) hyg) hTg
    have e1 : zSt T E g (fun i => zRn T E (r + 1) g x i + y i) = fun i => zRn T E r (g + 1) (zSt T E g x) i + (if i = g then min (min (x g) (T g) + y g) (T g) - min (x g) (T g) else y i + E g (min (x g) (T g) + y g - T g) i) := by
      funext i
      show (if i = g then min (zRn T E (r + 1) g x g + y g) (T g) else zRn T E (r + 1) g x i + y i + E g (zRn T E (r + 1) g x g + y g - T g) i) = _
      rw [hXg]
      by_cases hi : i = g
      · subst hi
        rw [if_pos rfl, if_pos rfl, ← hX, hXg]
        omega
      · rw [if_neg hi, if_neg hi, ← hX]
        omega
    have e2 : zSt T E g (fun i => x i + y i) = fun i => zSt T E g x i + (if i = g then min (min (x g) (T g) + y g) (T g) - min (x g) (T g) else y i + E g (min (x g) (T g) + y g - T g) i) := by
      funext i
      by_cases hi : i = g
      · subst hi
        show (if i = i then min (x i + y i) (T i) else _) = (if i = i then min (x i) (T i) else _) + (if i = i then _ else _)
        rw [if_pos rfl, if_pos rfl, if_pos rfl]
        omega
      · show (if i = g then _ else x i + y i + E g (x g + y g - T g) i) = (if i = g then _ else x i + E g (x g - T g) i) + (if i = g then _ else _)
        rw [if_neg hi, if_neg hi, if_neg hi]
        rw [show x g + y g - T g = (x g - T g) + (min (x g) (T g) + y g - T g) by omega]
        rw [(h.2 g (by omega)).2.2.2.2.1 _ _ i (Nat.dvd_sub hxg hTg) hdo]
        omega
    rw [zRn, e1, zRn_add h hT r (g + 1) _ _ (by omega) (zSt_dv h hT (by omega) hx) ?_]
    · rw [zRn, e2]
    · intro j hj
      show 12 ^ zEx j ∣ (if j = g then min (min (x g) (T g) + y g) (T g) - min (x g) (T g) else y j + E g (min (x g) (T g) + y g - T g) j)
      split
      · rename_i q; subst q
        rw [zEx_lt (by omega)]
        exact Nat.dvd_sub (zmin_dvd (Nat.dvd_add (zmin_dvd hxg hTg) hyg) hTg) (zmin_dvd hxg hTg)
      · exact Nat.dvd_add (hy j hj) ((h.2 g (by omega)).2.2.2.2.2.1 _ j hj hdo)
end
/-! the shares of a tower -/
def zEk (c : Nat) (s : Nat → Nat) (l o j : Nat) : Nat → Nat
  | 0 => 0
  | k + 1 => zEk c s l o j k + (if s k = j then o / (c + l) * (if k = 0 then 1 + l else 1) else 0)
def zE (L C : Nat → Nat) (S : Nat → Nat → Nat) (g o j : Nat) : Nat := if C g = 0 then (if 9 = j then o else 0) else zEk (C g) (S g) (L g) o j (C g)
theorem zEk_none {c : Nat} {s : Nat → Nat} {l o j : Nat} : ∀ k, (∀ i, i < k → s i ≠ j) → zEk c s l o j k = 0
  | 0, _ => rfl
  | k + 1, h => by
    rw [zEk, zEk_none k (fun i hi => h i (by omega)), if_neg (h k (by omega))]
theorem zEk_0 {c : Nat} {s : Nat → Nat} {l j : Nat} : ∀ k, zEk c s l 0 j k = 0
  | 0 => rfl
  | k + 1 => by
    rw [zEk, zEk_0 k, Nat.zero_div, Nat.zero_mul]
    split <;> rfl
theorem zEk_mono {c : Nat} {s : Nat → Nat} {l o o' j : Nat} (h : o ≤ o') : ∀ k, zEk c s l o j k ≤ zEk c s l o' j k
  | 0 => Nat.le_refl _
  | k + 1 => by
    rw [zEk, zEk]
    refine Nat.add_le_add (zEk_mono h k) ?_
    split
    · exact Nat.mul_le_mul_right _ (Nat.div_le_div_right h)
    · exact Nat.le_refl _
theorem zEk_add {c : Nat} {s : Nat → Nat} {l o o' j : Nat} (h : (c + l) ∣ o) : ∀ k, zEk c s l (o + o') j k = zEk c s l o j k + zEk c s l o' j k
  | 0 => rfl
  | k + 1 => by
    rw [zEk, zEk, zEk, zEk_add h k]
    have e : (o + o') / (c + l) = o / (c + l) + o' / (c + l) := by
      obtain ⟨u, hu⟩ := h
      rcases Nat.eq_zero_or_pos (c + l) with z | z
      · rw [z, Nat.div_zero, Nat.div_zero, Nat.div_zero]
      · rw [hu, Nat.mul_add_div z, Nat.mul_div_cancel_left _ z]
    rw [e]
    generalize (if k = 0 then 1 + l else 1) = w
    split
    · rw [Nat.add_mul]; omega
    · omega
theorem zEk_dvd {c : Nat} {s : Nat → Nat} {l o j d : Nat} : ∀ k, (∀ i, i < k → s i = j → d ∣ o / (c + l)) → d ∣ zEk c s l o j k
  | 0, _ => Nat.dvd_zero _
  | k + 1, h => by
    rw [zEk]
    refine Nat.dvd_add (zEk_dvd k (fun i hi => h i (by omega))) ?_
    split
    · rename_i q; exact Nat.dvd_trans (h k (by omega) q) (Nat.dvd_mul_right _ _)
    · exact Nat.dvd_zero _
theorem zEk_sum {c : Nat} {s : Nat → Nat} {l o : Nat} : ∀ k, (∀ i, i < k → s i < 10) → zS10 (fun j => zEk c s l o j k) = o / (c + l) * (if k = 0 then 0 else k + l)
  | 0, _ => by rw [if_pos rfl, Nat.mul_zero]; rfl
  | k + 1, h => by
    have e := zS10_ind (F := fun j => zEk c s l o j k) (i := s k) (x := o / (c + l) * (if k = 0 then 1 + l else 1)) (h k (by omega))
    rw [zEk_sum k (fun i hi => h i (by omega))] at e
    show zS10 (fun j => zEk c s l o j k + (if s k = j then o / (c + l) * (if k = 0 then 1 + l else 1) else 0)) = _
    rw [e, ← Nat.mul_add, if_neg (show ¬ k + 1 = 0 by omega)]
    congr 1
    split <;> omega
theorem zby {c l : Nat} (h0 : 0 < c) (h3 : c ≤ 3) (hl : l ≤ 1) : (c + l) ∣ 12 := by
  rcases (show c + l = 1 ∨ c + l = 2 ∨ c + l = 3 ∨ c + l = 4 by omega) with q | q | q | q <;> rw [q] <;> decide
theorem zdivp {n o b : Nat} (h : 12 ^ (n + 1) ∣ o) (hb : b ∣ 12) : b ∣ o ∧ 12 ^ n ∣ o / b := by
  obtain ⟨q, rfl⟩ := h
  obtain ⟨c, hc⟩ := hb
  have hb0 : 0 < b := by
    rcases Nat.eq_zero_or_pos b with z | z
    · subst z; omega
    · exact z
  have e : 12 ^ (n + 1) * q = b * (12 ^ n * (c * q)) := by
    rw [Nat.pow_succ, hc]
    simp only [Nat.mul_assoc, Nat.mul_left_comm, Nat.mul_comm]
  rw [e]
  refine ⟨Nat.dvd_mul_right _ _, ?_⟩
  rw [Nat.mul_div_cancel_left _ hb0]
  exact Nat.dvd_mul_right _ _
theorem zE_ok {N : Nat} {L C : Nat → Nat} {S : Nat → Nat → Nat} (hN : N ≤ 9) (h : ∀ g, g < N → C g ≤ 3 ∧ L g ≤ 1 ∧ ∀ k, k < C g → (S g k = 9 ∨ (g < S g k ∧ S g k < N))) : zEok N (zE L C S) := by
  refine ⟨hN, fun g hg => ?_⟩
  obtain ⟨hC, hL, hS⟩ := h g hg
  by_cases hc : C g = 0
  · have e : ∀ o, zE L C S g o = fun j => if 9 = j then o else 0 := fun o => by funext j; unfold zE; rw [if_pos hc]
    simp only [e]
    refine ⟨fun j => by split <;> rfl, fun o o' j ho => by split <;> omega, fun o j hj => if_neg (by omega), fun o j h1 h2 => if_neg (by omega), fun o o' j _ _ => by split <;> omega, fun o j hj hd => ?_, fun o _ => ?_⟩
    · split
      · rename_i q; subst q
        exact Nat.dvd_trans (Nat.pow_dvd_pow 12 (show zEx 9 ≤ 9 - g by unfold zEx; simp; omega)) hd
      · exact Nat.dvd_zero _
    · simp [zS10, zSum9]
  · have e : ∀ o, zE L C S g o = fun j => zEk (C g) (S g) (L g) o j (C g) := fun o => by funext j; unfold zE; rw [if_neg hc]
    have hb := zby (Nat.pos_of_ne_zero hc) hC hL
    have hdv : ∀ o, 12 ^ (9 - g) ∣ o → (C g + L g) ∣ o ∧ 12 ^ (8 - g) ∣ o / (C g + L g) := fun o ho => by
      rw [show 9 - g = (8 - g) + 1 by omega] at ho
      exact zdivp ho hb
    simp only [e]
    refine ⟨fun j => zEk_0 _, fun o o' j ho => zEk_mono ho _, fun o j hj => zEk_none _ (fun i hi => by rcases hS i hi with t | t <;> omega), fun o j h1 h2 => zEk_none _ (fun i hi => by rcases hS i hi with t | t <;> omega), fun o o' j ho _ => zEk_add (hdv o ho).1 _, fun o j hj hd => ?_, fun o hd => ?_⟩
    · by_cases q8 : g = 8
      · have hz : ∀ j, j < 9 → zEk (C g) (S g) (L g) o j (C g) = 0 := fun j hj => zEk_none _ (fun i hi => by rcases hS i hi with t | t <;> omega)
        by_cases h9 : j = 9
        · subst h9
          have es := zEk_sum (o := o) (c := C g) (s := S g) (l := L g) (C g) (fun i hi => by rcases hS i hi with t | t <;> omega)
          rw [if_neg hc, Nat.div_mul_cancel (hdv o hd).1] at es
          simp only [zS10, zSum9] at es
          have h0 := hz 0 (by omega)
          have h1 := hz 1 (by omega)
          have h2 := hz 2 (by omega)
          have h3 := hz 3 (by omega)
          have h4 := hz 4 (by omega)
          have h5 := hz 5 (by omega)
          have h6 := hz 6 (by omega)
          have h7 := hz 7 (by omega)
          have h8 := hz 8 (by omega)
          have e9 : zEk (C g) (S g) (L g) o 9 (C g) = o := by omega
          rw [e9]
          rw [q8] at hd
          exact hd
        · rw [hz j (by omega)]; exact Nat.dvd_zero _
      · refine zEk_dvd _ (fun i hi q => ?_)
        rcases hS i hi with t | t
        · rw [q] at t; subst t
          exact Nat.dvd_trans (Nat.pow_dvd_pow 12 (show zEx 9 ≤ 8 - g by unfold zEx; simp; omega)) (hdv o hd).2
        · rw [q] at t
          exact Nat.dvd_trans (Nat.pow_dvd_pow 12 (show zEx j ≤ 8 - g by unfold zEx; split <;> omega)) (hdv o hd).2
    · rw [zEk_sum _ (fun i hi => by rcases hS i hi with t | t <;> omega), if_neg hc]
      exact Nat.div_mul_cancel (hdv o hd).1
theorem zRn_9 {N : Nat} {T : Nat → Nat} {E : Nat → Nat → Nat → Nat} : ∀ (r g : Nat) (A : Nat → Nat), N ≤ 9 → g + r ≤ N → A 9 ≤ zRn T E r g A 9
  | 0, _, _, _, _ => Nat.le_refl _
  | r + 1, g, A, h9, hr => by
    refine Nat.le_trans ?_ (zRn_9 r (g + 1) (zSt T E g A) h9 (by omega))
    unfold zSt
    rw [if_neg (by omega)]
    exact Nat.le_add_right _ _
theorem zDv9 {A : Nat → Nat} (h : zDv A) : 12 ∣ A 9 := h 9 (by omega)
theorem zDv12 {A : Nat → Nat} (h : zDv A) {j : Nat} (hj : j < 10) : 12 ∣ A j := by
  have h1 := h j hj
  refine Nat.dvd_trans ?_ h1
  have h2 : 1 ≤ zEx j := by unfold zEx; split <;> omega
  exact Nat.pow_dvd_pow 12 h2
theorem zDv_up {A : Nat → Nat} (h : zDv A) {i x : Nat} (hx : 12 ^ 9 ∣ x) : zDv (fun j => if j = i then x else A j) := by
  intro j hj
  show 12 ^ zEx j ∣ (if j = i then x else A j)
  split
  · exact zpow9x hx
  · exact h j hj
theorem zDv_add {A B : Nat → Nat} (h : zDv A) (h2 : zDv B) : zDv (fun j => A j + B j) := fun j hj => Nat.dvd_add (h j hj) (h2 j hj)
theorem zDv_pt {i x : Nat} (hx : 12 ^ 9 ∣ x) : zDv (fun j => if j = i then x else 0) := by
  intro j hj
  show 12 ^ zEx j ∣ (if j = i then x else 0)
  split
  · exact zpow9x hx
  · exact Nat.dvd_zero _
theorem zDv_0 : zDv (fun _ => 0) := fun _ _ => Nat.dvd_zero _
