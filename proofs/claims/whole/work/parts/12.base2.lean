/-! more base words: longs, rows of the reference -/
theorem zl_lt {a b : Int64} : a < b ↔ a.toInt < b.toInt := Int64.lt_iff_toInt_lt
theorem zl_le {a b : Int64} : a ≤ b ↔ a.toInt ≤ b.toInt := Int64.le_iff_toInt_le
theorem zl_eq {a b : Int64} : a = b ↔ a.toInt = b.toInt := Int64.toInt_inj.symm
theorem zlc_val (a b : Int64) : lg_cmp a b = if b.toInt < a.toInt then 1 else if a.toInt = b.toInt then 0 else -1 := by
  unfold lg_cmp
  simp only [GT.gt, zl_lt, zl_eq]
theorem zlc_le {a b : Int64} : lg_cmp a b ≤ 0 ↔ a.toInt ≤ b.toInt := by
  rw [zlc_val]; split
  · exact ⟨fun h => absurd h (by decide), fun h => by omega⟩
  · split
    · exact ⟨fun _ => by omega, fun _ => by decide⟩
    · exact ⟨fun _ => by omega, fun _ => by decide⟩
theorem zlc_ge {a b : Int64} : 0 ≤ lg_cmp a b ↔ b.toInt ≤ a.toInt := by
  rw [zlc_val]; split
  · exact ⟨fun _ => by omega, fun _ => by decide⟩
  · split
    · exact ⟨fun _ => by omega, fun _ => by decide⟩
    · exact ⟨fun h => absurd h (by decide), fun h => by omega⟩
theorem zlc_lt {a b : Int64} : lg_cmp a b < 0 ↔ a.toInt < b.toInt := by
  rw [zlc_val]; split
  · exact ⟨fun h => absurd h (by decide), fun h => by omega⟩
  · split
    · exact ⟨fun h => absurd h (by decide), fun h => by omega⟩
    · exact ⟨fun _ => by omega, fun _ => by decide⟩
theorem zlc_gt {a b : Int64} : 0 < lg_cmp a b ↔ b.toInt < a.toInt := by
  rw [zlc_val]; split
  · exact ⟨fun _ => by omega, fun _ => by decide⟩
  · split
    · exact ⟨fun h => absurd h (by decide), fun h => by omega⟩
    · exact ⟨fun h => absurd h (by decide), fun h => by omega⟩
theorem zlc_eq {a b : Int64} : lg_cmp a b = 0 ↔ a.toInt = b.toInt := by
  rw [zlc_val]; split
  · exact ⟨fun h => absurd h (by decide), fun h => by omega⟩
  · split
    · exact ⟨fun _ => by omega, fun _ => by decide⟩
    · exact ⟨fun h => absurd h (by decide), fun h => by omega⟩
theorem z64neI {x : Int32} (h : ¬ x.toInt = 0) : ¬ x.toInt64 = 0 := by
  intro e
  have e2 := congrArg Int64.toInt e
  rw [Int32.toInt_toInt64] at e2
  have h3 : (0 : Int64).toInt = 0 := by decide
  omega
def zLn (f : Nat → Int32) : Prop := ∀ j, 0 ≤ (f j).toInt ∧ (f j).toInt ≤ 1
theorem zLn_upd {f : Nat → Int32} {k : Nat} {x : Int32} (h : zLn f) (h1 : 0 ≤ x.toInt) (h2 : x.toInt ≤ 1) : zLn (upd f k x) := by
  intro j
  rcases Nat.decEq j k with q | q
  · rw [pk_un q]; exact h j
  · subst q; rw [pk_us]; exact ⟨h1, h2⟩
/-- the rows of the reference: at most three shares, those that count name a glass or the cloth -/
def zRw (f : Nat → Int32) : Prop := ∀ g : Nat, 0 ≤ (f (6 * g + 2)).toInt ∧ (f (6 * g + 2)).toInt ≤ 3 ∧ ∀ k : Nat, k < 3 → (k : Int) < (f (6 * g + 2)).toInt → 0 ≤ (f (6 * g + 3 + k)).toInt ∧ (f (6 * g + 3 + k)).toInt ≤ 9
theorem zcln (i : Int32) : i.toNatClampNeg = i.toInt.toNat := rfl
theorem zRw_c {f : Nat → Int32} (h : zRw f) {n : Nat} (hn : n % 6 = 2) : 0 ≤ (f n).toInt ∧ (f n).toInt ≤ 3 := by
  have e : n = 6 * (n / 6) + 2 := by omega
  rw [e]; exact ⟨(h _).1, (h _).2.1⟩
theorem zRw_s {f : Nat → Int32} (h : zRw f) {n k c : Nat} (hk : k < 3) (hn : n = c + 1 + k) (hc : c % 6 = 2) (hlt : (k : Int) < (f c).toInt) : 0 ≤ (f n).toInt ∧ (f n).toInt ≤ 9 := by
  have e : c = 6 * (c / 6) + 2 := by omega
  have e2 : n = 6 * (c / 6) + 3 + k := by omega
  rw [e] at hlt
  rw [e2]; exact (h _).2.2 k hk hlt
theorem zRw_01 {f : Nat → Int32} (h : zRw f) {n : Nat} {x : Int32} (hn : n % 6 = 0 ∨ n % 6 = 1) : zRw (upd f n x) := by
  intro g
  have h1 := h g
  rw [pk_un (f := f) (x := x) (show 6 * g + 2 ≠ n by omega)]
  refine ⟨h1.1, h1.2.1, fun k hk hl => ?_⟩
  rw [pk_un (f := f) (x := x) (show 6 * g + 3 + k ≠ n by omega)]
  exact h1.2.2 k hk hl
theorem zRw_2 {f : Nat → Int32} (h : zRw f) {n : Nat} {x : Int32} (hn : n % 6 = 2) (hx0 : 0 ≤ x.toInt) (hx3 : x.toInt ≤ 3) (hs : ∀ k : Nat, k < 3 → (k : Int) < x.toInt → 0 ≤ (f (n + 1 + k)).toInt ∧ (f (n + 1 + k)).toInt ≤ 9) : zRw (upd f n x) := by
  intro g
  have h1 := h g
  rcases Nat.decEq (6 * g + 2) n with q | q
  · rw [pk_un (f := f) (x := x) q]
    refine ⟨h1.1, h1.2.1, fun k hk hl => ?_⟩
    rw [pk_un (f := f) (x := x) (show 6 * g + 3 + k ≠ n by omega)]
    exact h1.2.2 k hk hl
  · subst q
    rw [pk_us]
    refine ⟨hx0, hx3, fun k hk hl => ?_⟩
    rw [pk_un (f := f) (x := x) (show 6 * g + 3 + k ≠ 6 * g + 2 by omega)]
    have := hs k hk hl
    rw [show 6 * g + 3 + k = 6 * g + 2 + 1 + k by omega]
    exact this
theorem zRw_3 {f : Nat → Int32} (h : zRw f) {n c : Nat} {x : Int32} (hc : c % 6 = 2) (hn : c + 1 ≤ n ∧ n < c + 4) (hx : (f c).toInt = 0 ∨ (0 ≤ x.toInt ∧ x.toInt ≤ 9)) : zRw (upd f n x) := by
  intro g
  have h1 := h g
  rw [pk_un (f := f) (x := x) (show 6 * g + 2 ≠ n by omega)]
  refine ⟨h1.1, h1.2.1, fun k hk hl => ?_⟩
  rcases Nat.decEq (6 * g + 3 + k) n with q | q
  · rw [pk_un (f := f) (x := x) q]
    exact h1.2.2 k hk hl
  · have e : c = 6 * g + 2 := by omega
    subst e
    rcases hx with q0 | q0
    · omega
    · rw [q, pk_us]; exact q0
theorem zRw_cpy {b rr r0 : Nat → Int32} {gl : Nat} {z : Int} (hz : z = 6 * (gl : Int)) (hR : zRw rr) (h0 : zRw r0) (e : ∀ n : Nat, b n = if (n : Int) < z then rr n else r0 n) : zRw b := by
  intro g
  rcases Nat.lt_or_ge g gl with q | q
  · have h1 := hR g
    rw [e, if_pos (by omega)]
    refine ⟨h1.1, h1.2.1, fun k hk hl => ?_⟩
    rw [e, if_pos (by omega)]
    exact h1.2.2 k hk hl
  · have h1 := h0 g
    rw [e, if_neg (by omega)]
    refine ⟨h1.1, h1.2.1, fun k hk hl => ?_⟩
    rw [e, if_neg (by omega)]
    exact h1.2.2 k hk hl
theorem zRw_cI {f : Nat → Int32} (h : zRw f) {c : Int32} (h0 : 0 ≤ c.toInt) (hc : c.toInt % 6 = 2) : 0 ≤ (f c.toNatClampNeg).toInt ∧ (f c.toNatClampNeg).toInt ≤ 3 := zRw_c h (by rw [zcln]; omega)
theorem zRw_sI {f : Nat → Int32} (h : zRw f) {i k c : Int32} (h0 : 0 ≤ c.toInt) (hc : c.toInt % 6 = 2) (hk0 : 0 ≤ k.toInt) (hi : i.toInt = c.toInt + 1 + k.toInt) (hk : k.toInt < (f c.toNatClampNeg).toInt) : 0 ≤ (f i.toNatClampNeg).toInt ∧ (f i.toNatClampNeg).toInt ≤ 9 := by
  have h3 := zRw_cI h h0 hc
  refine zRw_s h (n := i.toNatClampNeg) (k := k.toInt.toNat) (c := c.toNatClampNeg) (by omega) ?_ ?_ (by omega)
  · rw [zcln, zcln]; omega
  · rw [zcln]; omega
theorem zRw_01I {f : Nat → Int32} (h : zRw f) {i x : Int32} (h0 : 0 ≤ i.toInt) (hn : i.toInt % 6 = 0 ∨ i.toInt % 6 = 1) : zRw (upd f i.toNatClampNeg x) := zRw_01 h (by rw [zcln]; omega)
theorem zRw_20 {f : Nat → Int32} (h : zRw f) {i : Int32} (h0 : 0 ≤ i.toInt) (hn : i.toInt % 6 = 2) : zRw (upd f i.toNatClampNeg 0) := by
  have e0 : (0 : Int32).toInt = 0 := by decide
  exact zRw_2 h (by rw [zcln]; omega) (by decide) (by decide) (fun k _ hl => absurd hl (by omega))
theorem zRw_3I {f : Nat → Int32} (h : zRw f) {i c x : Int32} (h0 : 0 ≤ c.toInt) (hc : c.toInt % 6 = 2) (hn : c.toInt + 1 ≤ i.toInt ∧ i.toInt < c.toInt + 4) (hx : (f c.toNatClampNeg).toInt = 0 ∨ (0 ≤ x.toInt ∧ x.toInt ≤ 9)) : zRw (upd f i.toNatClampNeg x) ∧ upd f i.toNatClampNeg x c.toNatClampNeg = f c.toNatClampNeg := by
  refine ⟨zRw_3 h (c := c.toNatClampNeg) (by rw [zcln]; omega) (by rw [zcln, zcln]; omega) hx, ?_⟩
  rw [pk_un (f := f) (x := x) (show c.toNatClampNeg ≠ i.toNatClampNeg by rw [zcln, zcln]; omega)]
theorem zRw_add {f a b : Nat → Int32} {c i x : Int32} (h : zRw f) (h0 : 0 ≤ c.toInt) (hc : c.toInt % 6 = 2) (hi : i.toInt = c.toInt + 1 + (f c.toNatClampNeg).toInt) (h3 : (f c.toNatClampNeg).toInt < 3) (hx0 : 0 ≤ x.toInt) (hx9 : x.toInt ≤ 9) (ea : upd f i.toNatClampNeg x = a) (eb : upd a c.toNatClampNeg (a c.toNatClampNeg + 1) = b) : zRw b := by
  have hc3 := zRw_cI h h0 hc
  obtain ⟨ha, hac⟩ := zRw_3I h (i := i) (x := x) h0 hc (by omega) (Or.inr ⟨hx0, hx9⟩)
  rw [ea] at ha hac
  have hv : (a c.toNatClampNeg + 1).toInt = (f c.toNatClampNeg).toInt + 1 := by
    rw [hac]; exact zaddE rfl (by decide : (1 : Int32).toInt = 1) rfl (by omega) (by omega)
  rw [← eb]
  refine zRw_2 ha (by rw [zcln]; omega) (by omega) (by omega) (fun k hk hl => ?_)
  rw [← ea]
  rcases Nat.decEq (c.toNatClampNeg + 1 + k) i.toNatClampNeg with q | q
  · rw [pk_un (f := f) (x := x) q]
    rw [zcln, zcln] at q
    refine zRw_s h (c := c.toNatClampNeg) hk rfl (by rw [zcln]; omega) (by omega)
  · rw [q, pk_us]; exact ⟨hx0, hx9⟩
theorem zcp1 {a b rr r0 : Nat → Int32} {i : Int32} (h0 : 0 ≤ i.toInt) (h : ∀ n : Nat, a n = if (n : Int) < i.toInt then rr n else r0 n) (e : upd a i.toNatClampNeg (rr i.toNatClampNeg) = b) : ∀ n : Nat, b n = if (n : Int) < i.toInt + 1 then rr n else r0 n := by
  intro n
  rw [← e]
  rcases Nat.decEq n i.toNatClampNeg with q | q
  · rw [pk_un (f := a) q, h n]
    rw [zcln] at q
    rcases Int.lt_or_le (n : Int) i.toInt with t | t
    · rw [if_pos t, if_pos (by omega)]
    · rw [if_neg (by omega), if_neg (by omega)]
  · rw [q, pk_us, if_pos (by rw [zcln]; omega)]
