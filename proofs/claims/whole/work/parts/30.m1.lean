def m_X6_isIn (p1 : Int64) (p2 : Int64) (p3 : Int64) : Int32 :=
 if (lg_cmp p1 p2) < (0 : Int32) then
  (0 : Int32)
 else
  if (0 : Int32) < (lg_cmp p1 p3) then
   (0 : Int32)
  else
   (1 : Int32)
set_option maxHeartbeats 4000000 in
set_option maxRecDepth 100000 in
theorem k_X6_isIn (l : Launch) (dC : Nat → ClassId) (dI : Nat → Nat → Nat) (cI cJ cC : ClassId) (sz : Nat) (p1 : Int64) (p2 : Int64) (p3 : Int64) (r : Int32) (hT : m_X6_isIn p1 p2 p3 = r) : Met l yX6_isIn wsX6_isIn ({ frames := 0, cells := 0, slots := 0, locals := 0 }) (zPc [.long p1, .long p2, .long p3] (dC, dI) (zTy cI cJ cC) [] sz) (zQi r ((zB01 r) ∧ (r.toInt = 0 ∨ (p2.toInt ≤ p1.toInt ∧ p1.toInt ≤ p3.toInt))) (dC, dI) (zTy cI cJ cC) [] (va_A [] sz)) 0 0 (va_A [] sz) := by
  refine Met.ofW (cc := cX6_isIn) (maxL := 6) (ret := (some .boolean)) (by decide) rfl ?_
  intro p e s m args below meth c s₁ B hml hv
  obtain ⟨rfl, hsz, hP, hK, hD0⟩ := hv
  have hx := B.exec
  have hb := B.bytes
  have hr := B.returns
  have hts := atoms_spec (ws := wsX6_isIn) B.pre
  have hown : s.vm.findClass RX6 = some m.cls := findClass_of_methodNamed B.named
  have hlocks := B.notSynchronized
  subst hsz
  have hD := hD0.self (sz := s.heap.size)
  generalize hAe : va_A [] s.heap.size = A at hD ⊢
  have hA : ∀ q : Nat, s.heap.size ≤ q → A q := fun q h => by rw [← hAe]; exact Or.inr h
  have hS : va_S A s.heap s.heap [] := va_S.rf
  have hP : va_P (dC, dI) vwCl [] s.heap := hP
  have hK : va_K (dC, dI) vwCl (zTy cI cJ cC) s := hK
  have hl := lv_entry ([.long p1, .long p2, .long p3]) (n := 6) (Nat.le_of_ble_eq_true rfl)
  rw [lg_entry_eq]
  generalize (lg_sl ([.long p1, .long p2, .long p3]) ++ List.replicate (6 - (lg_sl ([.long p1, .long p2, .long p3])).length) Slot.unset).toArray = ls at hl ⊢
  have hl : lv_has ls 6 [(0, .long p1), (2, .long p2), (4, .long p3)] := hl
  refine zz_start hP hS (fun Q hQ H locs hP hS => ?_)
  refine lv_lload_n hx hb dX6_isIn_0 rfl (lv_at hl 0 rfl) ?_
  refine lv_lload_n hx hb dX6_isIn_1 rfl (lv_at hl 1 rfl) ?_
  refine W.lcmp hx hb dX6_isIn_2 ?_
  refine lv_if_lt (tgt := 17) hx hb dX6_isIn_3 (by decide) (fun c_1 => ?_) (fun c_1 => ?_)
  · replace hT := cutT c_1 hT
    have g_3 := zlc_lt.mp c_1
    refine lv_iconst (v := (0 : Int32)) hx hb dX6_isIn_17 (by decide) ?_
    have hP9 := hP
    have hD9 := hD
    have hS9 := hS
    have hT : (0 : Int32) = r := hT
    subst hT
    subst hQ
    exact zz_zret hx hb hr rfl [] hK hP9 hD9 hS9 rfl rfl ⟨(Or.inl rfl), (by first | (left; decide) | (right; omega))⟩ hlocks dX6_isIn_18
  · replace hT := cutF c_1 hT
    have g_4 := mt zlc_lt.mpr c_1
    refine lv_lload_n hx hb dX6_isIn_6 rfl (lv_at hl 0 rfl) ?_
    refine lv_lload hx hb dX6_isIn_7 (lv_at hl 2 rfl) ?_
    refine W.lcmp hx hb dX6_isIn_9 ?_
    refine lv_if_gt (tgt := 17) hx hb dX6_isIn_10 (by decide) (fun c_2 => ?_) (fun c_2 => ?_)
    · replace hT := cutT c_2 hT
      have g_5 := zlc_gt.mp c_2
      refine lv_iconst (v := (0 : Int32)) hx hb dX6_isIn_17 (by decide) ?_
      have hP9 := hP
      have hD9 := hD
      have hS9 := hS
      have hT : (0 : Int32) = r := hT
      subst hT
      subst hQ
      exact zz_zret hx hb hr rfl [] hK hP9 hD9 hS9 rfl rfl ⟨(Or.inl rfl), (by first | (left; decide) | (right; omega))⟩ hlocks dX6_isIn_18
    · replace hT := cutF c_2 hT
      have g_6 := mt zlc_gt.mpr c_2
      refine lv_iconst (v := (1 : Int32)) hx hb dX6_isIn_13 (by decide) ?_
      refine lv_goto (tgt := 18) hx hb dX6_isIn_14 (by decide) ?_
      have hP9 := hP
      have hD9 := hD
      have hS9 := hS
      have hT : (1 : Int32) = r := hT
      subst hT
      subst hQ
      exact zz_zret hx hb hr rfl [] hK hP9 hD9 hS9 rfl rfl ⟨(Or.inr rfl), (by first | (left; decide) | (right; omega))⟩ hlocks dX6_isIn_18

def rs_X6_letters_4  (x18 : Int32) (x19 : Int32) (x20 : Nat → Int32) : Int32 × Int32 × (Nat → Int32) :=
 (x19, x19, x20)
def lp_X6_letters_4 (x8 : Int32) (ct4 : Int32 → Int32 → (Nat → Int32) → (Int32 × Int32 × (Nat → Int32))) (p1 : Int64) : Nat → Int32 → Int32 → (Nat → Int32) → (Int32 × Int32 × (Nat → Int32))
  | 0, _, _, _ => default
  | k + 1, b15, b16, b17 =>
  if x8 ≤ b15 then
   (ct4 b15 b16 b17)
  else
   cut (upd b17 b16.toNatClampNeg ((((p1.toUInt64 >>> (((8 : Int32) * b15).toInt64.toUInt64 &&& Int64.toUInt64 63)).toInt64) &&& (255 : Int64)).toInt32)) (fun (a21 : Nat → Int32) =>
   cut (b16 + (1 : Int32)) (fun (v22 : Int32) =>
   cut (b15 + (1 : Int32)) (fun (v23 : Int32) =>
   (lp_X6_letters_4 x8 ct4 p1 k v23 v22 a21))))
def rs_X6_letters_3 (vo_pageMany : Int32) (vo_page : Nat → Int32) (p1 : Int64) (x5 : Int32) (x6 : Int64) (x7 : Int32) (x8 : Int32) : Int32 × Int32 × (Nat → Int32) :=
 if x7 = (0 : Int32) then
  ((-102 : Int32), vo_pageMany, vo_page)
 else
  if (vo_pageMany + x8) ≤ (70 : Int32) then
   (lp_X6_letters_4 x8 rs_X6_letters_4 p1 10 (0 : Int32) vo_pageMany vo_page)
  else
   ((-104 : Int32), vo_pageMany, vo_page)
def lp_X6_letters_3 (ct3 : Int32 → Int64 → Int32 → Int32 → (Int32 × Int32 × (Nat → Int32))) : Nat → Int32 → Int64 → Int32 → Int32 → (Int32 × Int32 × (Nat → Int32))
  | 0, _, _, _, _ => default
  | k + 1, b1, b2, b3, b4 =>
  if (8 : Int32) ≤ b1 then
   (ct3 b1 b2 b3 b4)
  else
   cut ((b2 &&& (255 : Int64)).toInt32) (fun (v9 : Int32) =>
   cut ((b2.toUInt64 >>> ((8 : Int32).toInt64.toUInt64 &&& Int64.toUInt64 63)).toInt64) (fun (v10 : Int64) =>
   cut (
    if b3 = (0 : Int32) then
     (0 : Int32)
    else
     if (126 : Int32) < v9 then
      (0 : Int32)
     else
      if v9 = (0 : Int32) then
       (1 : Int32)
      else
       if b4 = b1 then
        (1 : Int32)
       else
        (0 : Int32)) (fun (j11 : Int32) =>
   cut (
    if v9 ≤ (0 : Int32) then
     (0 : Int32)
    else
     (1 : Int32)) (fun (j12 : Int32) =>
   cut (b4 + j12) (fun (v13 : Int32) =>
   cut (b1 + (1 : Int32)) (fun (v14 : Int32) =>
   (lp_X6_letters_3 ct3 k v14 v10 j11 v13)))))))
def m_X6_letters (vo_pageMany : Int32) (vo_page : Nat → Int32) (p1 : Int64) : Int32 × Int32 × (Nat → Int32) :=
 (lp_X6_letters_3 (rs_X6_letters_3 vo_pageMany vo_page p1) 10 (0 : Int32) p1 (1 : Int32) (0 : Int32))
set_option maxHeartbeats 4000000 in
set_option maxRecDepth 100000 in
theorem k_X6_letters (l : Launch) (dC : Nat → ClassId) (dI : Nat → Nat → Nat) (cI cJ cC : ClassId) (sz : Nat) (o o_page o_readRows o_rows o_turns o_amounts o_drank o_takes o_leans o_would o_keptAmounts o_keptDrank o_keptTurns : Nat) (vo_pageMany : Int32) (vo_readMany : Int32) (vo_state : Int32) (vo_readMost : Int32) (vo_glasses : Int32) (vo_towersRead : Int32) (vo_poured : Int32) (vo_spilt : Int64) (vo_done : Int32) (vo_seedNow : Int32) (vo_keptTower : Int32) (vo_keptPoured : Int32) (vo_keptSpilt : Int64) (vo_hash : Int64) (vo_page : Nat → Int32) (p1 : Int64) (r : Int32) (qo_pageMany : Int32) (qo_page : Nat → Int32) (hT : m_X6_letters vo_pageMany vo_page p1 = (r, qo_pageMany, qo_page)) (hp0 : 0 ≤ vo_pageMany.toInt) (hp70 : vo_pageMany.toInt ≤ 70) : Met l yX6_letters wsX6_letters ({ frames := 0, cells := 0, slots := 0, locals := 0 }) (zPc [.ref o, .long p1] (dC, dI) (zTy cI cJ cC) [(o, .inr (6, [.ref o_page, .int vo_pageMany, .int vo_readMany, .int vo_state, .int vo_readMost, .ref o_readRows, .int vo_glasses, .int vo_towersRead, .int vo_poured, .ref o_rows, .ref o_turns, .ref o_amounts, .ref o_drank, .long vo_spilt, .ref o_takes, .ref o_leans, .ref o_would, .int vo_done, .int vo_seedNow, .int vo_keptTower, .int vo_keptPoured, .long vo_keptSpilt, .ref o_keptAmounts, .ref o_keptDrank, .ref o_keptTurns, .long vo_hash])), (o_page, .inl (cI, 70, .inl vo_page))] sz) (zQi r ((0 ≤ qo_pageMany.toInt) ∧ (qo_pageMany.toInt ≤ 70)) (dC, dI) (zTy cI cJ cC) [(o, .inr (6, [.ref o_page, .int qo_pageMany, .int vo_readMany, .int vo_state, .int vo_readMost, .ref o_readRows, .int vo_glasses, .int vo_towersRead, .int vo_poured, .ref o_rows, .ref o_turns, .ref o_amounts, .ref o_drank, .long vo_spilt, .ref o_takes, .ref o_leans, .ref o_would, .int vo_done, .int vo_seedNow, .int vo_keptTower, .int vo_keptPoured, .long vo_keptSpilt, .ref o_keptAmounts, .ref o_keptDrank, .ref o_keptTurns, .long vo_hash])), (o_page, .inl (cI, 70, .inl qo_page))] (va_A [(o, .inr (6, [.ref o_page, .int vo_pageMany, .int vo_readMany, .int vo_state, .int vo_readMost, .ref o_readRows, .int vo_glasses, .int vo_towersRead, .int vo_poured, .ref o_rows, .ref o_turns, .ref o_amounts, .ref o_drank, .long vo_spilt, .ref o_takes, .ref o_leans, .ref o_would, .int vo_done, .int vo_seedNow, .int vo_keptTower, .int vo_keptPoured, .long vo_keptSpilt, .ref o_keptAmounts, .ref o_keptDrank, .ref o_keptTurns, .long vo_hash])), (o_page, .inl (cI, 70, .inl vo_page))] sz)) 0 0 (va_A [(o, .inr (6, [.ref o_page, .int vo_pageMany, .int vo_readMany, .int vo_state, .int vo_readMost, .ref o_readRows, .int vo_glasses, .int vo_towersRead, .int vo_poured, .ref o_rows, .ref o_turns, .ref o_amounts, .ref o_drank, .long vo_spilt, .ref o_takes, .ref o_leans, .ref o_would, .int vo_done, .int vo_seedNow, .int vo_keptTower, .int vo_keptPoured, .long vo_keptSpilt, .ref o_keptAmounts, .ref o_keptDrank, .ref o_keptTurns, .long vo_hash])), (o_page, .inl (cI, 70, .inl vo_page))] sz) := by
  refine Met.ofW (cc := cX6_letters) (maxL := 9) (ret := (some .int)) (by decide) rfl ?_
  intro p e s m args below meth c s₁ B hml hv
  obtain ⟨rfl, hsz, hP, hK, hD0⟩ := hv
  have hx := B.exec
  have hb := B.bytes
  have hr := B.returns
  have hts := atoms_spec (ws := wsX6_letters) B.pre
  have hown : s.vm.findClass RX6 = some m.cls := findClass_of_methodNamed B.named
  have hlocks := B.notSynchronized
  subst hsz
  have hD := hD0.self (sz := s.heap.size)
  generalize hAe : va_A [(o, .inr (6, [.ref o_page, .int vo_pageMany, .int vo_readMany, .int vo_state, .int vo_readMost, .ref o_readRows, .int vo_glasses, .int vo_towersRead, .int vo_poured, .ref o_rows, .ref o_turns, .ref o_amounts, .ref o_drank, .long vo_spilt, .ref o_takes, .ref o_leans, .ref o_would, .int vo_done, .int vo_seedNow, .int vo_keptTower, .int vo_keptPoured, .long vo_keptSpilt, .ref o_keptAmounts, .ref o_keptDrank, .ref o_keptTurns, .long vo_hash])), (o_page, .inl (cI, 70, .inl vo_page))] s.heap.size = A at hD ⊢
  have hA : ∀ q : Nat, s.heap.size ≤ q → A q := fun q h => by rw [← hAe]; exact Or.inr h
  have hS : va_S A s.heap s.heap [] := va_S.rf
  have hP : va_P (dC, dI) vwCl [(o, .inr (6, [.ref o_page, .int vo_pageMany, .int vo_readMany, .int vo_state, .int vo_readMost, .ref o_readRows, .int vo_glasses, .int vo_towersRead, .int vo_poured, .ref o_rows, .ref o_turns, .ref o_amounts, .ref o_drank, .long vo_spilt, .ref o_takes, .ref o_leans, .ref o_would, .int vo_done, .int vo_seedNow, .int vo_keptTower, .int vo_keptPoured, .long vo_keptSpilt, .ref o_keptAmounts, .ref o_keptDrank, .ref o_keptTurns, .long vo_hash])), (o_page, .inl (cI, 70, .inl vo_page))] s.heap := hP
  have hK : va_K (dC, dI) vwCl (zTy cI cJ cC) s := hK
  have hl := lv_entry ([.ref o, .long p1]) (n := 9) (Nat.le_of_ble_eq_true rfl)
  rw [lg_entry_eq]
  generalize (lg_sl ([.ref o, .long p1]) ++ List.replicate (9 - (lg_sl ([.ref o, .long p1])).length) Slot.unset).toArray = ls at hl ⊢
  have hl : lv_has ls 9 [(0, .ref o), (1, .long p1)] := hl
  refine zz_start hP hS (fun Q hQ H locs hP hS => ?_)
  have hwX6 : ∀ w ∈ u_ws RX6 TX6 26, w ∈ wsX6_letters := by decide +kernel
  have hc_51 := (hts (.constantLong RX6 51 (255)) (by decide +kernel))
  have hf_53 := (hts (.fieldLink RX6 53 "PouredTopmostModel" "pageMany" "I") (by decide +kernel))
  have hf_7 := (hts (.fieldLink RX6 7 "PouredTopmostModel" "page" "[I") (by decide +kernel))
  refine lv_iconst (v := (0 : Int32)) hx hb dX6_letters_0 (by decide) ?_
  refine lv_istore_n (lv' := [(3, .int (0 : Int32)), (0, .ref o), (1, .long p1)]) hx hb dX6_letters_1 rfl hl (by decide) rfl (fun ls hl => ?_)
  refine lv_iconst (v := (1 : Int32)) hx hb dX6_letters_2 (by decide) ?_
  refine lv_istore (lv' := [(4, .int (1 : Int32)), (3, .int (0 : Int32)), (0, .ref o), (1, .long p1)]) hx hb dX6_letters_3 hl (by decide) rfl (fun ls hl => ?_)
  refine lv_lload_n hx hb dX6_letters_5 rfl (lv_at hl 3 rfl) ?_
  refine lv_lstore (lv' := [(5, .long p1), (4, .int (1 : Int32)), (3, .int (0 : Int32)), (0, .ref o), (1, .long p1)]) hx hb dX6_letters_6 hl (by decide) rfl (fun ls hl => ?_)
  refine lv_iconst (v := (0 : Int32)) hx hb dX6_letters_8 (by decide) ?_
  refine lv_istore (lv' := [(7, .int (0 : Int32)), (5, .long p1), (4, .int (1 : Int32)), (3, .int (0 : Int32)), (0, .ref o), (1, .long p1)]) hx hb dX6_letters_9 hl (by decide) rfl (fun ls hl => ?_)
  have hz_11 : ((0 : Int32)).toInt = 0 := by decide
  have hz_12 : ((1 : Int32)).toInt = 1 := by decide
  have hz_13 : ((0 : Int32)).toInt = 0 := by decide
  refine zz_loop (α := Int32 × Int64 × Int32 × Int32) 83 (fun k a H locs ls => (0 ≤ a.1.toInt) ∧ (a.1.toInt ≤ 8) ∧ (0 ≤ a.2.2.2.toInt) ∧ (a.2.2.2.toInt ≤ a.1.toInt) ∧ (8 - a.1.toInt < ((k : Nat) : Int)) ∧ lp_X6_letters_3 (rs_X6_letters_3 vo_pageMany vo_page p1) k a.1 a.2.1 a.2.2.1 a.2.2.2 = (r, qo_pageMany, qo_page) ∧ va_P (dC, dI) vwCl [(o, .inr (6, [.ref o_page, .int vo_pageMany, .int vo_readMany, .int vo_state, .int vo_readMost, .ref o_readRows, .int vo_glasses, .int vo_towersRead, .int vo_poured, .ref o_rows, .ref o_turns, .ref o_amounts, .ref o_drank, .long vo_spilt, .ref o_takes, .ref o_leans, .ref o_would, .int vo_done, .int vo_seedNow, .int vo_keptTower, .int vo_keptPoured, .long vo_keptSpilt, .ref o_keptAmounts, .ref o_keptDrank, .ref o_keptTurns, .long vo_hash])), (o_page, .inl (cI, 70, .inl vo_page))] H ∧ va_D A [(o, .inr (6, [.ref o_page, .int vo_pageMany, .int vo_readMany, .int vo_state, .int vo_readMost, .ref o_readRows, .int vo_glasses, .int vo_towersRead, .int vo_poured, .ref o_rows, .ref o_turns, .ref o_amounts, .ref o_drank, .long vo_spilt, .ref o_takes, .ref o_leans, .ref o_would, .int vo_done, .int vo_seedNow, .int vo_keptTower, .int vo_keptPoured, .long vo_keptSpilt, .ref o_keptAmounts, .ref o_keptDrank, .ref o_keptTurns, .long vo_hash])), (o_page, .inl (cI, 70, .inl vo_page))] ∧ va_S A s.heap H locs ∧ lv_has ls 9 [(7, .int a.1), (5, .long a.2.1), (4, .int a.2.2.1), (3, .int a.2.2.2), (0, .ref o), (1, .long p1)]) (fun a H locs ls => (0 ≤ a.1.toInt) ∧ (a.1.toInt ≤ 8) ∧ (0 ≤ a.2.2.2.toInt) ∧ (a.2.2.2.toInt ≤ a.1.toInt) ∧ (rs_X6_letters_3 vo_pageMany vo_page p1) a.1 a.2.1 a.2.2.1 a.2.2.2 = (r, qo_pageMany, qo_page) ∧ va_P (dC, dI) vwCl [(o, .inr (6, [.ref o_page, .int vo_pageMany, .int vo_readMany, .int vo_state, .int vo_readMost, .ref o_readRows, .int vo_glasses, .int vo_towersRead, .int vo_poured, .ref o_rows, .ref o_turns, .ref o_amounts, .ref o_drank, .long vo_spilt, .ref o_takes, .ref o_leans, .ref o_would, .int vo_done, .int vo_seedNow, .int vo_keptTower, .int vo_keptPoured, .long vo_keptSpilt, .ref o_keptAmounts, .ref o_keptDrank, .ref o_keptTurns, .long vo_hash])), (o_page, .inl (cI, 70, .inl vo_page))] H ∧ va_D A [(o, .inr (6, [.ref o_page, .int vo_pageMany, .int vo_readMany, .int vo_state, .int vo_readMost, .ref o_readRows, .int vo_glasses, .int vo_towersRead, .int vo_poured, .ref o_rows, .ref o_turns, .ref o_amounts, .ref o_drank, .long vo_spilt, .ref o_takes, .ref o_leans, .ref o_would, .int vo_done, .int vo_seedNow, .int vo_keptTower, .int vo_keptPoured, .long vo_keptSpilt, .ref o_keptAmounts, .ref o_keptDrank, .ref o_keptTurns, .long vo_hash])), (o_page, .inl (cI, 70, .inl vo_page))] ∧ va_S A s.heap H locs ∧ lv_has ls 9 [(4, .int a.2.2.1), (3, .int a.2.2.2), (0, .ref o), (1, .long p1)]) ?_ ?_ ?_ 10 ((0 : Int32), p1, (1 : Int32), (0 : Int32)) ⟨(by omega : 0 ≤ (0 : Int32).toInt), (by omega : (0 : Int32).toInt ≤ 8), (by omega : 0 ≤ (0 : Int32).toInt), (by omega : (0 : Int32).toInt ≤ (0 : Int32).toInt), (by omega : 8 - (0 : Int32).toInt < ((10 : Nat) : Int)), hT, hP.sub [0, 1] rfl, hD.sub [0, 1] rfl rfl, hS, lv_sub hl [0, 1, 2, 3, 4, 5] rfl⟩
  · rintro ⟨x5, x6, x7, x8⟩ H locs ls ⟨i1, j1, y1, y2, hT, hP, hD, hS, hl⟩
    have hP : va_P (dC, dI) vwCl [(o, .inr (6, [.ref o_page, .int vo_pageMany, .int vo_readMany, .int vo_state, .int vo_readMost, .ref o_readRows, .int vo_glasses, .int vo_towersRead, .int vo_poured, .ref o_rows, .ref o_turns, .ref o_amounts, .ref o_drank, .long vo_spilt, .ref o_takes, .ref o_leans, .ref o_would, .int vo_done, .int vo_seedNow, .int vo_keptTower, .int vo_keptPoured, .long vo_keptSpilt, .ref o_keptAmounts, .ref o_keptDrank, .ref o_keptTurns, .long vo_hash])), (o_page, .inl (cI, 70, .inl vo_page))] H := hP
    have hD : va_D A [(o, .inr (6, [.ref o_page, .int vo_pageMany, .int vo_readMany, .int vo_state, .int vo_readMost, .ref o_readRows, .int vo_glasses, .int vo_towersRead, .int vo_poured, .ref o_rows, .ref o_turns, .ref o_amounts, .ref o_drank, .long vo_spilt, .ref o_takes, .ref o_leans, .ref o_would, .int vo_done, .int vo_seedNow, .int vo_keptTower, .int vo_keptPoured, .long vo_keptSpilt, .ref o_keptAmounts, .ref o_keptDrank, .ref o_keptTurns, .long vo_hash])), (o_page, .inl (cI, 70, .inl vo_page))] := hD
    have hl : lv_has ls 9 [(4, .int x7), (3, .int x8), (0, .ref o), (1, .long p1)] := hl
    have hT : (rs_X6_letters_3 vo_pageMany vo_page p1) x5 x6 x7 x8 = (r, qo_pageMany, qo_page) := hT
    have i1 : 0 ≤ x5.toInt := i1
    have j1 : x5.toInt ≤ 8 := j1
    have y1 : 0 ≤ x8.toInt := y1
    have y2 : x8.toInt ≤ x5.toInt := y2
    refine lv_iload hx hb dX6_letters_83 (lv_at hl 0 rfl) ?_
    refine lv_if_ne (tgt := 91) hx hb dX6_letters_85 (by decide) (fun c_7 => ?_) (fun c_7 => ?_)
    · replace hT := cutF c_7 hT
      have g_14 := zeqF (rfl : (x7).toInt = _) (by decide : ((0 : Int32)).toInt = 0) c_7
      refine lv_aload_n hx hb dX6_letters_91 rfl (lv_at hl 2 rfl) ?_
      refine va_get (D := (dC, dI)) (ci := 6) (v := .int vo_pageMany) (C := RX6) (T := TX6) (N := 26) hx hb hts hwX6 hown hK hP 0 rfl rfl 1 (by decide) hf_53 (fun _ h9 => h9) rfl dX6_letters_92 ?_
      refine lv_iload_n hx hb dX6_letters_95 rfl (lv_at hl 1 rfl) ?_
      refine lv_iadd hx hb dX6_letters_96 ?_
      refine lv_bipush (v := (70 : Int32)) hx hb dX6_letters_97 (by decide) ?_
      try have e_15 := zaddE (v := (vo_pageMany + x8)) (rfl : (vo_pageMany).toInt = _) (rfl : (x8).toInt = _) rfl (by omega) (by omega)
      refine lv_icmp_le (tgt := 105) hx hb dX6_letters_99 (by decide) (fun c_8 => ?_) (fun c_8 => ?_)
      · replace hT := cutT c_8 hT
        have g_16 := zleT (rfl : ((vo_pageMany + x8)).toInt = _) (by decide : ((70 : Int32)).toInt = 70) c_8
        refine lv_iconst (v := (0 : Int32)) hx hb dX6_letters_105 (by decide) ?_
        refine lv_istore (lv' := [(7, .int (0 : Int32)), (4, .int x7), (3, .int x8), (0, .ref o), (1, .long p1)]) hx hb dX6_letters_106 hl (by decide) rfl (fun ls hl => ?_)
        have hz_17 : ((0 : Int32)).toInt = 0 := by decide
        refine zz_loop (α := Int32 × Int32 × (Nat → Int32)) 151 (fun k a H locs ls => (0 ≤ a.1.toInt) ∧ (a.1.toInt ≤ 8) ∧ (a.2.1.toInt = vo_pageMany.toInt + a.1.toInt) ∧ (a.2.1.toInt ≤ 70) ∧ (8 - a.1.toInt < ((k : Nat) : Int)) ∧ lp_X6_letters_4 x8 rs_X6_letters_4 p1 k a.1 a.2.1 a.2.2 = (r, qo_pageMany, qo_page) ∧ va_P (dC, dI) vwCl [(o, .inr (6, [.ref o_page, .int a.2.1, .int vo_readMany, .int vo_state, .int vo_readMost, .ref o_readRows, .int vo_glasses, .int vo_towersRead, .int vo_poured, .ref o_rows, .ref o_turns, .ref o_amounts, .ref o_drank, .long vo_spilt, .ref o_takes, .ref o_leans, .ref o_would, .int vo_done, .int vo_seedNow, .int vo_keptTower, .int vo_keptPoured, .long vo_keptSpilt, .ref o_keptAmounts, .ref o_keptDrank, .ref o_keptTurns, .long vo_hash])), (o_page, .inl (cI, 70, .inl a.2.2))] H ∧ va_D A [(o, .inr (6, [.ref o_page, .int a.2.1, .int vo_readMany, .int vo_state, .int vo_readMost, .ref o_readRows, .int vo_glasses, .int vo_towersRead, .int vo_poured, .ref o_rows, .ref o_turns, .ref o_amounts, .ref o_drank, .long vo_spilt, .ref o_takes, .ref o_leans, .ref o_would, .int vo_done, .int vo_seedNow, .int vo_keptTower, .int vo_keptPoured, .long vo_keptSpilt, .ref o_keptAmounts, .ref o_keptDrank, .ref o_keptTurns, .long vo_hash])), (o_page, .inl (cI, 70, .inl a.2.2))] ∧ va_S A s.heap H locs ∧ lv_has ls 9 [(7, .int a.1), (3, .int x8), (0, .ref o), (1, .long p1)]) (fun a H locs ls => (0 ≤ a.1.toInt) ∧ (a.1.toInt ≤ 8) ∧ (a.2.1.toInt = vo_pageMany.toInt + a.1.toInt) ∧ (a.2.1.toInt ≤ 70) ∧ rs_X6_letters_4 a.1 a.2.1 a.2.2 = (r, qo_pageMany, qo_page) ∧ va_P (dC, dI) vwCl [(o, .inr (6, [.ref o_page, .int a.2.1, .int vo_readMany, .int vo_state, .int vo_readMost, .ref o_readRows, .int vo_glasses, .int vo_towersRead, .int vo_poured, .ref o_rows, .ref o_turns, .ref o_amounts, .ref o_drank, .long vo_spilt, .ref o_takes, .ref o_leans, .ref o_would, .int vo_done, .int vo_seedNow, .int vo_keptTower, .int vo_keptPoured, .long vo_keptSpilt, .ref o_keptAmounts, .ref o_keptDrank, .ref o_keptTurns, .long vo_hash])), (o_page, .inl (cI, 70, .inl a.2.2))] H ∧ va_D A [(o, .inr (6, [.ref o_page, .int a.2.1, .int vo_readMany, .int vo_state, .int vo_readMost, .ref o_readRows, .int vo_glasses, .int vo_towersRead, .int vo_poured, .ref o_rows, .ref o_turns, .ref o_amounts, .ref o_drank, .long vo_spilt, .ref o_takes, .ref o_leans, .ref o_would, .int vo_done, .int vo_seedNow, .int vo_keptTower, .int vo_keptPoured, .long vo_keptSpilt, .ref o_keptAmounts, .ref o_keptDrank, .ref o_keptTurns, .long vo_hash])), (o_page, .inl (cI, 70, .inl a.2.2))] ∧ va_S A s.heap H locs ∧ lv_has ls 9 [(0, .ref o)]) ?_ ?_ ?_ 10 ((0 : Int32), vo_pageMany, vo_page) ⟨(by omega : 0 ≤ (0 : Int32).toInt), (by omega : (0 : Int32).toInt ≤ 8), (by omega : vo_pageMany.toInt = vo_pageMany.toInt + (0 : Int32).toInt), (by omega : vo_pageMany.toInt ≤ 70), (by omega : 8 - (0 : Int32).toInt < ((10 : Nat) : Int)), hT, hP.sub [0, 1] rfl, hD.sub [0, 1] rfl rfl, hS, lv_sub hl [0, 2, 3, 4] rfl⟩
        · rintro ⟨x18, x19, x20⟩ H locs ls ⟨i2, j2, y3, y4, hT, hP, hD, hS, hl⟩
          have hP : va_P (dC, dI) vwCl [(o, .inr (6, [.ref o_page, .int x19, .int vo_readMany, .int vo_state, .int vo_readMost, .ref o_readRows, .int vo_glasses, .int vo_towersRead, .int vo_poured, .ref o_rows, .ref o_turns, .ref o_amounts, .ref o_drank, .long vo_spilt, .ref o_takes, .ref o_leans, .ref o_would, .int vo_done, .int vo_seedNow, .int vo_keptTower, .int vo_keptPoured, .long vo_keptSpilt, .ref o_keptAmounts, .ref o_keptDrank, .ref o_keptTurns, .long vo_hash])), (o_page, .inl (cI, 70, .inl x20))] H := hP
          have hD : va_D A [(o, .inr (6, [.ref o_page, .int x19, .int vo_readMany, .int vo_state, .int vo_readMost, .ref o_readRows, .int vo_glasses, .int vo_towersRead, .int vo_poured, .ref o_rows, .ref o_turns, .ref o_amounts, .ref o_drank, .long vo_spilt, .ref o_takes, .ref o_leans, .ref o_would, .int vo_done, .int vo_seedNow, .int vo_keptTower, .int vo_keptPoured, .long vo_keptSpilt, .ref o_keptAmounts, .ref o_keptDrank, .ref o_keptTurns, .long vo_hash])), (o_page, .inl (cI, 70, .inl x20))] := hD
          have hl : lv_has ls 9 [(0, .ref o)] := hl
          have hT : rs_X6_letters_4 x18 x19 x20 = (r, qo_pageMany, qo_page) := hT
          have i2 : 0 ≤ x18.toInt := i2
          have j2 : x18.toInt ≤ 8 := j2
          have y3 : x19.toInt = vo_pageMany.toInt + x18.toInt := y3
          have y4 : x19.toInt ≤ 70 := y4
          refine lv_aload_n hx hb dX6_letters_151 rfl (lv_at hl 0 rfl) ?_
          refine va_get (D := (dC, dI)) (ci := 6) (v := .int x19) (C := RX6) (T := TX6) (N := 26) hx hb hts hwX6 hown hK hP 0 rfl rfl 1 (by decide) hf_53 (fun _ h9 => h9) rfl dX6_letters_152 ?_
          have hP9 := hP
          have hD9 := hD
          have hS9 := hS
          have hT : (x19, x19, x20) = (r, qo_pageMany, qo_page) := hT
          cases hT
          subst hQ
          exact zz_iret hx hb hr [0, 1] hK hP9 hD9 hS9 rfl rfl ⟨(by omega), (by omega)⟩ hlocks dX6_letters_155
        · rintro ⟨b15, b16, b17⟩ H locs ls ⟨i2, j2, y3, y4, hm, -⟩
          try dsimp only at *
          omega
        · intro k4 hex4 ih4
          rintro ⟨b15, b16, b17⟩ H locs ls ⟨i2, j2, y3, y4, hm4, hT, hP, hD, hS, hl⟩
          have hP : va_P (dC, dI) vwCl [(o, .inr (6, [.ref o_page, .int b16, .int vo_readMany, .int vo_state, .int vo_readMost, .ref o_readRows, .int vo_glasses, .int vo_towersRead, .int vo_poured, .ref o_rows, .ref o_turns, .ref o_amounts, .ref o_drank, .long vo_spilt, .ref o_takes, .ref o_leans, .ref o_would, .int vo_done, .int vo_seedNow, .int vo_keptTower, .int vo_keptPoured, .long vo_keptSpilt, .ref o_keptAmounts, .ref o_keptDrank, .ref o_keptTurns, .long vo_hash])), (o_page, .inl (cI, 70, .inl b17))] H := hP
          have hD : va_D A [(o, .inr (6, [.ref o_page, .int b16, .int vo_readMany, .int vo_state, .int vo_readMost, .ref o_readRows, .int vo_glasses, .int vo_towersRead, .int vo_poured, .ref o_rows, .ref o_turns, .ref o_amounts, .ref o_drank, .long vo_spilt, .ref o_takes, .ref o_leans, .ref o_would, .int vo_done, .int vo_seedNow, .int vo_keptTower, .int vo_keptPoured, .long vo_keptSpilt, .ref o_keptAmounts, .ref o_keptDrank, .ref o_keptTurns, .long vo_hash])), (o_page, .inl (cI, 70, .inl b17))] := hD
          have hl : lv_has ls 9 [(7, .int b15), (3, .int x8), (0, .ref o), (1, .long p1)] := hl
          have hT : lp_X6_letters_4 x8 rs_X6_letters_4 p1 (k4 + 1) b15 b16 b17 = (r, qo_pageMany, qo_page) := hT
          have i2 : 0 ≤ b15.toInt := i2
          have j2 : b15.toInt ≤ 8 := j2
          have y3 : b16.toInt = vo_pageMany.toInt + b15.toInt := y3
          have y4 : b16.toInt ≤ 70 := y4
          have hm4 : 8 - b15.toInt < (((k4 + 1) : Nat) : Int) := hm4
          try simp only [Int.natCast_add, Int.natCast_one, Nat.cast_add, Nat.cast_one] at hm4
          refine lv_iload hx hb dX6_letters_108 (lv_at hl 0 rfl) ?_
          refine lv_iload_n hx hb dX6_letters_110 rfl (lv_at hl 1 rfl) ?_
          refine lv_icmp_ge (tgt := 151) hx hb dX6_letters_111 (by decide) (fun c_9 => ?_) (fun c_9 => ?_)
          · replace hT := cutT c_9 hT
            have g_18 := zleT (rfl : (x8).toInt = _) (rfl : (b15).toInt = _) c_9
            exact hex4 (b15, b16, b17) _ _ _ ⟨(by omega : 0 ≤ b15.toInt), (by omega : b15.toInt ≤ 8), (by omega : b16.toInt = vo_pageMany.toInt + b15.toInt), (by omega : b16.toInt ≤ 70), hT, hP.sub [0, 1] rfl, hD.sub [0, 1] rfl rfl, hS, lv_sub hl [2] rfl⟩
          · replace hT := cutF c_9 hT
            have g_19 := zleF (rfl : (x8).toInt = _) (rfl : (b15).toInt = _) c_9
            refine lv_aload_n hx hb dX6_letters_114 rfl (lv_at hl 2 rfl) ?_
            refine va_get (D := (dC, dI)) (ci := 6) (v := .ref o_page) (C := RX6) (T := TX6) (N := 26) hx hb hts hwX6 hown hK hP 0 rfl rfl 0 (by decide) hf_7 (fun _ h9 => h9) rfl dX6_letters_115 ?_
            refine lv_aload_n hx hb dX6_letters_118 rfl (lv_at hl 2 rfl) ?_
            refine va_get (D := (dC, dI)) (ci := 6) (v := .int b16) (C := RX6) (T := TX6) (N := 26) hx hb hts hwX6 hown hK hP 0 rfl rfl 1 (by decide) hf_53 (fun _ h9 => h9) rfl dX6_letters_119 ?_
            refine lv_lload_n hx hb dX6_letters_122 rfl (lv_at hl 3 rfl) ?_
            refine lv_bipush (v := (8 : Int32)) hx hb dX6_letters_123 (by decide) ?_
            refine lv_iload hx hb dX6_letters_125 (lv_at hl 0 rfl) ?_
            refine lv_imul hx hb dX6_letters_127 ?_
            refine lv_lushr (v := ((p1.toUInt64 >>> (((8 : Int32) * b15).toInt64.toUInt64 &&& Int64.toUInt64 63)).toInt64)) hx hb dX6_letters_128 rfl ?_
            refine lv_ldc2 (v := (255 : Int64)) hx hb hown hc_51 dX6_letters_129 ?_
            refine lv_land hx hb dX6_letters_132 ?_
            refine lv_l2i (v := ((((p1.toUInt64 >>> (((8 : Int32) * b15).toInt64.toUInt64 &&& Int64.toUInt64 63)).toInt64) &&& (255 : Int64)).toInt32)) hx hb dX6_letters_133 rfl ?_
            have h_10 : vp_in b16 70 := zin (by omega) (by omega)
            refine va_iast hx hb hK hP hD hS 1 0 rfl rfl h_10 dX6_letters_134 (fun H locs hP hD hS => ?_)
            obtain ⟨a21, ea21⟩ : ∃ z, (upd b17 b16.toNatClampNeg ((((p1.toUInt64 >>> (((8 : Int32) * b15).toInt64.toUInt64 &&& Int64.toUInt64 63)).toInt64) &&& (255 : Int64)).toInt32)) = z := ⟨_, rfl⟩
            replace hT := cut_n ea21 hT
            have hP : va_P (dC, dI) vwCl [(o, .inr (6, [.ref o_page, .int b16, .int vo_readMany, .int vo_state, .int vo_readMost, .ref o_readRows, .int vo_glasses, .int vo_towersRead, .int vo_poured, .ref o_rows, .ref o_turns, .ref o_amounts, .ref o_drank, .long vo_spilt, .ref o_takes, .ref o_leans, .ref o_would, .int vo_done, .int vo_seedNow, .int vo_keptTower, .int vo_keptPoured, .long vo_keptSpilt, .ref o_keptAmounts, .ref o_keptDrank, .ref o_keptTurns, .long vo_hash])), (o_page, .inl (cI, 70, .inl a21))] H := by rw [← ea21]; exact hP
            have hD : va_D A [(o, .inr (6, [.ref o_page, .int b16, .int vo_readMany, .int vo_state, .int vo_readMost, .ref o_readRows, .int vo_glasses, .int vo_towersRead, .int vo_poured, .ref o_rows, .ref o_turns, .ref o_amounts, .ref o_drank, .long vo_spilt, .ref o_takes, .ref o_leans, .ref o_would, .int vo_done, .int vo_seedNow, .int vo_keptTower, .int vo_keptPoured, .long vo_keptSpilt, .ref o_keptAmounts, .ref o_keptDrank, .ref o_keptTurns, .long vo_hash])), (o_page, .inl (cI, 70, .inl a21))] := by rw [← ea21]; exact hD
            refine lv_aload_n hx hb dX6_letters_135 rfl (lv_at hl 2 rfl) ?_
            refine lv_dup hx hb dX6_letters_136 rfl ?_
            refine va_get (D := (dC, dI)) (ci := 6) (v := .int b16) (C := RX6) (T := TX6) (N := 26) hx hb hts hwX6 hown hK hP 0 rfl rfl 1 (by decide) hf_53 (fun _ h9 => h9) rfl dX6_letters_137 ?_
            refine lv_iconst (v := (1 : Int32)) hx hb dX6_letters_140 (by decide) ?_
            refine lv_iadd hx hb dX6_letters_141 ?_
            refine lv_topi (fun v22 ev22 => ?_)
            replace hT := cut_n ev22.symm hT
            try have fv22 := zaddE (rfl : (b16).toInt = _) (by decide : ((1 : Int32)).toInt = 1) ev22.symm (by omega) (by omega)
            refine va_put (D := (dC, dI)) (ci := 6) (v := .int v22) (ty := .int) (C := RX6) (T := TX6) (N := 26) hx hb hts hwX6 tyX6 tyX6_ok nmX6 hown hK hP hD hS 0 rfl rfl 1 (by decide) hf_53 (fun _ h9 => h9) rfl (by decide +kernel) rfl rfl (Nat.le_of_ble_eq_true rfl) dX6_letters_142 (fun H locs hP hD hS => ?_)
            have hP : va_P (dC, dI) vwCl [(o, .inr (6, [.ref o_page, .int v22, .int vo_readMany, .int vo_state, .int vo_readMost, .ref o_readRows, .int vo_glasses, .int vo_towersRead, .int vo_poured, .ref o_rows, .ref o_turns, .ref o_amounts, .ref o_drank, .long vo_spilt, .ref o_takes, .ref o_leans, .ref o_would, .int vo_done, .int vo_seedNow, .int vo_keptTower, .int vo_keptPoured, .long vo_keptSpilt, .ref o_keptAmounts, .ref o_keptDrank, .ref o_keptTurns, .long vo_hash])), (o_page, .inl (cI, 70, .inl a21))] H := hP
            have hD : va_D A [(o, .inr (6, [.ref o_page, .int v22, .int vo_readMany, .int vo_state, .int vo_readMost, .ref o_readRows, .int vo_glasses, .int vo_towersRead, .int vo_poured, .ref o_rows, .ref o_turns, .ref o_amounts, .ref o_drank, .long vo_spilt, .ref o_takes, .ref o_leans, .ref o_would, .int vo_done, .int vo_seedNow, .int vo_keptTower, .int vo_keptPoured, .long vo_keptSpilt, .ref o_keptAmounts, .ref o_keptDrank, .ref o_keptTurns, .long vo_hash])), (o_page, .inl (cI, 70, .inl a21))] := hD
            obtain ⟨v23, ev23⟩ : ∃ y : Int32, (b15 + (1 : Int32)) = y := ⟨_, rfl⟩
            replace hT := cut_n ev23 hT
            try have fv23 := zaddE (rfl : (b15).toInt = _) (by decide : ((1 : Int32)).toInt = 1) ev23 (by omega) (by omega)
            refine lv_iinc (v := v23) (lv' := [(7, .int v23), (3, .int x8), (0, .ref o), (1, .long p1)]) hx hb dX6_letters_145 hl (k := 0) rfl (by rw [← ev23]; rfl) (by decide) rfl (fun ls hl => ?_)
            refine lv_goto (tgt := 108) hx hb dX6_letters_148 (by decide) ?_
            exact ih4 (v23, v22, a21) _ _ _ ⟨(by omega : 0 ≤ v23.toInt), (by omega : v23.toInt ≤ 8), (by omega : v22.toInt = vo_pageMany.toInt + v23.toInt), (by omega : v22.toInt ≤ 70), (by omega : 8 - v23.toInt < ((k4 : Nat) : Int)), hT, hP.sub [0, 1] rfl, hD.sub [0, 1] rfl rfl, hS, lv_sub hl [0, 1, 2, 3] rfl⟩
      · replace hT := cutF c_8 hT
        have g_20 := zleF (rfl : ((vo_pageMany + x8)).toInt = _) (by decide : ((70 : Int32)).toInt = 70) c_8
        refine lv_bipush (v := (-104 : Int32)) hx hb dX6_letters_102 (by decide) ?_
        have hP9 := hP
        have hD9 := hD
        have hS9 := hS
        have hT : ((-104 : Int32), vo_pageMany, vo_page) = (r, qo_pageMany, qo_page) := hT
        cases hT
        subst hQ
        exact zz_iret hx hb hr [0, 1] hK hP9 hD9 hS9 rfl rfl ⟨(by omega), (by omega)⟩ hlocks dX6_letters_104
    · replace hT := cutT c_7 hT
      have g_21 := zeqT (rfl : (x7).toInt = _) (by decide : ((0 : Int32)).toInt = 0) c_7
      refine lv_bipush (v := (-102 : Int32)) hx hb dX6_letters_88 (by decide) ?_
      have hP9 := hP
      have hD9 := hD
      have hS9 := hS
      have hT : ((-102 : Int32), vo_pageMany, vo_page) = (r, qo_pageMany, qo_page) := hT
      cases hT
      subst hQ
      exact zz_iret hx hb hr [0, 1] hK hP9 hD9 hS9 rfl rfl ⟨(by omega), (by omega)⟩ hlocks dX6_letters_90
  · rintro ⟨b1, b2, b3, b4⟩ H locs ls ⟨i1, j1, y1, y2, hm, -⟩
    try dsimp only at *
    omega
  · intro k3 hex3 ih3
    rintro ⟨b1, b2, b3, b4⟩ H locs ls ⟨i1, j1, y1, y2, hm3, hT, hP, hD, hS, hl⟩
    have hP : va_P (dC, dI) vwCl [(o, .inr (6, [.ref o_page, .int vo_pageMany, .int vo_readMany, .int vo_state, .int vo_readMost, .ref o_readRows, .int vo_glasses, .int vo_towersRead, .int vo_poured, .ref o_rows, .ref o_turns, .ref o_amounts, .ref o_drank, .long vo_spilt, .ref o_takes, .ref o_leans, .ref o_would, .int vo_done, .int vo_seedNow, .int vo_keptTower, .int vo_keptPoured, .long vo_keptSpilt, .ref o_keptAmounts, .ref o_keptDrank, .ref o_keptTurns, .long vo_hash])), (o_page, .inl (cI, 70, .inl vo_page))] H := hP
    have hD : va_D A [(o, .inr (6, [.ref o_page, .int vo_pageMany, .int vo_readMany, .int vo_state, .int vo_readMost, .ref o_readRows, .int vo_glasses, .int vo_towersRead, .int vo_poured, .ref o_rows, .ref o_turns, .ref o_amounts, .ref o_drank, .long vo_spilt, .ref o_takes, .ref o_leans, .ref o_would, .int vo_done, .int vo_seedNow, .int vo_keptTower, .int vo_keptPoured, .long vo_keptSpilt, .ref o_keptAmounts, .ref o_keptDrank, .ref o_keptTurns, .long vo_hash])), (o_page, .inl (cI, 70, .inl vo_page))] := hD
    have hl : lv_has ls 9 [(7, .int b1), (5, .long b2), (4, .int b3), (3, .int b4), (0, .ref o), (1, .long p1)] := hl
    have hT : lp_X6_letters_3 (rs_X6_letters_3 vo_pageMany vo_page p1) (k3 + 1) b1 b2 b3 b4 = (r, qo_pageMany, qo_page) := hT
    have i1 : 0 ≤ b1.toInt := i1
    have j1 : b1.toInt ≤ 8 := j1
    have y1 : 0 ≤ b4.toInt := y1
    have y2 : b4.toInt ≤ b1.toInt := y2
    have hm3 : 8 - b1.toInt < (((k3 + 1) : Nat) : Int) := hm3
    try simp only [Int.natCast_add, Int.natCast_one, Nat.cast_add, Nat.cast_one] at hm3
    refine lv_iload hx hb dX6_letters_11 (lv_at hl 0 rfl) ?_
    refine lv_bipush (v := (8 : Int32)) hx hb dX6_letters_13 (by decide) ?_
    refine lv_icmp_ge (tgt := 83) hx hb dX6_letters_15 (by decide) (fun c_1 => ?_) (fun c_1 => ?_)
    · replace hT := cutT c_1 hT
      have g_22 := zleT (by decide : ((8 : Int32)).toInt = 8) (rfl : (b1).toInt = _) c_1
      exact hex3 (b1, b2, b3, b4) _ _ _ ⟨(by omega : 0 ≤ b1.toInt), (by omega : b1.toInt ≤ 8), (by omega : 0 ≤ b4.toInt), (by omega : b4.toInt ≤ b1.toInt), hT, hP.sub [0, 1] rfl, hD.sub [0, 1] rfl rfl, hS, lv_sub hl [2, 3, 4, 5] rfl⟩
    · replace hT := cutF c_1 hT
      have g_23 := zleF (by decide : ((8 : Int32)).toInt = 8) (rfl : (b1).toInt = _) c_1
      refine lv_lload hx hb dX6_letters_18 (lv_at hl 1 rfl) ?_
      refine lv_ldc2 (v := (255 : Int64)) hx hb hown hc_51 dX6_letters_20 ?_
      refine lv_land hx hb dX6_letters_23 ?_
      refine lv_l2i (v := ((b2 &&& (255 : Int64)).toInt32)) hx hb dX6_letters_24 rfl ?_
      refine lv_topi (fun v9 ev9 => ?_)
      replace hT := cut_n ev9.symm hT
      refine lv_istore (lv' := [(8, .int v9), (7, .int b1), (5, .long b2), (4, .int b3), (3, .int b4), (0, .ref o), (1, .long p1)]) hx hb dX6_letters_25 hl (by decide) rfl (fun ls hl => ?_)
      refine lv_lload hx hb dX6_letters_27 (lv_at hl 2 rfl) ?_
      refine lv_bipush (v := (8 : Int32)) hx hb dX6_letters_29 (by decide) ?_
      refine lv_lushr (v := ((b2.toUInt64 >>> ((8 : Int32).toInt64.toUInt64 &&& Int64.toUInt64 63)).toInt64)) hx hb dX6_letters_31 rfl ?_
      refine lv_topl (fun v10 ev10 => ?_)
      replace hT := cut_n ev10.symm hT
      refine lv_lstore (lv' := [(5, .long v10), (8, .int v9), (7, .int b1), (4, .int b3), (3, .int b4), (0, .ref o), (1, .long p1)]) hx hb dX6_letters_32 hl (by decide) rfl (fun ls hl => ?_)
      refine lv_iload hx hb dX6_letters_34 (lv_at hl 3 rfl) ?_
      refine zz_join1 hT 62 (fun v => [.int v]) (fun v H locs ls => va_P (dC, dI) vwCl [(o, .inr (6, [.ref o_page, .int vo_pageMany, .int vo_readMany, .int vo_state, .int vo_readMost, .ref o_readRows, .int vo_glasses, .int vo_towersRead, .int vo_poured, .ref o_rows, .ref o_turns, .ref o_amounts, .ref o_drank, .long vo_spilt, .ref o_takes, .ref o_leans, .ref o_would, .int vo_done, .int vo_seedNow, .int vo_keptTower, .int vo_keptPoured, .long vo_keptSpilt, .ref o_keptAmounts, .ref o_keptDrank, .ref o_keptTurns, .long vo_hash])), (o_page, .inl (cI, 70, .inl vo_page))] H ∧ va_D A [(o, .inr (6, [.ref o_page, .int vo_pageMany, .int vo_readMany, .int vo_state, .int vo_readMost, .ref o_readRows, .int vo_glasses, .int vo_towersRead, .int vo_poured, .ref o_rows, .ref o_turns, .ref o_amounts, .ref o_drank, .long vo_spilt, .ref o_takes, .ref o_leans, .ref o_would, .int vo_done, .int vo_seedNow, .int vo_keptTower, .int vo_keptPoured, .long vo_keptSpilt, .ref o_keptAmounts, .ref o_keptDrank, .ref o_keptTurns, .long vo_hash])), (o_page, .inl (cI, 70, .inl vo_page))] ∧ va_S A s.heap H locs ∧ lv_has ls 9 [(0, .ref o), (1, .long p1), (3, .int b4), (5, .long v10), (7, .int b1), (8, .int v9)]) ?_ ?_
      · rintro j11 ej_24 H locs ls ⟨hP, hD, hS, hl⟩
        replace hT := cut_n ej_24 hT
        have hP : va_P (dC, dI) vwCl [(o, .inr (6, [.ref o_page, .int vo_pageMany, .int vo_readMany, .int vo_state, .int vo_readMost, .ref o_readRows, .int vo_glasses, .int vo_towersRead, .int vo_poured, .ref o_rows, .ref o_turns, .ref o_amounts, .ref o_drank, .long vo_spilt, .ref o_takes, .ref o_leans, .ref o_would, .int vo_done, .int vo_seedNow, .int vo_keptTower, .int vo_keptPoured, .long vo_keptSpilt, .ref o_keptAmounts, .ref o_keptDrank, .ref o_keptTurns, .long vo_hash])), (o_page, .inl (cI, 70, .inl vo_page))] H := hP
        have hD : va_D A [(o, .inr (6, [.ref o_page, .int vo_pageMany, .int vo_readMany, .int vo_state, .int vo_readMost, .ref o_readRows, .int vo_glasses, .int vo_towersRead, .int vo_poured, .ref o_rows, .ref o_turns, .ref o_amounts, .ref o_drank, .long vo_spilt, .ref o_takes, .ref o_leans, .ref o_would, .int vo_done, .int vo_seedNow, .int vo_keptTower, .int vo_keptPoured, .long vo_keptSpilt, .ref o_keptAmounts, .ref o_keptDrank, .ref o_keptTurns, .long vo_hash])), (o_page, .inl (cI, 70, .inl vo_page))] := hD
        have hl : lv_has ls 9 [(0, .ref o), (1, .long p1), (3, .int b4), (5, .long v10), (7, .int b1), (8, .int v9)] := hl
        refine lv_istore (lv' := [(4, .int j11), (0, .ref o), (1, .long p1), (3, .int b4), (5, .long v10), (7, .int b1), (8, .int v9)]) hx hb dX6_letters_62 hl (by decide) rfl (fun ls hl => ?_)
        refine lv_iload_n hx hb dX6_letters_64 rfl (lv_at hl 3 rfl) ?_
        refine lv_iload hx hb dX6_letters_65 (lv_at hl 6 rfl) ?_
        refine zz_join1 hT 75 (fun v => [.int v, .int b4]) (fun v H locs ls => va_P (dC, dI) vwCl [(o, .inr (6, [.ref o_page, .int vo_pageMany, .int vo_readMany, .int vo_state, .int vo_readMost, .ref o_readRows, .int vo_glasses, .int vo_towersRead, .int vo_poured, .ref o_rows, .ref o_turns, .ref o_amounts, .ref o_drank, .long vo_spilt, .ref o_takes, .ref o_leans, .ref o_would, .int vo_done, .int vo_seedNow, .int vo_keptTower, .int vo_keptPoured, .long vo_keptSpilt, .ref o_keptAmounts, .ref o_keptDrank, .ref o_keptTurns, .long vo_hash])), (o_page, .inl (cI, 70, .inl vo_page))] H ∧ va_D A [(o, .inr (6, [.ref o_page, .int vo_pageMany, .int vo_readMany, .int vo_state, .int vo_readMost, .ref o_readRows, .int vo_glasses, .int vo_towersRead, .int vo_poured, .ref o_rows, .ref o_turns, .ref o_amounts, .ref o_drank, .long vo_spilt, .ref o_takes, .ref o_leans, .ref o_would, .int vo_done, .int vo_seedNow, .int vo_keptTower, .int vo_keptPoured, .long vo_keptSpilt, .ref o_keptAmounts, .ref o_keptDrank, .ref o_keptTurns, .long vo_hash])), (o_page, .inl (cI, 70, .inl vo_page))] ∧ va_S A s.heap H locs ∧ lv_has ls 9 [(0, .ref o), (1, .long p1), (4, .int j11), (5, .long v10), (7, .int b1)]) ?_ ?_
        · rintro j12 ej_25 H locs ls ⟨hP, hD, hS, hl⟩
          replace hT := cut_n ej_25 hT
          have hP : va_P (dC, dI) vwCl [(o, .inr (6, [.ref o_page, .int vo_pageMany, .int vo_readMany, .int vo_state, .int vo_readMost, .ref o_readRows, .int vo_glasses, .int vo_towersRead, .int vo_poured, .ref o_rows, .ref o_turns, .ref o_amounts, .ref o_drank, .long vo_spilt, .ref o_takes, .ref o_leans, .ref o_would, .int vo_done, .int vo_seedNow, .int vo_keptTower, .int vo_keptPoured, .long vo_keptSpilt, .ref o_keptAmounts, .ref o_keptDrank, .ref o_keptTurns, .long vo_hash])), (o_page, .inl (cI, 70, .inl vo_page))] H := hP
          have hD : va_D A [(o, .inr (6, [.ref o_page, .int vo_pageMany, .int vo_readMany, .int vo_state, .int vo_readMost, .ref o_readRows, .int vo_glasses, .int vo_towersRead, .int vo_poured, .ref o_rows, .ref o_turns, .ref o_amounts, .ref o_drank, .long vo_spilt, .ref o_takes, .ref o_leans, .ref o_would, .int vo_done, .int vo_seedNow, .int vo_keptTower, .int vo_keptPoured, .long vo_keptSpilt, .ref o_keptAmounts, .ref o_keptDrank, .ref o_keptTurns, .long vo_hash])), (o_page, .inl (cI, 70, .inl vo_page))] := hD
          have hl : lv_has ls 9 [(0, .ref o), (1, .long p1), (4, .int j11), (5, .long v10), (7, .int b1)] := hl
          have hj75 : 0 ≤ j12.toInt ∧ j12.toInt ≤ 1 := by rw [← ej_25]; (try simp only [cut]); (repeat' split) <;> decide
          refine lv_iadd hx hb dX6_letters_75 ?_
          refine lv_topi (fun v13 ev13 => ?_)
          replace hT := cut_n ev13.symm hT
          try have fv13 := zaddE (rfl : (b4).toInt = _) (rfl : (j12).toInt = _) ev13.symm (by omega) (by omega)
          refine lv_istore_n (lv' := [(3, .int v13), (0, .ref o), (1, .long p1), (4, .int j11), (5, .long v10), (7, .int b1)]) hx hb dX6_letters_76 rfl hl (by decide) rfl (fun ls hl => ?_)
          obtain ⟨v14, ev14⟩ : ∃ y : Int32, (b1 + (1 : Int32)) = y := ⟨_, rfl⟩
          replace hT := cut_n ev14 hT
          try have fv14 := zaddE (rfl : (b1).toInt = _) (by decide : ((1 : Int32)).toInt = 1) ev14 (by omega) (by omega)
          refine lv_iinc (v := v14) (lv' := [(7, .int v14), (3, .int v13), (0, .ref o), (1, .long p1), (4, .int j11), (5, .long v10)]) hx hb dX6_letters_77 hl (k := 5) rfl (by rw [← ev14]; rfl) (by decide) rfl (fun ls hl => ?_)
          refine lv_goto (tgt := 11) hx hb dX6_letters_80 (by decide) ?_
          exact ih3 (v14, v10, j11, v13) _ _ _ ⟨(by omega : 0 ≤ v14.toInt), (by omega : v14.toInt ≤ 8), (by omega : 0 ≤ v13.toInt), (by omega : v13.toInt ≤ v14.toInt), (by omega : 8 - v14.toInt < ((k3 : Nat) : Int)), hT, hP.sub [0, 1] rfl, hD.sub [0, 1] rfl rfl, hS, lv_sub hl [0, 5, 4, 1, 2, 3] rfl⟩
        · intro xv hT hM
          refine lv_if_le (tgt := 74) hx hb dX6_letters_67 (by decide) (fun c_6 => ?_) (fun c_6 => ?_)
          · replace hT := cutT c_6 hT
            have g_26 := zleT (rfl : (v9).toInt = _) (by decide : ((0 : Int32)).toInt = 0) c_6
            refine lv_iconst (v := (0 : Int32)) hx hb dX6_letters_74 (by decide) ?_
            have hP9 := hP
            have hD9 := hD
            have hS9 := hS
            have hl9 := hl
            have hM9 := hM
            have hT : (0 : Int32) = xv := hT
            subst hT
            exact hM9 _ _ _ ⟨hP9.sub [0, 1] rfl, hD9.sub [0, 1] rfl rfl, hS9, lv_sub hl9 [1, 2, 0, 4, 5] rfl⟩
          · replace hT := cutF c_6 hT
            have g_27 := zleF (rfl : (v9).toInt = _) (by decide : ((0 : Int32)).toInt = 0) c_6
            refine lv_iconst (v := (1 : Int32)) hx hb dX6_letters_70 (by decide) ?_
            refine lv_goto (tgt := 75) hx hb dX6_letters_71 (by decide) ?_
            have hP9 := hP
            have hD9 := hD
            have hS9 := hS
            have hl9 := hl
            have hM9 := hM
            have hT : (1 : Int32) = xv := hT
            subst hT
            exact hM9 _ _ _ ⟨hP9.sub [0, 1] rfl, hD9.sub [0, 1] rfl rfl, hS9, lv_sub hl9 [1, 2, 0, 4, 5] rfl⟩
      · intro xv hT hM
        refine lv_if_eq (tgt := 61) hx hb dX6_letters_36 (by decide) (fun c_2 => ?_) (fun c_2 => ?_)
        · replace hT := cutT c_2 hT
          have g_28 := zeqT (rfl : (b3).toInt = _) (by decide : ((0 : Int32)).toInt = 0) c_2
          refine lv_iconst (v := (0 : Int32)) hx hb dX6_letters_61 (by decide) ?_
          have hP9 := hP
          have hD9 := hD
          have hS9 := hS
          have hl9 := hl
          have hM9 := hM
          have hT : (0 : Int32) = xv := hT
          subst hT
          exact hM9 _ _ _ ⟨hP9.sub [0, 1] rfl, hD9.sub [0, 1] rfl rfl, hS9, lv_sub hl9 [5, 6, 4, 0, 2, 1] rfl⟩
        · replace hT := cutF c_2 hT
          have g_29 := zeqF (rfl : (b3).toInt = _) (by decide : ((0 : Int32)).toInt = 0) c_2
          refine lv_iload hx hb dX6_letters_39 (lv_at hl 1 rfl) ?_
          refine lv_bipush (v := (126 : Int32)) hx hb dX6_letters_41 (by decide) ?_
          refine lv_icmp_gt (tgt := 61) hx hb dX6_letters_43 (by decide) (fun c_3 => ?_) (fun c_3 => ?_)
          · replace hT := cutT c_3 hT
            have g_30 := zltT (by decide : ((126 : Int32)).toInt = 126) (rfl : (v9).toInt = _) c_3
            refine lv_iconst (v := (0 : Int32)) hx hb dX6_letters_61 (by decide) ?_
            have hP9 := hP
            have hD9 := hD
            have hS9 := hS
            have hl9 := hl
            have hM9 := hM
            have hT : (0 : Int32) = xv := hT
            subst hT
            exact hM9 _ _ _ ⟨hP9.sub [0, 1] rfl, hD9.sub [0, 1] rfl rfl, hS9, lv_sub hl9 [5, 6, 4, 0, 2, 1] rfl⟩
          · replace hT := cutF c_3 hT
            have g_31 := zltF (by decide : ((126 : Int32)).toInt = 126) (rfl : (v9).toInt = _) c_3
            refine lv_iload hx hb dX6_letters_46 (lv_at hl 1 rfl) ?_
            refine lv_if_eq (tgt := 57) hx hb dX6_letters_48 (by decide) (fun c_4 => ?_) (fun c_4 => ?_)
            · replace hT := cutT c_4 hT
              have g_32 := zeqT (rfl : (v9).toInt = _) (by decide : ((0 : Int32)).toInt = 0) c_4
              refine lv_iconst (v := (1 : Int32)) hx hb dX6_letters_57 (by decide) ?_
              refine lv_goto (tgt := 62) hx hb dX6_letters_58 (by decide) ?_
              have hP9 := hP
              have hD9 := hD
              have hS9 := hS
              have hl9 := hl
              have hM9 := hM
              have hT : (1 : Int32) = xv := hT
              subst hT
              exact hM9 _ _ _ ⟨hP9.sub [0, 1] rfl, hD9.sub [0, 1] rfl rfl, hS9, lv_sub hl9 [5, 6, 4, 0, 2, 1] rfl⟩
            · replace hT := cutF c_4 hT
              have g_33 := zeqF (rfl : (v9).toInt = _) (by decide : ((0 : Int32)).toInt = 0) c_4
              refine lv_iload_n hx hb dX6_letters_51 rfl (lv_at hl 4 rfl) ?_
              refine lv_iload hx hb dX6_letters_52 (lv_at hl 2 rfl) ?_
              refine lv_icmp_ne (tgt := 61) hx hb dX6_letters_54 (by decide) (fun c_5 => ?_) (fun c_5 => ?_)
              · replace hT := cutF c_5 hT
                have g_34 := zeqF (rfl : (b4).toInt = _) (rfl : (b1).toInt = _) c_5
                refine lv_iconst (v := (0 : Int32)) hx hb dX6_letters_61 (by decide) ?_
                have hP9 := hP
                have hD9 := hD
                have hS9 := hS
                have hl9 := hl
                have hM9 := hM
                have hT : (0 : Int32) = xv := hT
                subst hT
                exact hM9 _ _ _ ⟨hP9.sub [0, 1] rfl, hD9.sub [0, 1] rfl rfl, hS9, lv_sub hl9 [5, 6, 4, 0, 2, 1] rfl⟩
              · replace hT := cutT c_5 hT
                have g_35 := zeqT (rfl : (b4).toInt = _) (rfl : (b1).toInt = _) c_5
                refine lv_iconst (v := (1 : Int32)) hx hb dX6_letters_57 (by decide) ?_
                refine lv_goto (tgt := 62) hx hb dX6_letters_58 (by decide) ?_
                have hP9 := hP
                have hD9 := hD
                have hS9 := hS
                have hl9 := hl
                have hM9 := hM
                have hT : (1 : Int32) = xv := hT
                subst hT
                exact hM9 _ _ _ ⟨hP9.sub [0, 1] rfl, hD9.sub [0, 1] rfl rfl, hS9, lv_sub hl9 [5, 6, 4, 0, 2, 1] rfl⟩

def m_X6_blank (vo_pageMany : Int32) : Int32 × Int32 :=
 (vo_pageMany, (0 : Int32))
set_option maxHeartbeats 4000000 in
set_option maxRecDepth 100000 in
theorem k_X6_blank (l : Launch) (dC : Nat → ClassId) (dI : Nat → Nat → Nat) (cI cJ cC : ClassId) (sz : Nat) (o o_page o_readRows o_rows o_turns o_amounts o_drank o_takes o_leans o_would o_keptAmounts o_keptDrank o_keptTurns : Nat) (vo_pageMany : Int32) (vo_readMany : Int32) (vo_state : Int32) (vo_readMost : Int32) (vo_glasses : Int32) (vo_towersRead : Int32) (vo_poured : Int32) (vo_spilt : Int64) (vo_done : Int32) (vo_seedNow : Int32) (vo_keptTower : Int32) (vo_keptPoured : Int32) (vo_keptSpilt : Int64) (vo_hash : Int64) (r : Int32) (qo_pageMany : Int32) (hT : m_X6_blank vo_pageMany = (r, qo_pageMany)) : Met l yX6_blank wsX6_blank ({ frames := 0, cells := 0, slots := 0, locals := 0 }) (zPc [.ref o] (dC, dI) (zTy cI cJ cC) [(o, .inr (6, [.ref o_page, .int vo_pageMany, .int vo_readMany, .int vo_state, .int vo_readMost, .ref o_readRows, .int vo_glasses, .int vo_towersRead, .int vo_poured, .ref o_rows, .ref o_turns, .ref o_amounts, .ref o_drank, .long vo_spilt, .ref o_takes, .ref o_leans, .ref o_would, .int vo_done, .int vo_seedNow, .int vo_keptTower, .int vo_keptPoured, .long vo_keptSpilt, .ref o_keptAmounts, .ref o_keptDrank, .ref o_keptTurns, .long vo_hash]))] sz) (zQi r (True) (dC, dI) (zTy cI cJ cC) [(o, .inr (6, [.ref o_page, .int qo_pageMany, .int vo_readMany, .int vo_state, .int vo_readMost, .ref o_readRows, .int vo_glasses, .int vo_towersRead, .int vo_poured, .ref o_rows, .ref o_turns, .ref o_amounts, .ref o_drank, .long vo_spilt, .ref o_takes, .ref o_leans, .ref o_would, .int vo_done, .int vo_seedNow, .int vo_keptTower, .int vo_keptPoured, .long vo_keptSpilt, .ref o_keptAmounts, .ref o_keptDrank, .ref o_keptTurns, .long vo_hash]))] (va_A [(o, .inr (6, [.ref o_page, .int vo_pageMany, .int vo_readMany, .int vo_state, .int vo_readMost, .ref o_readRows, .int vo_glasses, .int vo_towersRead, .int vo_poured, .ref o_rows, .ref o_turns, .ref o_amounts, .ref o_drank, .long vo_spilt, .ref o_takes, .ref o_leans, .ref o_would, .int vo_done, .int vo_seedNow, .int vo_keptTower, .int vo_keptPoured, .long vo_keptSpilt, .ref o_keptAmounts, .ref o_keptDrank, .ref o_keptTurns, .long vo_hash]))] sz)) 0 0 (va_A [(o, .inr (6, [.ref o_page, .int vo_pageMany, .int vo_readMany, .int vo_state, .int vo_readMost, .ref o_readRows, .int vo_glasses, .int vo_towersRead, .int vo_poured, .ref o_rows, .ref o_turns, .ref o_amounts, .ref o_drank, .long vo_spilt, .ref o_takes, .ref o_leans, .ref o_would, .int vo_done, .int vo_seedNow, .int vo_keptTower, .int vo_keptPoured, .long vo_keptSpilt, .ref o_keptAmounts, .ref o_keptDrank, .ref o_keptTurns, .long vo_hash]))] sz) := by
  refine Met.ofW (cc := cX6_blank) (maxL := 2) (ret := (some .int)) (by decide) rfl ?_
  intro p e s m args below meth c s₁ B hml hv
  obtain ⟨rfl, hsz, hP, hK, hD0⟩ := hv
  have hx := B.exec
  have hb := B.bytes
  have hr := B.returns
  have hts := atoms_spec (ws := wsX6_blank) B.pre
  have hown : s.vm.findClass RX6 = some m.cls := findClass_of_methodNamed B.named
  have hlocks := B.notSynchronized
  subst hsz
  have hD := hD0.self (sz := s.heap.size)
  generalize hAe : va_A [(o, .inr (6, [.ref o_page, .int vo_pageMany, .int vo_readMany, .int vo_state, .int vo_readMost, .ref o_readRows, .int vo_glasses, .int vo_towersRead, .int vo_poured, .ref o_rows, .ref o_turns, .ref o_amounts, .ref o_drank, .long vo_spilt, .ref o_takes, .ref o_leans, .ref o_would, .int vo_done, .int vo_seedNow, .int vo_keptTower, .int vo_keptPoured, .long vo_keptSpilt, .ref o_keptAmounts, .ref o_keptDrank, .ref o_keptTurns, .long vo_hash]))] s.heap.size = A at hD ⊢
  have hA : ∀ q : Nat, s.heap.size ≤ q → A q := fun q h => by rw [← hAe]; exact Or.inr h
  have hS : va_S A s.heap s.heap [] := va_S.rf
  have hP : va_P (dC, dI) vwCl [(o, .inr (6, [.ref o_page, .int vo_pageMany, .int vo_readMany, .int vo_state, .int vo_readMost, .ref o_readRows, .int vo_glasses, .int vo_towersRead, .int vo_poured, .ref o_rows, .ref o_turns, .ref o_amounts, .ref o_drank, .long vo_spilt, .ref o_takes, .ref o_leans, .ref o_would, .int vo_done, .int vo_seedNow, .int vo_keptTower, .int vo_keptPoured, .long vo_keptSpilt, .ref o_keptAmounts, .ref o_keptDrank, .ref o_keptTurns, .long vo_hash]))] s.heap := hP
  have hK : va_K (dC, dI) vwCl (zTy cI cJ cC) s := hK
  have hl := lv_entry ([.ref o]) (n := 2) (Nat.le_of_ble_eq_true rfl)
  rw [lg_entry_eq]
  generalize (lg_sl ([.ref o]) ++ List.replicate (2 - (lg_sl ([.ref o])).length) Slot.unset).toArray = ls at hl ⊢
  have hl : lv_has ls 2 [(0, .ref o)] := hl
  refine zz_start hP hS (fun Q hQ H locs hP hS => ?_)
  have hwX6 : ∀ w ∈ u_ws RX6 TX6 26, w ∈ wsX6_blank := by decide +kernel
  have hf_53 := (hts (.fieldLink RX6 53 "PouredTopmostModel" "pageMany" "I") (by decide +kernel))
  refine lv_aload_n hx hb dX6_blank_0 rfl (lv_at hl 0 rfl) ?_
  refine va_get (D := (dC, dI)) (ci := 6) (v := .int vo_pageMany) (C := RX6) (T := TX6) (N := 26) hx hb hts hwX6 hown hK hP 0 rfl rfl 1 (by decide) hf_53 (fun _ h9 => h9) rfl dX6_blank_1 ?_
  refine lv_istore_n (lv' := [(1, .int vo_pageMany), (0, .ref o)]) hx hb dX6_blank_4 rfl hl (by decide) rfl (fun ls hl => ?_)
  refine lv_aload_n hx hb dX6_blank_5 rfl (lv_at hl 1 rfl) ?_
  refine lv_iconst (v := (0 : Int32)) hx hb dX6_blank_6 (by decide) ?_
  refine va_put (D := (dC, dI)) (ci := 6) (v := .int (0 : Int32)) (ty := .int) (C := RX6) (T := TX6) (N := 26) hx hb hts hwX6 tyX6 tyX6_ok nmX6 hown hK hP hD hS 0 rfl rfl 1 (by decide) hf_53 (fun _ h9 => h9) rfl (by decide +kernel) rfl rfl (Nat.le_of_ble_eq_true rfl) dX6_blank_7 (fun H locs hP hD hS => ?_)
  have hP : va_P (dC, dI) vwCl [(o, .inr (6, [.ref o_page, .int (0 : Int32), .int vo_readMany, .int vo_state, .int vo_readMost, .ref o_readRows, .int vo_glasses, .int vo_towersRead, .int vo_poured, .ref o_rows, .ref o_turns, .ref o_amounts, .ref o_drank, .long vo_spilt, .ref o_takes, .ref o_leans, .ref o_would, .int vo_done, .int vo_seedNow, .int vo_keptTower, .int vo_keptPoured, .long vo_keptSpilt, .ref o_keptAmounts, .ref o_keptDrank, .ref o_keptTurns, .long vo_hash]))] H := hP
  have hD : va_D A [(o, .inr (6, [.ref o_page, .int (0 : Int32), .int vo_readMany, .int vo_state, .int vo_readMost, .ref o_readRows, .int vo_glasses, .int vo_towersRead, .int vo_poured, .ref o_rows, .ref o_turns, .ref o_amounts, .ref o_drank, .long vo_spilt, .ref o_takes, .ref o_leans, .ref o_would, .int vo_done, .int vo_seedNow, .int vo_keptTower, .int vo_keptPoured, .long vo_keptSpilt, .ref o_keptAmounts, .ref o_keptDrank, .ref o_keptTurns, .long vo_hash]))] := hD
  refine lv_iload_n hx hb dX6_blank_10 rfl (lv_at hl 0 rfl) ?_
  have hP9 := hP
  have hD9 := hD
  have hS9 := hS
  have hT : (vo_pageMany, (0 : Int32)) = (r, qo_pageMany) := hT
  cases hT
  subst hQ
  exact zz_iret hx hb hr [0] hK hP9 hD9 hS9 rfl rfl trivial hlocks dX6_blank_11

def m_X6_kindOf (p1 : Int32) : Int32 :=
 if p1 = (99 : Int32) then
  (1 : Int32)
 else
  if p1 = (107 : Int32) then
   (2 : Int32)
  else
   if p1 = (108 : Int32) then
    (3 : Int32)
   else
    if p1 = (115 : Int32) then
     (4 : Int32)
    else
     (-1 : Int32)
set_option maxHeartbeats 4000000 in
set_option maxRecDepth 100000 in
theorem k_X6_kindOf (l : Launch) (dC : Nat → ClassId) (dI : Nat → Nat → Nat) (cI cJ cC : ClassId) (sz : Nat) (p1 : Int32) (r : Int32) (hT : m_X6_kindOf p1 = r) : Met l yX6_kindOf wsX6_kindOf ({ frames := 0, cells := 0, slots := 0, locals := 0 }) (zPc [.int p1] (dC, dI) (zTy cI cJ cC) [] sz) (zQi r (True) (dC, dI) (zTy cI cJ cC) [] (va_A [] sz)) 0 0 (va_A [] sz) := by
  refine Met.ofW (cc := cX6_kindOf) (maxL := 1) (ret := (some .int)) (by decide) rfl ?_
  intro p e s m args below meth c s₁ B hml hv
  obtain ⟨rfl, hsz, hP, hK, hD0⟩ := hv
  have hx := B.exec
  have hb := B.bytes
  have hr := B.returns
  have hts := atoms_spec (ws := wsX6_kindOf) B.pre
  have hown : s.vm.findClass RX6 = some m.cls := findClass_of_methodNamed B.named
  have hlocks := B.notSynchronized
  subst hsz
  have hD := hD0.self (sz := s.heap.size)
  generalize hAe : va_A [] s.heap.size = A at hD ⊢
  have hA : ∀ q : Nat, s.heap.size ≤ q → A q := fun q h => by rw [← hAe]; exact Or.inr h
  have hS : va_S A s.heap s.heap [] := va_S.rf
  have hP : va_P (dC, dI) vwCl [] s.heap := hP
  have hK : va_K (dC, dI) vwCl (zTy cI cJ cC) s := hK
  have hl := lv_entry ([.int p1]) (n := 1) (Nat.le_of_ble_eq_true rfl)
  rw [lg_entry_eq]
  generalize (lg_sl ([.int p1]) ++ List.replicate (1 - (lg_sl ([.int p1])).length) Slot.unset).toArray = ls at hl ⊢
  have hl : lv_has ls 1 [(0, .int p1)] := hl
  refine zz_start hP hS (fun Q hQ H locs hP hS => ?_)
  refine lv_iload_n hx hb dX6_kindOf_0 rfl (lv_at hl 0 rfl) ?_
  refine lv_bipush (v := (99 : Int32)) hx hb dX6_kindOf_1 (by decide) ?_
  refine lv_icmp_ne (tgt := 10) hx hb dX6_kindOf_3 (by decide) (fun c_1 => ?_) (fun c_1 => ?_)
  · replace hT := cutF c_1 hT
    have g_5 := zeqF (rfl : (p1).toInt = _) (by decide : ((99 : Int32)).toInt = 99) c_1
    refine lv_iload_n hx hb dX6_kindOf_10 rfl (lv_at hl 0 rfl) ?_
    refine lv_bipush (v := (107 : Int32)) hx hb dX6_kindOf_11 (by decide) ?_
    refine lv_icmp_ne (tgt := 20) hx hb dX6_kindOf_13 (by decide) (fun c_2 => ?_) (fun c_2 => ?_)
    · replace hT := cutF c_2 hT
      have g_6 := zeqF (rfl : (p1).toInt = _) (by decide : ((107 : Int32)).toInt = 107) c_2
      refine lv_iload_n hx hb dX6_kindOf_20 rfl (lv_at hl 0 rfl) ?_
      refine lv_bipush (v := (108 : Int32)) hx hb dX6_kindOf_21 (by decide) ?_
      refine lv_icmp_ne (tgt := 30) hx hb dX6_kindOf_23 (by decide) (fun c_3 => ?_) (fun c_3 => ?_)
      · replace hT := cutF c_3 hT
        have g_7 := zeqF (rfl : (p1).toInt = _) (by decide : ((108 : Int32)).toInt = 108) c_3
        refine lv_iload_n hx hb dX6_kindOf_30 rfl (lv_at hl 0 rfl) ?_
        refine lv_bipush (v := (115 : Int32)) hx hb dX6_kindOf_31 (by decide) ?_
        refine lv_icmp_ne (tgt := 40) hx hb dX6_kindOf_33 (by decide) (fun c_4 => ?_) (fun c_4 => ?_)
        · replace hT := cutF c_4 hT
          have g_8 := zeqF (rfl : (p1).toInt = _) (by decide : ((115 : Int32)).toInt = 115) c_4
          refine lv_iconst (v := (-1 : Int32)) hx hb dX6_kindOf_40 (by decide) ?_
          have hP9 := hP
          have hD9 := hD
          have hS9 := hS
          have hT : (-1 : Int32) = r := hT
          subst hT
          subst hQ
          exact zz_iret hx hb hr [] hK hP9 hD9 hS9 rfl rfl trivial hlocks dX6_kindOf_41
        · replace hT := cutT c_4 hT
          have g_9 := zeqT (rfl : (p1).toInt = _) (by decide : ((115 : Int32)).toInt = 115) c_4
          refine lv_iconst (v := (4 : Int32)) hx hb dX6_kindOf_36 (by decide) ?_
          refine lv_goto (tgt := 41) hx hb dX6_kindOf_37 (by decide) ?_
          have hP9 := hP
          have hD9 := hD
          have hS9 := hS
          have hT : (4 : Int32) = r := hT
          subst hT
          subst hQ
          exact zz_iret hx hb hr [] hK hP9 hD9 hS9 rfl rfl trivial hlocks dX6_kindOf_41
      · replace hT := cutT c_3 hT
        have g_10 := zeqT (rfl : (p1).toInt = _) (by decide : ((108 : Int32)).toInt = 108) c_3
        refine lv_iconst (v := (3 : Int32)) hx hb dX6_kindOf_26 (by decide) ?_
        refine lv_goto (tgt := 41) hx hb dX6_kindOf_27 (by decide) ?_
        have hP9 := hP
        have hD9 := hD
        have hS9 := hS
        have hT : (3 : Int32) = r := hT
        subst hT
        subst hQ
        exact zz_iret hx hb hr [] hK hP9 hD9 hS9 rfl rfl trivial hlocks dX6_kindOf_41
    · replace hT := cutT c_2 hT
      have g_11 := zeqT (rfl : (p1).toInt = _) (by decide : ((107 : Int32)).toInt = 107) c_2
      refine lv_iconst (v := (2 : Int32)) hx hb dX6_kindOf_16 (by decide) ?_
      refine lv_goto (tgt := 41) hx hb dX6_kindOf_17 (by decide) ?_
      have hP9 := hP
      have hD9 := hD
      have hS9 := hS
      have hT : (2 : Int32) = r := hT
      subst hT
      subst hQ
      exact zz_iret hx hb hr [] hK hP9 hD9 hS9 rfl rfl trivial hlocks dX6_kindOf_41
  · replace hT := cutT c_1 hT
    have g_12 := zeqT (rfl : (p1).toInt = _) (by decide : ((99 : Int32)).toInt = 99) c_1
    refine lv_iconst (v := (1 : Int32)) hx hb dX6_kindOf_6 (by decide) ?_
    refine lv_goto (tgt := 41) hx hb dX6_kindOf_7 (by decide) ?_
    have hP9 := hP
    have hD9 := hD
    have hS9 := hS
    have hT : (1 : Int32) = r := hT
    subst hT
    subst hQ
    exact zz_iret hx hb hr [] hK hP9 hD9 hS9 rfl rfl trivial hlocks dX6_kindOf_41

def m_X6_goHolds (vo_readMany : Int32) (vo_readRows : Nat → Int32) (p1 : Int32) : Int32 × Int32 × (Nat → Int32) :=
 cut (upd vo_readRows (((6 : Int32) * vo_readMany) + (1 : Int32)).toNatClampNeg (p1 - (48 : Int32))) (fun (a1 : Nat → Int32) =>
 cut (m_X6_isIn (p1.toInt64) (49 : Int64) (57 : Int64)) (fun (r2 : Int32) =>
 (r2, (2 : Int32), a1)))
set_option maxHeartbeats 4000000 in
set_option maxRecDepth 100000 in
theorem k_X6_goHolds (l : Launch) (dC : Nat → ClassId) (dI : Nat → Nat → Nat) (cI cJ cC : ClassId) (sz : Nat) (o o_page o_readRows o_rows o_turns o_amounts o_drank o_takes o_leans o_would o_keptAmounts o_keptDrank o_keptTurns : Nat) (vo_pageMany : Int32) (vo_readMany : Int32) (vo_state : Int32) (vo_readMost : Int32) (vo_glasses : Int32) (vo_towersRead : Int32) (vo_poured : Int32) (vo_spilt : Int64) (vo_done : Int32) (vo_seedNow : Int32) (vo_keptTower : Int32) (vo_keptPoured : Int32) (vo_keptSpilt : Int64) (vo_hash : Int64) (vo_readRows : Nat → Int32) (p1 : Int32) (r : Int32) (qo_state : Int32) (qo_readRows : Nat → Int32) (hT : m_X6_goHolds vo_readMany vo_readRows p1 = (r, qo_state, qo_readRows)) (hm0 : 0 ≤ vo_readMany.toInt) (hm8 : vo_readMany.toInt ≤ 8) (hrr : zRw vo_readRows) : Met l yX6_goHolds wsX6_goHolds ({ frames := 1, cells := 0, slots := 0, locals := 25 }) (zPc [.ref o, .int p1] (dC, dI) (zTy cI cJ cC) [(o, .inr (6, [.ref o_page, .int vo_pageMany, .int vo_readMany, .int vo_state, .int vo_readMost, .ref o_readRows, .int vo_glasses, .int vo_towersRead, .int vo_poured, .ref o_rows, .ref o_turns, .ref o_amounts, .ref o_drank, .long vo_spilt, .ref o_takes, .ref o_leans, .ref o_would, .int vo_done, .int vo_seedNow, .int vo_keptTower, .int vo_keptPoured, .long vo_keptSpilt, .ref o_keptAmounts, .ref o_keptDrank, .ref o_keptTurns, .long vo_hash])), (o_readRows, .inl (cI, 54, .inl vo_readRows))] sz) (zQi r ((zB01 r) ∧ (zRw qo_readRows)) (dC, dI) (zTy cI cJ cC) [(o, .inr (6, [.ref o_page, .int vo_pageMany, .int vo_readMany, .int qo_state, .int vo_readMost, .ref o_readRows, .int vo_glasses, .int vo_towersRead, .int vo_poured, .ref o_rows, .ref o_turns, .ref o_amounts, .ref o_drank, .long vo_spilt, .ref o_takes, .ref o_leans, .ref o_would, .int vo_done, .int vo_seedNow, .int vo_keptTower, .int vo_keptPoured, .long vo_keptSpilt, .ref o_keptAmounts, .ref o_keptDrank, .ref o_keptTurns, .long vo_hash])), (o_readRows, .inl (cI, 54, .inl qo_readRows))] (va_A [(o, .inr (6, [.ref o_page, .int vo_pageMany, .int vo_readMany, .int vo_state, .int vo_readMost, .ref o_readRows, .int vo_glasses, .int vo_towersRead, .int vo_poured, .ref o_rows, .ref o_turns, .ref o_amounts, .ref o_drank, .long vo_spilt, .ref o_takes, .ref o_leans, .ref o_would, .int vo_done, .int vo_seedNow, .int vo_keptTower, .int vo_keptPoured, .long vo_keptSpilt, .ref o_keptAmounts, .ref o_keptDrank, .ref o_keptTurns, .long vo_hash])), (o_readRows, .inl (cI, 54, .inl vo_readRows))] sz)) 0 0 (va_A [(o, .inr (6, [.ref o_page, .int vo_pageMany, .int vo_readMany, .int vo_state, .int vo_readMost, .ref o_readRows, .int vo_glasses, .int vo_towersRead, .int vo_poured, .ref o_rows, .ref o_turns, .ref o_amounts, .ref o_drank, .long vo_spilt, .ref o_takes, .ref o_leans, .ref o_would, .int vo_done, .int vo_seedNow, .int vo_keptTower, .int vo_keptPoured, .long vo_keptSpilt, .ref o_keptAmounts, .ref o_keptDrank, .ref o_keptTurns, .long vo_hash])), (o_readRows, .inl (cI, 54, .inl vo_readRows))] sz) := by
  refine Met.ofW (cc := cX6_goHolds) (maxL := 2) (ret := (some .boolean)) (by decide) rfl ?_
  intro p e s m args below meth c s₁ B hml hv
  obtain ⟨rfl, hsz, hP, hK, hD0⟩ := hv
  have hx := B.exec
  have hb := B.bytes
  have hr := B.returns
  have hts := atoms_spec (ws := wsX6_goHolds) B.pre
  have hown : s.vm.findClass RX6 = some m.cls := findClass_of_methodNamed B.named
  have hlocks := B.notSynchronized
  subst hsz
  have hD := hD0.self (sz := s.heap.size)
  generalize hAe : va_A [(o, .inr (6, [.ref o_page, .int vo_pageMany, .int vo_readMany, .int vo_state, .int vo_readMost, .ref o_readRows, .int vo_glasses, .int vo_towersRead, .int vo_poured, .ref o_rows, .ref o_turns, .ref o_amounts, .ref o_drank, .long vo_spilt, .ref o_takes, .ref o_leans, .ref o_would, .int vo_done, .int vo_seedNow, .int vo_keptTower, .int vo_keptPoured, .long vo_keptSpilt, .ref o_keptAmounts, .ref o_keptDrank, .ref o_keptTurns, .long vo_hash])), (o_readRows, .inl (cI, 54, .inl vo_readRows))] s.heap.size = A at hD ⊢
  have hA : ∀ q : Nat, s.heap.size ≤ q → A q := fun q h => by rw [← hAe]; exact Or.inr h
  have hS : va_S A s.heap s.heap [] := va_S.rf
  have hP : va_P (dC, dI) vwCl [(o, .inr (6, [.ref o_page, .int vo_pageMany, .int vo_readMany, .int vo_state, .int vo_readMost, .ref o_readRows, .int vo_glasses, .int vo_towersRead, .int vo_poured, .ref o_rows, .ref o_turns, .ref o_amounts, .ref o_drank, .long vo_spilt, .ref o_takes, .ref o_leans, .ref o_would, .int vo_done, .int vo_seedNow, .int vo_keptTower, .int vo_keptPoured, .long vo_keptSpilt, .ref o_keptAmounts, .ref o_keptDrank, .ref o_keptTurns, .long vo_hash])), (o_readRows, .inl (cI, 54, .inl vo_readRows))] s.heap := hP
  have hK : va_K (dC, dI) vwCl (zTy cI cJ cC) s := hK
  have hl := lv_entry ([.ref o, .int p1]) (n := 2) (Nat.le_of_ble_eq_true rfl)
  rw [lg_entry_eq]
  generalize (lg_sl ([.ref o, .int p1]) ++ List.replicate (2 - (lg_sl ([.ref o, .int p1])).length) Slot.unset).toArray = ls at hl ⊢
  have hl : lv_has ls 2 [(0, .ref o), (1, .int p1)] := hl
  refine zz_start hP hS (fun Q hQ H locs hP hS => ?_)
  have hwX6 : ∀ w ∈ u_ws RX6 TX6 26, w ∈ wsX6_goHolds := by decide +kernel
  have hc_62 := (hts (.constantLong RX6 62 (49)) (by decide +kernel))
  have hc_64 := (hts (.constantLong RX6 64 (57)) (by decide +kernel))
  have hf_13 := (hts (.fieldLink RX6 13 "PouredTopmostModel" "readRows" "[I") (by decide +kernel))
  have hf_56 := (hts (.fieldLink RX6 56 "PouredTopmostModel" "readMany" "I") (by decide +kernel))
  have hf_59 := (hts (.fieldLink RX6 59 "PouredTopmostModel" "state" "I") (by decide +kernel))
  refine lv_aload_n hx hb dX6_goHolds_0 rfl (lv_at hl 0 rfl) ?_
  refine va_get (D := (dC, dI)) (ci := 6) (v := .ref o_readRows) (C := RX6) (T := TX6) (N := 26) hx hb hts hwX6 hown hK hP 0 rfl rfl 5 (by decide) hf_13 (fun _ h9 => h9) rfl dX6_goHolds_1 ?_
  refine lv_bipush (v := (6 : Int32)) hx hb dX6_goHolds_4 (by decide) ?_
  refine lv_aload_n hx hb dX6_goHolds_6 rfl (lv_at hl 0 rfl) ?_
  refine va_get (D := (dC, dI)) (ci := 6) (v := .int vo_readMany) (C := RX6) (T := TX6) (N := 26) hx hb hts hwX6 hown hK hP 0 rfl rfl 2 (by decide) hf_56 (fun _ h9 => h9) rfl dX6_goHolds_7 ?_
  refine lv_imul hx hb dX6_goHolds_10 ?_
  refine lv_iconst (v := (1 : Int32)) hx hb dX6_goHolds_11 (by decide) ?_
  refine lv_iadd hx hb dX6_goHolds_12 ?_
  refine lv_iload_n hx hb dX6_goHolds_13 rfl (lv_at hl 1 rfl) ?_
  refine lv_bipush (v := (48 : Int32)) hx hb dX6_goHolds_14 (by decide) ?_
  refine lv_isub hx hb dX6_goHolds_16 ?_
  have e_2 := zmulE (v := ((6 : Int32) * vo_readMany)) (by decide : ((6 : Int32)).toInt = 6) (rfl : (vo_readMany).toInt = _) rfl (by omega) (by omega)
  have e_3 := zaddE (v := (((6 : Int32) * vo_readMany) + (1 : Int32))) e_2 (by decide : ((1 : Int32)).toInt = 1) rfl (by omega) (by omega)
  have h_1 : vp_in (((6 : Int32) * vo_readMany) + (1 : Int32)) 54 := zin (by omega) (by omega)
  refine va_iast hx hb hK hP hD hS 1 0 rfl rfl h_1 dX6_goHolds_17 (fun H locs hP hD hS => ?_)
  obtain ⟨a1, ea1⟩ : ∃ z, (upd vo_readRows (((6 : Int32) * vo_readMany) + (1 : Int32)).toNatClampNeg (p1 - (48 : Int32))) = z := ⟨_, rfl⟩
  replace hT := cut_n ea1 hT
  have hP : va_P (dC, dI) vwCl [(o, .inr (6, [.ref o_page, .int vo_pageMany, .int vo_readMany, .int vo_state, .int vo_readMost, .ref o_readRows, .int vo_glasses, .int vo_towersRead, .int vo_poured, .ref o_rows, .ref o_turns, .ref o_amounts, .ref o_drank, .long vo_spilt, .ref o_takes, .ref o_leans, .ref o_would, .int vo_done, .int vo_seedNow, .int vo_keptTower, .int vo_keptPoured, .long vo_keptSpilt, .ref o_keptAmounts, .ref o_keptDrank, .ref o_keptTurns, .long vo_hash])), (o_readRows, .inl (cI, 54, .inl a1))] H := by rw [← ea1]; exact hP
  have hD : va_D A [(o, .inr (6, [.ref o_page, .int vo_pageMany, .int vo_readMany, .int vo_state, .int vo_readMost, .ref o_readRows, .int vo_glasses, .int vo_towersRead, .int vo_poured, .ref o_rows, .ref o_turns, .ref o_amounts, .ref o_drank, .long vo_spilt, .ref o_takes, .ref o_leans, .ref o_would, .int vo_done, .int vo_seedNow, .int vo_keptTower, .int vo_keptPoured, .long vo_keptSpilt, .ref o_keptAmounts, .ref o_keptDrank, .ref o_keptTurns, .long vo_hash])), (o_readRows, .inl (cI, 54, .inl a1))] := by rw [← ea1]; exact hD
  have rw_4 : zRw a1 := by rw [← ea1]; exact zRw_01I hrr (by omega) (by omega)
  refine lv_aload_n hx hb dX6_goHolds_18 rfl (lv_at hl 0 rfl) ?_
  refine lv_iconst (v := (2 : Int32)) hx hb dX6_goHolds_19 (by decide) ?_
  refine va_put (D := (dC, dI)) (ci := 6) (v := .int (2 : Int32)) (ty := .int) (C := RX6) (T := TX6) (N := 26) hx hb hts hwX6 tyX6 tyX6_ok nmX6 hown hK hP hD hS 0 rfl rfl 3 (by decide) hf_59 (fun _ h9 => h9) rfl (by decide +kernel) rfl rfl (Nat.le_of_ble_eq_true rfl) dX6_goHolds_20 (fun H locs hP hD hS => ?_)
  have hP : va_P (dC, dI) vwCl [(o, .inr (6, [.ref o_page, .int vo_pageMany, .int vo_readMany, .int (2 : Int32), .int vo_readMost, .ref o_readRows, .int vo_glasses, .int vo_towersRead, .int vo_poured, .ref o_rows, .ref o_turns, .ref o_amounts, .ref o_drank, .long vo_spilt, .ref o_takes, .ref o_leans, .ref o_would, .int vo_done, .int vo_seedNow, .int vo_keptTower, .int vo_keptPoured, .long vo_keptSpilt, .ref o_keptAmounts, .ref o_keptDrank, .ref o_keptTurns, .long vo_hash])), (o_readRows, .inl (cI, 54, .inl a1))] H := hP
  have hD : va_D A [(o, .inr (6, [.ref o_page, .int vo_pageMany, .int vo_readMany, .int (2 : Int32), .int vo_readMost, .ref o_readRows, .int vo_glasses, .int vo_towersRead, .int vo_poured, .ref o_rows, .ref o_turns, .ref o_amounts, .ref o_drank, .long vo_spilt, .ref o_takes, .ref o_leans, .ref o_would, .int vo_done, .int vo_seedNow, .int vo_keptTower, .int vo_keptPoured, .long vo_keptSpilt, .ref o_keptAmounts, .ref o_keptDrank, .ref o_keptTurns, .long vo_hash])), (o_readRows, .inl (cI, 54, .inl a1))] := hD
  refine lv_iload_n hx hb dX6_goHolds_23 rfl (lv_at hl 1 rfl) ?_
  refine lv_i2l (v := (p1.toInt64)) hx hb dX6_goHolds_24 rfl ?_
  refine lv_ldc2 (v := (49 : Int64)) hx hb hown hc_62 dX6_goHolds_25 ?_
  refine lv_ldc2 (v := (57 : Int64)) hx hb hown hc_64 dX6_goHolds_28 ?_
  obtain ⟨r2, ev_5⟩ : ∃ x0, (m_X6_isIn (p1.toInt64) (49 : Int64) (57 : Int64)) = x0 := ⟨_, rfl⟩
  replace hT := cut_n ev_5 hT
  refine zz_ci [] [0, 1] (wr := [(o, .inr (6, [.ref o_page, .int vo_pageMany, .int vo_readMany, .int (2 : Int32), .int vo_readMost, .ref o_readRows, .int vo_glasses, .int vo_towersRead, .int vo_poured, .ref o_rows, .ref o_turns, .ref o_amounts, .ref o_drank, .long vo_spilt, .ref o_takes, .ref o_leans, .ref o_would, .int vo_done, .int vo_seedNow, .int vo_keptTower, .int vo_keptPoured, .long vo_keptSpilt, .ref o_keptAmounts, .ref o_keptDrank, .ref o_keptTurns, .long vo_hash])), (o_readRows, .inl (cI, 54, .inl a1))]) (w1 := []) (va_runS (As := [.long (p1.toInt64), .long (49 : Int64), .long (57 : Int64)]) (rest := []) ⟨hx, hb, hml, hown, hts⟩ (k_X6_isIn l dC dI cI cJ cC H.size (p1.toInt64) (49 : Int64) (57 : Int64) r2 ev_5) (va_cwS 3 hts gX6_goHolds_X6_isIn rfl rfl rfl (by decide +kernel) ⟨Nat.le_of_ble_eq_true rfl, Nat.le_of_ble_eq_true rfl⟩) (zz_preS [] hK hP hD rfl rfl) rfl rfl hl.1 rfl (lv_room (Nat.le_of_ble_eq_true rfl)) dX6_goHolds_31 ⟨Nat.zero_le _, Nat.zero_le _⟩) hP hD hS hA rfl rfl rfl (by decide) (fun ok_6 H locs hP hD hS => ?_)
  have hP : va_P (dC, dI) vwCl [(o, .inr (6, [.ref o_page, .int vo_pageMany, .int vo_readMany, .int (2 : Int32), .int vo_readMost, .ref o_readRows, .int vo_glasses, .int vo_towersRead, .int vo_poured, .ref o_rows, .ref o_turns, .ref o_amounts, .ref o_drank, .long vo_spilt, .ref o_takes, .ref o_leans, .ref o_would, .int vo_done, .int vo_seedNow, .int vo_keptTower, .int vo_keptPoured, .long vo_keptSpilt, .ref o_keptAmounts, .ref o_keptDrank, .ref o_keptTurns, .long vo_hash])), (o_readRows, .inl (cI, 54, .inl a1))] H := hP
  have hD : va_D A [(o, .inr (6, [.ref o_page, .int vo_pageMany, .int vo_readMany, .int (2 : Int32), .int vo_readMost, .ref o_readRows, .int vo_glasses, .int vo_towersRead, .int vo_poured, .ref o_rows, .ref o_turns, .ref o_amounts, .ref o_drank, .long vo_spilt, .ref o_takes, .ref o_leans, .ref o_would, .int vo_done, .int vo_seedNow, .int vo_keptTower, .int vo_keptPoured, .long vo_keptSpilt, .ref o_keptAmounts, .ref o_keptDrank, .ref o_keptTurns, .long vo_hash])), (o_readRows, .inl (cI, 54, .inl a1))] := hD
  have hz_7 : ((p1.toInt64)).toInt = (p1).toInt := Int32.toInt_toInt64 _
  have hz_8 : ((49 : Int64)).toInt = 49 := by decide
  have hz_9 : ((57 : Int64)).toInt = 57 := by decide
  obtain ⟨k_10, k_11⟩ := ok_6
  have hP9 := hP
  have hD9 := hD
  have hS9 := hS
  have hT : (r2, (2 : Int32), a1) = (r, qo_state, qo_readRows) := hT
  cases hT
  subst hQ
  exact zz_zret hx hb hr (zB01.nar k_10) [0, 1] hK hP9 hD9 hS9 rfl rfl ⟨k_10, (by assumption)⟩ hlocks dX6_goHolds_34

def m_X6_goShare (vo_readMany : Int32) (vo_readMost : Int32) (vo_readRows : Nat → Int32) (p1 : Int32) : Int32 × Int32 × Int32 × (Nat → Int32) :=
 cut ((6 : Int32) * vo_readMany) (fun (v1 : Int32) =>
 cut (
  if p1 = (45 : Int32) then
   (9 : Int32)
  else
   (p1 - (48 : Int32))) (fun (j2 : Int32) =>
 if (3 : Int32) ≤ (vo_readRows (v1 + (2 : Int32)).toNatClampNeg) then
  ((0 : Int32), (4 : Int32), vo_readMost, vo_readRows)
 else
  if j2 = (9 : Int32) then
   if p1 = (45 : Int32) then
    cut (upd vo_readRows ((v1 + (3 : Int32)) + (vo_readRows (v1 + (2 : Int32)).toNatClampNeg)).toNatClampNeg j2) (fun (a7 : Nat → Int32) =>
    cut (upd a7 (v1 + (2 : Int32)).toNatClampNeg ((a7 (v1 + (2 : Int32)).toNatClampNeg) + (1 : Int32))) (fun (a8 : Nat → Int32) =>
    cut (
     if (9 : Int32) ≤ j2 then
      vo_readMost
     else
      if j2 ≤ vo_readMost then
       vo_readMost
      else
       j2) (fun (j9 : Int32) =>
    ((1 : Int32), (4 : Int32), j9, a8))))
   else
    cut (m_X6_isIn (j2.toInt64) ((vo_readMany + (1 : Int32)).toInt64) (8 : Int64)) (fun (r10 : Int32) =>
    if r10 = (0 : Int32) then
     ((0 : Int32), (4 : Int32), vo_readMost, vo_readRows)
    else
     cut (upd vo_readRows ((v1 + (3 : Int32)) + (vo_readRows (v1 + (2 : Int32)).toNatClampNeg)).toNatClampNeg j2) (fun (a11 : Nat → Int32) =>
     cut (upd a11 (v1 + (2 : Int32)).toNatClampNeg ((a11 (v1 + (2 : Int32)).toNatClampNeg) + (1 : Int32))) (fun (a12 : Nat → Int32) =>
     cut (
      if (9 : Int32) ≤ j2 then
       vo_readMost
      else
       if j2 ≤ vo_readMost then
        vo_readMost
       else
        j2) (fun (j13 : Int32) =>
     ((1 : Int32), (4 : Int32), j13, a12)))))
  else
   cut (m_X6_isIn (j2.toInt64) ((vo_readMany + (1 : Int32)).toInt64) (8 : Int64)) (fun (r3 : Int32) =>
   if r3 = (0 : Int32) then
    ((0 : Int32), (4 : Int32), vo_readMost, vo_readRows)
   else
    cut (upd vo_readRows ((v1 + (3 : Int32)) + (vo_readRows (v1 + (2 : Int32)).toNatClampNeg)).toNatClampNeg j2) (fun (a4 : Nat → Int32) =>
    cut (upd a4 (v1 + (2 : Int32)).toNatClampNeg ((a4 (v1 + (2 : Int32)).toNatClampNeg) + (1 : Int32))) (fun (a5 : Nat → Int32) =>
    cut (
     if (9 : Int32) ≤ j2 then
      vo_readMost
     else
      if j2 ≤ vo_readMost then
       vo_readMost
      else
       j2) (fun (j6 : Int32) =>
    ((1 : Int32), (4 : Int32), j6, a5)))))))
set_option maxHeartbeats 4000000 in
set_option maxRecDepth 100000 in
theorem k_X6_goShare (l : Launch) (dC : Nat → ClassId) (dI : Nat → Nat → Nat) (cI cJ cC : ClassId) (sz : Nat) (o o_page o_readRows o_rows o_turns o_amounts o_drank o_takes o_leans o_would o_keptAmounts o_keptDrank o_keptTurns : Nat) (vo_pageMany : Int32) (vo_readMany : Int32) (vo_state : Int32) (vo_readMost : Int32) (vo_glasses : Int32) (vo_towersRead : Int32) (vo_poured : Int32) (vo_spilt : Int64) (vo_done : Int32) (vo_seedNow : Int32) (vo_keptTower : Int32) (vo_keptPoured : Int32) (vo_keptSpilt : Int64) (vo_hash : Int64) (vo_readRows : Nat → Int32) (p1 : Int32) (r : Int32) (qo_state : Int32) (qo_readMost : Int32) (qo_readRows : Nat → Int32) (hT : m_X6_goShare vo_readMany vo_readMost vo_readRows p1 = (r, qo_state, qo_readMost, qo_readRows)) (hm0 : 0 ≤ vo_readMany.toInt) (hm8 : vo_readMany.toInt ≤ 8) (hrr : zRw vo_readRows) : Met l yX6_goShare wsX6_goShare ({ frames := 1, cells := 0, slots := 0, locals := 25 }) (zPc [.ref o, .int p1] (dC, dI) (zTy cI cJ cC) [(o, .inr (6, [.ref o_page, .int vo_pageMany, .int vo_readMany, .int vo_state, .int vo_readMost, .ref o_readRows, .int vo_glasses, .int vo_towersRead, .int vo_poured, .ref o_rows, .ref o_turns, .ref o_amounts, .ref o_drank, .long vo_spilt, .ref o_takes, .ref o_leans, .ref o_would, .int vo_done, .int vo_seedNow, .int vo_keptTower, .int vo_keptPoured, .long vo_keptSpilt, .ref o_keptAmounts, .ref o_keptDrank, .ref o_keptTurns, .long vo_hash])), (o_readRows, .inl (cI, 54, .inl vo_readRows))] sz) (zQi r ((zB01 r) ∧ (zRw qo_readRows)) (dC, dI) (zTy cI cJ cC) [(o, .inr (6, [.ref o_page, .int vo_pageMany, .int vo_readMany, .int qo_state, .int qo_readMost, .ref o_readRows, .int vo_glasses, .int vo_towersRead, .int vo_poured, .ref o_rows, .ref o_turns, .ref o_amounts, .ref o_drank, .long vo_spilt, .ref o_takes, .ref o_leans, .ref o_would, .int vo_done, .int vo_seedNow, .int vo_keptTower, .int vo_keptPoured, .long vo_keptSpilt, .ref o_keptAmounts, .ref o_keptDrank, .ref o_keptTurns, .long vo_hash])), (o_readRows, .inl (cI, 54, .inl qo_readRows))] (va_A [(o, .inr (6, [.ref o_page, .int vo_pageMany, .int vo_readMany, .int vo_state, .int vo_readMost, .ref o_readRows, .int vo_glasses, .int vo_towersRead, .int vo_poured, .ref o_rows, .ref o_turns, .ref o_amounts, .ref o_drank, .long vo_spilt, .ref o_takes, .ref o_leans, .ref o_would, .int vo_done, .int vo_seedNow, .int vo_keptTower, .int vo_keptPoured, .long vo_keptSpilt, .ref o_keptAmounts, .ref o_keptDrank, .ref o_keptTurns, .long vo_hash])), (o_readRows, .inl (cI, 54, .inl vo_readRows))] sz)) 0 0 (va_A [(o, .inr (6, [.ref o_page, .int vo_pageMany, .int vo_readMany, .int vo_state, .int vo_readMost, .ref o_readRows, .int vo_glasses, .int vo_towersRead, .int vo_poured, .ref o_rows, .ref o_turns, .ref o_amounts, .ref o_drank, .long vo_spilt, .ref o_takes, .ref o_leans, .ref o_would, .int vo_done, .int vo_seedNow, .int vo_keptTower, .int vo_keptPoured, .long vo_keptSpilt, .ref o_keptAmounts, .ref o_keptDrank, .ref o_keptTurns, .long vo_hash])), (o_readRows, .inl (cI, 54, .inl vo_readRows))] sz) := by
  refine Met.ofW (cc := cX6_goShare) (maxL := 5) (ret := (some .boolean)) (by decide) rfl ?_
  intro p e s m args below meth c s₁ B hml hv
  obtain ⟨rfl, hsz, hP, hK, hD0⟩ := hv
  have hx := B.exec
  have hb := B.bytes
  have hr := B.returns
  have hts := atoms_spec (ws := wsX6_goShare) B.pre
  have hown : s.vm.findClass RX6 = some m.cls := findClass_of_methodNamed B.named
  have hlocks := B.notSynchronized
  subst hsz
  have hD := hD0.self (sz := s.heap.size)
  generalize hAe : va_A [(o, .inr (6, [.ref o_page, .int vo_pageMany, .int vo_readMany, .int vo_state, .int vo_readMost, .ref o_readRows, .int vo_glasses, .int vo_towersRead, .int vo_poured, .ref o_rows, .ref o_turns, .ref o_amounts, .ref o_drank, .long vo_spilt, .ref o_takes, .ref o_leans, .ref o_would, .int vo_done, .int vo_seedNow, .int vo_keptTower, .int vo_keptPoured, .long vo_keptSpilt, .ref o_keptAmounts, .ref o_keptDrank, .ref o_keptTurns, .long vo_hash])), (o_readRows, .inl (cI, 54, .inl vo_readRows))] s.heap.size = A at hD ⊢
  have hA : ∀ q : Nat, s.heap.size ≤ q → A q := fun q h => by rw [← hAe]; exact Or.inr h
  have hS : va_S A s.heap s.heap [] := va_S.rf
  have hP : va_P (dC, dI) vwCl [(o, .inr (6, [.ref o_page, .int vo_pageMany, .int vo_readMany, .int vo_state, .int vo_readMost, .ref o_readRows, .int vo_glasses, .int vo_towersRead, .int vo_poured, .ref o_rows, .ref o_turns, .ref o_amounts, .ref o_drank, .long vo_spilt, .ref o_takes, .ref o_leans, .ref o_would, .int vo_done, .int vo_seedNow, .int vo_keptTower, .int vo_keptPoured, .long vo_keptSpilt, .ref o_keptAmounts, .ref o_keptDrank, .ref o_keptTurns, .long vo_hash])), (o_readRows, .inl (cI, 54, .inl vo_readRows))] s.heap := hP
  have hK : va_K (dC, dI) vwCl (zTy cI cJ cC) s := hK
  have hl := lv_entry ([.ref o, .int p1]) (n := 5) (Nat.le_of_ble_eq_true rfl)
  rw [lg_entry_eq]
  generalize (lg_sl ([.ref o, .int p1]) ++ List.replicate (5 - (lg_sl ([.ref o, .int p1])).length) Slot.unset).toArray = ls at hl ⊢
  have hl : lv_has ls 5 [(0, .ref o), (1, .int p1)] := hl
  refine zz_start hP hS (fun Q hQ H locs hP hS => ?_)
  have hwX6 : ∀ w ∈ u_ws RX6 TX6 26, w ∈ wsX6_goShare := by decide +kernel
  have hc_70 := (hts (.constantLong RX6 70 (8)) (by decide +kernel))
  have hf_13 := (hts (.fieldLink RX6 13 "PouredTopmostModel" "readRows" "[I") (by decide +kernel))
  have hf_56 := (hts (.fieldLink RX6 56 "PouredTopmostModel" "readMany" "I") (by decide +kernel))
  have hf_59 := (hts (.fieldLink RX6 59 "PouredTopmostModel" "state" "I") (by decide +kernel))
  have hf_72 := (hts (.fieldLink RX6 72 "PouredTopmostModel" "readMost" "I") (by decide +kernel))
  refine lv_bipush (v := (6 : Int32)) hx hb dX6_goShare_0 (by decide) ?_
  refine lv_aload_n hx hb dX6_goShare_2 rfl (lv_at hl 0 rfl) ?_
  refine va_get (D := (dC, dI)) (ci := 6) (v := .int vo_readMany) (C := RX6) (T := TX6) (N := 26) hx hb hts hwX6 hown hK hP 0 rfl rfl 2 (by decide) hf_56 (fun _ h9 => h9) rfl dX6_goShare_3 ?_
  refine lv_imul hx hb dX6_goShare_6 ?_
  refine lv_topi (fun v1 ev1 => ?_)
  replace hT := cut_n ev1.symm hT
  try have fv1 := zmulE (by decide : ((6 : Int32)).toInt = 6) (rfl : (vo_readMany).toInt = _) ev1.symm (by omega) (by omega)
  refine lv_istore_n (lv' := [(2, .int v1), (0, .ref o), (1, .int p1)]) hx hb dX6_goShare_7 rfl hl (by decide) rfl (fun ls hl => ?_)
  refine lv_iload_n hx hb dX6_goShare_8 rfl (lv_at hl 2 rfl) ?_
  refine lv_bipush (v := (45 : Int32)) hx hb dX6_goShare_9 (by decide) ?_
  refine zz_join1 hT 23 (fun v => [.int v]) (fun v H locs ls => va_P (dC, dI) vwCl [(o, .inr (6, [.ref o_page, .int vo_pageMany, .int vo_readMany, .int vo_state, .int vo_readMost, .ref o_readRows, .int vo_glasses, .int vo_towersRead, .int vo_poured, .ref o_rows, .ref o_turns, .ref o_amounts, .ref o_drank, .long vo_spilt, .ref o_takes, .ref o_leans, .ref o_would, .int vo_done, .int vo_seedNow, .int vo_keptTower, .int vo_keptPoured, .long vo_keptSpilt, .ref o_keptAmounts, .ref o_keptDrank, .ref o_keptTurns, .long vo_hash])), (o_readRows, .inl (cI, 54, .inl vo_readRows))] H ∧ va_D A [(o, .inr (6, [.ref o_page, .int vo_pageMany, .int vo_readMany, .int vo_state, .int vo_readMost, .ref o_readRows, .int vo_glasses, .int vo_towersRead, .int vo_poured, .ref o_rows, .ref o_turns, .ref o_amounts, .ref o_drank, .long vo_spilt, .ref o_takes, .ref o_leans, .ref o_would, .int vo_done, .int vo_seedNow, .int vo_keptTower, .int vo_keptPoured, .long vo_keptSpilt, .ref o_keptAmounts, .ref o_keptDrank, .ref o_keptTurns, .long vo_hash])), (o_readRows, .inl (cI, 54, .inl vo_readRows))] ∧ va_S A s.heap H locs ∧ lv_has ls 5 [(0, .ref o), (1, .int p1), (2, .int v1)]) ?_ ?_
  · rintro j2 ej_64 H locs ls ⟨hP, hD, hS, hl⟩
    replace hT := cut_n ej_64 hT
    have hP : va_P (dC, dI) vwCl [(o, .inr (6, [.ref o_page, .int vo_pageMany, .int vo_readMany, .int vo_state, .int vo_readMost, .ref o_readRows, .int vo_glasses, .int vo_towersRead, .int vo_poured, .ref o_rows, .ref o_turns, .ref o_amounts, .ref o_drank, .long vo_spilt, .ref o_takes, .ref o_leans, .ref o_would, .int vo_done, .int vo_seedNow, .int vo_keptTower, .int vo_keptPoured, .long vo_keptSpilt, .ref o_keptAmounts, .ref o_keptDrank, .ref o_keptTurns, .long vo_hash])), (o_readRows, .inl (cI, 54, .inl vo_readRows))] H := hP
    have hD : va_D A [(o, .inr (6, [.ref o_page, .int vo_pageMany, .int vo_readMany, .int vo_state, .int vo_readMost, .ref o_readRows, .int vo_glasses, .int vo_towersRead, .int vo_poured, .ref o_rows, .ref o_turns, .ref o_amounts, .ref o_drank, .long vo_spilt, .ref o_takes, .ref o_leans, .ref o_would, .int vo_done, .int vo_seedNow, .int vo_keptTower, .int vo_keptPoured, .long vo_keptSpilt, .ref o_keptAmounts, .ref o_keptDrank, .ref o_keptTurns, .long vo_hash])), (o_readRows, .inl (cI, 54, .inl vo_readRows))] := hD
    have hl : lv_has ls 5 [(0, .ref o), (1, .int p1), (2, .int v1)] := hl
    refine lv_istore_n (lv' := [(3, .int j2), (0, .ref o), (1, .int p1), (2, .int v1)]) hx hb dX6_goShare_23 rfl hl (by decide) rfl (fun ls hl => ?_)
    refine lv_aload_n hx hb dX6_goShare_24 rfl (lv_at hl 1 rfl) ?_
    refine va_get (D := (dC, dI)) (ci := 6) (v := .ref o_readRows) (C := RX6) (T := TX6) (N := 26) hx hb hts hwX6 hown hK hP 0 rfl rfl 5 (by decide) hf_13 (fun _ h9 => h9) rfl dX6_goShare_25 ?_
    refine lv_iload_n hx hb dX6_goShare_28 rfl (lv_at hl 3 rfl) ?_
    refine lv_iconst (v := (2 : Int32)) hx hb dX6_goShare_29 (by decide) ?_
    refine lv_iadd hx hb dX6_goShare_30 ?_
    have e_3 := zaddE (v := (v1 + (2 : Int32))) (rfl : (v1).toInt = _) (by decide : ((2 : Int32)).toInt = 2) rfl (by omega) (by omega)
    have h_2 : vp_in (v1 + (2 : Int32)) 54 := zin (by omega) (by omega)
    refine va_iald hx hb hK hP 1 0 rfl rfl h_2 dX6_goShare_31 ?_
    refine lv_iconst (v := (3 : Int32)) hx hb dX6_goShare_32 (by decide) ?_
    have hcn := zRw_cI hrr (c := (v1 + (2 : Int32))) (by omega) (by omega)
    refine lv_icmp_ge (tgt := 70) hx hb dX6_goShare_33 (by decide) (fun c_4 => ?_) (fun c_4 => ?_)
    · replace hT := cutT c_4 hT
      have g_65 := zleT (by decide : ((3 : Int32)).toInt = 3) (rfl : ((vo_readRows (v1 + (2 : Int32)).toNatClampNeg)).toInt = _) c_4
      refine lv_iconst (v := (0 : Int32)) hx hb dX6_goShare_70 (by decide) ?_
      refine lv_istore (lv' := [(4, .int (0 : Int32)), (3, .int j2), (0, .ref o), (1, .int p1), (2, .int v1)]) hx hb dX6_goShare_71 hl (by decide) rfl (fun ls hl => ?_)
      refine lv_iload hx hb dX6_goShare_73 (lv_at hl 0 rfl) ?_
      refine lv_if_eq (tgt := 134) hx hb dX6_goShare_75 (by decide) (fun c_5 => ?_) (fun c_5 => ?_)
      · refine lv_aload_n hx hb dX6_goShare_134 rfl (lv_at hl 2 rfl) ?_
        refine lv_iconst (v := (4 : Int32)) hx hb dX6_goShare_135 (by decide) ?_
        refine va_put (D := (dC, dI)) (ci := 6) (v := .int (4 : Int32)) (ty := .int) (C := RX6) (T := TX6) (N := 26) hx hb hts hwX6 tyX6 tyX6_ok nmX6 hown hK hP hD hS 0 rfl rfl 3 (by decide) hf_59 (fun _ h9 => h9) rfl (by decide +kernel) rfl rfl (Nat.le_of_ble_eq_true rfl) dX6_goShare_136 (fun H locs hP hD hS => ?_)
        have hP : va_P (dC, dI) vwCl [(o, .inr (6, [.ref o_page, .int vo_pageMany, .int vo_readMany, .int (4 : Int32), .int vo_readMost, .ref o_readRows, .int vo_glasses, .int vo_towersRead, .int vo_poured, .ref o_rows, .ref o_turns, .ref o_amounts, .ref o_drank, .long vo_spilt, .ref o_takes, .ref o_leans, .ref o_would, .int vo_done, .int vo_seedNow, .int vo_keptTower, .int vo_keptPoured, .long vo_keptSpilt, .ref o_keptAmounts, .ref o_keptDrank, .ref o_keptTurns, .long vo_hash])), (o_readRows, .inl (cI, 54, .inl vo_readRows))] H := hP
        have hD : va_D A [(o, .inr (6, [.ref o_page, .int vo_pageMany, .int vo_readMany, .int (4 : Int32), .int vo_readMost, .ref o_readRows, .int vo_glasses, .int vo_towersRead, .int vo_poured, .ref o_rows, .ref o_turns, .ref o_amounts, .ref o_drank, .long vo_spilt, .ref o_takes, .ref o_leans, .ref o_would, .int vo_done, .int vo_seedNow, .int vo_keptTower, .int vo_keptPoured, .long vo_keptSpilt, .ref o_keptAmounts, .ref o_keptDrank, .ref o_keptTurns, .long vo_hash])), (o_readRows, .inl (cI, 54, .inl vo_readRows))] := hD
        refine lv_iload hx hb dX6_goShare_139 (lv_at hl 0 rfl) ?_
        have hP9 := hP
        have hD9 := hD
        have hS9 := hS
        have hT : ((0 : Int32), (4 : Int32), vo_readMost, vo_readRows) = (r, qo_state, qo_readMost, qo_readRows) := hT
        cases hT
        subst hQ
        exact zz_zret hx hb hr rfl [0, 1] hK hP9 hD9 hS9 rfl rfl ⟨(Or.inl rfl), (by assumption)⟩ hlocks dX6_goShare_141
      · exact absurd c_5 (by decide)
    · replace hT := cutF c_4 hT
      have g_66 := zleF (by decide : ((3 : Int32)).toInt = 3) (rfl : ((vo_readRows (v1 + (2 : Int32)).toNatClampNeg)).toInt = _) c_4
      refine lv_iload_n hx hb dX6_goShare_36 rfl (lv_at hl 0 rfl) ?_
      refine lv_bipush (v := (9 : Int32)) hx hb dX6_goShare_37 (by decide) ?_
      refine lv_icmp_ne (tgt := 48) hx hb dX6_goShare_39 (by decide) (fun c_6 => ?_) (fun c_6 => ?_)
      · replace hT := cutF c_6 hT
        have g_67 := zeqF (rfl : (j2).toInt = _) (by decide : ((9 : Int32)).toInt = 9) c_6
        refine lv_iload_n hx hb dX6_goShare_48 rfl (lv_at hl 0 rfl) ?_
        refine lv_i2l (v := (j2.toInt64)) hx hb dX6_goShare_49 rfl ?_
        refine lv_aload_n hx hb dX6_goShare_50 rfl (lv_at hl 1 rfl) ?_
        refine va_get (D := (dC, dI)) (ci := 6) (v := .int vo_readMany) (C := RX6) (T := TX6) (N := 26) hx hb hts hwX6 hown hK hP 0 rfl rfl 2 (by decide) hf_56 (fun _ h9 => h9) rfl dX6_goShare_51 ?_
        refine lv_iconst (v := (1 : Int32)) hx hb dX6_goShare_54 (by decide) ?_
        refine lv_iadd hx hb dX6_goShare_55 ?_
        refine lv_i2l (v := ((vo_readMany + (1 : Int32)).toInt64)) hx hb dX6_goShare_56 rfl ?_
        refine lv_ldc2 (v := (8 : Int64)) hx hb hown hc_70 dX6_goShare_57 ?_
        obtain ⟨r3, ev_7⟩ : ∃ x0, (m_X6_isIn (j2.toInt64) ((vo_readMany + (1 : Int32)).toInt64) (8 : Int64)) = x0 := ⟨_, rfl⟩
        replace hT := cut_n ev_7 hT
        refine zz_ci [] [0, 1] (wr := [(o, .inr (6, [.ref o_page, .int vo_pageMany, .int vo_readMany, .int vo_state, .int vo_readMost, .ref o_readRows, .int vo_glasses, .int vo_towersRead, .int vo_poured, .ref o_rows, .ref o_turns, .ref o_amounts, .ref o_drank, .long vo_spilt, .ref o_takes, .ref o_leans, .ref o_would, .int vo_done, .int vo_seedNow, .int vo_keptTower, .int vo_keptPoured, .long vo_keptSpilt, .ref o_keptAmounts, .ref o_keptDrank, .ref o_keptTurns, .long vo_hash])), (o_readRows, .inl (cI, 54, .inl vo_readRows))]) (w1 := []) (va_runS (As := [.long (j2.toInt64), .long ((vo_readMany + (1 : Int32)).toInt64), .long (8 : Int64)]) (rest := []) ⟨hx, hb, hml, hown, hts⟩ (k_X6_isIn l dC dI cI cJ cC H.size (j2.toInt64) ((vo_readMany + (1 : Int32)).toInt64) (8 : Int64) r3 ev_7) (va_cwS 3 hts gX6_goShare_X6_isIn rfl rfl rfl (by decide +kernel) ⟨Nat.le_of_ble_eq_true rfl, Nat.le_of_ble_eq_true rfl⟩) (zz_preS [] hK hP hD rfl rfl) rfl rfl hl.1 rfl (lv_room (Nat.le_of_ble_eq_true rfl)) dX6_goShare_60 ⟨Nat.zero_le _, Nat.zero_le _⟩) hP hD hS hA rfl rfl rfl (by decide) (fun ok_8 H locs hP hD hS => ?_)
        have hP : va_P (dC, dI) vwCl [(o, .inr (6, [.ref o_page, .int vo_pageMany, .int vo_readMany, .int vo_state, .int vo_readMost, .ref o_readRows, .int vo_glasses, .int vo_towersRead, .int vo_poured, .ref o_rows, .ref o_turns, .ref o_amounts, .ref o_drank, .long vo_spilt, .ref o_takes, .ref o_leans, .ref o_would, .int vo_done, .int vo_seedNow, .int vo_keptTower, .int vo_keptPoured, .long vo_keptSpilt, .ref o_keptAmounts, .ref o_keptDrank, .ref o_keptTurns, .long vo_hash])), (o_readRows, .inl (cI, 54, .inl vo_readRows))] H := hP
        have hD : va_D A [(o, .inr (6, [.ref o_page, .int vo_pageMany, .int vo_readMany, .int vo_state, .int vo_readMost, .ref o_readRows, .int vo_glasses, .int vo_towersRead, .int vo_poured, .ref o_rows, .ref o_turns, .ref o_amounts, .ref o_drank, .long vo_spilt, .ref o_takes, .ref o_leans, .ref o_would, .int vo_done, .int vo_seedNow, .int vo_keptTower, .int vo_keptPoured, .long vo_keptSpilt, .ref o_keptAmounts, .ref o_keptDrank, .ref o_keptTurns, .long vo_hash])), (o_readRows, .inl (cI, 54, .inl vo_readRows))] := hD
        have hz_9 : ((j2.toInt64)).toInt = (j2).toInt := Int32.toInt_toInt64 _
        try have e_10 := zaddE (v := (vo_readMany + (1 : Int32))) (rfl : (vo_readMany).toInt = _) (by decide : ((1 : Int32)).toInt = 1) rfl (by omega) (by omega)
        have hz_11 : (((vo_readMany + (1 : Int32)).toInt64)).toInt = ((vo_readMany + (1 : Int32))).toInt := Int32.toInt_toInt64 _
        have hz_12 : ((8 : Int64)).toInt = 8 := by decide
        obtain ⟨k_13, k_14⟩ := ok_8
        refine lv_if_eq (tgt := 70) hx hb dX6_goShare_63 (by decide) (fun c_15 => ?_) (fun c_15 => ?_)
        · replace hT := cutT c_15 hT
          have g_68 := zeqT (rfl : (r3).toInt = _) (by decide : ((0 : Int32)).toInt = 0) c_15
          refine lv_iconst (v := (0 : Int32)) hx hb dX6_goShare_70 (by decide) ?_
          refine lv_istore (lv' := [(4, .int (0 : Int32)), (3, .int j2), (0, .ref o), (1, .int p1), (2, .int v1)]) hx hb dX6_goShare_71 hl (by decide) rfl (fun ls hl => ?_)
          refine lv_iload hx hb dX6_goShare_73 (lv_at hl 0 rfl) ?_
          refine lv_if_eq (tgt := 134) hx hb dX6_goShare_75 (by decide) (fun c_16 => ?_) (fun c_16 => ?_)
          · refine lv_aload_n hx hb dX6_goShare_134 rfl (lv_at hl 2 rfl) ?_
            refine lv_iconst (v := (4 : Int32)) hx hb dX6_goShare_135 (by decide) ?_
            refine va_put (D := (dC, dI)) (ci := 6) (v := .int (4 : Int32)) (ty := .int) (C := RX6) (T := TX6) (N := 26) hx hb hts hwX6 tyX6 tyX6_ok nmX6 hown hK hP hD hS 0 rfl rfl 3 (by decide) hf_59 (fun _ h9 => h9) rfl (by decide +kernel) rfl rfl (Nat.le_of_ble_eq_true rfl) dX6_goShare_136 (fun H locs hP hD hS => ?_)
            have hP : va_P (dC, dI) vwCl [(o, .inr (6, [.ref o_page, .int vo_pageMany, .int vo_readMany, .int (4 : Int32), .int vo_readMost, .ref o_readRows, .int vo_glasses, .int vo_towersRead, .int vo_poured, .ref o_rows, .ref o_turns, .ref o_amounts, .ref o_drank, .long vo_spilt, .ref o_takes, .ref o_leans, .ref o_would, .int vo_done, .int vo_seedNow, .int vo_keptTower, .int vo_keptPoured, .long vo_keptSpilt, .ref o_keptAmounts, .ref o_keptDrank, .ref o_keptTurns, .long vo_hash])), (o_readRows, .inl (cI, 54, .inl vo_readRows))] H := hP
            have hD : va_D A [(o, .inr (6, [.ref o_page, .int vo_pageMany, .int vo_readMany, .int (4 : Int32), .int vo_readMost, .ref o_readRows, .int vo_glasses, .int vo_towersRead, .int vo_poured, .ref o_rows, .ref o_turns, .ref o_amounts, .ref o_drank, .long vo_spilt, .ref o_takes, .ref o_leans, .ref o_would, .int vo_done, .int vo_seedNow, .int vo_keptTower, .int vo_keptPoured, .long vo_keptSpilt, .ref o_keptAmounts, .ref o_keptDrank, .ref o_keptTurns, .long vo_hash])), (o_readRows, .inl (cI, 54, .inl vo_readRows))] := hD
            refine lv_iload hx hb dX6_goShare_139 (lv_at hl 0 rfl) ?_
            have hP9 := hP
            have hD9 := hD
            have hS9 := hS
            have hT : ((0 : Int32), (4 : Int32), vo_readMost, vo_readRows) = (r, qo_state, qo_readMost, qo_readRows) := hT
            cases hT
            subst hQ
            exact zz_zret hx hb hr rfl [0, 1] hK hP9 hD9 hS9 rfl rfl ⟨(Or.inl rfl), (by assumption)⟩ hlocks dX6_goShare_141
          · exact absurd c_16 (by decide)
        · replace hT := cutF c_15 hT
          have g_69 := zeqF (rfl : (r3).toInt = _) (by decide : ((0 : Int32)).toInt = 0) c_15
          refine lv_iconst (v := (1 : Int32)) hx hb dX6_goShare_66 (by decide) ?_
          refine lv_goto (tgt := 71) hx hb dX6_goShare_67 (by decide) ?_
          refine lv_istore (lv' := [(4, .int (1 : Int32)), (3, .int j2), (0, .ref o), (1, .int p1), (2, .int v1)]) hx hb dX6_goShare_71 hl (by decide) rfl (fun ls hl => ?_)
          refine lv_iload hx hb dX6_goShare_73 (lv_at hl 0 rfl) ?_
          refine lv_if_eq (tgt := 134) hx hb dX6_goShare_75 (by decide) (fun c_17 => ?_) (fun c_17 => ?_)
          · exact absurd c_17 (by decide)
          · refine lv_aload_n hx hb dX6_goShare_78 rfl (lv_at hl 2 rfl) ?_
            refine va_get (D := (dC, dI)) (ci := 6) (v := .ref o_readRows) (C := RX6) (T := TX6) (N := 26) hx hb hts hwX6 hown hK hP 0 rfl rfl 5 (by decide) hf_13 (fun _ h9 => h9) rfl dX6_goShare_79 ?_
            refine lv_iload_n hx hb dX6_goShare_82 rfl (lv_at hl 4 rfl) ?_
            refine lv_iconst (v := (3 : Int32)) hx hb dX6_goShare_83 (by decide) ?_
            refine lv_iadd hx hb dX6_goShare_84 ?_
            refine lv_aload_n hx hb dX6_goShare_85 rfl (lv_at hl 2 rfl) ?_
            refine va_get (D := (dC, dI)) (ci := 6) (v := .ref o_readRows) (C := RX6) (T := TX6) (N := 26) hx hb hts hwX6 hown hK hP 0 rfl rfl 5 (by decide) hf_13 (fun _ h9 => h9) rfl dX6_goShare_86 ?_
            refine lv_iload_n hx hb dX6_goShare_89 rfl (lv_at hl 4 rfl) ?_
            refine lv_iconst (v := (2 : Int32)) hx hb dX6_goShare_90 (by decide) ?_
            refine lv_iadd hx hb dX6_goShare_91 ?_
            have e_19 := zaddE (v := (v1 + (2 : Int32))) (rfl : (v1).toInt = _) (by decide : ((2 : Int32)).toInt = 2) rfl (by omega) (by omega)
            have h_18 : vp_in (v1 + (2 : Int32)) 54 := zin (by omega) (by omega)
            refine va_iald hx hb hK hP 1 0 rfl rfl h_18 dX6_goShare_92 ?_
            refine lv_iadd hx hb dX6_goShare_93 ?_
            refine lv_iload_n hx hb dX6_goShare_94 rfl (lv_at hl 1 rfl) ?_
            try have hcn := zRw_cI hrr (c := (v1 + (2 : Int32))) (by omega) (by omega)
            have e_21 := zaddE (v := (v1 + (3 : Int32))) (rfl : (v1).toInt = _) (by decide : ((3 : Int32)).toInt = 3) rfl (by omega) (by omega)
            have e_22 := zaddE (v := ((v1 + (3 : Int32)) + (vo_readRows (v1 + (2 : Int32)).toNatClampNeg))) e_21 (rfl : ((vo_readRows (v1 + (2 : Int32)).toNatClampNeg)).toInt = _) rfl (by omega) (by omega)
            have h_20 : vp_in ((v1 + (3 : Int32)) + (vo_readRows (v1 + (2 : Int32)).toNatClampNeg)) 54 := zin (by omega) (by omega)
            refine va_iast hx hb hK hP hD hS 1 0 rfl rfl h_20 dX6_goShare_95 (fun H locs hP hD hS => ?_)
            obtain ⟨a4, ea4⟩ : ∃ z, (upd vo_readRows ((v1 + (3 : Int32)) + (vo_readRows (v1 + (2 : Int32)).toNatClampNeg)).toNatClampNeg j2) = z := ⟨_, rfl⟩
            replace hT := cut_n ea4 hT
            have hP : va_P (dC, dI) vwCl [(o, .inr (6, [.ref o_page, .int vo_pageMany, .int vo_readMany, .int vo_state, .int vo_readMost, .ref o_readRows, .int vo_glasses, .int vo_towersRead, .int vo_poured, .ref o_rows, .ref o_turns, .ref o_amounts, .ref o_drank, .long vo_spilt, .ref o_takes, .ref o_leans, .ref o_would, .int vo_done, .int vo_seedNow, .int vo_keptTower, .int vo_keptPoured, .long vo_keptSpilt, .ref o_keptAmounts, .ref o_keptDrank, .ref o_keptTurns, .long vo_hash])), (o_readRows, .inl (cI, 54, .inl a4))] H := by rw [← ea4]; exact hP
            have hD : va_D A [(o, .inr (6, [.ref o_page, .int vo_pageMany, .int vo_readMany, .int vo_state, .int vo_readMost, .ref o_readRows, .int vo_glasses, .int vo_towersRead, .int vo_poured, .ref o_rows, .ref o_turns, .ref o_amounts, .ref o_drank, .long vo_spilt, .ref o_takes, .ref o_leans, .ref o_would, .int vo_done, .int vo_seedNow, .int vo_keptTower, .int vo_keptPoured, .long vo_keptSpilt, .ref o_keptAmounts, .ref o_keptDrank, .ref o_keptTurns, .long vo_hash])), (o_readRows, .inl (cI, 54, .inl a4))] := by rw [← ea4]; exact hD
            refine lv_aload_n hx hb dX6_goShare_96 rfl (lv_at hl 2 rfl) ?_
            refine va_get (D := (dC, dI)) (ci := 6) (v := .ref o_readRows) (C := RX6) (T := TX6) (N := 26) hx hb hts hwX6 hown hK hP 0 rfl rfl 5 (by decide) hf_13 (fun _ h9 => h9) rfl dX6_goShare_97 ?_
            refine lv_iload_n hx hb dX6_goShare_100 rfl (lv_at hl 4 rfl) ?_
            refine lv_iconst (v := (2 : Int32)) hx hb dX6_goShare_101 (by decide) ?_
            refine lv_iadd hx hb dX6_goShare_102 ?_
            refine lv_dup2_11 hx hb dX6_goShare_103 rfl rfl ?_
            have e_24 := zaddE (v := (v1 + (2 : Int32))) (rfl : (v1).toInt = _) (by decide : ((2 : Int32)).toInt = 2) rfl (by omega) (by omega)
            have h_23 : vp_in (v1 + (2 : Int32)) 54 := zin (by omega) (by omega)
            refine va_iald hx hb hK hP 1 0 rfl rfl h_23 dX6_goShare_104 ?_
            refine lv_iconst (v := (1 : Int32)) hx hb dX6_goShare_105 (by decide) ?_
            refine lv_iadd hx hb dX6_goShare_106 ?_
            have e_26 := zaddE (v := (v1 + (2 : Int32))) (rfl : (v1).toInt = _) (by decide : ((2 : Int32)).toInt = 2) rfl (by omega) (by omega)
            have h_25 : vp_in (v1 + (2 : Int32)) 54 := zin (by omega) (by omega)
            refine va_iast hx hb hK hP hD hS 1 0 rfl rfl h_25 dX6_goShare_107 (fun H locs hP hD hS => ?_)
            obtain ⟨a5, ea5⟩ : ∃ z, (upd a4 (v1 + (2 : Int32)).toNatClampNeg ((a4 (v1 + (2 : Int32)).toNatClampNeg) + (1 : Int32))) = z := ⟨_, rfl⟩
            replace hT := cut_n ea5 hT
            have hP : va_P (dC, dI) vwCl [(o, .inr (6, [.ref o_page, .int vo_pageMany, .int vo_readMany, .int vo_state, .int vo_readMost, .ref o_readRows, .int vo_glasses, .int vo_towersRead, .int vo_poured, .ref o_rows, .ref o_turns, .ref o_amounts, .ref o_drank, .long vo_spilt, .ref o_takes, .ref o_leans, .ref o_would, .int vo_done, .int vo_seedNow, .int vo_keptTower, .int vo_keptPoured, .long vo_keptSpilt, .ref o_keptAmounts, .ref o_keptDrank, .ref o_keptTurns, .long vo_hash])), (o_readRows, .inl (cI, 54, .inl a5))] H := by rw [← ea5]; exact hP
            have hD : va_D A [(o, .inr (6, [.ref o_page, .int vo_pageMany, .int vo_readMany, .int vo_state, .int vo_readMost, .ref o_readRows, .int vo_glasses, .int vo_towersRead, .int vo_poured, .ref o_rows, .ref o_turns, .ref o_amounts, .ref o_drank, .long vo_spilt, .ref o_takes, .ref o_leans, .ref o_would, .int vo_done, .int vo_seedNow, .int vo_keptTower, .int vo_keptPoured, .long vo_keptSpilt, .ref o_keptAmounts, .ref o_keptDrank, .ref o_keptTurns, .long vo_hash])), (o_readRows, .inl (cI, 54, .inl a5))] := by rw [← ea5]; exact hD
            have hrwN : zRw a5 := zRw_add hrr (c := (v1 + (2 : Int32))) (by omega) (by omega) (by omega) (by omega) (by omega) (by omega) ea4 ea5
            refine lv_aload_n hx hb dX6_goShare_108 rfl (lv_at hl 2 rfl) ?_
            refine lv_iload_n hx hb dX6_goShare_109 rfl (lv_at hl 1 rfl) ?_
            refine lv_bipush (v := (9 : Int32)) hx hb dX6_goShare_110 (by decide) ?_
            refine zz_join1 hT 131 (fun v => [.int v, .ref o]) (fun v H locs ls => va_P (dC, dI) vwCl [(o, .inr (6, [.ref o_page, .int vo_pageMany, .int vo_readMany, .int vo_state, .int vo_readMost, .ref o_readRows, .int vo_glasses, .int vo_towersRead, .int vo_poured, .ref o_rows, .ref o_turns, .ref o_amounts, .ref o_drank, .long vo_spilt, .ref o_takes, .ref o_leans, .ref o_would, .int vo_done, .int vo_seedNow, .int vo_keptTower, .int vo_keptPoured, .long vo_keptSpilt, .ref o_keptAmounts, .ref o_keptDrank, .ref o_keptTurns, .long vo_hash])), (o_readRows, .inl (cI, 54, .inl a5))] H ∧ va_D A [(o, .inr (6, [.ref o_page, .int vo_pageMany, .int vo_readMany, .int vo_state, .int vo_readMost, .ref o_readRows, .int vo_glasses, .int vo_towersRead, .int vo_poured, .ref o_rows, .ref o_turns, .ref o_amounts, .ref o_drank, .long vo_spilt, .ref o_takes, .ref o_leans, .ref o_would, .int vo_done, .int vo_seedNow, .int vo_keptTower, .int vo_keptPoured, .long vo_keptSpilt, .ref o_keptAmounts, .ref o_keptDrank, .ref o_keptTurns, .long vo_hash])), (o_readRows, .inl (cI, 54, .inl a5))] ∧ va_S A s.heap H locs ∧ lv_has ls 5 [(0, .ref o), (4, .int (1 : Int32))]) ?_ ?_
            · rintro j6 ej_70 H locs ls ⟨hP, hD, hS, hl⟩
              replace hT := cut_n ej_70 hT
              have hP : va_P (dC, dI) vwCl [(o, .inr (6, [.ref o_page, .int vo_pageMany, .int vo_readMany, .int vo_state, .int vo_readMost, .ref o_readRows, .int vo_glasses, .int vo_towersRead, .int vo_poured, .ref o_rows, .ref o_turns, .ref o_amounts, .ref o_drank, .long vo_spilt, .ref o_takes, .ref o_leans, .ref o_would, .int vo_done, .int vo_seedNow, .int vo_keptTower, .int vo_keptPoured, .long vo_keptSpilt, .ref o_keptAmounts, .ref o_keptDrank, .ref o_keptTurns, .long vo_hash])), (o_readRows, .inl (cI, 54, .inl a5))] H := hP
              have hD : va_D A [(o, .inr (6, [.ref o_page, .int vo_pageMany, .int vo_readMany, .int vo_state, .int vo_readMost, .ref o_readRows, .int vo_glasses, .int vo_towersRead, .int vo_poured, .ref o_rows, .ref o_turns, .ref o_amounts, .ref o_drank, .long vo_spilt, .ref o_takes, .ref o_leans, .ref o_would, .int vo_done, .int vo_seedNow, .int vo_keptTower, .int vo_keptPoured, .long vo_keptSpilt, .ref o_keptAmounts, .ref o_keptDrank, .ref o_keptTurns, .long vo_hash])), (o_readRows, .inl (cI, 54, .inl a5))] := hD
              have hl : lv_has ls 5 [(0, .ref o), (4, .int (1 : Int32))] := hl
              refine va_put (D := (dC, dI)) (ci := 6) (v := .int j6) (ty := .int) (C := RX6) (T := TX6) (N := 26) hx hb hts hwX6 tyX6 tyX6_ok nmX6 hown hK hP hD hS 0 rfl rfl 4 (by decide) hf_72 (fun _ h9 => h9) rfl (by decide +kernel) rfl rfl (Nat.le_of_ble_eq_true rfl) dX6_goShare_131 (fun H locs hP hD hS => ?_)
              have hP : va_P (dC, dI) vwCl [(o, .inr (6, [.ref o_page, .int vo_pageMany, .int vo_readMany, .int vo_state, .int j6, .ref o_readRows, .int vo_glasses, .int vo_towersRead, .int vo_poured, .ref o_rows, .ref o_turns, .ref o_amounts, .ref o_drank, .long vo_spilt, .ref o_takes, .ref o_leans, .ref o_would, .int vo_done, .int vo_seedNow, .int vo_keptTower, .int vo_keptPoured, .long vo_keptSpilt, .ref o_keptAmounts, .ref o_keptDrank, .ref o_keptTurns, .long vo_hash])), (o_readRows, .inl (cI, 54, .inl a5))] H := hP
              have hD : va_D A [(o, .inr (6, [.ref o_page, .int vo_pageMany, .int vo_readMany, .int vo_state, .int j6, .ref o_readRows, .int vo_glasses, .int vo_towersRead, .int vo_poured, .ref o_rows, .ref o_turns, .ref o_amounts, .ref o_drank, .long vo_spilt, .ref o_takes, .ref o_leans, .ref o_would, .int vo_done, .int vo_seedNow, .int vo_keptTower, .int vo_keptPoured, .long vo_keptSpilt, .ref o_keptAmounts, .ref o_keptDrank, .ref o_keptTurns, .long vo_hash])), (o_readRows, .inl (cI, 54, .inl a5))] := hD
              refine lv_aload_n hx hb dX6_goShare_134 rfl (lv_at hl 0 rfl) ?_
              refine lv_iconst (v := (4 : Int32)) hx hb dX6_goShare_135 (by decide) ?_
              refine va_put (D := (dC, dI)) (ci := 6) (v := .int (4 : Int32)) (ty := .int) (C := RX6) (T := TX6) (N := 26) hx hb hts hwX6 tyX6 tyX6_ok nmX6 hown hK hP hD hS 0 rfl rfl 3 (by decide) hf_59 (fun _ h9 => h9) rfl (by decide +kernel) rfl rfl (Nat.le_of_ble_eq_true rfl) dX6_goShare_136 (fun H locs hP hD hS => ?_)
              have hP : va_P (dC, dI) vwCl [(o, .inr (6, [.ref o_page, .int vo_pageMany, .int vo_readMany, .int (4 : Int32), .int j6, .ref o_readRows, .int vo_glasses, .int vo_towersRead, .int vo_poured, .ref o_rows, .ref o_turns, .ref o_amounts, .ref o_drank, .long vo_spilt, .ref o_takes, .ref o_leans, .ref o_would, .int vo_done, .int vo_seedNow, .int vo_keptTower, .int vo_keptPoured, .long vo_keptSpilt, .ref o_keptAmounts, .ref o_keptDrank, .ref o_keptTurns, .long vo_hash])), (o_readRows, .inl (cI, 54, .inl a5))] H := hP
              have hD : va_D A [(o, .inr (6, [.ref o_page, .int vo_pageMany, .int vo_readMany, .int (4 : Int32), .int j6, .ref o_readRows, .int vo_glasses, .int vo_towersRead, .int vo_poured, .ref o_rows, .ref o_turns, .ref o_amounts, .ref o_drank, .long vo_spilt, .ref o_takes, .ref o_leans, .ref o_would, .int vo_done, .int vo_seedNow, .int vo_keptTower, .int vo_keptPoured, .long vo_keptSpilt, .ref o_keptAmounts, .ref o_keptDrank, .ref o_keptTurns, .long vo_hash])), (o_readRows, .inl (cI, 54, .inl a5))] := hD
              refine lv_iload hx hb dX6_goShare_139 (lv_at hl 1 rfl) ?_
              have hP9 := hP
              have hD9 := hD
              have hS9 := hS
              have hT : ((1 : Int32), (4 : Int32), j6, a5) = (r, qo_state, qo_readMost, qo_readRows) := hT
              cases hT
              subst hQ
              exact zz_zret hx hb hr rfl [0, 1] hK hP9 hD9 hS9 rfl rfl ⟨(Or.inr rfl), (by assumption)⟩ hlocks dX6_goShare_141
            · intro xv hT hM
              refine lv_icmp_ge (tgt := 127) hx hb dX6_goShare_112 (by decide) (fun c_27 => ?_) (fun c_27 => ?_)
              · replace hT := cutT c_27 hT
                have g_71 := zleT (by decide : ((9 : Int32)).toInt = 9) (rfl : (j2).toInt = _) c_27
                refine lv_aload_n hx hb dX6_goShare_127 rfl (lv_at hl 2 rfl) ?_
                refine va_get (D := (dC, dI)) (ci := 6) (v := .int vo_readMost) (C := RX6) (T := TX6) (N := 26) hx hb hts hwX6 hown hK hP 0 rfl rfl 4 (by decide) hf_72 (fun _ h9 => h9) rfl dX6_goShare_128 ?_
                have hP9 := hP
                have hD9 := hD
                have hS9 := hS
                have hl9 := hl
                have hM9 := hM
                have hT : vo_readMost = xv := hT
                subst hT
                exact hM9 _ _ _ ⟨hP9.sub [0, 1] rfl, hD9.sub [0, 1] rfl rfl, hS9, lv_sub hl9 [2, 0] rfl⟩
              · replace hT := cutF c_27 hT
                have g_72 := zleF (by decide : ((9 : Int32)).toInt = 9) (rfl : (j2).toInt = _) c_27
                refine lv_iload_n hx hb dX6_goShare_115 rfl (lv_at hl 1 rfl) ?_
                refine lv_aload_n hx hb dX6_goShare_116 rfl (lv_at hl 2 rfl) ?_
                refine va_get (D := (dC, dI)) (ci := 6) (v := .int vo_readMost) (C := RX6) (T := TX6) (N := 26) hx hb hts hwX6 hown hK hP 0 rfl rfl 4 (by decide) hf_72 (fun _ h9 => h9) rfl dX6_goShare_117 ?_
                refine lv_icmp_le (tgt := 127) hx hb dX6_goShare_120 (by decide) (fun c_28 => ?_) (fun c_28 => ?_)
                · replace hT := cutT c_28 hT
                  have g_73 := zleT (rfl : (j2).toInt = _) (rfl : (vo_readMost).toInt = _) c_28
                  refine lv_aload_n hx hb dX6_goShare_127 rfl (lv_at hl 2 rfl) ?_
                  refine va_get (D := (dC, dI)) (ci := 6) (v := .int vo_readMost) (C := RX6) (T := TX6) (N := 26) hx hb hts hwX6 hown hK hP 0 rfl rfl 4 (by decide) hf_72 (fun _ h9 => h9) rfl dX6_goShare_128 ?_
                  have hP9 := hP
                  have hD9 := hD
                  have hS9 := hS
                  have hl9 := hl
                  have hM9 := hM
                  have hT : vo_readMost = xv := hT
                  subst hT
                  exact hM9 _ _ _ ⟨hP9.sub [0, 1] rfl, hD9.sub [0, 1] rfl rfl, hS9, lv_sub hl9 [2, 0] rfl⟩
                · replace hT := cutF c_28 hT
                  have g_74 := zleF (rfl : (j2).toInt = _) (rfl : (vo_readMost).toInt = _) c_28
                  refine lv_iload_n hx hb dX6_goShare_123 rfl (lv_at hl 1 rfl) ?_
                  refine lv_goto (tgt := 131) hx hb dX6_goShare_124 (by decide) ?_
                  have hP9 := hP
                  have hD9 := hD
                  have hS9 := hS
                  have hl9 := hl
                  have hM9 := hM
                  have hT : j2 = xv := hT
                  subst hT
                  exact hM9 _ _ _ ⟨hP9.sub [0, 1] rfl, hD9.sub [0, 1] rfl rfl, hS9, lv_sub hl9 [2, 0] rfl⟩
      · replace hT := cutT c_6 hT
        have g_75 := zeqT (rfl : (j2).toInt = _) (by decide : ((9 : Int32)).toInt = 9) c_6
        refine lv_iload_n hx hb dX6_goShare_42 rfl (lv_at hl 2 rfl) ?_
        refine lv_bipush (v := (45 : Int32)) hx hb dX6_goShare_43 (by decide) ?_
        refine lv_icmp_eq (tgt := 66) hx hb dX6_goShare_45 (by decide) (fun c_29 => ?_) (fun c_29 => ?_)
        · replace hT := cutT c_29 hT
          have g_76 := zeqT (rfl : (p1).toInt = _) (by decide : ((45 : Int32)).toInt = 45) c_29
          refine lv_iconst (v := (1 : Int32)) hx hb dX6_goShare_66 (by decide) ?_
          refine lv_goto (tgt := 71) hx hb dX6_goShare_67 (by decide) ?_
          refine lv_istore (lv' := [(4, .int (1 : Int32)), (3, .int j2), (0, .ref o), (1, .int p1), (2, .int v1)]) hx hb dX6_goShare_71 hl (by decide) rfl (fun ls hl => ?_)
          refine lv_iload hx hb dX6_goShare_73 (lv_at hl 0 rfl) ?_
          refine lv_if_eq (tgt := 134) hx hb dX6_goShare_75 (by decide) (fun c_30 => ?_) (fun c_30 => ?_)
          · exact absurd c_30 (by decide)
          · refine lv_aload_n hx hb dX6_goShare_78 rfl (lv_at hl 2 rfl) ?_
            refine va_get (D := (dC, dI)) (ci := 6) (v := .ref o_readRows) (C := RX6) (T := TX6) (N := 26) hx hb hts hwX6 hown hK hP 0 rfl rfl 5 (by decide) hf_13 (fun _ h9 => h9) rfl dX6_goShare_79 ?_
            refine lv_iload_n hx hb dX6_goShare_82 rfl (lv_at hl 4 rfl) ?_
            refine lv_iconst (v := (3 : Int32)) hx hb dX6_goShare_83 (by decide) ?_
            refine lv_iadd hx hb dX6_goShare_84 ?_
            refine lv_aload_n hx hb dX6_goShare_85 rfl (lv_at hl 2 rfl) ?_
            refine va_get (D := (dC, dI)) (ci := 6) (v := .ref o_readRows) (C := RX6) (T := TX6) (N := 26) hx hb hts hwX6 hown hK hP 0 rfl rfl 5 (by decide) hf_13 (fun _ h9 => h9) rfl dX6_goShare_86 ?_
            refine lv_iload_n hx hb dX6_goShare_89 rfl (lv_at hl 4 rfl) ?_
            refine lv_iconst (v := (2 : Int32)) hx hb dX6_goShare_90 (by decide) ?_
            refine lv_iadd hx hb dX6_goShare_91 ?_
            have e_32 := zaddE (v := (v1 + (2 : Int32))) (rfl : (v1).toInt = _) (by decide : ((2 : Int32)).toInt = 2) rfl (by omega) (by omega)
            have h_31 : vp_in (v1 + (2 : Int32)) 54 := zin (by omega) (by omega)
            refine va_iald hx hb hK hP 1 0 rfl rfl h_31 dX6_goShare_92 ?_
            refine lv_iadd hx hb dX6_goShare_93 ?_
            refine lv_iload_n hx hb dX6_goShare_94 rfl (lv_at hl 1 rfl) ?_
            try have hcn := zRw_cI hrr (c := (v1 + (2 : Int32))) (by omega) (by omega)
            have e_34 := zaddE (v := (v1 + (3 : Int32))) (rfl : (v1).toInt = _) (by decide : ((3 : Int32)).toInt = 3) rfl (by omega) (by omega)
            have e_35 := zaddE (v := ((v1 + (3 : Int32)) + (vo_readRows (v1 + (2 : Int32)).toNatClampNeg))) e_34 (rfl : ((vo_readRows (v1 + (2 : Int32)).toNatClampNeg)).toInt = _) rfl (by omega) (by omega)
            have h_33 : vp_in ((v1 + (3 : Int32)) + (vo_readRows (v1 + (2 : Int32)).toNatClampNeg)) 54 := zin (by omega) (by omega)
            refine va_iast hx hb hK hP hD hS 1 0 rfl rfl h_33 dX6_goShare_95 (fun H locs hP hD hS => ?_)
            obtain ⟨a7, ea7⟩ : ∃ z, (upd vo_readRows ((v1 + (3 : Int32)) + (vo_readRows (v1 + (2 : Int32)).toNatClampNeg)).toNatClampNeg j2) = z := ⟨_, rfl⟩
            replace hT := cut_n ea7 hT
            have hP : va_P (dC, dI) vwCl [(o, .inr (6, [.ref o_page, .int vo_pageMany, .int vo_readMany, .int vo_state, .int vo_readMost, .ref o_readRows, .int vo_glasses, .int vo_towersRead, .int vo_poured, .ref o_rows, .ref o_turns, .ref o_amounts, .ref o_drank, .long vo_spilt, .ref o_takes, .ref o_leans, .ref o_would, .int vo_done, .int vo_seedNow, .int vo_keptTower, .int vo_keptPoured, .long vo_keptSpilt, .ref o_keptAmounts, .ref o_keptDrank, .ref o_keptTurns, .long vo_hash])), (o_readRows, .inl (cI, 54, .inl a7))] H := by rw [← ea7]; exact hP
            have hD : va_D A [(o, .inr (6, [.ref o_page, .int vo_pageMany, .int vo_readMany, .int vo_state, .int vo_readMost, .ref o_readRows, .int vo_glasses, .int vo_towersRead, .int vo_poured, .ref o_rows, .ref o_turns, .ref o_amounts, .ref o_drank, .long vo_spilt, .ref o_takes, .ref o_leans, .ref o_would, .int vo_done, .int vo_seedNow, .int vo_keptTower, .int vo_keptPoured, .long vo_keptSpilt, .ref o_keptAmounts, .ref o_keptDrank, .ref o_keptTurns, .long vo_hash])), (o_readRows, .inl (cI, 54, .inl a7))] := by rw [← ea7]; exact hD
            refine lv_aload_n hx hb dX6_goShare_96 rfl (lv_at hl 2 rfl) ?_
            refine va_get (D := (dC, dI)) (ci := 6) (v := .ref o_readRows) (C := RX6) (T := TX6) (N := 26) hx hb hts hwX6 hown hK hP 0 rfl rfl 5 (by decide) hf_13 (fun _ h9 => h9) rfl dX6_goShare_97 ?_
            refine lv_iload_n hx hb dX6_goShare_100 rfl (lv_at hl 4 rfl) ?_
            refine lv_iconst (v := (2 : Int32)) hx hb dX6_goShare_101 (by decide) ?_
            refine lv_iadd hx hb dX6_goShare_102 ?_
            refine lv_dup2_11 hx hb dX6_goShare_103 rfl rfl ?_
            have e_37 := zaddE (v := (v1 + (2 : Int32))) (rfl : (v1).toInt = _) (by decide : ((2 : Int32)).toInt = 2) rfl (by omega) (by omega)
            have h_36 : vp_in (v1 + (2 : Int32)) 54 := zin (by omega) (by omega)
            refine va_iald hx hb hK hP 1 0 rfl rfl h_36 dX6_goShare_104 ?_
            refine lv_iconst (v := (1 : Int32)) hx hb dX6_goShare_105 (by decide) ?_
            refine lv_iadd hx hb dX6_goShare_106 ?_
            have e_39 := zaddE (v := (v1 + (2 : Int32))) (rfl : (v1).toInt = _) (by decide : ((2 : Int32)).toInt = 2) rfl (by omega) (by omega)
            have h_38 : vp_in (v1 + (2 : Int32)) 54 := zin (by omega) (by omega)
            refine va_iast hx hb hK hP hD hS 1 0 rfl rfl h_38 dX6_goShare_107 (fun H locs hP hD hS => ?_)
            obtain ⟨a8, ea8⟩ : ∃ z, (upd a7 (v1 + (2 : Int32)).toNatClampNeg ((a7 (v1 + (2 : Int32)).toNatClampNeg) + (1 : Int32))) = z := ⟨_, rfl⟩
            replace hT := cut_n ea8 hT
            have hP : va_P (dC, dI) vwCl [(o, .inr (6, [.ref o_page, .int vo_pageMany, .int vo_readMany, .int vo_state, .int vo_readMost, .ref o_readRows, .int vo_glasses, .int vo_towersRead, .int vo_poured, .ref o_rows, .ref o_turns, .ref o_amounts, .ref o_drank, .long vo_spilt, .ref o_takes, .ref o_leans, .ref o_would, .int vo_done, .int vo_seedNow, .int vo_keptTower, .int vo_keptPoured, .long vo_keptSpilt, .ref o_keptAmounts, .ref o_keptDrank, .ref o_keptTurns, .long vo_hash])), (o_readRows, .inl (cI, 54, .inl a8))] H := by rw [← ea8]; exact hP
            have hD : va_D A [(o, .inr (6, [.ref o_page, .int vo_pageMany, .int vo_readMany, .int vo_state, .int vo_readMost, .ref o_readRows, .int vo_glasses, .int vo_towersRead, .int vo_poured, .ref o_rows, .ref o_turns, .ref o_amounts, .ref o_drank, .long vo_spilt, .ref o_takes, .ref o_leans, .ref o_would, .int vo_done, .int vo_seedNow, .int vo_keptTower, .int vo_keptPoured, .long vo_keptSpilt, .ref o_keptAmounts, .ref o_keptDrank, .ref o_keptTurns, .long vo_hash])), (o_readRows, .inl (cI, 54, .inl a8))] := by rw [← ea8]; exact hD
            have hrwN : zRw a8 := zRw_add hrr (c := (v1 + (2 : Int32))) (by omega) (by omega) (by omega) (by omega) (by omega) (by omega) ea7 ea8
            refine lv_aload_n hx hb dX6_goShare_108 rfl (lv_at hl 2 rfl) ?_
            refine lv_iload_n hx hb dX6_goShare_109 rfl (lv_at hl 1 rfl) ?_
            refine lv_bipush (v := (9 : Int32)) hx hb dX6_goShare_110 (by decide) ?_
            refine zz_join1 hT 131 (fun v => [.int v, .ref o]) (fun v H locs ls => va_P (dC, dI) vwCl [(o, .inr (6, [.ref o_page, .int vo_pageMany, .int vo_readMany, .int vo_state, .int vo_readMost, .ref o_readRows, .int vo_glasses, .int vo_towersRead, .int vo_poured, .ref o_rows, .ref o_turns, .ref o_amounts, .ref o_drank, .long vo_spilt, .ref o_takes, .ref o_leans, .ref o_would, .int vo_done, .int vo_seedNow, .int vo_keptTower, .int vo_keptPoured, .long vo_keptSpilt, .ref o_keptAmounts, .ref o_keptDrank, .ref o_keptTurns, .long vo_hash])), (o_readRows, .inl (cI, 54, .inl a8))] H ∧ va_D A [(o, .inr (6, [.ref o_page, .int vo_pageMany, .int vo_readMany, .int vo_state, .int vo_readMost, .ref o_readRows, .int vo_glasses, .int vo_towersRead, .int vo_poured, .ref o_rows, .ref o_turns, .ref o_amounts, .ref o_drank, .long vo_spilt, .ref o_takes, .ref o_leans, .ref o_would, .int vo_done, .int vo_seedNow, .int vo_keptTower, .int vo_keptPoured, .long vo_keptSpilt, .ref o_keptAmounts, .ref o_keptDrank, .ref o_keptTurns, .long vo_hash])), (o_readRows, .inl (cI, 54, .inl a8))] ∧ va_S A s.heap H locs ∧ lv_has ls 5 [(0, .ref o), (4, .int (1 : Int32))]) ?_ ?_
            · rintro j9 ej_77 H locs ls ⟨hP, hD, hS, hl⟩
              replace hT := cut_n ej_77 hT
              have hP : va_P (dC, dI) vwCl [(o, .inr (6, [.ref o_page, .int vo_pageMany, .int vo_readMany, .int vo_state, .int vo_readMost, .ref o_readRows, .int vo_glasses, .int vo_towersRead, .int vo_poured, .ref o_rows, .ref o_turns, .ref o_amounts, .ref o_drank, .long vo_spilt, .ref o_takes, .ref o_leans, .ref o_would, .int vo_done, .int vo_seedNow, .int vo_keptTower, .int vo_keptPoured, .long vo_keptSpilt, .ref o_keptAmounts, .ref o_keptDrank, .ref o_keptTurns, .long vo_hash])), (o_readRows, .inl (cI, 54, .inl a8))] H := hP
              have hD : va_D A [(o, .inr (6, [.ref o_page, .int vo_pageMany, .int vo_readMany, .int vo_state, .int vo_readMost, .ref o_readRows, .int vo_glasses, .int vo_towersRead, .int vo_poured, .ref o_rows, .ref o_turns, .ref o_amounts, .ref o_drank, .long vo_spilt, .ref o_takes, .ref o_leans, .ref o_would, .int vo_done, .int vo_seedNow, .int vo_keptTower, .int vo_keptPoured, .long vo_keptSpilt, .ref o_keptAmounts, .ref o_keptDrank, .ref o_keptTurns, .long vo_hash])), (o_readRows, .inl (cI, 54, .inl a8))] := hD
              have hl : lv_has ls 5 [(0, .ref o), (4, .int (1 : Int32))] := hl
              refine va_put (D := (dC, dI)) (ci := 6) (v := .int j9) (ty := .int) (C := RX6) (T := TX6) (N := 26) hx hb hts hwX6 tyX6 tyX6_ok nmX6 hown hK hP hD hS 0 rfl rfl 4 (by decide) hf_72 (fun _ h9 => h9) rfl (by decide +kernel) rfl rfl (Nat.le_of_ble_eq_true rfl) dX6_goShare_131 (fun H locs hP hD hS => ?_)
              have hP : va_P (dC, dI) vwCl [(o, .inr (6, [.ref o_page, .int vo_pageMany, .int vo_readMany, .int vo_state, .int j9, .ref o_readRows, .int vo_glasses, .int vo_towersRead, .int vo_poured, .ref o_rows, .ref o_turns, .ref o_amounts, .ref o_drank, .long vo_spilt, .ref o_takes, .ref o_leans, .ref o_would, .int vo_done, .int vo_seedNow, .int vo_keptTower, .int vo_keptPoured, .long vo_keptSpilt, .ref o_keptAmounts, .ref o_keptDrank, .ref o_keptTurns, .long vo_hash])), (o_readRows, .inl (cI, 54, .inl a8))] H := hP
              have hD : va_D A [(o, .inr (6, [.ref o_page, .int vo_pageMany, .int vo_readMany, .int vo_state, .int j9, .ref o_readRows, .int vo_glasses, .int vo_towersRead, .int vo_poured, .ref o_rows, .ref o_turns, .ref o_amounts, .ref o_drank, .long vo_spilt, .ref o_takes, .ref o_leans, .ref o_would, .int vo_done, .int vo_seedNow, .int vo_keptTower, .int vo_keptPoured, .long vo_keptSpilt, .ref o_keptAmounts, .ref o_keptDrank, .ref o_keptTurns, .long vo_hash])), (o_readRows, .inl (cI, 54, .inl a8))] := hD
              refine lv_aload_n hx hb dX6_goShare_134 rfl (lv_at hl 0 rfl) ?_
              refine lv_iconst (v := (4 : Int32)) hx hb dX6_goShare_135 (by decide) ?_
              refine va_put (D := (dC, dI)) (ci := 6) (v := .int (4 : Int32)) (ty := .int) (C := RX6) (T := TX6) (N := 26) hx hb hts hwX6 tyX6 tyX6_ok nmX6 hown hK hP hD hS 0 rfl rfl 3 (by decide) hf_59 (fun _ h9 => h9) rfl (by decide +kernel) rfl rfl (Nat.le_of_ble_eq_true rfl) dX6_goShare_136 (fun H locs hP hD hS => ?_)
              have hP : va_P (dC, dI) vwCl [(o, .inr (6, [.ref o_page, .int vo_pageMany, .int vo_readMany, .int (4 : Int32), .int j9, .ref o_readRows, .int vo_glasses, .int vo_towersRead, .int vo_poured, .ref o_rows, .ref o_turns, .ref o_amounts, .ref o_drank, .long vo_spilt, .ref o_takes, .ref o_leans, .ref o_would, .int vo_done, .int vo_seedNow, .int vo_keptTower, .int vo_keptPoured, .long vo_keptSpilt, .ref o_keptAmounts, .ref o_keptDrank, .ref o_keptTurns, .long vo_hash])), (o_readRows, .inl (cI, 54, .inl a8))] H := hP
              have hD : va_D A [(o, .inr (6, [.ref o_page, .int vo_pageMany, .int vo_readMany, .int (4 : Int32), .int j9, .ref o_readRows, .int vo_glasses, .int vo_towersRead, .int vo_poured, .ref o_rows, .ref o_turns, .ref o_amounts, .ref o_drank, .long vo_spilt, .ref o_takes, .ref o_leans, .ref o_would, .int vo_done, .int vo_seedNow, .int vo_keptTower, .int vo_keptPoured, .long vo_keptSpilt, .ref o_keptAmounts, .ref o_keptDrank, .ref o_keptTurns, .long vo_hash])), (o_readRows, .inl (cI, 54, .inl a8))] := hD
              refine lv_iload hx hb dX6_goShare_139 (lv_at hl 1 rfl) ?_
              have hP9 := hP
              have hD9 := hD
              have hS9 := hS
              have hT : ((1 : Int32), (4 : Int32), j9, a8) = (r, qo_state, qo_readMost, qo_readRows) := hT
              cases hT
              subst hQ
              exact zz_zret hx hb hr rfl [0, 1] hK hP9 hD9 hS9 rfl rfl ⟨(Or.inr rfl), (by assumption)⟩ hlocks dX6_goShare_141
            · intro xv hT hM
              refine lv_icmp_ge (tgt := 127) hx hb dX6_goShare_112 (by decide) (fun c_40 => ?_) (fun c_40 => ?_)
              · replace hT := cutT c_40 hT
                have g_78 := zleT (by decide : ((9 : Int32)).toInt = 9) (rfl : (j2).toInt = _) c_40
                refine lv_aload_n hx hb dX6_goShare_127 rfl (lv_at hl 2 rfl) ?_
                refine va_get (D := (dC, dI)) (ci := 6) (v := .int vo_readMost) (C := RX6) (T := TX6) (N := 26) hx hb hts hwX6 hown hK hP 0 rfl rfl 4 (by decide) hf_72 (fun _ h9 => h9) rfl dX6_goShare_128 ?_
                have hP9 := hP
                have hD9 := hD
                have hS9 := hS
                have hl9 := hl
                have hM9 := hM
                have hT : vo_readMost = xv := hT
                subst hT
                exact hM9 _ _ _ ⟨hP9.sub [0, 1] rfl, hD9.sub [0, 1] rfl rfl, hS9, lv_sub hl9 [2, 0] rfl⟩
              · replace hT := cutF c_40 hT
                have g_79 := zleF (by decide : ((9 : Int32)).toInt = 9) (rfl : (j2).toInt = _) c_40
                refine lv_iload_n hx hb dX6_goShare_115 rfl (lv_at hl 1 rfl) ?_
                refine lv_aload_n hx hb dX6_goShare_116 rfl (lv_at hl 2 rfl) ?_
                refine va_get (D := (dC, dI)) (ci := 6) (v := .int vo_readMost) (C := RX6) (T := TX6) (N := 26) hx hb hts hwX6 hown hK hP 0 rfl rfl 4 (by decide) hf_72 (fun _ h9 => h9) rfl dX6_goShare_117 ?_
                refine lv_icmp_le (tgt := 127) hx hb dX6_goShare_120 (by decide) (fun c_41 => ?_) (fun c_41 => ?_)
                · replace hT := cutT c_41 hT
                  have g_80 := zleT (rfl : (j2).toInt = _) (rfl : (vo_readMost).toInt = _) c_41
                  refine lv_aload_n hx hb dX6_goShare_127 rfl (lv_at hl 2 rfl) ?_
                  refine va_get (D := (dC, dI)) (ci := 6) (v := .int vo_readMost) (C := RX6) (T := TX6) (N := 26) hx hb hts hwX6 hown hK hP 0 rfl rfl 4 (by decide) hf_72 (fun _ h9 => h9) rfl dX6_goShare_128 ?_
                  have hP9 := hP
                  have hD9 := hD
                  have hS9 := hS
                  have hl9 := hl
                  have hM9 := hM
                  have hT : vo_readMost = xv := hT
                  subst hT
                  exact hM9 _ _ _ ⟨hP9.sub [0, 1] rfl, hD9.sub [0, 1] rfl rfl, hS9, lv_sub hl9 [2, 0] rfl⟩
                · replace hT := cutF c_41 hT
                  have g_81 := zleF (rfl : (j2).toInt = _) (rfl : (vo_readMost).toInt = _) c_41
                  refine lv_iload_n hx hb dX6_goShare_123 rfl (lv_at hl 1 rfl) ?_
                  refine lv_goto (tgt := 131) hx hb dX6_goShare_124 (by decide) ?_
                  have hP9 := hP
                  have hD9 := hD
                  have hS9 := hS
                  have hl9 := hl
                  have hM9 := hM
                  have hT : j2 = xv := hT
                  subst hT
                  exact hM9 _ _ _ ⟨hP9.sub [0, 1] rfl, hD9.sub [0, 1] rfl rfl, hS9, lv_sub hl9 [2, 0] rfl⟩
        · replace hT := cutF c_29 hT
          have g_82 := zeqF (rfl : (p1).toInt = _) (by decide : ((45 : Int32)).toInt = 45) c_29
          refine lv_iload_n hx hb dX6_goShare_48 rfl (lv_at hl 0 rfl) ?_
          refine lv_i2l (v := (j2.toInt64)) hx hb dX6_goShare_49 rfl ?_
          refine lv_aload_n hx hb dX6_goShare_50 rfl (lv_at hl 1 rfl) ?_
          refine va_get (D := (dC, dI)) (ci := 6) (v := .int vo_readMany) (C := RX6) (T := TX6) (N := 26) hx hb hts hwX6 hown hK hP 0 rfl rfl 2 (by decide) hf_56 (fun _ h9 => h9) rfl dX6_goShare_51 ?_
          refine lv_iconst (v := (1 : Int32)) hx hb dX6_goShare_54 (by decide) ?_
          refine lv_iadd hx hb dX6_goShare_55 ?_
          refine lv_i2l (v := ((vo_readMany + (1 : Int32)).toInt64)) hx hb dX6_goShare_56 rfl ?_
          refine lv_ldc2 (v := (8 : Int64)) hx hb hown hc_70 dX6_goShare_57 ?_
          obtain ⟨r10, ev_42⟩ : ∃ x0, (m_X6_isIn (j2.toInt64) ((vo_readMany + (1 : Int32)).toInt64) (8 : Int64)) = x0 := ⟨_, rfl⟩
          replace hT := cut_n ev_42 hT
          refine zz_ci [] [0, 1] (wr := [(o, .inr (6, [.ref o_page, .int vo_pageMany, .int vo_readMany, .int vo_state, .int vo_readMost, .ref o_readRows, .int vo_glasses, .int vo_towersRead, .int vo_poured, .ref o_rows, .ref o_turns, .ref o_amounts, .ref o_drank, .long vo_spilt, .ref o_takes, .ref o_leans, .ref o_would, .int vo_done, .int vo_seedNow, .int vo_keptTower, .int vo_keptPoured, .long vo_keptSpilt, .ref o_keptAmounts, .ref o_keptDrank, .ref o_keptTurns, .long vo_hash])), (o_readRows, .inl (cI, 54, .inl vo_readRows))]) (w1 := []) (va_runS (As := [.long (j2.toInt64), .long ((vo_readMany + (1 : Int32)).toInt64), .long (8 : Int64)]) (rest := []) ⟨hx, hb, hml, hown, hts⟩ (k_X6_isIn l dC dI cI cJ cC H.size (j2.toInt64) ((vo_readMany + (1 : Int32)).toInt64) (8 : Int64) r10 ev_42) (va_cwS 3 hts gX6_goShare_X6_isIn rfl rfl rfl (by decide +kernel) ⟨Nat.le_of_ble_eq_true rfl, Nat.le_of_ble_eq_true rfl⟩) (zz_preS [] hK hP hD rfl rfl) rfl rfl hl.1 rfl (lv_room (Nat.le_of_ble_eq_true rfl)) dX6_goShare_60 ⟨Nat.zero_le _, Nat.zero_le _⟩) hP hD hS hA rfl rfl rfl (by decide) (fun ok_43 H locs hP hD hS => ?_)
          have hP : va_P (dC, dI) vwCl [(o, .inr (6, [.ref o_page, .int vo_pageMany, .int vo_readMany, .int vo_state, .int vo_readMost, .ref o_readRows, .int vo_glasses, .int vo_towersRead, .int vo_poured, .ref o_rows, .ref o_turns, .ref o_amounts, .ref o_drank, .long vo_spilt, .ref o_takes, .ref o_leans, .ref o_would, .int vo_done, .int vo_seedNow, .int vo_keptTower, .int vo_keptPoured, .long vo_keptSpilt, .ref o_keptAmounts, .ref o_keptDrank, .ref o_keptTurns, .long vo_hash])), (o_readRows, .inl (cI, 54, .inl vo_readRows))] H := hP
          have hD : va_D A [(o, .inr (6, [.ref o_page, .int vo_pageMany, .int vo_readMany, .int vo_state, .int vo_readMost, .ref o_readRows, .int vo_glasses, .int vo_towersRead, .int vo_poured, .ref o_rows, .ref o_turns, .ref o_amounts, .ref o_drank, .long vo_spilt, .ref o_takes, .ref o_leans, .ref o_would, .int vo_done, .int vo_seedNow, .int vo_keptTower, .int vo_keptPoured, .long vo_keptSpilt, .ref o_keptAmounts, .ref o_keptDrank, .ref o_keptTurns, .long vo_hash])), (o_readRows, .inl (cI, 54, .inl vo_readRows))] := hD
          have hz_44 : ((j2.toInt64)).toInt = (j2).toInt := Int32.toInt_toInt64 _
          try have e_45 := zaddE (v := (vo_readMany + (1 : Int32))) (rfl : (vo_readMany).toInt = _) (by decide : ((1 : Int32)).toInt = 1) rfl (by omega) (by omega)
          have hz_46 : (((vo_readMany + (1 : Int32)).toInt64)).toInt = ((vo_readMany + (1 : Int32))).toInt := Int32.toInt_toInt64 _
          have hz_47 : ((8 : Int64)).toInt = 8 := by decide
          obtain ⟨k_48, k_49⟩ := ok_43
          refine lv_if_eq (tgt := 70) hx hb dX6_goShare_63 (by decide) (fun c_50 => ?_) (fun c_50 => ?_)
          · replace hT := cutT c_50 hT
            have g_83 := zeqT (rfl : (r10).toInt = _) (by decide : ((0 : Int32)).toInt = 0) c_50
            refine lv_iconst (v := (0 : Int32)) hx hb dX6_goShare_70 (by decide) ?_
            refine lv_istore (lv' := [(4, .int (0 : Int32)), (3, .int j2), (0, .ref o), (1, .int p1), (2, .int v1)]) hx hb dX6_goShare_71 hl (by decide) rfl (fun ls hl => ?_)
            refine lv_iload hx hb dX6_goShare_73 (lv_at hl 0 rfl) ?_
            refine lv_if_eq (tgt := 134) hx hb dX6_goShare_75 (by decide) (fun c_51 => ?_) (fun c_51 => ?_)
            · refine lv_aload_n hx hb dX6_goShare_134 rfl (lv_at hl 2 rfl) ?_
              refine lv_iconst (v := (4 : Int32)) hx hb dX6_goShare_135 (by decide) ?_
              refine va_put (D := (dC, dI)) (ci := 6) (v := .int (4 : Int32)) (ty := .int) (C := RX6) (T := TX6) (N := 26) hx hb hts hwX6 tyX6 tyX6_ok nmX6 hown hK hP hD hS 0 rfl rfl 3 (by decide) hf_59 (fun _ h9 => h9) rfl (by decide +kernel) rfl rfl (Nat.le_of_ble_eq_true rfl) dX6_goShare_136 (fun H locs hP hD hS => ?_)
              have hP : va_P (dC, dI) vwCl [(o, .inr (6, [.ref o_page, .int vo_pageMany, .int vo_readMany, .int (4 : Int32), .int vo_readMost, .ref o_readRows, .int vo_glasses, .int vo_towersRead, .int vo_poured, .ref o_rows, .ref o_turns, .ref o_amounts, .ref o_drank, .long vo_spilt, .ref o_takes, .ref o_leans, .ref o_would, .int vo_done, .int vo_seedNow, .int vo_keptTower, .int vo_keptPoured, .long vo_keptSpilt, .ref o_keptAmounts, .ref o_keptDrank, .ref o_keptTurns, .long vo_hash])), (o_readRows, .inl (cI, 54, .inl vo_readRows))] H := hP
              have hD : va_D A [(o, .inr (6, [.ref o_page, .int vo_pageMany, .int vo_readMany, .int (4 : Int32), .int vo_readMost, .ref o_readRows, .int vo_glasses, .int vo_towersRead, .int vo_poured, .ref o_rows, .ref o_turns, .ref o_amounts, .ref o_drank, .long vo_spilt, .ref o_takes, .ref o_leans, .ref o_would, .int vo_done, .int vo_seedNow, .int vo_keptTower, .int vo_keptPoured, .long vo_keptSpilt, .ref o_keptAmounts, .ref o_keptDrank, .ref o_keptTurns, .long vo_hash])), (o_readRows, .inl (cI, 54, .inl vo_readRows))] := hD
              refine lv_iload hx hb dX6_goShare_139 (lv_at hl 0 rfl) ?_
              have hP9 := hP
              have hD9 := hD
              have hS9 := hS
              have hT : ((0 : Int32), (4 : Int32), vo_readMost, vo_readRows) = (r, qo_state, qo_readMost, qo_readRows) := hT
              cases hT
              subst hQ
              exact zz_zret hx hb hr rfl [0, 1] hK hP9 hD9 hS9 rfl rfl ⟨(Or.inl rfl), (by assumption)⟩ hlocks dX6_goShare_141
            · exact absurd c_51 (by decide)
          · replace hT := cutF c_50 hT
            have g_84 := zeqF (rfl : (r10).toInt = _) (by decide : ((0 : Int32)).toInt = 0) c_50
            refine lv_iconst (v := (1 : Int32)) hx hb dX6_goShare_66 (by decide) ?_
            refine lv_goto (tgt := 71) hx hb dX6_goShare_67 (by decide) ?_
            refine lv_istore (lv' := [(4, .int (1 : Int32)), (3, .int j2), (0, .ref o), (1, .int p1), (2, .int v1)]) hx hb dX6_goShare_71 hl (by decide) rfl (fun ls hl => ?_)
            refine lv_iload hx hb dX6_goShare_73 (lv_at hl 0 rfl) ?_
            refine lv_if_eq (tgt := 134) hx hb dX6_goShare_75 (by decide) (fun c_52 => ?_) (fun c_52 => ?_)
            · exact absurd c_52 (by decide)
            · refine lv_aload_n hx hb dX6_goShare_78 rfl (lv_at hl 2 rfl) ?_
              refine va_get (D := (dC, dI)) (ci := 6) (v := .ref o_readRows) (C := RX6) (T := TX6) (N := 26) hx hb hts hwX6 hown hK hP 0 rfl rfl 5 (by decide) hf_13 (fun _ h9 => h9) rfl dX6_goShare_79 ?_
              refine lv_iload_n hx hb dX6_goShare_82 rfl (lv_at hl 4 rfl) ?_
              refine lv_iconst (v := (3 : Int32)) hx hb dX6_goShare_83 (by decide) ?_
              refine lv_iadd hx hb dX6_goShare_84 ?_
              refine lv_aload_n hx hb dX6_goShare_85 rfl (lv_at hl 2 rfl) ?_
              refine va_get (D := (dC, dI)) (ci := 6) (v := .ref o_readRows) (C := RX6) (T := TX6) (N := 26) hx hb hts hwX6 hown hK hP 0 rfl rfl 5 (by decide) hf_13 (fun _ h9 => h9) rfl dX6_goShare_86 ?_
              refine lv_iload_n hx hb dX6_goShare_89 rfl (lv_at hl 4 rfl) ?_
              refine lv_iconst (v := (2 : Int32)) hx hb dX6_goShare_90 (by decide) ?_
              refine lv_iadd hx hb dX6_goShare_91 ?_
              have e_54 := zaddE (v := (v1 + (2 : Int32))) (rfl : (v1).toInt = _) (by decide : ((2 : Int32)).toInt = 2) rfl (by omega) (by omega)
              have h_53 : vp_in (v1 + (2 : Int32)) 54 := zin (by omega) (by omega)
              refine va_iald hx hb hK hP 1 0 rfl rfl h_53 dX6_goShare_92 ?_
              refine lv_iadd hx hb dX6_goShare_93 ?_
              refine lv_iload_n hx hb dX6_goShare_94 rfl (lv_at hl 1 rfl) ?_
              try have hcn := zRw_cI hrr (c := (v1 + (2 : Int32))) (by omega) (by omega)
              have e_56 := zaddE (v := (v1 + (3 : Int32))) (rfl : (v1).toInt = _) (by decide : ((3 : Int32)).toInt = 3) rfl (by omega) (by omega)
              have e_57 := zaddE (v := ((v1 + (3 : Int32)) + (vo_readRows (v1 + (2 : Int32)).toNatClampNeg))) e_56 (rfl : ((vo_readRows (v1 + (2 : Int32)).toNatClampNeg)).toInt = _) rfl (by omega) (by omega)
              have h_55 : vp_in ((v1 + (3 : Int32)) + (vo_readRows (v1 + (2 : Int32)).toNatClampNeg)) 54 := zin (by omega) (by omega)
              refine va_iast hx hb hK hP hD hS 1 0 rfl rfl h_55 dX6_goShare_95 (fun H locs hP hD hS => ?_)
              obtain ⟨a11, ea11⟩ : ∃ z, (upd vo_readRows ((v1 + (3 : Int32)) + (vo_readRows (v1 + (2 : Int32)).toNatClampNeg)).toNatClampNeg j2) = z := ⟨_, rfl⟩
              replace hT := cut_n ea11 hT
              have hP : va_P (dC, dI) vwCl [(o, .inr (6, [.ref o_page, .int vo_pageMany, .int vo_readMany, .int vo_state, .int vo_readMost, .ref o_readRows, .int vo_glasses, .int vo_towersRead, .int vo_poured, .ref o_rows, .ref o_turns, .ref o_amounts, .ref o_drank, .long vo_spilt, .ref o_takes, .ref o_leans, .ref o_would, .int vo_done, .int vo_seedNow, .int vo_keptTower, .int vo_keptPoured, .long vo_keptSpilt, .ref o_keptAmounts, .ref o_keptDrank, .ref o_keptTurns, .long vo_hash])), (o_readRows, .inl (cI, 54, .inl a11))] H := by rw [← ea11]; exact hP
              have hD : va_D A [(o, .inr (6, [.ref o_page, .int vo_pageMany, .int vo_readMany, .int vo_state, .int vo_readMost, .ref o_readRows, .int vo_glasses, .int vo_towersRead, .int vo_poured, .ref o_rows, .ref o_turns, .ref o_amounts, .ref o_drank, .long vo_spilt, .ref o_takes, .ref o_leans, .ref o_would, .int vo_done, .int vo_seedNow, .int vo_keptTower, .int vo_keptPoured, .long vo_keptSpilt, .ref o_keptAmounts, .ref o_keptDrank, .ref o_keptTurns, .long vo_hash])), (o_readRows, .inl (cI, 54, .inl a11))] := by rw [← ea11]; exact hD
              refine lv_aload_n hx hb dX6_goShare_96 rfl (lv_at hl 2 rfl) ?_
              refine va_get (D := (dC, dI)) (ci := 6) (v := .ref o_readRows) (C := RX6) (T := TX6) (N := 26) hx hb hts hwX6 hown hK hP 0 rfl rfl 5 (by decide) hf_13 (fun _ h9 => h9) rfl dX6_goShare_97 ?_
              refine lv_iload_n hx hb dX6_goShare_100 rfl (lv_at hl 4 rfl) ?_
              refine lv_iconst (v := (2 : Int32)) hx hb dX6_goShare_101 (by decide) ?_
              refine lv_iadd hx hb dX6_goShare_102 ?_
              refine lv_dup2_11 hx hb dX6_goShare_103 rfl rfl ?_
              have e_59 := zaddE (v := (v1 + (2 : Int32))) (rfl : (v1).toInt = _) (by decide : ((2 : Int32)).toInt = 2) rfl (by omega) (by omega)
              have h_58 : vp_in (v1 + (2 : Int32)) 54 := zin (by omega) (by omega)
              refine va_iald hx hb hK hP 1 0 rfl rfl h_58 dX6_goShare_104 ?_
              refine lv_iconst (v := (1 : Int32)) hx hb dX6_goShare_105 (by decide) ?_
              refine lv_iadd hx hb dX6_goShare_106 ?_
              have e_61 := zaddE (v := (v1 + (2 : Int32))) (rfl : (v1).toInt = _) (by decide : ((2 : Int32)).toInt = 2) rfl (by omega) (by omega)
              have h_60 : vp_in (v1 + (2 : Int32)) 54 := zin (by omega) (by omega)
              refine va_iast hx hb hK hP hD hS 1 0 rfl rfl h_60 dX6_goShare_107 (fun H locs hP hD hS => ?_)
              obtain ⟨a12, ea12⟩ : ∃ z, (upd a11 (v1 + (2 : Int32)).toNatClampNeg ((a11 (v1 + (2 : Int32)).toNatClampNeg) + (1 : Int32))) = z := ⟨_, rfl⟩
              replace hT := cut_n ea12 hT
              have hP : va_P (dC, dI) vwCl [(o, .inr (6, [.ref o_page, .int vo_pageMany, .int vo_readMany, .int vo_state, .int vo_readMost, .ref o_readRows, .int vo_glasses, .int vo_towersRead, .int vo_poured, .ref o_rows, .ref o_turns, .ref o_amounts, .ref o_drank, .long vo_spilt, .ref o_takes, .ref o_leans, .ref o_would, .int vo_done, .int vo_seedNow, .int vo_keptTower, .int vo_keptPoured, .long vo_keptSpilt, .ref o_keptAmounts, .ref o_keptDrank, .ref o_keptTurns, .long vo_hash])), (o_readRows, .inl (cI, 54, .inl a12))] H := by rw [← ea12]; exact hP
              have hD : va_D A [(o, .inr (6, [.ref o_page, .int vo_pageMany, .int vo_readMany, .int vo_state, .int vo_readMost, .ref o_readRows, .int vo_glasses, .int vo_towersRead, .int vo_poured, .ref o_rows, .ref o_turns, .ref o_amounts, .ref o_drank, .long vo_spilt, .ref o_takes, .ref o_leans, .ref o_would, .int vo_done, .int vo_seedNow, .int vo_keptTower, .int vo_keptPoured, .long vo_keptSpilt, .ref o_keptAmounts, .ref o_keptDrank, .ref o_keptTurns, .long vo_hash])), (o_readRows, .inl (cI, 54, .inl a12))] := by rw [← ea12]; exact hD
              have hrwN : zRw a12 := zRw_add hrr (c := (v1 + (2 : Int32))) (by omega) (by omega) (by omega) (by omega) (by omega) (by omega) ea11 ea12
              refine lv_aload_n hx hb dX6_goShare_108 rfl (lv_at hl 2 rfl) ?_
              refine lv_iload_n hx hb dX6_goShare_109 rfl (lv_at hl 1 rfl) ?_
              refine lv_bipush (v := (9 : Int32)) hx hb dX6_goShare_110 (by decide) ?_
              refine zz_join1 hT 131 (fun v => [.int v, .ref o]) (fun v H locs ls => va_P (dC, dI) vwCl [(o, .inr (6, [.ref o_page, .int vo_pageMany, .int vo_readMany, .int vo_state, .int vo_readMost, .ref o_readRows, .int vo_glasses, .int vo_towersRead, .int vo_poured, .ref o_rows, .ref o_turns, .ref o_amounts, .ref o_drank, .long vo_spilt, .ref o_takes, .ref o_leans, .ref o_would, .int vo_done, .int vo_seedNow, .int vo_keptTower, .int vo_keptPoured, .long vo_keptSpilt, .ref o_keptAmounts, .ref o_keptDrank, .ref o_keptTurns, .long vo_hash])), (o_readRows, .inl (cI, 54, .inl a12))] H ∧ va_D A [(o, .inr (6, [.ref o_page, .int vo_pageMany, .int vo_readMany, .int vo_state, .int vo_readMost, .ref o_readRows, .int vo_glasses, .int vo_towersRead, .int vo_poured, .ref o_rows, .ref o_turns, .ref o_amounts, .ref o_drank, .long vo_spilt, .ref o_takes, .ref o_leans, .ref o_would, .int vo_done, .int vo_seedNow, .int vo_keptTower, .int vo_keptPoured, .long vo_keptSpilt, .ref o_keptAmounts, .ref o_keptDrank, .ref o_keptTurns, .long vo_hash])), (o_readRows, .inl (cI, 54, .inl a12))] ∧ va_S A s.heap H locs ∧ lv_has ls 5 [(0, .ref o), (4, .int (1 : Int32))]) ?_ ?_
              · rintro j13 ej_85 H locs ls ⟨hP, hD, hS, hl⟩
                replace hT := cut_n ej_85 hT
                have hP : va_P (dC, dI) vwCl [(o, .inr (6, [.ref o_page, .int vo_pageMany, .int vo_readMany, .int vo_state, .int vo_readMost, .ref o_readRows, .int vo_glasses, .int vo_towersRead, .int vo_poured, .ref o_rows, .ref o_turns, .ref o_amounts, .ref o_drank, .long vo_spilt, .ref o_takes, .ref o_leans, .ref o_would, .int vo_done, .int vo_seedNow, .int vo_keptTower, .int vo_keptPoured, .long vo_keptSpilt, .ref o_keptAmounts, .ref o_keptDrank, .ref o_keptTurns, .long vo_hash])), (o_readRows, .inl (cI, 54, .inl a12))] H := hP
                have hD : va_D A [(o, .inr (6, [.ref o_page, .int vo_pageMany, .int vo_readMany, .int vo_state, .int vo_readMost, .ref o_readRows, .int vo_glasses, .int vo_towersRead, .int vo_poured, .ref o_rows, .ref o_turns, .ref o_amounts, .ref o_drank, .long vo_spilt, .ref o_takes, .ref o_leans, .ref o_would, .int vo_done, .int vo_seedNow, .int vo_keptTower, .int vo_keptPoured, .long vo_keptSpilt, .ref o_keptAmounts, .ref o_keptDrank, .ref o_keptTurns, .long vo_hash])), (o_readRows, .inl (cI, 54, .inl a12))] := hD
                have hl : lv_has ls 5 [(0, .ref o), (4, .int (1 : Int32))] := hl
                refine va_put (D := (dC, dI)) (ci := 6) (v := .int j13) (ty := .int) (C := RX6) (T := TX6) (N := 26) hx hb hts hwX6 tyX6 tyX6_ok nmX6 hown hK hP hD hS 0 rfl rfl 4 (by decide) hf_72 (fun _ h9 => h9) rfl (by decide +kernel) rfl rfl (Nat.le_of_ble_eq_true rfl) dX6_goShare_131 (fun H locs hP hD hS => ?_)
                have hP : va_P (dC, dI) vwCl [(o, .inr (6, [.ref o_page, .int vo_pageMany, .int vo_readMany, .int vo_state, .int j13, .ref o_readRows, .int vo_glasses, .int vo_towersRead, .int vo_poured, .ref o_rows, .ref o_turns, .ref o_amounts, .ref o_drank, .long vo_spilt, .ref o_takes, .ref o_leans, .ref o_would, .int vo_done, .int vo_seedNow, .int vo_keptTower, .int vo_keptPoured, .long vo_keptSpilt, .ref o_keptAmounts, .ref o_keptDrank, .ref o_keptTurns, .long vo_hash])), (o_readRows, .inl (cI, 54, .inl a12))] H := hP
                have hD : va_D A [(o, .inr (6, [.ref o_page, .int vo_pageMany, .int vo_readMany, .int vo_state, .int j13, .ref o_readRows, .int vo_glasses, .int vo_towersRead, .int vo_poured, .ref o_rows, .ref o_turns, .ref o_amounts, .ref o_drank, .long vo_spilt, .ref o_takes, .ref o_leans, .ref o_would, .int vo_done, .int vo_seedNow, .int vo_keptTower, .int vo_keptPoured, .long vo_keptSpilt, .ref o_keptAmounts, .ref o_keptDrank, .ref o_keptTurns, .long vo_hash])), (o_readRows, .inl (cI, 54, .inl a12))] := hD
                refine lv_aload_n hx hb dX6_goShare_134 rfl (lv_at hl 0 rfl) ?_
                refine lv_iconst (v := (4 : Int32)) hx hb dX6_goShare_135 (by decide) ?_
                refine va_put (D := (dC, dI)) (ci := 6) (v := .int (4 : Int32)) (ty := .int) (C := RX6) (T := TX6) (N := 26) hx hb hts hwX6 tyX6 tyX6_ok nmX6 hown hK hP hD hS 0 rfl rfl 3 (by decide) hf_59 (fun _ h9 => h9) rfl (by decide +kernel) rfl rfl (Nat.le_of_ble_eq_true rfl) dX6_goShare_136 (fun H locs hP hD hS => ?_)
                have hP : va_P (dC, dI) vwCl [(o, .inr (6, [.ref o_page, .int vo_pageMany, .int vo_readMany, .int (4 : Int32), .int j13, .ref o_readRows, .int vo_glasses, .int vo_towersRead, .int vo_poured, .ref o_rows, .ref o_turns, .ref o_amounts, .ref o_drank, .long vo_spilt, .ref o_takes, .ref o_leans, .ref o_would, .int vo_done, .int vo_seedNow, .int vo_keptTower, .int vo_keptPoured, .long vo_keptSpilt, .ref o_keptAmounts, .ref o_keptDrank, .ref o_keptTurns, .long vo_hash])), (o_readRows, .inl (cI, 54, .inl a12))] H := hP
                have hD : va_D A [(o, .inr (6, [.ref o_page, .int vo_pageMany, .int vo_readMany, .int (4 : Int32), .int j13, .ref o_readRows, .int vo_glasses, .int vo_towersRead, .int vo_poured, .ref o_rows, .ref o_turns, .ref o_amounts, .ref o_drank, .long vo_spilt, .ref o_takes, .ref o_leans, .ref o_would, .int vo_done, .int vo_seedNow, .int vo_keptTower, .int vo_keptPoured, .long vo_keptSpilt, .ref o_keptAmounts, .ref o_keptDrank, .ref o_keptTurns, .long vo_hash])), (o_readRows, .inl (cI, 54, .inl a12))] := hD
                refine lv_iload hx hb dX6_goShare_139 (lv_at hl 1 rfl) ?_
                have hP9 := hP
                have hD9 := hD
                have hS9 := hS
                have hT : ((1 : Int32), (4 : Int32), j13, a12) = (r, qo_state, qo_readMost, qo_readRows) := hT
                cases hT
                subst hQ
                exact zz_zret hx hb hr rfl [0, 1] hK hP9 hD9 hS9 rfl rfl ⟨(Or.inr rfl), (by assumption)⟩ hlocks dX6_goShare_141
              · intro xv hT hM
                refine lv_icmp_ge (tgt := 127) hx hb dX6_goShare_112 (by decide) (fun c_62 => ?_) (fun c_62 => ?_)
                · replace hT := cutT c_62 hT
                  have g_86 := zleT (by decide : ((9 : Int32)).toInt = 9) (rfl : (j2).toInt = _) c_62
                  refine lv_aload_n hx hb dX6_goShare_127 rfl (lv_at hl 2 rfl) ?_
                  refine va_get (D := (dC, dI)) (ci := 6) (v := .int vo_readMost) (C := RX6) (T := TX6) (N := 26) hx hb hts hwX6 hown hK hP 0 rfl rfl 4 (by decide) hf_72 (fun _ h9 => h9) rfl dX6_goShare_128 ?_
                  have hP9 := hP
                  have hD9 := hD
                  have hS9 := hS
                  have hl9 := hl
                  have hM9 := hM
                  have hT : vo_readMost = xv := hT
                  subst hT
                  exact hM9 _ _ _ ⟨hP9.sub [0, 1] rfl, hD9.sub [0, 1] rfl rfl, hS9, lv_sub hl9 [2, 0] rfl⟩
                · replace hT := cutF c_62 hT
                  have g_87 := zleF (by decide : ((9 : Int32)).toInt = 9) (rfl : (j2).toInt = _) c_62
                  refine lv_iload_n hx hb dX6_goShare_115 rfl (lv_at hl 1 rfl) ?_
                  refine lv_aload_n hx hb dX6_goShare_116 rfl (lv_at hl 2 rfl) ?_
                  refine va_get (D := (dC, dI)) (ci := 6) (v := .int vo_readMost) (C := RX6) (T := TX6) (N := 26) hx hb hts hwX6 hown hK hP 0 rfl rfl 4 (by decide) hf_72 (fun _ h9 => h9) rfl dX6_goShare_117 ?_
                  refine lv_icmp_le (tgt := 127) hx hb dX6_goShare_120 (by decide) (fun c_63 => ?_) (fun c_63 => ?_)
                  · replace hT := cutT c_63 hT
                    have g_88 := zleT (rfl : (j2).toInt = _) (rfl : (vo_readMost).toInt = _) c_63
                    refine lv_aload_n hx hb dX6_goShare_127 rfl (lv_at hl 2 rfl) ?_
                    refine va_get (D := (dC, dI)) (ci := 6) (v := .int vo_readMost) (C := RX6) (T := TX6) (N := 26) hx hb hts hwX6 hown hK hP 0 rfl rfl 4 (by decide) hf_72 (fun _ h9 => h9) rfl dX6_goShare_128 ?_
                    have hP9 := hP
                    have hD9 := hD
                    have hS9 := hS
                    have hl9 := hl
                    have hM9 := hM
                    have hT : vo_readMost = xv := hT
                    subst hT
                    exact hM9 _ _ _ ⟨hP9.sub [0, 1] rfl, hD9.sub [0, 1] rfl rfl, hS9, lv_sub hl9 [2, 0] rfl⟩
                  · replace hT := cutF c_63 hT
                    have g_89 := zleF (rfl : (j2).toInt = _) (rfl : (vo_readMost).toInt = _) c_63
                    refine lv_iload_n hx hb dX6_goShare_123 rfl (lv_at hl 1 rfl) ?_
                    refine lv_goto (tgt := 131) hx hb dX6_goShare_124 (by decide) ?_
                    have hP9 := hP
                    have hD9 := hD
                    have hS9 := hS
                    have hl9 := hl
                    have hM9 := hM
                    have hT : j2 = xv := hT
                    subst hT
                    exact hM9 _ _ _ ⟨hP9.sub [0, 1] rfl, hD9.sub [0, 1] rfl rfl, hS9, lv_sub hl9 [2, 0] rfl⟩
  · intro xv hT hM
    refine lv_icmp_ne (tgt := 19) hx hb dX6_goShare_11 (by decide) (fun c_1 => ?_) (fun c_1 => ?_)
    · replace hT := cutF c_1 hT
      have g_90 := zeqF (rfl : (p1).toInt = _) (by decide : ((45 : Int32)).toInt = 45) c_1
      refine lv_iload_n hx hb dX6_goShare_19 rfl (lv_at hl 2 rfl) ?_
      refine lv_bipush (v := (48 : Int32)) hx hb dX6_goShare_20 (by decide) ?_
      refine lv_isub hx hb dX6_goShare_22 ?_
      have hP9 := hP
      have hD9 := hD
      have hS9 := hS
      have hl9 := hl
      have hM9 := hM
      have hT : (p1 - (48 : Int32)) = xv := hT
      subst hT
      exact hM9 _ _ _ ⟨hP9.sub [0, 1] rfl, hD9.sub [0, 1] rfl rfl, hS9, lv_sub hl9 [1, 2, 0] rfl⟩
    · replace hT := cutT c_1 hT
      have g_91 := zeqT (rfl : (p1).toInt = _) (by decide : ((45 : Int32)).toInt = 45) c_1
      refine lv_bipush (v := (9 : Int32)) hx hb dX6_goShare_14 (by decide) ?_
      refine lv_goto (tgt := 23) hx hb dX6_goShare_16 (by decide) ?_
      have hP9 := hP
      have hD9 := hD
      have hS9 := hS
      have hl9 := hl
      have hM9 := hM
      have hT : (9 : Int32) = xv := hT
      subst hT
      exact hM9 _ _ _ ⟨hP9.sub [0, 1] rfl, hD9.sub [0, 1] rfl rfl, hS9, lv_sub hl9 [1, 2, 0] rfl⟩

def m_X6_goNext (vo_readMany : Int32) (vo_state : Int32) : Int32 × Int32 × Int32 :=
 if vo_state = (2 : Int32) then
  if (8 : Int32) ≤ vo_readMany then
   cut (vo_readMany + (0 : Int32)) (fun (v1 : Int32) =>
   ((0 : Int32), v1, (0 : Int32)))
  else
   cut (vo_readMany + (1 : Int32)) (fun (v2 : Int32) =>
   ((1 : Int32), v2, (0 : Int32)))
 else
  if vo_state = (4 : Int32) then
   if (8 : Int32) ≤ vo_readMany then
    cut (vo_readMany + (0 : Int32)) (fun (v4 : Int32) =>
    ((0 : Int32), v4, (0 : Int32)))
   else
    cut (vo_readMany + (1 : Int32)) (fun (v5 : Int32) =>
    ((1 : Int32), v5, (0 : Int32)))
  else
   cut (vo_readMany + (0 : Int32)) (fun (v3 : Int32) =>
   ((0 : Int32), v3, (0 : Int32)))
set_option maxHeartbeats 4000000 in
set_option maxRecDepth 100000 in
theorem k_X6_goNext (l : Launch) (dC : Nat → ClassId) (dI : Nat → Nat → Nat) (cI cJ cC : ClassId) (sz : Nat) (o o_page o_readRows o_rows o_turns o_amounts o_drank o_takes o_leans o_would o_keptAmounts o_keptDrank o_keptTurns : Nat) (vo_pageMany : Int32) (vo_readMany : Int32) (vo_state : Int32) (vo_readMost : Int32) (vo_glasses : Int32) (vo_towersRead : Int32) (vo_poured : Int32) (vo_spilt : Int64) (vo_done : Int32) (vo_seedNow : Int32) (vo_keptTower : Int32) (vo_keptPoured : Int32) (vo_keptSpilt : Int64) (vo_hash : Int64) (r : Int32) (qo_readMany : Int32) (qo_state : Int32) (hT : m_X6_goNext vo_readMany vo_state = (r, qo_readMany, qo_state)) (hm0 : 0 ≤ vo_readMany.toInt) (hm8 : vo_readMany.toInt ≤ 8) : Met l yX6_goNext wsX6_goNext ({ frames := 0, cells := 0, slots := 0, locals := 0 }) (zPc [.ref o] (dC, dI) (zTy cI cJ cC) [(o, .inr (6, [.ref o_page, .int vo_pageMany, .int vo_readMany, .int vo_state, .int vo_readMost, .ref o_readRows, .int vo_glasses, .int vo_towersRead, .int vo_poured, .ref o_rows, .ref o_turns, .ref o_amounts, .ref o_drank, .long vo_spilt, .ref o_takes, .ref o_leans, .ref o_would, .int vo_done, .int vo_seedNow, .int vo_keptTower, .int vo_keptPoured, .long vo_keptSpilt, .ref o_keptAmounts, .ref o_keptDrank, .ref o_keptTurns, .long vo_hash]))] sz) (zQi r ((zB01 r) ∧ (0 ≤ qo_readMany.toInt) ∧ (qo_readMany.toInt ≤ 8)) (dC, dI) (zTy cI cJ cC) [(o, .inr (6, [.ref o_page, .int vo_pageMany, .int qo_readMany, .int qo_state, .int vo_readMost, .ref o_readRows, .int vo_glasses, .int vo_towersRead, .int vo_poured, .ref o_rows, .ref o_turns, .ref o_amounts, .ref o_drank, .long vo_spilt, .ref o_takes, .ref o_leans, .ref o_would, .int vo_done, .int vo_seedNow, .int vo_keptTower, .int vo_keptPoured, .long vo_keptSpilt, .ref o_keptAmounts, .ref o_keptDrank, .ref o_keptTurns, .long vo_hash]))] (va_A [(o, .inr (6, [.ref o_page, .int vo_pageMany, .int vo_readMany, .int vo_state, .int vo_readMost, .ref o_readRows, .int vo_glasses, .int vo_towersRead, .int vo_poured, .ref o_rows, .ref o_turns, .ref o_amounts, .ref o_drank, .long vo_spilt, .ref o_takes, .ref o_leans, .ref o_would, .int vo_done, .int vo_seedNow, .int vo_keptTower, .int vo_keptPoured, .long vo_keptSpilt, .ref o_keptAmounts, .ref o_keptDrank, .ref o_keptTurns, .long vo_hash]))] sz)) 0 0 (va_A [(o, .inr (6, [.ref o_page, .int vo_pageMany, .int vo_readMany, .int vo_state, .int vo_readMost, .ref o_readRows, .int vo_glasses, .int vo_towersRead, .int vo_poured, .ref o_rows, .ref o_turns, .ref o_amounts, .ref o_drank, .long vo_spilt, .ref o_takes, .ref o_leans, .ref o_would, .int vo_done, .int vo_seedNow, .int vo_keptTower, .int vo_keptPoured, .long vo_keptSpilt, .ref o_keptAmounts, .ref o_keptDrank, .ref o_keptTurns, .long vo_hash]))] sz) := by
  refine Met.ofW (cc := cX6_goNext) (maxL := 2) (ret := (some .boolean)) (by decide) rfl ?_
  intro p e s m args below meth c s₁ B hml hv
  obtain ⟨rfl, hsz, hP, hK, hD0⟩ := hv
  have hx := B.exec
  have hb := B.bytes
  have hr := B.returns
  have hts := atoms_spec (ws := wsX6_goNext) B.pre
  have hown : s.vm.findClass RX6 = some m.cls := findClass_of_methodNamed B.named
  have hlocks := B.notSynchronized
  subst hsz
  have hD := hD0.self (sz := s.heap.size)
  generalize hAe : va_A [(o, .inr (6, [.ref o_page, .int vo_pageMany, .int vo_readMany, .int vo_state, .int vo_readMost, .ref o_readRows, .int vo_glasses, .int vo_towersRead, .int vo_poured, .ref o_rows, .ref o_turns, .ref o_amounts, .ref o_drank, .long vo_spilt, .ref o_takes, .ref o_leans, .ref o_would, .int vo_done, .int vo_seedNow, .int vo_keptTower, .int vo_keptPoured, .long vo_keptSpilt, .ref o_keptAmounts, .ref o_keptDrank, .ref o_keptTurns, .long vo_hash]))] s.heap.size = A at hD ⊢
  have hA : ∀ q : Nat, s.heap.size ≤ q → A q := fun q h => by rw [← hAe]; exact Or.inr h
  have hS : va_S A s.heap s.heap [] := va_S.rf
  have hP : va_P (dC, dI) vwCl [(o, .inr (6, [.ref o_page, .int vo_pageMany, .int vo_readMany, .int vo_state, .int vo_readMost, .ref o_readRows, .int vo_glasses, .int vo_towersRead, .int vo_poured, .ref o_rows, .ref o_turns, .ref o_amounts, .ref o_drank, .long vo_spilt, .ref o_takes, .ref o_leans, .ref o_would, .int vo_done, .int vo_seedNow, .int vo_keptTower, .int vo_keptPoured, .long vo_keptSpilt, .ref o_keptAmounts, .ref o_keptDrank, .ref o_keptTurns, .long vo_hash]))] s.heap := hP
  have hK : va_K (dC, dI) vwCl (zTy cI cJ cC) s := hK
  have hl := lv_entry ([.ref o]) (n := 2) (Nat.le_of_ble_eq_true rfl)
  rw [lg_entry_eq]
  generalize (lg_sl ([.ref o]) ++ List.replicate (2 - (lg_sl ([.ref o])).length) Slot.unset).toArray = ls at hl ⊢
  have hl : lv_has ls 2 [(0, .ref o)] := hl
  refine zz_start hP hS (fun Q hQ H locs hP hS => ?_)
  have hwX6 : ∀ w ∈ u_ws RX6 TX6 26, w ∈ wsX6_goNext := by decide +kernel
  have hf_56 := (hts (.fieldLink RX6 56 "PouredTopmostModel" "readMany" "I") (by decide +kernel))
  have hf_59 := (hts (.fieldLink RX6 59 "PouredTopmostModel" "state" "I") (by decide +kernel))
  refine lv_aload_n hx hb dX6_goNext_0 rfl (lv_at hl 0 rfl) ?_
  refine va_get (D := (dC, dI)) (ci := 6) (v := .int vo_state) (C := RX6) (T := TX6) (N := 26) hx hb hts hwX6 hown hK hP 0 rfl rfl 3 (by decide) hf_59 (fun _ h9 => h9) rfl dX6_goNext_1 ?_
  refine lv_iconst (v := (2 : Int32)) hx hb dX6_goNext_4 (by decide) ?_
  refine lv_icmp_eq (tgt := 16) hx hb dX6_goNext_5 (by decide) (fun c_1 => ?_) (fun c_1 => ?_)
  · replace hT := cutT c_1 hT
    have g_10 := zeqT (rfl : (vo_state).toInt = _) (by decide : ((2 : Int32)).toInt = 2) c_1
    refine lv_aload_n hx hb dX6_goNext_16 rfl (lv_at hl 0 rfl) ?_
    refine va_get (D := (dC, dI)) (ci := 6) (v := .int vo_readMany) (C := RX6) (T := TX6) (N := 26) hx hb hts hwX6 hown hK hP 0 rfl rfl 2 (by decide) hf_56 (fun _ h9 => h9) rfl dX6_goNext_17 ?_
    refine lv_bipush (v := (8 : Int32)) hx hb dX6_goNext_20 (by decide) ?_
    refine lv_icmp_ge (tgt := 29) hx hb dX6_goNext_22 (by decide) (fun c_2 => ?_) (fun c_2 => ?_)
    · replace hT := cutT c_2 hT
      have g_11 := zleT (by decide : ((8 : Int32)).toInt = 8) (rfl : (vo_readMany).toInt = _) c_2
      refine lv_iconst (v := (0 : Int32)) hx hb dX6_goNext_29 (by decide) ?_
      refine lv_istore_n (lv' := [(1, .int (0 : Int32)), (0, .ref o)]) hx hb dX6_goNext_30 rfl hl (by decide) rfl (fun ls hl => ?_)
      refine lv_aload_n hx hb dX6_goNext_31 rfl (lv_at hl 1 rfl) ?_
      refine lv_dup hx hb dX6_goNext_32 rfl ?_
      refine va_get (D := (dC, dI)) (ci := 6) (v := .int vo_readMany) (C := RX6) (T := TX6) (N := 26) hx hb hts hwX6 hown hK hP 0 rfl rfl 2 (by decide) hf_56 (fun _ h9 => h9) rfl dX6_goNext_33 ?_
      refine lv_iload_n hx hb dX6_goNext_36 rfl (lv_at hl 0 rfl) ?_
      refine lv_if_eq (tgt := 44) hx hb dX6_goNext_37 (by decide) (fun c_3 => ?_) (fun c_3 => ?_)
      · refine lv_iconst (v := (0 : Int32)) hx hb dX6_goNext_44 (by decide) ?_
        refine lv_iadd hx hb dX6_goNext_45 ?_
        refine lv_topi (fun v1 ev1 => ?_)
        replace hT := cut_n ev1.symm hT
        try have fv1 := zaddE (rfl : (vo_readMany).toInt = _) (by decide : ((0 : Int32)).toInt = 0) ev1.symm (by omega) (by omega)
        refine va_put (D := (dC, dI)) (ci := 6) (v := .int v1) (ty := .int) (C := RX6) (T := TX6) (N := 26) hx hb hts hwX6 tyX6 tyX6_ok nmX6 hown hK hP hD hS 0 rfl rfl 2 (by decide) hf_56 (fun _ h9 => h9) rfl (by decide +kernel) rfl rfl (Nat.le_of_ble_eq_true rfl) dX6_goNext_46 (fun H locs hP hD hS => ?_)
        have hP : va_P (dC, dI) vwCl [(o, .inr (6, [.ref o_page, .int vo_pageMany, .int v1, .int vo_state, .int vo_readMost, .ref o_readRows, .int vo_glasses, .int vo_towersRead, .int vo_poured, .ref o_rows, .ref o_turns, .ref o_amounts, .ref o_drank, .long vo_spilt, .ref o_takes, .ref o_leans, .ref o_would, .int vo_done, .int vo_seedNow, .int vo_keptTower, .int vo_keptPoured, .long vo_keptSpilt, .ref o_keptAmounts, .ref o_keptDrank, .ref o_keptTurns, .long vo_hash]))] H := hP
        have hD : va_D A [(o, .inr (6, [.ref o_page, .int vo_pageMany, .int v1, .int vo_state, .int vo_readMost, .ref o_readRows, .int vo_glasses, .int vo_towersRead, .int vo_poured, .ref o_rows, .ref o_turns, .ref o_amounts, .ref o_drank, .long vo_spilt, .ref o_takes, .ref o_leans, .ref o_would, .int vo_done, .int vo_seedNow, .int vo_keptTower, .int vo_keptPoured, .long vo_keptSpilt, .ref o_keptAmounts, .ref o_keptDrank, .ref o_keptTurns, .long vo_hash]))] := hD
        refine lv_aload_n hx hb dX6_goNext_49 rfl (lv_at hl 1 rfl) ?_
        refine lv_iconst (v := (0 : Int32)) hx hb dX6_goNext_50 (by decide) ?_
        refine va_put (D := (dC, dI)) (ci := 6) (v := .int (0 : Int32)) (ty := .int) (C := RX6) (T := TX6) (N := 26) hx hb hts hwX6 tyX6 tyX6_ok nmX6 hown hK hP hD hS 0 rfl rfl 3 (by decide) hf_59 (fun _ h9 => h9) rfl (by decide +kernel) rfl rfl (Nat.le_of_ble_eq_true rfl) dX6_goNext_51 (fun H locs hP hD hS => ?_)
        have hP : va_P (dC, dI) vwCl [(o, .inr (6, [.ref o_page, .int vo_pageMany, .int v1, .int (0 : Int32), .int vo_readMost, .ref o_readRows, .int vo_glasses, .int vo_towersRead, .int vo_poured, .ref o_rows, .ref o_turns, .ref o_amounts, .ref o_drank, .long vo_spilt, .ref o_takes, .ref o_leans, .ref o_would, .int vo_done, .int vo_seedNow, .int vo_keptTower, .int vo_keptPoured, .long vo_keptSpilt, .ref o_keptAmounts, .ref o_keptDrank, .ref o_keptTurns, .long vo_hash]))] H := hP
        have hD : va_D A [(o, .inr (6, [.ref o_page, .int vo_pageMany, .int v1, .int (0 : Int32), .int vo_readMost, .ref o_readRows, .int vo_glasses, .int vo_towersRead, .int vo_poured, .ref o_rows, .ref o_turns, .ref o_amounts, .ref o_drank, .long vo_spilt, .ref o_takes, .ref o_leans, .ref o_would, .int vo_done, .int vo_seedNow, .int vo_keptTower, .int vo_keptPoured, .long vo_keptSpilt, .ref o_keptAmounts, .ref o_keptDrank, .ref o_keptTurns, .long vo_hash]))] := hD
        refine lv_iload_n hx hb dX6_goNext_54 rfl (lv_at hl 0 rfl) ?_
        have hP9 := hP
        have hD9 := hD
        have hS9 := hS
        have hT : ((0 : Int32), v1, (0 : Int32)) = (r, qo_readMany, qo_state) := hT
        cases hT
        subst hQ
        exact zz_zret hx hb hr rfl [0] hK hP9 hD9 hS9 rfl rfl ⟨(Or.inl rfl), (by omega), (by omega)⟩ hlocks dX6_goNext_55
      · exact absurd c_3 (by decide)
    · replace hT := cutF c_2 hT
      have g_12 := zleF (by decide : ((8 : Int32)).toInt = 8) (rfl : (vo_readMany).toInt = _) c_2
      refine lv_iconst (v := (1 : Int32)) hx hb dX6_goNext_25 (by decide) ?_
      refine lv_goto (tgt := 30) hx hb dX6_goNext_26 (by decide) ?_
      refine lv_istore_n (lv' := [(1, .int (1 : Int32)), (0, .ref o)]) hx hb dX6_goNext_30 rfl hl (by decide) rfl (fun ls hl => ?_)
      refine lv_aload_n hx hb dX6_goNext_31 rfl (lv_at hl 1 rfl) ?_
      refine lv_dup hx hb dX6_goNext_32 rfl ?_
      refine va_get (D := (dC, dI)) (ci := 6) (v := .int vo_readMany) (C := RX6) (T := TX6) (N := 26) hx hb hts hwX6 hown hK hP 0 rfl rfl 2 (by decide) hf_56 (fun _ h9 => h9) rfl dX6_goNext_33 ?_
      refine lv_iload_n hx hb dX6_goNext_36 rfl (lv_at hl 0 rfl) ?_
      refine lv_if_eq (tgt := 44) hx hb dX6_goNext_37 (by decide) (fun c_4 => ?_) (fun c_4 => ?_)
      · exact absurd c_4 (by decide)
      · refine lv_iconst (v := (1 : Int32)) hx hb dX6_goNext_40 (by decide) ?_
        refine lv_goto (tgt := 45) hx hb dX6_goNext_41 (by decide) ?_
        refine lv_iadd hx hb dX6_goNext_45 ?_
        refine lv_topi (fun v2 ev2 => ?_)
        replace hT := cut_n ev2.symm hT
        try have fv2 := zaddE (rfl : (vo_readMany).toInt = _) (by decide : ((1 : Int32)).toInt = 1) ev2.symm (by omega) (by omega)
        refine va_put (D := (dC, dI)) (ci := 6) (v := .int v2) (ty := .int) (C := RX6) (T := TX6) (N := 26) hx hb hts hwX6 tyX6 tyX6_ok nmX6 hown hK hP hD hS 0 rfl rfl 2 (by decide) hf_56 (fun _ h9 => h9) rfl (by decide +kernel) rfl rfl (Nat.le_of_ble_eq_true rfl) dX6_goNext_46 (fun H locs hP hD hS => ?_)
        have hP : va_P (dC, dI) vwCl [(o, .inr (6, [.ref o_page, .int vo_pageMany, .int v2, .int vo_state, .int vo_readMost, .ref o_readRows, .int vo_glasses, .int vo_towersRead, .int vo_poured, .ref o_rows, .ref o_turns, .ref o_amounts, .ref o_drank, .long vo_spilt, .ref o_takes, .ref o_leans, .ref o_would, .int vo_done, .int vo_seedNow, .int vo_keptTower, .int vo_keptPoured, .long vo_keptSpilt, .ref o_keptAmounts, .ref o_keptDrank, .ref o_keptTurns, .long vo_hash]))] H := hP
        have hD : va_D A [(o, .inr (6, [.ref o_page, .int vo_pageMany, .int v2, .int vo_state, .int vo_readMost, .ref o_readRows, .int vo_glasses, .int vo_towersRead, .int vo_poured, .ref o_rows, .ref o_turns, .ref o_amounts, .ref o_drank, .long vo_spilt, .ref o_takes, .ref o_leans, .ref o_would, .int vo_done, .int vo_seedNow, .int vo_keptTower, .int vo_keptPoured, .long vo_keptSpilt, .ref o_keptAmounts, .ref o_keptDrank, .ref o_keptTurns, .long vo_hash]))] := hD
        refine lv_aload_n hx hb dX6_goNext_49 rfl (lv_at hl 1 rfl) ?_
        refine lv_iconst (v := (0 : Int32)) hx hb dX6_goNext_50 (by decide) ?_
        refine va_put (D := (dC, dI)) (ci := 6) (v := .int (0 : Int32)) (ty := .int) (C := RX6) (T := TX6) (N := 26) hx hb hts hwX6 tyX6 tyX6_ok nmX6 hown hK hP hD hS 0 rfl rfl 3 (by decide) hf_59 (fun _ h9 => h9) rfl (by decide +kernel) rfl rfl (Nat.le_of_ble_eq_true rfl) dX6_goNext_51 (fun H locs hP hD hS => ?_)
        have hP : va_P (dC, dI) vwCl [(o, .inr (6, [.ref o_page, .int vo_pageMany, .int v2, .int (0 : Int32), .int vo_readMost, .ref o_readRows, .int vo_glasses, .int vo_towersRead, .int vo_poured, .ref o_rows, .ref o_turns, .ref o_amounts, .ref o_drank, .long vo_spilt, .ref o_takes, .ref o_leans, .ref o_would, .int vo_done, .int vo_seedNow, .int vo_keptTower, .int vo_keptPoured, .long vo_keptSpilt, .ref o_keptAmounts, .ref o_keptDrank, .ref o_keptTurns, .long vo_hash]))] H := hP
        have hD : va_D A [(o, .inr (6, [.ref o_page, .int vo_pageMany, .int v2, .int (0 : Int32), .int vo_readMost, .ref o_readRows, .int vo_glasses, .int vo_towersRead, .int vo_poured, .ref o_rows, .ref o_turns, .ref o_amounts, .ref o_drank, .long vo_spilt, .ref o_takes, .ref o_leans, .ref o_would, .int vo_done, .int vo_seedNow, .int vo_keptTower, .int vo_keptPoured, .long vo_keptSpilt, .ref o_keptAmounts, .ref o_keptDrank, .ref o_keptTurns, .long vo_hash]))] := hD
        refine lv_iload_n hx hb dX6_goNext_54 rfl (lv_at hl 0 rfl) ?_
        have hP9 := hP
        have hD9 := hD
        have hS9 := hS
        have hT : ((1 : Int32), v2, (0 : Int32)) = (r, qo_readMany, qo_state) := hT
        cases hT
        subst hQ
        exact zz_zret hx hb hr rfl [0] hK hP9 hD9 hS9 rfl rfl ⟨(Or.inr rfl), (by omega), (by omega)⟩ hlocks dX6_goNext_55
  · replace hT := cutF c_1 hT
    have g_13 := zeqF (rfl : (vo_state).toInt = _) (by decide : ((2 : Int32)).toInt = 2) c_1
    refine lv_aload_n hx hb dX6_goNext_8 rfl (lv_at hl 0 rfl) ?_
    refine va_get (D := (dC, dI)) (ci := 6) (v := .int vo_state) (C := RX6) (T := TX6) (N := 26) hx hb hts hwX6 hown hK hP 0 rfl rfl 3 (by decide) hf_59 (fun _ h9 => h9) rfl dX6_goNext_9 ?_
    refine lv_iconst (v := (4 : Int32)) hx hb dX6_goNext_12 (by decide) ?_
    refine lv_icmp_ne (tgt := 29) hx hb dX6_goNext_13 (by decide) (fun c_5 => ?_) (fun c_5 => ?_)
    · replace hT := cutF c_5 hT
      have g_14 := zeqF (rfl : (vo_state).toInt = _) (by decide : ((4 : Int32)).toInt = 4) c_5
      refine lv_iconst (v := (0 : Int32)) hx hb dX6_goNext_29 (by decide) ?_
      refine lv_istore_n (lv' := [(1, .int (0 : Int32)), (0, .ref o)]) hx hb dX6_goNext_30 rfl hl (by decide) rfl (fun ls hl => ?_)
      refine lv_aload_n hx hb dX6_goNext_31 rfl (lv_at hl 1 rfl) ?_
      refine lv_dup hx hb dX6_goNext_32 rfl ?_
      refine va_get (D := (dC, dI)) (ci := 6) (v := .int vo_readMany) (C := RX6) (T := TX6) (N := 26) hx hb hts hwX6 hown hK hP 0 rfl rfl 2 (by decide) hf_56 (fun _ h9 => h9) rfl dX6_goNext_33 ?_
      refine lv_iload_n hx hb dX6_goNext_36 rfl (lv_at hl 0 rfl) ?_
      refine lv_if_eq (tgt := 44) hx hb dX6_goNext_37 (by decide) (fun c_6 => ?_) (fun c_6 => ?_)
      · refine lv_iconst (v := (0 : Int32)) hx hb dX6_goNext_44 (by decide) ?_
        refine lv_iadd hx hb dX6_goNext_45 ?_
        refine lv_topi (fun v3 ev3 => ?_)
        replace hT := cut_n ev3.symm hT
        try have fv3 := zaddE (rfl : (vo_readMany).toInt = _) (by decide : ((0 : Int32)).toInt = 0) ev3.symm (by omega) (by omega)
        refine va_put (D := (dC, dI)) (ci := 6) (v := .int v3) (ty := .int) (C := RX6) (T := TX6) (N := 26) hx hb hts hwX6 tyX6 tyX6_ok nmX6 hown hK hP hD hS 0 rfl rfl 2 (by decide) hf_56 (fun _ h9 => h9) rfl (by decide +kernel) rfl rfl (Nat.le_of_ble_eq_true rfl) dX6_goNext_46 (fun H locs hP hD hS => ?_)
        have hP : va_P (dC, dI) vwCl [(o, .inr (6, [.ref o_page, .int vo_pageMany, .int v3, .int vo_state, .int vo_readMost, .ref o_readRows, .int vo_glasses, .int vo_towersRead, .int vo_poured, .ref o_rows, .ref o_turns, .ref o_amounts, .ref o_drank, .long vo_spilt, .ref o_takes, .ref o_leans, .ref o_would, .int vo_done, .int vo_seedNow, .int vo_keptTower, .int vo_keptPoured, .long vo_keptSpilt, .ref o_keptAmounts, .ref o_keptDrank, .ref o_keptTurns, .long vo_hash]))] H := hP
        have hD : va_D A [(o, .inr (6, [.ref o_page, .int vo_pageMany, .int v3, .int vo_state, .int vo_readMost, .ref o_readRows, .int vo_glasses, .int vo_towersRead, .int vo_poured, .ref o_rows, .ref o_turns, .ref o_amounts, .ref o_drank, .long vo_spilt, .ref o_takes, .ref o_leans, .ref o_would, .int vo_done, .int vo_seedNow, .int vo_keptTower, .int vo_keptPoured, .long vo_keptSpilt, .ref o_keptAmounts, .ref o_keptDrank, .ref o_keptTurns, .long vo_hash]))] := hD
        refine lv_aload_n hx hb dX6_goNext_49 rfl (lv_at hl 1 rfl) ?_
        refine lv_iconst (v := (0 : Int32)) hx hb dX6_goNext_50 (by decide) ?_
        refine va_put (D := (dC, dI)) (ci := 6) (v := .int (0 : Int32)) (ty := .int) (C := RX6) (T := TX6) (N := 26) hx hb hts hwX6 tyX6 tyX6_ok nmX6 hown hK hP hD hS 0 rfl rfl 3 (by decide) hf_59 (fun _ h9 => h9) rfl (by decide +kernel) rfl rfl (Nat.le_of_ble_eq_true rfl) dX6_goNext_51 (fun H locs hP hD hS => ?_)
        have hP : va_P (dC, dI) vwCl [(o, .inr (6, [.ref o_page, .int vo_pageMany, .int v3, .int (0 : Int32), .int vo_readMost, .ref o_readRows, .int vo_glasses, .int vo_towersRead, .int vo_poured, .ref o_rows, .ref o_turns, .ref o_amounts, .ref o_drank, .long vo_spilt, .ref o_takes, .ref o_leans, .ref o_would, .int vo_done, .int vo_seedNow, .int vo_keptTower, .int vo_keptPoured, .long vo_keptSpilt, .ref o_keptAmounts, .ref o_keptDrank, .ref o_keptTurns, .long vo_hash]))] H := hP
        have hD : va_D A [(o, .inr (6, [.ref o_page, .int vo_pageMany, .int v3, .int (0 : Int32), .int vo_readMost, .ref o_readRows, .int vo_glasses, .int vo_towersRead, .int vo_poured, .ref o_rows, .ref o_turns, .ref o_amounts, .ref o_drank, .long vo_spilt, .ref o_takes, .ref o_leans, .ref o_would, .int vo_done, .int vo_seedNow, .int vo_keptTower, .int vo_keptPoured, .long vo_keptSpilt, .ref o_keptAmounts, .ref o_keptDrank, .ref o_keptTurns, .long vo_hash]))] := hD
        refine lv_iload_n hx hb dX6_goNext_54 rfl (lv_at hl 0 rfl) ?_
        have hP9 := hP
        have hD9 := hD
        have hS9 := hS
        have hT : ((0 : Int32), v3, (0 : Int32)) = (r, qo_readMany, qo_state) := hT
        cases hT
        subst hQ
        exact zz_zret hx hb hr rfl [0] hK hP9 hD9 hS9 rfl rfl ⟨(Or.inl rfl), (by omega), (by omega)⟩ hlocks dX6_goNext_55
      · exact absurd c_6 (by decide)
    · replace hT := cutT c_5 hT
      have g_15 := zeqT (rfl : (vo_state).toInt = _) (by decide : ((4 : Int32)).toInt = 4) c_5
      refine lv_aload_n hx hb dX6_goNext_16 rfl (lv_at hl 0 rfl) ?_
      refine va_get (D := (dC, dI)) (ci := 6) (v := .int vo_readMany) (C := RX6) (T := TX6) (N := 26) hx hb hts hwX6 hown hK hP 0 rfl rfl 2 (by decide) hf_56 (fun _ h9 => h9) rfl dX6_goNext_17 ?_
      refine lv_bipush (v := (8 : Int32)) hx hb dX6_goNext_20 (by decide) ?_
      refine lv_icmp_ge (tgt := 29) hx hb dX6_goNext_22 (by decide) (fun c_7 => ?_) (fun c_7 => ?_)
      · replace hT := cutT c_7 hT
        have g_16 := zleT (by decide : ((8 : Int32)).toInt = 8) (rfl : (vo_readMany).toInt = _) c_7
        refine lv_iconst (v := (0 : Int32)) hx hb dX6_goNext_29 (by decide) ?_
        refine lv_istore_n (lv' := [(1, .int (0 : Int32)), (0, .ref o)]) hx hb dX6_goNext_30 rfl hl (by decide) rfl (fun ls hl => ?_)
        refine lv_aload_n hx hb dX6_goNext_31 rfl (lv_at hl 1 rfl) ?_
        refine lv_dup hx hb dX6_goNext_32 rfl ?_
        refine va_get (D := (dC, dI)) (ci := 6) (v := .int vo_readMany) (C := RX6) (T := TX6) (N := 26) hx hb hts hwX6 hown hK hP 0 rfl rfl 2 (by decide) hf_56 (fun _ h9 => h9) rfl dX6_goNext_33 ?_
        refine lv_iload_n hx hb dX6_goNext_36 rfl (lv_at hl 0 rfl) ?_
        refine lv_if_eq (tgt := 44) hx hb dX6_goNext_37 (by decide) (fun c_8 => ?_) (fun c_8 => ?_)
        · refine lv_iconst (v := (0 : Int32)) hx hb dX6_goNext_44 (by decide) ?_
          refine lv_iadd hx hb dX6_goNext_45 ?_
          refine lv_topi (fun v4 ev4 => ?_)
          replace hT := cut_n ev4.symm hT
          try have fv4 := zaddE (rfl : (vo_readMany).toInt = _) (by decide : ((0 : Int32)).toInt = 0) ev4.symm (by omega) (by omega)
          refine va_put (D := (dC, dI)) (ci := 6) (v := .int v4) (ty := .int) (C := RX6) (T := TX6) (N := 26) hx hb hts hwX6 tyX6 tyX6_ok nmX6 hown hK hP hD hS 0 rfl rfl 2 (by decide) hf_56 (fun _ h9 => h9) rfl (by decide +kernel) rfl rfl (Nat.le_of_ble_eq_true rfl) dX6_goNext_46 (fun H locs hP hD hS => ?_)
          have hP : va_P (dC, dI) vwCl [(o, .inr (6, [.ref o_page, .int vo_pageMany, .int v4, .int vo_state, .int vo_readMost, .ref o_readRows, .int vo_glasses, .int vo_towersRead, .int vo_poured, .ref o_rows, .ref o_turns, .ref o_amounts, .ref o_drank, .long vo_spilt, .ref o_takes, .ref o_leans, .ref o_would, .int vo_done, .int vo_seedNow, .int vo_keptTower, .int vo_keptPoured, .long vo_keptSpilt, .ref o_keptAmounts, .ref o_keptDrank, .ref o_keptTurns, .long vo_hash]))] H := hP
          have hD : va_D A [(o, .inr (6, [.ref o_page, .int vo_pageMany, .int v4, .int vo_state, .int vo_readMost, .ref o_readRows, .int vo_glasses, .int vo_towersRead, .int vo_poured, .ref o_rows, .ref o_turns, .ref o_amounts, .ref o_drank, .long vo_spilt, .ref o_takes, .ref o_leans, .ref o_would, .int vo_done, .int vo_seedNow, .int vo_keptTower, .int vo_keptPoured, .long vo_keptSpilt, .ref o_keptAmounts, .ref o_keptDrank, .ref o_keptTurns, .long vo_hash]))] := hD
          refine lv_aload_n hx hb dX6_goNext_49 rfl (lv_at hl 1 rfl) ?_
          refine lv_iconst (v := (0 : Int32)) hx hb dX6_goNext_50 (by decide) ?_
          refine va_put (D := (dC, dI)) (ci := 6) (v := .int (0 : Int32)) (ty := .int) (C := RX6) (T := TX6) (N := 26) hx hb hts hwX6 tyX6 tyX6_ok nmX6 hown hK hP hD hS 0 rfl rfl 3 (by decide) hf_59 (fun _ h9 => h9) rfl (by decide +kernel) rfl rfl (Nat.le_of_ble_eq_true rfl) dX6_goNext_51 (fun H locs hP hD hS => ?_)
          have hP : va_P (dC, dI) vwCl [(o, .inr (6, [.ref o_page, .int vo_pageMany, .int v4, .int (0 : Int32), .int vo_readMost, .ref o_readRows, .int vo_glasses, .int vo_towersRead, .int vo_poured, .ref o_rows, .ref o_turns, .ref o_amounts, .ref o_drank, .long vo_spilt, .ref o_takes, .ref o_leans, .ref o_would, .int vo_done, .int vo_seedNow, .int vo_keptTower, .int vo_keptPoured, .long vo_keptSpilt, .ref o_keptAmounts, .ref o_keptDrank, .ref o_keptTurns, .long vo_hash]))] H := hP
          have hD : va_D A [(o, .inr (6, [.ref o_page, .int vo_pageMany, .int v4, .int (0 : Int32), .int vo_readMost, .ref o_readRows, .int vo_glasses, .int vo_towersRead, .int vo_poured, .ref o_rows, .ref o_turns, .ref o_amounts, .ref o_drank, .long vo_spilt, .ref o_takes, .ref o_leans, .ref o_would, .int vo_done, .int vo_seedNow, .int vo_keptTower, .int vo_keptPoured, .long vo_keptSpilt, .ref o_keptAmounts, .ref o_keptDrank, .ref o_keptTurns, .long vo_hash]))] := hD
          refine lv_iload_n hx hb dX6_goNext_54 rfl (lv_at hl 0 rfl) ?_
          have hP9 := hP
          have hD9 := hD
          have hS9 := hS
          have hT : ((0 : Int32), v4, (0 : Int32)) = (r, qo_readMany, qo_state) := hT
          cases hT
          subst hQ
          exact zz_zret hx hb hr rfl [0] hK hP9 hD9 hS9 rfl rfl ⟨(Or.inl rfl), (by omega), (by omega)⟩ hlocks dX6_goNext_55
        · exact absurd c_8 (by decide)
      · replace hT := cutF c_7 hT
        have g_17 := zleF (by decide : ((8 : Int32)).toInt = 8) (rfl : (vo_readMany).toInt = _) c_7
        refine lv_iconst (v := (1 : Int32)) hx hb dX6_goNext_25 (by decide) ?_
        refine lv_goto (tgt := 30) hx hb dX6_goNext_26 (by decide) ?_
        refine lv_istore_n (lv' := [(1, .int (1 : Int32)), (0, .ref o)]) hx hb dX6_goNext_30 rfl hl (by decide) rfl (fun ls hl => ?_)
        refine lv_aload_n hx hb dX6_goNext_31 rfl (lv_at hl 1 rfl) ?_
        refine lv_dup hx hb dX6_goNext_32 rfl ?_
        refine va_get (D := (dC, dI)) (ci := 6) (v := .int vo_readMany) (C := RX6) (T := TX6) (N := 26) hx hb hts hwX6 hown hK hP 0 rfl rfl 2 (by decide) hf_56 (fun _ h9 => h9) rfl dX6_goNext_33 ?_
        refine lv_iload_n hx hb dX6_goNext_36 rfl (lv_at hl 0 rfl) ?_
        refine lv_if_eq (tgt := 44) hx hb dX6_goNext_37 (by decide) (fun c_9 => ?_) (fun c_9 => ?_)
        · exact absurd c_9 (by decide)
        · refine lv_iconst (v := (1 : Int32)) hx hb dX6_goNext_40 (by decide) ?_
          refine lv_goto (tgt := 45) hx hb dX6_goNext_41 (by decide) ?_
          refine lv_iadd hx hb dX6_goNext_45 ?_
          refine lv_topi (fun v5 ev5 => ?_)
          replace hT := cut_n ev5.symm hT
          try have fv5 := zaddE (rfl : (vo_readMany).toInt = _) (by decide : ((1 : Int32)).toInt = 1) ev5.symm (by omega) (by omega)
          refine va_put (D := (dC, dI)) (ci := 6) (v := .int v5) (ty := .int) (C := RX6) (T := TX6) (N := 26) hx hb hts hwX6 tyX6 tyX6_ok nmX6 hown hK hP hD hS 0 rfl rfl 2 (by decide) hf_56 (fun _ h9 => h9) rfl (by decide +kernel) rfl rfl (Nat.le_of_ble_eq_true rfl) dX6_goNext_46 (fun H locs hP hD hS => ?_)
          have hP : va_P (dC, dI) vwCl [(o, .inr (6, [.ref o_page, .int vo_pageMany, .int v5, .int vo_state, .int vo_readMost, .ref o_readRows, .int vo_glasses, .int vo_towersRead, .int vo_poured, .ref o_rows, .ref o_turns, .ref o_amounts, .ref o_drank, .long vo_spilt, .ref o_takes, .ref o_leans, .ref o_would, .int vo_done, .int vo_seedNow, .int vo_keptTower, .int vo_keptPoured, .long vo_keptSpilt, .ref o_keptAmounts, .ref o_keptDrank, .ref o_keptTurns, .long vo_hash]))] H := hP
          have hD : va_D A [(o, .inr (6, [.ref o_page, .int vo_pageMany, .int v5, .int vo_state, .int vo_readMost, .ref o_readRows, .int vo_glasses, .int vo_towersRead, .int vo_poured, .ref o_rows, .ref o_turns, .ref o_amounts, .ref o_drank, .long vo_spilt, .ref o_takes, .ref o_leans, .ref o_would, .int vo_done, .int vo_seedNow, .int vo_keptTower, .int vo_keptPoured, .long vo_keptSpilt, .ref o_keptAmounts, .ref o_keptDrank, .ref o_keptTurns, .long vo_hash]))] := hD
          refine lv_aload_n hx hb dX6_goNext_49 rfl (lv_at hl 1 rfl) ?_
          refine lv_iconst (v := (0 : Int32)) hx hb dX6_goNext_50 (by decide) ?_
          refine va_put (D := (dC, dI)) (ci := 6) (v := .int (0 : Int32)) (ty := .int) (C := RX6) (T := TX6) (N := 26) hx hb hts hwX6 tyX6 tyX6_ok nmX6 hown hK hP hD hS 0 rfl rfl 3 (by decide) hf_59 (fun _ h9 => h9) rfl (by decide +kernel) rfl rfl (Nat.le_of_ble_eq_true rfl) dX6_goNext_51 (fun H locs hP hD hS => ?_)
          have hP : va_P (dC, dI) vwCl [(o, .inr (6, [.ref o_page, .int vo_pageMany, .int v5, .int (0 : Int32), .int vo_readMost, .ref o_readRows, .int vo_glasses, .int vo_towersRead, .int vo_poured, .ref o_rows, .ref o_turns, .ref o_amounts, .ref o_drank, .long vo_spilt, .ref o_takes, .ref o_leans, .ref o_would, .int vo_done, .int vo_seedNow, .int vo_keptTower, .int vo_keptPoured, .long vo_keptSpilt, .ref o_keptAmounts, .ref o_keptDrank, .ref o_keptTurns, .long vo_hash]))] H := hP
          have hD : va_D A [(o, .inr (6, [.ref o_page, .int vo_pageMany, .int v5, .int (0 : Int32), .int vo_readMost, .ref o_readRows, .int vo_glasses, .int vo_towersRead, .int vo_poured, .ref o_rows, .ref o_turns, .ref o_amounts, .ref o_drank, .long vo_spilt, .ref o_takes, .ref o_leans, .ref o_would, .int vo_done, .int vo_seedNow, .int vo_keptTower, .int vo_keptPoured, .long vo_keptSpilt, .ref o_keptAmounts, .ref o_keptDrank, .ref o_keptTurns, .long vo_hash]))] := hD
          refine lv_iload_n hx hb dX6_goNext_54 rfl (lv_at hl 0 rfl) ?_
          have hP9 := hP
          have hD9 := hD
          have hS9 := hS
          have hT : ((1 : Int32), v5, (0 : Int32)) = (r, qo_readMany, qo_state) := hT
          cases hT
          subst hQ
          exact zz_zret hx hb hr rfl [0] hK hP9 hD9 hS9 rfl rfl ⟨(Or.inr rfl), (by omega), (by omega)⟩ hlocks dX6_goNext_55
