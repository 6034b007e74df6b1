def m_X6_lacks (vo_glasses : Int32) : Int32 :=
 if vo_glasses = (0 : Int32) then
  (1 : Int32)
 else
  (0 : Int32)
set_option maxHeartbeats 4000000 in
set_option maxRecDepth 100000 in
theorem k_X6_lacks (l : Launch) (dC : Nat → ClassId) (dI : Nat → Nat → Nat) (cI cJ cC : ClassId) (sz : Nat) (o o_page o_readRows o_rows o_turns o_amounts o_drank o_takes o_leans o_would o_keptAmounts o_keptDrank o_keptTurns : Nat) (vo_pageMany : Int32) (vo_readMany : Int32) (vo_state : Int32) (vo_readMost : Int32) (vo_glasses : Int32) (vo_towersRead : Int32) (vo_poured : Int32) (vo_spilt : Int64) (vo_done : Int32) (vo_seedNow : Int32) (vo_keptTower : Int32) (vo_keptPoured : Int32) (vo_keptSpilt : Int64) (vo_hash : Int64) (r : Int32) (hT : m_X6_lacks vo_glasses = r) : Met l yX6_lacks wsX6_lacks ({ frames := 0, cells := 0, slots := 0, locals := 0 }) (zPc [.ref o] (dC, dI) (zTy cI cJ cC) [(o, .inr (6, [.ref o_page, .int vo_pageMany, .int vo_readMany, .int vo_state, .int vo_readMost, .ref o_readRows, .int vo_glasses, .int vo_towersRead, .int vo_poured, .ref o_rows, .ref o_turns, .ref o_amounts, .ref o_drank, .long vo_spilt, .ref o_takes, .ref o_leans, .ref o_would, .int vo_done, .int vo_seedNow, .int vo_keptTower, .int vo_keptPoured, .long vo_keptSpilt, .ref o_keptAmounts, .ref o_keptDrank, .ref o_keptTurns, .long vo_hash]))] sz) (zQi r ((zB01 r) ∧ (r.toInt = 0 ∨ r.toInt = 1) ∧ (r.toInt = 1 ∨ ¬ vo_glasses.toInt = 0)) (dC, dI) (zTy cI cJ cC) [(o, .inr (6, [.ref o_page, .int vo_pageMany, .int vo_readMany, .int vo_state, .int vo_readMost, .ref o_readRows, .int vo_glasses, .int vo_towersRead, .int vo_poured, .ref o_rows, .ref o_turns, .ref o_amounts, .ref o_drank, .long vo_spilt, .ref o_takes, .ref o_leans, .ref o_would, .int vo_done, .int vo_seedNow, .int vo_keptTower, .int vo_keptPoured, .long vo_keptSpilt, .ref o_keptAmounts, .ref o_keptDrank, .ref o_keptTurns, .long vo_hash]))] (va_A [(o, .inr (6, [.ref o_page, .int vo_pageMany, .int vo_readMany, .int vo_state, .int vo_readMost, .ref o_readRows, .int vo_glasses, .int vo_towersRead, .int vo_poured, .ref o_rows, .ref o_turns, .ref o_amounts, .ref o_drank, .long vo_spilt, .ref o_takes, .ref o_leans, .ref o_would, .int vo_done, .int vo_seedNow, .int vo_keptTower, .int vo_keptPoured, .long vo_keptSpilt, .ref o_keptAmounts, .ref o_keptDrank, .ref o_keptTurns, .long vo_hash]))] sz)) 0 0 (va_A [(o, .inr (6, [.ref o_page, .int vo_pageMany, .int vo_readMany, .int vo_state, .int vo_readMost, .ref o_readRows, .int vo_glasses, .int vo_towersRead, .int vo_poured, .ref o_rows, .ref o_turns, .ref o_amounts, .ref o_drank, .long vo_spilt, .ref o_takes, .ref o_leans, .ref o_would, .int vo_done, .int vo_seedNow, .int vo_keptTower, .int vo_keptPoured, .long vo_keptSpilt, .ref o_keptAmounts, .ref o_keptDrank, .ref o_keptTurns, .long vo_hash]))] sz) := by
  refine Met.ofW (cc := cX6_lacks) (maxL := 1) (ret := (some .boolean)) (by decide) rfl ?_
  intro p e s m args below meth c s₁ B hml hv
  obtain ⟨rfl, hsz, hP, hK, hD0⟩ := hv
  have hx := B.exec
  have hb := B.bytes
  have hr := B.returns
  have hts := atoms_spec (ws := wsX6_lacks) B.pre
  have hown : s.vm.findClass RX6 = some m.cls := findClass_of_methodNamed B.named
  have hlocks := B.notSynchronized
  subst hsz
  have hD := hD0.self (sz := s.heap.size)
  generalize hAe : va_A [(o, .inr (6, [.ref o_page, .int vo_pageMany, .int vo_readMany, .int vo_state, .int vo_readMost, .ref o_readRows, .int vo_glasses, .int vo_towersRead, .int vo_poured, .ref o_rows, .ref o_turns, .ref o_amounts, .ref o_drank, .long vo_spilt, .ref o_takes, .ref o_leans, .ref o_would, .int vo_done, .int vo_seedNow, .int vo_keptTower, .int vo_keptPoured, .long vo_keptSpilt, .ref o_keptAmounts, .ref o_keptDrank, .ref o_keptTurns, .long vo_hash]))] s.heap.size = A at hD ⊢
  have hA : ∀ q : Nat, s.heap.size ≤ q → A q := fun q h => by rw [← hAe]; exact Or.inr h
  have hS : va_S A s.heap s.heap [] := va_S.rf
  have hP : va_P (dC, dI) vwCl [(o, .inr (6, [.ref o_page, .int vo_pageMany, .int vo_readMany, .int vo_state, .int vo_readMost, .ref o_readRows, .int vo_glasses, .int vo_towersRead, .int vo_poured, .ref o_rows, .ref o_turns, .ref o_amounts, .ref o_drank, .long vo_spilt, .ref o_takes, .ref o_leans, .ref o_would, .int vo_done, .int vo_seedNow, .int vo_keptTower, .int vo_keptPoured, .long vo_keptSpilt, .ref o_keptAmounts, .ref o_keptDrank, .ref o_keptTurns, .long vo_hash]))] s.heap := hP
  have hK : va_K (dC, dI) vwCl (zTy cI cJ cC) s := hK
  have hl := lv_entry ([.ref o]) (n := 1) (Nat.le_of_ble_eq_true rfl)
  rw [lg_entry_eq]
  generalize (lg_sl ([.ref o]) ++ List.replicate (1 - (lg_sl ([.ref o])).length) Slot.unset).toArray = ls at hl ⊢
  have hl : lv_has ls 1 [(0, .ref o)] := hl
  refine zz_start hP hS (fun Q hQ H locs hP hS => ?_)
  have hwX6 : ∀ w ∈ u_ws RX6 TX6 26, w ∈ wsX6_lacks := by decide +kernel
  have hf_97 := (hts (.fieldLink RX6 97 "PouredTopmostModel" "glasses" "I") (by decide +kernel))
  refine lv_aload_n hx hb dX6_lacks_0 rfl (lv_at hl 0 rfl) ?_
  refine va_get (D := (dC, dI)) (ci := 6) (v := .int vo_glasses) (C := RX6) (T := TX6) (N := 26) hx hb hts hwX6 hown hK hP 0 rfl rfl 6 (by decide) hf_97 (fun _ h9 => h9) rfl dX6_lacks_1 ?_
  refine lv_if_ne (tgt := 11) hx hb dX6_lacks_4 (by decide) (fun c_1 => ?_) (fun c_1 => ?_)
  · replace hT := cutF c_1 hT
    have g_2 := zeqF (rfl : (vo_glasses).toInt = _) (by decide : ((0 : Int32)).toInt = 0) c_1
    refine lv_iconst (v := (0 : Int32)) hx hb dX6_lacks_11 (by decide) ?_
    have hP9 := hP
    have hD9 := hD
    have hS9 := hS
    have hT : (0 : Int32) = r := hT
    subst hT
    subst hQ
    exact zz_zret hx hb hr rfl [0] hK hP9 hD9 hS9 rfl rfl ⟨(Or.inl rfl), (by first | (left; decide) | (right; decide)), (by first | (left; decide) | (right; omega))⟩ hlocks dX6_lacks_12
  · replace hT := cutT c_1 hT
    have g_3 := zeqT (rfl : (vo_glasses).toInt = _) (by decide : ((0 : Int32)).toInt = 0) c_1
    refine lv_iconst (v := (1 : Int32)) hx hb dX6_lacks_7 (by decide) ?_
    refine lv_goto (tgt := 12) hx hb dX6_lacks_8 (by decide) ?_
    have hP9 := hP
    have hD9 := hD
    have hS9 := hS
    have hT : (1 : Int32) = r := hT
    subst hT
    subst hQ
    exact zz_zret hx hb hr rfl [0] hK hP9 hD9 hS9 rfl rfl ⟨(Or.inr rfl), (by first | (left; decide) | (right; decide)), (by first | (left; decide) | (right; omega))⟩ hlocks dX6_lacks_12

def m_X6_isGlass (vo_glasses : Int32) (p1 : Int32) : Int32 :=
 cut (m_X6_isIn (p1.toInt64) (0 : Int64) ((vo_glasses - (1 : Int32)).toInt64)) (fun (r1 : Int32) =>
 r1)
set_option maxHeartbeats 4000000 in
set_option maxRecDepth 100000 in
theorem k_X6_isGlass (l : Launch) (dC : Nat → ClassId) (dI : Nat → Nat → Nat) (cI cJ cC : ClassId) (sz : Nat) (o o_page o_readRows o_rows o_turns o_amounts o_drank o_takes o_leans o_would o_keptAmounts o_keptDrank o_keptTurns : Nat) (vo_pageMany : Int32) (vo_readMany : Int32) (vo_state : Int32) (vo_readMost : Int32) (vo_glasses : Int32) (vo_towersRead : Int32) (vo_poured : Int32) (vo_spilt : Int64) (vo_done : Int32) (vo_seedNow : Int32) (vo_keptTower : Int32) (vo_keptPoured : Int32) (vo_keptSpilt : Int64) (vo_hash : Int64) (p1 : Int32) (r : Int32) (hT : m_X6_isGlass vo_glasses p1 = r) (hg0 : 0 ≤ vo_glasses.toInt) (hg9 : vo_glasses.toInt ≤ 9) : Met l yX6_isGlass wsX6_isGlass ({ frames := 1, cells := 0, slots := 0, locals := 25 }) (zPc [.ref o, .int p1] (dC, dI) (zTy cI cJ cC) [(o, .inr (6, [.ref o_page, .int vo_pageMany, .int vo_readMany, .int vo_state, .int vo_readMost, .ref o_readRows, .int vo_glasses, .int vo_towersRead, .int vo_poured, .ref o_rows, .ref o_turns, .ref o_amounts, .ref o_drank, .long vo_spilt, .ref o_takes, .ref o_leans, .ref o_would, .int vo_done, .int vo_seedNow, .int vo_keptTower, .int vo_keptPoured, .long vo_keptSpilt, .ref o_keptAmounts, .ref o_keptDrank, .ref o_keptTurns, .long vo_hash]))] sz) (zQi r ((zB01 r) ∧ (r.toInt = 0 ∨ (0 ≤ p1.toInt ∧ p1.toInt < vo_glasses.toInt))) (dC, dI) (zTy cI cJ cC) [(o, .inr (6, [.ref o_page, .int vo_pageMany, .int vo_readMany, .int vo_state, .int vo_readMost, .ref o_readRows, .int vo_glasses, .int vo_towersRead, .int vo_poured, .ref o_rows, .ref o_turns, .ref o_amounts, .ref o_drank, .long vo_spilt, .ref o_takes, .ref o_leans, .ref o_would, .int vo_done, .int vo_seedNow, .int vo_keptTower, .int vo_keptPoured, .long vo_keptSpilt, .ref o_keptAmounts, .ref o_keptDrank, .ref o_keptTurns, .long vo_hash]))] (va_A [(o, .inr (6, [.ref o_page, .int vo_pageMany, .int vo_readMany, .int vo_state, .int vo_readMost, .ref o_readRows, .int vo_glasses, .int vo_towersRead, .int vo_poured, .ref o_rows, .ref o_turns, .ref o_amounts, .ref o_drank, .long vo_spilt, .ref o_takes, .ref o_leans, .ref o_would, .int vo_done, .int vo_seedNow, .int vo_keptTower, .int vo_keptPoured, .long vo_keptSpilt, .ref o_keptAmounts, .ref o_keptDrank, .ref o_keptTurns, .long vo_hash]))] sz)) 0 0 (va_A [(o, .inr (6, [.ref o_page, .int vo_pageMany, .int vo_readMany, .int vo_state, .int vo_readMost, .ref o_readRows, .int vo_glasses, .int vo_towersRead, .int vo_poured, .ref o_rows, .ref o_turns, .ref o_amounts, .ref o_drank, .long vo_spilt, .ref o_takes, .ref o_leans, .ref o_would, .int vo_done, .int vo_seedNow, .int vo_keptTower, .int vo_keptPoured, .long vo_keptSpilt, .ref o_keptAmounts, .ref o_keptDrank, .ref o_keptTurns, .long vo_hash]))] sz) := by
  refine Met.ofW (cc := cX6_isGlass) (maxL := 2) (ret := (some .boolean)) (by decide) rfl ?_
  intro p e s m args below meth c s₁ B hml hv
  obtain ⟨rfl, hsz, hP, hK, hD0⟩ := hv
  have hx := B.exec
  have hb := B.bytes
  have hr := B.returns
  have hts := atoms_spec (ws := wsX6_isGlass) B.pre
  have hown : s.vm.findClass RX6 = some m.cls := findClass_of_methodNamed B.named
  have hlocks := B.notSynchronized
  subst hsz
  have hD := hD0.self (sz := s.heap.size)
  generalize hAe : va_A [(o, .inr (6, [.ref o_page, .int vo_pageMany, .int vo_readMany, .int vo_state, .int vo_readMost, .ref o_readRows, .int vo_glasses, .int vo_towersRead, .int vo_poured, .ref o_rows, .ref o_turns, .ref o_amounts, .ref o_drank, .long vo_spilt, .ref o_takes, .ref o_leans, .ref o_would, .int vo_done, .int vo_seedNow, .int vo_keptTower, .int vo_keptPoured, .long vo_keptSpilt, .ref o_keptAmounts, .ref o_keptDrank, .ref o_keptTurns, .long vo_hash]))] s.heap.size = A at hD ⊢
  have hA : ∀ q : Nat, s.heap.size ≤ q → A q := fun q h => by rw [← hAe]; exact Or.inr h
  have hS : va_S A s.heap s.heap [] := va_S.rf
  have hP : va_P (dC, dI) vwCl [(o, .inr (6, [.ref o_page, .int vo_pageMany, .int vo_readMany, .int vo_state, .int vo_readMost, .ref o_readRows, .int vo_glasses, .int vo_towersRead, .int vo_poured, .ref o_rows, .ref o_turns, .ref o_amounts, .ref o_drank, .long vo_spilt, .ref o_takes, .ref o_leans, .ref o_would, .int vo_done, .int vo_seedNow, .int vo_keptTower, .int vo_keptPoured, .long vo_keptSpilt, .ref o_keptAmounts, .ref o_keptDrank, .ref o_keptTurns, .long vo_hash]))] s.heap := hP
  have hK : va_K (dC, dI) vwCl (zTy cI cJ cC) s := hK
  have hl := lv_entry ([.ref o, .int p1]) (n := 2) (Nat.le_of_ble_eq_true rfl)
  rw [lg_entry_eq]
  generalize (lg_sl ([.ref o, .int p1]) ++ List.replicate (2 - (lg_sl ([.ref o, .int p1])).length) Slot.unset).toArray = ls at hl ⊢
  have hl : lv_has ls 2 [(0, .ref o), (1, .int p1)] := hl
  refine zz_start hP hS (fun Q hQ H locs hP hS => ?_)
  have hwX6 : ∀ w ∈ u_ws RX6 TX6 26, w ∈ wsX6_isGlass := by decide +kernel
  have hf_97 := (hts (.fieldLink RX6 97 "PouredTopmostModel" "glasses" "I") (by decide +kernel))
  refine lv_iload_n hx hb dX6_isGlass_0 rfl (lv_at hl 1 rfl) ?_
  refine lv_i2l (v := (p1.toInt64)) hx hb dX6_isGlass_1 rfl ?_
  refine lv_lconst (v := (0 : Int64)) hx hb dX6_isGlass_2 (by decide) ?_
  refine lv_aload_n hx hb dX6_isGlass_3 rfl (lv_at hl 0 rfl) ?_
  refine va_get (D := (dC, dI)) (ci := 6) (v := .int vo_glasses) (C := RX6) (T := TX6) (N := 26) hx hb hts hwX6 hown hK hP 0 rfl rfl 6 (by decide) hf_97 (fun _ h9 => h9) rfl dX6_isGlass_4 ?_
  refine lv_iconst (v := (1 : Int32)) hx hb dX6_isGlass_7 (by decide) ?_
  refine lv_isub hx hb dX6_isGlass_8 ?_
  refine lv_i2l (v := ((vo_glasses - (1 : Int32)).toInt64)) hx hb dX6_isGlass_9 rfl ?_
  obtain ⟨r1, ev_1⟩ : ∃ x0, (m_X6_isIn (p1.toInt64) (0 : Int64) ((vo_glasses - (1 : Int32)).toInt64)) = x0 := ⟨_, rfl⟩
  replace hT := cut_n ev_1 hT
  refine zz_ci [] [0] (wr := [(o, .inr (6, [.ref o_page, .int vo_pageMany, .int vo_readMany, .int vo_state, .int vo_readMost, .ref o_readRows, .int vo_glasses, .int vo_towersRead, .int vo_poured, .ref o_rows, .ref o_turns, .ref o_amounts, .ref o_drank, .long vo_spilt, .ref o_takes, .ref o_leans, .ref o_would, .int vo_done, .int vo_seedNow, .int vo_keptTower, .int vo_keptPoured, .long vo_keptSpilt, .ref o_keptAmounts, .ref o_keptDrank, .ref o_keptTurns, .long vo_hash]))]) (w1 := []) (va_runS (As := [.long (p1.toInt64), .long (0 : Int64), .long ((vo_glasses - (1 : Int32)).toInt64)]) (rest := []) ⟨hx, hb, hml, hown, hts⟩ (k_X6_isIn l dC dI cI cJ cC H.size (p1.toInt64) (0 : Int64) ((vo_glasses - (1 : Int32)).toInt64) r1 ev_1) (va_cwS 3 hts gX6_isGlass_X6_isIn rfl rfl rfl (by decide +kernel) ⟨Nat.le_of_ble_eq_true rfl, Nat.le_of_ble_eq_true rfl⟩) (zz_preS [] hK hP hD rfl rfl) rfl rfl hl.1 rfl (lv_room (Nat.le_of_ble_eq_true rfl)) dX6_isGlass_10 ⟨Nat.zero_le _, Nat.zero_le _⟩) hP hD hS hA rfl rfl rfl (by decide) (fun ok_2 H locs hP hD hS => ?_)
  have hP : va_P (dC, dI) vwCl [(o, .inr (6, [.ref o_page, .int vo_pageMany, .int vo_readMany, .int vo_state, .int vo_readMost, .ref o_readRows, .int vo_glasses, .int vo_towersRead, .int vo_poured, .ref o_rows, .ref o_turns, .ref o_amounts, .ref o_drank, .long vo_spilt, .ref o_takes, .ref o_leans, .ref o_would, .int vo_done, .int vo_seedNow, .int vo_keptTower, .int vo_keptPoured, .long vo_keptSpilt, .ref o_keptAmounts, .ref o_keptDrank, .ref o_keptTurns, .long vo_hash]))] H := hP
  have hD : va_D A [(o, .inr (6, [.ref o_page, .int vo_pageMany, .int vo_readMany, .int vo_state, .int vo_readMost, .ref o_readRows, .int vo_glasses, .int vo_towersRead, .int vo_poured, .ref o_rows, .ref o_turns, .ref o_amounts, .ref o_drank, .long vo_spilt, .ref o_takes, .ref o_leans, .ref o_would, .int vo_done, .int vo_seedNow, .int vo_keptTower, .int vo_keptPoured, .long vo_keptSpilt, .ref o_keptAmounts, .ref o_keptDrank, .ref o_keptTurns, .long vo_hash]))] := hD
  have hz_3 : ((p1.toInt64)).toInt = (p1).toInt := Int32.toInt_toInt64 _
  have hz_4 : ((0 : Int64)).toInt = 0 := by decide
  try have e_5 := zsubE (v := (vo_glasses - (1 : Int32))) (rfl : (vo_glasses).toInt = _) (by decide : ((1 : Int32)).toInt = 1) rfl (by omega) (by omega)
  have hz_6 : (((vo_glasses - (1 : Int32)).toInt64)).toInt = ((vo_glasses - (1 : Int32))).toInt := Int32.toInt_toInt64 _
  obtain ⟨k_7, k_8⟩ := ok_2
  have hP9 := hP
  have hD9 := hD
  have hS9 := hS
  have hT : r1 = r := hT
  subst hT
  subst hQ
  exact zz_zret hx hb hr (zB01.nar k_7) [0] hK hP9 hD9 hS9 rfl rfl ⟨k_7, (by omega)⟩ hlocks dX6_isGlass_13

def m_X6_takesOf (vo_rows : Nat → Int32) (p1 : Int32) : Int32 :=
 cut (vo_rows ((6 : Int32) * p1).toNatClampNeg) (fun (v1 : Int32) =>
 cut (vo_rows (((6 : Int32) * p1) + (1 : Int32)).toNatClampNeg) (fun (v2 : Int32) =>
 if v1 = (1 : Int32) then
  (v2 - (1 : Int32))
 else
  if v1 = (2 : Int32) then
   (0 : Int32)
  else
   if v1 = (4 : Int32) then
    (0 : Int32)
   else
    v2))
set_option maxHeartbeats 4000000 in
set_option maxRecDepth 100000 in
theorem k_X6_takesOf (l : Launch) (dC : Nat → ClassId) (dI : Nat → Nat → Nat) (cI cJ cC : ClassId) (sz : Nat) (o o_page o_readRows o_rows o_turns o_amounts o_drank o_takes o_leans o_would o_keptAmounts o_keptDrank o_keptTurns : Nat) (vo_pageMany : Int32) (vo_readMany : Int32) (vo_state : Int32) (vo_readMost : Int32) (vo_glasses : Int32) (vo_towersRead : Int32) (vo_poured : Int32) (vo_spilt : Int64) (vo_done : Int32) (vo_seedNow : Int32) (vo_keptTower : Int32) (vo_keptPoured : Int32) (vo_keptSpilt : Int64) (vo_hash : Int64) (vo_rows : Nat → Int32) (p1 : Int32) (r : Int32) (hT : m_X6_takesOf vo_rows p1 = r) (h10 : 0 ≤ p1.toInt) (h19 : p1.toInt < 9) : Met l yX6_takesOf wsX6_takesOf ({ frames := 0, cells := 0, slots := 0, locals := 0 }) (zPc [.ref o, .int p1] (dC, dI) (zTy cI cJ cC) [(o, .inr (6, [.ref o_page, .int vo_pageMany, .int vo_readMany, .int vo_state, .int vo_readMost, .ref o_readRows, .int vo_glasses, .int vo_towersRead, .int vo_poured, .ref o_rows, .ref o_turns, .ref o_amounts, .ref o_drank, .long vo_spilt, .ref o_takes, .ref o_leans, .ref o_would, .int vo_done, .int vo_seedNow, .int vo_keptTower, .int vo_keptPoured, .long vo_keptSpilt, .ref o_keptAmounts, .ref o_keptDrank, .ref o_keptTurns, .long vo_hash])), (o_rows, .inl (cI, 54, .inl vo_rows))] sz) (zQi r (True) (dC, dI) (zTy cI cJ cC) [(o, .inr (6, [.ref o_page, .int vo_pageMany, .int vo_readMany, .int vo_state, .int vo_readMost, .ref o_readRows, .int vo_glasses, .int vo_towersRead, .int vo_poured, .ref o_rows, .ref o_turns, .ref o_amounts, .ref o_drank, .long vo_spilt, .ref o_takes, .ref o_leans, .ref o_would, .int vo_done, .int vo_seedNow, .int vo_keptTower, .int vo_keptPoured, .long vo_keptSpilt, .ref o_keptAmounts, .ref o_keptDrank, .ref o_keptTurns, .long vo_hash])), (o_rows, .inl (cI, 54, .inl vo_rows))] (va_A [(o, .inr (6, [.ref o_page, .int vo_pageMany, .int vo_readMany, .int vo_state, .int vo_readMost, .ref o_readRows, .int vo_glasses, .int vo_towersRead, .int vo_poured, .ref o_rows, .ref o_turns, .ref o_amounts, .ref o_drank, .long vo_spilt, .ref o_takes, .ref o_leans, .ref o_would, .int vo_done, .int vo_seedNow, .int vo_keptTower, .int vo_keptPoured, .long vo_keptSpilt, .ref o_keptAmounts, .ref o_keptDrank, .ref o_keptTurns, .long vo_hash])), (o_rows, .inl (cI, 54, .inl vo_rows))] sz)) 0 0 (va_A [(o, .inr (6, [.ref o_page, .int vo_pageMany, .int vo_readMany, .int vo_state, .int vo_readMost, .ref o_readRows, .int vo_glasses, .int vo_towersRead, .int vo_poured, .ref o_rows, .ref o_turns, .ref o_amounts, .ref o_drank, .long vo_spilt, .ref o_takes, .ref o_leans, .ref o_would, .int vo_done, .int vo_seedNow, .int vo_keptTower, .int vo_keptPoured, .long vo_keptSpilt, .ref o_keptAmounts, .ref o_keptDrank, .ref o_keptTurns, .long vo_hash])), (o_rows, .inl (cI, 54, .inl vo_rows))] sz) := by
  refine Met.ofW (cc := cX6_takesOf) (maxL := 4) (ret := (some .int)) (by decide) rfl ?_
  intro p e s m args below meth c s₁ B hml hv
  obtain ⟨rfl, hsz, hP, hK, hD0⟩ := hv
  have hx := B.exec
  have hb := B.bytes
  have hr := B.returns
  have hts := atoms_spec (ws := wsX6_takesOf) B.pre
  have hown : s.vm.findClass RX6 = some m.cls := findClass_of_methodNamed B.named
  have hlocks := B.notSynchronized
  subst hsz
  have hD := hD0.self (sz := s.heap.size)
  generalize hAe : va_A [(o, .inr (6, [.ref o_page, .int vo_pageMany, .int vo_readMany, .int vo_state, .int vo_readMost, .ref o_readRows, .int vo_glasses, .int vo_towersRead, .int vo_poured, .ref o_rows, .ref o_turns, .ref o_amounts, .ref o_drank, .long vo_spilt, .ref o_takes, .ref o_leans, .ref o_would, .int vo_done, .int vo_seedNow, .int vo_keptTower, .int vo_keptPoured, .long vo_keptSpilt, .ref o_keptAmounts, .ref o_keptDrank, .ref o_keptTurns, .long vo_hash])), (o_rows, .inl (cI, 54, .inl vo_rows))] s.heap.size = A at hD ⊢
  have hA : ∀ q : Nat, s.heap.size ≤ q → A q := fun q h => by rw [← hAe]; exact Or.inr h
  have hS : va_S A s.heap s.heap [] := va_S.rf
  have hP : va_P (dC, dI) vwCl [(o, .inr (6, [.ref o_page, .int vo_pageMany, .int vo_readMany, .int vo_state, .int vo_readMost, .ref o_readRows, .int vo_glasses, .int vo_towersRead, .int vo_poured, .ref o_rows, .ref o_turns, .ref o_amounts, .ref o_drank, .long vo_spilt, .ref o_takes, .ref o_leans, .ref o_would, .int vo_done, .int vo_seedNow, .int vo_keptTower, .int vo_keptPoured, .long vo_keptSpilt, .ref o_keptAmounts, .ref o_keptDrank, .ref o_keptTurns, .long vo_hash])), (o_rows, .inl (cI, 54, .inl vo_rows))] s.heap := hP
  have hK : va_K (dC, dI) vwCl (zTy cI cJ cC) s := hK
  have hl := lv_entry ([.ref o, .int p1]) (n := 4) (Nat.le_of_ble_eq_true rfl)
  rw [lg_entry_eq]
  generalize (lg_sl ([.ref o, .int p1]) ++ List.replicate (4 - (lg_sl ([.ref o, .int p1])).length) Slot.unset).toArray = ls at hl ⊢
  have hl : lv_has ls 4 [(0, .ref o), (1, .int p1)] := hl
  refine zz_start hP hS (fun Q hQ H locs hP hS => ?_)
  have hwX6 : ∀ w ∈ u_ws RX6 TX6 26, w ∈ wsX6_takesOf := by decide +kernel
  have hf_16 := (hts (.fieldLink RX6 16 "PouredTopmostModel" "rows" "[I") (by decide +kernel))
  refine lv_aload_n hx hb dX6_takesOf_0 rfl (lv_at hl 0 rfl) ?_
  refine va_get (D := (dC, dI)) (ci := 6) (v := .ref o_rows) (C := RX6) (T := TX6) (N := 26) hx hb hts hwX6 hown hK hP 0 rfl rfl 9 (by decide) hf_16 (fun _ h9 => h9) rfl dX6_takesOf_1 ?_
  refine lv_bipush (v := (6 : Int32)) hx hb dX6_takesOf_4 (by decide) ?_
  refine lv_iload_n hx hb dX6_takesOf_6 rfl (lv_at hl 1 rfl) ?_
  refine lv_imul hx hb dX6_takesOf_7 ?_
  have e_2 := zmulE (v := ((6 : Int32) * p1)) (by decide : ((6 : Int32)).toInt = 6) (rfl : (p1).toInt = _) rfl (by omega) (by omega)
  have h_1 : vp_in ((6 : Int32) * p1) 54 := zin (by omega) (by omega)
  refine va_iald hx hb hK hP 1 0 rfl rfl h_1 dX6_takesOf_8 ?_
  refine lv_topi (fun v1 ev1 => ?_)
  replace hT := cut_n ev1.symm hT
  have fv1 : (v1).toInt = (vo_rows ((6 : Int32) * p1).toNatClampNeg).toInt := by rw [ev1]
  refine lv_istore_n (lv' := [(2, .int v1), (0, .ref o), (1, .int p1)]) hx hb dX6_takesOf_9 rfl hl (by decide) rfl (fun ls hl => ?_)
  refine lv_aload_n hx hb dX6_takesOf_10 rfl (lv_at hl 1 rfl) ?_
  refine va_get (D := (dC, dI)) (ci := 6) (v := .ref o_rows) (C := RX6) (T := TX6) (N := 26) hx hb hts hwX6 hown hK hP 0 rfl rfl 9 (by decide) hf_16 (fun _ h9 => h9) rfl dX6_takesOf_11 ?_
  refine lv_bipush (v := (6 : Int32)) hx hb dX6_takesOf_14 (by decide) ?_
  refine lv_iload_n hx hb dX6_takesOf_16 rfl (lv_at hl 2 rfl) ?_
  refine lv_imul hx hb dX6_takesOf_17 ?_
  refine lv_iconst (v := (1 : Int32)) hx hb dX6_takesOf_18 (by decide) ?_
  refine lv_iadd hx hb dX6_takesOf_19 ?_
  have e_4 := zmulE (v := ((6 : Int32) * p1)) (by decide : ((6 : Int32)).toInt = 6) (rfl : (p1).toInt = _) rfl (by omega) (by omega)
  have e_5 := zaddE (v := (((6 : Int32) * p1) + (1 : Int32))) e_4 (by decide : ((1 : Int32)).toInt = 1) rfl (by omega) (by omega)
  have h_3 : vp_in (((6 : Int32) * p1) + (1 : Int32)) 54 := zin (by omega) (by omega)
  refine va_iald hx hb hK hP 1 0 rfl rfl h_3 dX6_takesOf_20 ?_
  refine lv_topi (fun v2 ev2 => ?_)
  replace hT := cut_n ev2.symm hT
  have fv2 : (v2).toInt = (vo_rows (((6 : Int32) * p1) + (1 : Int32)).toNatClampNeg).toInt := by rw [ev2]
  refine lv_istore_n (lv' := [(3, .int v2), (2, .int v1), (0, .ref o), (1, .int p1)]) hx hb dX6_takesOf_21 rfl hl (by decide) rfl (fun ls hl => ?_)
  refine lv_iload_n hx hb dX6_takesOf_22 rfl (lv_at hl 1 rfl) ?_
  refine lv_iconst (v := (1 : Int32)) hx hb dX6_takesOf_23 (by decide) ?_
  refine lv_icmp_ne (tgt := 33) hx hb dX6_takesOf_24 (by decide) (fun c_6 => ?_) (fun c_6 => ?_)
  · replace hT := cutF c_6 hT
    have g_9 := zeqF (rfl : (v1).toInt = _) (by decide : ((1 : Int32)).toInt = 1) c_6
    refine lv_iload_n hx hb dX6_takesOf_33 rfl (lv_at hl 1 rfl) ?_
    refine lv_iconst (v := (2 : Int32)) hx hb dX6_takesOf_34 (by decide) ?_
    refine lv_icmp_eq (tgt := 43) hx hb dX6_takesOf_35 (by decide) (fun c_7 => ?_) (fun c_7 => ?_)
    · replace hT := cutT c_7 hT
      have g_10 := zeqT (rfl : (v1).toInt = _) (by decide : ((2 : Int32)).toInt = 2) c_7
      refine lv_iconst (v := (0 : Int32)) hx hb dX6_takesOf_43 (by decide) ?_
      refine lv_goto (tgt := 48) hx hb dX6_takesOf_44 (by decide) ?_
      have hP9 := hP
      have hD9 := hD
      have hS9 := hS
      have hT : (0 : Int32) = r := hT
      subst hT
      subst hQ
      exact zz_iret hx hb hr [0, 1] hK hP9 hD9 hS9 rfl rfl trivial hlocks dX6_takesOf_48
    · replace hT := cutF c_7 hT
      have g_11 := zeqF (rfl : (v1).toInt = _) (by decide : ((2 : Int32)).toInt = 2) c_7
      refine lv_iload_n hx hb dX6_takesOf_38 rfl (lv_at hl 1 rfl) ?_
      refine lv_iconst (v := (4 : Int32)) hx hb dX6_takesOf_39 (by decide) ?_
      refine lv_icmp_ne (tgt := 47) hx hb dX6_takesOf_40 (by decide) (fun c_8 => ?_) (fun c_8 => ?_)
      · replace hT := cutF c_8 hT
        have g_12 := zeqF (rfl : (v1).toInt = _) (by decide : ((4 : Int32)).toInt = 4) c_8
        refine lv_iload_n hx hb dX6_takesOf_47 rfl (lv_at hl 0 rfl) ?_
        have hP9 := hP
        have hD9 := hD
        have hS9 := hS
        have hT : v2 = r := hT
        subst hT
        subst hQ
        exact zz_iret hx hb hr [0, 1] hK hP9 hD9 hS9 rfl rfl trivial hlocks dX6_takesOf_48
      · replace hT := cutT c_8 hT
        have g_13 := zeqT (rfl : (v1).toInt = _) (by decide : ((4 : Int32)).toInt = 4) c_8
        refine lv_iconst (v := (0 : Int32)) hx hb dX6_takesOf_43 (by decide) ?_
        refine lv_goto (tgt := 48) hx hb dX6_takesOf_44 (by decide) ?_
        have hP9 := hP
        have hD9 := hD
        have hS9 := hS
        have hT : (0 : Int32) = r := hT
        subst hT
        subst hQ
        exact zz_iret hx hb hr [0, 1] hK hP9 hD9 hS9 rfl rfl trivial hlocks dX6_takesOf_48
  · replace hT := cutT c_6 hT
    have g_14 := zeqT (rfl : (v1).toInt = _) (by decide : ((1 : Int32)).toInt = 1) c_6
    refine lv_iload_n hx hb dX6_takesOf_27 rfl (lv_at hl 0 rfl) ?_
    refine lv_iconst (v := (1 : Int32)) hx hb dX6_takesOf_28 (by decide) ?_
    refine lv_isub hx hb dX6_takesOf_29 ?_
    refine lv_goto (tgt := 48) hx hb dX6_takesOf_30 (by decide) ?_
    have hP9 := hP
    have hD9 := hD
    have hS9 := hS
    have hT : (v2 - (1 : Int32)) = r := hT
    subst hT
    subst hQ
    exact zz_iret hx hb hr [0, 1] hK hP9 hD9 hS9 rfl rfl trivial hlocks dX6_takesOf_48

def rs_X6_layTakes_2  (x4 : Int32) (x5 : Nat → Int64) (x6 : Nat → Int32) : (Nat → Int64) × (Nat → Int32) :=
 (x5, x6)
def lp_X6_layTakes_2 (vo_glasses : Int32) (ct2 : Int32 → (Nat → Int64) → (Nat → Int32) → ((Nat → Int64) × (Nat → Int32))) (vo_rows : Nat → Int32) : Nat → Int32 → (Nat → Int64) → (Nat → Int32) → ((Nat → Int64) × (Nat → Int32))
  | 0, _, _, _ => default
  | k + 1, b1, b2, b3 =>
  if vo_glasses ≤ b1 then
   (ct2 b1 b2 b3)
  else
   cut (m_X6_takesOf vo_rows b1) (fun (r7 : Int32) =>
   cut (vp_updL b2 b1.toNatClampNeg ((429981696 : Int64) * (r7.toInt64))) (fun (a8 : Nat → Int64) =>
   if (vo_rows ((6 : Int32) * b1).toNatClampNeg) = (3 : Int32) then
    cut (upd b3 b1.toNatClampNeg (1 : Int32)) (fun (a11 : Nat → Int32) =>
    cut (b1 + (1 : Int32)) (fun (v12 : Int32) =>
    (lp_X6_layTakes_2 vo_glasses ct2 vo_rows k v12 a8 a11)))
   else
    cut (upd b3 b1.toNatClampNeg (0 : Int32)) (fun (a9 : Nat → Int32) =>
    cut (b1 + (1 : Int32)) (fun (v10 : Int32) =>
    (lp_X6_layTakes_2 vo_glasses ct2 vo_rows k v10 a8 a9)))))
def m_X6_layTakes (vo_glasses : Int32) (vo_rows : Nat → Int32) (vo_takes : Nat → Int64) (vo_leans : Nat → Int32) : (Nat → Int64) × (Nat → Int32) :=
 (lp_X6_layTakes_2 vo_glasses rs_X6_layTakes_2 vo_rows 11 (0 : Int32) vo_takes vo_leans)
set_option maxHeartbeats 4000000 in
set_option maxRecDepth 100000 in
theorem k_X6_layTakes (l : Launch) (dC : Nat → ClassId) (dI : Nat → Nat → Nat) (cI cJ cC : ClassId) (sz : Nat) (o o_page o_readRows o_rows o_turns o_amounts o_drank o_takes o_leans o_would o_keptAmounts o_keptDrank o_keptTurns : Nat) (vo_pageMany : Int32) (vo_readMany : Int32) (vo_state : Int32) (vo_readMost : Int32) (vo_glasses : Int32) (vo_towersRead : Int32) (vo_poured : Int32) (vo_spilt : Int64) (vo_done : Int32) (vo_seedNow : Int32) (vo_keptTower : Int32) (vo_keptPoured : Int32) (vo_keptSpilt : Int64) (vo_hash : Int64) (vo_rows : Nat → Int32) (vo_takes : Nat → Int64) (vo_leans : Nat → Int32) (qo_takes : Nat → Int64) (qo_leans : Nat → Int32) (hT : m_X6_layTakes vo_glasses vo_rows vo_takes vo_leans = (qo_takes, qo_leans)) (hg0 : 0 ≤ vo_glasses.toInt) (hg9 : vo_glasses.toInt ≤ 9) (hln : zLn vo_leans) : Met l yX6_layTakes wsX6_layTakes ({ frames := 1, cells := 0, slots := 0, locals := 23 }) (zPc [.ref o] (dC, dI) (zTy cI cJ cC) [(o, .inr (6, [.ref o_page, .int vo_pageMany, .int vo_readMany, .int vo_state, .int vo_readMost, .ref o_readRows, .int vo_glasses, .int vo_towersRead, .int vo_poured, .ref o_rows, .ref o_turns, .ref o_amounts, .ref o_drank, .long vo_spilt, .ref o_takes, .ref o_leans, .ref o_would, .int vo_done, .int vo_seedNow, .int vo_keptTower, .int vo_keptPoured, .long vo_keptSpilt, .ref o_keptAmounts, .ref o_keptDrank, .ref o_keptTurns, .long vo_hash])), (o_rows, .inl (cI, 54, .inl vo_rows)), (o_takes, .inl (cJ, 9, .inr (.inl vo_takes))), (o_leans, .inl (cI, 9, .inl vo_leans))] sz) (zQv ((zLn qo_leans)) (dC, dI) (zTy cI cJ cC) [(o, .inr (6, [.ref o_page, .int vo_pageMany, .int vo_readMany, .int vo_state, .int vo_readMost, .ref o_readRows, .int vo_glasses, .int vo_towersRead, .int vo_poured, .ref o_rows, .ref o_turns, .ref o_amounts, .ref o_drank, .long vo_spilt, .ref o_takes, .ref o_leans, .ref o_would, .int vo_done, .int vo_seedNow, .int vo_keptTower, .int vo_keptPoured, .long vo_keptSpilt, .ref o_keptAmounts, .ref o_keptDrank, .ref o_keptTurns, .long vo_hash])), (o_rows, .inl (cI, 54, .inl vo_rows)), (o_takes, .inl (cJ, 9, .inr (.inl qo_takes))), (o_leans, .inl (cI, 9, .inl qo_leans))] (va_A [(o, .inr (6, [.ref o_page, .int vo_pageMany, .int vo_readMany, .int vo_state, .int vo_readMost, .ref o_readRows, .int vo_glasses, .int vo_towersRead, .int vo_poured, .ref o_rows, .ref o_turns, .ref o_amounts, .ref o_drank, .long vo_spilt, .ref o_takes, .ref o_leans, .ref o_would, .int vo_done, .int vo_seedNow, .int vo_keptTower, .int vo_keptPoured, .long vo_keptSpilt, .ref o_keptAmounts, .ref o_keptDrank, .ref o_keptTurns, .long vo_hash])), (o_rows, .inl (cI, 54, .inl vo_rows)), (o_takes, .inl (cJ, 9, .inr (.inl vo_takes))), (o_leans, .inl (cI, 9, .inl vo_leans))] sz)) 0 0 (va_A [(o, .inr (6, [.ref o_page, .int vo_pageMany, .int vo_readMany, .int vo_state, .int vo_readMost, .ref o_readRows, .int vo_glasses, .int vo_towersRead, .int vo_poured, .ref o_rows, .ref o_turns, .ref o_amounts, .ref o_drank, .long vo_spilt, .ref o_takes, .ref o_leans, .ref o_would, .int vo_done, .int vo_seedNow, .int vo_keptTower, .int vo_keptPoured, .long vo_keptSpilt, .ref o_keptAmounts, .ref o_keptDrank, .ref o_keptTurns, .long vo_hash])), (o_rows, .inl (cI, 54, .inl vo_rows)), (o_takes, .inl (cJ, 9, .inr (.inl vo_takes))), (o_leans, .inl (cI, 9, .inl vo_leans))] sz) := by
  refine Met.ofW (cc := cX6_layTakes) (maxL := 2) (ret := none) (by decide) rfl ?_
  intro p e s m args below meth c s₁ B hml hv
  obtain ⟨rfl, hsz, hP, hK, hD0⟩ := hv
  have hx := B.exec
  have hb := B.bytes
  have hr := B.returns
  have hts := atoms_spec (ws := wsX6_layTakes) B.pre
  have hown : s.vm.findClass RX6 = some m.cls := findClass_of_methodNamed B.named
  have hlocks := B.notSynchronized
  subst hsz
  have hD := hD0.self (sz := s.heap.size)
  generalize hAe : va_A [(o, .inr (6, [.ref o_page, .int vo_pageMany, .int vo_readMany, .int vo_state, .int vo_readMost, .ref o_readRows, .int vo_glasses, .int vo_towersRead, .int vo_poured, .ref o_rows, .ref o_turns, .ref o_amounts, .ref o_drank, .long vo_spilt, .ref o_takes, .ref o_leans, .ref o_would, .int vo_done, .int vo_seedNow, .int vo_keptTower, .int vo_keptPoured, .long vo_keptSpilt, .ref o_keptAmounts, .ref o_keptDrank, .ref o_keptTurns, .long vo_hash])), (o_rows, .inl (cI, 54, .inl vo_rows)), (o_takes, .inl (cJ, 9, .inr (.inl vo_takes))), (o_leans, .inl (cI, 9, .inl vo_leans))] s.heap.size = A at hD ⊢
  have hA : ∀ q : Nat, s.heap.size ≤ q → A q := fun q h => by rw [← hAe]; exact Or.inr h
  have hS : va_S A s.heap s.heap [] := va_S.rf
  have hP : va_P (dC, dI) vwCl [(o, .inr (6, [.ref o_page, .int vo_pageMany, .int vo_readMany, .int vo_state, .int vo_readMost, .ref o_readRows, .int vo_glasses, .int vo_towersRead, .int vo_poured, .ref o_rows, .ref o_turns, .ref o_amounts, .ref o_drank, .long vo_spilt, .ref o_takes, .ref o_leans, .ref o_would, .int vo_done, .int vo_seedNow, .int vo_keptTower, .int vo_keptPoured, .long vo_keptSpilt, .ref o_keptAmounts, .ref o_keptDrank, .ref o_keptTurns, .long vo_hash])), (o_rows, .inl (cI, 54, .inl vo_rows)), (o_takes, .inl (cJ, 9, .inr (.inl vo_takes))), (o_leans, .inl (cI, 9, .inl vo_leans))] s.heap := hP
  have hK : va_K (dC, dI) vwCl (zTy cI cJ cC) s := hK
  have hl := lv_entry ([.ref o]) (n := 2) (Nat.le_of_ble_eq_true rfl)
  rw [lg_entry_eq]
  generalize (lg_sl ([.ref o]) ++ List.replicate (2 - (lg_sl ([.ref o])).length) Slot.unset).toArray = ls at hl ⊢
  have hl : lv_has ls 2 [(0, .ref o)] := hl
  refine zz_start hP hS (fun Q hQ H locs hP hS => ?_)
  have hwX6 : ∀ w ∈ u_ws RX6 TX6 26, w ∈ wsX6_layTakes := by decide +kernel
  have hc_113 := (hts (.constantLong RX6 113 (429981696)) (by decide +kernel))
  have hf_16 := (hts (.fieldLink RX6 16 "PouredTopmostModel" "rows" "[I") (by decide +kernel))
  have hf_29 := (hts (.fieldLink RX6 29 "PouredTopmostModel" "takes" "[J") (by decide +kernel))
  have hf_32 := (hts (.fieldLink RX6 32 "PouredTopmostModel" "leans" "[I") (by decide +kernel))
  have hf_97 := (hts (.fieldLink RX6 97 "PouredTopmostModel" "glasses" "I") (by decide +kernel))
  refine lv_iconst (v := (0 : Int32)) hx hb dX6_layTakes_0 (by decide) ?_
  refine lv_istore_n (lv' := [(1, .int (0 : Int32)), (0, .ref o)]) hx hb dX6_layTakes_1 rfl hl (by decide) rfl (fun ls hl => ?_)
  have hz_12 : ((0 : Int32)).toInt = 0 := by decide
  refine zz_loop (α := Int32 × (Nat → Int64) × (Nat → Int32)) 56 (fun k a H locs ls => (0 ≤ a.1.toInt) ∧ (a.1.toInt ≤ vo_glasses.toInt) ∧ (zLn a.2.2) ∧ (vo_glasses.toInt - a.1.toInt < ((k : Nat) : Int)) ∧ lp_X6_layTakes_2 vo_glasses rs_X6_layTakes_2 vo_rows k a.1 a.2.1 a.2.2 = (qo_takes, qo_leans) ∧ va_P (dC, dI) vwCl [(o, .inr (6, [.ref o_page, .int vo_pageMany, .int vo_readMany, .int vo_state, .int vo_readMost, .ref o_readRows, .int vo_glasses, .int vo_towersRead, .int vo_poured, .ref o_rows, .ref o_turns, .ref o_amounts, .ref o_drank, .long vo_spilt, .ref o_takes, .ref o_leans, .ref o_would, .int vo_done, .int vo_seedNow, .int vo_keptTower, .int vo_keptPoured, .long vo_keptSpilt, .ref o_keptAmounts, .ref o_keptDrank, .ref o_keptTurns, .long vo_hash])), (o_rows, .inl (cI, 54, .inl vo_rows)), (o_takes, .inl (cJ, 9, .inr (.inl a.2.1))), (o_leans, .inl (cI, 9, .inl a.2.2))] H ∧ va_D A [(o, .inr (6, [.ref o_page, .int vo_pageMany, .int vo_readMany, .int vo_state, .int vo_readMost, .ref o_readRows, .int vo_glasses, .int vo_towersRead, .int vo_poured, .ref o_rows, .ref o_turns, .ref o_amounts, .ref o_drank, .long vo_spilt, .ref o_takes, .ref o_leans, .ref o_would, .int vo_done, .int vo_seedNow, .int vo_keptTower, .int vo_keptPoured, .long vo_keptSpilt, .ref o_keptAmounts, .ref o_keptDrank, .ref o_keptTurns, .long vo_hash])), (o_rows, .inl (cI, 54, .inl vo_rows)), (o_takes, .inl (cJ, 9, .inr (.inl a.2.1))), (o_leans, .inl (cI, 9, .inl a.2.2))] ∧ va_S A s.heap H locs ∧ lv_has ls 2 [(1, .int a.1), (0, .ref o)]) (fun a H locs ls => (0 ≤ a.1.toInt) ∧ (a.1.toInt ≤ vo_glasses.toInt) ∧ (zLn a.2.2) ∧ rs_X6_layTakes_2 a.1 a.2.1 a.2.2 = (qo_takes, qo_leans) ∧ va_P (dC, dI) vwCl [(o, .inr (6, [.ref o_page, .int vo_pageMany, .int vo_readMany, .int vo_state, .int vo_readMost, .ref o_readRows, .int vo_glasses, .int vo_towersRead, .int vo_poured, .ref o_rows, .ref o_turns, .ref o_amounts, .ref o_drank, .long vo_spilt, .ref o_takes, .ref o_leans, .ref o_would, .int vo_done, .int vo_seedNow, .int vo_keptTower, .int vo_keptPoured, .long vo_keptSpilt, .ref o_keptAmounts, .ref o_keptDrank, .ref o_keptTurns, .long vo_hash])), (o_rows, .inl (cI, 54, .inl vo_rows)), (o_takes, .inl (cJ, 9, .inr (.inl a.2.1))), (o_leans, .inl (cI, 9, .inl a.2.2))] H ∧ va_D A [(o, .inr (6, [.ref o_page, .int vo_pageMany, .int vo_readMany, .int vo_state, .int vo_readMost, .ref o_readRows, .int vo_glasses, .int vo_towersRead, .int vo_poured, .ref o_rows, .ref o_turns, .ref o_amounts, .ref o_drank, .long vo_spilt, .ref o_takes, .ref o_leans, .ref o_would, .int vo_done, .int vo_seedNow, .int vo_keptTower, .int vo_keptPoured, .long vo_keptSpilt, .ref o_keptAmounts, .ref o_keptDrank, .ref o_keptTurns, .long vo_hash])), (o_rows, .inl (cI, 54, .inl vo_rows)), (o_takes, .inl (cJ, 9, .inr (.inl a.2.1))), (o_leans, .inl (cI, 9, .inl a.2.2))] ∧ va_S A s.heap H locs ∧ lv_has ls 2 []) ?_ ?_ ?_ 11 ((0 : Int32), vo_takes, vo_leans) ⟨(by omega : 0 ≤ (0 : Int32).toInt), (by omega : (0 : Int32).toInt ≤ vo_glasses.toInt), (by assumption : zLn vo_leans), (by omega : vo_glasses.toInt - (0 : Int32).toInt < ((11 : Nat) : Int)), hT, hP.sub [0, 1, 2, 3] rfl, hD.sub [0, 1, 2, 3] rfl rfl, hS, lv_sub hl [0, 1] rfl⟩
  · rintro ⟨x4, x5, x6⟩ H locs ls ⟨i1, j1, hy1, hT, hP, hD, hS, hl⟩
    have hP : va_P (dC, dI) vwCl [(o, .inr (6, [.ref o_page, .int vo_pageMany, .int vo_readMany, .int vo_state, .int vo_readMost, .ref o_readRows, .int vo_glasses, .int vo_towersRead, .int vo_poured, .ref o_rows, .ref o_turns, .ref o_amounts, .ref o_drank, .long vo_spilt, .ref o_takes, .ref o_leans, .ref o_would, .int vo_done, .int vo_seedNow, .int vo_keptTower, .int vo_keptPoured, .long vo_keptSpilt, .ref o_keptAmounts, .ref o_keptDrank, .ref o_keptTurns, .long vo_hash])), (o_rows, .inl (cI, 54, .inl vo_rows)), (o_takes, .inl (cJ, 9, .inr (.inl x5))), (o_leans, .inl (cI, 9, .inl x6))] H := hP
    have hD : va_D A [(o, .inr (6, [.ref o_page, .int vo_pageMany, .int vo_readMany, .int vo_state, .int vo_readMost, .ref o_readRows, .int vo_glasses, .int vo_towersRead, .int vo_poured, .ref o_rows, .ref o_turns, .ref o_amounts, .ref o_drank, .long vo_spilt, .ref o_takes, .ref o_leans, .ref o_would, .int vo_done, .int vo_seedNow, .int vo_keptTower, .int vo_keptPoured, .long vo_keptSpilt, .ref o_keptAmounts, .ref o_keptDrank, .ref o_keptTurns, .long vo_hash])), (o_rows, .inl (cI, 54, .inl vo_rows)), (o_takes, .inl (cJ, 9, .inr (.inl x5))), (o_leans, .inl (cI, 9, .inl x6))] := hD
    have hl : lv_has ls 2 [] := hl
    have hT : rs_X6_layTakes_2 x4 x5 x6 = (qo_takes, qo_leans) := hT
    have i1 : 0 ≤ x4.toInt := i1
    have j1 : x4.toInt ≤ vo_glasses.toInt := j1
    have hy1 : zLn x6 := hy1
    have hP9 := hP
    have hD9 := hD
    have hS9 := hS
    have hT : (x5, x6) = (qo_takes, qo_leans) := hT
    cases hT
    subst hQ
    exact zz_vret hx hb hr [0, 1, 2, 3] hK hP9 hD9 hS9 rfl rfl (by assumption) hlocks dX6_layTakes_56
  · rintro ⟨b1, b2, b3⟩ H locs ls ⟨i1, j1, hy1, hm, -⟩
    try dsimp only at *
    omega
  · intro k2 hex2 ih2
    rintro ⟨b1, b2, b3⟩ H locs ls ⟨i1, j1, hy1, hm2, hT, hP, hD, hS, hl⟩
    have hP : va_P (dC, dI) vwCl [(o, .inr (6, [.ref o_page, .int vo_pageMany, .int vo_readMany, .int vo_state, .int vo_readMost, .ref o_readRows, .int vo_glasses, .int vo_towersRead, .int vo_poured, .ref o_rows, .ref o_turns, .ref o_amounts, .ref o_drank, .long vo_spilt, .ref o_takes, .ref o_leans, .ref o_would, .int vo_done, .int vo_seedNow, .int vo_keptTower, .int vo_keptPoured, .long vo_keptSpilt, .ref o_keptAmounts, .ref o_keptDrank, .ref o_keptTurns, .long vo_hash])), (o_rows, .inl (cI, 54, .inl vo_rows)), (o_takes, .inl (cJ, 9, .inr (.inl b2))), (o_leans, .inl (cI, 9, .inl b3))] H := hP
    have hD : va_D A [(o, .inr (6, [.ref o_page, .int vo_pageMany, .int vo_readMany, .int vo_state, .int vo_readMost, .ref o_readRows, .int vo_glasses, .int vo_towersRead, .int vo_poured, .ref o_rows, .ref o_turns, .ref o_amounts, .ref o_drank, .long vo_spilt, .ref o_takes, .ref o_leans, .ref o_would, .int vo_done, .int vo_seedNow, .int vo_keptTower, .int vo_keptPoured, .long vo_keptSpilt, .ref o_keptAmounts, .ref o_keptDrank, .ref o_keptTurns, .long vo_hash])), (o_rows, .inl (cI, 54, .inl vo_rows)), (o_takes, .inl (cJ, 9, .inr (.inl b2))), (o_leans, .inl (cI, 9, .inl b3))] := hD
    have hl : lv_has ls 2 [(1, .int b1), (0, .ref o)] := hl
    have hT : lp_X6_layTakes_2 vo_glasses rs_X6_layTakes_2 vo_rows (k2 + 1) b1 b2 b3 = (qo_takes, qo_leans) := hT
    have i1 : 0 ≤ b1.toInt := i1
    have j1 : b1.toInt ≤ vo_glasses.toInt := j1
    have hy1 : zLn b3 := hy1
    have hm2 : vo_glasses.toInt - b1.toInt < (((k2 + 1) : Nat) : Int) := hm2
    try simp only [Int.natCast_add, Int.natCast_one, Nat.cast_add, Nat.cast_one] at hm2
    refine lv_iload_n hx hb dX6_layTakes_2 rfl (lv_at hl 0 rfl) ?_
    refine lv_aload_n hx hb dX6_layTakes_3 rfl (lv_at hl 1 rfl) ?_
    refine va_get (D := (dC, dI)) (ci := 6) (v := .int vo_glasses) (C := RX6) (T := TX6) (N := 26) hx hb hts hwX6 hown hK hP 0 rfl rfl 6 (by decide) hf_97 (fun _ h9 => h9) rfl dX6_layTakes_4 ?_
    refine lv_icmp_ge (tgt := 56) hx hb dX6_layTakes_7 (by decide) (fun c_1 => ?_) (fun c_1 => ?_)
    · replace hT := cutT c_1 hT
      have g_13 := zleT (rfl : (vo_glasses).toInt = _) (rfl : (b1).toInt = _) c_1
      exact hex2 (b1, b2, b3) _ _ _ ⟨(by omega : 0 ≤ b1.toInt), (by omega : b1.toInt ≤ vo_glasses.toInt), (by assumption : zLn b3), hT, hP.sub [0, 1, 2, 3] rfl, hD.sub [0, 1, 2, 3] rfl rfl, hS, lv_sub hl [] rfl⟩
    · replace hT := cutF c_1 hT
      have g_14 := zleF (rfl : (vo_glasses).toInt = _) (rfl : (b1).toInt = _) c_1
      refine lv_aload_n hx hb dX6_layTakes_10 rfl (lv_at hl 1 rfl) ?_
      refine va_get (D := (dC, dI)) (ci := 6) (v := .ref o_takes) (C := RX6) (T := TX6) (N := 26) hx hb hts hwX6 hown hK hP 0 rfl rfl 14 (by decide) hf_29 (fun _ h9 => h9) rfl dX6_layTakes_11 ?_
      refine lv_iload_n hx hb dX6_layTakes_14 rfl (lv_at hl 0 rfl) ?_
      refine lv_ldc2 (v := (429981696 : Int64)) hx hb hown hc_113 dX6_layTakes_15 ?_
      refine lv_aload_n hx hb dX6_layTakes_18 rfl (lv_at hl 1 rfl) ?_
      refine lv_iload_n hx hb dX6_layTakes_19 rfl (lv_at hl 0 rfl) ?_
      obtain ⟨r7, ev_2⟩ : ∃ x0, (m_X6_takesOf vo_rows b1) = x0 := ⟨_, rfl⟩
      replace hT := cut_n ev_2 hT
      refine zz_ci [0, 1] [2, 3] (wr := [(o_takes, .inl (cJ, 9, .inr (.inl b2))), (o_leans, .inl (cI, 9, .inl b3))]) (w1 := [(o, .inr (6, [.ref o_page, .int vo_pageMany, .int vo_readMany, .int vo_state, .int vo_readMost, .ref o_readRows, .int vo_glasses, .int vo_towersRead, .int vo_poured, .ref o_rows, .ref o_turns, .ref o_amounts, .ref o_drank, .long vo_spilt, .ref o_takes, .ref o_leans, .ref o_would, .int vo_done, .int vo_seedNow, .int vo_keptTower, .int vo_keptPoured, .long vo_keptSpilt, .ref o_keptAmounts, .ref o_keptDrank, .ref o_keptTurns, .long vo_hash])), (o_rows, .inl (cI, 54, .inl vo_rows))]) (va_runV (As := [.int b1]) (rest := [.long (429981696 : Int64), .int b1, .ref o_takes]) ⟨hx, hb, hml, hown, hts⟩ (k_X6_takesOf l dC dI cI cJ cC H.size o o_page o_readRows o_rows o_turns o_amounts o_drank o_takes o_leans o_would o_keptAmounts o_keptDrank o_keptTurns vo_pageMany vo_readMany vo_state vo_readMost vo_glasses vo_towersRead vo_poured vo_spilt vo_done vo_seedNow vo_keptTower vo_keptPoured vo_keptSpilt vo_hash vo_rows b1 r7 ev_2 (by first | omega | decide) (by first | omega | decide)) (cwV 1 hts gX6_layTakes_X6_takesOf rfl rfl rfl (by decide +kernel) ⟨Nat.le_of_ble_eq_true rfl, Nat.le_of_ble_eq_true rfl⟩) (zz_preV [0, 1] hK hP hD rfl rfl (va_recv hK hP (ci := 6) (q0 := 0) rfl rfl)) rfl rfl hl.1 rfl (lv_room (Nat.le_of_ble_eq_true rfl)) dX6_layTakes_20 ⟨Nat.zero_le _, Nat.zero_le _⟩) hP hD hS hA rfl rfl rfl (by decide) (fun ok_3 H locs hP hD hS => ?_)
      have hP : va_P (dC, dI) vwCl [(o_takes, .inl (cJ, 9, .inr (.inl b2))), (o_leans, .inl (cI, 9, .inl b3)), (o, .inr (6, [.ref o_page, .int vo_pageMany, .int vo_readMany, .int vo_state, .int vo_readMost, .ref o_readRows, .int vo_glasses, .int vo_towersRead, .int vo_poured, .ref o_rows, .ref o_turns, .ref o_amounts, .ref o_drank, .long vo_spilt, .ref o_takes, .ref o_leans, .ref o_would, .int vo_done, .int vo_seedNow, .int vo_keptTower, .int vo_keptPoured, .long vo_keptSpilt, .ref o_keptAmounts, .ref o_keptDrank, .ref o_keptTurns, .long vo_hash])), (o_rows, .inl (cI, 54, .inl vo_rows))] H := hP
      have hD : va_D A [(o_takes, .inl (cJ, 9, .inr (.inl b2))), (o_leans, .inl (cI, 9, .inl b3)), (o, .inr (6, [.ref o_page, .int vo_pageMany, .int vo_readMany, .int vo_state, .int vo_readMost, .ref o_readRows, .int vo_glasses, .int vo_towersRead, .int vo_poured, .ref o_rows, .ref o_turns, .ref o_amounts, .ref o_drank, .long vo_spilt, .ref o_takes, .ref o_leans, .ref o_would, .int vo_done, .int vo_seedNow, .int vo_keptTower, .int vo_keptPoured, .long vo_keptSpilt, .ref o_keptAmounts, .ref o_keptDrank, .ref o_keptTurns, .long vo_hash])), (o_rows, .inl (cI, 54, .inl vo_rows))] := hD
      refine lv_i2l (v := (r7.toInt64)) hx hb dX6_layTakes_23 rfl ?_
      refine lv_lmul hx hb dX6_layTakes_24 ?_
      have h_4 : vp_in b1 9 := zin (by omega) (by omega)
      refine va_last hx hb hK hP hD hS 0 1 rfl rfl h_4 dX6_layTakes_25 (fun H locs hP hD hS => ?_)
      obtain ⟨a8, ea8⟩ : ∃ z, (vp_updL b2 b1.toNatClampNeg ((429981696 : Int64) * (r7.toInt64))) = z := ⟨_, rfl⟩
      replace hT := cut_n ea8 hT
      have hP : va_P (dC, dI) vwCl [(o_takes, .inl (cJ, 9, .inr (.inl a8))), (o_leans, .inl (cI, 9, .inl b3)), (o, .inr (6, [.ref o_page, .int vo_pageMany, .int vo_readMany, .int vo_state, .int vo_readMost, .ref o_readRows, .int vo_glasses, .int vo_towersRead, .int vo_poured, .ref o_rows, .ref o_turns, .ref o_amounts, .ref o_drank, .long vo_spilt, .ref o_takes, .ref o_leans, .ref o_would, .int vo_done, .int vo_seedNow, .int vo_keptTower, .int vo_keptPoured, .long vo_keptSpilt, .ref o_keptAmounts, .ref o_keptDrank, .ref o_keptTurns, .long vo_hash])), (o_rows, .inl (cI, 54, .inl vo_rows))] H := by rw [← ea8]; exact hP
      have hD : va_D A [(o_takes, .inl (cJ, 9, .inr (.inl a8))), (o_leans, .inl (cI, 9, .inl b3)), (o, .inr (6, [.ref o_page, .int vo_pageMany, .int vo_readMany, .int vo_state, .int vo_readMost, .ref o_readRows, .int vo_glasses, .int vo_towersRead, .int vo_poured, .ref o_rows, .ref o_turns, .ref o_amounts, .ref o_drank, .long vo_spilt, .ref o_takes, .ref o_leans, .ref o_would, .int vo_done, .int vo_seedNow, .int vo_keptTower, .int vo_keptPoured, .long vo_keptSpilt, .ref o_keptAmounts, .ref o_keptDrank, .ref o_keptTurns, .long vo_hash])), (o_rows, .inl (cI, 54, .inl vo_rows))] := by rw [← ea8]; exact hD
      refine lv_aload_n hx hb dX6_layTakes_26 rfl (lv_at hl 1 rfl) ?_
      refine va_get (D := (dC, dI)) (ci := 6) (v := .ref o_leans) (C := RX6) (T := TX6) (N := 26) hx hb hts hwX6 hown hK hP 2 rfl rfl 15 (by decide) hf_32 (fun _ h9 => h9) rfl dX6_layTakes_27 ?_
      refine lv_iload_n hx hb dX6_layTakes_30 rfl (lv_at hl 0 rfl) ?_
      refine lv_aload_n hx hb dX6_layTakes_31 rfl (lv_at hl 1 rfl) ?_
      refine va_get (D := (dC, dI)) (ci := 6) (v := .ref o_rows) (C := RX6) (T := TX6) (N := 26) hx hb hts hwX6 hown hK hP 2 rfl rfl 9 (by decide) hf_16 (fun _ h9 => h9) rfl dX6_layTakes_32 ?_
      refine lv_bipush (v := (6 : Int32)) hx hb dX6_layTakes_35 (by decide) ?_
      refine lv_iload_n hx hb dX6_layTakes_37 rfl (lv_at hl 0 rfl) ?_
      refine lv_imul hx hb dX6_layTakes_38 ?_
      have e_6 := zmulE (v := ((6 : Int32) * b1)) (by decide : ((6 : Int32)).toInt = 6) (rfl : (b1).toInt = _) rfl (by omega) (by omega)
      have h_5 : vp_in ((6 : Int32) * b1) 54 := zin (by omega) (by omega)
      refine va_iald hx hb hK hP 3 0 rfl rfl h_5 dX6_layTakes_39 ?_
      refine lv_iconst (v := (3 : Int32)) hx hb dX6_layTakes_40 (by decide) ?_
      refine lv_icmp_ne (tgt := 48) hx hb dX6_layTakes_41 (by decide) (fun c_7 => ?_) (fun c_7 => ?_)
      · replace hT := cutF c_7 hT
        have g_15 := zeqF (rfl : ((vo_rows ((6 : Int32) * b1).toNatClampNeg)).toInt = _) (by decide : ((3 : Int32)).toInt = 3) c_7
        refine lv_iconst (v := (0 : Int32)) hx hb dX6_layTakes_48 (by decide) ?_
        have h_8 : vp_in b1 9 := zin (by omega) (by omega)
        refine va_iast hx hb hK hP hD hS 1 0 rfl rfl h_8 dX6_layTakes_49 (fun H locs hP hD hS => ?_)
        obtain ⟨a9, ea9⟩ : ∃ z, (upd b3 b1.toNatClampNeg (0 : Int32)) = z := ⟨_, rfl⟩
        replace hT := cut_n ea9 hT
        have hP : va_P (dC, dI) vwCl [(o_takes, .inl (cJ, 9, .inr (.inl a8))), (o_leans, .inl (cI, 9, .inl a9)), (o, .inr (6, [.ref o_page, .int vo_pageMany, .int vo_readMany, .int vo_state, .int vo_readMost, .ref o_readRows, .int vo_glasses, .int vo_towersRead, .int vo_poured, .ref o_rows, .ref o_turns, .ref o_amounts, .ref o_drank, .long vo_spilt, .ref o_takes, .ref o_leans, .ref o_would, .int vo_done, .int vo_seedNow, .int vo_keptTower, .int vo_keptPoured, .long vo_keptSpilt, .ref o_keptAmounts, .ref o_keptDrank, .ref o_keptTurns, .long vo_hash])), (o_rows, .inl (cI, 54, .inl vo_rows))] H := by rw [← ea9]; exact hP
        have hD : va_D A [(o_takes, .inl (cJ, 9, .inr (.inl a8))), (o_leans, .inl (cI, 9, .inl a9)), (o, .inr (6, [.ref o_page, .int vo_pageMany, .int vo_readMany, .int vo_state, .int vo_readMost, .ref o_readRows, .int vo_glasses, .int vo_towersRead, .int vo_poured, .ref o_rows, .ref o_turns, .ref o_amounts, .ref o_drank, .long vo_spilt, .ref o_takes, .ref o_leans, .ref o_would, .int vo_done, .int vo_seedNow, .int vo_keptTower, .int vo_keptPoured, .long vo_keptSpilt, .ref o_keptAmounts, .ref o_keptDrank, .ref o_keptTurns, .long vo_hash])), (o_rows, .inl (cI, 54, .inl vo_rows))] := by rw [← ea9]; exact hD
        have sc_9 : zLn a9 := by rw [← ea9]; exact zLn_upd hy1 (by decide) (by decide)
        obtain ⟨v10, ev10⟩ : ∃ y : Int32, (b1 + (1 : Int32)) = y := ⟨_, rfl⟩
        replace hT := cut_n ev10 hT
        try have fv10 := zaddE (rfl : (b1).toInt = _) (by decide : ((1 : Int32)).toInt = 1) ev10 (by omega) (by omega)
        refine lv_iinc (v := v10) (lv' := [(1, .int v10), (0, .ref o)]) hx hb dX6_layTakes_50 hl (k := 0) rfl (by rw [← ev10]; rfl) (by decide) rfl (fun ls hl => ?_)
        refine lv_goto (tgt := 2) hx hb dX6_layTakes_53 (by decide) ?_
        exact ih2 (v10, a8, a9) _ _ _ ⟨(by omega : 0 ≤ v10.toInt), (by omega : v10.toInt ≤ vo_glasses.toInt), (by assumption : zLn a9), (by omega : vo_glasses.toInt - v10.toInt < ((k2 : Nat) : Int)), hT, hP.sub [2, 3, 0, 1] rfl, hD.sub [2, 3, 0, 1] rfl rfl, hS, lv_sub hl [0, 1] rfl⟩
      · replace hT := cutT c_7 hT
        have g_16 := zeqT (rfl : ((vo_rows ((6 : Int32) * b1).toNatClampNeg)).toInt = _) (by decide : ((3 : Int32)).toInt = 3) c_7
        refine lv_iconst (v := (1 : Int32)) hx hb dX6_layTakes_44 (by decide) ?_
        refine lv_goto (tgt := 49) hx hb dX6_layTakes_45 (by decide) ?_
        have h_10 : vp_in b1 9 := zin (by omega) (by omega)
        refine va_iast hx hb hK hP hD hS 1 0 rfl rfl h_10 dX6_layTakes_49 (fun H locs hP hD hS => ?_)
        obtain ⟨a11, ea11⟩ : ∃ z, (upd b3 b1.toNatClampNeg (1 : Int32)) = z := ⟨_, rfl⟩
        replace hT := cut_n ea11 hT
        have hP : va_P (dC, dI) vwCl [(o_takes, .inl (cJ, 9, .inr (.inl a8))), (o_leans, .inl (cI, 9, .inl a11)), (o, .inr (6, [.ref o_page, .int vo_pageMany, .int vo_readMany, .int vo_state, .int vo_readMost, .ref o_readRows, .int vo_glasses, .int vo_towersRead, .int vo_poured, .ref o_rows, .ref o_turns, .ref o_amounts, .ref o_drank, .long vo_spilt, .ref o_takes, .ref o_leans, .ref o_would, .int vo_done, .int vo_seedNow, .int vo_keptTower, .int vo_keptPoured, .long vo_keptSpilt, .ref o_keptAmounts, .ref o_keptDrank, .ref o_keptTurns, .long vo_hash])), (o_rows, .inl (cI, 54, .inl vo_rows))] H := by rw [← ea11]; exact hP
        have hD : va_D A [(o_takes, .inl (cJ, 9, .inr (.inl a8))), (o_leans, .inl (cI, 9, .inl a11)), (o, .inr (6, [.ref o_page, .int vo_pageMany, .int vo_readMany, .int vo_state, .int vo_readMost, .ref o_readRows, .int vo_glasses, .int vo_towersRead, .int vo_poured, .ref o_rows, .ref o_turns, .ref o_amounts, .ref o_drank, .long vo_spilt, .ref o_takes, .ref o_leans, .ref o_would, .int vo_done, .int vo_seedNow, .int vo_keptTower, .int vo_keptPoured, .long vo_keptSpilt, .ref o_keptAmounts, .ref o_keptDrank, .ref o_keptTurns, .long vo_hash])), (o_rows, .inl (cI, 54, .inl vo_rows))] := by rw [← ea11]; exact hD
        have sc_11 : zLn a11 := by rw [← ea11]; exact zLn_upd hy1 (by decide) (by decide)
        obtain ⟨v12, ev12⟩ : ∃ y : Int32, (b1 + (1 : Int32)) = y := ⟨_, rfl⟩
        replace hT := cut_n ev12 hT
        try have fv12 := zaddE (rfl : (b1).toInt = _) (by decide : ((1 : Int32)).toInt = 1) ev12 (by omega) (by omega)
        refine lv_iinc (v := v12) (lv' := [(1, .int v12), (0, .ref o)]) hx hb dX6_layTakes_50 hl (k := 0) rfl (by rw [← ev12]; rfl) (by decide) rfl (fun ls hl => ?_)
        refine lv_goto (tgt := 2) hx hb dX6_layTakes_53 (by decide) ?_
        exact ih2 (v12, a8, a11) _ _ _ ⟨(by omega : 0 ≤ v12.toInt), (by omega : v12.toInt ≤ vo_glasses.toInt), (by assumption : zLn a11), (by omega : vo_glasses.toInt - v12.toInt < ((k2 : Nat) : Int)), hT, hP.sub [2, 3, 0, 1] rfl, hD.sub [2, 3, 0, 1] rfl rfl, hS, lv_sub hl [0, 1] rfl⟩

def rs_X6_runOver_a_6 (b2 : Int64) (b1 : Int32) (bk5 : Int32 → Int64 → (Nat → Int64) → (Int64 × (Nat → Int64))) (x14 : Int32) (x15 : Int64) (x16 : Nat → Int64) : Int64 × (Nat → Int64) :=
 cut (b2 + x15) (fun (v24 : Int64) =>
 cut (b1 + (1 : Int32)) (fun (v25 : Int32) =>
 (bk5 v25 v24 x16)))
def lp_X6_runOver_a_6 (v8 : Int32) (ct6 : Int32 → Int64 → (Nat → Int64) → (Int64 × (Nat → Int64))) (j7 : Int64) (vo_rows : Nat → Int32) (b1 : Int32) (vo_leans : Nat → Int32) (v9 : Int32) : Nat → Int32 → Int64 → (Nat → Int64) → (Int64 × (Nat → Int64))
  | 0, _, _, _ => default
  | k + 1, b11, b12, b13 =>
  if v8 ≤ b11 then
   (ct6 b11 b12 b13)
  else
   if (lg_cmp j7 (0 : Int64)) ≤ (0 : Int32) then
    (ct6 b11 b12 b13)
   else
    cut (vo_rows ((((6 : Int32) * b1) + (3 : Int32)) + b11).toNatClampNeg) (fun (v17 : Int32) =>
    if (9 : Int32) ≤ v17 then
     cut (b11 + (1 : Int32)) (fun (v18 : Int32) =>
     (lp_X6_runOver_a_6 v8 ct6 j7 vo_rows b1 vo_leans v9 k v18 b12 b13))
    else
     cut (
      if b11 = (0 : Int32) then
       ((1 : Int32) + (vo_leans b1.toNatClampNeg))
      else
       (1 : Int32)) (fun (j19 : Int32) =>
     cut ((j7 / (v9.toInt64)) * (j19.toInt64)) (fun (v20 : Int64) =>
     cut (vp_updL b13 v17.toNatClampNeg ((b13 v17.toNatClampNeg) + v20)) (fun (a21 : Nat → Int64) =>
     cut (b12 - v20) (fun (v22 : Int64) =>
     cut (b11 + (1 : Int32)) (fun (v23 : Int32) =>
     (lp_X6_runOver_a_6 v8 ct6 j7 vo_rows b1 vo_leans v9 k v23 v22 a21)))))))
def rs_X6_runOver_a_5  (x4 : Int32) (x5 : Int64) (x6 : Nat → Int64) : Int64 × (Nat → Int64) :=
 (x5, x6)
def lp_X6_runOver_a_5 (vo_glasses : Int32) (ct5 : Int32 → Int64 → (Nat → Int64) → (Int64 × (Nat → Int64))) (vo_takes : Nat → Int64) (vo_rows : Nat → Int32) (vo_leans : Nat → Int32) : Nat → Int32 → Int64 → (Nat → Int64) → (Int64 × (Nat → Int64))
  | 0, _, _, _ => default
  | k + 1, b1, b2, b3 =>
  if vo_glasses ≤ b1 then
   (ct5 b1 b2 b3)
  else
   cut (
    if (lg_cmp (b3 b1.toNatClampNeg) (vo_takes b1.toNatClampNeg)) ≤ (0 : Int32) then
     (0 : Int64)
    else
     ((b3 b1.toNatClampNeg) - (vo_takes b1.toNatClampNeg))) (fun (j7 : Int64) =>
   cut (vo_rows (((6 : Int32) * b1) + (2 : Int32)).toNatClampNeg) (fun (v8 : Int32) =>
   cut (v8 + (vo_leans b1.toNatClampNeg)) (fun (v9 : Int32) =>
   cut (vp_updL b3 b1.toNatClampNeg ((b3 b1.toNatClampNeg) - j7)) (fun (a10 : Nat → Int64) =>
   (lp_X6_runOver_a_6 v8 (rs_X6_runOver_a_6 b2 b1 (fun c0 c1 c2 => lp_X6_runOver_a_5 vo_glasses ct5 vo_takes vo_rows vo_leans k c0 c1 c2)) j7 vo_rows b1 vo_leans v9 5 (0 : Int32) j7 a10)))))
def m_X6_runOver_a (vo_glasses : Int32) (vo_rows : Nat → Int32) (vo_amounts : Nat → Int64) (vo_takes : Nat → Int64) (vo_leans : Nat → Int32) : Int64 × (Nat → Int64) :=
 (lp_X6_runOver_a_5 vo_glasses rs_X6_runOver_a_5 vo_takes vo_rows vo_leans 11 (0 : Int32) (0 : Int64) vo_amounts)
set_option maxHeartbeats 4000000 in
set_option maxRecDepth 100000 in
theorem k_X6_runOver_a (l : Launch) (dC : Nat → ClassId) (dI : Nat → Nat → Nat) (cI cJ cC : ClassId) (sz : Nat) (o o_page o_readRows o_rows o_turns o_amounts o_drank o_takes o_leans o_would o_keptAmounts o_keptDrank o_keptTurns : Nat) (vo_pageMany : Int32) (vo_readMany : Int32) (vo_state : Int32) (vo_readMost : Int32) (vo_glasses : Int32) (vo_towersRead : Int32) (vo_poured : Int32) (vo_spilt : Int64) (vo_done : Int32) (vo_seedNow : Int32) (vo_keptTower : Int32) (vo_keptPoured : Int32) (vo_keptSpilt : Int64) (vo_hash : Int64) (vo_rows : Nat → Int32) (vo_amounts : Nat → Int64) (vo_takes : Nat → Int64) (vo_leans : Nat → Int32) (r : Int64) (qo_amounts : Nat → Int64) (hT : m_X6_runOver_a vo_glasses vo_rows vo_amounts vo_takes vo_leans = (r, qo_amounts)) (hg0 : 0 ≤ vo_glasses.toInt) (hg9 : vo_glasses.toInt ≤ 9) (hrw : zRw vo_rows) (hln : zLn vo_leans) : Met l yX6_runOver wsX6_runOver ({ frames := 0, cells := 0, slots := 0, locals := 0 }) (zPc [.ref o, .ref o_amounts] (dC, dI) (zTy cI cJ cC) [(o, .inr (6, [.ref o_page, .int vo_pageMany, .int vo_readMany, .int vo_state, .int vo_readMost, .ref o_readRows, .int vo_glasses, .int vo_towersRead, .int vo_poured, .ref o_rows, .ref o_turns, .ref o_amounts, .ref o_drank, .long vo_spilt, .ref o_takes, .ref o_leans, .ref o_would, .int vo_done, .int vo_seedNow, .int vo_keptTower, .int vo_keptPoured, .long vo_keptSpilt, .ref o_keptAmounts, .ref o_keptDrank, .ref o_keptTurns, .long vo_hash])), (o_rows, .inl (cI, 54, .inl vo_rows)), (o_amounts, .inl (cJ, 9, .inr (.inl vo_amounts))), (o_takes, .inl (cJ, 9, .inr (.inl vo_takes))), (o_leans, .inl (cI, 9, .inl vo_leans))] sz) (zQl r (True) (dC, dI) (zTy cI cJ cC) [(o, .inr (6, [.ref o_page, .int vo_pageMany, .int vo_readMany, .int vo_state, .int vo_readMost, .ref o_readRows, .int vo_glasses, .int vo_towersRead, .int vo_poured, .ref o_rows, .ref o_turns, .ref o_amounts, .ref o_drank, .long vo_spilt, .ref o_takes, .ref o_leans, .ref o_would, .int vo_done, .int vo_seedNow, .int vo_keptTower, .int vo_keptPoured, .long vo_keptSpilt, .ref o_keptAmounts, .ref o_keptDrank, .ref o_keptTurns, .long vo_hash])), (o_rows, .inl (cI, 54, .inl vo_rows)), (o_amounts, .inl (cJ, 9, .inr (.inl qo_amounts))), (o_takes, .inl (cJ, 9, .inr (.inl vo_takes))), (o_leans, .inl (cI, 9, .inl vo_leans))] (va_A [(o, .inr (6, [.ref o_page, .int vo_pageMany, .int vo_readMany, .int vo_state, .int vo_readMost, .ref o_readRows, .int vo_glasses, .int vo_towersRead, .int vo_poured, .ref o_rows, .ref o_turns, .ref o_amounts, .ref o_drank, .long vo_spilt, .ref o_takes, .ref o_leans, .ref o_would, .int vo_done, .int vo_seedNow, .int vo_keptTower, .int vo_keptPoured, .long vo_keptSpilt, .ref o_keptAmounts, .ref o_keptDrank, .ref o_keptTurns, .long vo_hash])), (o_rows, .inl (cI, 54, .inl vo_rows)), (o_amounts, .inl (cJ, 9, .inr (.inl vo_amounts))), (o_takes, .inl (cJ, 9, .inr (.inl vo_takes))), (o_leans, .inl (cI, 9, .inl vo_leans))] sz)) 0 0 (va_A [(o, .inr (6, [.ref o_page, .int vo_pageMany, .int vo_readMany, .int vo_state, .int vo_readMost, .ref o_readRows, .int vo_glasses, .int vo_towersRead, .int vo_poured, .ref o_rows, .ref o_turns, .ref o_amounts, .ref o_drank, .long vo_spilt, .ref o_takes, .ref o_leans, .ref o_would, .int vo_done, .int vo_seedNow, .int vo_keptTower, .int vo_keptPoured, .long vo_keptSpilt, .ref o_keptAmounts, .ref o_keptDrank, .ref o_keptTurns, .long vo_hash])), (o_rows, .inl (cI, 54, .inl vo_rows)), (o_amounts, .inl (cJ, 9, .inr (.inl vo_amounts))), (o_takes, .inl (cJ, 9, .inr (.inl vo_takes))), (o_leans, .inl (cI, 9, .inl vo_leans))] sz) := by
  refine Met.ofW (cc := cX6_runOver) (maxL := 15) (ret := (some .long)) (by decide) rfl ?_
  intro p e s m args below meth c s₁ B hml hv
  obtain ⟨rfl, hsz, hP, hK, hD0⟩ := hv
  have hx := B.exec
  have hb := B.bytes
  have hr := B.returns
  have hts := atoms_spec (ws := wsX6_runOver) B.pre
  have hown : s.vm.findClass RX6 = some m.cls := findClass_of_methodNamed B.named
  have hlocks := B.notSynchronized
  subst hsz
  have hD := hD0.self (sz := s.heap.size)
  generalize hAe : va_A [(o, .inr (6, [.ref o_page, .int vo_pageMany, .int vo_readMany, .int vo_state, .int vo_readMost, .ref o_readRows, .int vo_glasses, .int vo_towersRead, .int vo_poured, .ref o_rows, .ref o_turns, .ref o_amounts, .ref o_drank, .long vo_spilt, .ref o_takes, .ref o_leans, .ref o_would, .int vo_done, .int vo_seedNow, .int vo_keptTower, .int vo_keptPoured, .long vo_keptSpilt, .ref o_keptAmounts, .ref o_keptDrank, .ref o_keptTurns, .long vo_hash])), (o_rows, .inl (cI, 54, .inl vo_rows)), (o_amounts, .inl (cJ, 9, .inr (.inl vo_amounts))), (o_takes, .inl (cJ, 9, .inr (.inl vo_takes))), (o_leans, .inl (cI, 9, .inl vo_leans))] s.heap.size = A at hD ⊢
  have hA : ∀ q : Nat, s.heap.size ≤ q → A q := fun q h => by rw [← hAe]; exact Or.inr h
  have hS : va_S A s.heap s.heap [] := va_S.rf
  have hP : va_P (dC, dI) vwCl [(o, .inr (6, [.ref o_page, .int vo_pageMany, .int vo_readMany, .int vo_state, .int vo_readMost, .ref o_readRows, .int vo_glasses, .int vo_towersRead, .int vo_poured, .ref o_rows, .ref o_turns, .ref o_amounts, .ref o_drank, .long vo_spilt, .ref o_takes, .ref o_leans, .ref o_would, .int vo_done, .int vo_seedNow, .int vo_keptTower, .int vo_keptPoured, .long vo_keptSpilt, .ref o_keptAmounts, .ref o_keptDrank, .ref o_keptTurns, .long vo_hash])), (o_rows, .inl (cI, 54, .inl vo_rows)), (o_amounts, .inl (cJ, 9, .inr (.inl vo_amounts))), (o_takes, .inl (cJ, 9, .inr (.inl vo_takes))), (o_leans, .inl (cI, 9, .inl vo_leans))] s.heap := hP
  have hK : va_K (dC, dI) vwCl (zTy cI cJ cC) s := hK
  have hl := lv_entry ([.ref o, .ref o_amounts]) (n := 15) (Nat.le_of_ble_eq_true rfl)
  rw [lg_entry_eq]
  generalize (lg_sl ([.ref o, .ref o_amounts]) ++ List.replicate (15 - (lg_sl ([.ref o, .ref o_amounts])).length) Slot.unset).toArray = ls at hl ⊢
  have hl : lv_has ls 15 [(0, .ref o), (1, .ref o_amounts)] := hl
  refine zz_start hP hS (fun Q hQ H locs hP hS => ?_)
  have hwX6 : ∀ w ∈ u_ws RX6 TX6 26, w ∈ wsX6_runOver := by decide +kernel
  have hf_16 := (hts (.fieldLink RX6 16 "PouredTopmostModel" "rows" "[I") (by decide +kernel))
  have hf_29 := (hts (.fieldLink RX6 29 "PouredTopmostModel" "takes" "[J") (by decide +kernel))
  have hf_32 := (hts (.fieldLink RX6 32 "PouredTopmostModel" "leans" "[I") (by decide +kernel))
  have hf_97 := (hts (.fieldLink RX6 97 "PouredTopmostModel" "glasses" "I") (by decide +kernel))
  refine lv_lconst (v := (0 : Int64)) hx hb dX6_runOver_0 (by decide) ?_
  refine lv_lstore_n (lv' := [(2, .long (0 : Int64)), (0, .ref o), (1, .ref o_amounts)]) hx hb dX6_runOver_1 rfl hl (by decide) rfl (fun ls hl => ?_)
  refine lv_iconst (v := (0 : Int32)) hx hb dX6_runOver_2 (by decide) ?_
  refine lv_istore (lv' := [(4, .int (0 : Int32)), (2, .long (0 : Int64)), (0, .ref o), (1, .ref o_amounts)]) hx hb dX6_runOver_3 hl (by decide) rfl (fun ls hl => ?_)
  have hz_27 : ((0 : Int32)).toInt = 0 := by decide
  refine zz_loop (α := Int32 × Int64 × (Nat → Int64)) 188 (fun k a H locs ls => (0 ≤ a.1.toInt) ∧ (a.1.toInt ≤ vo_glasses.toInt) ∧ (vo_glasses.toInt - a.1.toInt < ((k : Nat) : Int)) ∧ lp_X6_runOver_a_5 vo_glasses rs_X6_runOver_a_5 vo_takes vo_rows vo_leans k a.1 a.2.1 a.2.2 = (r, qo_amounts) ∧ va_P (dC, dI) vwCl [(o, .inr (6, [.ref o_page, .int vo_pageMany, .int vo_readMany, .int vo_state, .int vo_readMost, .ref o_readRows, .int vo_glasses, .int vo_towersRead, .int vo_poured, .ref o_rows, .ref o_turns, .ref o_amounts, .ref o_drank, .long vo_spilt, .ref o_takes, .ref o_leans, .ref o_would, .int vo_done, .int vo_seedNow, .int vo_keptTower, .int vo_keptPoured, .long vo_keptSpilt, .ref o_keptAmounts, .ref o_keptDrank, .ref o_keptTurns, .long vo_hash])), (o_rows, .inl (cI, 54, .inl vo_rows)), (o_amounts, .inl (cJ, 9, .inr (.inl a.2.2))), (o_takes, .inl (cJ, 9, .inr (.inl vo_takes))), (o_leans, .inl (cI, 9, .inl vo_leans))] H ∧ va_D A [(o, .inr (6, [.ref o_page, .int vo_pageMany, .int vo_readMany, .int vo_state, .int vo_readMost, .ref o_readRows, .int vo_glasses, .int vo_towersRead, .int vo_poured, .ref o_rows, .ref o_turns, .ref o_amounts, .ref o_drank, .long vo_spilt, .ref o_takes, .ref o_leans, .ref o_would, .int vo_done, .int vo_seedNow, .int vo_keptTower, .int vo_keptPoured, .long vo_keptSpilt, .ref o_keptAmounts, .ref o_keptDrank, .ref o_keptTurns, .long vo_hash])), (o_rows, .inl (cI, 54, .inl vo_rows)), (o_amounts, .inl (cJ, 9, .inr (.inl a.2.2))), (o_takes, .inl (cJ, 9, .inr (.inl vo_takes))), (o_leans, .inl (cI, 9, .inl vo_leans))] ∧ va_S A s.heap H locs ∧ lv_has ls 15 [(4, .int a.1), (2, .long a.2.1), (0, .ref o), (1, .ref o_amounts)]) (fun a H locs ls => (0 ≤ a.1.toInt) ∧ (a.1.toInt ≤ vo_glasses.toInt) ∧ rs_X6_runOver_a_5 a.1 a.2.1 a.2.2 = (r, qo_amounts) ∧ va_P (dC, dI) vwCl [(o, .inr (6, [.ref o_page, .int vo_pageMany, .int vo_readMany, .int vo_state, .int vo_readMost, .ref o_readRows, .int vo_glasses, .int vo_towersRead, .int vo_poured, .ref o_rows, .ref o_turns, .ref o_amounts, .ref o_drank, .long vo_spilt, .ref o_takes, .ref o_leans, .ref o_would, .int vo_done, .int vo_seedNow, .int vo_keptTower, .int vo_keptPoured, .long vo_keptSpilt, .ref o_keptAmounts, .ref o_keptDrank, .ref o_keptTurns, .long vo_hash])), (o_rows, .inl (cI, 54, .inl vo_rows)), (o_amounts, .inl (cJ, 9, .inr (.inl a.2.2))), (o_takes, .inl (cJ, 9, .inr (.inl vo_takes))), (o_leans, .inl (cI, 9, .inl vo_leans))] H ∧ va_D A [(o, .inr (6, [.ref o_page, .int vo_pageMany, .int vo_readMany, .int vo_state, .int vo_readMost, .ref o_readRows, .int vo_glasses, .int vo_towersRead, .int vo_poured, .ref o_rows, .ref o_turns, .ref o_amounts, .ref o_drank, .long vo_spilt, .ref o_takes, .ref o_leans, .ref o_would, .int vo_done, .int vo_seedNow, .int vo_keptTower, .int vo_keptPoured, .long vo_keptSpilt, .ref o_keptAmounts, .ref o_keptDrank, .ref o_keptTurns, .long vo_hash])), (o_rows, .inl (cI, 54, .inl vo_rows)), (o_amounts, .inl (cJ, 9, .inr (.inl a.2.2))), (o_takes, .inl (cJ, 9, .inr (.inl vo_takes))), (o_leans, .inl (cI, 9, .inl vo_leans))] ∧ va_S A s.heap H locs ∧ lv_has ls 15 [(2, .long a.2.1)]) ?_ ?_ ?_ 11 ((0 : Int32), (0 : Int64), vo_amounts) ⟨(by omega : 0 ≤ (0 : Int32).toInt), (by omega : (0 : Int32).toInt ≤ vo_glasses.toInt), (by omega : vo_glasses.toInt - (0 : Int32).toInt < ((11 : Nat) : Int)), hT, hP.sub [0, 1, 2, 3, 4] rfl, hD.sub [0, 1, 2, 3, 4] rfl rfl, hS, lv_sub hl [0, 1, 2, 3] rfl⟩
  · rintro ⟨x4, x5, x6⟩ H locs ls ⟨i1, j1, hT, hP, hD, hS, hl⟩
    have hP : va_P (dC, dI) vwCl [(o, .inr (6, [.ref o_page, .int vo_pageMany, .int vo_readMany, .int vo_state, .int vo_readMost, .ref o_readRows, .int vo_glasses, .int vo_towersRead, .int vo_poured, .ref o_rows, .ref o_turns, .ref o_amounts, .ref o_drank, .long vo_spilt, .ref o_takes, .ref o_leans, .ref o_would, .int vo_done, .int vo_seedNow, .int vo_keptTower, .int vo_keptPoured, .long vo_keptSpilt, .ref o_keptAmounts, .ref o_keptDrank, .ref o_keptTurns, .long vo_hash])), (o_rows, .inl (cI, 54, .inl vo_rows)), (o_amounts, .inl (cJ, 9, .inr (.inl x6))), (o_takes, .inl (cJ, 9, .inr (.inl vo_takes))), (o_leans, .inl (cI, 9, .inl vo_leans))] H := hP
    have hD : va_D A [(o, .inr (6, [.ref o_page, .int vo_pageMany, .int vo_readMany, .int vo_state, .int vo_readMost, .ref o_readRows, .int vo_glasses, .int vo_towersRead, .int vo_poured, .ref o_rows, .ref o_turns, .ref o_amounts, .ref o_drank, .long vo_spilt, .ref o_takes, .ref o_leans, .ref o_would, .int vo_done, .int vo_seedNow, .int vo_keptTower, .int vo_keptPoured, .long vo_keptSpilt, .ref o_keptAmounts, .ref o_keptDrank, .ref o_keptTurns, .long vo_hash])), (o_rows, .inl (cI, 54, .inl vo_rows)), (o_amounts, .inl (cJ, 9, .inr (.inl x6))), (o_takes, .inl (cJ, 9, .inr (.inl vo_takes))), (o_leans, .inl (cI, 9, .inl vo_leans))] := hD
    have hl : lv_has ls 15 [(2, .long x5)] := hl
    have hT : rs_X6_runOver_a_5 x4 x5 x6 = (r, qo_amounts) := hT
    have i1 : 0 ≤ x4.toInt := i1
    have j1 : x4.toInt ≤ vo_glasses.toInt := j1
    refine lv_lload_n hx hb dX6_runOver_188 rfl (lv_at hl 0 rfl) ?_
    have hP9 := hP
    have hD9 := hD
    have hS9 := hS
    have hT : (x5, x6) = (r, qo_amounts) := hT
    cases hT
    subst hQ
    exact zz_lret hx hb hr [0, 1, 2, 3, 4] hK hP9 hD9 hS9 rfl rfl trivial hlocks dX6_runOver_189
  · rintro ⟨b1, b2, b3⟩ H locs ls ⟨i1, j1, hm, -⟩
    try dsimp only at *
    omega
  · intro k5 hex5 ih5
    rintro ⟨b1, b2, b3⟩ H locs ls ⟨i1, j1, hm5, hT, hP, hD, hS, hl⟩
    have hP : va_P (dC, dI) vwCl [(o, .inr (6, [.ref o_page, .int vo_pageMany, .int vo_readMany, .int vo_state, .int vo_readMost, .ref o_readRows, .int vo_glasses, .int vo_towersRead, .int vo_poured, .ref o_rows, .ref o_turns, .ref o_amounts, .ref o_drank, .long vo_spilt, .ref o_takes, .ref o_leans, .ref o_would, .int vo_done, .int vo_seedNow, .int vo_keptTower, .int vo_keptPoured, .long vo_keptSpilt, .ref o_keptAmounts, .ref o_keptDrank, .ref o_keptTurns, .long vo_hash])), (o_rows, .inl (cI, 54, .inl vo_rows)), (o_amounts, .inl (cJ, 9, .inr (.inl b3))), (o_takes, .inl (cJ, 9, .inr (.inl vo_takes))), (o_leans, .inl (cI, 9, .inl vo_leans))] H := hP
    have hD : va_D A [(o, .inr (6, [.ref o_page, .int vo_pageMany, .int vo_readMany, .int vo_state, .int vo_readMost, .ref o_readRows, .int vo_glasses, .int vo_towersRead, .int vo_poured, .ref o_rows, .ref o_turns, .ref o_amounts, .ref o_drank, .long vo_spilt, .ref o_takes, .ref o_leans, .ref o_would, .int vo_done, .int vo_seedNow, .int vo_keptTower, .int vo_keptPoured, .long vo_keptSpilt, .ref o_keptAmounts, .ref o_keptDrank, .ref o_keptTurns, .long vo_hash])), (o_rows, .inl (cI, 54, .inl vo_rows)), (o_amounts, .inl (cJ, 9, .inr (.inl b3))), (o_takes, .inl (cJ, 9, .inr (.inl vo_takes))), (o_leans, .inl (cI, 9, .inl vo_leans))] := hD
    have hl : lv_has ls 15 [(4, .int b1), (2, .long b2), (0, .ref o), (1, .ref o_amounts)] := hl
    have hT : lp_X6_runOver_a_5 vo_glasses rs_X6_runOver_a_5 vo_takes vo_rows vo_leans (k5 + 1) b1 b2 b3 = (r, qo_amounts) := hT
    have i1 : 0 ≤ b1.toInt := i1
    have j1 : b1.toInt ≤ vo_glasses.toInt := j1
    have hm5 : vo_glasses.toInt - b1.toInt < (((k5 + 1) : Nat) : Int) := hm5
    try simp only [Int.natCast_add, Int.natCast_one, Nat.cast_add, Nat.cast_one] at hm5
    refine lv_iload hx hb dX6_runOver_5 (lv_at hl 0 rfl) ?_
    refine lv_aload_n hx hb dX6_runOver_7 rfl (lv_at hl 2 rfl) ?_
    refine va_get (D := (dC, dI)) (ci := 6) (v := .int vo_glasses) (C := RX6) (T := TX6) (N := 26) hx hb hts hwX6 hown hK hP 0 rfl rfl 6 (by decide) hf_97 (fun _ h9 => h9) rfl dX6_runOver_8 ?_
    refine lv_icmp_ge (tgt := 188) hx hb dX6_runOver_11 (by decide) (fun c_1 => ?_) (fun c_1 => ?_)
    · replace hT := cutT c_1 hT
      have g_28 := zleT (rfl : (vo_glasses).toInt = _) (rfl : (b1).toInt = _) c_1
      exact hex5 (b1, b2, b3) _ _ _ ⟨(by omega : 0 ≤ b1.toInt), (by omega : b1.toInt ≤ vo_glasses.toInt), hT, hP.sub [0, 1, 2, 3, 4] rfl, hD.sub [0, 1, 2, 3, 4] rfl rfl, hS, lv_sub hl [1] rfl⟩
    · replace hT := cutF c_1 hT
      have g_29 := zleF (rfl : (vo_glasses).toInt = _) (rfl : (b1).toInt = _) c_1
      refine lv_aload_n hx hb dX6_runOver_14 rfl (lv_at hl 3 rfl) ?_
      refine lv_iload hx hb dX6_runOver_15 (lv_at hl 0 rfl) ?_
      have h_2 : vp_in b1 9 := zin (by omega) (by omega)
      refine va_lald hx hb hK hP 2 1 rfl rfl h_2 dX6_runOver_17 ?_
      refine lv_aload_n hx hb dX6_runOver_18 rfl (lv_at hl 2 rfl) ?_
      refine va_get (D := (dC, dI)) (ci := 6) (v := .ref o_takes) (C := RX6) (T := TX6) (N := 26) hx hb hts hwX6 hown hK hP 0 rfl rfl 14 (by decide) hf_29 (fun _ h9 => h9) rfl dX6_runOver_19 ?_
      refine lv_iload hx hb dX6_runOver_22 (lv_at hl 0 rfl) ?_
      have h_3 : vp_in b1 9 := zin (by omega) (by omega)
      refine va_lald hx hb hK hP 3 1 rfl rfl h_3 dX6_runOver_24 ?_
      refine W.lcmp hx hb dX6_runOver_25 ?_
      refine zz_join1 hT 45 (fun v => [.long v]) (fun v H locs ls => va_P (dC, dI) vwCl [(o, .inr (6, [.ref o_page, .int vo_pageMany, .int vo_readMany, .int vo_state, .int vo_readMost, .ref o_readRows, .int vo_glasses, .int vo_towersRead, .int vo_poured, .ref o_rows, .ref o_turns, .ref o_amounts, .ref o_drank, .long vo_spilt, .ref o_takes, .ref o_leans, .ref o_would, .int vo_done, .int vo_seedNow, .int vo_keptTower, .int vo_keptPoured, .long vo_keptSpilt, .ref o_keptAmounts, .ref o_keptDrank, .ref o_keptTurns, .long vo_hash])), (o_rows, .inl (cI, 54, .inl vo_rows)), (o_amounts, .inl (cJ, 9, .inr (.inl b3))), (o_takes, .inl (cJ, 9, .inr (.inl vo_takes))), (o_leans, .inl (cI, 9, .inl vo_leans))] H ∧ va_D A [(o, .inr (6, [.ref o_page, .int vo_pageMany, .int vo_readMany, .int vo_state, .int vo_readMost, .ref o_readRows, .int vo_glasses, .int vo_towersRead, .int vo_poured, .ref o_rows, .ref o_turns, .ref o_amounts, .ref o_drank, .long vo_spilt, .ref o_takes, .ref o_leans, .ref o_would, .int vo_done, .int vo_seedNow, .int vo_keptTower, .int vo_keptPoured, .long vo_keptSpilt, .ref o_keptAmounts, .ref o_keptDrank, .ref o_keptTurns, .long vo_hash])), (o_rows, .inl (cI, 54, .inl vo_rows)), (o_amounts, .inl (cJ, 9, .inr (.inl b3))), (o_takes, .inl (cJ, 9, .inr (.inl vo_takes))), (o_leans, .inl (cI, 9, .inl vo_leans))] ∧ va_S A s.heap H locs ∧ lv_has ls 15 [(0, .ref o), (1, .ref o_amounts), (2, .long b2), (4, .int b1)]) ?_ ?_
      · rintro j7 ej_30 H locs ls ⟨hP, hD, hS, hl⟩
        replace hT := cut_n ej_30 hT
        have hP : va_P (dC, dI) vwCl [(o, .inr (6, [.ref o_page, .int vo_pageMany, .int vo_readMany, .int vo_state, .int vo_readMost, .ref o_readRows, .int vo_glasses, .int vo_towersRead, .int vo_poured, .ref o_rows, .ref o_turns, .ref o_amounts, .ref o_drank, .long vo_spilt, .ref o_takes, .ref o_leans, .ref o_would, .int vo_done, .int vo_seedNow, .int vo_keptTower, .int vo_keptPoured, .long vo_keptSpilt, .ref o_keptAmounts, .ref o_keptDrank, .ref o_keptTurns, .long vo_hash])), (o_rows, .inl (cI, 54, .inl vo_rows)), (o_amounts, .inl (cJ, 9, .inr (.inl b3))), (o_takes, .inl (cJ, 9, .inr (.inl vo_takes))), (o_leans, .inl (cI, 9, .inl vo_leans))] H := hP
        have hD : va_D A [(o, .inr (6, [.ref o_page, .int vo_pageMany, .int vo_readMany, .int vo_state, .int vo_readMost, .ref o_readRows, .int vo_glasses, .int vo_towersRead, .int vo_poured, .ref o_rows, .ref o_turns, .ref o_amounts, .ref o_drank, .long vo_spilt, .ref o_takes, .ref o_leans, .ref o_would, .int vo_done, .int vo_seedNow, .int vo_keptTower, .int vo_keptPoured, .long vo_keptSpilt, .ref o_keptAmounts, .ref o_keptDrank, .ref o_keptTurns, .long vo_hash])), (o_rows, .inl (cI, 54, .inl vo_rows)), (o_amounts, .inl (cJ, 9, .inr (.inl b3))), (o_takes, .inl (cJ, 9, .inr (.inl vo_takes))), (o_leans, .inl (cI, 9, .inl vo_leans))] := hD
        have hl : lv_has ls 15 [(0, .ref o), (1, .ref o_amounts), (2, .long b2), (4, .int b1)] := hl
        refine lv_lstore (lv' := [(5, .long j7), (0, .ref o), (1, .ref o_amounts), (2, .long b2), (4, .int b1)]) hx hb dX6_runOver_45 hl (by decide) rfl (fun ls hl => ?_)
        refine lv_aload_n hx hb dX6_runOver_47 rfl (lv_at hl 1 rfl) ?_
        refine va_get (D := (dC, dI)) (ci := 6) (v := .ref o_rows) (C := RX6) (T := TX6) (N := 26) hx hb hts hwX6 hown hK hP 0 rfl rfl 9 (by decide) hf_16 (fun _ h9 => h9) rfl dX6_runOver_48 ?_
        refine lv_bipush (v := (6 : Int32)) hx hb dX6_runOver_51 (by decide) ?_
        refine lv_iload hx hb dX6_runOver_53 (lv_at hl 4 rfl) ?_
        refine lv_imul hx hb dX6_runOver_55 ?_
        refine lv_iconst (v := (2 : Int32)) hx hb dX6_runOver_56 (by decide) ?_
        refine lv_iadd hx hb dX6_runOver_57 ?_
        have e_8 := zmulE (v := ((6 : Int32) * b1)) (by decide : ((6 : Int32)).toInt = 6) (rfl : (b1).toInt = _) rfl (by omega) (by omega)
        have e_9 := zaddE (v := (((6 : Int32) * b1) + (2 : Int32))) e_8 (by decide : ((2 : Int32)).toInt = 2) rfl (by omega) (by omega)
        have h_7 : vp_in (((6 : Int32) * b1) + (2 : Int32)) 54 := zin (by omega) (by omega)
        refine va_iald hx hb hK hP 1 0 rfl rfl h_7 dX6_runOver_58 ?_
        have hsh := zRw_cI hrw (c := (((6 : Int32) * b1) + (2 : Int32))) (by omega) (by omega)
        refine lv_topi (fun v8 ev8 => ?_)
        replace hT := cut_n ev8.symm hT
        have fv8 : (v8).toInt = (vo_rows (((6 : Int32) * b1) + (2 : Int32)).toNatClampNeg).toInt := by rw [ev8]
        refine lv_istore (lv' := [(7, .int v8), (5, .long j7), (0, .ref o), (1, .ref o_amounts), (2, .long b2), (4, .int b1)]) hx hb dX6_runOver_59 hl (by decide) rfl (fun ls hl => ?_)
        refine lv_iload hx hb dX6_runOver_61 (lv_at hl 0 rfl) ?_
        refine lv_aload_n hx hb dX6_runOver_63 rfl (lv_at hl 2 rfl) ?_
        refine va_get (D := (dC, dI)) (ci := 6) (v := .ref o_leans) (C := RX6) (T := TX6) (N := 26) hx hb hts hwX6 hown hK hP 0 rfl rfl 15 (by decide) hf_32 (fun _ h9 => h9) rfl dX6_runOver_64 ?_
        refine lv_iload hx hb dX6_runOver_67 (lv_at hl 5 rfl) ?_
        have h_10 : vp_in b1 9 := zin (by omega) (by omega)
        refine va_iald hx hb hK hP 4 0 rfl rfl h_10 dX6_runOver_69 ?_
        have g_11 := hln b1.toNatClampNeg
        refine lv_iadd hx hb dX6_runOver_70 ?_
        refine lv_topi (fun v9 ev9 => ?_)
        replace hT := cut_n ev9.symm hT
        try have fv9 := zaddE (rfl : (v8).toInt = _) (rfl : ((vo_leans b1.toNatClampNeg)).toInt = _) ev9.symm (by omega) (by omega)
        refine lv_istore (lv' := [(8, .int v9), (7, .int v8), (5, .long j7), (0, .ref o), (1, .ref o_amounts), (2, .long b2), (4, .int b1)]) hx hb dX6_runOver_71 hl (by decide) rfl (fun ls hl => ?_)
        refine lv_aload_n hx hb dX6_runOver_73 rfl (lv_at hl 4 rfl) ?_
        refine lv_iload hx hb dX6_runOver_74 (lv_at hl 6 rfl) ?_
        refine lv_dup2_11 hx hb dX6_runOver_76 rfl rfl ?_
        have h_12 : vp_in b1 9 := zin (by omega) (by omega)
        refine va_lald hx hb hK hP 2 1 rfl rfl h_12 dX6_runOver_77 ?_
        refine lv_lload hx hb dX6_runOver_78 (lv_at hl 2 rfl) ?_
        refine lv_lsub hx hb dX6_runOver_80 ?_
        have h_13 : vp_in b1 9 := zin (by omega) (by omega)
        refine va_last hx hb hK hP hD hS 2 1 rfl rfl h_13 dX6_runOver_81 (fun H locs hP hD hS => ?_)
        obtain ⟨a10, ea10⟩ : ∃ z, (vp_updL b3 b1.toNatClampNeg ((b3 b1.toNatClampNeg) - j7)) = z := ⟨_, rfl⟩
        replace hT := cut_n ea10 hT
        have hP : va_P (dC, dI) vwCl [(o, .inr (6, [.ref o_page, .int vo_pageMany, .int vo_readMany, .int vo_state, .int vo_readMost, .ref o_readRows, .int vo_glasses, .int vo_towersRead, .int vo_poured, .ref o_rows, .ref o_turns, .ref o_amounts, .ref o_drank, .long vo_spilt, .ref o_takes, .ref o_leans, .ref o_would, .int vo_done, .int vo_seedNow, .int vo_keptTower, .int vo_keptPoured, .long vo_keptSpilt, .ref o_keptAmounts, .ref o_keptDrank, .ref o_keptTurns, .long vo_hash])), (o_rows, .inl (cI, 54, .inl vo_rows)), (o_amounts, .inl (cJ, 9, .inr (.inl a10))), (o_takes, .inl (cJ, 9, .inr (.inl vo_takes))), (o_leans, .inl (cI, 9, .inl vo_leans))] H := by rw [← ea10]; exact hP
        have hD : va_D A [(o, .inr (6, [.ref o_page, .int vo_pageMany, .int vo_readMany, .int vo_state, .int vo_readMost, .ref o_readRows, .int vo_glasses, .int vo_towersRead, .int vo_poured, .ref o_rows, .ref o_turns, .ref o_amounts, .ref o_drank, .long vo_spilt, .ref o_takes, .ref o_leans, .ref o_would, .int vo_done, .int vo_seedNow, .int vo_keptTower, .int vo_keptPoured, .long vo_keptSpilt, .ref o_keptAmounts, .ref o_keptDrank, .ref o_keptTurns, .long vo_hash])), (o_rows, .inl (cI, 54, .inl vo_rows)), (o_amounts, .inl (cJ, 9, .inr (.inl a10))), (o_takes, .inl (cJ, 9, .inr (.inl vo_takes))), (o_leans, .inl (cI, 9, .inl vo_leans))] := by rw [← ea10]; exact hD
        refine lv_lload hx hb dX6_runOver_82 (lv_at hl 2 rfl) ?_
        refine lv_lstore (lv' := [(9, .long j7), (8, .int v9), (7, .int v8), (5, .long j7), (0, .ref o), (1, .ref o_amounts), (2, .long b2), (4, .int b1)]) hx hb dX6_runOver_84 hl (by decide) rfl (fun ls hl => ?_)
        refine lv_iconst (v := (0 : Int32)) hx hb dX6_runOver_86 (by decide) ?_
        refine lv_istore (lv' := [(11, .int (0 : Int32)), (9, .long j7), (8, .int v9), (7, .int v8), (5, .long j7), (0, .ref o), (1, .ref o_amounts), (2, .long b2), (4, .int b1)]) hx hb dX6_runOver_87 hl (by decide) rfl (fun ls hl => ?_)
        have hz_31 : ((0 : Int32)).toInt = 0 := by decide
        refine zz_loop (α := Int32 × Int64 × (Nat → Int64)) 177 (fun k a H locs ls => (0 ≤ a.1.toInt) ∧ (a.1.toInt ≤ 3) ∧ (3 - a.1.toInt < ((k : Nat) : Int)) ∧ lp_X6_runOver_a_6 v8 (rs_X6_runOver_a_6 b2 b1 (fun c0 c1 c2 => lp_X6_runOver_a_5 vo_glasses rs_X6_runOver_a_5 vo_takes vo_rows vo_leans k5 c0 c1 c2)) j7 vo_rows b1 vo_leans v9 k a.1 a.2.1 a.2.2 = (r, qo_amounts) ∧ va_P (dC, dI) vwCl [(o, .inr (6, [.ref o_page, .int vo_pageMany, .int vo_readMany, .int vo_state, .int vo_readMost, .ref o_readRows, .int vo_glasses, .int vo_towersRead, .int vo_poured, .ref o_rows, .ref o_turns, .ref o_amounts, .ref o_drank, .long vo_spilt, .ref o_takes, .ref o_leans, .ref o_would, .int vo_done, .int vo_seedNow, .int vo_keptTower, .int vo_keptPoured, .long vo_keptSpilt, .ref o_keptAmounts, .ref o_keptDrank, .ref o_keptTurns, .long vo_hash])), (o_rows, .inl (cI, 54, .inl vo_rows)), (o_amounts, .inl (cJ, 9, .inr (.inl a.2.2))), (o_takes, .inl (cJ, 9, .inr (.inl vo_takes))), (o_leans, .inl (cI, 9, .inl vo_leans))] H ∧ va_D A [(o, .inr (6, [.ref o_page, .int vo_pageMany, .int vo_readMany, .int vo_state, .int vo_readMost, .ref o_readRows, .int vo_glasses, .int vo_towersRead, .int vo_poured, .ref o_rows, .ref o_turns, .ref o_amounts, .ref o_drank, .long vo_spilt, .ref o_takes, .ref o_leans, .ref o_would, .int vo_done, .int vo_seedNow, .int vo_keptTower, .int vo_keptPoured, .long vo_keptSpilt, .ref o_keptAmounts, .ref o_keptDrank, .ref o_keptTurns, .long vo_hash])), (o_rows, .inl (cI, 54, .inl vo_rows)), (o_amounts, .inl (cJ, 9, .inr (.inl a.2.2))), (o_takes, .inl (cJ, 9, .inr (.inl vo_takes))), (o_leans, .inl (cI, 9, .inl vo_leans))] ∧ va_S A s.heap H locs ∧ lv_has ls 15 [(11, .int a.1), (9, .long a.2.1), (8, .int v9), (7, .int v8), (5, .long j7), (0, .ref o), (1, .ref o_amounts), (2, .long b2), (4, .int b1)]) (fun a H locs ls => (0 ≤ a.1.toInt) ∧ (a.1.toInt ≤ 3) ∧ (rs_X6_runOver_a_6 b2 b1 (fun c0 c1 c2 => lp_X6_runOver_a_5 vo_glasses rs_X6_runOver_a_5 vo_takes vo_rows vo_leans k5 c0 c1 c2)) a.1 a.2.1 a.2.2 = (r, qo_amounts) ∧ va_P (dC, dI) vwCl [(o, .inr (6, [.ref o_page, .int vo_pageMany, .int vo_readMany, .int vo_state, .int vo_readMost, .ref o_readRows, .int vo_glasses, .int vo_towersRead, .int vo_poured, .ref o_rows, .ref o_turns, .ref o_amounts, .ref o_drank, .long vo_spilt, .ref o_takes, .ref o_leans, .ref o_would, .int vo_done, .int vo_seedNow, .int vo_keptTower, .int vo_keptPoured, .long vo_keptSpilt, .ref o_keptAmounts, .ref o_keptDrank, .ref o_keptTurns, .long vo_hash])), (o_rows, .inl (cI, 54, .inl vo_rows)), (o_amounts, .inl (cJ, 9, .inr (.inl a.2.2))), (o_takes, .inl (cJ, 9, .inr (.inl vo_takes))), (o_leans, .inl (cI, 9, .inl vo_leans))] H ∧ va_D A [(o, .inr (6, [.ref o_page, .int vo_pageMany, .int vo_readMany, .int vo_state, .int vo_readMost, .ref o_readRows, .int vo_glasses, .int vo_towersRead, .int vo_poured, .ref o_rows, .ref o_turns, .ref o_amounts, .ref o_drank, .long vo_spilt, .ref o_takes, .ref o_leans, .ref o_would, .int vo_done, .int vo_seedNow, .int vo_keptTower, .int vo_keptPoured, .long vo_keptSpilt, .ref o_keptAmounts, .ref o_keptDrank, .ref o_keptTurns, .long vo_hash])), (o_rows, .inl (cI, 54, .inl vo_rows)), (o_amounts, .inl (cJ, 9, .inr (.inl a.2.2))), (o_takes, .inl (cJ, 9, .inr (.inl vo_takes))), (o_leans, .inl (cI, 9, .inl vo_leans))] ∧ va_S A s.heap H locs ∧ lv_has ls 15 [(9, .long a.2.1), (0, .ref o), (1, .ref o_amounts), (2, .long b2), (4, .int b1)]) ?_ ?_ ?_ 5 ((0 : Int32), j7, a10) ⟨(by omega : 0 ≤ (0 : Int32).toInt), (by omega : (0 : Int32).toInt ≤ 3), (by omega : 3 - (0 : Int32).toInt < ((5 : Nat) : Int)), hT, hP.sub [0, 1, 2, 3, 4] rfl, hD.sub [0, 1, 2, 3, 4] rfl rfl, hS, lv_sub hl [0, 1, 2, 3, 4, 5, 6, 7, 8] rfl⟩
        · rintro ⟨x14, x15, x16⟩ H locs ls ⟨i2, j2, hT, hP, hD, hS, hl⟩
          have hP : va_P (dC, dI) vwCl [(o, .inr (6, [.ref o_page, .int vo_pageMany, .int vo_readMany, .int vo_state, .int vo_readMost, .ref o_readRows, .int vo_glasses, .int vo_towersRead, .int vo_poured, .ref o_rows, .ref o_turns, .ref o_amounts, .ref o_drank, .long vo_spilt, .ref o_takes, .ref o_leans, .ref o_would, .int vo_done, .int vo_seedNow, .int vo_keptTower, .int vo_keptPoured, .long vo_keptSpilt, .ref o_keptAmounts, .ref o_keptDrank, .ref o_keptTurns, .long vo_hash])), (o_rows, .inl (cI, 54, .inl vo_rows)), (o_amounts, .inl (cJ, 9, .inr (.inl x16))), (o_takes, .inl (cJ, 9, .inr (.inl vo_takes))), (o_leans, .inl (cI, 9, .inl vo_leans))] H := hP
          have hD : va_D A [(o, .inr (6, [.ref o_page, .int vo_pageMany, .int vo_readMany, .int vo_state, .int vo_readMost, .ref o_readRows, .int vo_glasses, .int vo_towersRead, .int vo_poured, .ref o_rows, .ref o_turns, .ref o_amounts, .ref o_drank, .long vo_spilt, .ref o_takes, .ref o_leans, .ref o_would, .int vo_done, .int vo_seedNow, .int vo_keptTower, .int vo_keptPoured, .long vo_keptSpilt, .ref o_keptAmounts, .ref o_keptDrank, .ref o_keptTurns, .long vo_hash])), (o_rows, .inl (cI, 54, .inl vo_rows)), (o_amounts, .inl (cJ, 9, .inr (.inl x16))), (o_takes, .inl (cJ, 9, .inr (.inl vo_takes))), (o_leans, .inl (cI, 9, .inl vo_leans))] := hD
          have hl : lv_has ls 15 [(9, .long x15), (0, .ref o), (1, .ref o_amounts), (2, .long b2), (4, .int b1)] := hl
          have hT : (rs_X6_runOver_a_6 b2 b1 (fun c0 c1 c2 => lp_X6_runOver_a_5 vo_glasses rs_X6_runOver_a_5 vo_takes vo_rows vo_leans k5 c0 c1 c2)) x14 x15 x16 = (r, qo_amounts) := hT
          have i2 : 0 ≤ x14.toInt := i2
          have j2 : x14.toInt ≤ 3 := j2
          refine lv_lload_n hx hb dX6_runOver_177 rfl (lv_at hl 3 rfl) ?_
          refine lv_lload hx hb dX6_runOver_178 (lv_at hl 0 rfl) ?_
          refine lv_ladd hx hb dX6_runOver_180 ?_
          refine lv_topl (fun v24 ev24 => ?_)
          replace hT := cut_n ev24.symm hT
          refine lv_lstore_n (lv' := [(2, .long v24), (9, .long x15), (0, .ref o), (1, .ref o_amounts), (4, .int b1)]) hx hb dX6_runOver_181 rfl hl (by decide) rfl (fun ls hl => ?_)
          obtain ⟨v25, ev25⟩ : ∃ y : Int32, (b1 + (1 : Int32)) = y := ⟨_, rfl⟩
          replace hT := cut_n ev25 hT
          try have fv25 := zaddE (rfl : (b1).toInt = _) (by decide : ((1 : Int32)).toInt = 1) ev25 (by omega) (by omega)
          refine lv_iinc (v := v25) (lv' := [(4, .int v25), (2, .long v24), (9, .long x15), (0, .ref o), (1, .ref o_amounts)]) hx hb dX6_runOver_182 hl (k := 4) rfl (by rw [← ev25]; rfl) (by decide) rfl (fun ls hl => ?_)
          refine lv_goto (tgt := 5) hx hb dX6_runOver_185 (by decide) ?_
          exact ih5 (v25, v24, x16) _ _ _ ⟨(by omega : 0 ≤ v25.toInt), (by omega : v25.toInt ≤ vo_glasses.toInt), (by omega : vo_glasses.toInt - v25.toInt < ((k5 : Nat) : Int)), hT, hP.sub [0, 1, 2, 3, 4] rfl, hD.sub [0, 1, 2, 3, 4] rfl rfl, hS, lv_sub hl [0, 1, 3, 4] rfl⟩
        · rintro ⟨b11, b12, b13⟩ H locs ls ⟨i2, j2, hm, -⟩
          try dsimp only at *
          omega
        · intro k6 hex6 ih6
          rintro ⟨b11, b12, b13⟩ H locs ls ⟨i2, j2, hm6, hT, hP, hD, hS, hl⟩
          have hP : va_P (dC, dI) vwCl [(o, .inr (6, [.ref o_page, .int vo_pageMany, .int vo_readMany, .int vo_state, .int vo_readMost, .ref o_readRows, .int vo_glasses, .int vo_towersRead, .int vo_poured, .ref o_rows, .ref o_turns, .ref o_amounts, .ref o_drank, .long vo_spilt, .ref o_takes, .ref o_leans, .ref o_would, .int vo_done, .int vo_seedNow, .int vo_keptTower, .int vo_keptPoured, .long vo_keptSpilt, .ref o_keptAmounts, .ref o_keptDrank, .ref o_keptTurns, .long vo_hash])), (o_rows, .inl (cI, 54, .inl vo_rows)), (o_amounts, .inl (cJ, 9, .inr (.inl b13))), (o_takes, .inl (cJ, 9, .inr (.inl vo_takes))), (o_leans, .inl (cI, 9, .inl vo_leans))] H := hP
          have hD : va_D A [(o, .inr (6, [.ref o_page, .int vo_pageMany, .int vo_readMany, .int vo_state, .int vo_readMost, .ref o_readRows, .int vo_glasses, .int vo_towersRead, .int vo_poured, .ref o_rows, .ref o_turns, .ref o_amounts, .ref o_drank, .long vo_spilt, .ref o_takes, .ref o_leans, .ref o_would, .int vo_done, .int vo_seedNow, .int vo_keptTower, .int vo_keptPoured, .long vo_keptSpilt, .ref o_keptAmounts, .ref o_keptDrank, .ref o_keptTurns, .long vo_hash])), (o_rows, .inl (cI, 54, .inl vo_rows)), (o_amounts, .inl (cJ, 9, .inr (.inl b13))), (o_takes, .inl (cJ, 9, .inr (.inl vo_takes))), (o_leans, .inl (cI, 9, .inl vo_leans))] := hD
          have hl : lv_has ls 15 [(11, .int b11), (9, .long b12), (8, .int v9), (7, .int v8), (5, .long j7), (0, .ref o), (1, .ref o_amounts), (2, .long b2), (4, .int b1)] := hl
          have hT : lp_X6_runOver_a_6 v8 (rs_X6_runOver_a_6 b2 b1 (fun c0 c1 c2 => lp_X6_runOver_a_5 vo_glasses rs_X6_runOver_a_5 vo_takes vo_rows vo_leans k5 c0 c1 c2)) j7 vo_rows b1 vo_leans v9 (k6 + 1) b11 b12 b13 = (r, qo_amounts) := hT
          have i2 : 0 ≤ b11.toInt := i2
          have j2 : b11.toInt ≤ 3 := j2
          have hm6 : 3 - b11.toInt < (((k6 + 1) : Nat) : Int) := hm6
          try simp only [Int.natCast_add, Int.natCast_one, Nat.cast_add, Nat.cast_one] at hm6
          refine lv_iload hx hb dX6_runOver_89 (lv_at hl 0 rfl) ?_
          refine lv_iload hx hb dX6_runOver_91 (lv_at hl 3 rfl) ?_
          refine lv_icmp_ge (tgt := 177) hx hb dX6_runOver_93 (by decide) (fun c_14 => ?_) (fun c_14 => ?_)
          · replace hT := cutT c_14 hT
            have g_32 := zleT (rfl : (v8).toInt = _) (rfl : (b11).toInt = _) c_14
            exact hex6 (b11, b12, b13) _ _ _ ⟨(by omega : 0 ≤ b11.toInt), (by omega : b11.toInt ≤ 3), hT, hP.sub [0, 1, 2, 3, 4] rfl, hD.sub [0, 1, 2, 3, 4] rfl rfl, hS, lv_sub hl [1, 5, 6, 7, 8] rfl⟩
          · replace hT := cutF c_14 hT
            have g_33 := zleF (rfl : (v8).toInt = _) (rfl : (b11).toInt = _) c_14
            refine lv_lload hx hb dX6_runOver_96 (lv_at hl 4 rfl) ?_
            refine lv_lconst (v := (0 : Int64)) hx hb dX6_runOver_98 (by decide) ?_
            refine W.lcmp hx hb dX6_runOver_99 ?_
            have hz_34 : ((0 : Int64)).toInt = 0 := by decide
            refine lv_if_le (tgt := 177) hx hb dX6_runOver_100 (by decide) (fun c_15 => ?_) (fun c_15 => ?_)
            · replace hT := cutT c_15 hT
              have g_35 := zlc_le.mp c_15
              exact hex6 (b11, b12, b13) _ _ _ ⟨(by omega : 0 ≤ b11.toInt), (by omega : b11.toInt ≤ 3), hT, hP.sub [0, 1, 2, 3, 4] rfl, hD.sub [0, 1, 2, 3, 4] rfl rfl, hS, lv_sub hl [1, 5, 6, 7, 8] rfl⟩
            · replace hT := cutF c_15 hT
              have g_36 := mt zlc_le.mpr c_15
              refine lv_aload_n hx hb dX6_runOver_103 rfl (lv_at hl 5 rfl) ?_
              refine va_get (D := (dC, dI)) (ci := 6) (v := .ref o_rows) (C := RX6) (T := TX6) (N := 26) hx hb hts hwX6 hown hK hP 0 rfl rfl 9 (by decide) hf_16 (fun _ h9 => h9) rfl dX6_runOver_104 ?_
              refine lv_bipush (v := (6 : Int32)) hx hb dX6_runOver_107 (by decide) ?_
              refine lv_iload hx hb dX6_runOver_109 (lv_at hl 8 rfl) ?_
              refine lv_imul hx hb dX6_runOver_111 ?_
              refine lv_iconst (v := (3 : Int32)) hx hb dX6_runOver_112 (by decide) ?_
              refine lv_iadd hx hb dX6_runOver_113 ?_
              refine lv_iload hx hb dX6_runOver_114 (lv_at hl 0 rfl) ?_
              refine lv_iadd hx hb dX6_runOver_116 ?_
              have e_17 := zmulE (v := ((6 : Int32) * b1)) (by decide : ((6 : Int32)).toInt = 6) (rfl : (b1).toInt = _) rfl (by omega) (by omega)
              have e_18 := zaddE (v := (((6 : Int32) * b1) + (3 : Int32))) e_17 (by decide : ((3 : Int32)).toInt = 3) rfl (by omega) (by omega)
              have e_19 := zaddE (v := ((((6 : Int32) * b1) + (3 : Int32)) + b11)) e_18 (rfl : (b11).toInt = _) rfl (by omega) (by omega)
              have h_16 : vp_in ((((6 : Int32) * b1) + (3 : Int32)) + b11) 54 := zin (by omega) (by omega)
              refine va_iald hx hb hK hP 1 0 rfl rfl h_16 dX6_runOver_117 ?_
              have hto := zRw_sI hrw (i := ((((6 : Int32) * b1) + (3 : Int32)) + b11)) (k := b11) (c := (((6 : Int32) * b1) + (2 : Int32))) (by omega) (by omega) (by omega) (by omega) (by omega)
              refine lv_topi (fun v17 ev17 => ?_)
              replace hT := cut_n ev17.symm hT
              have fv17 : (v17).toInt = (vo_rows ((((6 : Int32) * b1) + (3 : Int32)) + b11).toNatClampNeg).toInt := by rw [ev17]
              refine lv_istore (lv' := [(12, .int v17), (11, .int b11), (9, .long b12), (8, .int v9), (7, .int v8), (5, .long j7), (0, .ref o), (1, .ref o_amounts), (2, .long b2), (4, .int b1)]) hx hb dX6_runOver_118 hl (by decide) rfl (fun ls hl => ?_)
              refine lv_iload hx hb dX6_runOver_120 (lv_at hl 0 rfl) ?_
              refine lv_bipush (v := (9 : Int32)) hx hb dX6_runOver_122 (by decide) ?_
              refine lv_icmp_ge (tgt := 171) hx hb dX6_runOver_124 (by decide) (fun c_20 => ?_) (fun c_20 => ?_)
              · replace hT := cutT c_20 hT
                have g_37 := zleT (by decide : ((9 : Int32)).toInt = 9) (rfl : (v17).toInt = _) c_20
                obtain ⟨v18, ev18⟩ : ∃ y : Int32, (b11 + (1 : Int32)) = y := ⟨_, rfl⟩
                replace hT := cut_n ev18 hT
                try have fv18 := zaddE (rfl : (b11).toInt = _) (by decide : ((1 : Int32)).toInt = 1) ev18 (by omega) (by omega)
                refine lv_iinc (v := v18) (lv' := [(11, .int v18), (12, .int v17), (9, .long b12), (8, .int v9), (7, .int v8), (5, .long j7), (0, .ref o), (1, .ref o_amounts), (2, .long b2), (4, .int b1)]) hx hb dX6_runOver_171 hl (k := 1) rfl (by rw [← ev18]; rfl) (by decide) rfl (fun ls hl => ?_)
                refine lv_goto (tgt := 89) hx hb dX6_runOver_174 (by decide) ?_
                exact ih6 (v18, b12, b13) _ _ _ ⟨(by omega : 0 ≤ v18.toInt), (by omega : v18.toInt ≤ 3), (by omega : 3 - v18.toInt < ((k6 : Nat) : Int)), hT, hP.sub [0, 1, 2, 3, 4] rfl, hD.sub [0, 1, 2, 3, 4] rfl rfl, hS, lv_sub hl [0, 2, 3, 4, 5, 6, 7, 8, 9] rfl⟩
              · replace hT := cutF c_20 hT
                have g_38 := zleF (by decide : ((9 : Int32)).toInt = 9) (rfl : (v17).toInt = _) c_20
                refine lv_lload hx hb dX6_runOver_127 (lv_at hl 5 rfl) ?_
                refine lv_iload hx hb dX6_runOver_129 (lv_at hl 3 rfl) ?_
                refine lv_i2l (v := (v9.toInt64)) hx hb dX6_runOver_131 rfl ?_
                have h_21 : ¬ (v9.toInt64) = 0 := z64neI (by omega)
                refine lv_ldiv hx hb dX6_runOver_132 h_21 ?_
                refine lv_iload hx hb dX6_runOver_133 (lv_at hl 1 rfl) ?_
                refine zz_join1 hT 151 (fun v => [.int v, .long (j7 / (v9.toInt64))]) (fun v H locs ls => va_P (dC, dI) vwCl [(o, .inr (6, [.ref o_page, .int vo_pageMany, .int vo_readMany, .int vo_state, .int vo_readMost, .ref o_readRows, .int vo_glasses, .int vo_towersRead, .int vo_poured, .ref o_rows, .ref o_turns, .ref o_amounts, .ref o_drank, .long vo_spilt, .ref o_takes, .ref o_leans, .ref o_would, .int vo_done, .int vo_seedNow, .int vo_keptTower, .int vo_keptPoured, .long vo_keptSpilt, .ref o_keptAmounts, .ref o_keptDrank, .ref o_keptTurns, .long vo_hash])), (o_rows, .inl (cI, 54, .inl vo_rows)), (o_amounts, .inl (cJ, 9, .inr (.inl b13))), (o_takes, .inl (cJ, 9, .inr (.inl vo_takes))), (o_leans, .inl (cI, 9, .inl vo_leans))] H ∧ va_D A [(o, .inr (6, [.ref o_page, .int vo_pageMany, .int vo_readMany, .int vo_state, .int vo_readMost, .ref o_readRows, .int vo_glasses, .int vo_towersRead, .int vo_poured, .ref o_rows, .ref o_turns, .ref o_amounts, .ref o_drank, .long vo_spilt, .ref o_takes, .ref o_leans, .ref o_would, .int vo_done, .int vo_seedNow, .int vo_keptTower, .int vo_keptPoured, .long vo_keptSpilt, .ref o_keptAmounts, .ref o_keptDrank, .ref o_keptTurns, .long vo_hash])), (o_rows, .inl (cI, 54, .inl vo_rows)), (o_amounts, .inl (cJ, 9, .inr (.inl b13))), (o_takes, .inl (cJ, 9, .inr (.inl vo_takes))), (o_leans, .inl (cI, 9, .inl vo_leans))] ∧ va_S A s.heap H locs ∧ lv_has ls 15 [(0, .ref o), (1, .ref o_amounts), (2, .long b2), (4, .int b1), (5, .long j7), (7, .int v8), (8, .int v9), (9, .long b12), (11, .int b11), (12, .int v17)]) ?_ ?_
                · rintro j19 ej_39 H locs ls ⟨hP, hD, hS, hl⟩
                  replace hT := cut_n ej_39 hT
                  have hP : va_P (dC, dI) vwCl [(o, .inr (6, [.ref o_page, .int vo_pageMany, .int vo_readMany, .int vo_state, .int vo_readMost, .ref o_readRows, .int vo_glasses, .int vo_towersRead, .int vo_poured, .ref o_rows, .ref o_turns, .ref o_amounts, .ref o_drank, .long vo_spilt, .ref o_takes, .ref o_leans, .ref o_would, .int vo_done, .int vo_seedNow, .int vo_keptTower, .int vo_keptPoured, .long vo_keptSpilt, .ref o_keptAmounts, .ref o_keptDrank, .ref o_keptTurns, .long vo_hash])), (o_rows, .inl (cI, 54, .inl vo_rows)), (o_amounts, .inl (cJ, 9, .inr (.inl b13))), (o_takes, .inl (cJ, 9, .inr (.inl vo_takes))), (o_leans, .inl (cI, 9, .inl vo_leans))] H := hP
                  have hD : va_D A [(o, .inr (6, [.ref o_page, .int vo_pageMany, .int vo_readMany, .int vo_state, .int vo_readMost, .ref o_readRows, .int vo_glasses, .int vo_towersRead, .int vo_poured, .ref o_rows, .ref o_turns, .ref o_amounts, .ref o_drank, .long vo_spilt, .ref o_takes, .ref o_leans, .ref o_would, .int vo_done, .int vo_seedNow, .int vo_keptTower, .int vo_keptPoured, .long vo_keptSpilt, .ref o_keptAmounts, .ref o_keptDrank, .ref o_keptTurns, .long vo_hash])), (o_rows, .inl (cI, 54, .inl vo_rows)), (o_amounts, .inl (cJ, 9, .inr (.inl b13))), (o_takes, .inl (cJ, 9, .inr (.inl vo_takes))), (o_leans, .inl (cI, 9, .inl vo_leans))] := hD
                  have hl : lv_has ls 15 [(0, .ref o), (1, .ref o_amounts), (2, .long b2), (4, .int b1), (5, .long j7), (7, .int v8), (8, .int v9), (9, .long b12), (11, .int b11), (12, .int v17)] := hl
                  refine lv_i2l (v := (j19.toInt64)) hx hb dX6_runOver_151 rfl ?_
                  refine lv_lmul hx hb dX6_runOver_152 ?_
                  refine lv_topl (fun v20 ev20 => ?_)
                  replace hT := cut_n ev20.symm hT
                  refine lv_lstore (lv' := [(13, .long v20), (0, .ref o), (1, .ref o_amounts), (2, .long b2), (4, .int b1), (5, .long j7), (7, .int v8), (8, .int v9), (9, .long b12), (11, .int b11), (12, .int v17)]) hx hb dX6_runOver_153 hl (by decide) rfl (fun ls hl => ?_)
                  refine lv_aload_n hx hb dX6_runOver_155 rfl (lv_at hl 2 rfl) ?_
                  refine lv_iload hx hb dX6_runOver_156 (lv_at hl 10 rfl) ?_
                  refine lv_dup2_11 hx hb dX6_runOver_158 rfl rfl ?_
                  have h_25 : vp_in v17 9 := zin (by omega) (by omega)
                  refine va_lald hx hb hK hP 2 1 rfl rfl h_25 dX6_runOver_159 ?_
                  refine lv_lload hx hb dX6_runOver_160 (lv_at hl 0 rfl) ?_
                  refine lv_ladd hx hb dX6_runOver_162 ?_
                  have h_26 : vp_in v17 9 := zin (by omega) (by omega)
                  refine va_last hx hb hK hP hD hS 2 1 rfl rfl h_26 dX6_runOver_163 (fun H locs hP hD hS => ?_)
                  obtain ⟨a21, ea21⟩ : ∃ z, (vp_updL b13 v17.toNatClampNeg ((b13 v17.toNatClampNeg) + v20)) = z := ⟨_, rfl⟩
                  replace hT := cut_n ea21 hT
                  have hP : va_P (dC, dI) vwCl [(o, .inr (6, [.ref o_page, .int vo_pageMany, .int vo_readMany, .int vo_state, .int vo_readMost, .ref o_readRows, .int vo_glasses, .int vo_towersRead, .int vo_poured, .ref o_rows, .ref o_turns, .ref o_amounts, .ref o_drank, .long vo_spilt, .ref o_takes, .ref o_leans, .ref o_would, .int vo_done, .int vo_seedNow, .int vo_keptTower, .int vo_keptPoured, .long vo_keptSpilt, .ref o_keptAmounts, .ref o_keptDrank, .ref o_keptTurns, .long vo_hash])), (o_rows, .inl (cI, 54, .inl vo_rows)), (o_amounts, .inl (cJ, 9, .inr (.inl a21))), (o_takes, .inl (cJ, 9, .inr (.inl vo_takes))), (o_leans, .inl (cI, 9, .inl vo_leans))] H := by rw [← ea21]; exact hP
                  have hD : va_D A [(o, .inr (6, [.ref o_page, .int vo_pageMany, .int vo_readMany, .int vo_state, .int vo_readMost, .ref o_readRows, .int vo_glasses, .int vo_towersRead, .int vo_poured, .ref o_rows, .ref o_turns, .ref o_amounts, .ref o_drank, .long vo_spilt, .ref o_takes, .ref o_leans, .ref o_would, .int vo_done, .int vo_seedNow, .int vo_keptTower, .int vo_keptPoured, .long vo_keptSpilt, .ref o_keptAmounts, .ref o_keptDrank, .ref o_keptTurns, .long vo_hash])), (o_rows, .inl (cI, 54, .inl vo_rows)), (o_amounts, .inl (cJ, 9, .inr (.inl a21))), (o_takes, .inl (cJ, 9, .inr (.inl vo_takes))), (o_leans, .inl (cI, 9, .inl vo_leans))] := by rw [← ea21]; exact hD
                  refine lv_lload hx hb dX6_runOver_164 (lv_at hl 8 rfl) ?_
                  refine lv_lload hx hb dX6_runOver_166 (lv_at hl 0 rfl) ?_
                  refine lv_lsub hx hb dX6_runOver_168 ?_
                  refine lv_topl (fun v22 ev22 => ?_)
                  replace hT := cut_n ev22.symm hT
                  refine lv_lstore (lv' := [(9, .long v22), (13, .long v20), (0, .ref o), (1, .ref o_amounts), (2, .long b2), (4, .int b1), (5, .long j7), (7, .int v8), (8, .int v9), (11, .int b11), (12, .int v17)]) hx hb dX6_runOver_169 hl (by decide) rfl (fun ls hl => ?_)
                  obtain ⟨v23, ev23⟩ : ∃ y : Int32, (b11 + (1 : Int32)) = y := ⟨_, rfl⟩
                  replace hT := cut_n ev23 hT
                  try have fv23 := zaddE (rfl : (b11).toInt = _) (by decide : ((1 : Int32)).toInt = 1) ev23 (by omega) (by omega)
                  refine lv_iinc (v := v23) (lv' := [(11, .int v23), (9, .long v22), (13, .long v20), (0, .ref o), (1, .ref o_amounts), (2, .long b2), (4, .int b1), (5, .long j7), (7, .int v8), (8, .int v9), (12, .int v17)]) hx hb dX6_runOver_171 hl (k := 9) rfl (by rw [← ev23]; rfl) (by decide) rfl (fun ls hl => ?_)
                  refine lv_goto (tgt := 89) hx hb dX6_runOver_174 (by decide) ?_
                  exact ih6 (v23, v22, a21) _ _ _ ⟨(by omega : 0 ≤ v23.toInt), (by omega : v23.toInt ≤ 3), (by omega : 3 - v23.toInt < ((k6 : Nat) : Int)), hT, hP.sub [0, 1, 2, 3, 4] rfl, hD.sub [0, 1, 2, 3, 4] rfl rfl, hS, lv_sub hl [0, 1, 9, 8, 7, 3, 4, 5, 6] rfl⟩
                · intro xv hT hM
                  refine lv_if_ne (tgt := 150) hx hb dX6_runOver_135 (by decide) (fun c_22 => ?_) (fun c_22 => ?_)
                  · replace hT := cutF c_22 hT
                    have g_40 := zeqF (rfl : (b11).toInt = _) (by decide : ((0 : Int32)).toInt = 0) c_22
                    refine lv_iconst (v := (1 : Int32)) hx hb dX6_runOver_150 (by decide) ?_
                    have hP9 := hP
                    have hD9 := hD
                    have hS9 := hS
                    have hl9 := hl
                    have hM9 := hM
                    have hT : (1 : Int32) = xv := hT
                    subst hT
                    exact hM9 _ _ _ ⟨hP9.sub [0, 1, 2, 3, 4] rfl, hD9.sub [0, 1, 2, 3, 4] rfl rfl, hS9, lv_sub hl9 [6, 7, 8, 9, 5, 4, 3, 2, 1, 0] rfl⟩
                  · replace hT := cutT c_22 hT
                    have g_41 := zeqT (rfl : (b11).toInt = _) (by decide : ((0 : Int32)).toInt = 0) c_22
                    refine lv_iconst (v := (1 : Int32)) hx hb dX6_runOver_138 (by decide) ?_
                    refine lv_aload_n hx hb dX6_runOver_139 rfl (lv_at hl 6 rfl) ?_
                    refine va_get (D := (dC, dI)) (ci := 6) (v := .ref o_leans) (C := RX6) (T := TX6) (N := 26) hx hb hts hwX6 hown hK hP 0 rfl rfl 15 (by decide) hf_32 (fun _ h9 => h9) rfl dX6_runOver_140 ?_
                    refine lv_iload hx hb dX6_runOver_143 (lv_at hl 9 rfl) ?_
                    have h_23 : vp_in b1 9 := zin (by omega) (by omega)
                    refine va_iald hx hb hK hP 4 0 rfl rfl h_23 dX6_runOver_145 ?_
                    have g_24 := hln b1.toNatClampNeg
                    refine lv_iadd hx hb dX6_runOver_146 ?_
                    refine lv_goto (tgt := 151) hx hb dX6_runOver_147 (by decide) ?_
                    have hP9 := hP
                    have hD9 := hD
                    have hS9 := hS
                    have hl9 := hl
                    have hM9 := hM
                    have hT : ((1 : Int32) + (vo_leans b1.toNatClampNeg)) = xv := hT
                    subst hT
                    exact hM9 _ _ _ ⟨hP9.sub [0, 1, 2, 3, 4] rfl, hD9.sub [0, 1, 2, 3, 4] rfl rfl, hS9, lv_sub hl9 [6, 7, 8, 9, 5, 4, 3, 2, 1, 0] rfl⟩
      · intro xv hT hM
        refine lv_if_le (tgt := 44) hx hb dX6_runOver_26 (by decide) (fun c_4 => ?_) (fun c_4 => ?_)
        · replace hT := cutT c_4 hT
          have g_42 := zlc_le.mp c_4
          refine lv_lconst (v := (0 : Int64)) hx hb dX6_runOver_44 (by decide) ?_
          have hP9 := hP
          have hD9 := hD
          have hS9 := hS
          have hl9 := hl
          have hM9 := hM
          have hT : (0 : Int64) = xv := hT
          subst hT
          exact hM9 _ _ _ ⟨hP9.sub [0, 1, 2, 3, 4] rfl, hD9.sub [0, 1, 2, 3, 4] rfl rfl, hS9, lv_sub hl9 [2, 3, 1, 0] rfl⟩
        · replace hT := cutF c_4 hT
          have g_43 := mt zlc_le.mpr c_4
          refine lv_aload_n hx hb dX6_runOver_29 rfl (lv_at hl 3 rfl) ?_
          refine lv_iload hx hb dX6_runOver_30 (lv_at hl 0 rfl) ?_
          have h_5 : vp_in b1 9 := zin (by omega) (by omega)
          refine va_lald hx hb hK hP 2 1 rfl rfl h_5 dX6_runOver_32 ?_
          refine lv_aload_n hx hb dX6_runOver_33 rfl (lv_at hl 2 rfl) ?_
          refine va_get (D := (dC, dI)) (ci := 6) (v := .ref o_takes) (C := RX6) (T := TX6) (N := 26) hx hb hts hwX6 hown hK hP 0 rfl rfl 14 (by decide) hf_29 (fun _ h9 => h9) rfl dX6_runOver_34 ?_
          refine lv_iload hx hb dX6_runOver_37 (lv_at hl 0 rfl) ?_
          have h_6 : vp_in b1 9 := zin (by omega) (by omega)
          refine va_lald hx hb hK hP 3 1 rfl rfl h_6 dX6_runOver_39 ?_
          refine lv_lsub hx hb dX6_runOver_40 ?_
          refine lv_goto (tgt := 45) hx hb dX6_runOver_41 (by decide) ?_
          have hP9 := hP
          have hD9 := hD
          have hS9 := hS
          have hl9 := hl
          have hM9 := hM
          have hT : ((b3 b1.toNatClampNeg) - (vo_takes b1.toNatClampNeg)) = xv := hT
          subst hT
          exact hM9 _ _ _ ⟨hP9.sub [0, 1, 2, 3, 4] rfl, hD9.sub [0, 1, 2, 3, 4] rfl rfl, hS9, lv_sub hl9 [2, 3, 1, 0] rfl⟩

def rs_X6_runOver_w_6 (b2 : Int64) (b1 : Int32) (bk5 : Int32 → Int64 → (Nat → Int64) → (Int64 × (Nat → Int64))) (x14 : Int32) (x15 : Int64) (x16 : Nat → Int64) : Int64 × (Nat → Int64) :=
 cut (b2 + x15) (fun (v24 : Int64) =>
 cut (b1 + (1 : Int32)) (fun (v25 : Int32) =>
 (bk5 v25 v24 x16)))
def lp_X6_runOver_w_6 (v8 : Int32) (ct6 : Int32 → Int64 → (Nat → Int64) → (Int64 × (Nat → Int64))) (j7 : Int64) (vo_rows : Nat → Int32) (b1 : Int32) (vo_leans : Nat → Int32) (v9 : Int32) : Nat → Int32 → Int64 → (Nat → Int64) → (Int64 × (Nat → Int64))
  | 0, _, _, _ => default
  | k + 1, b11, b12, b13 =>
  if v8 ≤ b11 then
   (ct6 b11 b12 b13)
  else
   if (lg_cmp j7 (0 : Int64)) ≤ (0 : Int32) then
    (ct6 b11 b12 b13)
   else
    cut (vo_rows ((((6 : Int32) * b1) + (3 : Int32)) + b11).toNatClampNeg) (fun (v17 : Int32) =>
    if (9 : Int32) ≤ v17 then
     cut (b11 + (1 : Int32)) (fun (v18 : Int32) =>
     (lp_X6_runOver_w_6 v8 ct6 j7 vo_rows b1 vo_leans v9 k v18 b12 b13))
    else
     cut (
      if b11 = (0 : Int32) then
       ((1 : Int32) + (vo_leans b1.toNatClampNeg))
      else
       (1 : Int32)) (fun (j19 : Int32) =>
     cut ((j7 / (v9.toInt64)) * (j19.toInt64)) (fun (v20 : Int64) =>
     cut (vp_updL b13 v17.toNatClampNeg ((b13 v17.toNatClampNeg) + v20)) (fun (a21 : Nat → Int64) =>
     cut (b12 - v20) (fun (v22 : Int64) =>
     cut (b11 + (1 : Int32)) (fun (v23 : Int32) =>
     (lp_X6_runOver_w_6 v8 ct6 j7 vo_rows b1 vo_leans v9 k v23 v22 a21)))))))
def rs_X6_runOver_w_5  (x4 : Int32) (x5 : Int64) (x6 : Nat → Int64) : Int64 × (Nat → Int64) :=
 (x5, x6)
def lp_X6_runOver_w_5 (vo_glasses : Int32) (ct5 : Int32 → Int64 → (Nat → Int64) → (Int64 × (Nat → Int64))) (vo_takes : Nat → Int64) (vo_rows : Nat → Int32) (vo_leans : Nat → Int32) : Nat → Int32 → Int64 → (Nat → Int64) → (Int64 × (Nat → Int64))
  | 0, _, _, _ => default
  | k + 1, b1, b2, b3 =>
  if vo_glasses ≤ b1 then
   (ct5 b1 b2 b3)
  else
   cut (
    if (lg_cmp (b3 b1.toNatClampNeg) (vo_takes b1.toNatClampNeg)) ≤ (0 : Int32) then
     (0 : Int64)
    else
     ((b3 b1.toNatClampNeg) - (vo_takes b1.toNatClampNeg))) (fun (j7 : Int64) =>
   cut (vo_rows (((6 : Int32) * b1) + (2 : Int32)).toNatClampNeg) (fun (v8 : Int32) =>
   cut (v8 + (vo_leans b1.toNatClampNeg)) (fun (v9 : Int32) =>
   cut (vp_updL b3 b1.toNatClampNeg ((b3 b1.toNatClampNeg) - j7)) (fun (a10 : Nat → Int64) =>
   (lp_X6_runOver_w_6 v8 (rs_X6_runOver_w_6 b2 b1 (fun c0 c1 c2 => lp_X6_runOver_w_5 vo_glasses ct5 vo_takes vo_rows vo_leans k c0 c1 c2)) j7 vo_rows b1 vo_leans v9 5 (0 : Int32) j7 a10)))))
def m_X6_runOver_w (vo_glasses : Int32) (vo_rows : Nat → Int32) (vo_takes : Nat → Int64) (vo_leans : Nat → Int32) (vo_would : Nat → Int64) : Int64 × (Nat → Int64) :=
 (lp_X6_runOver_w_5 vo_glasses rs_X6_runOver_w_5 vo_takes vo_rows vo_leans 11 (0 : Int32) (0 : Int64) vo_would)
set_option maxHeartbeats 4000000 in
set_option maxRecDepth 100000 in
theorem k_X6_runOver_w (l : Launch) (dC : Nat → ClassId) (dI : Nat → Nat → Nat) (cI cJ cC : ClassId) (sz : Nat) (o o_page o_readRows o_rows o_turns o_amounts o_drank o_takes o_leans o_would o_keptAmounts o_keptDrank o_keptTurns : Nat) (vo_pageMany : Int32) (vo_readMany : Int32) (vo_state : Int32) (vo_readMost : Int32) (vo_glasses : Int32) (vo_towersRead : Int32) (vo_poured : Int32) (vo_spilt : Int64) (vo_done : Int32) (vo_seedNow : Int32) (vo_keptTower : Int32) (vo_keptPoured : Int32) (vo_keptSpilt : Int64) (vo_hash : Int64) (vo_rows : Nat → Int32) (vo_takes : Nat → Int64) (vo_leans : Nat → Int32) (vo_would : Nat → Int64) (r : Int64) (qo_would : Nat → Int64) (hT : m_X6_runOver_w vo_glasses vo_rows vo_takes vo_leans vo_would = (r, qo_would)) (hg0 : 0 ≤ vo_glasses.toInt) (hg9 : vo_glasses.toInt ≤ 9) (hrw : zRw vo_rows) (hln : zLn vo_leans) : Met l yX6_runOver wsX6_runOver ({ frames := 0, cells := 0, slots := 0, locals := 0 }) (zPc [.ref o, .ref o_would] (dC, dI) (zTy cI cJ cC) [(o, .inr (6, [.ref o_page, .int vo_pageMany, .int vo_readMany, .int vo_state, .int vo_readMost, .ref o_readRows, .int vo_glasses, .int vo_towersRead, .int vo_poured, .ref o_rows, .ref o_turns, .ref o_amounts, .ref o_drank, .long vo_spilt, .ref o_takes, .ref o_leans, .ref o_would, .int vo_done, .int vo_seedNow, .int vo_keptTower, .int vo_keptPoured, .long vo_keptSpilt, .ref o_keptAmounts, .ref o_keptDrank, .ref o_keptTurns, .long vo_hash])), (o_rows, .inl (cI, 54, .inl vo_rows)), (o_takes, .inl (cJ, 9, .inr (.inl vo_takes))), (o_leans, .inl (cI, 9, .inl vo_leans)), (o_would, .inl (cJ, 9, .inr (.inl vo_would)))] sz) (zQl r (True) (dC, dI) (zTy cI cJ cC) [(o, .inr (6, [.ref o_page, .int vo_pageMany, .int vo_readMany, .int vo_state, .int vo_readMost, .ref o_readRows, .int vo_glasses, .int vo_towersRead, .int vo_poured, .ref o_rows, .ref o_turns, .ref o_amounts, .ref o_drank, .long vo_spilt, .ref o_takes, .ref o_leans, .ref o_would, .int vo_done, .int vo_seedNow, .int vo_keptTower, .int vo_keptPoured, .long vo_keptSpilt, .ref o_keptAmounts, .ref o_keptDrank, .ref o_keptTurns, .long vo_hash])), (o_rows, .inl (cI, 54, .inl vo_rows)), (o_takes, .inl (cJ, 9, .inr (.inl vo_takes))), (o_leans, .inl (cI, 9, .inl vo_leans)), (o_would, .inl (cJ, 9, .inr (.inl qo_would)))] (va_A [(o, .inr (6, [.ref o_page, .int vo_pageMany, .int vo_readMany, .int vo_state, .int vo_readMost, .ref o_readRows, .int vo_glasses, .int vo_towersRead, .int vo_poured, .ref o_rows, .ref o_turns, .ref o_amounts, .ref o_drank, .long vo_spilt, .ref o_takes, .ref o_leans, .ref o_would, .int vo_done, .int vo_seedNow, .int vo_keptTower, .int vo_keptPoured, .long vo_keptSpilt, .ref o_keptAmounts, .ref o_keptDrank, .ref o_keptTurns, .long vo_hash])), (o_rows, .inl (cI, 54, .inl vo_rows)), (o_takes, .inl (cJ, 9, .inr (.inl vo_takes))), (o_leans, .inl (cI, 9, .inl vo_leans)), (o_would, .inl (cJ, 9, .inr (.inl vo_would)))] sz)) 0 0 (va_A [(o, .inr (6, [.ref o_page, .int vo_pageMany, .int vo_readMany, .int vo_state, .int vo_readMost, .ref o_readRows, .int vo_glasses, .int vo_towersRead, .int vo_poured, .ref o_rows, .ref o_turns, .ref o_amounts, .ref o_drank, .long vo_spilt, .ref o_takes, .ref o_leans, .ref o_would, .int vo_done, .int vo_seedNow, .int vo_keptTower, .int vo_keptPoured, .long vo_keptSpilt, .ref o_keptAmounts, .ref o_keptDrank, .ref o_keptTurns, .long vo_hash])), (o_rows, .inl (cI, 54, .inl vo_rows)), (o_takes, .inl (cJ, 9, .inr (.inl vo_takes))), (o_leans, .inl (cI, 9, .inl vo_leans)), (o_would, .inl (cJ, 9, .inr (.inl vo_would)))] sz) := by
  refine Met.ofW (cc := cX6_runOver) (maxL := 15) (ret := (some .long)) (by decide) rfl ?_
  intro p e s m args below meth c s₁ B hml hv
  obtain ⟨rfl, hsz, hP, hK, hD0⟩ := hv
  have hx := B.exec
  have hb := B.bytes
  have hr := B.returns
  have hts := atoms_spec (ws := wsX6_runOver) B.pre
  have hown : s.vm.findClass RX6 = some m.cls := findClass_of_methodNamed B.named
  have hlocks := B.notSynchronized
  subst hsz
  have hD := hD0.self (sz := s.heap.size)
  generalize hAe : va_A [(o, .inr (6, [.ref o_page, .int vo_pageMany, .int vo_readMany, .int vo_state, .int vo_readMost, .ref o_readRows, .int vo_glasses, .int vo_towersRead, .int vo_poured, .ref o_rows, .ref o_turns, .ref o_amounts, .ref o_drank, .long vo_spilt, .ref o_takes, .ref o_leans, .ref o_would, .int vo_done, .int vo_seedNow, .int vo_keptTower, .int vo_keptPoured, .long vo_keptSpilt, .ref o_keptAmounts, .ref o_keptDrank, .ref o_keptTurns, .long vo_hash])), (o_rows, .inl (cI, 54, .inl vo_rows)), (o_takes, .inl (cJ, 9, .inr (.inl vo_takes))), (o_leans, .inl (cI, 9, .inl vo_leans)), (o_would, .inl (cJ, 9, .inr (.inl vo_would)))] s.heap.size = A at hD ⊢
  have hA : ∀ q : Nat, s.heap.size ≤ q → A q := fun q h => by rw [← hAe]; exact Or.inr h
  have hS : va_S A s.heap s.heap [] := va_S.rf
  have hP : va_P (dC, dI) vwCl [(o, .inr (6, [.ref o_page, .int vo_pageMany, .int vo_readMany, .int vo_state, .int vo_readMost, .ref o_readRows, .int vo_glasses, .int vo_towersRead, .int vo_poured, .ref o_rows, .ref o_turns, .ref o_amounts, .ref o_drank, .long vo_spilt, .ref o_takes, .ref o_leans, .ref o_would, .int vo_done, .int vo_seedNow, .int vo_keptTower, .int vo_keptPoured, .long vo_keptSpilt, .ref o_keptAmounts, .ref o_keptDrank, .ref o_keptTurns, .long vo_hash])), (o_rows, .inl (cI, 54, .inl vo_rows)), (o_takes, .inl (cJ, 9, .inr (.inl vo_takes))), (o_leans, .inl (cI, 9, .inl vo_leans)), (o_would, .inl (cJ, 9, .inr (.inl vo_would)))] s.heap := hP
  have hK : va_K (dC, dI) vwCl (zTy cI cJ cC) s := hK
  have hl := lv_entry ([.ref o, .ref o_would]) (n := 15) (Nat.le_of_ble_eq_true rfl)
  rw [lg_entry_eq]
  generalize (lg_sl ([.ref o, .ref o_would]) ++ List.replicate (15 - (lg_sl ([.ref o, .ref o_would])).length) Slot.unset).toArray = ls at hl ⊢
  have hl : lv_has ls 15 [(0, .ref o), (1, .ref o_would)] := hl
  refine zz_start hP hS (fun Q hQ H locs hP hS => ?_)
  have hwX6 : ∀ w ∈ u_ws RX6 TX6 26, w ∈ wsX6_runOver := by decide +kernel
  have hf_16 := (hts (.fieldLink RX6 16 "PouredTopmostModel" "rows" "[I") (by decide +kernel))
  have hf_29 := (hts (.fieldLink RX6 29 "PouredTopmostModel" "takes" "[J") (by decide +kernel))
  have hf_32 := (hts (.fieldLink RX6 32 "PouredTopmostModel" "leans" "[I") (by decide +kernel))
  have hf_97 := (hts (.fieldLink RX6 97 "PouredTopmostModel" "glasses" "I") (by decide +kernel))
  refine lv_lconst (v := (0 : Int64)) hx hb dX6_runOver_0 (by decide) ?_
  refine lv_lstore_n (lv' := [(2, .long (0 : Int64)), (0, .ref o), (1, .ref o_would)]) hx hb dX6_runOver_1 rfl hl (by decide) rfl (fun ls hl => ?_)
  refine lv_iconst (v := (0 : Int32)) hx hb dX6_runOver_2 (by decide) ?_
  refine lv_istore (lv' := [(4, .int (0 : Int32)), (2, .long (0 : Int64)), (0, .ref o), (1, .ref o_would)]) hx hb dX6_runOver_3 hl (by decide) rfl (fun ls hl => ?_)
  have hz_27 : ((0 : Int32)).toInt = 0 := by decide
  refine zz_loop (α := Int32 × Int64 × (Nat → Int64)) 188 (fun k a H locs ls => (0 ≤ a.1.toInt) ∧ (a.1.toInt ≤ vo_glasses.toInt) ∧ (vo_glasses.toInt - a.1.toInt < ((k : Nat) : Int)) ∧ lp_X6_runOver_w_5 vo_glasses rs_X6_runOver_w_5 vo_takes vo_rows vo_leans k a.1 a.2.1 a.2.2 = (r, qo_would) ∧ va_P (dC, dI) vwCl [(o, .inr (6, [.ref o_page, .int vo_pageMany, .int vo_readMany, .int vo_state, .int vo_readMost, .ref o_readRows, .int vo_glasses, .int vo_towersRead, .int vo_poured, .ref o_rows, .ref o_turns, .ref o_amounts, .ref o_drank, .long vo_spilt, .ref o_takes, .ref o_leans, .ref o_would, .int vo_done, .int vo_seedNow, .int vo_keptTower, .int vo_keptPoured, .long vo_keptSpilt, .ref o_keptAmounts, .ref o_keptDrank, .ref o_keptTurns, .long vo_hash])), (o_rows, .inl (cI, 54, .inl vo_rows)), (o_takes, .inl (cJ, 9, .inr (.inl vo_takes))), (o_leans, .inl (cI, 9, .inl vo_leans)), (o_would, .inl (cJ, 9, .inr (.inl a.2.2)))] H ∧ va_D A [(o, .inr (6, [.ref o_page, .int vo_pageMany, .int vo_readMany, .int vo_state, .int vo_readMost, .ref o_readRows, .int vo_glasses, .int vo_towersRead, .int vo_poured, .ref o_rows, .ref o_turns, .ref o_amounts, .ref o_drank, .long vo_spilt, .ref o_takes, .ref o_leans, .ref o_would, .int vo_done, .int vo_seedNow, .int vo_keptTower, .int vo_keptPoured, .long vo_keptSpilt, .ref o_keptAmounts, .ref o_keptDrank, .ref o_keptTurns, .long vo_hash])), (o_rows, .inl (cI, 54, .inl vo_rows)), (o_takes, .inl (cJ, 9, .inr (.inl vo_takes))), (o_leans, .inl (cI, 9, .inl vo_leans)), (o_would, .inl (cJ, 9, .inr (.inl a.2.2)))] ∧ va_S A s.heap H locs ∧ lv_has ls 15 [(4, .int a.1), (2, .long a.2.1), (0, .ref o), (1, .ref o_would)]) (fun a H locs ls => (0 ≤ a.1.toInt) ∧ (a.1.toInt ≤ vo_glasses.toInt) ∧ rs_X6_runOver_w_5 a.1 a.2.1 a.2.2 = (r, qo_would) ∧ va_P (dC, dI) vwCl [(o, .inr (6, [.ref o_page, .int vo_pageMany, .int vo_readMany, .int vo_state, .int vo_readMost, .ref o_readRows, .int vo_glasses, .int vo_towersRead, .int vo_poured, .ref o_rows, .ref o_turns, .ref o_amounts, .ref o_drank, .long vo_spilt, .ref o_takes, .ref o_leans, .ref o_would, .int vo_done, .int vo_seedNow, .int vo_keptTower, .int vo_keptPoured, .long vo_keptSpilt, .ref o_keptAmounts, .ref o_keptDrank, .ref o_keptTurns, .long vo_hash])), (o_rows, .inl (cI, 54, .inl vo_rows)), (o_takes, .inl (cJ, 9, .inr (.inl vo_takes))), (o_leans, .inl (cI, 9, .inl vo_leans)), (o_would, .inl (cJ, 9, .inr (.inl a.2.2)))] H ∧ va_D A [(o, .inr (6, [.ref o_page, .int vo_pageMany, .int vo_readMany, .int vo_state, .int vo_readMost, .ref o_readRows, .int vo_glasses, .int vo_towersRead, .int vo_poured, .ref o_rows, .ref o_turns, .ref o_amounts, .ref o_drank, .long vo_spilt, .ref o_takes, .ref o_leans, .ref o_would, .int vo_done, .int vo_seedNow, .int vo_keptTower, .int vo_keptPoured, .long vo_keptSpilt, .ref o_keptAmounts, .ref o_keptDrank, .ref o_keptTurns, .long vo_hash])), (o_rows, .inl (cI, 54, .inl vo_rows)), (o_takes, .inl (cJ, 9, .inr (.inl vo_takes))), (o_leans, .inl (cI, 9, .inl vo_leans)), (o_would, .inl (cJ, 9, .inr (.inl a.2.2)))] ∧ va_S A s.heap H locs ∧ lv_has ls 15 [(2, .long a.2.1)]) ?_ ?_ ?_ 11 ((0 : Int32), (0 : Int64), vo_would) ⟨(by omega : 0 ≤ (0 : Int32).toInt), (by omega : (0 : Int32).toInt ≤ vo_glasses.toInt), (by omega : vo_glasses.toInt - (0 : Int32).toInt < ((11 : Nat) : Int)), hT, hP.sub [0, 1, 2, 3, 4] rfl, hD.sub [0, 1, 2, 3, 4] rfl rfl, hS, lv_sub hl [0, 1, 2, 3] rfl⟩
  · rintro ⟨x4, x5, x6⟩ H locs ls ⟨i1, j1, hT, hP, hD, hS, hl⟩
    have hP : va_P (dC, dI) vwCl [(o, .inr (6, [.ref o_page, .int vo_pageMany, .int vo_readMany, .int vo_state, .int vo_readMost, .ref o_readRows, .int vo_glasses, .int vo_towersRead, .int vo_poured, .ref o_rows, .ref o_turns, .ref o_amounts, .ref o_drank, .long vo_spilt, .ref o_takes, .ref o_leans, .ref o_would, .int vo_done, .int vo_seedNow, .int vo_keptTower, .int vo_keptPoured, .long vo_keptSpilt, .ref o_keptAmounts, .ref o_keptDrank, .ref o_keptTurns, .long vo_hash])), (o_rows, .inl (cI, 54, .inl vo_rows)), (o_takes, .inl (cJ, 9, .inr (.inl vo_takes))), (o_leans, .inl (cI, 9, .inl vo_leans)), (o_would, .inl (cJ, 9, .inr (.inl x6)))] H := hP
    have hD : va_D A [(o, .inr (6, [.ref o_page, .int vo_pageMany, .int vo_readMany, .int vo_state, .int vo_readMost, .ref o_readRows, .int vo_glasses, .int vo_towersRead, .int vo_poured, .ref o_rows, .ref o_turns, .ref o_amounts, .ref o_drank, .long vo_spilt, .ref o_takes, .ref o_leans, .ref o_would, .int vo_done, .int vo_seedNow, .int vo_keptTower, .int vo_keptPoured, .long vo_keptSpilt, .ref o_keptAmounts, .ref o_keptDrank, .ref o_keptTurns, .long vo_hash])), (o_rows, .inl (cI, 54, .inl vo_rows)), (o_takes, .inl (cJ, 9, .inr (.inl vo_takes))), (o_leans, .inl (cI, 9, .inl vo_leans)), (o_would, .inl (cJ, 9, .inr (.inl x6)))] := hD
    have hl : lv_has ls 15 [(2, .long x5)] := hl
    have hT : rs_X6_runOver_w_5 x4 x5 x6 = (r, qo_would) := hT
    have i1 : 0 ≤ x4.toInt := i1
    have j1 : x4.toInt ≤ vo_glasses.toInt := j1
    refine lv_lload_n hx hb dX6_runOver_188 rfl (lv_at hl 0 rfl) ?_
    have hP9 := hP
    have hD9 := hD
    have hS9 := hS
    have hT : (x5, x6) = (r, qo_would) := hT
    cases hT
    subst hQ
    exact zz_lret hx hb hr [0, 1, 2, 3, 4] hK hP9 hD9 hS9 rfl rfl trivial hlocks dX6_runOver_189
  · rintro ⟨b1, b2, b3⟩ H locs ls ⟨i1, j1, hm, -⟩
    try dsimp only at *
    omega
  · intro k5 hex5 ih5
    rintro ⟨b1, b2, b3⟩ H locs ls ⟨i1, j1, hm5, hT, hP, hD, hS, hl⟩
    have hP : va_P (dC, dI) vwCl [(o, .inr (6, [.ref o_page, .int vo_pageMany, .int vo_readMany, .int vo_state, .int vo_readMost, .ref o_readRows, .int vo_glasses, .int vo_towersRead, .int vo_poured, .ref o_rows, .ref o_turns, .ref o_amounts, .ref o_drank, .long vo_spilt, .ref o_takes, .ref o_leans, .ref o_would, .int vo_done, .int vo_seedNow, .int vo_keptTower, .int vo_keptPoured, .long vo_keptSpilt, .ref o_keptAmounts, .ref o_keptDrank, .ref o_keptTurns, .long vo_hash])), (o_rows, .inl (cI, 54, .inl vo_rows)), (o_takes, .inl (cJ, 9, .inr (.inl vo_takes))), (o_leans, .inl (cI, 9, .inl vo_leans)), (o_would, .inl (cJ, 9, .inr (.inl b3)))] H := hP
    have hD : va_D A [(o, .inr (6, [.ref o_page, .int vo_pageMany, .int vo_readMany, .int vo_state, .int vo_readMost, .ref o_readRows, .int vo_glasses, .int vo_towersRead, .int vo_poured, .ref o_rows, .ref o_turns, .ref o_amounts, .ref o_drank, .long vo_spilt, .ref o_takes, .ref o_leans, .ref o_would, .int vo_done, .int vo_seedNow, .int vo_keptTower, .int vo_keptPoured, .long vo_keptSpilt, .ref o_keptAmounts, .ref o_keptDrank, .ref o_keptTurns, .long vo_hash])), (o_rows, .inl (cI, 54, .inl vo_rows)), (o_takes, .inl (cJ, 9, .inr (.inl vo_takes))), (o_leans, .inl (cI, 9, .inl vo_leans)), (o_would, .inl (cJ, 9, .inr (.inl b3)))] := hD
    have hl : lv_has ls 15 [(4, .int b1), (2, .long b2), (0, .ref o), (1, .ref o_would)] := hl
    have hT : lp_X6_runOver_w_5 vo_glasses rs_X6_runOver_w_5 vo_takes vo_rows vo_leans (k5 + 1) b1 b2 b3 = (r, qo_would) := hT
    have i1 : 0 ≤ b1.toInt := i1
    have j1 : b1.toInt ≤ vo_glasses.toInt := j1
    have hm5 : vo_glasses.toInt - b1.toInt < (((k5 + 1) : Nat) : Int) := hm5
    try simp only [Int.natCast_add, Int.natCast_one, Nat.cast_add, Nat.cast_one] at hm5
    refine lv_iload hx hb dX6_runOver_5 (lv_at hl 0 rfl) ?_
    refine lv_aload_n hx hb dX6_runOver_7 rfl (lv_at hl 2 rfl) ?_
    refine va_get (D := (dC, dI)) (ci := 6) (v := .int vo_glasses) (C := RX6) (T := TX6) (N := 26) hx hb hts hwX6 hown hK hP 0 rfl rfl 6 (by decide) hf_97 (fun _ h9 => h9) rfl dX6_runOver_8 ?_
    refine lv_icmp_ge (tgt := 188) hx hb dX6_runOver_11 (by decide) (fun c_1 => ?_) (fun c_1 => ?_)
    · replace hT := cutT c_1 hT
      have g_28 := zleT (rfl : (vo_glasses).toInt = _) (rfl : (b1).toInt = _) c_1
      exact hex5 (b1, b2, b3) _ _ _ ⟨(by omega : 0 ≤ b1.toInt), (by omega : b1.toInt ≤ vo_glasses.toInt), hT, hP.sub [0, 1, 2, 3, 4] rfl, hD.sub [0, 1, 2, 3, 4] rfl rfl, hS, lv_sub hl [1] rfl⟩
    · replace hT := cutF c_1 hT
      have g_29 := zleF (rfl : (vo_glasses).toInt = _) (rfl : (b1).toInt = _) c_1
      refine lv_aload_n hx hb dX6_runOver_14 rfl (lv_at hl 3 rfl) ?_
      refine lv_iload hx hb dX6_runOver_15 (lv_at hl 0 rfl) ?_
      have h_2 : vp_in b1 9 := zin (by omega) (by omega)
      refine va_lald hx hb hK hP 4 1 rfl rfl h_2 dX6_runOver_17 ?_
      refine lv_aload_n hx hb dX6_runOver_18 rfl (lv_at hl 2 rfl) ?_
      refine va_get (D := (dC, dI)) (ci := 6) (v := .ref o_takes) (C := RX6) (T := TX6) (N := 26) hx hb hts hwX6 hown hK hP 0 rfl rfl 14 (by decide) hf_29 (fun _ h9 => h9) rfl dX6_runOver_19 ?_
      refine lv_iload hx hb dX6_runOver_22 (lv_at hl 0 rfl) ?_
      have h_3 : vp_in b1 9 := zin (by omega) (by omega)
      refine va_lald hx hb hK hP 2 1 rfl rfl h_3 dX6_runOver_24 ?_
      refine W.lcmp hx hb dX6_runOver_25 ?_
      refine zz_join1 hT 45 (fun v => [.long v]) (fun v H locs ls => va_P (dC, dI) vwCl [(o, .inr (6, [.ref o_page, .int vo_pageMany, .int vo_readMany, .int vo_state, .int vo_readMost, .ref o_readRows, .int vo_glasses, .int vo_towersRead, .int vo_poured, .ref o_rows, .ref o_turns, .ref o_amounts, .ref o_drank, .long vo_spilt, .ref o_takes, .ref o_leans, .ref o_would, .int vo_done, .int vo_seedNow, .int vo_keptTower, .int vo_keptPoured, .long vo_keptSpilt, .ref o_keptAmounts, .ref o_keptDrank, .ref o_keptTurns, .long vo_hash])), (o_rows, .inl (cI, 54, .inl vo_rows)), (o_takes, .inl (cJ, 9, .inr (.inl vo_takes))), (o_leans, .inl (cI, 9, .inl vo_leans)), (o_would, .inl (cJ, 9, .inr (.inl b3)))] H ∧ va_D A [(o, .inr (6, [.ref o_page, .int vo_pageMany, .int vo_readMany, .int vo_state, .int vo_readMost, .ref o_readRows, .int vo_glasses, .int vo_towersRead, .int vo_poured, .ref o_rows, .ref o_turns, .ref o_amounts, .ref o_drank, .long vo_spilt, .ref o_takes, .ref o_leans, .ref o_would, .int vo_done, .int vo_seedNow, .int vo_keptTower, .int vo_keptPoured, .long vo_keptSpilt, .ref o_keptAmounts, .ref o_keptDrank, .ref o_keptTurns, .long vo_hash])), (o_rows, .inl (cI, 54, .inl vo_rows)), (o_takes, .inl (cJ, 9, .inr (.inl vo_takes))), (o_leans, .inl (cI, 9, .inl vo_leans)), (o_would, .inl (cJ, 9, .inr (.inl b3)))] ∧ va_S A s.heap H locs ∧ lv_has ls 15 [(0, .ref o), (1, .ref o_would), (2, .long b2), (4, .int b1)]) ?_ ?_
      · rintro j7 ej_30 H locs ls ⟨hP, hD, hS, hl⟩
        replace hT := cut_n ej_30 hT
        have hP : va_P (dC, dI) vwCl [(o, .inr (6, [.ref o_page, .int vo_pageMany, .int vo_readMany, .int vo_state, .int vo_readMost, .ref o_readRows, .int vo_glasses, .int vo_towersRead, .int vo_poured, .ref o_rows, .ref o_turns, .ref o_amounts, .ref o_drank, .long vo_spilt, .ref o_takes, .ref o_leans, .ref o_would, .int vo_done, .int vo_seedNow, .int vo_keptTower, .int vo_keptPoured, .long vo_keptSpilt, .ref o_keptAmounts, .ref o_keptDrank, .ref o_keptTurns, .long vo_hash])), (o_rows, .inl (cI, 54, .inl vo_rows)), (o_takes, .inl (cJ, 9, .inr (.inl vo_takes))), (o_leans, .inl (cI, 9, .inl vo_leans)), (o_would, .inl (cJ, 9, .inr (.inl b3)))] H := hP
        have hD : va_D A [(o, .inr (6, [.ref o_page, .int vo_pageMany, .int vo_readMany, .int vo_state, .int vo_readMost, .ref o_readRows, .int vo_glasses, .int vo_towersRead, .int vo_poured, .ref o_rows, .ref o_turns, .ref o_amounts, .ref o_drank, .long vo_spilt, .ref o_takes, .ref o_leans, .ref o_would, .int vo_done, .int vo_seedNow, .int vo_keptTower, .int vo_keptPoured, .long vo_keptSpilt, .ref o_keptAmounts, .ref o_keptDrank, .ref o_keptTurns, .long vo_hash])), (o_rows, .inl (cI, 54, .inl vo_rows)), (o_takes, .inl (cJ, 9, .inr (.inl vo_takes))), (o_leans, .inl (cI, 9, .inl vo_leans)), (o_would, .inl (cJ, 9, .inr (.inl b3)))] := hD
        have hl : lv_has ls 15 [(0, .ref o), (1, .ref o_would), (2, .long b2), (4, .int b1)] := hl
        refine lv_lstore (lv' := [(5, .long j7), (0, .ref o), (1, .ref o_would), (2, .long b2), (4, .int b1)]) hx hb dX6_runOver_45 hl (by decide) rfl (fun ls hl => ?_)
        refine lv_aload_n hx hb dX6_runOver_47 rfl (lv_at hl 1 rfl) ?_
        refine va_get (D := (dC, dI)) (ci := 6) (v := .ref o_rows) (C := RX6) (T := TX6) (N := 26) hx hb hts hwX6 hown hK hP 0 rfl rfl 9 (by decide) hf_16 (fun _ h9 => h9) rfl dX6_runOver_48 ?_
        refine lv_bipush (v := (6 : Int32)) hx hb dX6_runOver_51 (by decide) ?_
        refine lv_iload hx hb dX6_runOver_53 (lv_at hl 4 rfl) ?_
        refine lv_imul hx hb dX6_runOver_55 ?_
        refine lv_iconst (v := (2 : Int32)) hx hb dX6_runOver_56 (by decide) ?_
        refine lv_iadd hx hb dX6_runOver_57 ?_
        have e_8 := zmulE (v := ((6 : Int32) * b1)) (by decide : ((6 : Int32)).toInt = 6) (rfl : (b1).toInt = _) rfl (by omega) (by omega)
        have e_9 := zaddE (v := (((6 : Int32) * b1) + (2 : Int32))) e_8 (by decide : ((2 : Int32)).toInt = 2) rfl (by omega) (by omega)
        have h_7 : vp_in (((6 : Int32) * b1) + (2 : Int32)) 54 := zin (by omega) (by omega)
        refine va_iald hx hb hK hP 1 0 rfl rfl h_7 dX6_runOver_58 ?_
        have hsh := zRw_cI hrw (c := (((6 : Int32) * b1) + (2 : Int32))) (by omega) (by omega)
        refine lv_topi (fun v8 ev8 => ?_)
        replace hT := cut_n ev8.symm hT
        have fv8 : (v8).toInt = (vo_rows (((6 : Int32) * b1) + (2 : Int32)).toNatClampNeg).toInt := by rw [ev8]
        refine lv_istore (lv' := [(7, .int v8), (5, .long j7), (0, .ref o), (1, .ref o_would), (2, .long b2), (4, .int b1)]) hx hb dX6_runOver_59 hl (by decide) rfl (fun ls hl => ?_)
        refine lv_iload hx hb dX6_runOver_61 (lv_at hl 0 rfl) ?_
        refine lv_aload_n hx hb dX6_runOver_63 rfl (lv_at hl 2 rfl) ?_
        refine va_get (D := (dC, dI)) (ci := 6) (v := .ref o_leans) (C := RX6) (T := TX6) (N := 26) hx hb hts hwX6 hown hK hP 0 rfl rfl 15 (by decide) hf_32 (fun _ h9 => h9) rfl dX6_runOver_64 ?_
        refine lv_iload hx hb dX6_runOver_67 (lv_at hl 5 rfl) ?_
        have h_10 : vp_in b1 9 := zin (by omega) (by omega)
        refine va_iald hx hb hK hP 3 0 rfl rfl h_10 dX6_runOver_69 ?_
        have g_11 := hln b1.toNatClampNeg
        refine lv_iadd hx hb dX6_runOver_70 ?_
        refine lv_topi (fun v9 ev9 => ?_)
        replace hT := cut_n ev9.symm hT
        try have fv9 := zaddE (rfl : (v8).toInt = _) (rfl : ((vo_leans b1.toNatClampNeg)).toInt = _) ev9.symm (by omega) (by omega)
        refine lv_istore (lv' := [(8, .int v9), (7, .int v8), (5, .long j7), (0, .ref o), (1, .ref o_would), (2, .long b2), (4, .int b1)]) hx hb dX6_runOver_71 hl (by decide) rfl (fun ls hl => ?_)
        refine lv_aload_n hx hb dX6_runOver_73 rfl (lv_at hl 4 rfl) ?_
        refine lv_iload hx hb dX6_runOver_74 (lv_at hl 6 rfl) ?_
        refine lv_dup2_11 hx hb dX6_runOver_76 rfl rfl ?_
        have h_12 : vp_in b1 9 := zin (by omega) (by omega)
        refine va_lald hx hb hK hP 4 1 rfl rfl h_12 dX6_runOver_77 ?_
        refine lv_lload hx hb dX6_runOver_78 (lv_at hl 2 rfl) ?_
        refine lv_lsub hx hb dX6_runOver_80 ?_
        have h_13 : vp_in b1 9 := zin (by omega) (by omega)
        refine va_last hx hb hK hP hD hS 4 1 rfl rfl h_13 dX6_runOver_81 (fun H locs hP hD hS => ?_)
        obtain ⟨a10, ea10⟩ : ∃ z, (vp_updL b3 b1.toNatClampNeg ((b3 b1.toNatClampNeg) - j7)) = z := ⟨_, rfl⟩
        replace hT := cut_n ea10 hT
        have hP : va_P (dC, dI) vwCl [(o, .inr (6, [.ref o_page, .int vo_pageMany, .int vo_readMany, .int vo_state, .int vo_readMost, .ref o_readRows, .int vo_glasses, .int vo_towersRead, .int vo_poured, .ref o_rows, .ref o_turns, .ref o_amounts, .ref o_drank, .long vo_spilt, .ref o_takes, .ref o_leans, .ref o_would, .int vo_done, .int vo_seedNow, .int vo_keptTower, .int vo_keptPoured, .long vo_keptSpilt, .ref o_keptAmounts, .ref o_keptDrank, .ref o_keptTurns, .long vo_hash])), (o_rows, .inl (cI, 54, .inl vo_rows)), (o_takes, .inl (cJ, 9, .inr (.inl vo_takes))), (o_leans, .inl (cI, 9, .inl vo_leans)), (o_would, .inl (cJ, 9, .inr (.inl a10)))] H := by rw [← ea10]; exact hP
        have hD : va_D A [(o, .inr (6, [.ref o_page, .int vo_pageMany, .int vo_readMany, .int vo_state, .int vo_readMost, .ref o_readRows, .int vo_glasses, .int vo_towersRead, .int vo_poured, .ref o_rows, .ref o_turns, .ref o_amounts, .ref o_drank, .long vo_spilt, .ref o_takes, .ref o_leans, .ref o_would, .int vo_done, .int vo_seedNow, .int vo_keptTower, .int vo_keptPoured, .long vo_keptSpilt, .ref o_keptAmounts, .ref o_keptDrank, .ref o_keptTurns, .long vo_hash])), (o_rows, .inl (cI, 54, .inl vo_rows)), (o_takes, .inl (cJ, 9, .inr (.inl vo_takes))), (o_leans, .inl (cI, 9, .inl vo_leans)), (o_would, .inl (cJ, 9, .inr (.inl a10)))] := by rw [← ea10]; exact hD
        refine lv_lload hx hb dX6_runOver_82 (lv_at hl 2 rfl) ?_
        refine lv_lstore (lv' := [(9, .long j7), (8, .int v9), (7, .int v8), (5, .long j7), (0, .ref o), (1, .ref o_would), (2, .long b2), (4, .int b1)]) hx hb dX6_runOver_84 hl (by decide) rfl (fun ls hl => ?_)
        refine lv_iconst (v := (0 : Int32)) hx hb dX6_runOver_86 (by decide) ?_
        refine lv_istore (lv' := [(11, .int (0 : Int32)), (9, .long j7), (8, .int v9), (7, .int v8), (5, .long j7), (0, .ref o), (1, .ref o_would), (2, .long b2), (4, .int b1)]) hx hb dX6_runOver_87 hl (by decide) rfl (fun ls hl => ?_)
        have hz_31 : ((0 : Int32)).toInt = 0 := by decide
        refine zz_loop (α := Int32 × Int64 × (Nat → Int64)) 177 (fun k a H locs ls => (0 ≤ a.1.toInt) ∧ (a.1.toInt ≤ 3) ∧ (3 - a.1.toInt < ((k : Nat) : Int)) ∧ lp_X6_runOver_w_6 v8 (rs_X6_runOver_w_6 b2 b1 (fun c0 c1 c2 => lp_X6_runOver_w_5 vo_glasses rs_X6_runOver_w_5 vo_takes vo_rows vo_leans k5 c0 c1 c2)) j7 vo_rows b1 vo_leans v9 k a.1 a.2.1 a.2.2 = (r, qo_would) ∧ va_P (dC, dI) vwCl [(o, .inr (6, [.ref o_page, .int vo_pageMany, .int vo_readMany, .int vo_state, .int vo_readMost, .ref o_readRows, .int vo_glasses, .int vo_towersRead, .int vo_poured, .ref o_rows, .ref o_turns, .ref o_amounts, .ref o_drank, .long vo_spilt, .ref o_takes, .ref o_leans, .ref o_would, .int vo_done, .int vo_seedNow, .int vo_keptTower, .int vo_keptPoured, .long vo_keptSpilt, .ref o_keptAmounts, .ref o_keptDrank, .ref o_keptTurns, .long vo_hash])), (o_rows, .inl (cI, 54, .inl vo_rows)), (o_takes, .inl (cJ, 9, .inr (.inl vo_takes))), (o_leans, .inl (cI, 9, .inl vo_leans)), (o_would, .inl (cJ, 9, .inr (.inl a.2.2)))] H ∧ va_D A [(o, .inr (6, [.ref o_page, .int vo_pageMany, .int vo_readMany, .int vo_state, .int vo_readMost, .ref o_readRows, .int vo_glasses, .int vo_towersRead, .int vo_poured, .ref o_rows, .ref o_turns, .ref o_amounts, .ref o_drank, .long vo_spilt, .ref o_takes, .ref o_leans, .ref o_would, .int vo_done, .int vo_seedNow, .int vo_keptTower, .int vo_keptPoured, .long vo_keptSpilt, .ref o_keptAmounts, .ref o_keptDrank, .ref o_keptTurns, .long vo_hash])), (o_rows, .inl (cI, 54, .inl vo_rows)), (o_takes, .inl (cJ, 9, .inr (.inl vo_takes))), (o_leans, .inl (cI, 9, .inl vo_leans)), (o_would, .inl (cJ, 9, .inr (.inl a.2.2)))] ∧ va_S A s.heap H locs ∧ lv_has ls 15 [(11, .int a.1), (9, .long a.2.1), (8, .int v9), (7, .int v8), (5, .long j7), (0, .ref o), (1, .ref o_would), (2, .long b2), (4, .int b1)]) (fun a H locs ls => (0 ≤ a.1.toInt) ∧ (a.1.toInt ≤ 3) ∧ (rs_X6_runOver_w_6 b2 b1 (fun c0 c1 c2 => lp_X6_runOver_w_5 vo_glasses rs_X6_runOver_w_5 vo_takes vo_rows vo_leans k5 c0 c1 c2)) a.1 a.2.1 a.2.2 = (r, qo_would) ∧ va_P (dC, dI) vwCl [(o, .inr (6, [.ref o_page, .int vo_pageMany, .int vo_readMany, .int vo_state, .int vo_readMost, .ref o_readRows, .int vo_glasses, .int vo_towersRead, .int vo_poured, .ref o_rows, .ref o_turns, .ref o_amounts, .ref o_drank, .long vo_spilt, .ref o_takes, .ref o_leans, .ref o_would, .int vo_done, .int vo_seedNow, .int vo_keptTower, .int vo_keptPoured, .long vo_keptSpilt, .ref o_keptAmounts, .ref o_keptDrank, .ref o_keptTurns, .long vo_hash])), (o_rows, .inl (cI, 54, .inl vo_rows)), (o_takes, .inl (cJ, 9, .inr (.inl vo_takes))), (o_leans, .inl (cI, 9, .inl vo_leans)), (o_would, .inl (cJ, 9, .inr (.inl a.2.2)))] H ∧ va_D A [(o, .inr (6, [.ref o_page, .int vo_pageMany, .int vo_readMany, .int vo_state, .int vo_readMost, .ref o_readRows, .int vo_glasses, .int vo_towersRead, .int vo_poured, .ref o_rows, .ref o_turns, .ref o_amounts, .ref o_drank, .long vo_spilt, .ref o_takes, .ref o_leans, .ref o_would, .int vo_done, .int vo_seedNow, .int vo_keptTower, .int vo_keptPoured, .long vo_keptSpilt, .ref o_keptAmounts, .ref o_keptDrank, .ref o_keptTurns, .long vo_hash])), (o_rows, .inl (cI, 54, .inl vo_rows)), (o_takes, .inl (cJ, 9, .inr (.inl vo_takes))), (o_leans, .inl (cI, 9, .inl vo_leans)), (o_would, .inl (cJ, 9, .inr (.inl a.2.2)))] ∧ va_S A s.heap H locs ∧ lv_has ls 15 [(9, .long a.2.1), (0, .ref o), (1, .ref o_would), (2, .long b2), (4, .int b1)]) ?_ ?_ ?_ 5 ((0 : Int32), j7, a10) ⟨(by omega : 0 ≤ (0 : Int32).toInt), (by omega : (0 : Int32).toInt ≤ 3), (by omega : 3 - (0 : Int32).toInt < ((5 : Nat) : Int)), hT, hP.sub [0, 1, 2, 3, 4] rfl, hD.sub [0, 1, 2, 3, 4] rfl rfl, hS, lv_sub hl [0, 1, 2, 3, 4, 5, 6, 7, 8] rfl⟩
        · rintro ⟨x14, x15, x16⟩ H locs ls ⟨i2, j2, hT, hP, hD, hS, hl⟩
          have hP : va_P (dC, dI) vwCl [(o, .inr (6, [.ref o_page, .int vo_pageMany, .int vo_readMany, .int vo_state, .int vo_readMost, .ref o_readRows, .int vo_glasses, .int vo_towersRead, .int vo_poured, .ref o_rows, .ref o_turns, .ref o_amounts, .ref o_drank, .long vo_spilt, .ref o_takes, .ref o_leans, .ref o_would, .int vo_done, .int vo_seedNow, .int vo_keptTower, .int vo_keptPoured, .long vo_keptSpilt, .ref o_keptAmounts, .ref o_keptDrank, .ref o_keptTurns, .long vo_hash])), (o_rows, .inl (cI, 54, .inl vo_rows)), (o_takes, .inl (cJ, 9, .inr (.inl vo_takes))), (o_leans, .inl (cI, 9, .inl vo_leans)), (o_would, .inl (cJ, 9, .inr (.inl x16)))] H := hP
          have hD : va_D A [(o, .inr (6, [.ref o_page, .int vo_pageMany, .int vo_readMany, .int vo_state, .int vo_readMost, .ref o_readRows, .int vo_glasses, .int vo_towersRead, .int vo_poured, .ref o_rows, .ref o_turns, .ref o_amounts, .ref o_drank, .long vo_spilt, .ref o_takes, .ref o_leans, .ref o_would, .int vo_done, .int vo_seedNow, .int vo_keptTower, .int vo_keptPoured, .long vo_keptSpilt, .ref o_keptAmounts, .ref o_keptDrank, .ref o_keptTurns, .long vo_hash])), (o_rows, .inl (cI, 54, .inl vo_rows)), (o_takes, .inl (cJ, 9, .inr (.inl vo_takes))), (o_leans, .inl (cI, 9, .inl vo_leans)), (o_would, .inl (cJ, 9, .inr (.inl x16)))] := hD
          have hl : lv_has ls 15 [(9, .long x15), (0, .ref o), (1, .ref o_would), (2, .long b2), (4, .int b1)] := hl
          have hT : (rs_X6_runOver_w_6 b2 b1 (fun c0 c1 c2 => lp_X6_runOver_w_5 vo_glasses rs_X6_runOver_w_5 vo_takes vo_rows vo_leans k5 c0 c1 c2)) x14 x15 x16 = (r, qo_would) := hT
          have i2 : 0 ≤ x14.toInt := i2
          have j2 : x14.toInt ≤ 3 := j2
          refine lv_lload_n hx hb dX6_runOver_177 rfl (lv_at hl 3 rfl) ?_
          refine lv_lload hx hb dX6_runOver_178 (lv_at hl 0 rfl) ?_
          refine lv_ladd hx hb dX6_runOver_180 ?_
          refine lv_topl (fun v24 ev24 => ?_)
          replace hT := cut_n ev24.symm hT
          refine lv_lstore_n (lv' := [(2, .long v24), (9, .long x15), (0, .ref o), (1, .ref o_would), (4, .int b1)]) hx hb dX6_runOver_181 rfl hl (by decide) rfl (fun ls hl => ?_)
          obtain ⟨v25, ev25⟩ : ∃ y : Int32, (b1 + (1 : Int32)) = y := ⟨_, rfl⟩
          replace hT := cut_n ev25 hT
          try have fv25 := zaddE (rfl : (b1).toInt = _) (by decide : ((1 : Int32)).toInt = 1) ev25 (by omega) (by omega)
          refine lv_iinc (v := v25) (lv' := [(4, .int v25), (2, .long v24), (9, .long x15), (0, .ref o), (1, .ref o_would)]) hx hb dX6_runOver_182 hl (k := 4) rfl (by rw [← ev25]; rfl) (by decide) rfl (fun ls hl => ?_)
          refine lv_goto (tgt := 5) hx hb dX6_runOver_185 (by decide) ?_
          exact ih5 (v25, v24, x16) _ _ _ ⟨(by omega : 0 ≤ v25.toInt), (by omega : v25.toInt ≤ vo_glasses.toInt), (by omega : vo_glasses.toInt - v25.toInt < ((k5 : Nat) : Int)), hT, hP.sub [0, 1, 2, 3, 4] rfl, hD.sub [0, 1, 2, 3, 4] rfl rfl, hS, lv_sub hl [0, 1, 3, 4] rfl⟩
        · rintro ⟨b11, b12, b13⟩ H locs ls ⟨i2, j2, hm, -⟩
          try dsimp only at *
          omega
        · intro k6 hex6 ih6
          rintro ⟨b11, b12, b13⟩ H locs ls ⟨i2, j2, hm6, hT, hP, hD, hS, hl⟩
          have hP : va_P (dC, dI) vwCl [(o, .inr (6, [.ref o_page, .int vo_pageMany, .int vo_readMany, .int vo_state, .int vo_readMost, .ref o_readRows, .int vo_glasses, .int vo_towersRead, .int vo_poured, .ref o_rows, .ref o_turns, .ref o_amounts, .ref o_drank, .long vo_spilt, .ref o_takes, .ref o_leans, .ref o_would, .int vo_done, .int vo_seedNow, .int vo_keptTower, .int vo_keptPoured, .long vo_keptSpilt, .ref o_keptAmounts, .ref o_keptDrank, .ref o_keptTurns, .long vo_hash])), (o_rows, .inl (cI, 54, .inl vo_rows)), (o_takes, .inl (cJ, 9, .inr (.inl vo_takes))), (o_leans, .inl (cI, 9, .inl vo_leans)), (o_would, .inl (cJ, 9, .inr (.inl b13)))] H := hP
          have hD : va_D A [(o, .inr (6, [.ref o_page, .int vo_pageMany, .int vo_readMany, .int vo_state, .int vo_readMost, .ref o_readRows, .int vo_glasses, .int vo_towersRead, .int vo_poured, .ref o_rows, .ref o_turns, .ref o_amounts, .ref o_drank, .long vo_spilt, .ref o_takes, .ref o_leans, .ref o_would, .int vo_done, .int vo_seedNow, .int vo_keptTower, .int vo_keptPoured, .long vo_keptSpilt, .ref o_keptAmounts, .ref o_keptDrank, .ref o_keptTurns, .long vo_hash])), (o_rows, .inl (cI, 54, .inl vo_rows)), (o_takes, .inl (cJ, 9, .inr (.inl vo_takes))), (o_leans, .inl (cI, 9, .inl vo_leans)), (o_would, .inl (cJ, 9, .inr (.inl b13)))] := hD
          have hl : lv_has ls 15 [(11, .int b11), (9, .long b12), (8, .int v9), (7, .int v8), (5, .long j7), (0, .ref o), (1, .ref o_would), (2, .long b2), (4, .int b1)] := hl
          have hT : lp_X6_runOver_w_6 v8 (rs_X6_runOver_w_6 b2 b1 (fun c0 c1 c2 => lp_X6_runOver_w_5 vo_glasses rs_X6_runOver_w_5 vo_takes vo_rows vo_leans k5 c0 c1 c2)) j7 vo_rows b1 vo_leans v9 (k6 + 1) b11 b12 b13 = (r, qo_would) := hT
          have i2 : 0 ≤ b11.toInt := i2
          have j2 : b11.toInt ≤ 3 := j2
          have hm6 : 3 - b11.toInt < (((k6 + 1) : Nat) : Int) := hm6
          try simp only [Int.natCast_add, Int.natCast_one, Nat.cast_add, Nat.cast_one] at hm6
          refine lv_iload hx hb dX6_runOver_89 (lv_at hl 0 rfl) ?_
          refine lv_iload hx hb dX6_runOver_91 (lv_at hl 3 rfl) ?_
          refine lv_icmp_ge (tgt := 177) hx hb dX6_runOver_93 (by decide) (fun c_14 => ?_) (fun c_14 => ?_)
          · replace hT := cutT c_14 hT
            have g_32 := zleT (rfl : (v8).toInt = _) (rfl : (b11).toInt = _) c_14
            exact hex6 (b11, b12, b13) _ _ _ ⟨(by omega : 0 ≤ b11.toInt), (by omega : b11.toInt ≤ 3), hT, hP.sub [0, 1, 2, 3, 4] rfl, hD.sub [0, 1, 2, 3, 4] rfl rfl, hS, lv_sub hl [1, 5, 6, 7, 8] rfl⟩
          · replace hT := cutF c_14 hT
            have g_33 := zleF (rfl : (v8).toInt = _) (rfl : (b11).toInt = _) c_14
            refine lv_lload hx hb dX6_runOver_96 (lv_at hl 4 rfl) ?_
            refine lv_lconst (v := (0 : Int64)) hx hb dX6_runOver_98 (by decide) ?_
            refine W.lcmp hx hb dX6_runOver_99 ?_
            have hz_34 : ((0 : Int64)).toInt = 0 := by decide
            refine lv_if_le (tgt := 177) hx hb dX6_runOver_100 (by decide) (fun c_15 => ?_) (fun c_15 => ?_)
            · replace hT := cutT c_15 hT
              have g_35 := zlc_le.mp c_15
              exact hex6 (b11, b12, b13) _ _ _ ⟨(by omega : 0 ≤ b11.toInt), (by omega : b11.toInt ≤ 3), hT, hP.sub [0, 1, 2, 3, 4] rfl, hD.sub [0, 1, 2, 3, 4] rfl rfl, hS, lv_sub hl [1, 5, 6, 7, 8] rfl⟩
            · replace hT := cutF c_15 hT
              have g_36 := mt zlc_le.mpr c_15
              refine lv_aload_n hx hb dX6_runOver_103 rfl (lv_at hl 5 rfl) ?_
              refine va_get (D := (dC, dI)) (ci := 6) (v := .ref o_rows) (C := RX6) (T := TX6) (N := 26) hx hb hts hwX6 hown hK hP 0 rfl rfl 9 (by decide) hf_16 (fun _ h9 => h9) rfl dX6_runOver_104 ?_
              refine lv_bipush (v := (6 : Int32)) hx hb dX6_runOver_107 (by decide) ?_
              refine lv_iload hx hb dX6_runOver_109 (lv_at hl 8 rfl) ?_
              refine lv_imul hx hb dX6_runOver_111 ?_
              refine lv_iconst (v := (3 : Int32)) hx hb dX6_runOver_112 (by decide) ?_
              refine lv_iadd hx hb dX6_runOver_113 ?_
              refine lv_iload hx hb dX6_runOver_114 (lv_at hl 0 rfl) ?_
              refine lv_iadd hx hb dX6_runOver_116 ?_
              have e_17 := zmulE (v := ((6 : Int32) * b1)) (by decide : ((6 : Int32)).toInt = 6) (rfl : (b1).toInt = _) rfl (by omega) (by omega)
              have e_18 := zaddE (v := (((6 : Int32) * b1) + (3 : Int32))) e_17 (by decide : ((3 : Int32)).toInt = 3) rfl (by omega) (by omega)
              have e_19 := zaddE (v := ((((6 : Int32) * b1) + (3 : Int32)) + b11)) e_18 (rfl : (b11).toInt = _) rfl (by omega) (by omega)
              have h_16 : vp_in ((((6 : Int32) * b1) + (3 : Int32)) + b11) 54 := zin (by omega) (by omega)
              refine va_iald hx hb hK hP 1 0 rfl rfl h_16 dX6_runOver_117 ?_
              have hto := zRw_sI hrw (i := ((((6 : Int32) * b1) + (3 : Int32)) + b11)) (k := b11) (c := (((6 : Int32) * b1) + (2 : Int32))) (by omega) (by omega) (by omega) (by omega) (by omega)
              refine lv_topi (fun v17 ev17 => ?_)
              replace hT := cut_n ev17.symm hT
              have fv17 : (v17).toInt = (vo_rows ((((6 : Int32) * b1) + (3 : Int32)) + b11).toNatClampNeg).toInt := by rw [ev17]
              refine lv_istore (lv' := [(12, .int v17), (11, .int b11), (9, .long b12), (8, .int v9), (7, .int v8), (5, .long j7), (0, .ref o), (1, .ref o_would), (2, .long b2), (4, .int b1)]) hx hb dX6_runOver_118 hl (by decide) rfl (fun ls hl => ?_)
              refine lv_iload hx hb dX6_runOver_120 (lv_at hl 0 rfl) ?_
              refine lv_bipush (v := (9 : Int32)) hx hb dX6_runOver_122 (by decide) ?_
              refine lv_icmp_ge (tgt := 171) hx hb dX6_runOver_124 (by decide) (fun c_20 => ?_) (fun c_20 => ?_)
              · replace hT := cutT c_20 hT
                have g_37 := zleT (by decide : ((9 : Int32)).toInt = 9) (rfl : (v17).toInt = _) c_20
                obtain ⟨v18, ev18⟩ : ∃ y : Int32, (b11 + (1 : Int32)) = y := ⟨_, rfl⟩
                replace hT := cut_n ev18 hT
                try have fv18 := zaddE (rfl : (b11).toInt = _) (by decide : ((1 : Int32)).toInt = 1) ev18 (by omega) (by omega)
                refine lv_iinc (v := v18) (lv' := [(11, .int v18), (12, .int v17), (9, .long b12), (8, .int v9), (7, .int v8), (5, .long j7), (0, .ref o), (1, .ref o_would), (2, .long b2), (4, .int b1)]) hx hb dX6_runOver_171 hl (k := 1) rfl (by rw [← ev18]; rfl) (by decide) rfl (fun ls hl => ?_)
                refine lv_goto (tgt := 89) hx hb dX6_runOver_174 (by decide) ?_
                exact ih6 (v18, b12, b13) _ _ _ ⟨(by omega : 0 ≤ v18.toInt), (by omega : v18.toInt ≤ 3), (by omega : 3 - v18.toInt < ((k6 : Nat) : Int)), hT, hP.sub [0, 1, 2, 3, 4] rfl, hD.sub [0, 1, 2, 3, 4] rfl rfl, hS, lv_sub hl [0, 2, 3, 4, 5, 6, 7, 8, 9] rfl⟩
              · replace hT := cutF c_20 hT
                have g_38 := zleF (by decide : ((9 : Int32)).toInt = 9) (rfl : (v17).toInt = _) c_20
                refine lv_lload hx hb dX6_runOver_127 (lv_at hl 5 rfl) ?_
                refine lv_iload hx hb dX6_runOver_129 (lv_at hl 3 rfl) ?_
                refine lv_i2l (v := (v9.toInt64)) hx hb dX6_runOver_131 rfl ?_
                have h_21 : ¬ (v9.toInt64) = 0 := z64neI (by omega)
                refine lv_ldiv hx hb dX6_runOver_132 h_21 ?_
                refine lv_iload hx hb dX6_runOver_133 (lv_at hl 1 rfl) ?_
                refine zz_join1 hT 151 (fun v => [.int v, .long (j7 / (v9.toInt64))]) (fun v H locs ls => va_P (dC, dI) vwCl [(o, .inr (6, [.ref o_page, .int vo_pageMany, .int vo_readMany, .int vo_state, .int vo_readMost, .ref o_readRows, .int vo_glasses, .int vo_towersRead, .int vo_poured, .ref o_rows, .ref o_turns, .ref o_amounts, .ref o_drank, .long vo_spilt, .ref o_takes, .ref o_leans, .ref o_would, .int vo_done, .int vo_seedNow, .int vo_keptTower, .int vo_keptPoured, .long vo_keptSpilt, .ref o_keptAmounts, .ref o_keptDrank, .ref o_keptTurns, .long vo_hash])), (o_rows, .inl (cI, 54, .inl vo_rows)), (o_takes, .inl (cJ, 9, .inr (.inl vo_takes))), (o_leans, .inl (cI, 9, .inl vo_leans)), (o_would, .inl (cJ, 9, .inr (.inl b13)))] H ∧ va_D A [(o, .inr (6, [.ref o_page, .int vo_pageMany, .int vo_readMany, .int vo_state, .int vo_readMost, .ref o_readRows, .int vo_glasses, .int vo_towersRead, .int vo_poured, .ref o_rows, .ref o_turns, .ref o_amounts, .ref o_drank, .long vo_spilt, .ref o_takes, .ref o_leans, .ref o_would, .int vo_done, .int vo_seedNow, .int vo_keptTower, .int vo_keptPoured, .long vo_keptSpilt, .ref o_keptAmounts, .ref o_keptDrank, .ref o_keptTurns, .long vo_hash])), (o_rows, .inl (cI, 54, .inl vo_rows)), (o_takes, .inl (cJ, 9, .inr (.inl vo_takes))), (o_leans, .inl (cI, 9, .inl vo_leans)), (o_would, .inl (cJ, 9, .inr (.inl b13)))] ∧ va_S A s.heap H locs ∧ lv_has ls 15 [(0, .ref o), (1, .ref o_would), (2, .long b2), (4, .int b1), (5, .long j7), (7, .int v8), (8, .int v9), (9, .long b12), (11, .int b11), (12, .int v17)]) ?_ ?_
                · rintro j19 ej_39 H locs ls ⟨hP, hD, hS, hl⟩
                  replace hT := cut_n ej_39 hT
                  have hP : va_P (dC, dI) vwCl [(o, .inr (6, [.ref o_page, .int vo_pageMany, .int vo_readMany, .int vo_state, .int vo_readMost, .ref o_readRows, .int vo_glasses, .int vo_towersRead, .int vo_poured, .ref o_rows, .ref o_turns, .ref o_amounts, .ref o_drank, .long vo_spilt, .ref o_takes, .ref o_leans, .ref o_would, .int vo_done, .int vo_seedNow, .int vo_keptTower, .int vo_keptPoured, .long vo_keptSpilt, .ref o_keptAmounts, .ref o_keptDrank, .ref o_keptTurns, .long vo_hash])), (o_rows, .inl (cI, 54, .inl vo_rows)), (o_takes, .inl (cJ, 9, .inr (.inl vo_takes))), (o_leans, .inl (cI, 9, .inl vo_leans)), (o_would, .inl (cJ, 9, .inr (.inl b13)))] H := hP
                  have hD : va_D A [(o, .inr (6, [.ref o_page, .int vo_pageMany, .int vo_readMany, .int vo_state, .int vo_readMost, .ref o_readRows, .int vo_glasses, .int vo_towersRead, .int vo_poured, .ref o_rows, .ref o_turns, .ref o_amounts, .ref o_drank, .long vo_spilt, .ref o_takes, .ref o_leans, .ref o_would, .int vo_done, .int vo_seedNow, .int vo_keptTower, .int vo_keptPoured, .long vo_keptSpilt, .ref o_keptAmounts, .ref o_keptDrank, .ref o_keptTurns, .long vo_hash])), (o_rows, .inl (cI, 54, .inl vo_rows)), (o_takes, .inl (cJ, 9, .inr (.inl vo_takes))), (o_leans, .inl (cI, 9, .inl vo_leans)), (o_would, .inl (cJ, 9, .inr (.inl b13)))] := hD
                  have hl : lv_has ls 15 [(0, .ref o), (1, .ref o_would), (2, .long b2), (4, .int b1), (5, .long j7), (7, .int v8), (8, .int v9), (9, .long b12), (11, .int b11), (12, .int v17)] := hl
                  refine lv_i2l (v := (j19.toInt64)) hx hb dX6_runOver_151 rfl ?_
                  refine lv_lmul hx hb dX6_runOver_152 ?_
                  refine lv_topl (fun v20 ev20 => ?_)
                  replace hT := cut_n ev20.symm hT
                  refine lv_lstore (lv' := [(13, .long v20), (0, .ref o), (1, .ref o_would), (2, .long b2), (4, .int b1), (5, .long j7), (7, .int v8), (8, .int v9), (9, .long b12), (11, .int b11), (12, .int v17)]) hx hb dX6_runOver_153 hl (by decide) rfl (fun ls hl => ?_)
                  refine lv_aload_n hx hb dX6_runOver_155 rfl (lv_at hl 2 rfl) ?_
                  refine lv_iload hx hb dX6_runOver_156 (lv_at hl 10 rfl) ?_
                  refine lv_dup2_11 hx hb dX6_runOver_158 rfl rfl ?_
                  have h_25 : vp_in v17 9 := zin (by omega) (by omega)
                  refine va_lald hx hb hK hP 4 1 rfl rfl h_25 dX6_runOver_159 ?_
                  refine lv_lload hx hb dX6_runOver_160 (lv_at hl 0 rfl) ?_
                  refine lv_ladd hx hb dX6_runOver_162 ?_
                  have h_26 : vp_in v17 9 := zin (by omega) (by omega)
                  refine va_last hx hb hK hP hD hS 4 1 rfl rfl h_26 dX6_runOver_163 (fun H locs hP hD hS => ?_)
                  obtain ⟨a21, ea21⟩ : ∃ z, (vp_updL b13 v17.toNatClampNeg ((b13 v17.toNatClampNeg) + v20)) = z := ⟨_, rfl⟩
                  replace hT := cut_n ea21 hT
                  have hP : va_P (dC, dI) vwCl [(o, .inr (6, [.ref o_page, .int vo_pageMany, .int vo_readMany, .int vo_state, .int vo_readMost, .ref o_readRows, .int vo_glasses, .int vo_towersRead, .int vo_poured, .ref o_rows, .ref o_turns, .ref o_amounts, .ref o_drank, .long vo_spilt, .ref o_takes, .ref o_leans, .ref o_would, .int vo_done, .int vo_seedNow, .int vo_keptTower, .int vo_keptPoured, .long vo_keptSpilt, .ref o_keptAmounts, .ref o_keptDrank, .ref o_keptTurns, .long vo_hash])), (o_rows, .inl (cI, 54, .inl vo_rows)), (o_takes, .inl (cJ, 9, .inr (.inl vo_takes))), (o_leans, .inl (cI, 9, .inl vo_leans)), (o_would, .inl (cJ, 9, .inr (.inl a21)))] H := by rw [← ea21]; exact hP
                  have hD : va_D A [(o, .inr (6, [.ref o_page, .int vo_pageMany, .int vo_readMany, .int vo_state, .int vo_readMost, .ref o_readRows, .int vo_glasses, .int vo_towersRead, .int vo_poured, .ref o_rows, .ref o_turns, .ref o_amounts, .ref o_drank, .long vo_spilt, .ref o_takes, .ref o_leans, .ref o_would, .int vo_done, .int vo_seedNow, .int vo_keptTower, .int vo_keptPoured, .long vo_keptSpilt, .ref o_keptAmounts, .ref o_keptDrank, .ref o_keptTurns, .long vo_hash])), (o_rows, .inl (cI, 54, .inl vo_rows)), (o_takes, .inl (cJ, 9, .inr (.inl vo_takes))), (o_leans, .inl (cI, 9, .inl vo_leans)), (o_would, .inl (cJ, 9, .inr (.inl a21)))] := by rw [← ea21]; exact hD
                  refine lv_lload hx hb dX6_runOver_164 (lv_at hl 8 rfl) ?_
                  refine lv_lload hx hb dX6_runOver_166 (lv_at hl 0 rfl) ?_
                  refine lv_lsub hx hb dX6_runOver_168 ?_
                  refine lv_topl (fun v22 ev22 => ?_)
                  replace hT := cut_n ev22.symm hT
                  refine lv_lstore (lv' := [(9, .long v22), (13, .long v20), (0, .ref o), (1, .ref o_would), (2, .long b2), (4, .int b1), (5, .long j7), (7, .int v8), (8, .int v9), (11, .int b11), (12, .int v17)]) hx hb dX6_runOver_169 hl (by decide) rfl (fun ls hl => ?_)
                  obtain ⟨v23, ev23⟩ : ∃ y : Int32, (b11 + (1 : Int32)) = y := ⟨_, rfl⟩
                  replace hT := cut_n ev23 hT
                  try have fv23 := zaddE (rfl : (b11).toInt = _) (by decide : ((1 : Int32)).toInt = 1) ev23 (by omega) (by omega)
                  refine lv_iinc (v := v23) (lv' := [(11, .int v23), (9, .long v22), (13, .long v20), (0, .ref o), (1, .ref o_would), (2, .long b2), (4, .int b1), (5, .long j7), (7, .int v8), (8, .int v9), (12, .int v17)]) hx hb dX6_runOver_171 hl (k := 9) rfl (by rw [← ev23]; rfl) (by decide) rfl (fun ls hl => ?_)
                  refine lv_goto (tgt := 89) hx hb dX6_runOver_174 (by decide) ?_
                  exact ih6 (v23, v22, a21) _ _ _ ⟨(by omega : 0 ≤ v23.toInt), (by omega : v23.toInt ≤ 3), (by omega : 3 - v23.toInt < ((k6 : Nat) : Int)), hT, hP.sub [0, 1, 2, 3, 4] rfl, hD.sub [0, 1, 2, 3, 4] rfl rfl, hS, lv_sub hl [0, 1, 9, 8, 7, 3, 4, 5, 6] rfl⟩
                · intro xv hT hM
                  refine lv_if_ne (tgt := 150) hx hb dX6_runOver_135 (by decide) (fun c_22 => ?_) (fun c_22 => ?_)
                  · replace hT := cutF c_22 hT
                    have g_40 := zeqF (rfl : (b11).toInt = _) (by decide : ((0 : Int32)).toInt = 0) c_22
                    refine lv_iconst (v := (1 : Int32)) hx hb dX6_runOver_150 (by decide) ?_
                    have hP9 := hP
                    have hD9 := hD
                    have hS9 := hS
                    have hl9 := hl
                    have hM9 := hM
                    have hT : (1 : Int32) = xv := hT
                    subst hT
                    exact hM9 _ _ _ ⟨hP9.sub [0, 1, 2, 3, 4] rfl, hD9.sub [0, 1, 2, 3, 4] rfl rfl, hS9, lv_sub hl9 [6, 7, 8, 9, 5, 4, 3, 2, 1, 0] rfl⟩
                  · replace hT := cutT c_22 hT
                    have g_41 := zeqT (rfl : (b11).toInt = _) (by decide : ((0 : Int32)).toInt = 0) c_22
                    refine lv_iconst (v := (1 : Int32)) hx hb dX6_runOver_138 (by decide) ?_
                    refine lv_aload_n hx hb dX6_runOver_139 rfl (lv_at hl 6 rfl) ?_
                    refine va_get (D := (dC, dI)) (ci := 6) (v := .ref o_leans) (C := RX6) (T := TX6) (N := 26) hx hb hts hwX6 hown hK hP 0 rfl rfl 15 (by decide) hf_32 (fun _ h9 => h9) rfl dX6_runOver_140 ?_
                    refine lv_iload hx hb dX6_runOver_143 (lv_at hl 9 rfl) ?_
                    have h_23 : vp_in b1 9 := zin (by omega) (by omega)
                    refine va_iald hx hb hK hP 3 0 rfl rfl h_23 dX6_runOver_145 ?_
                    have g_24 := hln b1.toNatClampNeg
                    refine lv_iadd hx hb dX6_runOver_146 ?_
                    refine lv_goto (tgt := 151) hx hb dX6_runOver_147 (by decide) ?_
                    have hP9 := hP
                    have hD9 := hD
                    have hS9 := hS
                    have hl9 := hl
                    have hM9 := hM
                    have hT : ((1 : Int32) + (vo_leans b1.toNatClampNeg)) = xv := hT
                    subst hT
                    exact hM9 _ _ _ ⟨hP9.sub [0, 1, 2, 3, 4] rfl, hD9.sub [0, 1, 2, 3, 4] rfl rfl, hS9, lv_sub hl9 [6, 7, 8, 9, 5, 4, 3, 2, 1, 0] rfl⟩
      · intro xv hT hM
        refine lv_if_le (tgt := 44) hx hb dX6_runOver_26 (by decide) (fun c_4 => ?_) (fun c_4 => ?_)
        · replace hT := cutT c_4 hT
          have g_42 := zlc_le.mp c_4
          refine lv_lconst (v := (0 : Int64)) hx hb dX6_runOver_44 (by decide) ?_
          have hP9 := hP
          have hD9 := hD
          have hS9 := hS
          have hl9 := hl
          have hM9 := hM
          have hT : (0 : Int64) = xv := hT
          subst hT
          exact hM9 _ _ _ ⟨hP9.sub [0, 1, 2, 3, 4] rfl, hD9.sub [0, 1, 2, 3, 4] rfl rfl, hS9, lv_sub hl9 [2, 3, 1, 0] rfl⟩
        · replace hT := cutF c_4 hT
          have g_43 := mt zlc_le.mpr c_4
          refine lv_aload_n hx hb dX6_runOver_29 rfl (lv_at hl 3 rfl) ?_
          refine lv_iload hx hb dX6_runOver_30 (lv_at hl 0 rfl) ?_
          have h_5 : vp_in b1 9 := zin (by omega) (by omega)
          refine va_lald hx hb hK hP 4 1 rfl rfl h_5 dX6_runOver_32 ?_
          refine lv_aload_n hx hb dX6_runOver_33 rfl (lv_at hl 2 rfl) ?_
          refine va_get (D := (dC, dI)) (ci := 6) (v := .ref o_takes) (C := RX6) (T := TX6) (N := 26) hx hb hts hwX6 hown hK hP 0 rfl rfl 14 (by decide) hf_29 (fun _ h9 => h9) rfl dX6_runOver_34 ?_
          refine lv_iload hx hb dX6_runOver_37 (lv_at hl 0 rfl) ?_
          have h_6 : vp_in b1 9 := zin (by omega) (by omega)
          refine va_lald hx hb hK hP 2 1 rfl rfl h_6 dX6_runOver_39 ?_
          refine lv_lsub hx hb dX6_runOver_40 ?_
          refine lv_goto (tgt := 45) hx hb dX6_runOver_41 (by decide) ?_
          have hP9 := hP
          have hD9 := hD
          have hS9 := hS
          have hl9 := hl
          have hM9 := hM
          have hT : ((b3 b1.toNatClampNeg) - (vo_takes b1.toNatClampNeg)) = xv := hT
          subst hT
          exact hM9 _ _ _ ⟨hP9.sub [0, 1, 2, 3, 4] rfl, hD9.sub [0, 1, 2, 3, 4] rfl rfl, hS9, lv_sub hl9 [2, 3, 1, 0] rfl⟩

def m_X6_isFull (vo_rows : Nat → Int32) (vo_amounts : Nat → Int64) (p1 : Int32) : Int32 :=
 cut (m_X6_takesOf vo_rows p1) (fun (r1 : Int32) =>
 if (lg_cmp (vo_amounts p1.toNatClampNeg) ((429981696 : Int64) * (r1.toInt64))) = (0 : Int32) then
  (1 : Int32)
 else
  (0 : Int32))
set_option maxHeartbeats 4000000 in
set_option maxRecDepth 100000 in
theorem k_X6_isFull (l : Launch) (dC : Nat → ClassId) (dI : Nat → Nat → Nat) (cI cJ cC : ClassId) (sz : Nat) (o o_page o_readRows o_rows o_turns o_amounts o_drank o_takes o_leans o_would o_keptAmounts o_keptDrank o_keptTurns : Nat) (vo_pageMany : Int32) (vo_readMany : Int32) (vo_state : Int32) (vo_readMost : Int32) (vo_glasses : Int32) (vo_towersRead : Int32) (vo_poured : Int32) (vo_spilt : Int64) (vo_done : Int32) (vo_seedNow : Int32) (vo_keptTower : Int32) (vo_keptPoured : Int32) (vo_keptSpilt : Int64) (vo_hash : Int64) (vo_rows : Nat → Int32) (vo_amounts : Nat → Int64) (p1 : Int32) (r : Int32) (hT : m_X6_isFull vo_rows vo_amounts p1 = r) (h10 : 0 ≤ p1.toInt) (h19 : p1.toInt < 9) : Met l yX6_isFull wsX6_isFull ({ frames := 1, cells := 0, slots := 0, locals := 23 }) (zPc [.ref o, .int p1] (dC, dI) (zTy cI cJ cC) [(o, .inr (6, [.ref o_page, .int vo_pageMany, .int vo_readMany, .int vo_state, .int vo_readMost, .ref o_readRows, .int vo_glasses, .int vo_towersRead, .int vo_poured, .ref o_rows, .ref o_turns, .ref o_amounts, .ref o_drank, .long vo_spilt, .ref o_takes, .ref o_leans, .ref o_would, .int vo_done, .int vo_seedNow, .int vo_keptTower, .int vo_keptPoured, .long vo_keptSpilt, .ref o_keptAmounts, .ref o_keptDrank, .ref o_keptTurns, .long vo_hash])), (o_rows, .inl (cI, 54, .inl vo_rows)), (o_amounts, .inl (cJ, 9, .inr (.inl vo_amounts)))] sz) (zQi r ((zB01 r)) (dC, dI) (zTy cI cJ cC) [(o, .inr (6, [.ref o_page, .int vo_pageMany, .int vo_readMany, .int vo_state, .int vo_readMost, .ref o_readRows, .int vo_glasses, .int vo_towersRead, .int vo_poured, .ref o_rows, .ref o_turns, .ref o_amounts, .ref o_drank, .long vo_spilt, .ref o_takes, .ref o_leans, .ref o_would, .int vo_done, .int vo_seedNow, .int vo_keptTower, .int vo_keptPoured, .long vo_keptSpilt, .ref o_keptAmounts, .ref o_keptDrank, .ref o_keptTurns, .long vo_hash])), (o_rows, .inl (cI, 54, .inl vo_rows)), (o_amounts, .inl (cJ, 9, .inr (.inl vo_amounts)))] (va_A [(o, .inr (6, [.ref o_page, .int vo_pageMany, .int vo_readMany, .int vo_state, .int vo_readMost, .ref o_readRows, .int vo_glasses, .int vo_towersRead, .int vo_poured, .ref o_rows, .ref o_turns, .ref o_amounts, .ref o_drank, .long vo_spilt, .ref o_takes, .ref o_leans, .ref o_would, .int vo_done, .int vo_seedNow, .int vo_keptTower, .int vo_keptPoured, .long vo_keptSpilt, .ref o_keptAmounts, .ref o_keptDrank, .ref o_keptTurns, .long vo_hash])), (o_rows, .inl (cI, 54, .inl vo_rows)), (o_amounts, .inl (cJ, 9, .inr (.inl vo_amounts)))] sz)) 0 0 (va_A [(o, .inr (6, [.ref o_page, .int vo_pageMany, .int vo_readMany, .int vo_state, .int vo_readMost, .ref o_readRows, .int vo_glasses, .int vo_towersRead, .int vo_poured, .ref o_rows, .ref o_turns, .ref o_amounts, .ref o_drank, .long vo_spilt, .ref o_takes, .ref o_leans, .ref o_would, .int vo_done, .int vo_seedNow, .int vo_keptTower, .int vo_keptPoured, .long vo_keptSpilt, .ref o_keptAmounts, .ref o_keptDrank, .ref o_keptTurns, .long vo_hash])), (o_rows, .inl (cI, 54, .inl vo_rows)), (o_amounts, .inl (cJ, 9, .inr (.inl vo_amounts)))] sz) := by
  refine Met.ofW (cc := cX6_isFull) (maxL := 2) (ret := (some .boolean)) (by decide) rfl ?_
  intro p e s m args below meth c s₁ B hml hv
  obtain ⟨rfl, hsz, hP, hK, hD0⟩ := hv
  have hx := B.exec
  have hb := B.bytes
  have hr := B.returns
  have hts := atoms_spec (ws := wsX6_isFull) B.pre
  have hown : s.vm.findClass RX6 = some m.cls := findClass_of_methodNamed B.named
  have hlocks := B.notSynchronized
  subst hsz
  have hD := hD0.self (sz := s.heap.size)
  generalize hAe : va_A [(o, .inr (6, [.ref o_page, .int vo_pageMany, .int vo_readMany, .int vo_state, .int vo_readMost, .ref o_readRows, .int vo_glasses, .int vo_towersRead, .int vo_poured, .ref o_rows, .ref o_turns, .ref o_amounts, .ref o_drank, .long vo_spilt, .ref o_takes, .ref o_leans, .ref o_would, .int vo_done, .int vo_seedNow, .int vo_keptTower, .int vo_keptPoured, .long vo_keptSpilt, .ref o_keptAmounts, .ref o_keptDrank, .ref o_keptTurns, .long vo_hash])), (o_rows, .inl (cI, 54, .inl vo_rows)), (o_amounts, .inl (cJ, 9, .inr (.inl vo_amounts)))] s.heap.size = A at hD ⊢
  have hA : ∀ q : Nat, s.heap.size ≤ q → A q := fun q h => by rw [← hAe]; exact Or.inr h
  have hS : va_S A s.heap s.heap [] := va_S.rf
  have hP : va_P (dC, dI) vwCl [(o, .inr (6, [.ref o_page, .int vo_pageMany, .int vo_readMany, .int vo_state, .int vo_readMost, .ref o_readRows, .int vo_glasses, .int vo_towersRead, .int vo_poured, .ref o_rows, .ref o_turns, .ref o_amounts, .ref o_drank, .long vo_spilt, .ref o_takes, .ref o_leans, .ref o_would, .int vo_done, .int vo_seedNow, .int vo_keptTower, .int vo_keptPoured, .long vo_keptSpilt, .ref o_keptAmounts, .ref o_keptDrank, .ref o_keptTurns, .long vo_hash])), (o_rows, .inl (cI, 54, .inl vo_rows)), (o_amounts, .inl (cJ, 9, .inr (.inl vo_amounts)))] s.heap := hP
  have hK : va_K (dC, dI) vwCl (zTy cI cJ cC) s := hK
  have hl := lv_entry ([.ref o, .int p1]) (n := 2) (Nat.le_of_ble_eq_true rfl)
  rw [lg_entry_eq]
  generalize (lg_sl ([.ref o, .int p1]) ++ List.replicate (2 - (lg_sl ([.ref o, .int p1])).length) Slot.unset).toArray = ls at hl ⊢
  have hl : lv_has ls 2 [(0, .ref o), (1, .int p1)] := hl
  refine zz_start hP hS (fun Q hQ H locs hP hS => ?_)
  have hwX6 : ∀ w ∈ u_ws RX6 TX6 26, w ∈ wsX6_isFull := by decide +kernel
  have hc_113 := (hts (.constantLong RX6 113 (429981696)) (by decide +kernel))
  have hf_22 := (hts (.fieldLink RX6 22 "PouredTopmostModel" "amounts" "[J") (by decide +kernel))
  refine lv_aload_n hx hb dX6_isFull_0 rfl (lv_at hl 0 rfl) ?_
  refine va_get (D := (dC, dI)) (ci := 6) (v := .ref o_amounts) (C := RX6) (T := TX6) (N := 26) hx hb hts hwX6 hown hK hP 0 rfl rfl 11 (by decide) hf_22 (fun _ h9 => h9) rfl dX6_isFull_1 ?_
  refine lv_iload_n hx hb dX6_isFull_4 rfl (lv_at hl 1 rfl) ?_
  have h_1 : vp_in p1 9 := zin (by omega) (by omega)
  refine va_lald hx hb hK hP 2 1 rfl rfl h_1 dX6_isFull_5 ?_
  refine lv_ldc2 (v := (429981696 : Int64)) hx hb hown hc_113 dX6_isFull_6 ?_
  refine lv_aload_n hx hb dX6_isFull_9 rfl (lv_at hl 0 rfl) ?_
  refine lv_iload_n hx hb dX6_isFull_10 rfl (lv_at hl 1 rfl) ?_
  obtain ⟨r1, ev_2⟩ : ∃ x0, (m_X6_takesOf vo_rows p1) = x0 := ⟨_, rfl⟩
  replace hT := cut_n ev_2 hT
  refine zz_ci [0, 1] [2] (wr := [(o_amounts, .inl (cJ, 9, .inr (.inl vo_amounts)))]) (w1 := [(o, .inr (6, [.ref o_page, .int vo_pageMany, .int vo_readMany, .int vo_state, .int vo_readMost, .ref o_readRows, .int vo_glasses, .int vo_towersRead, .int vo_poured, .ref o_rows, .ref o_turns, .ref o_amounts, .ref o_drank, .long vo_spilt, .ref o_takes, .ref o_leans, .ref o_would, .int vo_done, .int vo_seedNow, .int vo_keptTower, .int vo_keptPoured, .long vo_keptSpilt, .ref o_keptAmounts, .ref o_keptDrank, .ref o_keptTurns, .long vo_hash])), (o_rows, .inl (cI, 54, .inl vo_rows))]) (va_runV (As := [.int p1]) (rest := [.long (429981696 : Int64), .long (vo_amounts p1.toNatClampNeg)]) ⟨hx, hb, hml, hown, hts⟩ (k_X6_takesOf l dC dI cI cJ cC H.size o o_page o_readRows o_rows o_turns o_amounts o_drank o_takes o_leans o_would o_keptAmounts o_keptDrank o_keptTurns vo_pageMany vo_readMany vo_state vo_readMost vo_glasses vo_towersRead vo_poured vo_spilt vo_done vo_seedNow vo_keptTower vo_keptPoured vo_keptSpilt vo_hash vo_rows p1 r1 ev_2 h10 h19) (cwV 1 hts gX6_isFull_X6_takesOf rfl rfl rfl (by decide +kernel) ⟨Nat.le_of_ble_eq_true rfl, Nat.le_of_ble_eq_true rfl⟩) (zz_preV [0, 1] hK hP hD rfl rfl (va_recv hK hP (ci := 6) (q0 := 0) rfl rfl)) rfl rfl hl.1 rfl (lv_room (Nat.le_of_ble_eq_true rfl)) dX6_isFull_11 ⟨Nat.zero_le _, Nat.zero_le _⟩) hP hD hS hA rfl rfl rfl (by decide) (fun ok_3 H locs hP hD hS => ?_)
  have hP : va_P (dC, dI) vwCl [(o_amounts, .inl (cJ, 9, .inr (.inl vo_amounts))), (o, .inr (6, [.ref o_page, .int vo_pageMany, .int vo_readMany, .int vo_state, .int vo_readMost, .ref o_readRows, .int vo_glasses, .int vo_towersRead, .int vo_poured, .ref o_rows, .ref o_turns, .ref o_amounts, .ref o_drank, .long vo_spilt, .ref o_takes, .ref o_leans, .ref o_would, .int vo_done, .int vo_seedNow, .int vo_keptTower, .int vo_keptPoured, .long vo_keptSpilt, .ref o_keptAmounts, .ref o_keptDrank, .ref o_keptTurns, .long vo_hash])), (o_rows, .inl (cI, 54, .inl vo_rows))] H := hP
  have hD : va_D A [(o_amounts, .inl (cJ, 9, .inr (.inl vo_amounts))), (o, .inr (6, [.ref o_page, .int vo_pageMany, .int vo_readMany, .int vo_state, .int vo_readMost, .ref o_readRows, .int vo_glasses, .int vo_towersRead, .int vo_poured, .ref o_rows, .ref o_turns, .ref o_amounts, .ref o_drank, .long vo_spilt, .ref o_takes, .ref o_leans, .ref o_would, .int vo_done, .int vo_seedNow, .int vo_keptTower, .int vo_keptPoured, .long vo_keptSpilt, .ref o_keptAmounts, .ref o_keptDrank, .ref o_keptTurns, .long vo_hash])), (o_rows, .inl (cI, 54, .inl vo_rows))] := hD
  refine lv_i2l (v := (r1.toInt64)) hx hb dX6_isFull_14 rfl ?_
  refine lv_lmul hx hb dX6_isFull_15 ?_
  refine W.lcmp hx hb dX6_isFull_16 ?_
  refine lv_if_ne (tgt := 24) hx hb dX6_isFull_17 (by decide) (fun c_4 => ?_) (fun c_4 => ?_)
  · replace hT := cutF c_4 hT
    have g_5 := mt zlc_eq.mpr c_4
    refine lv_iconst (v := (0 : Int32)) hx hb dX6_isFull_24 (by decide) ?_
    have hP9 := hP
    have hD9 := hD
    have hS9 := hS
    have hT : (0 : Int32) = r := hT
    subst hT
    subst hQ
    exact zz_zret hx hb hr rfl [1, 2, 0] hK hP9 hD9 hS9 rfl rfl (Or.inl rfl) hlocks dX6_isFull_25
  · replace hT := cutT c_4 hT
    have g_6 := zlc_eq.mp c_4
    refine lv_iconst (v := (1 : Int32)) hx hb dX6_isFull_20 (by decide) ?_
    refine lv_goto (tgt := 25) hx hb dX6_isFull_21 (by decide) ?_
    have hP9 := hP
    have hD9 := hD
    have hS9 := hS
    have hT : (1 : Int32) = r := hT
    subst hT
    subst hQ
    exact zz_zret hx hb hr rfl [1, 2, 0] hK hP9 hD9 hS9 rfl rfl (Or.inr rfl) hlocks dX6_isFull_25

def rs_X6_fullMany_2  (x3 : Int32) (x4 : Int32) : Int32 :=
 x4
def lp_X6_fullMany_2 (vo_glasses : Int32) (ct2 : Int32 → Int32 → (Int32)) (vo_rows : Nat → Int32) (vo_amounts : Nat → Int64) : Nat → Int32 → Int32 → (Int32)
  | 0, _, _ => default
  | k + 1, b1, b2 =>
  if vo_glasses ≤ b1 then
   (ct2 b1 b2)
  else
   cut (m_X6_isFull vo_rows vo_amounts b1) (fun (r5 : Int32) =>
   cut (
    if r5 = (0 : Int32) then
     (0 : Int32)
    else
     (1 : Int32)) (fun (j6 : Int32) =>
   cut (b2 + j6) (fun (v7 : Int32) =>
   cut (b1 + (1 : Int32)) (fun (v8 : Int32) =>
   (lp_X6_fullMany_2 vo_glasses ct2 vo_rows vo_amounts k v8 v7)))))
def m_X6_fullMany (vo_glasses : Int32) (vo_rows : Nat → Int32) (vo_amounts : Nat → Int64) : Int32 :=
 (lp_X6_fullMany_2 vo_glasses rs_X6_fullMany_2 vo_rows vo_amounts 11 (0 : Int32) (0 : Int32))
set_option maxHeartbeats 4000000 in
set_option maxRecDepth 100000 in
theorem k_X6_fullMany (l : Launch) (dC : Nat → ClassId) (dI : Nat → Nat → Nat) (cI cJ cC : ClassId) (sz : Nat) (o o_page o_readRows o_rows o_turns o_amounts o_drank o_takes o_leans o_would o_keptAmounts o_keptDrank o_keptTurns : Nat) (vo_pageMany : Int32) (vo_readMany : Int32) (vo_state : Int32) (vo_readMost : Int32) (vo_glasses : Int32) (vo_towersRead : Int32) (vo_poured : Int32) (vo_spilt : Int64) (vo_done : Int32) (vo_seedNow : Int32) (vo_keptTower : Int32) (vo_keptPoured : Int32) (vo_keptSpilt : Int64) (vo_hash : Int64) (vo_rows : Nat → Int32) (vo_amounts : Nat → Int64) (r : Int32) (hT : m_X6_fullMany vo_glasses vo_rows vo_amounts = r) (hg0 : 0 ≤ vo_glasses.toInt) (hg9 : vo_glasses.toInt ≤ 9) : Met l yX6_fullMany wsX6_fullMany ({ frames := 2, cells := 0, slots := 0, locals := 44 }) (zPc [.ref o] (dC, dI) (zTy cI cJ cC) [(o, .inr (6, [.ref o_page, .int vo_pageMany, .int vo_readMany, .int vo_state, .int vo_readMost, .ref o_readRows, .int vo_glasses, .int vo_towersRead, .int vo_poured, .ref o_rows, .ref o_turns, .ref o_amounts, .ref o_drank, .long vo_spilt, .ref o_takes, .ref o_leans, .ref o_would, .int vo_done, .int vo_seedNow, .int vo_keptTower, .int vo_keptPoured, .long vo_keptSpilt, .ref o_keptAmounts, .ref o_keptDrank, .ref o_keptTurns, .long vo_hash])), (o_rows, .inl (cI, 54, .inl vo_rows)), (o_amounts, .inl (cJ, 9, .inr (.inl vo_amounts)))] sz) (zQi r (True) (dC, dI) (zTy cI cJ cC) [(o, .inr (6, [.ref o_page, .int vo_pageMany, .int vo_readMany, .int vo_state, .int vo_readMost, .ref o_readRows, .int vo_glasses, .int vo_towersRead, .int vo_poured, .ref o_rows, .ref o_turns, .ref o_amounts, .ref o_drank, .long vo_spilt, .ref o_takes, .ref o_leans, .ref o_would, .int vo_done, .int vo_seedNow, .int vo_keptTower, .int vo_keptPoured, .long vo_keptSpilt, .ref o_keptAmounts, .ref o_keptDrank, .ref o_keptTurns, .long vo_hash])), (o_rows, .inl (cI, 54, .inl vo_rows)), (o_amounts, .inl (cJ, 9, .inr (.inl vo_amounts)))] (va_A [(o, .inr (6, [.ref o_page, .int vo_pageMany, .int vo_readMany, .int vo_state, .int vo_readMost, .ref o_readRows, .int vo_glasses, .int vo_towersRead, .int vo_poured, .ref o_rows, .ref o_turns, .ref o_amounts, .ref o_drank, .long vo_spilt, .ref o_takes, .ref o_leans, .ref o_would, .int vo_done, .int vo_seedNow, .int vo_keptTower, .int vo_keptPoured, .long vo_keptSpilt, .ref o_keptAmounts, .ref o_keptDrank, .ref o_keptTurns, .long vo_hash])), (o_rows, .inl (cI, 54, .inl vo_rows)), (o_amounts, .inl (cJ, 9, .inr (.inl vo_amounts)))] sz)) 0 0 (va_A [(o, .inr (6, [.ref o_page, .int vo_pageMany, .int vo_readMany, .int vo_state, .int vo_readMost, .ref o_readRows, .int vo_glasses, .int vo_towersRead, .int vo_poured, .ref o_rows, .ref o_turns, .ref o_amounts, .ref o_drank, .long vo_spilt, .ref o_takes, .ref o_leans, .ref o_would, .int vo_done, .int vo_seedNow, .int vo_keptTower, .int vo_keptPoured, .long vo_keptSpilt, .ref o_keptAmounts, .ref o_keptDrank, .ref o_keptTurns, .long vo_hash])), (o_rows, .inl (cI, 54, .inl vo_rows)), (o_amounts, .inl (cJ, 9, .inr (.inl vo_amounts)))] sz) := by
  refine Met.ofW (cc := cX6_fullMany) (maxL := 3) (ret := (some .int)) (by decide) rfl ?_
  intro p e s m args below meth c s₁ B hml hv
  obtain ⟨rfl, hsz, hP, hK, hD0⟩ := hv
  have hx := B.exec
  have hb := B.bytes
  have hr := B.returns
  have hts := atoms_spec (ws := wsX6_fullMany) B.pre
  have hown : s.vm.findClass RX6 = some m.cls := findClass_of_methodNamed B.named
  have hlocks := B.notSynchronized
  subst hsz
  have hD := hD0.self (sz := s.heap.size)
  generalize hAe : va_A [(o, .inr (6, [.ref o_page, .int vo_pageMany, .int vo_readMany, .int vo_state, .int vo_readMost, .ref o_readRows, .int vo_glasses, .int vo_towersRead, .int vo_poured, .ref o_rows, .ref o_turns, .ref o_amounts, .ref o_drank, .long vo_spilt, .ref o_takes, .ref o_leans, .ref o_would, .int vo_done, .int vo_seedNow, .int vo_keptTower, .int vo_keptPoured, .long vo_keptSpilt, .ref o_keptAmounts, .ref o_keptDrank, .ref o_keptTurns, .long vo_hash])), (o_rows, .inl (cI, 54, .inl vo_rows)), (o_amounts, .inl (cJ, 9, .inr (.inl vo_amounts)))] s.heap.size = A at hD ⊢
  have hA : ∀ q : Nat, s.heap.size ≤ q → A q := fun q h => by rw [← hAe]; exact Or.inr h
  have hS : va_S A s.heap s.heap [] := va_S.rf
  have hP : va_P (dC, dI) vwCl [(o, .inr (6, [.ref o_page, .int vo_pageMany, .int vo_readMany, .int vo_state, .int vo_readMost, .ref o_readRows, .int vo_glasses, .int vo_towersRead, .int vo_poured, .ref o_rows, .ref o_turns, .ref o_amounts, .ref o_drank, .long vo_spilt, .ref o_takes, .ref o_leans, .ref o_would, .int vo_done, .int vo_seedNow, .int vo_keptTower, .int vo_keptPoured, .long vo_keptSpilt, .ref o_keptAmounts, .ref o_keptDrank, .ref o_keptTurns, .long vo_hash])), (o_rows, .inl (cI, 54, .inl vo_rows)), (o_amounts, .inl (cJ, 9, .inr (.inl vo_amounts)))] s.heap := hP
  have hK : va_K (dC, dI) vwCl (zTy cI cJ cC) s := hK
  have hl := lv_entry ([.ref o]) (n := 3) (Nat.le_of_ble_eq_true rfl)
  rw [lg_entry_eq]
  generalize (lg_sl ([.ref o]) ++ List.replicate (3 - (lg_sl ([.ref o])).length) Slot.unset).toArray = ls at hl ⊢
  have hl : lv_has ls 3 [(0, .ref o)] := hl
  refine zz_start hP hS (fun Q hQ H locs hP hS => ?_)
  have hwX6 : ∀ w ∈ u_ws RX6 TX6 26, w ∈ wsX6_fullMany := by decide +kernel
  have hf_97 := (hts (.fieldLink RX6 97 "PouredTopmostModel" "glasses" "I") (by decide +kernel))
  refine lv_iconst (v := (0 : Int32)) hx hb dX6_fullMany_0 (by decide) ?_
  refine lv_istore_n (lv' := [(1, .int (0 : Int32)), (0, .ref o)]) hx hb dX6_fullMany_1 rfl hl (by decide) rfl (fun ls hl => ?_)
  refine lv_iconst (v := (0 : Int32)) hx hb dX6_fullMany_2 (by decide) ?_
  refine lv_istore_n (lv' := [(2, .int (0 : Int32)), (1, .int (0 : Int32)), (0, .ref o)]) hx hb dX6_fullMany_3 rfl hl (by decide) rfl (fun ls hl => ?_)
  have hz_5 : ((0 : Int32)).toInt = 0 := by decide
  have hz_6 : ((0 : Int32)).toInt = 0 := by decide
  refine zz_loop (α := Int32 × Int32) 34 (fun k a H locs ls => (0 ≤ a.1.toInt) ∧ (a.1.toInt ≤ vo_glasses.toInt) ∧ (vo_glasses.toInt - a.1.toInt < ((k : Nat) : Int)) ∧ lp_X6_fullMany_2 vo_glasses rs_X6_fullMany_2 vo_rows vo_amounts k a.1 a.2 = r ∧ va_P (dC, dI) vwCl [(o, .inr (6, [.ref o_page, .int vo_pageMany, .int vo_readMany, .int vo_state, .int vo_readMost, .ref o_readRows, .int vo_glasses, .int vo_towersRead, .int vo_poured, .ref o_rows, .ref o_turns, .ref o_amounts, .ref o_drank, .long vo_spilt, .ref o_takes, .ref o_leans, .ref o_would, .int vo_done, .int vo_seedNow, .int vo_keptTower, .int vo_keptPoured, .long vo_keptSpilt, .ref o_keptAmounts, .ref o_keptDrank, .ref o_keptTurns, .long vo_hash])), (o_rows, .inl (cI, 54, .inl vo_rows)), (o_amounts, .inl (cJ, 9, .inr (.inl vo_amounts)))] H ∧ va_D A [(o, .inr (6, [.ref o_page, .int vo_pageMany, .int vo_readMany, .int vo_state, .int vo_readMost, .ref o_readRows, .int vo_glasses, .int vo_towersRead, .int vo_poured, .ref o_rows, .ref o_turns, .ref o_amounts, .ref o_drank, .long vo_spilt, .ref o_takes, .ref o_leans, .ref o_would, .int vo_done, .int vo_seedNow, .int vo_keptTower, .int vo_keptPoured, .long vo_keptSpilt, .ref o_keptAmounts, .ref o_keptDrank, .ref o_keptTurns, .long vo_hash])), (o_rows, .inl (cI, 54, .inl vo_rows)), (o_amounts, .inl (cJ, 9, .inr (.inl vo_amounts)))] ∧ va_S A s.heap H locs ∧ lv_has ls 3 [(2, .int a.1), (1, .int a.2), (0, .ref o)]) (fun a H locs ls => (0 ≤ a.1.toInt) ∧ (a.1.toInt ≤ vo_glasses.toInt) ∧ rs_X6_fullMany_2 a.1 a.2 = r ∧ va_P (dC, dI) vwCl [(o, .inr (6, [.ref o_page, .int vo_pageMany, .int vo_readMany, .int vo_state, .int vo_readMost, .ref o_readRows, .int vo_glasses, .int vo_towersRead, .int vo_poured, .ref o_rows, .ref o_turns, .ref o_amounts, .ref o_drank, .long vo_spilt, .ref o_takes, .ref o_leans, .ref o_would, .int vo_done, .int vo_seedNow, .int vo_keptTower, .int vo_keptPoured, .long vo_keptSpilt, .ref o_keptAmounts, .ref o_keptDrank, .ref o_keptTurns, .long vo_hash])), (o_rows, .inl (cI, 54, .inl vo_rows)), (o_amounts, .inl (cJ, 9, .inr (.inl vo_amounts)))] H ∧ va_D A [(o, .inr (6, [.ref o_page, .int vo_pageMany, .int vo_readMany, .int vo_state, .int vo_readMost, .ref o_readRows, .int vo_glasses, .int vo_towersRead, .int vo_poured, .ref o_rows, .ref o_turns, .ref o_amounts, .ref o_drank, .long vo_spilt, .ref o_takes, .ref o_leans, .ref o_would, .int vo_done, .int vo_seedNow, .int vo_keptTower, .int vo_keptPoured, .long vo_keptSpilt, .ref o_keptAmounts, .ref o_keptDrank, .ref o_keptTurns, .long vo_hash])), (o_rows, .inl (cI, 54, .inl vo_rows)), (o_amounts, .inl (cJ, 9, .inr (.inl vo_amounts)))] ∧ va_S A s.heap H locs ∧ lv_has ls 3 [(1, .int a.2)]) ?_ ?_ ?_ 11 ((0 : Int32), (0 : Int32)) ⟨(by omega : 0 ≤ (0 : Int32).toInt), (by omega : (0 : Int32).toInt ≤ vo_glasses.toInt), (by omega : vo_glasses.toInt - (0 : Int32).toInt < ((11 : Nat) : Int)), hT, hP.sub [0, 1, 2] rfl, hD.sub [0, 1, 2] rfl rfl, hS, lv_sub hl [0, 1, 2] rfl⟩
  · rintro ⟨x3, x4⟩ H locs ls ⟨i1, j1, hT, hP, hD, hS, hl⟩
    have hP : va_P (dC, dI) vwCl [(o, .inr (6, [.ref o_page, .int vo_pageMany, .int vo_readMany, .int vo_state, .int vo_readMost, .ref o_readRows, .int vo_glasses, .int vo_towersRead, .int vo_poured, .ref o_rows, .ref o_turns, .ref o_amounts, .ref o_drank, .long vo_spilt, .ref o_takes, .ref o_leans, .ref o_would, .int vo_done, .int vo_seedNow, .int vo_keptTower, .int vo_keptPoured, .long vo_keptSpilt, .ref o_keptAmounts, .ref o_keptDrank, .ref o_keptTurns, .long vo_hash])), (o_rows, .inl (cI, 54, .inl vo_rows)), (o_amounts, .inl (cJ, 9, .inr (.inl vo_amounts)))] H := hP
    have hD : va_D A [(o, .inr (6, [.ref o_page, .int vo_pageMany, .int vo_readMany, .int vo_state, .int vo_readMost, .ref o_readRows, .int vo_glasses, .int vo_towersRead, .int vo_poured, .ref o_rows, .ref o_turns, .ref o_amounts, .ref o_drank, .long vo_spilt, .ref o_takes, .ref o_leans, .ref o_would, .int vo_done, .int vo_seedNow, .int vo_keptTower, .int vo_keptPoured, .long vo_keptSpilt, .ref o_keptAmounts, .ref o_keptDrank, .ref o_keptTurns, .long vo_hash])), (o_rows, .inl (cI, 54, .inl vo_rows)), (o_amounts, .inl (cJ, 9, .inr (.inl vo_amounts)))] := hD
    have hl : lv_has ls 3 [(1, .int x4)] := hl
    have hT : rs_X6_fullMany_2 x3 x4 = r := hT
    have i1 : 0 ≤ x3.toInt := i1
    have j1 : x3.toInt ≤ vo_glasses.toInt := j1
    refine lv_iload_n hx hb dX6_fullMany_34 rfl (lv_at hl 0 rfl) ?_
    have hP9 := hP
    have hD9 := hD
    have hS9 := hS
    have hT : x4 = r := hT
    subst hT
    subst hQ
    exact zz_iret hx hb hr [0, 1, 2] hK hP9 hD9 hS9 rfl rfl trivial hlocks dX6_fullMany_35
  · rintro ⟨b1, b2⟩ H locs ls ⟨i1, j1, hm, -⟩
    try dsimp only at *
    omega
  · intro k2 hex2 ih2
    rintro ⟨b1, b2⟩ H locs ls ⟨i1, j1, hm2, hT, hP, hD, hS, hl⟩
    have hP : va_P (dC, dI) vwCl [(o, .inr (6, [.ref o_page, .int vo_pageMany, .int vo_readMany, .int vo_state, .int vo_readMost, .ref o_readRows, .int vo_glasses, .int vo_towersRead, .int vo_poured, .ref o_rows, .ref o_turns, .ref o_amounts, .ref o_drank, .long vo_spilt, .ref o_takes, .ref o_leans, .ref o_would, .int vo_done, .int vo_seedNow, .int vo_keptTower, .int vo_keptPoured, .long vo_keptSpilt, .ref o_keptAmounts, .ref o_keptDrank, .ref o_keptTurns, .long vo_hash])), (o_rows, .inl (cI, 54, .inl vo_rows)), (o_amounts, .inl (cJ, 9, .inr (.inl vo_amounts)))] H := hP
    have hD : va_D A [(o, .inr (6, [.ref o_page, .int vo_pageMany, .int vo_readMany, .int vo_state, .int vo_readMost, .ref o_readRows, .int vo_glasses, .int vo_towersRead, .int vo_poured, .ref o_rows, .ref o_turns, .ref o_amounts, .ref o_drank, .long vo_spilt, .ref o_takes, .ref o_leans, .ref o_would, .int vo_done, .int vo_seedNow, .int vo_keptTower, .int vo_keptPoured, .long vo_keptSpilt, .ref o_keptAmounts, .ref o_keptDrank, .ref o_keptTurns, .long vo_hash])), (o_rows, .inl (cI, 54, .inl vo_rows)), (o_amounts, .inl (cJ, 9, .inr (.inl vo_amounts)))] := hD
    have hl : lv_has ls 3 [(2, .int b1), (1, .int b2), (0, .ref o)] := hl
    have hT : lp_X6_fullMany_2 vo_glasses rs_X6_fullMany_2 vo_rows vo_amounts (k2 + 1) b1 b2 = r := hT
    have i1 : 0 ≤ b1.toInt := i1
    have j1 : b1.toInt ≤ vo_glasses.toInt := j1
    have hm2 : vo_glasses.toInt - b1.toInt < (((k2 + 1) : Nat) : Int) := hm2
    try simp only [Int.natCast_add, Int.natCast_one, Nat.cast_add, Nat.cast_one] at hm2
    refine lv_iload_n hx hb dX6_fullMany_4 rfl (lv_at hl 0 rfl) ?_
    refine lv_aload_n hx hb dX6_fullMany_5 rfl (lv_at hl 2 rfl) ?_
    refine va_get (D := (dC, dI)) (ci := 6) (v := .int vo_glasses) (C := RX6) (T := TX6) (N := 26) hx hb hts hwX6 hown hK hP 0 rfl rfl 6 (by decide) hf_97 (fun _ h9 => h9) rfl dX6_fullMany_6 ?_
    refine lv_icmp_ge (tgt := 34) hx hb dX6_fullMany_9 (by decide) (fun c_1 => ?_) (fun c_1 => ?_)
    · replace hT := cutT c_1 hT
      have g_7 := zleT (rfl : (vo_glasses).toInt = _) (rfl : (b1).toInt = _) c_1
      exact hex2 (b1, b2) _ _ _ ⟨(by omega : 0 ≤ b1.toInt), (by omega : b1.toInt ≤ vo_glasses.toInt), hT, hP.sub [0, 1, 2] rfl, hD.sub [0, 1, 2] rfl rfl, hS, lv_sub hl [1] rfl⟩
    · replace hT := cutF c_1 hT
      have g_8 := zleF (rfl : (vo_glasses).toInt = _) (rfl : (b1).toInt = _) c_1
      refine lv_iload_n hx hb dX6_fullMany_12 rfl (lv_at hl 1 rfl) ?_
      refine lv_aload_n hx hb dX6_fullMany_13 rfl (lv_at hl 2 rfl) ?_
      refine lv_iload_n hx hb dX6_fullMany_14 rfl (lv_at hl 0 rfl) ?_
      obtain ⟨r5, ev_2⟩ : ∃ x0, (m_X6_isFull vo_rows vo_amounts b1) = x0 := ⟨_, rfl⟩
      replace hT := cut_n ev_2 hT
      refine zz_ci [0, 1, 2] [] (wr := []) (w1 := [(o, .inr (6, [.ref o_page, .int vo_pageMany, .int vo_readMany, .int vo_state, .int vo_readMost, .ref o_readRows, .int vo_glasses, .int vo_towersRead, .int vo_poured, .ref o_rows, .ref o_turns, .ref o_amounts, .ref o_drank, .long vo_spilt, .ref o_takes, .ref o_leans, .ref o_would, .int vo_done, .int vo_seedNow, .int vo_keptTower, .int vo_keptPoured, .long vo_keptSpilt, .ref o_keptAmounts, .ref o_keptDrank, .ref o_keptTurns, .long vo_hash])), (o_rows, .inl (cI, 54, .inl vo_rows)), (o_amounts, .inl (cJ, 9, .inr (.inl vo_amounts)))]) (va_runV (As := [.int b1]) (rest := [.int b2]) ⟨hx, hb, hml, hown, hts⟩ (k_X6_isFull l dC dI cI cJ cC H.size o o_page o_readRows o_rows o_turns o_amounts o_drank o_takes o_leans o_would o_keptAmounts o_keptDrank o_keptTurns vo_pageMany vo_readMany vo_state vo_readMost vo_glasses vo_towersRead vo_poured vo_spilt vo_done vo_seedNow vo_keptTower vo_keptPoured vo_keptSpilt vo_hash vo_rows vo_amounts b1 r5 ev_2 (by first | omega | decide) (by first | omega | decide)) (cwV 1 hts gX6_fullMany_X6_isFull rfl rfl rfl (by decide +kernel) ⟨Nat.le_of_ble_eq_true rfl, Nat.le_of_ble_eq_true rfl⟩) (zz_preV [0, 1, 2] hK hP hD rfl rfl (va_recv hK hP (ci := 6) (q0 := 0) rfl rfl)) rfl rfl hl.1 rfl (lv_room (Nat.le_of_ble_eq_true rfl)) dX6_fullMany_15 ⟨Nat.zero_le _, Nat.zero_le _⟩) hP hD hS hA rfl rfl rfl (by decide) (fun ok_3 H locs hP hD hS => ?_)
      have hP : va_P (dC, dI) vwCl [(o, .inr (6, [.ref o_page, .int vo_pageMany, .int vo_readMany, .int vo_state, .int vo_readMost, .ref o_readRows, .int vo_glasses, .int vo_towersRead, .int vo_poured, .ref o_rows, .ref o_turns, .ref o_amounts, .ref o_drank, .long vo_spilt, .ref o_takes, .ref o_leans, .ref o_would, .int vo_done, .int vo_seedNow, .int vo_keptTower, .int vo_keptPoured, .long vo_keptSpilt, .ref o_keptAmounts, .ref o_keptDrank, .ref o_keptTurns, .long vo_hash])), (o_rows, .inl (cI, 54, .inl vo_rows)), (o_amounts, .inl (cJ, 9, .inr (.inl vo_amounts)))] H := hP
      have hD : va_D A [(o, .inr (6, [.ref o_page, .int vo_pageMany, .int vo_readMany, .int vo_state, .int vo_readMost, .ref o_readRows, .int vo_glasses, .int vo_towersRead, .int vo_poured, .ref o_rows, .ref o_turns, .ref o_amounts, .ref o_drank, .long vo_spilt, .ref o_takes, .ref o_leans, .ref o_would, .int vo_done, .int vo_seedNow, .int vo_keptTower, .int vo_keptPoured, .long vo_keptSpilt, .ref o_keptAmounts, .ref o_keptDrank, .ref o_keptTurns, .long vo_hash])), (o_rows, .inl (cI, 54, .inl vo_rows)), (o_amounts, .inl (cJ, 9, .inr (.inl vo_amounts)))] := hD
      refine zz_join1 hT 26 (fun v => [.int v, .int b2]) (fun v H locs ls => va_P (dC, dI) vwCl [(o, .inr (6, [.ref o_page, .int vo_pageMany, .int vo_readMany, .int vo_state, .int vo_readMost, .ref o_readRows, .int vo_glasses, .int vo_towersRead, .int vo_poured, .ref o_rows, .ref o_turns, .ref o_amounts, .ref o_drank, .long vo_spilt, .ref o_takes, .ref o_leans, .ref o_would, .int vo_done, .int vo_seedNow, .int vo_keptTower, .int vo_keptPoured, .long vo_keptSpilt, .ref o_keptAmounts, .ref o_keptDrank, .ref o_keptTurns, .long vo_hash])), (o_rows, .inl (cI, 54, .inl vo_rows)), (o_amounts, .inl (cJ, 9, .inr (.inl vo_amounts)))] H ∧ va_D A [(o, .inr (6, [.ref o_page, .int vo_pageMany, .int vo_readMany, .int vo_state, .int vo_readMost, .ref o_readRows, .int vo_glasses, .int vo_towersRead, .int vo_poured, .ref o_rows, .ref o_turns, .ref o_amounts, .ref o_drank, .long vo_spilt, .ref o_takes, .ref o_leans, .ref o_would, .int vo_done, .int vo_seedNow, .int vo_keptTower, .int vo_keptPoured, .long vo_keptSpilt, .ref o_keptAmounts, .ref o_keptDrank, .ref o_keptTurns, .long vo_hash])), (o_rows, .inl (cI, 54, .inl vo_rows)), (o_amounts, .inl (cJ, 9, .inr (.inl vo_amounts)))] ∧ va_S A s.heap H locs ∧ lv_has ls 3 [(0, .ref o), (2, .int b1)]) ?_ ?_
      · rintro j6 ej_9 H locs ls ⟨hP, hD, hS, hl⟩
        replace hT := cut_n ej_9 hT
        have hP : va_P (dC, dI) vwCl [(o, .inr (6, [.ref o_page, .int vo_pageMany, .int vo_readMany, .int vo_state, .int vo_readMost, .ref o_readRows, .int vo_glasses, .int vo_towersRead, .int vo_poured, .ref o_rows, .ref o_turns, .ref o_amounts, .ref o_drank, .long vo_spilt, .ref o_takes, .ref o_leans, .ref o_would, .int vo_done, .int vo_seedNow, .int vo_keptTower, .int vo_keptPoured, .long vo_keptSpilt, .ref o_keptAmounts, .ref o_keptDrank, .ref o_keptTurns, .long vo_hash])), (o_rows, .inl (cI, 54, .inl vo_rows)), (o_amounts, .inl (cJ, 9, .inr (.inl vo_amounts)))] H := hP
        have hD : va_D A [(o, .inr (6, [.ref o_page, .int vo_pageMany, .int vo_readMany, .int vo_state, .int vo_readMost, .ref o_readRows, .int vo_glasses, .int vo_towersRead, .int vo_poured, .ref o_rows, .ref o_turns, .ref o_amounts, .ref o_drank, .long vo_spilt, .ref o_takes, .ref o_leans, .ref o_would, .int vo_done, .int vo_seedNow, .int vo_keptTower, .int vo_keptPoured, .long vo_keptSpilt, .ref o_keptAmounts, .ref o_keptDrank, .ref o_keptTurns, .long vo_hash])), (o_rows, .inl (cI, 54, .inl vo_rows)), (o_amounts, .inl (cJ, 9, .inr (.inl vo_amounts)))] := hD
        have hl : lv_has ls 3 [(0, .ref o), (2, .int b1)] := hl
        refine lv_iadd hx hb dX6_fullMany_26 ?_
        refine lv_topi (fun v7 ev7 => ?_)
        replace hT := cut_n ev7.symm hT
        try have fv7 := zaddE (rfl : (b2).toInt = _) (rfl : (j6).toInt = _) ev7.symm (by omega) (by omega)
        refine lv_istore_n (lv' := [(1, .int v7), (0, .ref o), (2, .int b1)]) hx hb dX6_fullMany_27 rfl hl (by decide) rfl (fun ls hl => ?_)
        obtain ⟨v8, ev8⟩ : ∃ y : Int32, (b1 + (1 : Int32)) = y := ⟨_, rfl⟩
        replace hT := cut_n ev8 hT
        try have fv8 := zaddE (rfl : (b1).toInt = _) (by decide : ((1 : Int32)).toInt = 1) ev8 (by omega) (by omega)
        refine lv_iinc (v := v8) (lv' := [(2, .int v8), (1, .int v7), (0, .ref o)]) hx hb dX6_fullMany_28 hl (k := 2) rfl (by rw [← ev8]; rfl) (by decide) rfl (fun ls hl => ?_)
        refine lv_goto (tgt := 4) hx hb dX6_fullMany_31 (by decide) ?_
        exact ih2 (v8, v7) _ _ _ ⟨(by omega : 0 ≤ v8.toInt), (by omega : v8.toInt ≤ vo_glasses.toInt), (by omega : vo_glasses.toInt - v8.toInt < ((k2 : Nat) : Int)), hT, hP.sub [0, 1, 2] rfl, hD.sub [0, 1, 2] rfl rfl, hS, lv_sub hl [0, 1, 2] rfl⟩
      · intro xv hT hM
        refine lv_if_eq (tgt := 25) hx hb dX6_fullMany_18 (by decide) (fun c_4 => ?_) (fun c_4 => ?_)
        · replace hT := cutT c_4 hT
          have g_10 := zeqT (rfl : (r5).toInt = _) (by decide : ((0 : Int32)).toInt = 0) c_4
          refine lv_iconst (v := (0 : Int32)) hx hb dX6_fullMany_25 (by decide) ?_
          have hP9 := hP
          have hD9 := hD
          have hS9 := hS
          have hl9 := hl
          have hM9 := hM
          have hT : (0 : Int32) = xv := hT
          subst hT
          exact hM9 _ _ _ ⟨hP9.sub [0, 1, 2] rfl, hD9.sub [0, 1, 2] rfl rfl, hS9, lv_sub hl9 [2, 0] rfl⟩
        · replace hT := cutF c_4 hT
          have g_11 := zeqF (rfl : (r5).toInt = _) (by decide : ((0 : Int32)).toInt = 0) c_4
          refine lv_iconst (v := (1 : Int32)) hx hb dX6_fullMany_21 (by decide) ?_
          refine lv_goto (tgt := 26) hx hb dX6_fullMany_22 (by decide) ?_
          have hP9 := hP
          have hD9 := hD
          have hS9 := hS
          have hl9 := hl
          have hM9 := hM
          have hT : (1 : Int32) = xv := hT
          subst hT
          exact hM9 _ _ _ ⟨hP9.sub [0, 1, 2] rfl, hD9.sub [0, 1, 2] rfl rfl, hS9, lv_sub hl9 [2, 0] rfl⟩

def m_X6_tellGlass (vo_rows : Nat → Int32) (vo_turns : Nat → Int32) (vo_amounts : Nat → Int64) (p1 : Int32) (p2 : Int32) : Int32 :=
 if p2 = (0 : Int32) then
  (vo_rows ((6 : Int32) * p1).toNatClampNeg)
 else
 if p2 = (1 : Int32) then
  (vo_rows (((6 : Int32) * p1) + (1 : Int32)).toNatClampNeg)
 else
 if p2 = (2 : Int32) then
  cut (m_X6_takesOf vo_rows p1) (fun (r1 : Int32) =>
  r1)
 else
 if p2 = (3 : Int32) then
  (vo_rows ((((6 : Int32) * p1) + p2) - (1 : Int32)).toNatClampNeg)
 else
 if p2 = (4 : Int32) then
  (vo_rows ((((6 : Int32) * p1) + p2) - (1 : Int32)).toNatClampNeg)
 else
 if p2 = (5 : Int32) then
  (vo_rows ((((6 : Int32) * p1) + p2) - (1 : Int32)).toNatClampNeg)
 else
 if p2 = (6 : Int32) then
  (vo_rows ((((6 : Int32) * p1) + p2) - (1 : Int32)).toNatClampNeg)
 else
 if p2 = (7 : Int32) then
  (vo_turns p1.toNatClampNeg)
 else
 if p2 = (8 : Int32) then
  cut (m_X6_isFull vo_rows vo_amounts p1) (fun (r2 : Int32) =>
  if r2 = (0 : Int32) then
   (0 : Int32)
  else
   (1 : Int32))
 else
 (-102 : Int32)
set_option maxHeartbeats 4000000 in
set_option maxRecDepth 100000 in
theorem k_X6_tellGlass (l : Launch) (dC : Nat → ClassId) (dI : Nat → Nat → Nat) (cI cJ cC : ClassId) (sz : Nat) (o o_page o_readRows o_rows o_turns o_amounts o_drank o_takes o_leans o_would o_keptAmounts o_keptDrank o_keptTurns : Nat) (vo_pageMany : Int32) (vo_readMany : Int32) (vo_state : Int32) (vo_readMost : Int32) (vo_glasses : Int32) (vo_towersRead : Int32) (vo_poured : Int32) (vo_spilt : Int64) (vo_done : Int32) (vo_seedNow : Int32) (vo_keptTower : Int32) (vo_keptPoured : Int32) (vo_keptSpilt : Int64) (vo_hash : Int64) (vo_rows : Nat → Int32) (vo_turns : Nat → Int32) (vo_amounts : Nat → Int64) (p1 : Int32) (p2 : Int32) (r : Int32) (hT : m_X6_tellGlass vo_rows vo_turns vo_amounts p1 p2 = r) (h10 : 0 ≤ p1.toInt) (h19 : p1.toInt < 9) : Met l yX6_tellGlass wsX6_tellGlass ({ frames := 2, cells := 0, slots := 0, locals := 44 }) (zPc [.ref o, .int p1, .int p2] (dC, dI) (zTy cI cJ cC) [(o, .inr (6, [.ref o_page, .int vo_pageMany, .int vo_readMany, .int vo_state, .int vo_readMost, .ref o_readRows, .int vo_glasses, .int vo_towersRead, .int vo_poured, .ref o_rows, .ref o_turns, .ref o_amounts, .ref o_drank, .long vo_spilt, .ref o_takes, .ref o_leans, .ref o_would, .int vo_done, .int vo_seedNow, .int vo_keptTower, .int vo_keptPoured, .long vo_keptSpilt, .ref o_keptAmounts, .ref o_keptDrank, .ref o_keptTurns, .long vo_hash])), (o_rows, .inl (cI, 54, .inl vo_rows)), (o_turns, .inl (cI, 9, .inl vo_turns)), (o_amounts, .inl (cJ, 9, .inr (.inl vo_amounts)))] sz) (zQi r (True) (dC, dI) (zTy cI cJ cC) [(o, .inr (6, [.ref o_page, .int vo_pageMany, .int vo_readMany, .int vo_state, .int vo_readMost, .ref o_readRows, .int vo_glasses, .int vo_towersRead, .int vo_poured, .ref o_rows, .ref o_turns, .ref o_amounts, .ref o_drank, .long vo_spilt, .ref o_takes, .ref o_leans, .ref o_would, .int vo_done, .int vo_seedNow, .int vo_keptTower, .int vo_keptPoured, .long vo_keptSpilt, .ref o_keptAmounts, .ref o_keptDrank, .ref o_keptTurns, .long vo_hash])), (o_rows, .inl (cI, 54, .inl vo_rows)), (o_turns, .inl (cI, 9, .inl vo_turns)), (o_amounts, .inl (cJ, 9, .inr (.inl vo_amounts)))] (va_A [(o, .inr (6, [.ref o_page, .int vo_pageMany, .int vo_readMany, .int vo_state, .int vo_readMost, .ref o_readRows, .int vo_glasses, .int vo_towersRead, .int vo_poured, .ref o_rows, .ref o_turns, .ref o_amounts, .ref o_drank, .long vo_spilt, .ref o_takes, .ref o_leans, .ref o_would, .int vo_done, .int vo_seedNow, .int vo_keptTower, .int vo_keptPoured, .long vo_keptSpilt, .ref o_keptAmounts, .ref o_keptDrank, .ref o_keptTurns, .long vo_hash])), (o_rows, .inl (cI, 54, .inl vo_rows)), (o_turns, .inl (cI, 9, .inl vo_turns)), (o_amounts, .inl (cJ, 9, .inr (.inl vo_amounts)))] sz)) 0 0 (va_A [(o, .inr (6, [.ref o_page, .int vo_pageMany, .int vo_readMany, .int vo_state, .int vo_readMost, .ref o_readRows, .int vo_glasses, .int vo_towersRead, .int vo_poured, .ref o_rows, .ref o_turns, .ref o_amounts, .ref o_drank, .long vo_spilt, .ref o_takes, .ref o_leans, .ref o_would, .int vo_done, .int vo_seedNow, .int vo_keptTower, .int vo_keptPoured, .long vo_keptSpilt, .ref o_keptAmounts, .ref o_keptDrank, .ref o_keptTurns, .long vo_hash])), (o_rows, .inl (cI, 54, .inl vo_rows)), (o_turns, .inl (cI, 9, .inl vo_turns)), (o_amounts, .inl (cJ, 9, .inr (.inl vo_amounts)))] sz) := by
  refine Met.ofW (cc := cX6_tellGlass) (maxL := 3) (ret := (some .int)) (by decide) rfl ?_
  intro p e s m args below meth c s₁ B hml hv
  obtain ⟨rfl, hsz, hP, hK, hD0⟩ := hv
  have hx := B.exec
  have hb := B.bytes
  have hr := B.returns
  have hts := atoms_spec (ws := wsX6_tellGlass) B.pre
  have hown : s.vm.findClass RX6 = some m.cls := findClass_of_methodNamed B.named
  have hlocks := B.notSynchronized
  subst hsz
  have hD := hD0.self (sz := s.heap.size)
  generalize hAe : va_A [(o, .inr (6, [.ref o_page, .int vo_pageMany, .int vo_readMany, .int vo_state, .int vo_readMost, .ref o_readRows, .int vo_glasses, .int vo_towersRead, .int vo_poured, .ref o_rows, .ref o_turns, .ref o_amounts, .ref o_drank, .long vo_spilt, .ref o_takes, .ref o_leans, .ref o_would, .int vo_done, .int vo_seedNow, .int vo_keptTower, .int vo_keptPoured, .long vo_keptSpilt, .ref o_keptAmounts, .ref o_keptDrank, .ref o_keptTurns, .long vo_hash])), (o_rows, .inl (cI, 54, .inl vo_rows)), (o_turns, .inl (cI, 9, .inl vo_turns)), (o_amounts, .inl (cJ, 9, .inr (.inl vo_amounts)))] s.heap.size = A at hD ⊢
  have hA : ∀ q : Nat, s.heap.size ≤ q → A q := fun q h => by rw [← hAe]; exact Or.inr h
  have hS : va_S A s.heap s.heap [] := va_S.rf
  have hP : va_P (dC, dI) vwCl [(o, .inr (6, [.ref o_page, .int vo_pageMany, .int vo_readMany, .int vo_state, .int vo_readMost, .ref o_readRows, .int vo_glasses, .int vo_towersRead, .int vo_poured, .ref o_rows, .ref o_turns, .ref o_amounts, .ref o_drank, .long vo_spilt, .ref o_takes, .ref o_leans, .ref o_would, .int vo_done, .int vo_seedNow, .int vo_keptTower, .int vo_keptPoured, .long vo_keptSpilt, .ref o_keptAmounts, .ref o_keptDrank, .ref o_keptTurns, .long vo_hash])), (o_rows, .inl (cI, 54, .inl vo_rows)), (o_turns, .inl (cI, 9, .inl vo_turns)), (o_amounts, .inl (cJ, 9, .inr (.inl vo_amounts)))] s.heap := hP
  have hK : va_K (dC, dI) vwCl (zTy cI cJ cC) s := hK
  have hl := lv_entry ([.ref o, .int p1, .int p2]) (n := 3) (Nat.le_of_ble_eq_true rfl)
  rw [lg_entry_eq]
  generalize (lg_sl ([.ref o, .int p1, .int p2]) ++ List.replicate (3 - (lg_sl ([.ref o, .int p1, .int p2])).length) Slot.unset).toArray = ls at hl ⊢
  have hl : lv_has ls 3 [(0, .ref o), (1, .int p1), (2, .int p2)] := hl
  refine zz_start hP hS (fun Q hQ H locs hP hS => ?_)
  have hwX6 : ∀ w ∈ u_ws RX6 TX6 26, w ∈ wsX6_tellGlass := by decide +kernel
  have hf_16 := (hts (.fieldLink RX6 16 "PouredTopmostModel" "rows" "[I") (by decide +kernel))
  have hf_19 := (hts (.fieldLink RX6 19 "PouredTopmostModel" "turns" "[I") (by decide +kernel))
  refine lv_iload_n hx hb dX6_tellGlass_0 rfl (lv_at hl 2 rfl) ?_
  by_cases c_1 : p2 = (0 : Int32)
  · replace hT := cutT c_1 hT
    have g_37 := zeqT (rfl : (p2).toInt = _) (by decide : ((0 : Int32)).toInt = 0) c_1
    refine lv_tableIn (off := 51) (tgt := 52) hx hb dX6_tellGlass_1 (by rw [c_1]; decide) (by rw [c_1]; decide) (by rw [c_1]; rfl) (by decide) ?_
    refine lv_aload_n hx hb dX6_tellGlass_52 rfl (lv_at hl 0 rfl) ?_
    refine va_get (D := (dC, dI)) (ci := 6) (v := .ref o_rows) (C := RX6) (T := TX6) (N := 26) hx hb hts hwX6 hown hK hP 0 rfl rfl 9 (by decide) hf_16 (fun _ h9 => h9) rfl dX6_tellGlass_53 ?_
    refine lv_bipush (v := (6 : Int32)) hx hb dX6_tellGlass_56 (by decide) ?_
    refine lv_iload_n hx hb dX6_tellGlass_58 rfl (lv_at hl 1 rfl) ?_
    refine lv_imul hx hb dX6_tellGlass_59 ?_
    have e_3 := zmulE (v := ((6 : Int32) * p1)) (by decide : ((6 : Int32)).toInt = 6) (rfl : (p1).toInt = _) rfl (by omega) (by omega)
    have h_2 : vp_in ((6 : Int32) * p1) 54 := zin (by omega) (by omega)
    refine va_iald hx hb hK hP 1 0 rfl rfl h_2 dX6_tellGlass_60 ?_
    have hP9 := hP
    have hD9 := hD
    have hS9 := hS
    have hT : (vo_rows ((6 : Int32) * p1).toNatClampNeg) = r := hT
    subst hT
    subst hQ
    exact zz_iret hx hb hr [0, 1, 2, 3] hK hP9 hD9 hS9 rfl rfl trivial hlocks dX6_tellGlass_61
  replace hT := cutF c_1 hT
  have g_38 := zeqF (rfl : (p2).toInt = _) (by decide : ((0 : Int32)).toInt = 0) c_1
  by_cases c_4 : p2 = (1 : Int32)
  · replace hT := cutT c_4 hT
    have g_39 := zeqT (rfl : (p2).toInt = _) (by decide : ((1 : Int32)).toInt = 1) c_4
    refine lv_tableIn (off := 61) (tgt := 62) hx hb dX6_tellGlass_1 (by rw [c_4]; decide) (by rw [c_4]; decide) (by rw [c_4]; rfl) (by decide) ?_
    refine lv_aload_n hx hb dX6_tellGlass_62 rfl (lv_at hl 0 rfl) ?_
    refine va_get (D := (dC, dI)) (ci := 6) (v := .ref o_rows) (C := RX6) (T := TX6) (N := 26) hx hb hts hwX6 hown hK hP 0 rfl rfl 9 (by decide) hf_16 (fun _ h9 => h9) rfl dX6_tellGlass_63 ?_
    refine lv_bipush (v := (6 : Int32)) hx hb dX6_tellGlass_66 (by decide) ?_
    refine lv_iload_n hx hb dX6_tellGlass_68 rfl (lv_at hl 1 rfl) ?_
    refine lv_imul hx hb dX6_tellGlass_69 ?_
    refine lv_iconst (v := (1 : Int32)) hx hb dX6_tellGlass_70 (by decide) ?_
    refine lv_iadd hx hb dX6_tellGlass_71 ?_
    have e_6 := zmulE (v := ((6 : Int32) * p1)) (by decide : ((6 : Int32)).toInt = 6) (rfl : (p1).toInt = _) rfl (by omega) (by omega)
    have e_7 := zaddE (v := (((6 : Int32) * p1) + (1 : Int32))) e_6 (by decide : ((1 : Int32)).toInt = 1) rfl (by omega) (by omega)
    have h_5 : vp_in (((6 : Int32) * p1) + (1 : Int32)) 54 := zin (by omega) (by omega)
    refine va_iald hx hb hK hP 1 0 rfl rfl h_5 dX6_tellGlass_72 ?_
    have hP9 := hP
    have hD9 := hD
    have hS9 := hS
    have hT : (vo_rows (((6 : Int32) * p1) + (1 : Int32)).toNatClampNeg) = r := hT
    subst hT
    subst hQ
    exact zz_iret hx hb hr [0, 1, 2, 3] hK hP9 hD9 hS9 rfl rfl trivial hlocks dX6_tellGlass_73
  replace hT := cutF c_4 hT
  have g_40 := zeqF (rfl : (p2).toInt = _) (by decide : ((1 : Int32)).toInt = 1) c_4
  by_cases c_8 : p2 = (2 : Int32)
  · replace hT := cutT c_8 hT
    have g_41 := zeqT (rfl : (p2).toInt = _) (by decide : ((2 : Int32)).toInt = 2) c_8
    refine lv_tableIn (off := 73) (tgt := 74) hx hb dX6_tellGlass_1 (by rw [c_8]; decide) (by rw [c_8]; decide) (by rw [c_8]; rfl) (by decide) ?_
    refine lv_aload_n hx hb dX6_tellGlass_74 rfl (lv_at hl 0 rfl) ?_
    refine lv_iload_n hx hb dX6_tellGlass_75 rfl (lv_at hl 1 rfl) ?_
    obtain ⟨r1, ev_9⟩ : ∃ x0, (m_X6_takesOf vo_rows p1) = x0 := ⟨_, rfl⟩
    replace hT := cut_n ev_9 hT
    refine zz_ci [0, 1] [2, 3] (wr := [(o_turns, .inl (cI, 9, .inl vo_turns)), (o_amounts, .inl (cJ, 9, .inr (.inl vo_amounts)))]) (w1 := [(o, .inr (6, [.ref o_page, .int vo_pageMany, .int vo_readMany, .int vo_state, .int vo_readMost, .ref o_readRows, .int vo_glasses, .int vo_towersRead, .int vo_poured, .ref o_rows, .ref o_turns, .ref o_amounts, .ref o_drank, .long vo_spilt, .ref o_takes, .ref o_leans, .ref o_would, .int vo_done, .int vo_seedNow, .int vo_keptTower, .int vo_keptPoured, .long vo_keptSpilt, .ref o_keptAmounts, .ref o_keptDrank, .ref o_keptTurns, .long vo_hash])), (o_rows, .inl (cI, 54, .inl vo_rows))]) (va_runV (As := [.int p1]) (rest := []) ⟨hx, hb, hml, hown, hts⟩ (k_X6_takesOf l dC dI cI cJ cC H.size o o_page o_readRows o_rows o_turns o_amounts o_drank o_takes o_leans o_would o_keptAmounts o_keptDrank o_keptTurns vo_pageMany vo_readMany vo_state vo_readMost vo_glasses vo_towersRead vo_poured vo_spilt vo_done vo_seedNow vo_keptTower vo_keptPoured vo_keptSpilt vo_hash vo_rows p1 r1 ev_9 h10 h19) (cwV 1 hts gX6_tellGlass_X6_takesOf rfl rfl rfl (by decide +kernel) ⟨Nat.le_of_ble_eq_true rfl, Nat.le_of_ble_eq_true rfl⟩) (zz_preV [0, 1] hK hP hD rfl rfl (va_recv hK hP (ci := 6) (q0 := 0) rfl rfl)) rfl rfl hl.1 rfl (lv_room (Nat.le_of_ble_eq_true rfl)) dX6_tellGlass_76 ⟨Nat.zero_le _, Nat.zero_le _⟩) hP hD hS hA rfl rfl rfl (by decide) (fun ok_10 H locs hP hD hS => ?_)
    have hP : va_P (dC, dI) vwCl [(o_turns, .inl (cI, 9, .inl vo_turns)), (o_amounts, .inl (cJ, 9, .inr (.inl vo_amounts))), (o, .inr (6, [.ref o_page, .int vo_pageMany, .int vo_readMany, .int vo_state, .int vo_readMost, .ref o_readRows, .int vo_glasses, .int vo_towersRead, .int vo_poured, .ref o_rows, .ref o_turns, .ref o_amounts, .ref o_drank, .long vo_spilt, .ref o_takes, .ref o_leans, .ref o_would, .int vo_done, .int vo_seedNow, .int vo_keptTower, .int vo_keptPoured, .long vo_keptSpilt, .ref o_keptAmounts, .ref o_keptDrank, .ref o_keptTurns, .long vo_hash])), (o_rows, .inl (cI, 54, .inl vo_rows))] H := hP
    have hD : va_D A [(o_turns, .inl (cI, 9, .inl vo_turns)), (o_amounts, .inl (cJ, 9, .inr (.inl vo_amounts))), (o, .inr (6, [.ref o_page, .int vo_pageMany, .int vo_readMany, .int vo_state, .int vo_readMost, .ref o_readRows, .int vo_glasses, .int vo_towersRead, .int vo_poured, .ref o_rows, .ref o_turns, .ref o_amounts, .ref o_drank, .long vo_spilt, .ref o_takes, .ref o_leans, .ref o_would, .int vo_done, .int vo_seedNow, .int vo_keptTower, .int vo_keptPoured, .long vo_keptSpilt, .ref o_keptAmounts, .ref o_keptDrank, .ref o_keptTurns, .long vo_hash])), (o_rows, .inl (cI, 54, .inl vo_rows))] := hD
    have hP9 := hP
    have hD9 := hD
    have hS9 := hS
    have hT : r1 = r := hT
    subst hT
    subst hQ
    exact zz_iret hx hb hr [2, 3, 0, 1] hK hP9 hD9 hS9 rfl rfl trivial hlocks dX6_tellGlass_79
  replace hT := cutF c_8 hT
  have g_42 := zeqF (rfl : (p2).toInt = _) (by decide : ((2 : Int32)).toInt = 2) c_8
  by_cases c_11 : p2 = (3 : Int32)
  · replace hT := cutT c_11 hT
    have g_43 := zeqT (rfl : (p2).toInt = _) (by decide : ((3 : Int32)).toInt = 3) c_11
    refine lv_tableIn (off := 79) (tgt := 80) hx hb dX6_tellGlass_1 (by rw [c_11]; decide) (by rw [c_11]; decide) (by rw [c_11]; rfl) (by decide) ?_
    refine lv_aload_n hx hb dX6_tellGlass_80 rfl (lv_at hl 0 rfl) ?_
    refine va_get (D := (dC, dI)) (ci := 6) (v := .ref o_rows) (C := RX6) (T := TX6) (N := 26) hx hb hts hwX6 hown hK hP 0 rfl rfl 9 (by decide) hf_16 (fun _ h9 => h9) rfl dX6_tellGlass_81 ?_
    refine lv_bipush (v := (6 : Int32)) hx hb dX6_tellGlass_84 (by decide) ?_
    refine lv_iload_n hx hb dX6_tellGlass_86 rfl (lv_at hl 1 rfl) ?_
    refine lv_imul hx hb dX6_tellGlass_87 ?_
    refine lv_iload_n hx hb dX6_tellGlass_88 rfl (lv_at hl 2 rfl) ?_
    refine lv_iadd hx hb dX6_tellGlass_89 ?_
    refine lv_iconst (v := (1 : Int32)) hx hb dX6_tellGlass_90 (by decide) ?_
    refine lv_isub hx hb dX6_tellGlass_91 ?_
    have e_13 := zmulE (v := ((6 : Int32) * p1)) (by decide : ((6 : Int32)).toInt = 6) (rfl : (p1).toInt = _) rfl (by omega) (by omega)
    have e_14 := zaddE (v := (((6 : Int32) * p1) + p2)) e_13 (rfl : (p2).toInt = _) rfl (by omega) (by omega)
    have e_15 := zsubE (v := ((((6 : Int32) * p1) + p2) - (1 : Int32))) e_14 (by decide : ((1 : Int32)).toInt = 1) rfl (by omega) (by omega)
    have h_12 : vp_in ((((6 : Int32) * p1) + p2) - (1 : Int32)) 54 := zin (by omega) (by omega)
    refine va_iald hx hb hK hP 1 0 rfl rfl h_12 dX6_tellGlass_92 ?_
    have hP9 := hP
    have hD9 := hD
    have hS9 := hS
    have hT : (vo_rows ((((6 : Int32) * p1) + p2) - (1 : Int32)).toNatClampNeg) = r := hT
    subst hT
    subst hQ
    exact zz_iret hx hb hr [0, 1, 2, 3] hK hP9 hD9 hS9 rfl rfl trivial hlocks dX6_tellGlass_93
  replace hT := cutF c_11 hT
  have g_44 := zeqF (rfl : (p2).toInt = _) (by decide : ((3 : Int32)).toInt = 3) c_11
  by_cases c_16 : p2 = (4 : Int32)
  · replace hT := cutT c_16 hT
    have g_45 := zeqT (rfl : (p2).toInt = _) (by decide : ((4 : Int32)).toInt = 4) c_16
    refine lv_tableIn (off := 79) (tgt := 80) hx hb dX6_tellGlass_1 (by rw [c_16]; decide) (by rw [c_16]; decide) (by rw [c_16]; rfl) (by decide) ?_
    refine lv_aload_n hx hb dX6_tellGlass_80 rfl (lv_at hl 0 rfl) ?_
    refine va_get (D := (dC, dI)) (ci := 6) (v := .ref o_rows) (C := RX6) (T := TX6) (N := 26) hx hb hts hwX6 hown hK hP 0 rfl rfl 9 (by decide) hf_16 (fun _ h9 => h9) rfl dX6_tellGlass_81 ?_
    refine lv_bipush (v := (6 : Int32)) hx hb dX6_tellGlass_84 (by decide) ?_
    refine lv_iload_n hx hb dX6_tellGlass_86 rfl (lv_at hl 1 rfl) ?_
    refine lv_imul hx hb dX6_tellGlass_87 ?_
    refine lv_iload_n hx hb dX6_tellGlass_88 rfl (lv_at hl 2 rfl) ?_
    refine lv_iadd hx hb dX6_tellGlass_89 ?_
    refine lv_iconst (v := (1 : Int32)) hx hb dX6_tellGlass_90 (by decide) ?_
    refine lv_isub hx hb dX6_tellGlass_91 ?_
    have e_18 := zmulE (v := ((6 : Int32) * p1)) (by decide : ((6 : Int32)).toInt = 6) (rfl : (p1).toInt = _) rfl (by omega) (by omega)
    have e_19 := zaddE (v := (((6 : Int32) * p1) + p2)) e_18 (rfl : (p2).toInt = _) rfl (by omega) (by omega)
    have e_20 := zsubE (v := ((((6 : Int32) * p1) + p2) - (1 : Int32))) e_19 (by decide : ((1 : Int32)).toInt = 1) rfl (by omega) (by omega)
    have h_17 : vp_in ((((6 : Int32) * p1) + p2) - (1 : Int32)) 54 := zin (by omega) (by omega)
    refine va_iald hx hb hK hP 1 0 rfl rfl h_17 dX6_tellGlass_92 ?_
    have hP9 := hP
    have hD9 := hD
    have hS9 := hS
    have hT : (vo_rows ((((6 : Int32) * p1) + p2) - (1 : Int32)).toNatClampNeg) = r := hT
    subst hT
    subst hQ
    exact zz_iret hx hb hr [0, 1, 2, 3] hK hP9 hD9 hS9 rfl rfl trivial hlocks dX6_tellGlass_93
  replace hT := cutF c_16 hT
  have g_46 := zeqF (rfl : (p2).toInt = _) (by decide : ((4 : Int32)).toInt = 4) c_16
  by_cases c_21 : p2 = (5 : Int32)
  · replace hT := cutT c_21 hT
    have g_47 := zeqT (rfl : (p2).toInt = _) (by decide : ((5 : Int32)).toInt = 5) c_21
    refine lv_tableIn (off := 79) (tgt := 80) hx hb dX6_tellGlass_1 (by rw [c_21]; decide) (by rw [c_21]; decide) (by rw [c_21]; rfl) (by decide) ?_
    refine lv_aload_n hx hb dX6_tellGlass_80 rfl (lv_at hl 0 rfl) ?_
    refine va_get (D := (dC, dI)) (ci := 6) (v := .ref o_rows) (C := RX6) (T := TX6) (N := 26) hx hb hts hwX6 hown hK hP 0 rfl rfl 9 (by decide) hf_16 (fun _ h9 => h9) rfl dX6_tellGlass_81 ?_
    refine lv_bipush (v := (6 : Int32)) hx hb dX6_tellGlass_84 (by decide) ?_
    refine lv_iload_n hx hb dX6_tellGlass_86 rfl (lv_at hl 1 rfl) ?_
    refine lv_imul hx hb dX6_tellGlass_87 ?_
    refine lv_iload_n hx hb dX6_tellGlass_88 rfl (lv_at hl 2 rfl) ?_
    refine lv_iadd hx hb dX6_tellGlass_89 ?_
    refine lv_iconst (v := (1 : Int32)) hx hb dX6_tellGlass_90 (by decide) ?_
    refine lv_isub hx hb dX6_tellGlass_91 ?_
    have e_23 := zmulE (v := ((6 : Int32) * p1)) (by decide : ((6 : Int32)).toInt = 6) (rfl : (p1).toInt = _) rfl (by omega) (by omega)
    have e_24 := zaddE (v := (((6 : Int32) * p1) + p2)) e_23 (rfl : (p2).toInt = _) rfl (by omega) (by omega)
    have e_25 := zsubE (v := ((((6 : Int32) * p1) + p2) - (1 : Int32))) e_24 (by decide : ((1 : Int32)).toInt = 1) rfl (by omega) (by omega)
    have h_22 : vp_in ((((6 : Int32) * p1) + p2) - (1 : Int32)) 54 := zin (by omega) (by omega)
    refine va_iald hx hb hK hP 1 0 rfl rfl h_22 dX6_tellGlass_92 ?_
    have hP9 := hP
    have hD9 := hD
    have hS9 := hS
    have hT : (vo_rows ((((6 : Int32) * p1) + p2) - (1 : Int32)).toNatClampNeg) = r := hT
    subst hT
    subst hQ
    exact zz_iret hx hb hr [0, 1, 2, 3] hK hP9 hD9 hS9 rfl rfl trivial hlocks dX6_tellGlass_93
  replace hT := cutF c_21 hT
  have g_48 := zeqF (rfl : (p2).toInt = _) (by decide : ((5 : Int32)).toInt = 5) c_21
  by_cases c_26 : p2 = (6 : Int32)
  · replace hT := cutT c_26 hT
    have g_49 := zeqT (rfl : (p2).toInt = _) (by decide : ((6 : Int32)).toInt = 6) c_26
    refine lv_tableIn (off := 79) (tgt := 80) hx hb dX6_tellGlass_1 (by rw [c_26]; decide) (by rw [c_26]; decide) (by rw [c_26]; rfl) (by decide) ?_
    refine lv_aload_n hx hb dX6_tellGlass_80 rfl (lv_at hl 0 rfl) ?_
    refine va_get (D := (dC, dI)) (ci := 6) (v := .ref o_rows) (C := RX6) (T := TX6) (N := 26) hx hb hts hwX6 hown hK hP 0 rfl rfl 9 (by decide) hf_16 (fun _ h9 => h9) rfl dX6_tellGlass_81 ?_
    refine lv_bipush (v := (6 : Int32)) hx hb dX6_tellGlass_84 (by decide) ?_
    refine lv_iload_n hx hb dX6_tellGlass_86 rfl (lv_at hl 1 rfl) ?_
    refine lv_imul hx hb dX6_tellGlass_87 ?_
    refine lv_iload_n hx hb dX6_tellGlass_88 rfl (lv_at hl 2 rfl) ?_
    refine lv_iadd hx hb dX6_tellGlass_89 ?_
    refine lv_iconst (v := (1 : Int32)) hx hb dX6_tellGlass_90 (by decide) ?_
    refine lv_isub hx hb dX6_tellGlass_91 ?_
    have e_28 := zmulE (v := ((6 : Int32) * p1)) (by decide : ((6 : Int32)).toInt = 6) (rfl : (p1).toInt = _) rfl (by omega) (by omega)
    have e_29 := zaddE (v := (((6 : Int32) * p1) + p2)) e_28 (rfl : (p2).toInt = _) rfl (by omega) (by omega)
    have e_30 := zsubE (v := ((((6 : Int32) * p1) + p2) - (1 : Int32))) e_29 (by decide : ((1 : Int32)).toInt = 1) rfl (by omega) (by omega)
    have h_27 : vp_in ((((6 : Int32) * p1) + p2) - (1 : Int32)) 54 := zin (by omega) (by omega)
    refine va_iald hx hb hK hP 1 0 rfl rfl h_27 dX6_tellGlass_92 ?_
    have hP9 := hP
    have hD9 := hD
    have hS9 := hS
    have hT : (vo_rows ((((6 : Int32) * p1) + p2) - (1 : Int32)).toNatClampNeg) = r := hT
    subst hT
    subst hQ
    exact zz_iret hx hb hr [0, 1, 2, 3] hK hP9 hD9 hS9 rfl rfl trivial hlocks dX6_tellGlass_93
  replace hT := cutF c_26 hT
  have g_50 := zeqF (rfl : (p2).toInt = _) (by decide : ((6 : Int32)).toInt = 6) c_26
  by_cases c_31 : p2 = (7 : Int32)
  · replace hT := cutT c_31 hT
    have g_51 := zeqT (rfl : (p2).toInt = _) (by decide : ((7 : Int32)).toInt = 7) c_31
    refine lv_tableIn (off := 93) (tgt := 94) hx hb dX6_tellGlass_1 (by rw [c_31]; decide) (by rw [c_31]; decide) (by rw [c_31]; rfl) (by decide) ?_
    refine lv_aload_n hx hb dX6_tellGlass_94 rfl (lv_at hl 0 rfl) ?_
    refine va_get (D := (dC, dI)) (ci := 6) (v := .ref o_turns) (C := RX6) (T := TX6) (N := 26) hx hb hts hwX6 hown hK hP 0 rfl rfl 10 (by decide) hf_19 (fun _ h9 => h9) rfl dX6_tellGlass_95 ?_
    refine lv_iload_n hx hb dX6_tellGlass_98 rfl (lv_at hl 1 rfl) ?_
    have h_32 : vp_in p1 9 := zin (by omega) (by omega)
    refine va_iald hx hb hK hP 2 0 rfl rfl h_32 dX6_tellGlass_99 ?_
    have hP9 := hP
    have hD9 := hD
    have hS9 := hS
    have hT : (vo_turns p1.toNatClampNeg) = r := hT
    subst hT
    subst hQ
    exact zz_iret hx hb hr [0, 1, 2, 3] hK hP9 hD9 hS9 rfl rfl trivial hlocks dX6_tellGlass_100
  replace hT := cutF c_31 hT
  have g_52 := zeqF (rfl : (p2).toInt = _) (by decide : ((7 : Int32)).toInt = 7) c_31
  by_cases c_33 : p2 = (8 : Int32)
  · replace hT := cutT c_33 hT
    have g_53 := zeqT (rfl : (p2).toInt = _) (by decide : ((8 : Int32)).toInt = 8) c_33
    refine lv_tableIn (off := 100) (tgt := 101) hx hb dX6_tellGlass_1 (by rw [c_33]; decide) (by rw [c_33]; decide) (by rw [c_33]; rfl) (by decide) ?_
    refine lv_aload_n hx hb dX6_tellGlass_101 rfl (lv_at hl 0 rfl) ?_
    refine lv_iload_n hx hb dX6_tellGlass_102 rfl (lv_at hl 1 rfl) ?_
    obtain ⟨r2, ev_34⟩ : ∃ x0, (m_X6_isFull vo_rows vo_amounts p1) = x0 := ⟨_, rfl⟩
    replace hT := cut_n ev_34 hT
    refine zz_ci [0, 1, 3] [2] (wr := [(o_turns, .inl (cI, 9, .inl vo_turns))]) (w1 := [(o, .inr (6, [.ref o_page, .int vo_pageMany, .int vo_readMany, .int vo_state, .int vo_readMost, .ref o_readRows, .int vo_glasses, .int vo_towersRead, .int vo_poured, .ref o_rows, .ref o_turns, .ref o_amounts, .ref o_drank, .long vo_spilt, .ref o_takes, .ref o_leans, .ref o_would, .int vo_done, .int vo_seedNow, .int vo_keptTower, .int vo_keptPoured, .long vo_keptSpilt, .ref o_keptAmounts, .ref o_keptDrank, .ref o_keptTurns, .long vo_hash])), (o_rows, .inl (cI, 54, .inl vo_rows)), (o_amounts, .inl (cJ, 9, .inr (.inl vo_amounts)))]) (va_runV (As := [.int p1]) (rest := []) ⟨hx, hb, hml, hown, hts⟩ (k_X6_isFull l dC dI cI cJ cC H.size o o_page o_readRows o_rows o_turns o_amounts o_drank o_takes o_leans o_would o_keptAmounts o_keptDrank o_keptTurns vo_pageMany vo_readMany vo_state vo_readMost vo_glasses vo_towersRead vo_poured vo_spilt vo_done vo_seedNow vo_keptTower vo_keptPoured vo_keptSpilt vo_hash vo_rows vo_amounts p1 r2 ev_34 h10 h19) (cwV 1 hts gX6_tellGlass_X6_isFull rfl rfl rfl (by decide +kernel) ⟨Nat.le_of_ble_eq_true rfl, Nat.le_of_ble_eq_true rfl⟩) (zz_preV [0, 1, 3] hK hP hD rfl rfl (va_recv hK hP (ci := 6) (q0 := 0) rfl rfl)) rfl rfl hl.1 rfl (lv_room (Nat.le_of_ble_eq_true rfl)) dX6_tellGlass_103 ⟨Nat.zero_le _, Nat.zero_le _⟩) hP hD hS hA rfl rfl rfl (by decide) (fun ok_35 H locs hP hD hS => ?_)
    have hP : va_P (dC, dI) vwCl [(o_turns, .inl (cI, 9, .inl vo_turns)), (o, .inr (6, [.ref o_page, .int vo_pageMany, .int vo_readMany, .int vo_state, .int vo_readMost, .ref o_readRows, .int vo_glasses, .int vo_towersRead, .int vo_poured, .ref o_rows, .ref o_turns, .ref o_amounts, .ref o_drank, .long vo_spilt, .ref o_takes, .ref o_leans, .ref o_would, .int vo_done, .int vo_seedNow, .int vo_keptTower, .int vo_keptPoured, .long vo_keptSpilt, .ref o_keptAmounts, .ref o_keptDrank, .ref o_keptTurns, .long vo_hash])), (o_rows, .inl (cI, 54, .inl vo_rows)), (o_amounts, .inl (cJ, 9, .inr (.inl vo_amounts)))] H := hP
    have hD : va_D A [(o_turns, .inl (cI, 9, .inl vo_turns)), (o, .inr (6, [.ref o_page, .int vo_pageMany, .int vo_readMany, .int vo_state, .int vo_readMost, .ref o_readRows, .int vo_glasses, .int vo_towersRead, .int vo_poured, .ref o_rows, .ref o_turns, .ref o_amounts, .ref o_drank, .long vo_spilt, .ref o_takes, .ref o_leans, .ref o_would, .int vo_done, .int vo_seedNow, .int vo_keptTower, .int vo_keptPoured, .long vo_keptSpilt, .ref o_keptAmounts, .ref o_keptDrank, .ref o_keptTurns, .long vo_hash])), (o_rows, .inl (cI, 54, .inl vo_rows)), (o_amounts, .inl (cJ, 9, .inr (.inl vo_amounts)))] := hD
    refine lv_if_eq (tgt := 113) hx hb dX6_tellGlass_106 (by decide) (fun c_36 => ?_) (fun c_36 => ?_)
    · replace hT := cutT c_36 hT
      have g_54 := zeqT (rfl : (r2).toInt = _) (by decide : ((0 : Int32)).toInt = 0) c_36
      refine lv_iconst (v := (0 : Int32)) hx hb dX6_tellGlass_113 (by decide) ?_
      have hP9 := hP
      have hD9 := hD
      have hS9 := hS
      have hT : (0 : Int32) = r := hT
      subst hT
      subst hQ
      exact zz_iret hx hb hr [1, 2, 0, 3] hK hP9 hD9 hS9 rfl rfl trivial hlocks dX6_tellGlass_114
    · replace hT := cutF c_36 hT
      have g_55 := zeqF (rfl : (r2).toInt = _) (by decide : ((0 : Int32)).toInt = 0) c_36
      refine lv_iconst (v := (1 : Int32)) hx hb dX6_tellGlass_109 (by decide) ?_
      refine lv_goto (tgt := 114) hx hb dX6_tellGlass_110 (by decide) ?_
      have hP9 := hP
      have hD9 := hD
      have hS9 := hS
      have hT : (1 : Int32) = r := hT
      subst hT
      subst hQ
      exact zz_iret hx hb hr [1, 2, 0, 3] hK hP9 hD9 hS9 rfl rfl trivial hlocks dX6_tellGlass_114
  replace hT := cutF c_33 hT
  have g_56 := zeqF (rfl : (p2).toInt = _) (by decide : ((8 : Int32)).toInt = 8) c_33
  refine lv_tableOut (tgt := 115) hx hb dX6_tellGlass_1 (by omega) (by decide) ?_
  refine lv_bipush (v := (-102 : Int32)) hx hb dX6_tellGlass_115 (by decide) ?_
  have hP9 := hP
  have hD9 := hD
  have hS9 := hS
  have hT : (-102 : Int32) = r := hT
  subst hT
  subst hQ
  exact zz_iret hx hb hr [0, 1, 2, 3] hK hP9 hD9 hS9 rfl rfl trivial hlocks dX6_tellGlass_117

def m_X6_about (vo_glasses : Int32) (vo_rows : Nat → Int32) (vo_turns : Nat → Int32) (vo_amounts : Nat → Int64) (p1 : Int32) (p2 : Int32) : Int32 :=
 cut (m_X6_isGlass vo_glasses p1) (fun (r1 : Int32) =>
 if r1 = (0 : Int32) then
  (-101 : Int32)
 else
  cut (m_X6_tellGlass vo_rows vo_turns vo_amounts p1 p2) (fun (r2 : Int32) =>
  r2))
set_option maxHeartbeats 4000000 in
set_option maxRecDepth 100000 in
theorem k_X6_about (l : Launch) (dC : Nat → ClassId) (dI : Nat → Nat → Nat) (cI cJ cC : ClassId) (sz : Nat) (o o_page o_readRows o_rows o_turns o_amounts o_drank o_takes o_leans o_would o_keptAmounts o_keptDrank o_keptTurns : Nat) (vo_pageMany : Int32) (vo_readMany : Int32) (vo_state : Int32) (vo_readMost : Int32) (vo_glasses : Int32) (vo_towersRead : Int32) (vo_poured : Int32) (vo_spilt : Int64) (vo_done : Int32) (vo_seedNow : Int32) (vo_keptTower : Int32) (vo_keptPoured : Int32) (vo_keptSpilt : Int64) (vo_hash : Int64) (vo_rows : Nat → Int32) (vo_turns : Nat → Int32) (vo_amounts : Nat → Int64) (p1 : Int32) (p2 : Int32) (r : Int32) (hT : m_X6_about vo_glasses vo_rows vo_turns vo_amounts p1 p2 = r) (hg0 : 0 ≤ vo_glasses.toInt) (hg9 : vo_glasses.toInt ≤ 9) : Met l yX6_about wsX6_about ({ frames := 3, cells := 0, slots := 0, locals := 66 }) (zPc [.ref o, .int p1, .int p2] (dC, dI) (zTy cI cJ cC) [(o, .inr (6, [.ref o_page, .int vo_pageMany, .int vo_readMany, .int vo_state, .int vo_readMost, .ref o_readRows, .int vo_glasses, .int vo_towersRead, .int vo_poured, .ref o_rows, .ref o_turns, .ref o_amounts, .ref o_drank, .long vo_spilt, .ref o_takes, .ref o_leans, .ref o_would, .int vo_done, .int vo_seedNow, .int vo_keptTower, .int vo_keptPoured, .long vo_keptSpilt, .ref o_keptAmounts, .ref o_keptDrank, .ref o_keptTurns, .long vo_hash])), (o_rows, .inl (cI, 54, .inl vo_rows)), (o_turns, .inl (cI, 9, .inl vo_turns)), (o_amounts, .inl (cJ, 9, .inr (.inl vo_amounts)))] sz) (zQi r (True) (dC, dI) (zTy cI cJ cC) [(o, .inr (6, [.ref o_page, .int vo_pageMany, .int vo_readMany, .int vo_state, .int vo_readMost, .ref o_readRows, .int vo_glasses, .int vo_towersRead, .int vo_poured, .ref o_rows, .ref o_turns, .ref o_amounts, .ref o_drank, .long vo_spilt, .ref o_takes, .ref o_leans, .ref o_would, .int vo_done, .int vo_seedNow, .int vo_keptTower, .int vo_keptPoured, .long vo_keptSpilt, .ref o_keptAmounts, .ref o_keptDrank, .ref o_keptTurns, .long vo_hash])), (o_rows, .inl (cI, 54, .inl vo_rows)), (o_turns, .inl (cI, 9, .inl vo_turns)), (o_amounts, .inl (cJ, 9, .inr (.inl vo_amounts)))] (va_A [(o, .inr (6, [.ref o_page, .int vo_pageMany, .int vo_readMany, .int vo_state, .int vo_readMost, .ref o_readRows, .int vo_glasses, .int vo_towersRead, .int vo_poured, .ref o_rows, .ref o_turns, .ref o_amounts, .ref o_drank, .long vo_spilt, .ref o_takes, .ref o_leans, .ref o_would, .int vo_done, .int vo_seedNow, .int vo_keptTower, .int vo_keptPoured, .long vo_keptSpilt, .ref o_keptAmounts, .ref o_keptDrank, .ref o_keptTurns, .long vo_hash])), (o_rows, .inl (cI, 54, .inl vo_rows)), (o_turns, .inl (cI, 9, .inl vo_turns)), (o_amounts, .inl (cJ, 9, .inr (.inl vo_amounts)))] sz)) 0 0 (va_A [(o, .inr (6, [.ref o_page, .int vo_pageMany, .int vo_readMany, .int vo_state, .int vo_readMost, .ref o_readRows, .int vo_glasses, .int vo_towersRead, .int vo_poured, .ref o_rows, .ref o_turns, .ref o_amounts, .ref o_drank, .long vo_spilt, .ref o_takes, .ref o_leans, .ref o_would, .int vo_done, .int vo_seedNow, .int vo_keptTower, .int vo_keptPoured, .long vo_keptSpilt, .ref o_keptAmounts, .ref o_keptDrank, .ref o_keptTurns, .long vo_hash])), (o_rows, .inl (cI, 54, .inl vo_rows)), (o_turns, .inl (cI, 9, .inl vo_turns)), (o_amounts, .inl (cJ, 9, .inr (.inl vo_amounts)))] sz) := by
  refine Met.ofW (cc := cX6_about) (maxL := 3) (ret := (some .int)) (by decide) rfl ?_
  intro p e s m args below meth c s₁ B hml hv
  obtain ⟨rfl, hsz, hP, hK, hD0⟩ := hv
  have hx := B.exec
  have hb := B.bytes
  have hr := B.returns
  have hts := atoms_spec (ws := wsX6_about) B.pre
  have hown : s.vm.findClass RX6 = some m.cls := findClass_of_methodNamed B.named
  have hlocks := B.notSynchronized
  subst hsz
  have hD := hD0.self (sz := s.heap.size)
  generalize hAe : va_A [(o, .inr (6, [.ref o_page, .int vo_pageMany, .int vo_readMany, .int vo_state, .int vo_readMost, .ref o_readRows, .int vo_glasses, .int vo_towersRead, .int vo_poured, .ref o_rows, .ref o_turns, .ref o_amounts, .ref o_drank, .long vo_spilt, .ref o_takes, .ref o_leans, .ref o_would, .int vo_done, .int vo_seedNow, .int vo_keptTower, .int vo_keptPoured, .long vo_keptSpilt, .ref o_keptAmounts, .ref o_keptDrank, .ref o_keptTurns, .long vo_hash])), (o_rows, .inl (cI, 54, .inl vo_rows)), (o_turns, .inl (cI, 9, .inl vo_turns)), (o_amounts, .inl (cJ, 9, .inr (.inl vo_amounts)))] s.heap.size = A at hD ⊢
  have hA : ∀ q : Nat, s.heap.size ≤ q → A q := fun q h => by rw [← hAe]; exact Or.inr h
  have hS : va_S A s.heap s.heap [] := va_S.rf
  have hP : va_P (dC, dI) vwCl [(o, .inr (6, [.ref o_page, .int vo_pageMany, .int vo_readMany, .int vo_state, .int vo_readMost, .ref o_readRows, .int vo_glasses, .int vo_towersRead, .int vo_poured, .ref o_rows, .ref o_turns, .ref o_amounts, .ref o_drank, .long vo_spilt, .ref o_takes, .ref o_leans, .ref o_would, .int vo_done, .int vo_seedNow, .int vo_keptTower, .int vo_keptPoured, .long vo_keptSpilt, .ref o_keptAmounts, .ref o_keptDrank, .ref o_keptTurns, .long vo_hash])), (o_rows, .inl (cI, 54, .inl vo_rows)), (o_turns, .inl (cI, 9, .inl vo_turns)), (o_amounts, .inl (cJ, 9, .inr (.inl vo_amounts)))] s.heap := hP
  have hK : va_K (dC, dI) vwCl (zTy cI cJ cC) s := hK
  have hl := lv_entry ([.ref o, .int p1, .int p2]) (n := 3) (Nat.le_of_ble_eq_true rfl)
  rw [lg_entry_eq]
  generalize (lg_sl ([.ref o, .int p1, .int p2]) ++ List.replicate (3 - (lg_sl ([.ref o, .int p1, .int p2])).length) Slot.unset).toArray = ls at hl ⊢
  have hl : lv_has ls 3 [(0, .ref o), (1, .int p1), (2, .int p2)] := hl
  refine zz_start hP hS (fun Q hQ H locs hP hS => ?_)
  refine lv_aload_n hx hb dX6_about_0 rfl (lv_at hl 0 rfl) ?_
  refine lv_iload_n hx hb dX6_about_1 rfl (lv_at hl 1 rfl) ?_
  obtain ⟨r1, ev_1⟩ : ∃ x0, (m_X6_isGlass vo_glasses p1) = x0 := ⟨_, rfl⟩
  replace hT := cut_n ev_1 hT
  refine zz_ci [0] [1, 2, 3] (wr := [(o_rows, .inl (cI, 54, .inl vo_rows)), (o_turns, .inl (cI, 9, .inl vo_turns)), (o_amounts, .inl (cJ, 9, .inr (.inl vo_amounts)))]) (w1 := [(o, .inr (6, [.ref o_page, .int vo_pageMany, .int vo_readMany, .int vo_state, .int vo_readMost, .ref o_readRows, .int vo_glasses, .int vo_towersRead, .int vo_poured, .ref o_rows, .ref o_turns, .ref o_amounts, .ref o_drank, .long vo_spilt, .ref o_takes, .ref o_leans, .ref o_would, .int vo_done, .int vo_seedNow, .int vo_keptTower, .int vo_keptPoured, .long vo_keptSpilt, .ref o_keptAmounts, .ref o_keptDrank, .ref o_keptTurns, .long vo_hash]))]) (va_runV (As := [.int p1]) (rest := []) ⟨hx, hb, hml, hown, hts⟩ (k_X6_isGlass l dC dI cI cJ cC H.size o o_page o_readRows o_rows o_turns o_amounts o_drank o_takes o_leans o_would o_keptAmounts o_keptDrank o_keptTurns vo_pageMany vo_readMany vo_state vo_readMost vo_glasses vo_towersRead vo_poured vo_spilt vo_done vo_seedNow vo_keptTower vo_keptPoured vo_keptSpilt vo_hash p1 r1 ev_1 hg0 hg9) (cwV 1 hts gX6_about_X6_isGlass rfl rfl rfl (by decide +kernel) ⟨Nat.le_of_ble_eq_true rfl, Nat.le_of_ble_eq_true rfl⟩) (zz_preV [0] hK hP hD rfl rfl (va_recv hK hP (ci := 6) (q0 := 0) rfl rfl)) rfl rfl hl.1 rfl (lv_room (Nat.le_of_ble_eq_true rfl)) dX6_about_2 ⟨Nat.zero_le _, Nat.zero_le _⟩) hP hD hS hA rfl rfl rfl (by decide) (fun ok_2 H locs hP hD hS => ?_)
  have hP : va_P (dC, dI) vwCl [(o_rows, .inl (cI, 54, .inl vo_rows)), (o_turns, .inl (cI, 9, .inl vo_turns)), (o_amounts, .inl (cJ, 9, .inr (.inl vo_amounts))), (o, .inr (6, [.ref o_page, .int vo_pageMany, .int vo_readMany, .int vo_state, .int vo_readMost, .ref o_readRows, .int vo_glasses, .int vo_towersRead, .int vo_poured, .ref o_rows, .ref o_turns, .ref o_amounts, .ref o_drank, .long vo_spilt, .ref o_takes, .ref o_leans, .ref o_would, .int vo_done, .int vo_seedNow, .int vo_keptTower, .int vo_keptPoured, .long vo_keptSpilt, .ref o_keptAmounts, .ref o_keptDrank, .ref o_keptTurns, .long vo_hash]))] H := hP
  have hD : va_D A [(o_rows, .inl (cI, 54, .inl vo_rows)), (o_turns, .inl (cI, 9, .inl vo_turns)), (o_amounts, .inl (cJ, 9, .inr (.inl vo_amounts))), (o, .inr (6, [.ref o_page, .int vo_pageMany, .int vo_readMany, .int vo_state, .int vo_readMost, .ref o_readRows, .int vo_glasses, .int vo_towersRead, .int vo_poured, .ref o_rows, .ref o_turns, .ref o_amounts, .ref o_drank, .long vo_spilt, .ref o_takes, .ref o_leans, .ref o_would, .int vo_done, .int vo_seedNow, .int vo_keptTower, .int vo_keptPoured, .long vo_keptSpilt, .ref o_keptAmounts, .ref o_keptDrank, .ref o_keptTurns, .long vo_hash]))] := hD
  obtain ⟨k_3, k_4⟩ := ok_2
  refine lv_if_eq (tgt := 17) hx hb dX6_about_5 (by decide) (fun c_5 => ?_) (fun c_5 => ?_)
  · replace hT := cutT c_5 hT
    have g_8 := zeqT (rfl : (r1).toInt = _) (by decide : ((0 : Int32)).toInt = 0) c_5
    refine lv_bipush (v := (-101 : Int32)) hx hb dX6_about_17 (by decide) ?_
    have hP9 := hP
    have hD9 := hD
    have hS9 := hS
    have hT : (-101 : Int32) = r := hT
    subst hT
    subst hQ
    exact zz_iret hx hb hr [3, 0, 1, 2] hK hP9 hD9 hS9 rfl rfl trivial hlocks dX6_about_19
  · replace hT := cutF c_5 hT
    have g_9 := zeqF (rfl : (r1).toInt = _) (by decide : ((0 : Int32)).toInt = 0) c_5
    refine lv_aload_n hx hb dX6_about_8 rfl (lv_at hl 0 rfl) ?_
    refine lv_iload_n hx hb dX6_about_9 rfl (lv_at hl 1 rfl) ?_
    refine lv_iload_n hx hb dX6_about_10 rfl (lv_at hl 2 rfl) ?_
    obtain ⟨r2, ev_6⟩ : ∃ x0, (m_X6_tellGlass vo_rows vo_turns vo_amounts p1 p2) = x0 := ⟨_, rfl⟩
    replace hT := cut_n ev_6 hT
    refine zz_ci [3, 0, 1, 2] [] (wr := []) (w1 := [(o, .inr (6, [.ref o_page, .int vo_pageMany, .int vo_readMany, .int vo_state, .int vo_readMost, .ref o_readRows, .int vo_glasses, .int vo_towersRead, .int vo_poured, .ref o_rows, .ref o_turns, .ref o_amounts, .ref o_drank, .long vo_spilt, .ref o_takes, .ref o_leans, .ref o_would, .int vo_done, .int vo_seedNow, .int vo_keptTower, .int vo_keptPoured, .long vo_keptSpilt, .ref o_keptAmounts, .ref o_keptDrank, .ref o_keptTurns, .long vo_hash])), (o_rows, .inl (cI, 54, .inl vo_rows)), (o_turns, .inl (cI, 9, .inl vo_turns)), (o_amounts, .inl (cJ, 9, .inr (.inl vo_amounts)))]) (va_runV (As := [.int p1, .int p2]) (rest := []) ⟨hx, hb, hml, hown, hts⟩ (k_X6_tellGlass l dC dI cI cJ cC H.size o o_page o_readRows o_rows o_turns o_amounts o_drank o_takes o_leans o_would o_keptAmounts o_keptDrank o_keptTurns vo_pageMany vo_readMany vo_state vo_readMost vo_glasses vo_towersRead vo_poured vo_spilt vo_done vo_seedNow vo_keptTower vo_keptPoured vo_keptSpilt vo_hash vo_rows vo_turns vo_amounts p1 p2 r2 ev_6 (by first | omega | decide) (by first | omega | decide)) (cwV 2 hts gX6_about_X6_tellGlass rfl rfl rfl (by decide +kernel) ⟨Nat.le_of_ble_eq_true rfl, Nat.le_of_ble_eq_true rfl⟩) (zz_preV [3, 0, 1, 2] hK hP hD rfl rfl (va_recv hK hP (ci := 6) (q0 := 3) rfl rfl)) rfl rfl hl.1 rfl (lv_room (Nat.le_of_ble_eq_true rfl)) dX6_about_11 ⟨Nat.zero_le _, Nat.zero_le _⟩) hP hD hS hA rfl rfl rfl (by decide) (fun ok_7 H locs hP hD hS => ?_)
    have hP : va_P (dC, dI) vwCl [(o, .inr (6, [.ref o_page, .int vo_pageMany, .int vo_readMany, .int vo_state, .int vo_readMost, .ref o_readRows, .int vo_glasses, .int vo_towersRead, .int vo_poured, .ref o_rows, .ref o_turns, .ref o_amounts, .ref o_drank, .long vo_spilt, .ref o_takes, .ref o_leans, .ref o_would, .int vo_done, .int vo_seedNow, .int vo_keptTower, .int vo_keptPoured, .long vo_keptSpilt, .ref o_keptAmounts, .ref o_keptDrank, .ref o_keptTurns, .long vo_hash])), (o_rows, .inl (cI, 54, .inl vo_rows)), (o_turns, .inl (cI, 9, .inl vo_turns)), (o_amounts, .inl (cJ, 9, .inr (.inl vo_amounts)))] H := hP
    have hD : va_D A [(o, .inr (6, [.ref o_page, .int vo_pageMany, .int vo_readMany, .int vo_state, .int vo_readMost, .ref o_readRows, .int vo_glasses, .int vo_towersRead, .int vo_poured, .ref o_rows, .ref o_turns, .ref o_amounts, .ref o_drank, .long vo_spilt, .ref o_takes, .ref o_leans, .ref o_would, .int vo_done, .int vo_seedNow, .int vo_keptTower, .int vo_keptPoured, .long vo_keptSpilt, .ref o_keptAmounts, .ref o_keptDrank, .ref o_keptTurns, .long vo_hash])), (o_rows, .inl (cI, 54, .inl vo_rows)), (o_turns, .inl (cI, 9, .inl vo_turns)), (o_amounts, .inl (cJ, 9, .inr (.inl vo_amounts)))] := hD
    refine lv_goto (tgt := 19) hx hb dX6_about_14 (by decide) ?_
    have hP9 := hP
    have hD9 := hD
    have hS9 := hS
    have hT : r2 = r := hT
    subst hT
    subst hQ
    exact zz_iret hx hb hr [0, 1, 2, 3] hK hP9 hD9 hS9 rfl rfl trivial hlocks dX6_about_19

def m_X6_as (vo_glasses : Int32) (vo_rows : Nat → Int32) (p1 : Int32) (p2 : Int32) : Int32 :=
 cut (m_X6_isGlass vo_glasses p1) (fun (r1 : Int32) =>
 if r1 = (0 : Int32) then
  (-101 : Int32)
 else
  cut (m_X6_isIn (p2.toInt64) (0 : Int64) (4 : Int64)) (fun (r2 : Int32) =>
  if r2 = (0 : Int32) then
   (-102 : Int32)
  else
   cut (vo_rows ((6 : Int32) * p1).toNatClampNeg) (fun (v3 : Int32) =>
   cut (
    if p2 = (0 : Int32) then
     (1 : Int32)
    else
     if p2 = v3 then
      (1 : Int32)
     else
      if p2 = (2 : Int32) then
       if v3 = (4 : Int32) then
        (1 : Int32)
       else
        (0 : Int32)
      else
       (0 : Int32)) (fun (j4 : Int32) =>
   if j4 = (0 : Int32) then
    (-1 : Int32)
   else
    p1))))
set_option maxHeartbeats 4000000 in
set_option maxRecDepth 100000 in
theorem k_X6_as (l : Launch) (dC : Nat → ClassId) (dI : Nat → Nat → Nat) (cI cJ cC : ClassId) (sz : Nat) (o o_page o_readRows o_rows o_turns o_amounts o_drank o_takes o_leans o_would o_keptAmounts o_keptDrank o_keptTurns : Nat) (vo_pageMany : Int32) (vo_readMany : Int32) (vo_state : Int32) (vo_readMost : Int32) (vo_glasses : Int32) (vo_towersRead : Int32) (vo_poured : Int32) (vo_spilt : Int64) (vo_done : Int32) (vo_seedNow : Int32) (vo_keptTower : Int32) (vo_keptPoured : Int32) (vo_keptSpilt : Int64) (vo_hash : Int64) (vo_rows : Nat → Int32) (p1 : Int32) (p2 : Int32) (r : Int32) (hT : m_X6_as vo_glasses vo_rows p1 p2 = r) (hg0 : 0 ≤ vo_glasses.toInt) (hg9 : vo_glasses.toInt ≤ 9) : Met l yX6_as wsX6_as ({ frames := 2, cells := 0, slots := 0, locals := 46 }) (zPc [.ref o, .int p1, .int p2] (dC, dI) (zTy cI cJ cC) [(o, .inr (6, [.ref o_page, .int vo_pageMany, .int vo_readMany, .int vo_state, .int vo_readMost, .ref o_readRows, .int vo_glasses, .int vo_towersRead, .int vo_poured, .ref o_rows, .ref o_turns, .ref o_amounts, .ref o_drank, .long vo_spilt, .ref o_takes, .ref o_leans, .ref o_would, .int vo_done, .int vo_seedNow, .int vo_keptTower, .int vo_keptPoured, .long vo_keptSpilt, .ref o_keptAmounts, .ref o_keptDrank, .ref o_keptTurns, .long vo_hash])), (o_rows, .inl (cI, 54, .inl vo_rows))] sz) (zQi r (True) (dC, dI) (zTy cI cJ cC) [(o, .inr (6, [.ref o_page, .int vo_pageMany, .int vo_readMany, .int vo_state, .int vo_readMost, .ref o_readRows, .int vo_glasses, .int vo_towersRead, .int vo_poured, .ref o_rows, .ref o_turns, .ref o_amounts, .ref o_drank, .long vo_spilt, .ref o_takes, .ref o_leans, .ref o_would, .int vo_done, .int vo_seedNow, .int vo_keptTower, .int vo_keptPoured, .long vo_keptSpilt, .ref o_keptAmounts, .ref o_keptDrank, .ref o_keptTurns, .long vo_hash])), (o_rows, .inl (cI, 54, .inl vo_rows))] (va_A [(o, .inr (6, [.ref o_page, .int vo_pageMany, .int vo_readMany, .int vo_state, .int vo_readMost, .ref o_readRows, .int vo_glasses, .int vo_towersRead, .int vo_poured, .ref o_rows, .ref o_turns, .ref o_amounts, .ref o_drank, .long vo_spilt, .ref o_takes, .ref o_leans, .ref o_would, .int vo_done, .int vo_seedNow, .int vo_keptTower, .int vo_keptPoured, .long vo_keptSpilt, .ref o_keptAmounts, .ref o_keptDrank, .ref o_keptTurns, .long vo_hash])), (o_rows, .inl (cI, 54, .inl vo_rows))] sz)) 0 0 (va_A [(o, .inr (6, [.ref o_page, .int vo_pageMany, .int vo_readMany, .int vo_state, .int vo_readMost, .ref o_readRows, .int vo_glasses, .int vo_towersRead, .int vo_poured, .ref o_rows, .ref o_turns, .ref o_amounts, .ref o_drank, .long vo_spilt, .ref o_takes, .ref o_leans, .ref o_would, .int vo_done, .int vo_seedNow, .int vo_keptTower, .int vo_keptPoured, .long vo_keptSpilt, .ref o_keptAmounts, .ref o_keptDrank, .ref o_keptTurns, .long vo_hash])), (o_rows, .inl (cI, 54, .inl vo_rows))] sz) := by
  refine Met.ofW (cc := cX6_as) (maxL := 5) (ret := (some .int)) (by decide) rfl ?_
  intro p e s m args below meth c s₁ B hml hv
  obtain ⟨rfl, hsz, hP, hK, hD0⟩ := hv
  have hx := B.exec
  have hb := B.bytes
  have hr := B.returns
  have hts := atoms_spec (ws := wsX6_as) B.pre
  have hown : s.vm.findClass RX6 = some m.cls := findClass_of_methodNamed B.named
  have hlocks := B.notSynchronized
  subst hsz
  have hD := hD0.self (sz := s.heap.size)
  generalize hAe : va_A [(o, .inr (6, [.ref o_page, .int vo_pageMany, .int vo_readMany, .int vo_state, .int vo_readMost, .ref o_readRows, .int vo_glasses, .int vo_towersRead, .int vo_poured, .ref o_rows, .ref o_turns, .ref o_amounts, .ref o_drank, .long vo_spilt, .ref o_takes, .ref o_leans, .ref o_would, .int vo_done, .int vo_seedNow, .int vo_keptTower, .int vo_keptPoured, .long vo_keptSpilt, .ref o_keptAmounts, .ref o_keptDrank, .ref o_keptTurns, .long vo_hash])), (o_rows, .inl (cI, 54, .inl vo_rows))] s.heap.size = A at hD ⊢
  have hA : ∀ q : Nat, s.heap.size ≤ q → A q := fun q h => by rw [← hAe]; exact Or.inr h
  have hS : va_S A s.heap s.heap [] := va_S.rf
  have hP : va_P (dC, dI) vwCl [(o, .inr (6, [.ref o_page, .int vo_pageMany, .int vo_readMany, .int vo_state, .int vo_readMost, .ref o_readRows, .int vo_glasses, .int vo_towersRead, .int vo_poured, .ref o_rows, .ref o_turns, .ref o_amounts, .ref o_drank, .long vo_spilt, .ref o_takes, .ref o_leans, .ref o_would, .int vo_done, .int vo_seedNow, .int vo_keptTower, .int vo_keptPoured, .long vo_keptSpilt, .ref o_keptAmounts, .ref o_keptDrank, .ref o_keptTurns, .long vo_hash])), (o_rows, .inl (cI, 54, .inl vo_rows))] s.heap := hP
  have hK : va_K (dC, dI) vwCl (zTy cI cJ cC) s := hK
  have hl := lv_entry ([.ref o, .int p1, .int p2]) (n := 5) (Nat.le_of_ble_eq_true rfl)
  rw [lg_entry_eq]
  generalize (lg_sl ([.ref o, .int p1, .int p2]) ++ List.replicate (5 - (lg_sl ([.ref o, .int p1, .int p2])).length) Slot.unset).toArray = ls at hl ⊢
  have hl : lv_has ls 5 [(0, .ref o), (1, .int p1), (2, .int p2)] := hl
  refine zz_start hP hS (fun Q hQ H locs hP hS => ?_)
  have hwX6 : ∀ w ∈ u_ws RX6 TX6 26, w ∈ wsX6_as := by decide +kernel
  have hc_128 := (hts (.constantLong RX6 128 (4)) (by decide +kernel))
  have hf_16 := (hts (.fieldLink RX6 16 "PouredTopmostModel" "rows" "[I") (by decide +kernel))
  refine lv_aload_n hx hb dX6_as_0 rfl (lv_at hl 0 rfl) ?_
  refine lv_iload_n hx hb dX6_as_1 rfl (lv_at hl 1 rfl) ?_
  obtain ⟨r1, ev_1⟩ : ∃ x0, (m_X6_isGlass vo_glasses p1) = x0 := ⟨_, rfl⟩
  replace hT := cut_n ev_1 hT
  refine zz_ci [0] [1] (wr := [(o_rows, .inl (cI, 54, .inl vo_rows))]) (w1 := [(o, .inr (6, [.ref o_page, .int vo_pageMany, .int vo_readMany, .int vo_state, .int vo_readMost, .ref o_readRows, .int vo_glasses, .int vo_towersRead, .int vo_poured, .ref o_rows, .ref o_turns, .ref o_amounts, .ref o_drank, .long vo_spilt, .ref o_takes, .ref o_leans, .ref o_would, .int vo_done, .int vo_seedNow, .int vo_keptTower, .int vo_keptPoured, .long vo_keptSpilt, .ref o_keptAmounts, .ref o_keptDrank, .ref o_keptTurns, .long vo_hash]))]) (va_runV (As := [.int p1]) (rest := []) ⟨hx, hb, hml, hown, hts⟩ (k_X6_isGlass l dC dI cI cJ cC H.size o o_page o_readRows o_rows o_turns o_amounts o_drank o_takes o_leans o_would o_keptAmounts o_keptDrank o_keptTurns vo_pageMany vo_readMany vo_state vo_readMost vo_glasses vo_towersRead vo_poured vo_spilt vo_done vo_seedNow vo_keptTower vo_keptPoured vo_keptSpilt vo_hash p1 r1 ev_1 hg0 hg9) (cwV 1 hts gX6_as_X6_isGlass rfl rfl rfl (by decide +kernel) ⟨Nat.le_of_ble_eq_true rfl, Nat.le_of_ble_eq_true rfl⟩) (zz_preV [0] hK hP hD rfl rfl (va_recv hK hP (ci := 6) (q0 := 0) rfl rfl)) rfl rfl hl.1 rfl (lv_room (Nat.le_of_ble_eq_true rfl)) dX6_as_2 ⟨Nat.zero_le _, Nat.zero_le _⟩) hP hD hS hA rfl rfl rfl (by decide) (fun ok_2 H locs hP hD hS => ?_)
  have hP : va_P (dC, dI) vwCl [(o_rows, .inl (cI, 54, .inl vo_rows)), (o, .inr (6, [.ref o_page, .int vo_pageMany, .int vo_readMany, .int vo_state, .int vo_readMost, .ref o_readRows, .int vo_glasses, .int vo_towersRead, .int vo_poured, .ref o_rows, .ref o_turns, .ref o_amounts, .ref o_drank, .long vo_spilt, .ref o_takes, .ref o_leans, .ref o_would, .int vo_done, .int vo_seedNow, .int vo_keptTower, .int vo_keptPoured, .long vo_keptSpilt, .ref o_keptAmounts, .ref o_keptDrank, .ref o_keptTurns, .long vo_hash]))] H := hP
  have hD : va_D A [(o_rows, .inl (cI, 54, .inl vo_rows)), (o, .inr (6, [.ref o_page, .int vo_pageMany, .int vo_readMany, .int vo_state, .int vo_readMost, .ref o_readRows, .int vo_glasses, .int vo_towersRead, .int vo_poured, .ref o_rows, .ref o_turns, .ref o_amounts, .ref o_drank, .long vo_spilt, .ref o_takes, .ref o_leans, .ref o_would, .int vo_done, .int vo_seedNow, .int vo_keptTower, .int vo_keptPoured, .long vo_keptSpilt, .ref o_keptAmounts, .ref o_keptDrank, .ref o_keptTurns, .long vo_hash]))] := hD
  obtain ⟨k_3, k_4⟩ := ok_2
  refine lv_if_ne (tgt := 11) hx hb dX6_as_5 (by decide) (fun c_5 => ?_) (fun c_5 => ?_)
  · replace hT := cutF c_5 hT
    have g_21 := zeqF (rfl : (r1).toInt = _) (by decide : ((0 : Int32)).toInt = 0) c_5
    refine lv_iload_n hx hb dX6_as_11 rfl (lv_at hl 2 rfl) ?_
    refine lv_i2l (v := (p2.toInt64)) hx hb dX6_as_12 rfl ?_
    refine lv_lconst (v := (0 : Int64)) hx hb dX6_as_13 (by decide) ?_
    refine lv_ldc2 (v := (4 : Int64)) hx hb hown hc_128 dX6_as_14 ?_
    obtain ⟨r2, ev_6⟩ : ∃ x0, (m_X6_isIn (p2.toInt64) (0 : Int64) (4 : Int64)) = x0 := ⟨_, rfl⟩
    replace hT := cut_n ev_6 hT
    refine zz_ci [] [0, 1] (wr := [(o_rows, .inl (cI, 54, .inl vo_rows)), (o, .inr (6, [.ref o_page, .int vo_pageMany, .int vo_readMany, .int vo_state, .int vo_readMost, .ref o_readRows, .int vo_glasses, .int vo_towersRead, .int vo_poured, .ref o_rows, .ref o_turns, .ref o_amounts, .ref o_drank, .long vo_spilt, .ref o_takes, .ref o_leans, .ref o_would, .int vo_done, .int vo_seedNow, .int vo_keptTower, .int vo_keptPoured, .long vo_keptSpilt, .ref o_keptAmounts, .ref o_keptDrank, .ref o_keptTurns, .long vo_hash]))]) (w1 := []) (va_runS (As := [.long (p2.toInt64), .long (0 : Int64), .long (4 : Int64)]) (rest := []) ⟨hx, hb, hml, hown, hts⟩ (k_X6_isIn l dC dI cI cJ cC H.size (p2.toInt64) (0 : Int64) (4 : Int64) r2 ev_6) (va_cwS 3 hts gX6_as_X6_isIn rfl rfl rfl (by decide +kernel) ⟨Nat.le_of_ble_eq_true rfl, Nat.le_of_ble_eq_true rfl⟩) (zz_preS [] hK hP hD rfl rfl) rfl rfl hl.1 rfl (lv_room (Nat.le_of_ble_eq_true rfl)) dX6_as_17 ⟨Nat.zero_le _, Nat.zero_le _⟩) hP hD hS hA rfl rfl rfl (by decide) (fun ok_7 H locs hP hD hS => ?_)
    have hP : va_P (dC, dI) vwCl [(o_rows, .inl (cI, 54, .inl vo_rows)), (o, .inr (6, [.ref o_page, .int vo_pageMany, .int vo_readMany, .int vo_state, .int vo_readMost, .ref o_readRows, .int vo_glasses, .int vo_towersRead, .int vo_poured, .ref o_rows, .ref o_turns, .ref o_amounts, .ref o_drank, .long vo_spilt, .ref o_takes, .ref o_leans, .ref o_would, .int vo_done, .int vo_seedNow, .int vo_keptTower, .int vo_keptPoured, .long vo_keptSpilt, .ref o_keptAmounts, .ref o_keptDrank, .ref o_keptTurns, .long vo_hash]))] H := hP
    have hD : va_D A [(o_rows, .inl (cI, 54, .inl vo_rows)), (o, .inr (6, [.ref o_page, .int vo_pageMany, .int vo_readMany, .int vo_state, .int vo_readMost, .ref o_readRows, .int vo_glasses, .int vo_towersRead, .int vo_poured, .ref o_rows, .ref o_turns, .ref o_amounts, .ref o_drank, .long vo_spilt, .ref o_takes, .ref o_leans, .ref o_would, .int vo_done, .int vo_seedNow, .int vo_keptTower, .int vo_keptPoured, .long vo_keptSpilt, .ref o_keptAmounts, .ref o_keptDrank, .ref o_keptTurns, .long vo_hash]))] := hD
    have hz_8 : ((p2.toInt64)).toInt = (p2).toInt := Int32.toInt_toInt64 _
    have hz_9 : ((0 : Int64)).toInt = 0 := by decide
    have hz_10 : ((4 : Int64)).toInt = 4 := by decide
    obtain ⟨k_11, k_12⟩ := ok_7
    refine lv_if_ne (tgt := 26) hx hb dX6_as_20 (by decide) (fun c_13 => ?_) (fun c_13 => ?_)
    · replace hT := cutF c_13 hT
      have g_22 := zeqF (rfl : (r2).toInt = _) (by decide : ((0 : Int32)).toInt = 0) c_13
      refine lv_aload_n hx hb dX6_as_26 rfl (lv_at hl 0 rfl) ?_
      refine va_get (D := (dC, dI)) (ci := 6) (v := .ref o_rows) (C := RX6) (T := TX6) (N := 26) hx hb hts hwX6 hown hK hP 1 rfl rfl 9 (by decide) hf_16 (fun _ h9 => h9) rfl dX6_as_27 ?_
      refine lv_bipush (v := (6 : Int32)) hx hb dX6_as_30 (by decide) ?_
      refine lv_iload_n hx hb dX6_as_32 rfl (lv_at hl 1 rfl) ?_
      refine lv_imul hx hb dX6_as_33 ?_
      have e_15 := zmulE (v := ((6 : Int32) * p1)) (by decide : ((6 : Int32)).toInt = 6) (rfl : (p1).toInt = _) rfl (by omega) (by omega)
      have h_14 : vp_in ((6 : Int32) * p1) 54 := zin (by omega) (by omega)
      refine va_iald hx hb hK hP 0 0 rfl rfl h_14 dX6_as_34 ?_
      refine lv_topi (fun v3 ev3 => ?_)
      replace hT := cut_n ev3.symm hT
      have fv3 : (v3).toInt = (vo_rows ((6 : Int32) * p1).toNatClampNeg).toInt := by rw [ev3]
      refine lv_istore_n (lv' := [(3, .int v3), (0, .ref o), (1, .int p1), (2, .int p2)]) hx hb dX6_as_35 rfl hl (by decide) rfl (fun ls hl => ?_)
      refine lv_iload_n hx hb dX6_as_36 rfl (lv_at hl 3 rfl) ?_
      refine zz_join1 hT 60 (fun v => [.int v]) (fun v H locs ls => va_P (dC, dI) vwCl [(o_rows, .inl (cI, 54, .inl vo_rows)), (o, .inr (6, [.ref o_page, .int vo_pageMany, .int vo_readMany, .int vo_state, .int vo_readMost, .ref o_readRows, .int vo_glasses, .int vo_towersRead, .int vo_poured, .ref o_rows, .ref o_turns, .ref o_amounts, .ref o_drank, .long vo_spilt, .ref o_takes, .ref o_leans, .ref o_would, .int vo_done, .int vo_seedNow, .int vo_keptTower, .int vo_keptPoured, .long vo_keptSpilt, .ref o_keptAmounts, .ref o_keptDrank, .ref o_keptTurns, .long vo_hash]))] H ∧ va_D A [(o_rows, .inl (cI, 54, .inl vo_rows)), (o, .inr (6, [.ref o_page, .int vo_pageMany, .int vo_readMany, .int vo_state, .int vo_readMost, .ref o_readRows, .int vo_glasses, .int vo_towersRead, .int vo_poured, .ref o_rows, .ref o_turns, .ref o_amounts, .ref o_drank, .long vo_spilt, .ref o_takes, .ref o_leans, .ref o_would, .int vo_done, .int vo_seedNow, .int vo_keptTower, .int vo_keptPoured, .long vo_keptSpilt, .ref o_keptAmounts, .ref o_keptDrank, .ref o_keptTurns, .long vo_hash]))] ∧ va_S A s.heap H locs ∧ lv_has ls 5 [(1, .int p1)]) ?_ ?_
      · rintro j4 ej_23 H locs ls ⟨hP, hD, hS, hl⟩
        replace hT := cut_n ej_23 hT
        have hP : va_P (dC, dI) vwCl [(o_rows, .inl (cI, 54, .inl vo_rows)), (o, .inr (6, [.ref o_page, .int vo_pageMany, .int vo_readMany, .int vo_state, .int vo_readMost, .ref o_readRows, .int vo_glasses, .int vo_towersRead, .int vo_poured, .ref o_rows, .ref o_turns, .ref o_amounts, .ref o_drank, .long vo_spilt, .ref o_takes, .ref o_leans, .ref o_would, .int vo_done, .int vo_seedNow, .int vo_keptTower, .int vo_keptPoured, .long vo_keptSpilt, .ref o_keptAmounts, .ref o_keptDrank, .ref o_keptTurns, .long vo_hash]))] H := hP
        have hD : va_D A [(o_rows, .inl (cI, 54, .inl vo_rows)), (o, .inr (6, [.ref o_page, .int vo_pageMany, .int vo_readMany, .int vo_state, .int vo_readMost, .ref o_readRows, .int vo_glasses, .int vo_towersRead, .int vo_poured, .ref o_rows, .ref o_turns, .ref o_amounts, .ref o_drank, .long vo_spilt, .ref o_takes, .ref o_leans, .ref o_would, .int vo_done, .int vo_seedNow, .int vo_keptTower, .int vo_keptPoured, .long vo_keptSpilt, .ref o_keptAmounts, .ref o_keptDrank, .ref o_keptTurns, .long vo_hash]))] := hD
        have hl : lv_has ls 5 [(1, .int p1)] := hl
        refine lv_istore (lv' := [(4, .int j4), (1, .int p1)]) hx hb dX6_as_60 hl (by decide) rfl (fun ls hl => ?_)
        refine lv_iload hx hb dX6_as_62 (lv_at hl 0 rfl) ?_
        refine lv_if_eq (tgt := 71) hx hb dX6_as_64 (by decide) (fun c_20 => ?_) (fun c_20 => ?_)
        · replace hT := cutT c_20 hT
          have g_24 := zeqT (rfl : (j4).toInt = _) (by decide : ((0 : Int32)).toInt = 0) c_20
          refine lv_iconst (v := (-1 : Int32)) hx hb dX6_as_71 (by decide) ?_
          have hP9 := hP
          have hD9 := hD
          have hS9 := hS
          have hT : (-1 : Int32) = r := hT
          subst hT
          subst hQ
          exact zz_iret hx hb hr [1, 0] hK hP9 hD9 hS9 rfl rfl trivial hlocks dX6_as_72
        · replace hT := cutF c_20 hT
          have g_25 := zeqF (rfl : (j4).toInt = _) (by decide : ((0 : Int32)).toInt = 0) c_20
          refine lv_iload_n hx hb dX6_as_67 rfl (lv_at hl 1 rfl) ?_
          refine lv_goto (tgt := 72) hx hb dX6_as_68 (by decide) ?_
          have hP9 := hP
          have hD9 := hD
          have hS9 := hS
          have hT : p1 = r := hT
          subst hT
          subst hQ
          exact zz_iret hx hb hr [1, 0] hK hP9 hD9 hS9 rfl rfl trivial hlocks dX6_as_72
      · intro xv hT hM
        refine lv_if_eq (tgt := 55) hx hb dX6_as_37 (by decide) (fun c_16 => ?_) (fun c_16 => ?_)
        · replace hT := cutT c_16 hT
          have g_26 := zeqT (rfl : (p2).toInt = _) (by decide : ((0 : Int32)).toInt = 0) c_16
          refine lv_iconst (v := (1 : Int32)) hx hb dX6_as_55 (by decide) ?_
          refine lv_goto (tgt := 60) hx hb dX6_as_56 (by decide) ?_
          have hP9 := hP
          have hD9 := hD
          have hS9 := hS
          have hl9 := hl
          have hM9 := hM
          have hT : (1 : Int32) = xv := hT
          subst hT
          exact hM9 _ _ _ ⟨hP9.sub [0, 1] rfl, hD9.sub [0, 1] rfl rfl, hS9, lv_sub hl9 [2] rfl⟩
        · replace hT := cutF c_16 hT
          have g_27 := zeqF (rfl : (p2).toInt = _) (by decide : ((0 : Int32)).toInt = 0) c_16
          refine lv_iload_n hx hb dX6_as_40 rfl (lv_at hl 3 rfl) ?_
          refine lv_iload_n hx hb dX6_as_41 rfl (lv_at hl 0 rfl) ?_
          refine lv_icmp_eq (tgt := 55) hx hb dX6_as_42 (by decide) (fun c_17 => ?_) (fun c_17 => ?_)
          · replace hT := cutT c_17 hT
            have g_28 := zeqT (rfl : (p2).toInt = _) (rfl : (v3).toInt = _) c_17
            refine lv_iconst (v := (1 : Int32)) hx hb dX6_as_55 (by decide) ?_
            refine lv_goto (tgt := 60) hx hb dX6_as_56 (by decide) ?_
            have hP9 := hP
            have hD9 := hD
            have hS9 := hS
            have hl9 := hl
            have hM9 := hM
            have hT : (1 : Int32) = xv := hT
            subst hT
            exact hM9 _ _ _ ⟨hP9.sub [0, 1] rfl, hD9.sub [0, 1] rfl rfl, hS9, lv_sub hl9 [2] rfl⟩
          · replace hT := cutF c_17 hT
            have g_29 := zeqF (rfl : (p2).toInt = _) (rfl : (v3).toInt = _) c_17
            refine lv_iload_n hx hb dX6_as_45 rfl (lv_at hl 3 rfl) ?_
            refine lv_iconst (v := (2 : Int32)) hx hb dX6_as_46 (by decide) ?_
            refine lv_icmp_ne (tgt := 59) hx hb dX6_as_47 (by decide) (fun c_18 => ?_) (fun c_18 => ?_)
            · replace hT := cutF c_18 hT
              have g_30 := zeqF (rfl : (p2).toInt = _) (by decide : ((2 : Int32)).toInt = 2) c_18
              refine lv_iconst (v := (0 : Int32)) hx hb dX6_as_59 (by decide) ?_
              have hP9 := hP
              have hD9 := hD
              have hS9 := hS
              have hl9 := hl
              have hM9 := hM
              have hT : (0 : Int32) = xv := hT
              subst hT
              exact hM9 _ _ _ ⟨hP9.sub [0, 1] rfl, hD9.sub [0, 1] rfl rfl, hS9, lv_sub hl9 [2] rfl⟩
            · replace hT := cutT c_18 hT
              have g_31 := zeqT (rfl : (p2).toInt = _) (by decide : ((2 : Int32)).toInt = 2) c_18
              refine lv_iload_n hx hb dX6_as_50 rfl (lv_at hl 0 rfl) ?_
              refine lv_iconst (v := (4 : Int32)) hx hb dX6_as_51 (by decide) ?_
              refine lv_icmp_ne (tgt := 59) hx hb dX6_as_52 (by decide) (fun c_19 => ?_) (fun c_19 => ?_)
              · replace hT := cutF c_19 hT
                have g_32 := zeqF (rfl : (v3).toInt = _) (by decide : ((4 : Int32)).toInt = 4) c_19
                refine lv_iconst (v := (0 : Int32)) hx hb dX6_as_59 (by decide) ?_
                have hP9 := hP
                have hD9 := hD
                have hS9 := hS
                have hl9 := hl
                have hM9 := hM
                have hT : (0 : Int32) = xv := hT
                subst hT
                exact hM9 _ _ _ ⟨hP9.sub [0, 1] rfl, hD9.sub [0, 1] rfl rfl, hS9, lv_sub hl9 [2] rfl⟩
              · replace hT := cutT c_19 hT
                have g_33 := zeqT (rfl : (v3).toInt = _) (by decide : ((4 : Int32)).toInt = 4) c_19
                refine lv_iconst (v := (1 : Int32)) hx hb dX6_as_55 (by decide) ?_
                refine lv_goto (tgt := 60) hx hb dX6_as_56 (by decide) ?_
                have hP9 := hP
                have hD9 := hD
                have hS9 := hS
                have hl9 := hl
                have hM9 := hM
                have hT : (1 : Int32) = xv := hT
                subst hT
                exact hM9 _ _ _ ⟨hP9.sub [0, 1] rfl, hD9.sub [0, 1] rfl rfl, hS9, lv_sub hl9 [2] rfl⟩
    · replace hT := cutT c_13 hT
      have g_34 := zeqT (rfl : (r2).toInt = _) (by decide : ((0 : Int32)).toInt = 0) c_13
      refine lv_bipush (v := (-102 : Int32)) hx hb dX6_as_23 (by decide) ?_
      have hP9 := hP
      have hD9 := hD
      have hS9 := hS
      have hT : (-102 : Int32) = r := hT
      subst hT
      subst hQ
      exact zz_iret hx hb hr [1, 0] hK hP9 hD9 hS9 rfl rfl trivial hlocks dX6_as_25
  · replace hT := cutT c_5 hT
    have g_35 := zeqT (rfl : (r1).toInt = _) (by decide : ((0 : Int32)).toInt = 0) c_5
    refine lv_bipush (v := (-101 : Int32)) hx hb dX6_as_8 (by decide) ?_
    have hP9 := hP
    have hD9 := hD
    have hS9 := hS
    have hT : (-101 : Int32) = r := hT
    subst hT
    subst hQ
    exact zz_iret hx hb hr [1, 0] hK hP9 hD9 hS9 rfl rfl trivial hlocks dX6_as_10

def m_X6_pourInto (vo_glasses : Int32) (vo_poured : Int32) (vo_spilt : Int64) (vo_rows : Nat → Int32) (vo_amounts : Nat → Int64) (vo_takes : Nat → Int64) (vo_leans : Nat → Int32) (p1 : Int32) (p2 : Int32) : Int32 × Int64 × (Nat → Int64) × (Nat → Int64) × (Nat → Int32) :=
 cut2 (m_X6_layTakes vo_glasses vo_rows vo_takes vo_leans) (fun (u1 : Nat → Int64) (u2 : Nat → Int32) =>
 cut (vp_updL vo_amounts p1.toNatClampNeg ((vo_amounts p1.toNatClampNeg) + ((429981696 : Int64) * (p2.toInt64)))) (fun (a3 : Nat → Int64) =>
 cut2 (m_X6_runOver_a vo_glasses vo_rows a3 u1 u2) (fun (r4 : Int64) (u5 : Nat → Int64) =>
 cut (vo_spilt + r4) (fun (v6 : Int64) =>
 cut (vo_poured + p2) (fun (v7 : Int32) =>
 (v7, v6, u5, u1, u2))))))
set_option maxHeartbeats 4000000 in
set_option maxRecDepth 100000 in
theorem k_X6_pourInto (l : Launch) (dC : Nat → ClassId) (dI : Nat → Nat → Nat) (cI cJ cC : ClassId) (sz : Nat) (o o_page o_readRows o_rows o_turns o_amounts o_drank o_takes o_leans o_would o_keptAmounts o_keptDrank o_keptTurns : Nat) (vo_pageMany : Int32) (vo_readMany : Int32) (vo_state : Int32) (vo_readMost : Int32) (vo_glasses : Int32) (vo_towersRead : Int32) (vo_poured : Int32) (vo_spilt : Int64) (vo_done : Int32) (vo_seedNow : Int32) (vo_keptTower : Int32) (vo_keptPoured : Int32) (vo_keptSpilt : Int64) (vo_hash : Int64) (vo_rows : Nat → Int32) (vo_amounts : Nat → Int64) (vo_takes : Nat → Int64) (vo_leans : Nat → Int32) (p1 : Int32) (p2 : Int32) (qo_poured : Int32) (qo_spilt : Int64) (qo_amounts : Nat → Int64) (qo_takes : Nat → Int64) (qo_leans : Nat → Int32) (hT : m_X6_pourInto vo_glasses vo_poured vo_spilt vo_rows vo_amounts vo_takes vo_leans p1 p2 = (qo_poured, qo_spilt, qo_amounts, qo_takes, qo_leans)) (hg0 : 0 ≤ vo_glasses.toInt) (hg9 : vo_glasses.toInt ≤ 9) (hrw : zRw vo_rows) (hln : zLn vo_leans) (h10 : 0 ≤ p1.toInt) (h19 : p1.toInt < 9) : Met l yX6_pourInto wsX6_pourInto ({ frames := 2, cells := 0, slots := 0, locals := 44 }) (zPc [.ref o, .int p1, .int p2] (dC, dI) (zTy cI cJ cC) [(o, .inr (6, [.ref o_page, .int vo_pageMany, .int vo_readMany, .int vo_state, .int vo_readMost, .ref o_readRows, .int vo_glasses, .int vo_towersRead, .int vo_poured, .ref o_rows, .ref o_turns, .ref o_amounts, .ref o_drank, .long vo_spilt, .ref o_takes, .ref o_leans, .ref o_would, .int vo_done, .int vo_seedNow, .int vo_keptTower, .int vo_keptPoured, .long vo_keptSpilt, .ref o_keptAmounts, .ref o_keptDrank, .ref o_keptTurns, .long vo_hash])), (o_rows, .inl (cI, 54, .inl vo_rows)), (o_amounts, .inl (cJ, 9, .inr (.inl vo_amounts))), (o_takes, .inl (cJ, 9, .inr (.inl vo_takes))), (o_leans, .inl (cI, 9, .inl vo_leans))] sz) (zQv ((zLn qo_leans)) (dC, dI) (zTy cI cJ cC) [(o, .inr (6, [.ref o_page, .int vo_pageMany, .int vo_readMany, .int vo_state, .int vo_readMost, .ref o_readRows, .int vo_glasses, .int vo_towersRead, .int qo_poured, .ref o_rows, .ref o_turns, .ref o_amounts, .ref o_drank, .long qo_spilt, .ref o_takes, .ref o_leans, .ref o_would, .int vo_done, .int vo_seedNow, .int vo_keptTower, .int vo_keptPoured, .long vo_keptSpilt, .ref o_keptAmounts, .ref o_keptDrank, .ref o_keptTurns, .long vo_hash])), (o_rows, .inl (cI, 54, .inl vo_rows)), (o_amounts, .inl (cJ, 9, .inr (.inl qo_amounts))), (o_takes, .inl (cJ, 9, .inr (.inl qo_takes))), (o_leans, .inl (cI, 9, .inl qo_leans))] (va_A [(o, .inr (6, [.ref o_page, .int vo_pageMany, .int vo_readMany, .int vo_state, .int vo_readMost, .ref o_readRows, .int vo_glasses, .int vo_towersRead, .int vo_poured, .ref o_rows, .ref o_turns, .ref o_amounts, .ref o_drank, .long vo_spilt, .ref o_takes, .ref o_leans, .ref o_would, .int vo_done, .int vo_seedNow, .int vo_keptTower, .int vo_keptPoured, .long vo_keptSpilt, .ref o_keptAmounts, .ref o_keptDrank, .ref o_keptTurns, .long vo_hash])), (o_rows, .inl (cI, 54, .inl vo_rows)), (o_amounts, .inl (cJ, 9, .inr (.inl vo_amounts))), (o_takes, .inl (cJ, 9, .inr (.inl vo_takes))), (o_leans, .inl (cI, 9, .inl vo_leans))] sz)) 0 0 (va_A [(o, .inr (6, [.ref o_page, .int vo_pageMany, .int vo_readMany, .int vo_state, .int vo_readMost, .ref o_readRows, .int vo_glasses, .int vo_towersRead, .int vo_poured, .ref o_rows, .ref o_turns, .ref o_amounts, .ref o_drank, .long vo_spilt, .ref o_takes, .ref o_leans, .ref o_would, .int vo_done, .int vo_seedNow, .int vo_keptTower, .int vo_keptPoured, .long vo_keptSpilt, .ref o_keptAmounts, .ref o_keptDrank, .ref o_keptTurns, .long vo_hash])), (o_rows, .inl (cI, 54, .inl vo_rows)), (o_amounts, .inl (cJ, 9, .inr (.inl vo_amounts))), (o_takes, .inl (cJ, 9, .inr (.inl vo_takes))), (o_leans, .inl (cI, 9, .inl vo_leans))] sz) := by
  refine Met.ofW (cc := cX6_pourInto) (maxL := 5) (ret := none) (by decide) rfl ?_
  intro p e s m args below meth c s₁ B hml hv
  obtain ⟨rfl, hsz, hP, hK, hD0⟩ := hv
  have hx := B.exec
  have hb := B.bytes
  have hr := B.returns
  have hts := atoms_spec (ws := wsX6_pourInto) B.pre
  have hown : s.vm.findClass RX6 = some m.cls := findClass_of_methodNamed B.named
  have hlocks := B.notSynchronized
  subst hsz
  have hD := hD0.self (sz := s.heap.size)
  generalize hAe : va_A [(o, .inr (6, [.ref o_page, .int vo_pageMany, .int vo_readMany, .int vo_state, .int vo_readMost, .ref o_readRows, .int vo_glasses, .int vo_towersRead, .int vo_poured, .ref o_rows, .ref o_turns, .ref o_amounts, .ref o_drank, .long vo_spilt, .ref o_takes, .ref o_leans, .ref o_would, .int vo_done, .int vo_seedNow, .int vo_keptTower, .int vo_keptPoured, .long vo_keptSpilt, .ref o_keptAmounts, .ref o_keptDrank, .ref o_keptTurns, .long vo_hash])), (o_rows, .inl (cI, 54, .inl vo_rows)), (o_amounts, .inl (cJ, 9, .inr (.inl vo_amounts))), (o_takes, .inl (cJ, 9, .inr (.inl vo_takes))), (o_leans, .inl (cI, 9, .inl vo_leans))] s.heap.size = A at hD ⊢
  have hA : ∀ q : Nat, s.heap.size ≤ q → A q := fun q h => by rw [← hAe]; exact Or.inr h
  have hS : va_S A s.heap s.heap [] := va_S.rf
  have hP : va_P (dC, dI) vwCl [(o, .inr (6, [.ref o_page, .int vo_pageMany, .int vo_readMany, .int vo_state, .int vo_readMost, .ref o_readRows, .int vo_glasses, .int vo_towersRead, .int vo_poured, .ref o_rows, .ref o_turns, .ref o_amounts, .ref o_drank, .long vo_spilt, .ref o_takes, .ref o_leans, .ref o_would, .int vo_done, .int vo_seedNow, .int vo_keptTower, .int vo_keptPoured, .long vo_keptSpilt, .ref o_keptAmounts, .ref o_keptDrank, .ref o_keptTurns, .long vo_hash])), (o_rows, .inl (cI, 54, .inl vo_rows)), (o_amounts, .inl (cJ, 9, .inr (.inl vo_amounts))), (o_takes, .inl (cJ, 9, .inr (.inl vo_takes))), (o_leans, .inl (cI, 9, .inl vo_leans))] s.heap := hP
  have hK : va_K (dC, dI) vwCl (zTy cI cJ cC) s := hK
  have hl := lv_entry ([.ref o, .int p1, .int p2]) (n := 5) (Nat.le_of_ble_eq_true rfl)
  rw [lg_entry_eq]
  generalize (lg_sl ([.ref o, .int p1, .int p2]) ++ List.replicate (5 - (lg_sl ([.ref o, .int p1, .int p2])).length) Slot.unset).toArray = ls at hl ⊢
  have hl : lv_has ls 5 [(0, .ref o), (1, .int p1), (2, .int p2)] := hl
  refine zz_start hP hS (fun Q hQ H locs hP hS => ?_)
  have hwX6 : ∀ w ∈ u_ws RX6 TX6 26, w ∈ wsX6_pourInto := by decide +kernel
  have hc_113 := (hts (.constantLong RX6 113 (429981696)) (by decide +kernel))
  have hf_106 := (hts (.fieldLink RX6 106 "PouredTopmostModel" "spilt" "J") (by decide +kernel))
  have hf_110 := (hts (.fieldLink RX6 110 "PouredTopmostModel" "poured" "I") (by decide +kernel))
  have hf_22 := (hts (.fieldLink RX6 22 "PouredTopmostModel" "amounts" "[J") (by decide +kernel))
  refine lv_aload_n hx hb dX6_pourInto_0 rfl (lv_at hl 0 rfl) ?_
  obtain ⟨u1, u2, ev_1⟩ : ∃ x0 x1, (m_X6_layTakes vo_glasses vo_rows vo_takes vo_leans) = (x0, x1) := ⟨_, _, rfl⟩
  replace hT := cut2_n ev_1 hT
  refine zz_cv [0, 1, 3, 4] [2] (wr := [(o_amounts, .inl (cJ, 9, .inr (.inl vo_amounts)))]) (w1 := [(o, .inr (6, [.ref o_page, .int vo_pageMany, .int vo_readMany, .int vo_state, .int vo_readMost, .ref o_readRows, .int vo_glasses, .int vo_towersRead, .int vo_poured, .ref o_rows, .ref o_turns, .ref o_amounts, .ref o_drank, .long vo_spilt, .ref o_takes, .ref o_leans, .ref o_would, .int vo_done, .int vo_seedNow, .int vo_keptTower, .int vo_keptPoured, .long vo_keptSpilt, .ref o_keptAmounts, .ref o_keptDrank, .ref o_keptTurns, .long vo_hash])), (o_rows, .inl (cI, 54, .inl vo_rows)), (o_takes, .inl (cJ, 9, .inr (.inl u1))), (o_leans, .inl (cI, 9, .inl u2))]) (va_runV (As := []) (rest := []) ⟨hx, hb, hml, hown, hts⟩ (k_X6_layTakes l dC dI cI cJ cC H.size o o_page o_readRows o_rows o_turns o_amounts o_drank o_takes o_leans o_would o_keptAmounts o_keptDrank o_keptTurns vo_pageMany vo_readMany vo_state vo_readMost vo_glasses vo_towersRead vo_poured vo_spilt vo_done vo_seedNow vo_keptTower vo_keptPoured vo_keptSpilt vo_hash vo_rows vo_takes vo_leans u1 u2 ev_1 hg0 hg9 hln) (cwV 0 hts gX6_pourInto_X6_layTakes rfl rfl rfl (by decide +kernel) ⟨Nat.le_of_ble_eq_true rfl, Nat.le_of_ble_eq_true rfl⟩) (zz_preV [0, 1, 3, 4] hK hP hD rfl rfl (va_recv hK hP (ci := 6) (q0 := 0) rfl rfl)) rfl rfl hl.1 rfl (lv_room (Nat.le_of_ble_eq_true rfl)) dX6_pourInto_1 ⟨Nat.zero_le _, Nat.zero_le _⟩) hP hD hS hA rfl rfl rfl (by decide) (fun ok_2 H locs hP hD hS => ?_)
  have hP : va_P (dC, dI) vwCl [(o_amounts, .inl (cJ, 9, .inr (.inl vo_amounts))), (o, .inr (6, [.ref o_page, .int vo_pageMany, .int vo_readMany, .int vo_state, .int vo_readMost, .ref o_readRows, .int vo_glasses, .int vo_towersRead, .int vo_poured, .ref o_rows, .ref o_turns, .ref o_amounts, .ref o_drank, .long vo_spilt, .ref o_takes, .ref o_leans, .ref o_would, .int vo_done, .int vo_seedNow, .int vo_keptTower, .int vo_keptPoured, .long vo_keptSpilt, .ref o_keptAmounts, .ref o_keptDrank, .ref o_keptTurns, .long vo_hash])), (o_rows, .inl (cI, 54, .inl vo_rows)), (o_takes, .inl (cJ, 9, .inr (.inl u1))), (o_leans, .inl (cI, 9, .inl u2))] H := hP
  have hD : va_D A [(o_amounts, .inl (cJ, 9, .inr (.inl vo_amounts))), (o, .inr (6, [.ref o_page, .int vo_pageMany, .int vo_readMany, .int vo_state, .int vo_readMost, .ref o_readRows, .int vo_glasses, .int vo_towersRead, .int vo_poured, .ref o_rows, .ref o_turns, .ref o_amounts, .ref o_drank, .long vo_spilt, .ref o_takes, .ref o_leans, .ref o_would, .int vo_done, .int vo_seedNow, .int vo_keptTower, .int vo_keptPoured, .long vo_keptSpilt, .ref o_keptAmounts, .ref o_keptDrank, .ref o_keptTurns, .long vo_hash])), (o_rows, .inl (cI, 54, .inl vo_rows)), (o_takes, .inl (cJ, 9, .inr (.inl u1))), (o_leans, .inl (cI, 9, .inl u2))] := hD
  refine lv_aload_n hx hb dX6_pourInto_4 rfl (lv_at hl 0 rfl) ?_
  refine va_get (D := (dC, dI)) (ci := 6) (v := .ref o_amounts) (C := RX6) (T := TX6) (N := 26) hx hb hts hwX6 hown hK hP 1 rfl rfl 11 (by decide) hf_22 (fun _ h9 => h9) rfl dX6_pourInto_5 ?_
  refine lv_iload_n hx hb dX6_pourInto_8 rfl (lv_at hl 1 rfl) ?_
  refine lv_dup2_11 hx hb dX6_pourInto_9 rfl rfl ?_
  have h_3 : vp_in p1 9 := zin (by omega) (by omega)
  refine va_lald hx hb hK hP 0 1 rfl rfl h_3 dX6_pourInto_10 ?_
  refine lv_ldc2 (v := (429981696 : Int64)) hx hb hown hc_113 dX6_pourInto_11 ?_
  refine lv_iload_n hx hb dX6_pourInto_14 rfl (lv_at hl 2 rfl) ?_
  refine lv_i2l (v := (p2.toInt64)) hx hb dX6_pourInto_15 rfl ?_
  refine lv_lmul hx hb dX6_pourInto_16 ?_
  refine lv_ladd hx hb dX6_pourInto_17 ?_
  have h_4 : vp_in p1 9 := zin (by omega) (by omega)
  refine va_last hx hb hK hP hD hS 0 1 rfl rfl h_4 dX6_pourInto_18 (fun H locs hP hD hS => ?_)
  obtain ⟨a3, ea3⟩ : ∃ z, (vp_updL vo_amounts p1.toNatClampNeg ((vo_amounts p1.toNatClampNeg) + ((429981696 : Int64) * (p2.toInt64)))) = z := ⟨_, rfl⟩
  replace hT := cut_n ea3 hT
  have hP : va_P (dC, dI) vwCl [(o_amounts, .inl (cJ, 9, .inr (.inl a3))), (o, .inr (6, [.ref o_page, .int vo_pageMany, .int vo_readMany, .int vo_state, .int vo_readMost, .ref o_readRows, .int vo_glasses, .int vo_towersRead, .int vo_poured, .ref o_rows, .ref o_turns, .ref o_amounts, .ref o_drank, .long vo_spilt, .ref o_takes, .ref o_leans, .ref o_would, .int vo_done, .int vo_seedNow, .int vo_keptTower, .int vo_keptPoured, .long vo_keptSpilt, .ref o_keptAmounts, .ref o_keptDrank, .ref o_keptTurns, .long vo_hash])), (o_rows, .inl (cI, 54, .inl vo_rows)), (o_takes, .inl (cJ, 9, .inr (.inl u1))), (o_leans, .inl (cI, 9, .inl u2))] H := by rw [← ea3]; exact hP
  have hD : va_D A [(o_amounts, .inl (cJ, 9, .inr (.inl a3))), (o, .inr (6, [.ref o_page, .int vo_pageMany, .int vo_readMany, .int vo_state, .int vo_readMost, .ref o_readRows, .int vo_glasses, .int vo_towersRead, .int vo_poured, .ref o_rows, .ref o_turns, .ref o_amounts, .ref o_drank, .long vo_spilt, .ref o_takes, .ref o_leans, .ref o_would, .int vo_done, .int vo_seedNow, .int vo_keptTower, .int vo_keptPoured, .long vo_keptSpilt, .ref o_keptAmounts, .ref o_keptDrank, .ref o_keptTurns, .long vo_hash])), (o_rows, .inl (cI, 54, .inl vo_rows)), (o_takes, .inl (cJ, 9, .inr (.inl u1))), (o_leans, .inl (cI, 9, .inl u2))] := by rw [← ea3]; exact hD
  refine lv_aload_n hx hb dX6_pourInto_19 rfl (lv_at hl 0 rfl) ?_
  refine lv_aload_n hx hb dX6_pourInto_20 rfl (lv_at hl 0 rfl) ?_
  refine va_get (D := (dC, dI)) (ci := 6) (v := .ref o_amounts) (C := RX6) (T := TX6) (N := 26) hx hb hts hwX6 hown hK hP 1 rfl rfl 11 (by decide) hf_22 (fun _ h9 => h9) rfl dX6_pourInto_21 ?_
  obtain ⟨r4, u5, ev_5⟩ : ∃ x0 x1, (m_X6_runOver_a vo_glasses vo_rows a3 u1 u2) = (x0, x1) := ⟨_, _, rfl⟩
  replace hT := cut2_n ev_5 hT
  refine zz_cl [1, 2, 0, 3, 4] [] (wr := []) (w1 := [(o, .inr (6, [.ref o_page, .int vo_pageMany, .int vo_readMany, .int vo_state, .int vo_readMost, .ref o_readRows, .int vo_glasses, .int vo_towersRead, .int vo_poured, .ref o_rows, .ref o_turns, .ref o_amounts, .ref o_drank, .long vo_spilt, .ref o_takes, .ref o_leans, .ref o_would, .int vo_done, .int vo_seedNow, .int vo_keptTower, .int vo_keptPoured, .long vo_keptSpilt, .ref o_keptAmounts, .ref o_keptDrank, .ref o_keptTurns, .long vo_hash])), (o_rows, .inl (cI, 54, .inl vo_rows)), (o_amounts, .inl (cJ, 9, .inr (.inl u5))), (o_takes, .inl (cJ, 9, .inr (.inl u1))), (o_leans, .inl (cI, 9, .inl u2))]) (va_runV (As := [.ref o_amounts]) (rest := []) ⟨hx, hb, hml, hown, hts⟩ (k_X6_runOver_a l dC dI cI cJ cC H.size o o_page o_readRows o_rows o_turns o_amounts o_drank o_takes o_leans o_would o_keptAmounts o_keptDrank o_keptTurns vo_pageMany vo_readMany vo_state vo_readMost vo_glasses vo_towersRead vo_poured vo_spilt vo_done vo_seedNow vo_keptTower vo_keptPoured vo_keptSpilt vo_hash vo_rows a3 u1 u2 r4 u5 ev_5 hg0 hg9 hrw ok_2) (cwV 1 hts gX6_pourInto_X6_runOver rfl rfl rfl (by decide +kernel) ⟨Nat.le_of_ble_eq_true rfl, Nat.le_of_ble_eq_true rfl⟩) (zz_preV [1, 2, 0, 3, 4] hK hP hD rfl rfl (va_recv hK hP (ci := 6) (q0 := 1) rfl rfl)) rfl rfl hl.1 rfl (lv_room (Nat.le_of_ble_eq_true rfl)) dX6_pourInto_24 ⟨Nat.zero_le _, Nat.zero_le _⟩) hP hD hS hA rfl rfl rfl (by decide) (fun ok_6 H locs hP hD hS => ?_)
  have hP : va_P (dC, dI) vwCl [(o, .inr (6, [.ref o_page, .int vo_pageMany, .int vo_readMany, .int vo_state, .int vo_readMost, .ref o_readRows, .int vo_glasses, .int vo_towersRead, .int vo_poured, .ref o_rows, .ref o_turns, .ref o_amounts, .ref o_drank, .long vo_spilt, .ref o_takes, .ref o_leans, .ref o_would, .int vo_done, .int vo_seedNow, .int vo_keptTower, .int vo_keptPoured, .long vo_keptSpilt, .ref o_keptAmounts, .ref o_keptDrank, .ref o_keptTurns, .long vo_hash])), (o_rows, .inl (cI, 54, .inl vo_rows)), (o_amounts, .inl (cJ, 9, .inr (.inl u5))), (o_takes, .inl (cJ, 9, .inr (.inl u1))), (o_leans, .inl (cI, 9, .inl u2))] H := hP
  have hD : va_D A [(o, .inr (6, [.ref o_page, .int vo_pageMany, .int vo_readMany, .int vo_state, .int vo_readMost, .ref o_readRows, .int vo_glasses, .int vo_towersRead, .int vo_poured, .ref o_rows, .ref o_turns, .ref o_amounts, .ref o_drank, .long vo_spilt, .ref o_takes, .ref o_leans, .ref o_would, .int vo_done, .int vo_seedNow, .int vo_keptTower, .int vo_keptPoured, .long vo_keptSpilt, .ref o_keptAmounts, .ref o_keptDrank, .ref o_keptTurns, .long vo_hash])), (o_rows, .inl (cI, 54, .inl vo_rows)), (o_amounts, .inl (cJ, 9, .inr (.inl u5))), (o_takes, .inl (cJ, 9, .inr (.inl u1))), (o_leans, .inl (cI, 9, .inl u2))] := hD
  refine lv_lstore_n (lv' := [(3, .long r4), (0, .ref o), (1, .int p1), (2, .int p2)]) hx hb dX6_pourInto_27 rfl hl (by decide) rfl (fun ls hl => ?_)
  refine lv_aload_n hx hb dX6_pourInto_28 rfl (lv_at hl 1 rfl) ?_
  refine lv_dup hx hb dX6_pourInto_29 rfl ?_
  refine va_get (D := (dC, dI)) (ci := 6) (v := .long vo_spilt) (C := RX6) (T := TX6) (N := 26) hx hb hts hwX6 hown hK hP 0 rfl rfl 13 (by decide) hf_106 (fun _ h9 => h9) rfl dX6_pourInto_30 ?_
  refine lv_lload_n hx hb dX6_pourInto_33 rfl (lv_at hl 0 rfl) ?_
  refine lv_ladd hx hb dX6_pourInto_34 ?_
  refine lv_topl (fun v6 ev6 => ?_)
  replace hT := cut_n ev6.symm hT
  refine va_put (D := (dC, dI)) (ci := 6) (v := .long v6) (ty := .long) (C := RX6) (T := TX6) (N := 26) hx hb hts hwX6 tyX6 tyX6_ok nmX6 hown hK hP hD hS 0 rfl rfl 13 (by decide) hf_106 (fun _ h9 => h9) rfl (by decide +kernel) rfl rfl (Nat.le_of_ble_eq_true rfl) dX6_pourInto_35 (fun H locs hP hD hS => ?_)
  have hP : va_P (dC, dI) vwCl [(o, .inr (6, [.ref o_page, .int vo_pageMany, .int vo_readMany, .int vo_state, .int vo_readMost, .ref o_readRows, .int vo_glasses, .int vo_towersRead, .int vo_poured, .ref o_rows, .ref o_turns, .ref o_amounts, .ref o_drank, .long v6, .ref o_takes, .ref o_leans, .ref o_would, .int vo_done, .int vo_seedNow, .int vo_keptTower, .int vo_keptPoured, .long vo_keptSpilt, .ref o_keptAmounts, .ref o_keptDrank, .ref o_keptTurns, .long vo_hash])), (o_rows, .inl (cI, 54, .inl vo_rows)), (o_amounts, .inl (cJ, 9, .inr (.inl u5))), (o_takes, .inl (cJ, 9, .inr (.inl u1))), (o_leans, .inl (cI, 9, .inl u2))] H := hP
  have hD : va_D A [(o, .inr (6, [.ref o_page, .int vo_pageMany, .int vo_readMany, .int vo_state, .int vo_readMost, .ref o_readRows, .int vo_glasses, .int vo_towersRead, .int vo_poured, .ref o_rows, .ref o_turns, .ref o_amounts, .ref o_drank, .long v6, .ref o_takes, .ref o_leans, .ref o_would, .int vo_done, .int vo_seedNow, .int vo_keptTower, .int vo_keptPoured, .long vo_keptSpilt, .ref o_keptAmounts, .ref o_keptDrank, .ref o_keptTurns, .long vo_hash])), (o_rows, .inl (cI, 54, .inl vo_rows)), (o_amounts, .inl (cJ, 9, .inr (.inl u5))), (o_takes, .inl (cJ, 9, .inr (.inl u1))), (o_leans, .inl (cI, 9, .inl u2))] := hD
  refine lv_aload_n hx hb dX6_pourInto_38 rfl (lv_at hl 1 rfl) ?_
  refine lv_dup hx hb dX6_pourInto_39 rfl ?_
  refine va_get (D := (dC, dI)) (ci := 6) (v := .int vo_poured) (C := RX6) (T := TX6) (N := 26) hx hb hts hwX6 hown hK hP 0 rfl rfl 8 (by decide) hf_110 (fun _ h9 => h9) rfl dX6_pourInto_40 ?_
  refine lv_iload_n hx hb dX6_pourInto_43 rfl (lv_at hl 3 rfl) ?_
  refine lv_iadd hx hb dX6_pourInto_44 ?_
  refine lv_topi (fun v7 ev7 => ?_)
  replace hT := cut_n ev7.symm hT
  try have fv7 := zaddE (rfl : (vo_poured).toInt = _) (rfl : (p2).toInt = _) ev7.symm (by omega) (by omega)
  refine va_put (D := (dC, dI)) (ci := 6) (v := .int v7) (ty := .int) (C := RX6) (T := TX6) (N := 26) hx hb hts hwX6 tyX6 tyX6_ok nmX6 hown hK hP hD hS 0 rfl rfl 8 (by decide) hf_110 (fun _ h9 => h9) rfl (by decide +kernel) rfl rfl (Nat.le_of_ble_eq_true rfl) dX6_pourInto_45 (fun H locs hP hD hS => ?_)
  have hP : va_P (dC, dI) vwCl [(o, .inr (6, [.ref o_page, .int vo_pageMany, .int vo_readMany, .int vo_state, .int vo_readMost, .ref o_readRows, .int vo_glasses, .int vo_towersRead, .int v7, .ref o_rows, .ref o_turns, .ref o_amounts, .ref o_drank, .long v6, .ref o_takes, .ref o_leans, .ref o_would, .int vo_done, .int vo_seedNow, .int vo_keptTower, .int vo_keptPoured, .long vo_keptSpilt, .ref o_keptAmounts, .ref o_keptDrank, .ref o_keptTurns, .long vo_hash])), (o_rows, .inl (cI, 54, .inl vo_rows)), (o_amounts, .inl (cJ, 9, .inr (.inl u5))), (o_takes, .inl (cJ, 9, .inr (.inl u1))), (o_leans, .inl (cI, 9, .inl u2))] H := hP
  have hD : va_D A [(o, .inr (6, [.ref o_page, .int vo_pageMany, .int vo_readMany, .int vo_state, .int vo_readMost, .ref o_readRows, .int vo_glasses, .int vo_towersRead, .int v7, .ref o_rows, .ref o_turns, .ref o_amounts, .ref o_drank, .long v6, .ref o_takes, .ref o_leans, .ref o_would, .int vo_done, .int vo_seedNow, .int vo_keptTower, .int vo_keptPoured, .long vo_keptSpilt, .ref o_keptAmounts, .ref o_keptDrank, .ref o_keptTurns, .long vo_hash])), (o_rows, .inl (cI, 54, .inl vo_rows)), (o_amounts, .inl (cJ, 9, .inr (.inl u5))), (o_takes, .inl (cJ, 9, .inr (.inl u1))), (o_leans, .inl (cI, 9, .inl u2))] := hD
  have hP9 := hP
  have hD9 := hD
  have hS9 := hS
  have hT : (v7, v6, u5, u1, u2) = (qo_poured, qo_spilt, qo_amounts, qo_takes, qo_leans) := hT
  cases hT
  subst hQ
  exact zz_vret hx hb hr [0, 1, 2, 3, 4] hK hP9 hD9 hS9 rfl rfl (by assumption) hlocks dX6_pourInto_48

def m_X6_pour (vo_glasses : Int32) (vo_poured : Int32) (vo_spilt : Int64) (vo_rows : Nat → Int32) (vo_amounts : Nat → Int64) (vo_takes : Nat → Int64) (vo_leans : Nat → Int32) (p1 : Int32) (p2 : Int32) : Int32 × Int32 × Int64 × (Nat → Int64) × (Nat → Int64) × (Nat → Int32) :=
 cut (m_X6_isGlass vo_glasses p1) (fun (r1 : Int32) =>
 if r1 = (0 : Int32) then
  ((-101 : Int32), vo_poured, vo_spilt, vo_amounts, vo_takes, vo_leans)
 else
  cut (m_X6_isIn (p2.toInt64) (1 : Int64) (99 : Int64)) (fun (r2 : Int32) =>
  if r2 = (0 : Int32) then
   ((-102 : Int32), vo_poured, vo_spilt, vo_amounts, vo_takes, vo_leans)
  else
   if (vo_poured + p2) ≤ (9999 : Int32) then
    cut5 (m_X6_pourInto vo_glasses vo_poured vo_spilt vo_rows vo_amounts vo_takes vo_leans p1 p2) (fun (u3 : Int32) (u4 : Int64) (u5 : Nat → Int64) (u6 : Nat → Int64) (u7 : Nat → Int32) =>
    (u3, u3, u4, u5, u6, u7))
   else
    ((-103 : Int32), vo_poured, vo_spilt, vo_amounts, vo_takes, vo_leans)))
set_option maxHeartbeats 4000000 in
set_option maxRecDepth 100000 in
theorem k_X6_pour (l : Launch) (dC : Nat → ClassId) (dI : Nat → Nat → Nat) (cI cJ cC : ClassId) (sz : Nat) (o o_page o_readRows o_rows o_turns o_amounts o_drank o_takes o_leans o_would o_keptAmounts o_keptDrank o_keptTurns : Nat) (vo_pageMany : Int32) (vo_readMany : Int32) (vo_state : Int32) (vo_readMost : Int32) (vo_glasses : Int32) (vo_towersRead : Int32) (vo_poured : Int32) (vo_spilt : Int64) (vo_done : Int32) (vo_seedNow : Int32) (vo_keptTower : Int32) (vo_keptPoured : Int32) (vo_keptSpilt : Int64) (vo_hash : Int64) (vo_rows : Nat → Int32) (vo_amounts : Nat → Int64) (vo_takes : Nat → Int64) (vo_leans : Nat → Int32) (p1 : Int32) (p2 : Int32) (r : Int32) (qo_poured : Int32) (qo_spilt : Int64) (qo_amounts : Nat → Int64) (qo_takes : Nat → Int64) (qo_leans : Nat → Int32) (hT : m_X6_pour vo_glasses vo_poured vo_spilt vo_rows vo_amounts vo_takes vo_leans p1 p2 = (r, qo_poured, qo_spilt, qo_amounts, qo_takes, qo_leans)) (hg0 : 0 ≤ vo_glasses.toInt) (hg9 : vo_glasses.toInt ≤ 9) (hrw : zRw vo_rows) (hln : zLn vo_leans) : Met l yX6_pour wsX6_pour ({ frames := 3, cells := 0, slots := 0, locals := 68 }) (zPc [.ref o, .int p1, .int p2] (dC, dI) (zTy cI cJ cC) [(o, .inr (6, [.ref o_page, .int vo_pageMany, .int vo_readMany, .int vo_state, .int vo_readMost, .ref o_readRows, .int vo_glasses, .int vo_towersRead, .int vo_poured, .ref o_rows, .ref o_turns, .ref o_amounts, .ref o_drank, .long vo_spilt, .ref o_takes, .ref o_leans, .ref o_would, .int vo_done, .int vo_seedNow, .int vo_keptTower, .int vo_keptPoured, .long vo_keptSpilt, .ref o_keptAmounts, .ref o_keptDrank, .ref o_keptTurns, .long vo_hash])), (o_rows, .inl (cI, 54, .inl vo_rows)), (o_amounts, .inl (cJ, 9, .inr (.inl vo_amounts))), (o_takes, .inl (cJ, 9, .inr (.inl vo_takes))), (o_leans, .inl (cI, 9, .inl vo_leans))] sz) (zQi r ((zLn qo_leans)) (dC, dI) (zTy cI cJ cC) [(o, .inr (6, [.ref o_page, .int vo_pageMany, .int vo_readMany, .int vo_state, .int vo_readMost, .ref o_readRows, .int vo_glasses, .int vo_towersRead, .int qo_poured, .ref o_rows, .ref o_turns, .ref o_amounts, .ref o_drank, .long qo_spilt, .ref o_takes, .ref o_leans, .ref o_would, .int vo_done, .int vo_seedNow, .int vo_keptTower, .int vo_keptPoured, .long vo_keptSpilt, .ref o_keptAmounts, .ref o_keptDrank, .ref o_keptTurns, .long vo_hash])), (o_rows, .inl (cI, 54, .inl vo_rows)), (o_amounts, .inl (cJ, 9, .inr (.inl qo_amounts))), (o_takes, .inl (cJ, 9, .inr (.inl qo_takes))), (o_leans, .inl (cI, 9, .inl qo_leans))] (va_A [(o, .inr (6, [.ref o_page, .int vo_pageMany, .int vo_readMany, .int vo_state, .int vo_readMost, .ref o_readRows, .int vo_glasses, .int vo_towersRead, .int vo_poured, .ref o_rows, .ref o_turns, .ref o_amounts, .ref o_drank, .long vo_spilt, .ref o_takes, .ref o_leans, .ref o_would, .int vo_done, .int vo_seedNow, .int vo_keptTower, .int vo_keptPoured, .long vo_keptSpilt, .ref o_keptAmounts, .ref o_keptDrank, .ref o_keptTurns, .long vo_hash])), (o_rows, .inl (cI, 54, .inl vo_rows)), (o_amounts, .inl (cJ, 9, .inr (.inl vo_amounts))), (o_takes, .inl (cJ, 9, .inr (.inl vo_takes))), (o_leans, .inl (cI, 9, .inl vo_leans))] sz)) 0 0 (va_A [(o, .inr (6, [.ref o_page, .int vo_pageMany, .int vo_readMany, .int vo_state, .int vo_readMost, .ref o_readRows, .int vo_glasses, .int vo_towersRead, .int vo_poured, .ref o_rows, .ref o_turns, .ref o_amounts, .ref o_drank, .long vo_spilt, .ref o_takes, .ref o_leans, .ref o_would, .int vo_done, .int vo_seedNow, .int vo_keptTower, .int vo_keptPoured, .long vo_keptSpilt, .ref o_keptAmounts, .ref o_keptDrank, .ref o_keptTurns, .long vo_hash])), (o_rows, .inl (cI, 54, .inl vo_rows)), (o_amounts, .inl (cJ, 9, .inr (.inl vo_amounts))), (o_takes, .inl (cJ, 9, .inr (.inl vo_takes))), (o_leans, .inl (cI, 9, .inl vo_leans))] sz) := by
  refine Met.ofW (cc := cX6_pour) (maxL := 3) (ret := (some .int)) (by decide) rfl ?_
  intro p e s m args below meth c s₁ B hml hv
  obtain ⟨rfl, hsz, hP, hK, hD0⟩ := hv
  have hx := B.exec
  have hb := B.bytes
  have hr := B.returns
  have hts := atoms_spec (ws := wsX6_pour) B.pre
  have hown : s.vm.findClass RX6 = some m.cls := findClass_of_methodNamed B.named
  have hlocks := B.notSynchronized
  subst hsz
  have hD := hD0.self (sz := s.heap.size)
  generalize hAe : va_A [(o, .inr (6, [.ref o_page, .int vo_pageMany, .int vo_readMany, .int vo_state, .int vo_readMost, .ref o_readRows, .int vo_glasses, .int vo_towersRead, .int vo_poured, .ref o_rows, .ref o_turns, .ref o_amounts, .ref o_drank, .long vo_spilt, .ref o_takes, .ref o_leans, .ref o_would, .int vo_done, .int vo_seedNow, .int vo_keptTower, .int vo_keptPoured, .long vo_keptSpilt, .ref o_keptAmounts, .ref o_keptDrank, .ref o_keptTurns, .long vo_hash])), (o_rows, .inl (cI, 54, .inl vo_rows)), (o_amounts, .inl (cJ, 9, .inr (.inl vo_amounts))), (o_takes, .inl (cJ, 9, .inr (.inl vo_takes))), (o_leans, .inl (cI, 9, .inl vo_leans))] s.heap.size = A at hD ⊢
  have hA : ∀ q : Nat, s.heap.size ≤ q → A q := fun q h => by rw [← hAe]; exact Or.inr h
  have hS : va_S A s.heap s.heap [] := va_S.rf
  have hP : va_P (dC, dI) vwCl [(o, .inr (6, [.ref o_page, .int vo_pageMany, .int vo_readMany, .int vo_state, .int vo_readMost, .ref o_readRows, .int vo_glasses, .int vo_towersRead, .int vo_poured, .ref o_rows, .ref o_turns, .ref o_amounts, .ref o_drank, .long vo_spilt, .ref o_takes, .ref o_leans, .ref o_would, .int vo_done, .int vo_seedNow, .int vo_keptTower, .int vo_keptPoured, .long vo_keptSpilt, .ref o_keptAmounts, .ref o_keptDrank, .ref o_keptTurns, .long vo_hash])), (o_rows, .inl (cI, 54, .inl vo_rows)), (o_amounts, .inl (cJ, 9, .inr (.inl vo_amounts))), (o_takes, .inl (cJ, 9, .inr (.inl vo_takes))), (o_leans, .inl (cI, 9, .inl vo_leans))] s.heap := hP
  have hK : va_K (dC, dI) vwCl (zTy cI cJ cC) s := hK
  have hl := lv_entry ([.ref o, .int p1, .int p2]) (n := 3) (Nat.le_of_ble_eq_true rfl)
  rw [lg_entry_eq]
  generalize (lg_sl ([.ref o, .int p1, .int p2]) ++ List.replicate (3 - (lg_sl ([.ref o, .int p1, .int p2])).length) Slot.unset).toArray = ls at hl ⊢
  have hl : lv_has ls 3 [(0, .ref o), (1, .int p1), (2, .int p2)] := hl
  refine zz_start hP hS (fun Q hQ H locs hP hS => ?_)
  have hwX6 : ∀ w ∈ u_ws RX6 TX6 26, w ∈ wsX6_pour := by decide +kernel
  have hc_137 := (hts (.constantLong RX6 137 (99)) (by decide +kernel))
  have hf_110 := (hts (.fieldLink RX6 110 "PouredTopmostModel" "poured" "I") (by decide +kernel))
  refine lv_aload_n hx hb dX6_pour_0 rfl (lv_at hl 0 rfl) ?_
  refine lv_iload_n hx hb dX6_pour_1 rfl (lv_at hl 1 rfl) ?_
  obtain ⟨r1, ev_1⟩ : ∃ x0, (m_X6_isGlass vo_glasses p1) = x0 := ⟨_, rfl⟩
  replace hT := cut_n ev_1 hT
  refine zz_ci [0] [1, 2, 3, 4] (wr := [(o_rows, .inl (cI, 54, .inl vo_rows)), (o_amounts, .inl (cJ, 9, .inr (.inl vo_amounts))), (o_takes, .inl (cJ, 9, .inr (.inl vo_takes))), (o_leans, .inl (cI, 9, .inl vo_leans))]) (w1 := [(o, .inr (6, [.ref o_page, .int vo_pageMany, .int vo_readMany, .int vo_state, .int vo_readMost, .ref o_readRows, .int vo_glasses, .int vo_towersRead, .int vo_poured, .ref o_rows, .ref o_turns, .ref o_amounts, .ref o_drank, .long vo_spilt, .ref o_takes, .ref o_leans, .ref o_would, .int vo_done, .int vo_seedNow, .int vo_keptTower, .int vo_keptPoured, .long vo_keptSpilt, .ref o_keptAmounts, .ref o_keptDrank, .ref o_keptTurns, .long vo_hash]))]) (va_runV (As := [.int p1]) (rest := []) ⟨hx, hb, hml, hown, hts⟩ (k_X6_isGlass l dC dI cI cJ cC H.size o o_page o_readRows o_rows o_turns o_amounts o_drank o_takes o_leans o_would o_keptAmounts o_keptDrank o_keptTurns vo_pageMany vo_readMany vo_state vo_readMost vo_glasses vo_towersRead vo_poured vo_spilt vo_done vo_seedNow vo_keptTower vo_keptPoured vo_keptSpilt vo_hash p1 r1 ev_1 hg0 hg9) (cwV 1 hts gX6_pour_X6_isGlass rfl rfl rfl (by decide +kernel) ⟨Nat.le_of_ble_eq_true rfl, Nat.le_of_ble_eq_true rfl⟩) (zz_preV [0] hK hP hD rfl rfl (va_recv hK hP (ci := 6) (q0 := 0) rfl rfl)) rfl rfl hl.1 rfl (lv_room (Nat.le_of_ble_eq_true rfl)) dX6_pour_2 ⟨Nat.zero_le _, Nat.zero_le _⟩) hP hD hS hA rfl rfl rfl (by decide) (fun ok_2 H locs hP hD hS => ?_)
  have hP : va_P (dC, dI) vwCl [(o_rows, .inl (cI, 54, .inl vo_rows)), (o_amounts, .inl (cJ, 9, .inr (.inl vo_amounts))), (o_takes, .inl (cJ, 9, .inr (.inl vo_takes))), (o_leans, .inl (cI, 9, .inl vo_leans)), (o, .inr (6, [.ref o_page, .int vo_pageMany, .int vo_readMany, .int vo_state, .int vo_readMost, .ref o_readRows, .int vo_glasses, .int vo_towersRead, .int vo_poured, .ref o_rows, .ref o_turns, .ref o_amounts, .ref o_drank, .long vo_spilt, .ref o_takes, .ref o_leans, .ref o_would, .int vo_done, .int vo_seedNow, .int vo_keptTower, .int vo_keptPoured, .long vo_keptSpilt, .ref o_keptAmounts, .ref o_keptDrank, .ref o_keptTurns, .long vo_hash]))] H := hP
  have hD : va_D A [(o_rows, .inl (cI, 54, .inl vo_rows)), (o_amounts, .inl (cJ, 9, .inr (.inl vo_amounts))), (o_takes, .inl (cJ, 9, .inr (.inl vo_takes))), (o_leans, .inl (cI, 9, .inl vo_leans)), (o, .inr (6, [.ref o_page, .int vo_pageMany, .int vo_readMany, .int vo_state, .int vo_readMost, .ref o_readRows, .int vo_glasses, .int vo_towersRead, .int vo_poured, .ref o_rows, .ref o_turns, .ref o_amounts, .ref o_drank, .long vo_spilt, .ref o_takes, .ref o_leans, .ref o_would, .int vo_done, .int vo_seedNow, .int vo_keptTower, .int vo_keptPoured, .long vo_keptSpilt, .ref o_keptAmounts, .ref o_keptDrank, .ref o_keptTurns, .long vo_hash]))] := hD
  obtain ⟨k_3, k_4⟩ := ok_2
  refine lv_if_ne (tgt := 11) hx hb dX6_pour_5 (by decide) (fun c_5 => ?_) (fun c_5 => ?_)
  · replace hT := cutF c_5 hT
    have g_17 := zeqF (rfl : (r1).toInt = _) (by decide : ((0 : Int32)).toInt = 0) c_5
    refine lv_iload_n hx hb dX6_pour_11 rfl (lv_at hl 2 rfl) ?_
    refine lv_i2l (v := (p2.toInt64)) hx hb dX6_pour_12 rfl ?_
    refine lv_lconst (v := (1 : Int64)) hx hb dX6_pour_13 (by decide) ?_
    refine lv_ldc2 (v := (99 : Int64)) hx hb hown hc_137 dX6_pour_14 ?_
    obtain ⟨r2, ev_6⟩ : ∃ x0, (m_X6_isIn (p2.toInt64) (1 : Int64) (99 : Int64)) = x0 := ⟨_, rfl⟩
    replace hT := cut_n ev_6 hT
    refine zz_ci [] [0, 1, 2, 3, 4] (wr := [(o_rows, .inl (cI, 54, .inl vo_rows)), (o_amounts, .inl (cJ, 9, .inr (.inl vo_amounts))), (o_takes, .inl (cJ, 9, .inr (.inl vo_takes))), (o_leans, .inl (cI, 9, .inl vo_leans)), (o, .inr (6, [.ref o_page, .int vo_pageMany, .int vo_readMany, .int vo_state, .int vo_readMost, .ref o_readRows, .int vo_glasses, .int vo_towersRead, .int vo_poured, .ref o_rows, .ref o_turns, .ref o_amounts, .ref o_drank, .long vo_spilt, .ref o_takes, .ref o_leans, .ref o_would, .int vo_done, .int vo_seedNow, .int vo_keptTower, .int vo_keptPoured, .long vo_keptSpilt, .ref o_keptAmounts, .ref o_keptDrank, .ref o_keptTurns, .long vo_hash]))]) (w1 := []) (va_runS (As := [.long (p2.toInt64), .long (1 : Int64), .long (99 : Int64)]) (rest := []) ⟨hx, hb, hml, hown, hts⟩ (k_X6_isIn l dC dI cI cJ cC H.size (p2.toInt64) (1 : Int64) (99 : Int64) r2 ev_6) (va_cwS 3 hts gX6_pour_X6_isIn rfl rfl rfl (by decide +kernel) ⟨Nat.le_of_ble_eq_true rfl, Nat.le_of_ble_eq_true rfl⟩) (zz_preS [] hK hP hD rfl rfl) rfl rfl hl.1 rfl (lv_room (Nat.le_of_ble_eq_true rfl)) dX6_pour_17 ⟨Nat.zero_le _, Nat.zero_le _⟩) hP hD hS hA rfl rfl rfl (by decide) (fun ok_7 H locs hP hD hS => ?_)
    have hP : va_P (dC, dI) vwCl [(o_rows, .inl (cI, 54, .inl vo_rows)), (o_amounts, .inl (cJ, 9, .inr (.inl vo_amounts))), (o_takes, .inl (cJ, 9, .inr (.inl vo_takes))), (o_leans, .inl (cI, 9, .inl vo_leans)), (o, .inr (6, [.ref o_page, .int vo_pageMany, .int vo_readMany, .int vo_state, .int vo_readMost, .ref o_readRows, .int vo_glasses, .int vo_towersRead, .int vo_poured, .ref o_rows, .ref o_turns, .ref o_amounts, .ref o_drank, .long vo_spilt, .ref o_takes, .ref o_leans, .ref o_would, .int vo_done, .int vo_seedNow, .int vo_keptTower, .int vo_keptPoured, .long vo_keptSpilt, .ref o_keptAmounts, .ref o_keptDrank, .ref o_keptTurns, .long vo_hash]))] H := hP
    have hD : va_D A [(o_rows, .inl (cI, 54, .inl vo_rows)), (o_amounts, .inl (cJ, 9, .inr (.inl vo_amounts))), (o_takes, .inl (cJ, 9, .inr (.inl vo_takes))), (o_leans, .inl (cI, 9, .inl vo_leans)), (o, .inr (6, [.ref o_page, .int vo_pageMany, .int vo_readMany, .int vo_state, .int vo_readMost, .ref o_readRows, .int vo_glasses, .int vo_towersRead, .int vo_poured, .ref o_rows, .ref o_turns, .ref o_amounts, .ref o_drank, .long vo_spilt, .ref o_takes, .ref o_leans, .ref o_would, .int vo_done, .int vo_seedNow, .int vo_keptTower, .int vo_keptPoured, .long vo_keptSpilt, .ref o_keptAmounts, .ref o_keptDrank, .ref o_keptTurns, .long vo_hash]))] := hD
    have hz_8 : ((p2.toInt64)).toInt = (p2).toInt := Int32.toInt_toInt64 _
    have hz_9 : ((1 : Int64)).toInt = 1 := by decide
    have hz_10 : ((99 : Int64)).toInt = 99 := by decide
    obtain ⟨k_11, k_12⟩ := ok_7
    refine lv_if_ne (tgt := 26) hx hb dX6_pour_20 (by decide) (fun c_13 => ?_) (fun c_13 => ?_)
    · replace hT := cutF c_13 hT
      have g_18 := zeqF (rfl : (r2).toInt = _) (by decide : ((0 : Int32)).toInt = 0) c_13
      refine lv_aload_n hx hb dX6_pour_26 rfl (lv_at hl 0 rfl) ?_
      refine va_get (D := (dC, dI)) (ci := 6) (v := .int vo_poured) (C := RX6) (T := TX6) (N := 26) hx hb hts hwX6 hown hK hP 4 rfl rfl 8 (by decide) hf_110 (fun _ h9 => h9) rfl dX6_pour_27 ?_
      refine lv_iload_n hx hb dX6_pour_30 rfl (lv_at hl 2 rfl) ?_
      refine lv_iadd hx hb dX6_pour_31 ?_
      refine lv_sipush (v := (9999 : Int32)) hx hb dX6_pour_32 (by decide) ?_
      try have e_19 := zaddE (v := (vo_poured + p2)) (rfl : (vo_poured).toInt = _) (rfl : (p2).toInt = _) rfl (by omega) (by omega)
      refine lv_icmp_le (tgt := 41) hx hb dX6_pour_35 (by decide) (fun c_14 => ?_) (fun c_14 => ?_)
      · replace hT := cutT c_14 hT
        have g_20 := zleT (rfl : ((vo_poured + p2)).toInt = _) (by decide : ((9999 : Int32)).toInt = 9999) c_14
        refine lv_aload_n hx hb dX6_pour_41 rfl (lv_at hl 0 rfl) ?_
        refine lv_iload_n hx hb dX6_pour_42 rfl (lv_at hl 1 rfl) ?_
        refine lv_iload_n hx hb dX6_pour_43 rfl (lv_at hl 2 rfl) ?_
        obtain ⟨u3, u4, u5, u6, u7, ev_15⟩ : ∃ x0 x1 x2 x3 x4, (m_X6_pourInto vo_glasses vo_poured vo_spilt vo_rows vo_amounts vo_takes vo_leans p1 p2) = (x0, x1, x2, x3, x4) := ⟨_, _, _, _, _, rfl⟩
        replace hT := cut5_n ev_15 hT
        refine zz_cv [4, 0, 1, 2, 3] [] (wr := []) (w1 := [(o, .inr (6, [.ref o_page, .int vo_pageMany, .int vo_readMany, .int vo_state, .int vo_readMost, .ref o_readRows, .int vo_glasses, .int vo_towersRead, .int u3, .ref o_rows, .ref o_turns, .ref o_amounts, .ref o_drank, .long u4, .ref o_takes, .ref o_leans, .ref o_would, .int vo_done, .int vo_seedNow, .int vo_keptTower, .int vo_keptPoured, .long vo_keptSpilt, .ref o_keptAmounts, .ref o_keptDrank, .ref o_keptTurns, .long vo_hash])), (o_rows, .inl (cI, 54, .inl vo_rows)), (o_amounts, .inl (cJ, 9, .inr (.inl u5))), (o_takes, .inl (cJ, 9, .inr (.inl u6))), (o_leans, .inl (cI, 9, .inl u7))]) (va_runV (As := [.int p1, .int p2]) (rest := []) ⟨hx, hb, hml, hown, hts⟩ (k_X6_pourInto l dC dI cI cJ cC H.size o o_page o_readRows o_rows o_turns o_amounts o_drank o_takes o_leans o_would o_keptAmounts o_keptDrank o_keptTurns vo_pageMany vo_readMany vo_state vo_readMost vo_glasses vo_towersRead vo_poured vo_spilt vo_done vo_seedNow vo_keptTower vo_keptPoured vo_keptSpilt vo_hash vo_rows vo_amounts vo_takes vo_leans p1 p2 u3 u4 u5 u6 u7 ev_15 hg0 hg9 hrw hln (by first | omega | decide) (by first | omega | decide)) (cwV 2 hts gX6_pour_X6_pourInto rfl rfl rfl (by decide +kernel) ⟨Nat.le_of_ble_eq_true rfl, Nat.le_of_ble_eq_true rfl⟩) (zz_preV [4, 0, 1, 2, 3] hK hP hD rfl rfl (va_recv hK hP (ci := 6) (q0 := 4) rfl rfl)) rfl rfl hl.1 rfl (lv_room (Nat.le_of_ble_eq_true rfl)) dX6_pour_44 ⟨Nat.zero_le _, Nat.zero_le _⟩) hP hD hS hA rfl rfl rfl (by decide) (fun ok_16 H locs hP hD hS => ?_)
        have hP : va_P (dC, dI) vwCl [(o, .inr (6, [.ref o_page, .int vo_pageMany, .int vo_readMany, .int vo_state, .int vo_readMost, .ref o_readRows, .int vo_glasses, .int vo_towersRead, .int u3, .ref o_rows, .ref o_turns, .ref o_amounts, .ref o_drank, .long u4, .ref o_takes, .ref o_leans, .ref o_would, .int vo_done, .int vo_seedNow, .int vo_keptTower, .int vo_keptPoured, .long vo_keptSpilt, .ref o_keptAmounts, .ref o_keptDrank, .ref o_keptTurns, .long vo_hash])), (o_rows, .inl (cI, 54, .inl vo_rows)), (o_amounts, .inl (cJ, 9, .inr (.inl u5))), (o_takes, .inl (cJ, 9, .inr (.inl u6))), (o_leans, .inl (cI, 9, .inl u7))] H := hP
        have hD : va_D A [(o, .inr (6, [.ref o_page, .int vo_pageMany, .int vo_readMany, .int vo_state, .int vo_readMost, .ref o_readRows, .int vo_glasses, .int vo_towersRead, .int u3, .ref o_rows, .ref o_turns, .ref o_amounts, .ref o_drank, .long u4, .ref o_takes, .ref o_leans, .ref o_would, .int vo_done, .int vo_seedNow, .int vo_keptTower, .int vo_keptPoured, .long vo_keptSpilt, .ref o_keptAmounts, .ref o_keptDrank, .ref o_keptTurns, .long vo_hash])), (o_rows, .inl (cI, 54, .inl vo_rows)), (o_amounts, .inl (cJ, 9, .inr (.inl u5))), (o_takes, .inl (cJ, 9, .inr (.inl u6))), (o_leans, .inl (cI, 9, .inl u7))] := hD
        refine lv_aload_n hx hb dX6_pour_47 rfl (lv_at hl 0 rfl) ?_
        refine va_get (D := (dC, dI)) (ci := 6) (v := .int u3) (C := RX6) (T := TX6) (N := 26) hx hb hts hwX6 hown hK hP 0 rfl rfl 8 (by decide) hf_110 (fun _ h9 => h9) rfl dX6_pour_48 ?_
        have hP9 := hP
        have hD9 := hD
        have hS9 := hS
        have hT : (u3, u3, u4, u5, u6, u7) = (r, qo_poured, qo_spilt, qo_amounts, qo_takes, qo_leans) := hT
        cases hT
        subst hQ
        exact zz_iret hx hb hr [0, 1, 2, 3, 4] hK hP9 hD9 hS9 rfl rfl (by assumption) hlocks dX6_pour_51
      · replace hT := cutF c_14 hT
        have g_21 := zleF (rfl : ((vo_poured + p2)).toInt = _) (by decide : ((9999 : Int32)).toInt = 9999) c_14
        refine lv_bipush (v := (-103 : Int32)) hx hb dX6_pour_38 (by decide) ?_
        have hP9 := hP
        have hD9 := hD
        have hS9 := hS
        have hT : ((-103 : Int32), vo_poured, vo_spilt, vo_amounts, vo_takes, vo_leans) = (r, qo_poured, qo_spilt, qo_amounts, qo_takes, qo_leans) := hT
        cases hT
        subst hQ
        exact zz_iret hx hb hr [4, 0, 1, 2, 3] hK hP9 hD9 hS9 rfl rfl (by assumption) hlocks dX6_pour_40
    · replace hT := cutT c_13 hT
      have g_22 := zeqT (rfl : (r2).toInt = _) (by decide : ((0 : Int32)).toInt = 0) c_13
      refine lv_bipush (v := (-102 : Int32)) hx hb dX6_pour_23 (by decide) ?_
      have hP9 := hP
      have hD9 := hD
      have hS9 := hS
      have hT : ((-102 : Int32), vo_poured, vo_spilt, vo_amounts, vo_takes, vo_leans) = (r, qo_poured, qo_spilt, qo_amounts, qo_takes, qo_leans) := hT
      cases hT
      subst hQ
      exact zz_iret hx hb hr [4, 0, 1, 2, 3] hK hP9 hD9 hS9 rfl rfl (by assumption) hlocks dX6_pour_25
  · replace hT := cutT c_5 hT
    have g_23 := zeqT (rfl : (r1).toInt = _) (by decide : ((0 : Int32)).toInt = 0) c_5
    refine lv_bipush (v := (-101 : Int32)) hx hb dX6_pour_8 (by decide) ?_
    have hP9 := hP
    have hD9 := hD
    have hS9 := hS
    have hT : ((-101 : Int32), vo_poured, vo_spilt, vo_amounts, vo_takes, vo_leans) = (r, qo_poured, qo_spilt, qo_amounts, qo_takes, qo_leans) := hT
    cases hT
    subst hQ
    exact zz_iret hx hb hr [4, 0, 1, 2, 3] hK hP9 hD9 hS9 rfl rfl (by assumption) hlocks dX6_pour_10

def rs_X6_term_2 (p2 : Int32) (p1 : Int64) (x3 : Int64) (x4 : Int64) : Int64 :=
 if p2 = (0 : Int32) then
  (p1 / x3)
 else
  ((429981696 : Int64) / x3)
def lp_X6_term_2 (ct2 : Int64 → Int64 → (Int64)) : Nat → Int64 → Int64 → (Int64)
  | 0, _, _ => default
  | k + 1, b1, b2 =>
  if (lg_cmp b2 (0 : Int64)) = (0 : Int32) then
   (ct2 b1 b2)
  else
   cut (b1 - b1 / b2 * b2) (fun (v5 : Int64) =>
   (lp_X6_term_2 ct2 k b2 v5))
def m_X6_term (p1 : Int64) (p2 : Int32) : Int64 :=
 (lp_X6_term_2 (rs_X6_term_2 p2 p1) (p1.toInt.natAbs + 1) (429981696 : Int64) p1)
set_option maxHeartbeats 4000000 in
set_option maxRecDepth 100000 in
theorem k_X6_term (l : Launch) (dC : Nat → ClassId) (dI : Nat → Nat → Nat) (cI cJ cC : ClassId) (sz : Nat) (p1 : Int64) (p2 : Int32) (r : Int64) (hT : m_X6_term p1 p2 = r) : Met l yX6_term wsX6_term ({ frames := 0, cells := 0, slots := 0, locals := 0 }) (zPc [.long p1, .int p2] (dC, dI) (zTy cI cJ cC) [] sz) (zQl r (True) (dC, dI) (zTy cI cJ cC) [] (va_A [] sz)) 0 0 (va_A [] sz) := by
  refine Met.ofW (cc := cX6_term) (maxL := 9) (ret := (some .long)) (by decide) rfl ?_
  intro p e s m args below meth c s₁ B hml hv
  obtain ⟨rfl, hsz, hP, hK, hD0⟩ := hv
  have hx := B.exec
  have hb := B.bytes
  have hr := B.returns
  have hts := atoms_spec (ws := wsX6_term) B.pre
  have hown : s.vm.findClass RX6 = some m.cls := findClass_of_methodNamed B.named
  have hlocks := B.notSynchronized
  subst hsz
  have hD := hD0.self (sz := s.heap.size)
  generalize hAe : va_A [] s.heap.size = A at hD ⊢
  have hA : ∀ q : Nat, s.heap.size ≤ q → A q := fun q h => by rw [← hAe]; exact Or.inr h
  have hS : va_S A s.heap s.heap [] := va_S.rf
  have hP : va_P (dC, dI) vwCl [] s.heap := hP
  have hK : va_K (dC, dI) vwCl (zTy cI cJ cC) s := hK
  have hl := lv_entry ([.long p1, .int p2]) (n := 9) (Nat.le_of_ble_eq_true rfl)
  rw [lg_entry_eq]
  generalize (lg_sl ([.long p1, .int p2]) ++ List.replicate (9 - (lg_sl ([.long p1, .int p2])).length) Slot.unset).toArray = ls at hl ⊢
  have hl : lv_has ls 9 [(0, .long p1), (2, .int p2)] := hl
  refine zz_start hP hS (fun Q hQ H locs hP hS => ?_)
  have hc_113 := (hts (.constantLong RX6 113 (429981696)) (by decide +kernel))
  refine lv_lload_n hx hb dX6_term_0 rfl (lv_at hl 0 rfl) ?_
  refine lv_lstore_n (lv' := [(3, .long p1), (0, .long p1), (2, .int p2)]) hx hb dX6_term_1 rfl hl (by decide) rfl (fun ls hl => ?_)
  refine lv_ldc2 (v := (429981696 : Int64)) hx hb hown hc_113 dX6_term_2 ?_
  refine lv_lstore (lv' := [(5, .long (429981696 : Int64)), (3, .long p1), (0, .long p1), (2, .int p2)]) hx hb dX6_term_5 hl (by decide) rfl (fun ls hl => ?_)
  refine zz_loop (α := Int64 × Int64) 28 (fun k a H locs ls => (¬ a.1 = (0 : Int64)) ∧ (a.2.toInt.natAbs < k) ∧ lp_X6_term_2 (rs_X6_term_2 p2 p1) k a.1 a.2 = r ∧ va_P (dC, dI) vwCl [] H ∧ va_D A [] ∧ va_S A s.heap H locs ∧ lv_has ls 9 [(5, .long a.1), (3, .long a.2), (0, .long p1), (2, .int p2)]) (fun a H locs ls => (¬ a.1 = (0 : Int64)) ∧ (rs_X6_term_2 p2 p1) a.1 a.2 = r ∧ va_P (dC, dI) vwCl [] H ∧ va_D A [] ∧ va_S A s.heap H locs ∧ lv_has ls 9 [(5, .long a.1), (0, .long p1), (2, .int p2)]) ?_ ?_ ?_ (p1.toInt.natAbs + 1) ((429981696 : Int64), p1) ⟨(by decide : ¬ (429981696 : Int64) = (0 : Int64)), (by omega : p1.toInt.natAbs < (p1.toInt.natAbs + 1)), hT, hP.sub [] rfl, hD.sub [] rfl rfl, hS, lv_sub hl [0, 1, 2, 3] rfl⟩
  · rintro ⟨x3, x4⟩ H locs ls ⟨hy1, hT, hP, hD, hS, hl⟩
    have hP : va_P (dC, dI) vwCl [] H := hP
    have hD : va_D A [] := hD
    have hl : lv_has ls 9 [(5, .long x3), (0, .long p1), (2, .int p2)] := hl
    have hT : (rs_X6_term_2 p2 p1) x3 x4 = r := hT
    have hy1 : ¬ x3 = (0 : Int64) := hy1
    refine lv_iload_n hx hb dX6_term_28 rfl (lv_at hl 2 rfl) ?_
    refine lv_if_ne (tgt := 39) hx hb dX6_term_29 (by decide) (fun c_3 => ?_) (fun c_3 => ?_)
    · replace hT := cutF c_3 hT
      have g_6 := zeqF (rfl : (p2).toInt = _) (by decide : ((0 : Int32)).toInt = 0) c_3
      refine lv_ldc2 (v := (429981696 : Int64)) hx hb hown hc_113 dX6_term_39 ?_
      refine lv_lload hx hb dX6_term_42 (lv_at hl 0 rfl) ?_
      have h_4 : ¬ x3 = 0 := by assumption
      refine lv_ldiv hx hb dX6_term_44 h_4 ?_
      have hP9 := hP
      have hD9 := hD
      have hS9 := hS
      have hT : ((429981696 : Int64) / x3) = r := hT
      subst hT
      subst hQ
      exact zz_lret hx hb hr [] hK hP9 hD9 hS9 rfl rfl trivial hlocks dX6_term_45
    · replace hT := cutT c_3 hT
      have g_7 := zeqT (rfl : (p2).toInt = _) (by decide : ((0 : Int32)).toInt = 0) c_3
      refine lv_lload_n hx hb dX6_term_32 rfl (lv_at hl 1 rfl) ?_
      refine lv_lload hx hb dX6_term_33 (lv_at hl 0 rfl) ?_
      have h_5 : ¬ x3 = 0 := by assumption
      refine lv_ldiv hx hb dX6_term_35 h_5 ?_
      refine lv_goto (tgt := 45) hx hb dX6_term_36 (by decide) ?_
      have hP9 := hP
      have hD9 := hD
      have hS9 := hS
      have hT : (p1 / x3) = r := hT
      subst hT
      subst hQ
      exact zz_lret hx hb hr [] hK hP9 hD9 hS9 rfl rfl trivial hlocks dX6_term_45
  · rintro ⟨b1, b2⟩ H locs ls ⟨hy1, hm, -⟩
    try dsimp only at *
    omega
  · intro k2 hex2 ih2
    rintro ⟨b1, b2⟩ H locs ls ⟨hy1, hm2, hT, hP, hD, hS, hl⟩
    have hP : va_P (dC, dI) vwCl [] H := hP
    have hD : va_D A [] := hD
    have hl : lv_has ls 9 [(5, .long b1), (3, .long b2), (0, .long p1), (2, .int p2)] := hl
    have hT : lp_X6_term_2 (rs_X6_term_2 p2 p1) (k2 + 1) b1 b2 = r := hT
    have hy1 : ¬ b1 = (0 : Int64) := hy1
    have hm2 : b2.toInt.natAbs < (k2 + 1) := hm2
    try simp only [Int.natCast_add, Int.natCast_one, Nat.cast_add, Nat.cast_one] at hm2
    refine lv_lload_n hx hb dX6_term_7 rfl (lv_at hl 1 rfl) ?_
    refine lv_lconst (v := (0 : Int64)) hx hb dX6_term_8 (by decide) ?_
    refine W.lcmp hx hb dX6_term_9 ?_
    have hz_8 : ((0 : Int64)).toInt = 0 := by decide
    refine lv_if_eq (tgt := 28) hx hb dX6_term_10 (by decide) (fun c_1 => ?_) (fun c_1 => ?_)
    · replace hT := cutT c_1 hT
      have g_9 := zlc_eq.mp c_1
      exact hex2 (b1, b2) _ _ _ ⟨(by assumption : ¬ b1 = (0 : Int64)), hT, hP.sub [] rfl, hD.sub [] rfl rfl, hS, lv_sub hl [0, 2, 3] rfl⟩
    · replace hT := cutF c_1 hT
      have g_10 := mt zlc_eq.mpr c_1
      refine lv_lload hx hb dX6_term_13 (lv_at hl 0 rfl) ?_
      refine lv_lload_n hx hb dX6_term_15 rfl (lv_at hl 1 rfl) ?_
      have h_2 : ¬ b2 = 0 := zlc (by assumption)
      refine lv_lrem hx hb dX6_term_16 h_2 ?_
      refine lv_topl (fun v5 ev5 => ?_)
      replace hT := cut_n ev5.symm hT
      refine lv_lstore (lv' := [(7, .long v5), (5, .long b1), (3, .long b2), (0, .long p1), (2, .int p2)]) hx hb dX6_term_17 hl (by decide) rfl (fun ls hl => ?_)
      refine lv_lload_n hx hb dX6_term_19 rfl (lv_at hl 2 rfl) ?_
      refine lv_lstore (lv' := [(5, .long b2), (7, .long v5), (3, .long b2), (0, .long p1), (2, .int p2)]) hx hb dX6_term_20 hl (by decide) rfl (fun ls hl => ?_)
      refine lv_lload hx hb dX6_term_22 (lv_at hl 1 rfl) ?_
      refine lv_lstore_n (lv' := [(3, .long v5), (5, .long b2), (7, .long v5), (0, .long p1), (2, .int p2)]) hx hb dX6_term_24 rfl hl (by decide) rfl (fun ls hl => ?_)
      refine lv_goto (tgt := 7) hx hb dX6_term_25 (by decide) ?_
      exact ih2 (b2, v5) _ _ _ ⟨(zlc (by assumption) : ¬ b2 = (0 : Int64)), (by have hq := zl_rem (zlc (x := b2) (by assumption)) ev5; omega : v5.toInt.natAbs < k2), hT, hP.sub [] rfl, hD.sub [] rfl rfl, hS, lv_sub hl [1, 0, 3, 4] rfl⟩

def m_X6_isPart (p1 : Int32) : Int32 :=
 cut (m_X6_isIn (p1.toInt64) (0 : Int64) (1 : Int64)) (fun (r1 : Int32) =>
 r1)
set_option maxHeartbeats 4000000 in
set_option maxRecDepth 100000 in
theorem k_X6_isPart (l : Launch) (dC : Nat → ClassId) (dI : Nat → Nat → Nat) (cI cJ cC : ClassId) (sz : Nat) (p1 : Int32) (r : Int32) (hT : m_X6_isPart p1 = r) : Met l yX6_isPart wsX6_isPart ({ frames := 1, cells := 0, slots := 0, locals := 25 }) (zPc [.int p1] (dC, dI) (zTy cI cJ cC) [] sz) (zQi r ((zB01 r)) (dC, dI) (zTy cI cJ cC) [] (va_A [] sz)) 0 0 (va_A [] sz) := by
  refine Met.ofW (cc := cX6_isPart) (maxL := 1) (ret := (some .boolean)) (by decide) rfl ?_
  intro p e s m args below meth c s₁ B hml hv
  obtain ⟨rfl, hsz, hP, hK, hD0⟩ := hv
  have hx := B.exec
  have hb := B.bytes
  have hr := B.returns
  have hts := atoms_spec (ws := wsX6_isPart) B.pre
  have hown : s.vm.findClass RX6 = some m.cls := findClass_of_methodNamed B.named
  have hlocks := B.notSynchronized
  subst hsz
  have hD := hD0.self (sz := s.heap.size)
  generalize hAe : va_A [] s.heap.size = A at hD ⊢
  have hA : ∀ q : Nat, s.heap.size ≤ q → A q := fun q h => by rw [← hAe]; exact Or.inr h
  have hS : va_S A s.heap s.heap [] := va_S.rf
  have hP : va_P (dC, dI) vwCl [] s.heap := hP
  have hK : va_K (dC, dI) vwCl (zTy cI cJ cC) s := hK
  have hl := lv_entry ([.int p1]) (n := 1) (Nat.le_of_ble_eq_true rfl)
  rw [lg_entry_eq]
  generalize (lg_sl ([.int p1]) ++ List.replicate (1 - (lg_sl ([.int p1])).length) Slot.unset).toArray = ls at hl ⊢
  have hl : lv_has ls 1 [(0, .int p1)] := hl
  refine zz_start hP hS (fun Q hQ H locs hP hS => ?_)
  refine lv_iload_n hx hb dX6_isPart_0 rfl (lv_at hl 0 rfl) ?_
  refine lv_i2l (v := (p1.toInt64)) hx hb dX6_isPart_1 rfl ?_
  refine lv_lconst (v := (0 : Int64)) hx hb dX6_isPart_2 (by decide) ?_
  refine lv_lconst (v := (1 : Int64)) hx hb dX6_isPart_3 (by decide) ?_
  obtain ⟨r1, ev_1⟩ : ∃ x0, (m_X6_isIn (p1.toInt64) (0 : Int64) (1 : Int64)) = x0 := ⟨_, rfl⟩
  replace hT := cut_n ev_1 hT
  refine zz_ci [] [] (wr := []) (w1 := []) (va_runS (As := [.long (p1.toInt64), .long (0 : Int64), .long (1 : Int64)]) (rest := []) ⟨hx, hb, hml, hown, hts⟩ (k_X6_isIn l dC dI cI cJ cC H.size (p1.toInt64) (0 : Int64) (1 : Int64) r1 ev_1) (va_cwS 3 hts gX6_isPart_X6_isIn rfl rfl rfl (by decide +kernel) ⟨Nat.le_of_ble_eq_true rfl, Nat.le_of_ble_eq_true rfl⟩) (zz_preS [] hK hP hD rfl rfl) rfl rfl hl.1 rfl (lv_room (Nat.le_of_ble_eq_true rfl)) dX6_isPart_4 ⟨Nat.zero_le _, Nat.zero_le _⟩) hP hD hS hA rfl rfl rfl (by decide) (fun ok_2 H locs hP hD hS => ?_)
  have hP : va_P (dC, dI) vwCl [] H := hP
  have hD : va_D A [] := hD
  have hz_3 : ((p1.toInt64)).toInt = (p1).toInt := Int32.toInt_toInt64 _
  have hz_4 : ((0 : Int64)).toInt = 0 := by decide
  have hz_5 : ((1 : Int64)).toInt = 1 := by decide
  obtain ⟨k_6, k_7⟩ := ok_2
  have hP9 := hP
  have hD9 := hD
  have hS9 := hS
  have hT : r1 = r := hT
  subst hT
  subst hQ
  exact zz_zret hx hb hr (zB01.nar k_6) [] hK hP9 hD9 hS9 rfl rfl k_6 hlocks dX6_isPart_7

def m_X6_in (vo_glasses : Int32) (vo_amounts : Nat → Int64) (p1 : Int32) (p2 : Int32) : Int64 :=
 cut (m_X6_isGlass vo_glasses p1) (fun (r1 : Int32) =>
 if r1 = (0 : Int32) then
  (-101 : Int64)
 else
  cut (m_X6_isPart p2) (fun (r2 : Int32) =>
  if r2 = (0 : Int32) then
   (-102 : Int64)
  else
   cut (m_X6_term (vo_amounts p1.toNatClampNeg) p2) (fun (r3 : Int64) =>
   r3)))
set_option maxHeartbeats 4000000 in
set_option maxRecDepth 100000 in
theorem k_X6_in (l : Launch) (dC : Nat → ClassId) (dI : Nat → Nat → Nat) (cI cJ cC : ClassId) (sz : Nat) (o o_page o_readRows o_rows o_turns o_amounts o_drank o_takes o_leans o_would o_keptAmounts o_keptDrank o_keptTurns : Nat) (vo_pageMany : Int32) (vo_readMany : Int32) (vo_state : Int32) (vo_readMost : Int32) (vo_glasses : Int32) (vo_towersRead : Int32) (vo_poured : Int32) (vo_spilt : Int64) (vo_done : Int32) (vo_seedNow : Int32) (vo_keptTower : Int32) (vo_keptPoured : Int32) (vo_keptSpilt : Int64) (vo_hash : Int64) (vo_amounts : Nat → Int64) (p1 : Int32) (p2 : Int32) (r : Int64) (hT : m_X6_in vo_glasses vo_amounts p1 p2 = r) (hg0 : 0 ≤ vo_glasses.toInt) (hg9 : vo_glasses.toInt ≤ 9) : Met l yX6_in wsX6_in ({ frames := 2, cells := 0, slots := 0, locals := 46 }) (zPc [.ref o, .int p1, .int p2] (dC, dI) (zTy cI cJ cC) [(o, .inr (6, [.ref o_page, .int vo_pageMany, .int vo_readMany, .int vo_state, .int vo_readMost, .ref o_readRows, .int vo_glasses, .int vo_towersRead, .int vo_poured, .ref o_rows, .ref o_turns, .ref o_amounts, .ref o_drank, .long vo_spilt, .ref o_takes, .ref o_leans, .ref o_would, .int vo_done, .int vo_seedNow, .int vo_keptTower, .int vo_keptPoured, .long vo_keptSpilt, .ref o_keptAmounts, .ref o_keptDrank, .ref o_keptTurns, .long vo_hash])), (o_amounts, .inl (cJ, 9, .inr (.inl vo_amounts)))] sz) (zQl r (True) (dC, dI) (zTy cI cJ cC) [(o, .inr (6, [.ref o_page, .int vo_pageMany, .int vo_readMany, .int vo_state, .int vo_readMost, .ref o_readRows, .int vo_glasses, .int vo_towersRead, .int vo_poured, .ref o_rows, .ref o_turns, .ref o_amounts, .ref o_drank, .long vo_spilt, .ref o_takes, .ref o_leans, .ref o_would, .int vo_done, .int vo_seedNow, .int vo_keptTower, .int vo_keptPoured, .long vo_keptSpilt, .ref o_keptAmounts, .ref o_keptDrank, .ref o_keptTurns, .long vo_hash])), (o_amounts, .inl (cJ, 9, .inr (.inl vo_amounts)))] (va_A [(o, .inr (6, [.ref o_page, .int vo_pageMany, .int vo_readMany, .int vo_state, .int vo_readMost, .ref o_readRows, .int vo_glasses, .int vo_towersRead, .int vo_poured, .ref o_rows, .ref o_turns, .ref o_amounts, .ref o_drank, .long vo_spilt, .ref o_takes, .ref o_leans, .ref o_would, .int vo_done, .int vo_seedNow, .int vo_keptTower, .int vo_keptPoured, .long vo_keptSpilt, .ref o_keptAmounts, .ref o_keptDrank, .ref o_keptTurns, .long vo_hash])), (o_amounts, .inl (cJ, 9, .inr (.inl vo_amounts)))] sz)) 0 0 (va_A [(o, .inr (6, [.ref o_page, .int vo_pageMany, .int vo_readMany, .int vo_state, .int vo_readMost, .ref o_readRows, .int vo_glasses, .int vo_towersRead, .int vo_poured, .ref o_rows, .ref o_turns, .ref o_amounts, .ref o_drank, .long vo_spilt, .ref o_takes, .ref o_leans, .ref o_would, .int vo_done, .int vo_seedNow, .int vo_keptTower, .int vo_keptPoured, .long vo_keptSpilt, .ref o_keptAmounts, .ref o_keptDrank, .ref o_keptTurns, .long vo_hash])), (o_amounts, .inl (cJ, 9, .inr (.inl vo_amounts)))] sz) := by
  refine Met.ofW (cc := cX6_in) (maxL := 3) (ret := (some .long)) (by decide) rfl ?_
  intro p e s m args below meth c s₁ B hml hv
  obtain ⟨rfl, hsz, hP, hK, hD0⟩ := hv
  have hx := B.exec
  have hb := B.bytes
  have hr := B.returns
  have hts := atoms_spec (ws := wsX6_in) B.pre
  have hown : s.vm.findClass RX6 = some m.cls := findClass_of_methodNamed B.named
  have hlocks := B.notSynchronized
  subst hsz
  have hD := hD0.self (sz := s.heap.size)
  generalize hAe : va_A [(o, .inr (6, [.ref o_page, .int vo_pageMany, .int vo_readMany, .int vo_state, .int vo_readMost, .ref o_readRows, .int vo_glasses, .int vo_towersRead, .int vo_poured, .ref o_rows, .ref o_turns, .ref o_amounts, .ref o_drank, .long vo_spilt, .ref o_takes, .ref o_leans, .ref o_would, .int vo_done, .int vo_seedNow, .int vo_keptTower, .int vo_keptPoured, .long vo_keptSpilt, .ref o_keptAmounts, .ref o_keptDrank, .ref o_keptTurns, .long vo_hash])), (o_amounts, .inl (cJ, 9, .inr (.inl vo_amounts)))] s.heap.size = A at hD ⊢
  have hA : ∀ q : Nat, s.heap.size ≤ q → A q := fun q h => by rw [← hAe]; exact Or.inr h
  have hS : va_S A s.heap s.heap [] := va_S.rf
  have hP : va_P (dC, dI) vwCl [(o, .inr (6, [.ref o_page, .int vo_pageMany, .int vo_readMany, .int vo_state, .int vo_readMost, .ref o_readRows, .int vo_glasses, .int vo_towersRead, .int vo_poured, .ref o_rows, .ref o_turns, .ref o_amounts, .ref o_drank, .long vo_spilt, .ref o_takes, .ref o_leans, .ref o_would, .int vo_done, .int vo_seedNow, .int vo_keptTower, .int vo_keptPoured, .long vo_keptSpilt, .ref o_keptAmounts, .ref o_keptDrank, .ref o_keptTurns, .long vo_hash])), (o_amounts, .inl (cJ, 9, .inr (.inl vo_amounts)))] s.heap := hP
  have hK : va_K (dC, dI) vwCl (zTy cI cJ cC) s := hK
  have hl := lv_entry ([.ref o, .int p1, .int p2]) (n := 3) (Nat.le_of_ble_eq_true rfl)
  rw [lg_entry_eq]
  generalize (lg_sl ([.ref o, .int p1, .int p2]) ++ List.replicate (3 - (lg_sl ([.ref o, .int p1, .int p2])).length) Slot.unset).toArray = ls at hl ⊢
  have hl : lv_has ls 3 [(0, .ref o), (1, .int p1), (2, .int p2)] := hl
  refine zz_start hP hS (fun Q hQ H locs hP hS => ?_)
  have hwX6 : ∀ w ∈ u_ws RX6 TX6 26, w ∈ wsX6_in := by decide +kernel
  have hc_143 := (hts (.constantLong RX6 143 (-101)) (by decide +kernel))
  have hc_152 := (hts (.constantLong RX6 152 (-102)) (by decide +kernel))
  have hf_22 := (hts (.fieldLink RX6 22 "PouredTopmostModel" "amounts" "[J") (by decide +kernel))
  refine lv_aload_n hx hb dX6_in_0 rfl (lv_at hl 0 rfl) ?_
  refine lv_iload_n hx hb dX6_in_1 rfl (lv_at hl 1 rfl) ?_
  obtain ⟨r1, ev_1⟩ : ∃ x0, (m_X6_isGlass vo_glasses p1) = x0 := ⟨_, rfl⟩
  replace hT := cut_n ev_1 hT
  refine zz_ci [0] [1] (wr := [(o_amounts, .inl (cJ, 9, .inr (.inl vo_amounts)))]) (w1 := [(o, .inr (6, [.ref o_page, .int vo_pageMany, .int vo_readMany, .int vo_state, .int vo_readMost, .ref o_readRows, .int vo_glasses, .int vo_towersRead, .int vo_poured, .ref o_rows, .ref o_turns, .ref o_amounts, .ref o_drank, .long vo_spilt, .ref o_takes, .ref o_leans, .ref o_would, .int vo_done, .int vo_seedNow, .int vo_keptTower, .int vo_keptPoured, .long vo_keptSpilt, .ref o_keptAmounts, .ref o_keptDrank, .ref o_keptTurns, .long vo_hash]))]) (va_runV (As := [.int p1]) (rest := []) ⟨hx, hb, hml, hown, hts⟩ (k_X6_isGlass l dC dI cI cJ cC H.size o o_page o_readRows o_rows o_turns o_amounts o_drank o_takes o_leans o_would o_keptAmounts o_keptDrank o_keptTurns vo_pageMany vo_readMany vo_state vo_readMost vo_glasses vo_towersRead vo_poured vo_spilt vo_done vo_seedNow vo_keptTower vo_keptPoured vo_keptSpilt vo_hash p1 r1 ev_1 hg0 hg9) (cwV 1 hts gX6_in_X6_isGlass rfl rfl rfl (by decide +kernel) ⟨Nat.le_of_ble_eq_true rfl, Nat.le_of_ble_eq_true rfl⟩) (zz_preV [0] hK hP hD rfl rfl (va_recv hK hP (ci := 6) (q0 := 0) rfl rfl)) rfl rfl hl.1 rfl (lv_room (Nat.le_of_ble_eq_true rfl)) dX6_in_2 ⟨Nat.zero_le _, Nat.zero_le _⟩) hP hD hS hA rfl rfl rfl (by decide) (fun ok_2 H locs hP hD hS => ?_)
  have hP : va_P (dC, dI) vwCl [(o_amounts, .inl (cJ, 9, .inr (.inl vo_amounts))), (o, .inr (6, [.ref o_page, .int vo_pageMany, .int vo_readMany, .int vo_state, .int vo_readMost, .ref o_readRows, .int vo_glasses, .int vo_towersRead, .int vo_poured, .ref o_rows, .ref o_turns, .ref o_amounts, .ref o_drank, .long vo_spilt, .ref o_takes, .ref o_leans, .ref o_would, .int vo_done, .int vo_seedNow, .int vo_keptTower, .int vo_keptPoured, .long vo_keptSpilt, .ref o_keptAmounts, .ref o_keptDrank, .ref o_keptTurns, .long vo_hash]))] H := hP
  have hD : va_D A [(o_amounts, .inl (cJ, 9, .inr (.inl vo_amounts))), (o, .inr (6, [.ref o_page, .int vo_pageMany, .int vo_readMany, .int vo_state, .int vo_readMost, .ref o_readRows, .int vo_glasses, .int vo_towersRead, .int vo_poured, .ref o_rows, .ref o_turns, .ref o_amounts, .ref o_drank, .long vo_spilt, .ref o_takes, .ref o_leans, .ref o_would, .int vo_done, .int vo_seedNow, .int vo_keptTower, .int vo_keptPoured, .long vo_keptSpilt, .ref o_keptAmounts, .ref o_keptDrank, .ref o_keptTurns, .long vo_hash]))] := hD
  obtain ⟨k_3, k_4⟩ := ok_2
  refine lv_if_ne (tgt := 12) hx hb dX6_in_5 (by decide) (fun c_5 => ?_) (fun c_5 => ?_)
  · replace hT := cutF c_5 hT
    have g_12 := zeqF (rfl : (r1).toInt = _) (by decide : ((0 : Int32)).toInt = 0) c_5
    refine lv_iload_n hx hb dX6_in_12 rfl (lv_at hl 2 rfl) ?_
    obtain ⟨r2, ev_6⟩ : ∃ x0, (m_X6_isPart p2) = x0 := ⟨_, rfl⟩
    replace hT := cut_n ev_6 hT
    refine zz_ci [] [0, 1] (wr := [(o_amounts, .inl (cJ, 9, .inr (.inl vo_amounts))), (o, .inr (6, [.ref o_page, .int vo_pageMany, .int vo_readMany, .int vo_state, .int vo_readMost, .ref o_readRows, .int vo_glasses, .int vo_towersRead, .int vo_poured, .ref o_rows, .ref o_turns, .ref o_amounts, .ref o_drank, .long vo_spilt, .ref o_takes, .ref o_leans, .ref o_would, .int vo_done, .int vo_seedNow, .int vo_keptTower, .int vo_keptPoured, .long vo_keptSpilt, .ref o_keptAmounts, .ref o_keptDrank, .ref o_keptTurns, .long vo_hash]))]) (w1 := []) (va_runS (As := [.int p2]) (rest := []) ⟨hx, hb, hml, hown, hts⟩ (k_X6_isPart l dC dI cI cJ cC H.size p2 r2 ev_6) (va_cwS 1 hts gX6_in_X6_isPart rfl rfl rfl (by decide +kernel) ⟨Nat.le_of_ble_eq_true rfl, Nat.le_of_ble_eq_true rfl⟩) (zz_preS [] hK hP hD rfl rfl) rfl rfl hl.1 rfl (lv_room (Nat.le_of_ble_eq_true rfl)) dX6_in_13 ⟨Nat.zero_le _, Nat.zero_le _⟩) hP hD hS hA rfl rfl rfl (by decide) (fun ok_7 H locs hP hD hS => ?_)
    have hP : va_P (dC, dI) vwCl [(o_amounts, .inl (cJ, 9, .inr (.inl vo_amounts))), (o, .inr (6, [.ref o_page, .int vo_pageMany, .int vo_readMany, .int vo_state, .int vo_readMost, .ref o_readRows, .int vo_glasses, .int vo_towersRead, .int vo_poured, .ref o_rows, .ref o_turns, .ref o_amounts, .ref o_drank, .long vo_spilt, .ref o_takes, .ref o_leans, .ref o_would, .int vo_done, .int vo_seedNow, .int vo_keptTower, .int vo_keptPoured, .long vo_keptSpilt, .ref o_keptAmounts, .ref o_keptDrank, .ref o_keptTurns, .long vo_hash]))] H := hP
    have hD : va_D A [(o_amounts, .inl (cJ, 9, .inr (.inl vo_amounts))), (o, .inr (6, [.ref o_page, .int vo_pageMany, .int vo_readMany, .int vo_state, .int vo_readMost, .ref o_readRows, .int vo_glasses, .int vo_towersRead, .int vo_poured, .ref o_rows, .ref o_turns, .ref o_amounts, .ref o_drank, .long vo_spilt, .ref o_takes, .ref o_leans, .ref o_would, .int vo_done, .int vo_seedNow, .int vo_keptTower, .int vo_keptPoured, .long vo_keptSpilt, .ref o_keptAmounts, .ref o_keptDrank, .ref o_keptTurns, .long vo_hash]))] := hD
    refine lv_if_eq (tgt := 32) hx hb dX6_in_16 (by decide) (fun c_8 => ?_) (fun c_8 => ?_)
    · replace hT := cutT c_8 hT
      have g_13 := zeqT (rfl : (r2).toInt = _) (by decide : ((0 : Int32)).toInt = 0) c_8
      refine lv_ldc2 (v := (-102 : Int64)) hx hb hown hc_152 dX6_in_32 ?_
      have hP9 := hP
      have hD9 := hD
      have hS9 := hS
      have hT : (-102 : Int64) = r := hT
      subst hT
      subst hQ
      exact zz_lret hx hb hr [1, 0] hK hP9 hD9 hS9 rfl rfl trivial hlocks dX6_in_35
    · replace hT := cutF c_8 hT
      have g_14 := zeqF (rfl : (r2).toInt = _) (by decide : ((0 : Int32)).toInt = 0) c_8
      refine lv_aload_n hx hb dX6_in_19 rfl (lv_at hl 0 rfl) ?_
      refine va_get (D := (dC, dI)) (ci := 6) (v := .ref o_amounts) (C := RX6) (T := TX6) (N := 26) hx hb hts hwX6 hown hK hP 1 rfl rfl 11 (by decide) hf_22 (fun _ h9 => h9) rfl dX6_in_20 ?_
      refine lv_iload_n hx hb dX6_in_23 rfl (lv_at hl 1 rfl) ?_
      have h_9 : vp_in p1 9 := zin (by omega) (by omega)
      refine va_lald hx hb hK hP 0 1 rfl rfl h_9 dX6_in_24 ?_
      refine lv_iload_n hx hb dX6_in_25 rfl (lv_at hl 2 rfl) ?_
      obtain ⟨r3, ev_10⟩ : ∃ x0, (m_X6_term (vo_amounts p1.toNatClampNeg) p2) = x0 := ⟨_, rfl⟩
      replace hT := cut_n ev_10 hT
      refine zz_cl [] [0, 1] (wr := [(o_amounts, .inl (cJ, 9, .inr (.inl vo_amounts))), (o, .inr (6, [.ref o_page, .int vo_pageMany, .int vo_readMany, .int vo_state, .int vo_readMost, .ref o_readRows, .int vo_glasses, .int vo_towersRead, .int vo_poured, .ref o_rows, .ref o_turns, .ref o_amounts, .ref o_drank, .long vo_spilt, .ref o_takes, .ref o_leans, .ref o_would, .int vo_done, .int vo_seedNow, .int vo_keptTower, .int vo_keptPoured, .long vo_keptSpilt, .ref o_keptAmounts, .ref o_keptDrank, .ref o_keptTurns, .long vo_hash]))]) (w1 := []) (va_runS (As := [.long (vo_amounts p1.toNatClampNeg), .int p2]) (rest := []) ⟨hx, hb, hml, hown, hts⟩ (k_X6_term l dC dI cI cJ cC H.size (vo_amounts p1.toNatClampNeg) p2 r3 ev_10) (va_cwS 2 hts gX6_in_X6_term rfl rfl rfl (by decide +kernel) ⟨Nat.le_of_ble_eq_true rfl, Nat.le_of_ble_eq_true rfl⟩) (zz_preS [] hK hP hD rfl rfl) rfl rfl hl.1 rfl (lv_room (Nat.le_of_ble_eq_true rfl)) dX6_in_26 ⟨Nat.zero_le _, Nat.zero_le _⟩) hP hD hS hA rfl rfl rfl (by decide) (fun ok_11 H locs hP hD hS => ?_)
      have hP : va_P (dC, dI) vwCl [(o_amounts, .inl (cJ, 9, .inr (.inl vo_amounts))), (o, .inr (6, [.ref o_page, .int vo_pageMany, .int vo_readMany, .int vo_state, .int vo_readMost, .ref o_readRows, .int vo_glasses, .int vo_towersRead, .int vo_poured, .ref o_rows, .ref o_turns, .ref o_amounts, .ref o_drank, .long vo_spilt, .ref o_takes, .ref o_leans, .ref o_would, .int vo_done, .int vo_seedNow, .int vo_keptTower, .int vo_keptPoured, .long vo_keptSpilt, .ref o_keptAmounts, .ref o_keptDrank, .ref o_keptTurns, .long vo_hash]))] H := hP
      have hD : va_D A [(o_amounts, .inl (cJ, 9, .inr (.inl vo_amounts))), (o, .inr (6, [.ref o_page, .int vo_pageMany, .int vo_readMany, .int vo_state, .int vo_readMost, .ref o_readRows, .int vo_glasses, .int vo_towersRead, .int vo_poured, .ref o_rows, .ref o_turns, .ref o_amounts, .ref o_drank, .long vo_spilt, .ref o_takes, .ref o_leans, .ref o_would, .int vo_done, .int vo_seedNow, .int vo_keptTower, .int vo_keptPoured, .long vo_keptSpilt, .ref o_keptAmounts, .ref o_keptDrank, .ref o_keptTurns, .long vo_hash]))] := hD
      refine lv_goto (tgt := 35) hx hb dX6_in_29 (by decide) ?_
      have hP9 := hP
      have hD9 := hD
      have hS9 := hS
      have hT : r3 = r := hT
      subst hT
      subst hQ
      exact zz_lret hx hb hr [1, 0] hK hP9 hD9 hS9 rfl rfl trivial hlocks dX6_in_35
  · replace hT := cutT c_5 hT
    have g_15 := zeqT (rfl : (r1).toInt = _) (by decide : ((0 : Int32)).toInt = 0) c_5
    refine lv_ldc2 (v := (-101 : Int64)) hx hb hown hc_143 dX6_in_8 ?_
    have hP9 := hP
    have hD9 := hD
    have hS9 := hS
    have hT : (-101 : Int64) = r := hT
    subst hT
    subst hQ
    exact zz_lret hx hb hr [1, 0] hK hP9 hD9 hS9 rfl rfl trivial hlocks dX6_in_11

def rs_X6_together_2  (x3 : Int32) (x4 : Int64) : Int64 :=
 x4
def lp_X6_together_2 (vo_glasses : Int32) (ct2 : Int32 → Int64 → (Int64)) (vo_amounts : Nat → Int64) : Nat → Int32 → Int64 → (Int64)
  | 0, _, _ => default
  | k + 1, b1, b2 =>
  if vo_glasses ≤ b1 then
   (ct2 b1 b2)
  else
   cut (b2 + (vo_amounts b1.toNatClampNeg)) (fun (v5 : Int64) =>
   cut (b1 + (1 : Int32)) (fun (v6 : Int32) =>
   (lp_X6_together_2 vo_glasses ct2 vo_amounts k v6 v5)))
def m_X6_together (vo_glasses : Int32) (vo_amounts : Nat → Int64) : Int64 :=
 (lp_X6_together_2 vo_glasses rs_X6_together_2 vo_amounts 11 (0 : Int32) (0 : Int64))
set_option maxHeartbeats 4000000 in
set_option maxRecDepth 100000 in
theorem k_X6_together (l : Launch) (dC : Nat → ClassId) (dI : Nat → Nat → Nat) (cI cJ cC : ClassId) (sz : Nat) (o o_page o_readRows o_rows o_turns o_amounts o_drank o_takes o_leans o_would o_keptAmounts o_keptDrank o_keptTurns : Nat) (vo_pageMany : Int32) (vo_readMany : Int32) (vo_state : Int32) (vo_readMost : Int32) (vo_glasses : Int32) (vo_towersRead : Int32) (vo_poured : Int32) (vo_spilt : Int64) (vo_done : Int32) (vo_seedNow : Int32) (vo_keptTower : Int32) (vo_keptPoured : Int32) (vo_keptSpilt : Int64) (vo_hash : Int64) (vo_amounts : Nat → Int64) (r : Int64) (hT : m_X6_together vo_glasses vo_amounts = r) (hg0 : 0 ≤ vo_glasses.toInt) (hg9 : vo_glasses.toInt ≤ 9) : Met l yX6_together wsX6_together ({ frames := 0, cells := 0, slots := 0, locals := 0 }) (zPc [.ref o] (dC, dI) (zTy cI cJ cC) [(o, .inr (6, [.ref o_page, .int vo_pageMany, .int vo_readMany, .int vo_state, .int vo_readMost, .ref o_readRows, .int vo_glasses, .int vo_towersRead, .int vo_poured, .ref o_rows, .ref o_turns, .ref o_amounts, .ref o_drank, .long vo_spilt, .ref o_takes, .ref o_leans, .ref o_would, .int vo_done, .int vo_seedNow, .int vo_keptTower, .int vo_keptPoured, .long vo_keptSpilt, .ref o_keptAmounts, .ref o_keptDrank, .ref o_keptTurns, .long vo_hash])), (o_amounts, .inl (cJ, 9, .inr (.inl vo_amounts)))] sz) (zQl r (True) (dC, dI) (zTy cI cJ cC) [(o, .inr (6, [.ref o_page, .int vo_pageMany, .int vo_readMany, .int vo_state, .int vo_readMost, .ref o_readRows, .int vo_glasses, .int vo_towersRead, .int vo_poured, .ref o_rows, .ref o_turns, .ref o_amounts, .ref o_drank, .long vo_spilt, .ref o_takes, .ref o_leans, .ref o_would, .int vo_done, .int vo_seedNow, .int vo_keptTower, .int vo_keptPoured, .long vo_keptSpilt, .ref o_keptAmounts, .ref o_keptDrank, .ref o_keptTurns, .long vo_hash])), (o_amounts, .inl (cJ, 9, .inr (.inl vo_amounts)))] (va_A [(o, .inr (6, [.ref o_page, .int vo_pageMany, .int vo_readMany, .int vo_state, .int vo_readMost, .ref o_readRows, .int vo_glasses, .int vo_towersRead, .int vo_poured, .ref o_rows, .ref o_turns, .ref o_amounts, .ref o_drank, .long vo_spilt, .ref o_takes, .ref o_leans, .ref o_would, .int vo_done, .int vo_seedNow, .int vo_keptTower, .int vo_keptPoured, .long vo_keptSpilt, .ref o_keptAmounts, .ref o_keptDrank, .ref o_keptTurns, .long vo_hash])), (o_amounts, .inl (cJ, 9, .inr (.inl vo_amounts)))] sz)) 0 0 (va_A [(o, .inr (6, [.ref o_page, .int vo_pageMany, .int vo_readMany, .int vo_state, .int vo_readMost, .ref o_readRows, .int vo_glasses, .int vo_towersRead, .int vo_poured, .ref o_rows, .ref o_turns, .ref o_amounts, .ref o_drank, .long vo_spilt, .ref o_takes, .ref o_leans, .ref o_would, .int vo_done, .int vo_seedNow, .int vo_keptTower, .int vo_keptPoured, .long vo_keptSpilt, .ref o_keptAmounts, .ref o_keptDrank, .ref o_keptTurns, .long vo_hash])), (o_amounts, .inl (cJ, 9, .inr (.inl vo_amounts)))] sz) := by
  refine Met.ofW (cc := cX6_together) (maxL := 4) (ret := (some .long)) (by decide) rfl ?_
  intro p e s m args below meth c s₁ B hml hv
  obtain ⟨rfl, hsz, hP, hK, hD0⟩ := hv
  have hx := B.exec
  have hb := B.bytes
  have hr := B.returns
  have hts := atoms_spec (ws := wsX6_together) B.pre
  have hown : s.vm.findClass RX6 = some m.cls := findClass_of_methodNamed B.named
  have hlocks := B.notSynchronized
  subst hsz
  have hD := hD0.self (sz := s.heap.size)
  generalize hAe : va_A [(o, .inr (6, [.ref o_page, .int vo_pageMany, .int vo_readMany, .int vo_state, .int vo_readMost, .ref o_readRows, .int vo_glasses, .int vo_towersRead, .int vo_poured, .ref o_rows, .ref o_turns, .ref o_amounts, .ref o_drank, .long vo_spilt, .ref o_takes, .ref o_leans, .ref o_would, .int vo_done, .int vo_seedNow, .int vo_keptTower, .int vo_keptPoured, .long vo_keptSpilt, .ref o_keptAmounts, .ref o_keptDrank, .ref o_keptTurns, .long vo_hash])), (o_amounts, .inl (cJ, 9, .inr (.inl vo_amounts)))] s.heap.size = A at hD ⊢
  have hA : ∀ q : Nat, s.heap.size ≤ q → A q := fun q h => by rw [← hAe]; exact Or.inr h
  have hS : va_S A s.heap s.heap [] := va_S.rf
  have hP : va_P (dC, dI) vwCl [(o, .inr (6, [.ref o_page, .int vo_pageMany, .int vo_readMany, .int vo_state, .int vo_readMost, .ref o_readRows, .int vo_glasses, .int vo_towersRead, .int vo_poured, .ref o_rows, .ref o_turns, .ref o_amounts, .ref o_drank, .long vo_spilt, .ref o_takes, .ref o_leans, .ref o_would, .int vo_done, .int vo_seedNow, .int vo_keptTower, .int vo_keptPoured, .long vo_keptSpilt, .ref o_keptAmounts, .ref o_keptDrank, .ref o_keptTurns, .long vo_hash])), (o_amounts, .inl (cJ, 9, .inr (.inl vo_amounts)))] s.heap := hP
  have hK : va_K (dC, dI) vwCl (zTy cI cJ cC) s := hK
  have hl := lv_entry ([.ref o]) (n := 4) (Nat.le_of_ble_eq_true rfl)
  rw [lg_entry_eq]
  generalize (lg_sl ([.ref o]) ++ List.replicate (4 - (lg_sl ([.ref o])).length) Slot.unset).toArray = ls at hl ⊢
  have hl : lv_has ls 4 [(0, .ref o)] := hl
  refine zz_start hP hS (fun Q hQ H locs hP hS => ?_)
  have hwX6 : ∀ w ∈ u_ws RX6 TX6 26, w ∈ wsX6_together := by decide +kernel
  have hf_22 := (hts (.fieldLink RX6 22 "PouredTopmostModel" "amounts" "[J") (by decide +kernel))
  have hf_97 := (hts (.fieldLink RX6 97 "PouredTopmostModel" "glasses" "I") (by decide +kernel))
  refine lv_lconst (v := (0 : Int64)) hx hb dX6_together_0 (by decide) ?_
  refine lv_lstore_n (lv' := [(1, .long (0 : Int64)), (0, .ref o)]) hx hb dX6_together_1 rfl hl (by decide) rfl (fun ls hl => ?_)
  refine lv_iconst (v := (0 : Int32)) hx hb dX6_together_2 (by decide) ?_
  refine lv_istore_n (lv' := [(3, .int (0 : Int32)), (1, .long (0 : Int64)), (0, .ref o)]) hx hb dX6_together_3 rfl hl (by decide) rfl (fun ls hl => ?_)
  have hz_3 : ((0 : Int32)).toInt = 0 := by decide
  refine zz_loop (α := Int32 × Int64) 27 (fun k a H locs ls => (0 ≤ a.1.toInt) ∧ (a.1.toInt ≤ vo_glasses.toInt) ∧ (vo_glasses.toInt - a.1.toInt < ((k : Nat) : Int)) ∧ lp_X6_together_2 vo_glasses rs_X6_together_2 vo_amounts k a.1 a.2 = r ∧ va_P (dC, dI) vwCl [(o, .inr (6, [.ref o_page, .int vo_pageMany, .int vo_readMany, .int vo_state, .int vo_readMost, .ref o_readRows, .int vo_glasses, .int vo_towersRead, .int vo_poured, .ref o_rows, .ref o_turns, .ref o_amounts, .ref o_drank, .long vo_spilt, .ref o_takes, .ref o_leans, .ref o_would, .int vo_done, .int vo_seedNow, .int vo_keptTower, .int vo_keptPoured, .long vo_keptSpilt, .ref o_keptAmounts, .ref o_keptDrank, .ref o_keptTurns, .long vo_hash])), (o_amounts, .inl (cJ, 9, .inr (.inl vo_amounts)))] H ∧ va_D A [(o, .inr (6, [.ref o_page, .int vo_pageMany, .int vo_readMany, .int vo_state, .int vo_readMost, .ref o_readRows, .int vo_glasses, .int vo_towersRead, .int vo_poured, .ref o_rows, .ref o_turns, .ref o_amounts, .ref o_drank, .long vo_spilt, .ref o_takes, .ref o_leans, .ref o_would, .int vo_done, .int vo_seedNow, .int vo_keptTower, .int vo_keptPoured, .long vo_keptSpilt, .ref o_keptAmounts, .ref o_keptDrank, .ref o_keptTurns, .long vo_hash])), (o_amounts, .inl (cJ, 9, .inr (.inl vo_amounts)))] ∧ va_S A s.heap H locs ∧ lv_has ls 4 [(3, .int a.1), (1, .long a.2), (0, .ref o)]) (fun a H locs ls => (0 ≤ a.1.toInt) ∧ (a.1.toInt ≤ vo_glasses.toInt) ∧ rs_X6_together_2 a.1 a.2 = r ∧ va_P (dC, dI) vwCl [(o, .inr (6, [.ref o_page, .int vo_pageMany, .int vo_readMany, .int vo_state, .int vo_readMost, .ref o_readRows, .int vo_glasses, .int vo_towersRead, .int vo_poured, .ref o_rows, .ref o_turns, .ref o_amounts, .ref o_drank, .long vo_spilt, .ref o_takes, .ref o_leans, .ref o_would, .int vo_done, .int vo_seedNow, .int vo_keptTower, .int vo_keptPoured, .long vo_keptSpilt, .ref o_keptAmounts, .ref o_keptDrank, .ref o_keptTurns, .long vo_hash])), (o_amounts, .inl (cJ, 9, .inr (.inl vo_amounts)))] H ∧ va_D A [(o, .inr (6, [.ref o_page, .int vo_pageMany, .int vo_readMany, .int vo_state, .int vo_readMost, .ref o_readRows, .int vo_glasses, .int vo_towersRead, .int vo_poured, .ref o_rows, .ref o_turns, .ref o_amounts, .ref o_drank, .long vo_spilt, .ref o_takes, .ref o_leans, .ref o_would, .int vo_done, .int vo_seedNow, .int vo_keptTower, .int vo_keptPoured, .long vo_keptSpilt, .ref o_keptAmounts, .ref o_keptDrank, .ref o_keptTurns, .long vo_hash])), (o_amounts, .inl (cJ, 9, .inr (.inl vo_amounts)))] ∧ va_S A s.heap H locs ∧ lv_has ls 4 [(1, .long a.2)]) ?_ ?_ ?_ 11 ((0 : Int32), (0 : Int64)) ⟨(by omega : 0 ≤ (0 : Int32).toInt), (by omega : (0 : Int32).toInt ≤ vo_glasses.toInt), (by omega : vo_glasses.toInt - (0 : Int32).toInt < ((11 : Nat) : Int)), hT, hP.sub [0, 1] rfl, hD.sub [0, 1] rfl rfl, hS, lv_sub hl [0, 1, 2] rfl⟩
  · rintro ⟨x3, x4⟩ H locs ls ⟨i1, j1, hT, hP, hD, hS, hl⟩
    have hP : va_P (dC, dI) vwCl [(o, .inr (6, [.ref o_page, .int vo_pageMany, .int vo_readMany, .int vo_state, .int vo_readMost, .ref o_readRows, .int vo_glasses, .int vo_towersRead, .int vo_poured, .ref o_rows, .ref o_turns, .ref o_amounts, .ref o_drank, .long vo_spilt, .ref o_takes, .ref o_leans, .ref o_would, .int vo_done, .int vo_seedNow, .int vo_keptTower, .int vo_keptPoured, .long vo_keptSpilt, .ref o_keptAmounts, .ref o_keptDrank, .ref o_keptTurns, .long vo_hash])), (o_amounts, .inl (cJ, 9, .inr (.inl vo_amounts)))] H := hP
    have hD : va_D A [(o, .inr (6, [.ref o_page, .int vo_pageMany, .int vo_readMany, .int vo_state, .int vo_readMost, .ref o_readRows, .int vo_glasses, .int vo_towersRead, .int vo_poured, .ref o_rows, .ref o_turns, .ref o_amounts, .ref o_drank, .long vo_spilt, .ref o_takes, .ref o_leans, .ref o_would, .int vo_done, .int vo_seedNow, .int vo_keptTower, .int vo_keptPoured, .long vo_keptSpilt, .ref o_keptAmounts, .ref o_keptDrank, .ref o_keptTurns, .long vo_hash])), (o_amounts, .inl (cJ, 9, .inr (.inl vo_amounts)))] := hD
    have hl : lv_has ls 4 [(1, .long x4)] := hl
    have hT : rs_X6_together_2 x3 x4 = r := hT
    have i1 : 0 ≤ x3.toInt := i1
    have j1 : x3.toInt ≤ vo_glasses.toInt := j1
    refine lv_lload_n hx hb dX6_together_27 rfl (lv_at hl 0 rfl) ?_
    have hP9 := hP
    have hD9 := hD
    have hS9 := hS
    have hT : x4 = r := hT
    subst hT
    subst hQ
    exact zz_lret hx hb hr [0, 1] hK hP9 hD9 hS9 rfl rfl trivial hlocks dX6_together_28
  · rintro ⟨b1, b2⟩ H locs ls ⟨i1, j1, hm, -⟩
    try dsimp only at *
    omega
  · intro k2 hex2 ih2
    rintro ⟨b1, b2⟩ H locs ls ⟨i1, j1, hm2, hT, hP, hD, hS, hl⟩
    have hP : va_P (dC, dI) vwCl [(o, .inr (6, [.ref o_page, .int vo_pageMany, .int vo_readMany, .int vo_state, .int vo_readMost, .ref o_readRows, .int vo_glasses, .int vo_towersRead, .int vo_poured, .ref o_rows, .ref o_turns, .ref o_amounts, .ref o_drank, .long vo_spilt, .ref o_takes, .ref o_leans, .ref o_would, .int vo_done, .int vo_seedNow, .int vo_keptTower, .int vo_keptPoured, .long vo_keptSpilt, .ref o_keptAmounts, .ref o_keptDrank, .ref o_keptTurns, .long vo_hash])), (o_amounts, .inl (cJ, 9, .inr (.inl vo_amounts)))] H := hP
    have hD : va_D A [(o, .inr (6, [.ref o_page, .int vo_pageMany, .int vo_readMany, .int vo_state, .int vo_readMost, .ref o_readRows, .int vo_glasses, .int vo_towersRead, .int vo_poured, .ref o_rows, .ref o_turns, .ref o_amounts, .ref o_drank, .long vo_spilt, .ref o_takes, .ref o_leans, .ref o_would, .int vo_done, .int vo_seedNow, .int vo_keptTower, .int vo_keptPoured, .long vo_keptSpilt, .ref o_keptAmounts, .ref o_keptDrank, .ref o_keptTurns, .long vo_hash])), (o_amounts, .inl (cJ, 9, .inr (.inl vo_amounts)))] := hD
    have hl : lv_has ls 4 [(3, .int b1), (1, .long b2), (0, .ref o)] := hl
    have hT : lp_X6_together_2 vo_glasses rs_X6_together_2 vo_amounts (k2 + 1) b1 b2 = r := hT
    have i1 : 0 ≤ b1.toInt := i1
    have j1 : b1.toInt ≤ vo_glasses.toInt := j1
    have hm2 : vo_glasses.toInt - b1.toInt < (((k2 + 1) : Nat) : Int) := hm2
    try simp only [Int.natCast_add, Int.natCast_one, Nat.cast_add, Nat.cast_one] at hm2
    refine lv_iload_n hx hb dX6_together_4 rfl (lv_at hl 0 rfl) ?_
    refine lv_aload_n hx hb dX6_together_5 rfl (lv_at hl 2 rfl) ?_
    refine va_get (D := (dC, dI)) (ci := 6) (v := .int vo_glasses) (C := RX6) (T := TX6) (N := 26) hx hb hts hwX6 hown hK hP 0 rfl rfl 6 (by decide) hf_97 (fun _ h9 => h9) rfl dX6_together_6 ?_
    refine lv_icmp_ge (tgt := 27) hx hb dX6_together_9 (by decide) (fun c_1 => ?_) (fun c_1 => ?_)
    · replace hT := cutT c_1 hT
      have g_4 := zleT (rfl : (vo_glasses).toInt = _) (rfl : (b1).toInt = _) c_1
      exact hex2 (b1, b2) _ _ _ ⟨(by omega : 0 ≤ b1.toInt), (by omega : b1.toInt ≤ vo_glasses.toInt), hT, hP.sub [0, 1] rfl, hD.sub [0, 1] rfl rfl, hS, lv_sub hl [1] rfl⟩
    · replace hT := cutF c_1 hT
      have g_5 := zleF (rfl : (vo_glasses).toInt = _) (rfl : (b1).toInt = _) c_1
      refine lv_lload_n hx hb dX6_together_12 rfl (lv_at hl 1 rfl) ?_
      refine lv_aload_n hx hb dX6_together_13 rfl (lv_at hl 2 rfl) ?_
      refine va_get (D := (dC, dI)) (ci := 6) (v := .ref o_amounts) (C := RX6) (T := TX6) (N := 26) hx hb hts hwX6 hown hK hP 0 rfl rfl 11 (by decide) hf_22 (fun _ h9 => h9) rfl dX6_together_14 ?_
      refine lv_iload_n hx hb dX6_together_17 rfl (lv_at hl 0 rfl) ?_
      have h_2 : vp_in b1 9 := zin (by omega) (by omega)
      refine va_lald hx hb hK hP 1 1 rfl rfl h_2 dX6_together_18 ?_
      refine lv_ladd hx hb dX6_together_19 ?_
      refine lv_topl (fun v5 ev5 => ?_)
      replace hT := cut_n ev5.symm hT
      refine lv_lstore_n (lv' := [(1, .long v5), (3, .int b1), (0, .ref o)]) hx hb dX6_together_20 rfl hl (by decide) rfl (fun ls hl => ?_)
      obtain ⟨v6, ev6⟩ : ∃ y : Int32, (b1 + (1 : Int32)) = y := ⟨_, rfl⟩
      replace hT := cut_n ev6 hT
      try have fv6 := zaddE (rfl : (b1).toInt = _) (by decide : ((1 : Int32)).toInt = 1) ev6 (by omega) (by omega)
      refine lv_iinc (v := v6) (lv' := [(3, .int v6), (1, .long v5), (0, .ref o)]) hx hb dX6_together_21 hl (k := 1) rfl (by rw [← ev6]; rfl) (by decide) rfl (fun ls hl => ?_)
      refine lv_goto (tgt := 4) hx hb dX6_together_24 (by decide) ?_
      exact ih2 (v6, v5) _ _ _ ⟨(by omega : 0 ≤ v6.toInt), (by omega : v6.toInt ≤ vo_glasses.toInt), (by omega : vo_glasses.toInt - v6.toInt < ((k2 : Nat) : Int)), hT, hP.sub [0, 1] rfl, hD.sub [0, 1] rfl rfl, hS, lv_sub hl [0, 1, 2] rfl⟩

def m_X6_all (vo_glasses : Int32) (vo_spilt : Int64) (vo_amounts : Nat → Int64) (p1 : Int32) (p2 : Int32) : Int64 :=
 cut (m_X6_isPart p1) (fun (r1 : Int32) =>
 if r1 = (0 : Int32) then
  (-102 : Int64)
 else
  cut (m_X6_isPart p2) (fun (r2 : Int32) =>
  if r2 = (0 : Int32) then
   (-102 : Int64)
  else
   cut (
    if p1 = (0 : Int32) then
     vo_spilt
    else
     cut (m_X6_together vo_glasses vo_amounts) (fun (r4 : Int64) =>
     r4)) (fun (j3 : Int64) =>
   cut (m_X6_term j3 p2) (fun (r5 : Int64) =>
   r5))))
set_option maxHeartbeats 4000000 in
set_option maxRecDepth 100000 in
theorem k_X6_all (l : Launch) (dC : Nat → ClassId) (dI : Nat → Nat → Nat) (cI cJ cC : ClassId) (sz : Nat) (o o_page o_readRows o_rows o_turns o_amounts o_drank o_takes o_leans o_would o_keptAmounts o_keptDrank o_keptTurns : Nat) (vo_pageMany : Int32) (vo_readMany : Int32) (vo_state : Int32) (vo_readMost : Int32) (vo_glasses : Int32) (vo_towersRead : Int32) (vo_poured : Int32) (vo_spilt : Int64) (vo_done : Int32) (vo_seedNow : Int32) (vo_keptTower : Int32) (vo_keptPoured : Int32) (vo_keptSpilt : Int64) (vo_hash : Int64) (vo_amounts : Nat → Int64) (p1 : Int32) (p2 : Int32) (r : Int64) (hT : m_X6_all vo_glasses vo_spilt vo_amounts p1 p2 = r) (hg0 : 0 ≤ vo_glasses.toInt) (hg9 : vo_glasses.toInt ≤ 9) : Met l yX6_all wsX6_all ({ frames := 2, cells := 0, slots := 0, locals := 45 }) (zPc [.ref o, .int p1, .int p2] (dC, dI) (zTy cI cJ cC) [(o, .inr (6, [.ref o_page, .int vo_pageMany, .int vo_readMany, .int vo_state, .int vo_readMost, .ref o_readRows, .int vo_glasses, .int vo_towersRead, .int vo_poured, .ref o_rows, .ref o_turns, .ref o_amounts, .ref o_drank, .long vo_spilt, .ref o_takes, .ref o_leans, .ref o_would, .int vo_done, .int vo_seedNow, .int vo_keptTower, .int vo_keptPoured, .long vo_keptSpilt, .ref o_keptAmounts, .ref o_keptDrank, .ref o_keptTurns, .long vo_hash])), (o_amounts, .inl (cJ, 9, .inr (.inl vo_amounts)))] sz) (zQl r (True) (dC, dI) (zTy cI cJ cC) [(o, .inr (6, [.ref o_page, .int vo_pageMany, .int vo_readMany, .int vo_state, .int vo_readMost, .ref o_readRows, .int vo_glasses, .int vo_towersRead, .int vo_poured, .ref o_rows, .ref o_turns, .ref o_amounts, .ref o_drank, .long vo_spilt, .ref o_takes, .ref o_leans, .ref o_would, .int vo_done, .int vo_seedNow, .int vo_keptTower, .int vo_keptPoured, .long vo_keptSpilt, .ref o_keptAmounts, .ref o_keptDrank, .ref o_keptTurns, .long vo_hash])), (o_amounts, .inl (cJ, 9, .inr (.inl vo_amounts)))] (va_A [(o, .inr (6, [.ref o_page, .int vo_pageMany, .int vo_readMany, .int vo_state, .int vo_readMost, .ref o_readRows, .int vo_glasses, .int vo_towersRead, .int vo_poured, .ref o_rows, .ref o_turns, .ref o_amounts, .ref o_drank, .long vo_spilt, .ref o_takes, .ref o_leans, .ref o_would, .int vo_done, .int vo_seedNow, .int vo_keptTower, .int vo_keptPoured, .long vo_keptSpilt, .ref o_keptAmounts, .ref o_keptDrank, .ref o_keptTurns, .long vo_hash])), (o_amounts, .inl (cJ, 9, .inr (.inl vo_amounts)))] sz)) 0 0 (va_A [(o, .inr (6, [.ref o_page, .int vo_pageMany, .int vo_readMany, .int vo_state, .int vo_readMost, .ref o_readRows, .int vo_glasses, .int vo_towersRead, .int vo_poured, .ref o_rows, .ref o_turns, .ref o_amounts, .ref o_drank, .long vo_spilt, .ref o_takes, .ref o_leans, .ref o_would, .int vo_done, .int vo_seedNow, .int vo_keptTower, .int vo_keptPoured, .long vo_keptSpilt, .ref o_keptAmounts, .ref o_keptDrank, .ref o_keptTurns, .long vo_hash])), (o_amounts, .inl (cJ, 9, .inr (.inl vo_amounts)))] sz) := by
  refine Met.ofW (cc := cX6_all) (maxL := 3) (ret := (some .long)) (by decide) rfl ?_
  intro p e s m args below meth c s₁ B hml hv
  obtain ⟨rfl, hsz, hP, hK, hD0⟩ := hv
  have hx := B.exec
  have hb := B.bytes
  have hr := B.returns
  have hts := atoms_spec (ws := wsX6_all) B.pre
  have hown : s.vm.findClass RX6 = some m.cls := findClass_of_methodNamed B.named
  have hlocks := B.notSynchronized
  subst hsz
  have hD := hD0.self (sz := s.heap.size)
  generalize hAe : va_A [(o, .inr (6, [.ref o_page, .int vo_pageMany, .int vo_readMany, .int vo_state, .int vo_readMost, .ref o_readRows, .int vo_glasses, .int vo_towersRead, .int vo_poured, .ref o_rows, .ref o_turns, .ref o_amounts, .ref o_drank, .long vo_spilt, .ref o_takes, .ref o_leans, .ref o_would, .int vo_done, .int vo_seedNow, .int vo_keptTower, .int vo_keptPoured, .long vo_keptSpilt, .ref o_keptAmounts, .ref o_keptDrank, .ref o_keptTurns, .long vo_hash])), (o_amounts, .inl (cJ, 9, .inr (.inl vo_amounts)))] s.heap.size = A at hD ⊢
  have hA : ∀ q : Nat, s.heap.size ≤ q → A q := fun q h => by rw [← hAe]; exact Or.inr h
  have hS : va_S A s.heap s.heap [] := va_S.rf
  have hP : va_P (dC, dI) vwCl [(o, .inr (6, [.ref o_page, .int vo_pageMany, .int vo_readMany, .int vo_state, .int vo_readMost, .ref o_readRows, .int vo_glasses, .int vo_towersRead, .int vo_poured, .ref o_rows, .ref o_turns, .ref o_amounts, .ref o_drank, .long vo_spilt, .ref o_takes, .ref o_leans, .ref o_would, .int vo_done, .int vo_seedNow, .int vo_keptTower, .int vo_keptPoured, .long vo_keptSpilt, .ref o_keptAmounts, .ref o_keptDrank, .ref o_keptTurns, .long vo_hash])), (o_amounts, .inl (cJ, 9, .inr (.inl vo_amounts)))] s.heap := hP
  have hK : va_K (dC, dI) vwCl (zTy cI cJ cC) s := hK
  have hl := lv_entry ([.ref o, .int p1, .int p2]) (n := 3) (Nat.le_of_ble_eq_true rfl)
  rw [lg_entry_eq]
  generalize (lg_sl ([.ref o, .int p1, .int p2]) ++ List.replicate (3 - (lg_sl ([.ref o, .int p1, .int p2])).length) Slot.unset).toArray = ls at hl ⊢
  have hl : lv_has ls 3 [(0, .ref o), (1, .int p1), (2, .int p2)] := hl
  refine zz_start hP hS (fun Q hQ H locs hP hS => ?_)
  have hwX6 : ∀ w ∈ u_ws RX6 TX6 26, w ∈ wsX6_all := by decide +kernel
  have hc_152 := (hts (.constantLong RX6 152 (-102)) (by decide +kernel))
  have hf_106 := (hts (.fieldLink RX6 106 "PouredTopmostModel" "spilt" "J") (by decide +kernel))
  refine lv_iload_n hx hb dX6_all_0 rfl (lv_at hl 1 rfl) ?_
  obtain ⟨r1, ev_1⟩ : ∃ x0, (m_X6_isPart p1) = x0 := ⟨_, rfl⟩
  replace hT := cut_n ev_1 hT
  refine zz_ci [] [0, 1] (wr := [(o, .inr (6, [.ref o_page, .int vo_pageMany, .int vo_readMany, .int vo_state, .int vo_readMost, .ref o_readRows, .int vo_glasses, .int vo_towersRead, .int vo_poured, .ref o_rows, .ref o_turns, .ref o_amounts, .ref o_drank, .long vo_spilt, .ref o_takes, .ref o_leans, .ref o_would, .int vo_done, .int vo_seedNow, .int vo_keptTower, .int vo_keptPoured, .long vo_keptSpilt, .ref o_keptAmounts, .ref o_keptDrank, .ref o_keptTurns, .long vo_hash])), (o_amounts, .inl (cJ, 9, .inr (.inl vo_amounts)))]) (w1 := []) (va_runS (As := [.int p1]) (rest := []) ⟨hx, hb, hml, hown, hts⟩ (k_X6_isPart l dC dI cI cJ cC H.size p1 r1 ev_1) (va_cwS 1 hts gX6_all_X6_isPart rfl rfl rfl (by decide +kernel) ⟨Nat.le_of_ble_eq_true rfl, Nat.le_of_ble_eq_true rfl⟩) (zz_preS [] hK hP hD rfl rfl) rfl rfl hl.1 rfl (lv_room (Nat.le_of_ble_eq_true rfl)) dX6_all_1 ⟨Nat.zero_le _, Nat.zero_le _⟩) hP hD hS hA rfl rfl rfl (by decide) (fun ok_2 H locs hP hD hS => ?_)
  have hP : va_P (dC, dI) vwCl [(o, .inr (6, [.ref o_page, .int vo_pageMany, .int vo_readMany, .int vo_state, .int vo_readMost, .ref o_readRows, .int vo_glasses, .int vo_towersRead, .int vo_poured, .ref o_rows, .ref o_turns, .ref o_amounts, .ref o_drank, .long vo_spilt, .ref o_takes, .ref o_leans, .ref o_would, .int vo_done, .int vo_seedNow, .int vo_keptTower, .int vo_keptPoured, .long vo_keptSpilt, .ref o_keptAmounts, .ref o_keptDrank, .ref o_keptTurns, .long vo_hash])), (o_amounts, .inl (cJ, 9, .inr (.inl vo_amounts)))] H := hP
  have hD : va_D A [(o, .inr (6, [.ref o_page, .int vo_pageMany, .int vo_readMany, .int vo_state, .int vo_readMost, .ref o_readRows, .int vo_glasses, .int vo_towersRead, .int vo_poured, .ref o_rows, .ref o_turns, .ref o_amounts, .ref o_drank, .long vo_spilt, .ref o_takes, .ref o_leans, .ref o_would, .int vo_done, .int vo_seedNow, .int vo_keptTower, .int vo_keptPoured, .long vo_keptSpilt, .ref o_keptAmounts, .ref o_keptDrank, .ref o_keptTurns, .long vo_hash])), (o_amounts, .inl (cJ, 9, .inr (.inl vo_amounts)))] := hD
  refine lv_if_eq (tgt := 36) hx hb dX6_all_4 (by decide) (fun c_3 => ?_) (fun c_3 => ?_)
  · replace hT := cutT c_3 hT
    have g_12 := zeqT (rfl : (r1).toInt = _) (by decide : ((0 : Int32)).toInt = 0) c_3
    refine lv_ldc2 (v := (-102 : Int64)) hx hb hown hc_152 dX6_all_36 ?_
    have hP9 := hP
    have hD9 := hD
    have hS9 := hS
    have hT : (-102 : Int64) = r := hT
    subst hT
    subst hQ
    exact zz_lret hx hb hr [0, 1] hK hP9 hD9 hS9 rfl rfl trivial hlocks dX6_all_39
  · replace hT := cutF c_3 hT
    have g_13 := zeqF (rfl : (r1).toInt = _) (by decide : ((0 : Int32)).toInt = 0) c_3
    refine lv_iload_n hx hb dX6_all_7 rfl (lv_at hl 2 rfl) ?_
    obtain ⟨r2, ev_4⟩ : ∃ x0, (m_X6_isPart p2) = x0 := ⟨_, rfl⟩
    replace hT := cut_n ev_4 hT
    refine zz_ci [] [0, 1] (wr := [(o, .inr (6, [.ref o_page, .int vo_pageMany, .int vo_readMany, .int vo_state, .int vo_readMost, .ref o_readRows, .int vo_glasses, .int vo_towersRead, .int vo_poured, .ref o_rows, .ref o_turns, .ref o_amounts, .ref o_drank, .long vo_spilt, .ref o_takes, .ref o_leans, .ref o_would, .int vo_done, .int vo_seedNow, .int vo_keptTower, .int vo_keptPoured, .long vo_keptSpilt, .ref o_keptAmounts, .ref o_keptDrank, .ref o_keptTurns, .long vo_hash])), (o_amounts, .inl (cJ, 9, .inr (.inl vo_amounts)))]) (w1 := []) (va_runS (As := [.int p2]) (rest := []) ⟨hx, hb, hml, hown, hts⟩ (k_X6_isPart l dC dI cI cJ cC H.size p2 r2 ev_4) (va_cwS 1 hts gX6_all_X6_isPart rfl rfl rfl (by decide +kernel) ⟨Nat.le_of_ble_eq_true rfl, Nat.le_of_ble_eq_true rfl⟩) (zz_preS [] hK hP hD rfl rfl) rfl rfl hl.1 rfl (lv_room (Nat.le_of_ble_eq_true rfl)) dX6_all_8 ⟨Nat.zero_le _, Nat.zero_le _⟩) hP hD hS hA rfl rfl rfl (by decide) (fun ok_5 H locs hP hD hS => ?_)
    have hP : va_P (dC, dI) vwCl [(o, .inr (6, [.ref o_page, .int vo_pageMany, .int vo_readMany, .int vo_state, .int vo_readMost, .ref o_readRows, .int vo_glasses, .int vo_towersRead, .int vo_poured, .ref o_rows, .ref o_turns, .ref o_amounts, .ref o_drank, .long vo_spilt, .ref o_takes, .ref o_leans, .ref o_would, .int vo_done, .int vo_seedNow, .int vo_keptTower, .int vo_keptPoured, .long vo_keptSpilt, .ref o_keptAmounts, .ref o_keptDrank, .ref o_keptTurns, .long vo_hash])), (o_amounts, .inl (cJ, 9, .inr (.inl vo_amounts)))] H := hP
    have hD : va_D A [(o, .inr (6, [.ref o_page, .int vo_pageMany, .int vo_readMany, .int vo_state, .int vo_readMost, .ref o_readRows, .int vo_glasses, .int vo_towersRead, .int vo_poured, .ref o_rows, .ref o_turns, .ref o_amounts, .ref o_drank, .long vo_spilt, .ref o_takes, .ref o_leans, .ref o_would, .int vo_done, .int vo_seedNow, .int vo_keptTower, .int vo_keptPoured, .long vo_keptSpilt, .ref o_keptAmounts, .ref o_keptDrank, .ref o_keptTurns, .long vo_hash])), (o_amounts, .inl (cJ, 9, .inr (.inl vo_amounts)))] := hD
    refine lv_if_eq (tgt := 36) hx hb dX6_all_11 (by decide) (fun c_6 => ?_) (fun c_6 => ?_)
    · replace hT := cutT c_6 hT
      have g_14 := zeqT (rfl : (r2).toInt = _) (by decide : ((0 : Int32)).toInt = 0) c_6
      refine lv_ldc2 (v := (-102 : Int64)) hx hb hown hc_152 dX6_all_36 ?_
      have hP9 := hP
      have hD9 := hD
      have hS9 := hS
      have hT : (-102 : Int64) = r := hT
      subst hT
      subst hQ
      exact zz_lret hx hb hr [0, 1] hK hP9 hD9 hS9 rfl rfl trivial hlocks dX6_all_39
    · replace hT := cutF c_6 hT
      have g_15 := zeqF (rfl : (r2).toInt = _) (by decide : ((0 : Int32)).toInt = 0) c_6
      refine lv_iload_n hx hb dX6_all_14 rfl (lv_at hl 1 rfl) ?_
      refine zz_join1 hT 29 (fun v => [.long v]) (fun v H locs ls => va_P (dC, dI) vwCl [(o, .inr (6, [.ref o_page, .int vo_pageMany, .int vo_readMany, .int vo_state, .int vo_readMost, .ref o_readRows, .int vo_glasses, .int vo_towersRead, .int vo_poured, .ref o_rows, .ref o_turns, .ref o_amounts, .ref o_drank, .long vo_spilt, .ref o_takes, .ref o_leans, .ref o_would, .int vo_done, .int vo_seedNow, .int vo_keptTower, .int vo_keptPoured, .long vo_keptSpilt, .ref o_keptAmounts, .ref o_keptDrank, .ref o_keptTurns, .long vo_hash])), (o_amounts, .inl (cJ, 9, .inr (.inl vo_amounts)))] H ∧ va_D A [(o, .inr (6, [.ref o_page, .int vo_pageMany, .int vo_readMany, .int vo_state, .int vo_readMost, .ref o_readRows, .int vo_glasses, .int vo_towersRead, .int vo_poured, .ref o_rows, .ref o_turns, .ref o_amounts, .ref o_drank, .long vo_spilt, .ref o_takes, .ref o_leans, .ref o_would, .int vo_done, .int vo_seedNow, .int vo_keptTower, .int vo_keptPoured, .long vo_keptSpilt, .ref o_keptAmounts, .ref o_keptDrank, .ref o_keptTurns, .long vo_hash])), (o_amounts, .inl (cJ, 9, .inr (.inl vo_amounts)))] ∧ va_S A s.heap H locs ∧ lv_has ls 3 [(2, .int p2)]) ?_ ?_
      · rintro j3 ej_16 H locs ls ⟨hP, hD, hS, hl⟩
        replace hT := cut_n ej_16 hT
        have hP : va_P (dC, dI) vwCl [(o, .inr (6, [.ref o_page, .int vo_pageMany, .int vo_readMany, .int vo_state, .int vo_readMost, .ref o_readRows, .int vo_glasses, .int vo_towersRead, .int vo_poured, .ref o_rows, .ref o_turns, .ref o_amounts, .ref o_drank, .long vo_spilt, .ref o_takes, .ref o_leans, .ref o_would, .int vo_done, .int vo_seedNow, .int vo_keptTower, .int vo_keptPoured, .long vo_keptSpilt, .ref o_keptAmounts, .ref o_keptDrank, .ref o_keptTurns, .long vo_hash])), (o_amounts, .inl (cJ, 9, .inr (.inl vo_amounts)))] H := hP
        have hD : va_D A [(o, .inr (6, [.ref o_page, .int vo_pageMany, .int vo_readMany, .int vo_state, .int vo_readMost, .ref o_readRows, .int vo_glasses, .int vo_towersRead, .int vo_poured, .ref o_rows, .ref o_turns, .ref o_amounts, .ref o_drank, .long vo_spilt, .ref o_takes, .ref o_leans, .ref o_would, .int vo_done, .int vo_seedNow, .int vo_keptTower, .int vo_keptPoured, .long vo_keptSpilt, .ref o_keptAmounts, .ref o_keptDrank, .ref o_keptTurns, .long vo_hash])), (o_amounts, .inl (cJ, 9, .inr (.inl vo_amounts)))] := hD
        have hl : lv_has ls 3 [(2, .int p2)] := hl
        refine lv_iload_n hx hb dX6_all_29 rfl (lv_at hl 0 rfl) ?_
        obtain ⟨r5, ev_10⟩ : ∃ x0, (m_X6_term j3 p2) = x0 := ⟨_, rfl⟩
        replace hT := cut_n ev_10 hT
        refine zz_cl [] [0, 1] (wr := [(o, .inr (6, [.ref o_page, .int vo_pageMany, .int vo_readMany, .int vo_state, .int vo_readMost, .ref o_readRows, .int vo_glasses, .int vo_towersRead, .int vo_poured, .ref o_rows, .ref o_turns, .ref o_amounts, .ref o_drank, .long vo_spilt, .ref o_takes, .ref o_leans, .ref o_would, .int vo_done, .int vo_seedNow, .int vo_keptTower, .int vo_keptPoured, .long vo_keptSpilt, .ref o_keptAmounts, .ref o_keptDrank, .ref o_keptTurns, .long vo_hash])), (o_amounts, .inl (cJ, 9, .inr (.inl vo_amounts)))]) (w1 := []) (va_runS (As := [.long j3, .int p2]) (rest := []) ⟨hx, hb, hml, hown, hts⟩ (k_X6_term l dC dI cI cJ cC H.size j3 p2 r5 ev_10) (va_cwS 2 hts gX6_all_X6_term rfl rfl rfl (by decide +kernel) ⟨Nat.le_of_ble_eq_true rfl, Nat.le_of_ble_eq_true rfl⟩) (zz_preS [] hK hP hD rfl rfl) rfl rfl hl.1 rfl (lv_room (Nat.le_of_ble_eq_true rfl)) dX6_all_30 ⟨Nat.zero_le _, Nat.zero_le _⟩) hP hD hS hA rfl rfl rfl (by decide) (fun ok_11 H locs hP hD hS => ?_)
        have hP : va_P (dC, dI) vwCl [(o, .inr (6, [.ref o_page, .int vo_pageMany, .int vo_readMany, .int vo_state, .int vo_readMost, .ref o_readRows, .int vo_glasses, .int vo_towersRead, .int vo_poured, .ref o_rows, .ref o_turns, .ref o_amounts, .ref o_drank, .long vo_spilt, .ref o_takes, .ref o_leans, .ref o_would, .int vo_done, .int vo_seedNow, .int vo_keptTower, .int vo_keptPoured, .long vo_keptSpilt, .ref o_keptAmounts, .ref o_keptDrank, .ref o_keptTurns, .long vo_hash])), (o_amounts, .inl (cJ, 9, .inr (.inl vo_amounts)))] H := hP
        have hD : va_D A [(o, .inr (6, [.ref o_page, .int vo_pageMany, .int vo_readMany, .int vo_state, .int vo_readMost, .ref o_readRows, .int vo_glasses, .int vo_towersRead, .int vo_poured, .ref o_rows, .ref o_turns, .ref o_amounts, .ref o_drank, .long vo_spilt, .ref o_takes, .ref o_leans, .ref o_would, .int vo_done, .int vo_seedNow, .int vo_keptTower, .int vo_keptPoured, .long vo_keptSpilt, .ref o_keptAmounts, .ref o_keptDrank, .ref o_keptTurns, .long vo_hash])), (o_amounts, .inl (cJ, 9, .inr (.inl vo_amounts)))] := hD
        refine lv_goto (tgt := 39) hx hb dX6_all_33 (by decide) ?_
        have hP9 := hP
        have hD9 := hD
        have hS9 := hS
        have hT : r5 = r := hT
        subst hT
        subst hQ
        exact zz_lret hx hb hr [0, 1] hK hP9 hD9 hS9 rfl rfl trivial hlocks dX6_all_39
      · intro xv hT hM
        refine lv_if_ne (tgt := 25) hx hb dX6_all_15 (by decide) (fun c_7 => ?_) (fun c_7 => ?_)
        · replace hT := cutF c_7 hT
          have g_17 := zeqF (rfl : (p1).toInt = _) (by decide : ((0 : Int32)).toInt = 0) c_7
          refine lv_aload_n hx hb dX6_all_25 rfl (lv_at hl 0 rfl) ?_
          obtain ⟨r4, ev_8⟩ : ∃ x0, (m_X6_together vo_glasses vo_amounts) = x0 := ⟨_, rfl⟩
          replace hT := cut_n ev_8 hT
          refine zz_cl [0, 1] [] (wr := []) (w1 := [(o, .inr (6, [.ref o_page, .int vo_pageMany, .int vo_readMany, .int vo_state, .int vo_readMost, .ref o_readRows, .int vo_glasses, .int vo_towersRead, .int vo_poured, .ref o_rows, .ref o_turns, .ref o_amounts, .ref o_drank, .long vo_spilt, .ref o_takes, .ref o_leans, .ref o_would, .int vo_done, .int vo_seedNow, .int vo_keptTower, .int vo_keptPoured, .long vo_keptSpilt, .ref o_keptAmounts, .ref o_keptDrank, .ref o_keptTurns, .long vo_hash])), (o_amounts, .inl (cJ, 9, .inr (.inl vo_amounts)))]) (va_runV (As := []) (rest := []) ⟨hx, hb, hml, hown, hts⟩ (k_X6_together l dC dI cI cJ cC H.size o o_page o_readRows o_rows o_turns o_amounts o_drank o_takes o_leans o_would o_keptAmounts o_keptDrank o_keptTurns vo_pageMany vo_readMany vo_state vo_readMost vo_glasses vo_towersRead vo_poured vo_spilt vo_done vo_seedNow vo_keptTower vo_keptPoured vo_keptSpilt vo_hash vo_amounts r4 ev_8 hg0 hg9) (cwV 0 hts gX6_all_X6_together rfl rfl rfl (by decide +kernel) ⟨Nat.le_of_ble_eq_true rfl, Nat.le_of_ble_eq_true rfl⟩) (zz_preV [0, 1] hK hP hD rfl rfl (va_recv hK hP (ci := 6) (q0 := 0) rfl rfl)) rfl rfl hl.1 rfl (lv_room (Nat.le_of_ble_eq_true rfl)) dX6_all_26 ⟨Nat.zero_le _, Nat.zero_le _⟩) hP hD hS hA rfl rfl rfl (by decide) (fun ok_9 H locs hP hD hS => ?_)
          have hP : va_P (dC, dI) vwCl [(o, .inr (6, [.ref o_page, .int vo_pageMany, .int vo_readMany, .int vo_state, .int vo_readMost, .ref o_readRows, .int vo_glasses, .int vo_towersRead, .int vo_poured, .ref o_rows, .ref o_turns, .ref o_amounts, .ref o_drank, .long vo_spilt, .ref o_takes, .ref o_leans, .ref o_would, .int vo_done, .int vo_seedNow, .int vo_keptTower, .int vo_keptPoured, .long vo_keptSpilt, .ref o_keptAmounts, .ref o_keptDrank, .ref o_keptTurns, .long vo_hash])), (o_amounts, .inl (cJ, 9, .inr (.inl vo_amounts)))] H := hP
          have hD : va_D A [(o, .inr (6, [.ref o_page, .int vo_pageMany, .int vo_readMany, .int vo_state, .int vo_readMost, .ref o_readRows, .int vo_glasses, .int vo_towersRead, .int vo_poured, .ref o_rows, .ref o_turns, .ref o_amounts, .ref o_drank, .long vo_spilt, .ref o_takes, .ref o_leans, .ref o_would, .int vo_done, .int vo_seedNow, .int vo_keptTower, .int vo_keptPoured, .long vo_keptSpilt, .ref o_keptAmounts, .ref o_keptDrank, .ref o_keptTurns, .long vo_hash])), (o_amounts, .inl (cJ, 9, .inr (.inl vo_amounts)))] := hD
          have hP9 := hP
          have hD9 := hD
          have hS9 := hS
          have hl9 := hl
          have hM9 := hM
          have hT : r4 = xv := hT
          subst hT
          exact hM9 _ _ _ ⟨hP9.sub [0, 1] rfl, hD9.sub [0, 1] rfl rfl, hS9, lv_sub hl9 [2] rfl⟩
        · replace hT := cutT c_7 hT
          have g_18 := zeqT (rfl : (p1).toInt = _) (by decide : ((0 : Int32)).toInt = 0) c_7
          refine lv_aload_n hx hb dX6_all_18 rfl (lv_at hl 0 rfl) ?_
          refine va_get (D := (dC, dI)) (ci := 6) (v := .long vo_spilt) (C := RX6) (T := TX6) (N := 26) hx hb hts hwX6 hown hK hP 0 rfl rfl 13 (by decide) hf_106 (fun _ h9 => h9) rfl dX6_all_19 ?_
          refine lv_goto (tgt := 29) hx hb dX6_all_22 (by decide) ?_
          have hP9 := hP
          have hD9 := hD
          have hS9 := hS
          have hl9 := hl
          have hM9 := hM
          have hT : vo_spilt = xv := hT
          subst hT
          exact hM9 _ _ _ ⟨hP9.sub [0, 1] rfl, hD9.sub [0, 1] rfl rfl, hS9, lv_sub hl9 [2] rfl⟩

def m_X6_emptyOne (vo_amounts : Nat → Int64) (vo_drank : Nat → Int64) (p1 : Int32) : Int32 × (Nat → Int64) × (Nat → Int64) :=
 cut (
  if (lg_cmp (vo_amounts p1.toNatClampNeg) (0 : Int64)) ≤ (0 : Int32) then
   (0 : Int32)
  else
   (1 : Int32)) (fun (j1 : Int32) =>
 cut (vp_updL vo_drank p1.toNatClampNeg ((vo_drank p1.toNatClampNeg) + (vo_amounts p1.toNatClampNeg))) (fun (a2 : Nat → Int64) =>
 cut (vp_updL vo_amounts p1.toNatClampNeg (0 : Int64)) (fun (a3 : Nat → Int64) =>
 (j1, a3, a2))))
set_option maxHeartbeats 4000000 in
set_option maxRecDepth 100000 in
theorem k_X6_emptyOne (l : Launch) (dC : Nat → ClassId) (dI : Nat → Nat → Nat) (cI cJ cC : ClassId) (sz : Nat) (o o_page o_readRows o_rows o_turns o_amounts o_drank o_takes o_leans o_would o_keptAmounts o_keptDrank o_keptTurns : Nat) (vo_pageMany : Int32) (vo_readMany : Int32) (vo_state : Int32) (vo_readMost : Int32) (vo_glasses : Int32) (vo_towersRead : Int32) (vo_poured : Int32) (vo_spilt : Int64) (vo_done : Int32) (vo_seedNow : Int32) (vo_keptTower : Int32) (vo_keptPoured : Int32) (vo_keptSpilt : Int64) (vo_hash : Int64) (vo_amounts : Nat → Int64) (vo_drank : Nat → Int64) (p1 : Int32) (r : Int32) (qo_amounts : Nat → Int64) (qo_drank : Nat → Int64) (hT : m_X6_emptyOne vo_amounts vo_drank p1 = (r, qo_amounts, qo_drank)) (h10 : 0 ≤ p1.toInt) (h19 : p1.toInt < 9) : Met l yX6_emptyOne wsX6_emptyOne ({ frames := 0, cells := 0, slots := 0, locals := 0 }) (zPc [.ref o, .int p1] (dC, dI) (zTy cI cJ cC) [(o, .inr (6, [.ref o_page, .int vo_pageMany, .int vo_readMany, .int vo_state, .int vo_readMost, .ref o_readRows, .int vo_glasses, .int vo_towersRead, .int vo_poured, .ref o_rows, .ref o_turns, .ref o_amounts, .ref o_drank, .long vo_spilt, .ref o_takes, .ref o_leans, .ref o_would, .int vo_done, .int vo_seedNow, .int vo_keptTower, .int vo_keptPoured, .long vo_keptSpilt, .ref o_keptAmounts, .ref o_keptDrank, .ref o_keptTurns, .long vo_hash])), (o_amounts, .inl (cJ, 9, .inr (.inl vo_amounts))), (o_drank, .inl (cJ, 9, .inr (.inl vo_drank)))] sz) (zQi r (True) (dC, dI) (zTy cI cJ cC) [(o, .inr (6, [.ref o_page, .int vo_pageMany, .int vo_readMany, .int vo_state, .int vo_readMost, .ref o_readRows, .int vo_glasses, .int vo_towersRead, .int vo_poured, .ref o_rows, .ref o_turns, .ref o_amounts, .ref o_drank, .long vo_spilt, .ref o_takes, .ref o_leans, .ref o_would, .int vo_done, .int vo_seedNow, .int vo_keptTower, .int vo_keptPoured, .long vo_keptSpilt, .ref o_keptAmounts, .ref o_keptDrank, .ref o_keptTurns, .long vo_hash])), (o_amounts, .inl (cJ, 9, .inr (.inl qo_amounts))), (o_drank, .inl (cJ, 9, .inr (.inl qo_drank)))] (va_A [(o, .inr (6, [.ref o_page, .int vo_pageMany, .int vo_readMany, .int vo_state, .int vo_readMost, .ref o_readRows, .int vo_glasses, .int vo_towersRead, .int vo_poured, .ref o_rows, .ref o_turns, .ref o_amounts, .ref o_drank, .long vo_spilt, .ref o_takes, .ref o_leans, .ref o_would, .int vo_done, .int vo_seedNow, .int vo_keptTower, .int vo_keptPoured, .long vo_keptSpilt, .ref o_keptAmounts, .ref o_keptDrank, .ref o_keptTurns, .long vo_hash])), (o_amounts, .inl (cJ, 9, .inr (.inl vo_amounts))), (o_drank, .inl (cJ, 9, .inr (.inl vo_drank)))] sz)) 0 0 (va_A [(o, .inr (6, [.ref o_page, .int vo_pageMany, .int vo_readMany, .int vo_state, .int vo_readMost, .ref o_readRows, .int vo_glasses, .int vo_towersRead, .int vo_poured, .ref o_rows, .ref o_turns, .ref o_amounts, .ref o_drank, .long vo_spilt, .ref o_takes, .ref o_leans, .ref o_would, .int vo_done, .int vo_seedNow, .int vo_keptTower, .int vo_keptPoured, .long vo_keptSpilt, .ref o_keptAmounts, .ref o_keptDrank, .ref o_keptTurns, .long vo_hash])), (o_amounts, .inl (cJ, 9, .inr (.inl vo_amounts))), (o_drank, .inl (cJ, 9, .inr (.inl vo_drank)))] sz) := by
  refine Met.ofW (cc := cX6_emptyOne) (maxL := 3) (ret := (some .int)) (by decide) rfl ?_
  intro p e s m args below meth c s₁ B hml hv
  obtain ⟨rfl, hsz, hP, hK, hD0⟩ := hv
  have hx := B.exec
  have hb := B.bytes
  have hr := B.returns
  have hts := atoms_spec (ws := wsX6_emptyOne) B.pre
  have hown : s.vm.findClass RX6 = some m.cls := findClass_of_methodNamed B.named
  have hlocks := B.notSynchronized
  subst hsz
  have hD := hD0.self (sz := s.heap.size)
  generalize hAe : va_A [(o, .inr (6, [.ref o_page, .int vo_pageMany, .int vo_readMany, .int vo_state, .int vo_readMost, .ref o_readRows, .int vo_glasses, .int vo_towersRead, .int vo_poured, .ref o_rows, .ref o_turns, .ref o_amounts, .ref o_drank, .long vo_spilt, .ref o_takes, .ref o_leans, .ref o_would, .int vo_done, .int vo_seedNow, .int vo_keptTower, .int vo_keptPoured, .long vo_keptSpilt, .ref o_keptAmounts, .ref o_keptDrank, .ref o_keptTurns, .long vo_hash])), (o_amounts, .inl (cJ, 9, .inr (.inl vo_amounts))), (o_drank, .inl (cJ, 9, .inr (.inl vo_drank)))] s.heap.size = A at hD ⊢
  have hA : ∀ q : Nat, s.heap.size ≤ q → A q := fun q h => by rw [← hAe]; exact Or.inr h
  have hS : va_S A s.heap s.heap [] := va_S.rf
  have hP : va_P (dC, dI) vwCl [(o, .inr (6, [.ref o_page, .int vo_pageMany, .int vo_readMany, .int vo_state, .int vo_readMost, .ref o_readRows, .int vo_glasses, .int vo_towersRead, .int vo_poured, .ref o_rows, .ref o_turns, .ref o_amounts, .ref o_drank, .long vo_spilt, .ref o_takes, .ref o_leans, .ref o_would, .int vo_done, .int vo_seedNow, .int vo_keptTower, .int vo_keptPoured, .long vo_keptSpilt, .ref o_keptAmounts, .ref o_keptDrank, .ref o_keptTurns, .long vo_hash])), (o_amounts, .inl (cJ, 9, .inr (.inl vo_amounts))), (o_drank, .inl (cJ, 9, .inr (.inl vo_drank)))] s.heap := hP
  have hK : va_K (dC, dI) vwCl (zTy cI cJ cC) s := hK
  have hl := lv_entry ([.ref o, .int p1]) (n := 3) (Nat.le_of_ble_eq_true rfl)
  rw [lg_entry_eq]
  generalize (lg_sl ([.ref o, .int p1]) ++ List.replicate (3 - (lg_sl ([.ref o, .int p1])).length) Slot.unset).toArray = ls at hl ⊢
  have hl : lv_has ls 3 [(0, .ref o), (1, .int p1)] := hl
  refine zz_start hP hS (fun Q hQ H locs hP hS => ?_)
  have hwX6 : ∀ w ∈ u_ws RX6 TX6 26, w ∈ wsX6_emptyOne := by decide +kernel
  have hf_22 := (hts (.fieldLink RX6 22 "PouredTopmostModel" "amounts" "[J") (by decide +kernel))
  have hf_26 := (hts (.fieldLink RX6 26 "PouredTopmostModel" "drank" "[J") (by decide +kernel))
  refine lv_aload_n hx hb dX6_emptyOne_0 rfl (lv_at hl 0 rfl) ?_
  refine va_get (D := (dC, dI)) (ci := 6) (v := .ref o_amounts) (C := RX6) (T := TX6) (N := 26) hx hb hts hwX6 hown hK hP 0 rfl rfl 11 (by decide) hf_22 (fun _ h9 => h9) rfl dX6_emptyOne_1 ?_
  refine lv_iload_n hx hb dX6_emptyOne_4 rfl (lv_at hl 1 rfl) ?_
  have h_1 : vp_in p1 9 := zin (by omega) (by omega)
  refine va_lald hx hb hK hP 1 1 rfl rfl h_1 dX6_emptyOne_5 ?_
  refine lv_lconst (v := (0 : Int64)) hx hb dX6_emptyOne_6 (by decide) ?_
  refine W.lcmp hx hb dX6_emptyOne_7 ?_
  refine zz_join1 hT 16 (fun v => [.int v]) (fun v H locs ls => va_P (dC, dI) vwCl [(o, .inr (6, [.ref o_page, .int vo_pageMany, .int vo_readMany, .int vo_state, .int vo_readMost, .ref o_readRows, .int vo_glasses, .int vo_towersRead, .int vo_poured, .ref o_rows, .ref o_turns, .ref o_amounts, .ref o_drank, .long vo_spilt, .ref o_takes, .ref o_leans, .ref o_would, .int vo_done, .int vo_seedNow, .int vo_keptTower, .int vo_keptPoured, .long vo_keptSpilt, .ref o_keptAmounts, .ref o_keptDrank, .ref o_keptTurns, .long vo_hash])), (o_amounts, .inl (cJ, 9, .inr (.inl vo_amounts))), (o_drank, .inl (cJ, 9, .inr (.inl vo_drank)))] H ∧ va_D A [(o, .inr (6, [.ref o_page, .int vo_pageMany, .int vo_readMany, .int vo_state, .int vo_readMost, .ref o_readRows, .int vo_glasses, .int vo_towersRead, .int vo_poured, .ref o_rows, .ref o_turns, .ref o_amounts, .ref o_drank, .long vo_spilt, .ref o_takes, .ref o_leans, .ref o_would, .int vo_done, .int vo_seedNow, .int vo_keptTower, .int vo_keptPoured, .long vo_keptSpilt, .ref o_keptAmounts, .ref o_keptDrank, .ref o_keptTurns, .long vo_hash])), (o_amounts, .inl (cJ, 9, .inr (.inl vo_amounts))), (o_drank, .inl (cJ, 9, .inr (.inl vo_drank)))] ∧ va_S A s.heap H locs ∧ lv_has ls 3 [(0, .ref o), (1, .int p1)]) ?_ ?_
  · rintro j1 ej_7 H locs ls ⟨hP, hD, hS, hl⟩
    replace hT := cut_n ej_7 hT
    have hP : va_P (dC, dI) vwCl [(o, .inr (6, [.ref o_page, .int vo_pageMany, .int vo_readMany, .int vo_state, .int vo_readMost, .ref o_readRows, .int vo_glasses, .int vo_towersRead, .int vo_poured, .ref o_rows, .ref o_turns, .ref o_amounts, .ref o_drank, .long vo_spilt, .ref o_takes, .ref o_leans, .ref o_would, .int vo_done, .int vo_seedNow, .int vo_keptTower, .int vo_keptPoured, .long vo_keptSpilt, .ref o_keptAmounts, .ref o_keptDrank, .ref o_keptTurns, .long vo_hash])), (o_amounts, .inl (cJ, 9, .inr (.inl vo_amounts))), (o_drank, .inl (cJ, 9, .inr (.inl vo_drank)))] H := hP
    have hD : va_D A [(o, .inr (6, [.ref o_page, .int vo_pageMany, .int vo_readMany, .int vo_state, .int vo_readMost, .ref o_readRows, .int vo_glasses, .int vo_towersRead, .int vo_poured, .ref o_rows, .ref o_turns, .ref o_amounts, .ref o_drank, .long vo_spilt, .ref o_takes, .ref o_leans, .ref o_would, .int vo_done, .int vo_seedNow, .int vo_keptTower, .int vo_keptPoured, .long vo_keptSpilt, .ref o_keptAmounts, .ref o_keptDrank, .ref o_keptTurns, .long vo_hash])), (o_amounts, .inl (cJ, 9, .inr (.inl vo_amounts))), (o_drank, .inl (cJ, 9, .inr (.inl vo_drank)))] := hD
    have hl : lv_has ls 3 [(0, .ref o), (1, .int p1)] := hl
    refine lv_istore_n (lv' := [(2, .int j1), (0, .ref o), (1, .int p1)]) hx hb dX6_emptyOne_16 rfl hl (by decide) rfl (fun ls hl => ?_)
    refine lv_aload_n hx hb dX6_emptyOne_17 rfl (lv_at hl 1 rfl) ?_
    refine va_get (D := (dC, dI)) (ci := 6) (v := .ref o_drank) (C := RX6) (T := TX6) (N := 26) hx hb hts hwX6 hown hK hP 0 rfl rfl 12 (by decide) hf_26 (fun _ h9 => h9) rfl dX6_emptyOne_18 ?_
    refine lv_iload_n hx hb dX6_emptyOne_21 rfl (lv_at hl 2 rfl) ?_
    refine lv_dup2_11 hx hb dX6_emptyOne_22 rfl rfl ?_
    have h_3 : vp_in p1 9 := zin (by omega) (by omega)
    refine va_lald hx hb hK hP 2 1 rfl rfl h_3 dX6_emptyOne_23 ?_
    refine lv_aload_n hx hb dX6_emptyOne_24 rfl (lv_at hl 1 rfl) ?_
    refine va_get (D := (dC, dI)) (ci := 6) (v := .ref o_amounts) (C := RX6) (T := TX6) (N := 26) hx hb hts hwX6 hown hK hP 0 rfl rfl 11 (by decide) hf_22 (fun _ h9 => h9) rfl dX6_emptyOne_25 ?_
    refine lv_iload_n hx hb dX6_emptyOne_28 rfl (lv_at hl 2 rfl) ?_
    have h_4 : vp_in p1 9 := zin (by omega) (by omega)
    refine va_lald hx hb hK hP 1 1 rfl rfl h_4 dX6_emptyOne_29 ?_
    refine lv_ladd hx hb dX6_emptyOne_30 ?_
    have h_5 : vp_in p1 9 := zin (by omega) (by omega)
    refine va_last hx hb hK hP hD hS 2 1 rfl rfl h_5 dX6_emptyOne_31 (fun H locs hP hD hS => ?_)
    obtain ⟨a2, ea2⟩ : ∃ z, (vp_updL vo_drank p1.toNatClampNeg ((vo_drank p1.toNatClampNeg) + (vo_amounts p1.toNatClampNeg))) = z := ⟨_, rfl⟩
    replace hT := cut_n ea2 hT
    have hP : va_P (dC, dI) vwCl [(o, .inr (6, [.ref o_page, .int vo_pageMany, .int vo_readMany, .int vo_state, .int vo_readMost, .ref o_readRows, .int vo_glasses, .int vo_towersRead, .int vo_poured, .ref o_rows, .ref o_turns, .ref o_amounts, .ref o_drank, .long vo_spilt, .ref o_takes, .ref o_leans, .ref o_would, .int vo_done, .int vo_seedNow, .int vo_keptTower, .int vo_keptPoured, .long vo_keptSpilt, .ref o_keptAmounts, .ref o_keptDrank, .ref o_keptTurns, .long vo_hash])), (o_amounts, .inl (cJ, 9, .inr (.inl vo_amounts))), (o_drank, .inl (cJ, 9, .inr (.inl a2)))] H := by rw [← ea2]; exact hP
    have hD : va_D A [(o, .inr (6, [.ref o_page, .int vo_pageMany, .int vo_readMany, .int vo_state, .int vo_readMost, .ref o_readRows, .int vo_glasses, .int vo_towersRead, .int vo_poured, .ref o_rows, .ref o_turns, .ref o_amounts, .ref o_drank, .long vo_spilt, .ref o_takes, .ref o_leans, .ref o_would, .int vo_done, .int vo_seedNow, .int vo_keptTower, .int vo_keptPoured, .long vo_keptSpilt, .ref o_keptAmounts, .ref o_keptDrank, .ref o_keptTurns, .long vo_hash])), (o_amounts, .inl (cJ, 9, .inr (.inl vo_amounts))), (o_drank, .inl (cJ, 9, .inr (.inl a2)))] := by rw [← ea2]; exact hD
    refine lv_aload_n hx hb dX6_emptyOne_32 rfl (lv_at hl 1 rfl) ?_
    refine va_get (D := (dC, dI)) (ci := 6) (v := .ref o_amounts) (C := RX6) (T := TX6) (N := 26) hx hb hts hwX6 hown hK hP 0 rfl rfl 11 (by decide) hf_22 (fun _ h9 => h9) rfl dX6_emptyOne_33 ?_
    refine lv_iload_n hx hb dX6_emptyOne_36 rfl (lv_at hl 2 rfl) ?_
    refine lv_lconst (v := (0 : Int64)) hx hb dX6_emptyOne_37 (by decide) ?_
    have h_6 : vp_in p1 9 := zin (by omega) (by omega)
    refine va_last hx hb hK hP hD hS 1 1 rfl rfl h_6 dX6_emptyOne_38 (fun H locs hP hD hS => ?_)
    obtain ⟨a3, ea3⟩ : ∃ z, (vp_updL vo_amounts p1.toNatClampNeg (0 : Int64)) = z := ⟨_, rfl⟩
    replace hT := cut_n ea3 hT
    have hP : va_P (dC, dI) vwCl [(o, .inr (6, [.ref o_page, .int vo_pageMany, .int vo_readMany, .int vo_state, .int vo_readMost, .ref o_readRows, .int vo_glasses, .int vo_towersRead, .int vo_poured, .ref o_rows, .ref o_turns, .ref o_amounts, .ref o_drank, .long vo_spilt, .ref o_takes, .ref o_leans, .ref o_would, .int vo_done, .int vo_seedNow, .int vo_keptTower, .int vo_keptPoured, .long vo_keptSpilt, .ref o_keptAmounts, .ref o_keptDrank, .ref o_keptTurns, .long vo_hash])), (o_amounts, .inl (cJ, 9, .inr (.inl a3))), (o_drank, .inl (cJ, 9, .inr (.inl a2)))] H := by rw [← ea3]; exact hP
    have hD : va_D A [(o, .inr (6, [.ref o_page, .int vo_pageMany, .int vo_readMany, .int vo_state, .int vo_readMost, .ref o_readRows, .int vo_glasses, .int vo_towersRead, .int vo_poured, .ref o_rows, .ref o_turns, .ref o_amounts, .ref o_drank, .long vo_spilt, .ref o_takes, .ref o_leans, .ref o_would, .int vo_done, .int vo_seedNow, .int vo_keptTower, .int vo_keptPoured, .long vo_keptSpilt, .ref o_keptAmounts, .ref o_keptDrank, .ref o_keptTurns, .long vo_hash])), (o_amounts, .inl (cJ, 9, .inr (.inl a3))), (o_drank, .inl (cJ, 9, .inr (.inl a2)))] := by rw [← ea3]; exact hD
    refine lv_iload_n hx hb dX6_emptyOne_39 rfl (lv_at hl 0 rfl) ?_
    have hP9 := hP
    have hD9 := hD
    have hS9 := hS
    have hT : (j1, a3, a2) = (r, qo_amounts, qo_drank) := hT
    cases hT
    subst hQ
    exact zz_iret hx hb hr [0, 1, 2] hK hP9 hD9 hS9 rfl rfl trivial hlocks dX6_emptyOne_40
  · intro xv hT hM
    have hz_8 : ((0 : Int64)).toInt = 0 := by decide
    refine lv_if_le (tgt := 15) hx hb dX6_emptyOne_8 (by decide) (fun c_2 => ?_) (fun c_2 => ?_)
    · replace hT := cutT c_2 hT
      have g_9 := zlc_le.mp c_2
      refine lv_iconst (v := (0 : Int32)) hx hb dX6_emptyOne_15 (by decide) ?_
      have hP9 := hP
      have hD9 := hD
      have hS9 := hS
      have hl9 := hl
      have hM9 := hM
      have hT : (0 : Int32) = xv := hT
      subst hT
      exact hM9 _ _ _ ⟨hP9.sub [0, 1, 2] rfl, hD9.sub [0, 1, 2] rfl rfl, hS9, lv_sub hl9 [0, 1] rfl⟩
    · replace hT := cutF c_2 hT
      have g_10 := mt zlc_le.mpr c_2
      refine lv_iconst (v := (1 : Int32)) hx hb dX6_emptyOne_11 (by decide) ?_
      refine lv_goto (tgt := 16) hx hb dX6_emptyOne_12 (by decide) ?_
      have hP9 := hP
      have hD9 := hD
      have hS9 := hS
      have hl9 := hl
      have hM9 := hM
      have hT : (1 : Int32) = xv := hT
      subst hT
      exact hM9 _ _ _ ⟨hP9.sub [0, 1, 2] rfl, hD9.sub [0, 1, 2] rfl rfl, hS9, lv_sub hl9 [0, 1] rfl⟩

def m_X6_drink (vo_glasses : Int32) (vo_rows : Nat → Int32) (vo_amounts : Nat → Int64) (vo_drank : Nat → Int64) (p1 : Int32) : Int32 × (Nat → Int64) × (Nat → Int64) :=
 cut (m_X6_isGlass vo_glasses p1) (fun (r1 : Int32) =>
 if r1 = (0 : Int32) then
  ((-101 : Int32), vo_amounts, vo_drank)
 else
  if (vo_rows ((6 : Int32) * p1).toNatClampNeg) = (4 : Int32) then
   ((-103 : Int32), vo_amounts, vo_drank)
  else
   cut3 (m_X6_emptyOne vo_amounts vo_drank p1) (fun (r2 : Int32) (u3 : Nat → Int64) (u4 : Nat → Int64) =>
   (r2, u3, u4)))
set_option maxHeartbeats 4000000 in
set_option maxRecDepth 100000 in
theorem k_X6_drink (l : Launch) (dC : Nat → ClassId) (dI : Nat → Nat → Nat) (cI cJ cC : ClassId) (sz : Nat) (o o_page o_readRows o_rows o_turns o_amounts o_drank o_takes o_leans o_would o_keptAmounts o_keptDrank o_keptTurns : Nat) (vo_pageMany : Int32) (vo_readMany : Int32) (vo_state : Int32) (vo_readMost : Int32) (vo_glasses : Int32) (vo_towersRead : Int32) (vo_poured : Int32) (vo_spilt : Int64) (vo_done : Int32) (vo_seedNow : Int32) (vo_keptTower : Int32) (vo_keptPoured : Int32) (vo_keptSpilt : Int64) (vo_hash : Int64) (vo_rows : Nat → Int32) (vo_amounts : Nat → Int64) (vo_drank : Nat → Int64) (p1 : Int32) (r : Int32) (qo_amounts : Nat → Int64) (qo_drank : Nat → Int64) (hT : m_X6_drink vo_glasses vo_rows vo_amounts vo_drank p1 = (r, qo_amounts, qo_drank)) (hg0 : 0 ≤ vo_glasses.toInt) (hg9 : vo_glasses.toInt ≤ 9) : Met l yX6_drink wsX6_drink ({ frames := 2, cells := 0, slots := 0, locals := 46 }) (zPc [.ref o, .int p1] (dC, dI) (zTy cI cJ cC) [(o, .inr (6, [.ref o_page, .int vo_pageMany, .int vo_readMany, .int vo_state, .int vo_readMost, .ref o_readRows, .int vo_glasses, .int vo_towersRead, .int vo_poured, .ref o_rows, .ref o_turns, .ref o_amounts, .ref o_drank, .long vo_spilt, .ref o_takes, .ref o_leans, .ref o_would, .int vo_done, .int vo_seedNow, .int vo_keptTower, .int vo_keptPoured, .long vo_keptSpilt, .ref o_keptAmounts, .ref o_keptDrank, .ref o_keptTurns, .long vo_hash])), (o_rows, .inl (cI, 54, .inl vo_rows)), (o_amounts, .inl (cJ, 9, .inr (.inl vo_amounts))), (o_drank, .inl (cJ, 9, .inr (.inl vo_drank)))] sz) (zQi r (True) (dC, dI) (zTy cI cJ cC) [(o, .inr (6, [.ref o_page, .int vo_pageMany, .int vo_readMany, .int vo_state, .int vo_readMost, .ref o_readRows, .int vo_glasses, .int vo_towersRead, .int vo_poured, .ref o_rows, .ref o_turns, .ref o_amounts, .ref o_drank, .long vo_spilt, .ref o_takes, .ref o_leans, .ref o_would, .int vo_done, .int vo_seedNow, .int vo_keptTower, .int vo_keptPoured, .long vo_keptSpilt, .ref o_keptAmounts, .ref o_keptDrank, .ref o_keptTurns, .long vo_hash])), (o_rows, .inl (cI, 54, .inl vo_rows)), (o_amounts, .inl (cJ, 9, .inr (.inl qo_amounts))), (o_drank, .inl (cJ, 9, .inr (.inl qo_drank)))] (va_A [(o, .inr (6, [.ref o_page, .int vo_pageMany, .int vo_readMany, .int vo_state, .int vo_readMost, .ref o_readRows, .int vo_glasses, .int vo_towersRead, .int vo_poured, .ref o_rows, .ref o_turns, .ref o_amounts, .ref o_drank, .long vo_spilt, .ref o_takes, .ref o_leans, .ref o_would, .int vo_done, .int vo_seedNow, .int vo_keptTower, .int vo_keptPoured, .long vo_keptSpilt, .ref o_keptAmounts, .ref o_keptDrank, .ref o_keptTurns, .long vo_hash])), (o_rows, .inl (cI, 54, .inl vo_rows)), (o_amounts, .inl (cJ, 9, .inr (.inl vo_amounts))), (o_drank, .inl (cJ, 9, .inr (.inl vo_drank)))] sz)) 0 0 (va_A [(o, .inr (6, [.ref o_page, .int vo_pageMany, .int vo_readMany, .int vo_state, .int vo_readMost, .ref o_readRows, .int vo_glasses, .int vo_towersRead, .int vo_poured, .ref o_rows, .ref o_turns, .ref o_amounts, .ref o_drank, .long vo_spilt, .ref o_takes, .ref o_leans, .ref o_would, .int vo_done, .int vo_seedNow, .int vo_keptTower, .int vo_keptPoured, .long vo_keptSpilt, .ref o_keptAmounts, .ref o_keptDrank, .ref o_keptTurns, .long vo_hash])), (o_rows, .inl (cI, 54, .inl vo_rows)), (o_amounts, .inl (cJ, 9, .inr (.inl vo_amounts))), (o_drank, .inl (cJ, 9, .inr (.inl vo_drank)))] sz) := by
  refine Met.ofW (cc := cX6_drink) (maxL := 2) (ret := (some .int)) (by decide) rfl ?_
  intro p e s m args below meth c s₁ B hml hv
  obtain ⟨rfl, hsz, hP, hK, hD0⟩ := hv
  have hx := B.exec
  have hb := B.bytes
  have hr := B.returns
  have hts := atoms_spec (ws := wsX6_drink) B.pre
  have hown : s.vm.findClass RX6 = some m.cls := findClass_of_methodNamed B.named
  have hlocks := B.notSynchronized
  subst hsz
  have hD := hD0.self (sz := s.heap.size)
  generalize hAe : va_A [(o, .inr (6, [.ref o_page, .int vo_pageMany, .int vo_readMany, .int vo_state, .int vo_readMost, .ref o_readRows, .int vo_glasses, .int vo_towersRead, .int vo_poured, .ref o_rows, .ref o_turns, .ref o_amounts, .ref o_drank, .long vo_spilt, .ref o_takes, .ref o_leans, .ref o_would, .int vo_done, .int vo_seedNow, .int vo_keptTower, .int vo_keptPoured, .long vo_keptSpilt, .ref o_keptAmounts, .ref o_keptDrank, .ref o_keptTurns, .long vo_hash])), (o_rows, .inl (cI, 54, .inl vo_rows)), (o_amounts, .inl (cJ, 9, .inr (.inl vo_amounts))), (o_drank, .inl (cJ, 9, .inr (.inl vo_drank)))] s.heap.size = A at hD ⊢
  have hA : ∀ q : Nat, s.heap.size ≤ q → A q := fun q h => by rw [← hAe]; exact Or.inr h
  have hS : va_S A s.heap s.heap [] := va_S.rf
  have hP : va_P (dC, dI) vwCl [(o, .inr (6, [.ref o_page, .int vo_pageMany, .int vo_readMany, .int vo_state, .int vo_readMost, .ref o_readRows, .int vo_glasses, .int vo_towersRead, .int vo_poured, .ref o_rows, .ref o_turns, .ref o_amounts, .ref o_drank, .long vo_spilt, .ref o_takes, .ref o_leans, .ref o_would, .int vo_done, .int vo_seedNow, .int vo_keptTower, .int vo_keptPoured, .long vo_keptSpilt, .ref o_keptAmounts, .ref o_keptDrank, .ref o_keptTurns, .long vo_hash])), (o_rows, .inl (cI, 54, .inl vo_rows)), (o_amounts, .inl (cJ, 9, .inr (.inl vo_amounts))), (o_drank, .inl (cJ, 9, .inr (.inl vo_drank)))] s.heap := hP
  have hK : va_K (dC, dI) vwCl (zTy cI cJ cC) s := hK
  have hl := lv_entry ([.ref o, .int p1]) (n := 2) (Nat.le_of_ble_eq_true rfl)
  rw [lg_entry_eq]
  generalize (lg_sl ([.ref o, .int p1]) ++ List.replicate (2 - (lg_sl ([.ref o, .int p1])).length) Slot.unset).toArray = ls at hl ⊢
  have hl : lv_has ls 2 [(0, .ref o), (1, .int p1)] := hl
  refine zz_start hP hS (fun Q hQ H locs hP hS => ?_)
  have hwX6 : ∀ w ∈ u_ws RX6 TX6 26, w ∈ wsX6_drink := by decide +kernel
  have hf_16 := (hts (.fieldLink RX6 16 "PouredTopmostModel" "rows" "[I") (by decide +kernel))
  refine lv_aload_n hx hb dX6_drink_0 rfl (lv_at hl 0 rfl) ?_
  refine lv_iload_n hx hb dX6_drink_1 rfl (lv_at hl 1 rfl) ?_
  obtain ⟨r1, ev_1⟩ : ∃ x0, (m_X6_isGlass vo_glasses p1) = x0 := ⟨_, rfl⟩
  replace hT := cut_n ev_1 hT
  refine zz_ci [0] [1, 2, 3] (wr := [(o_rows, .inl (cI, 54, .inl vo_rows)), (o_amounts, .inl (cJ, 9, .inr (.inl vo_amounts))), (o_drank, .inl (cJ, 9, .inr (.inl vo_drank)))]) (w1 := [(o, .inr (6, [.ref o_page, .int vo_pageMany, .int vo_readMany, .int vo_state, .int vo_readMost, .ref o_readRows, .int vo_glasses, .int vo_towersRead, .int vo_poured, .ref o_rows, .ref o_turns, .ref o_amounts, .ref o_drank, .long vo_spilt, .ref o_takes, .ref o_leans, .ref o_would, .int vo_done, .int vo_seedNow, .int vo_keptTower, .int vo_keptPoured, .long vo_keptSpilt, .ref o_keptAmounts, .ref o_keptDrank, .ref o_keptTurns, .long vo_hash]))]) (va_runV (As := [.int p1]) (rest := []) ⟨hx, hb, hml, hown, hts⟩ (k_X6_isGlass l dC dI cI cJ cC H.size o o_page o_readRows o_rows o_turns o_amounts o_drank o_takes o_leans o_would o_keptAmounts o_keptDrank o_keptTurns vo_pageMany vo_readMany vo_state vo_readMost vo_glasses vo_towersRead vo_poured vo_spilt vo_done vo_seedNow vo_keptTower vo_keptPoured vo_keptSpilt vo_hash p1 r1 ev_1 hg0 hg9) (cwV 1 hts gX6_drink_X6_isGlass rfl rfl rfl (by decide +kernel) ⟨Nat.le_of_ble_eq_true rfl, Nat.le_of_ble_eq_true rfl⟩) (zz_preV [0] hK hP hD rfl rfl (va_recv hK hP (ci := 6) (q0 := 0) rfl rfl)) rfl rfl hl.1 rfl (lv_room (Nat.le_of_ble_eq_true rfl)) dX6_drink_2 ⟨Nat.zero_le _, Nat.zero_le _⟩) hP hD hS hA rfl rfl rfl (by decide) (fun ok_2 H locs hP hD hS => ?_)
  have hP : va_P (dC, dI) vwCl [(o_rows, .inl (cI, 54, .inl vo_rows)), (o_amounts, .inl (cJ, 9, .inr (.inl vo_amounts))), (o_drank, .inl (cJ, 9, .inr (.inl vo_drank))), (o, .inr (6, [.ref o_page, .int vo_pageMany, .int vo_readMany, .int vo_state, .int vo_readMost, .ref o_readRows, .int vo_glasses, .int vo_towersRead, .int vo_poured, .ref o_rows, .ref o_turns, .ref o_amounts, .ref o_drank, .long vo_spilt, .ref o_takes, .ref o_leans, .ref o_would, .int vo_done, .int vo_seedNow, .int vo_keptTower, .int vo_keptPoured, .long vo_keptSpilt, .ref o_keptAmounts, .ref o_keptDrank, .ref o_keptTurns, .long vo_hash]))] H := hP
  have hD : va_D A [(o_rows, .inl (cI, 54, .inl vo_rows)), (o_amounts, .inl (cJ, 9, .inr (.inl vo_amounts))), (o_drank, .inl (cJ, 9, .inr (.inl vo_drank))), (o, .inr (6, [.ref o_page, .int vo_pageMany, .int vo_readMany, .int vo_state, .int vo_readMost, .ref o_readRows, .int vo_glasses, .int vo_towersRead, .int vo_poured, .ref o_rows, .ref o_turns, .ref o_amounts, .ref o_drank, .long vo_spilt, .ref o_takes, .ref o_leans, .ref o_would, .int vo_done, .int vo_seedNow, .int vo_keptTower, .int vo_keptPoured, .long vo_keptSpilt, .ref o_keptAmounts, .ref o_keptDrank, .ref o_keptTurns, .long vo_hash]))] := hD
  obtain ⟨k_3, k_4⟩ := ok_2
  refine lv_if_ne (tgt := 11) hx hb dX6_drink_5 (by decide) (fun c_5 => ?_) (fun c_5 => ?_)
  · replace hT := cutF c_5 hT
    have g_11 := zeqF (rfl : (r1).toInt = _) (by decide : ((0 : Int32)).toInt = 0) c_5
    refine lv_aload_n hx hb dX6_drink_11 rfl (lv_at hl 0 rfl) ?_
    refine va_get (D := (dC, dI)) (ci := 6) (v := .ref o_rows) (C := RX6) (T := TX6) (N := 26) hx hb hts hwX6 hown hK hP 3 rfl rfl 9 (by decide) hf_16 (fun _ h9 => h9) rfl dX6_drink_12 ?_
    refine lv_bipush (v := (6 : Int32)) hx hb dX6_drink_15 (by decide) ?_
    refine lv_iload_n hx hb dX6_drink_17 rfl (lv_at hl 1 rfl) ?_
    refine lv_imul hx hb dX6_drink_18 ?_
    have e_7 := zmulE (v := ((6 : Int32) * p1)) (by decide : ((6 : Int32)).toInt = 6) (rfl : (p1).toInt = _) rfl (by omega) (by omega)
    have h_6 : vp_in ((6 : Int32) * p1) 54 := zin (by omega) (by omega)
    refine va_iald hx hb hK hP 0 0 rfl rfl h_6 dX6_drink_19 ?_
    refine lv_iconst (v := (4 : Int32)) hx hb dX6_drink_20 (by decide) ?_
    refine lv_icmp_ne (tgt := 29) hx hb dX6_drink_21 (by decide) (fun c_8 => ?_) (fun c_8 => ?_)
    · replace hT := cutF c_8 hT
      have g_12 := zeqF (rfl : ((vo_rows ((6 : Int32) * p1).toNatClampNeg)).toInt = _) (by decide : ((4 : Int32)).toInt = 4) c_8
      refine lv_aload_n hx hb dX6_drink_29 rfl (lv_at hl 0 rfl) ?_
      refine lv_iload_n hx hb dX6_drink_30 rfl (lv_at hl 1 rfl) ?_
      obtain ⟨r2, u3, u4, ev_9⟩ : ∃ x0 x1 x2, (m_X6_emptyOne vo_amounts vo_drank p1) = (x0, x1, x2) := ⟨_, _, _, rfl⟩
      replace hT := cut3_n ev_9 hT
      refine zz_ci [3, 1, 2] [0] (wr := [(o_rows, .inl (cI, 54, .inl vo_rows))]) (w1 := [(o, .inr (6, [.ref o_page, .int vo_pageMany, .int vo_readMany, .int vo_state, .int vo_readMost, .ref o_readRows, .int vo_glasses, .int vo_towersRead, .int vo_poured, .ref o_rows, .ref o_turns, .ref o_amounts, .ref o_drank, .long vo_spilt, .ref o_takes, .ref o_leans, .ref o_would, .int vo_done, .int vo_seedNow, .int vo_keptTower, .int vo_keptPoured, .long vo_keptSpilt, .ref o_keptAmounts, .ref o_keptDrank, .ref o_keptTurns, .long vo_hash])), (o_amounts, .inl (cJ, 9, .inr (.inl u3))), (o_drank, .inl (cJ, 9, .inr (.inl u4)))]) (va_runV (As := [.int p1]) (rest := []) ⟨hx, hb, hml, hown, hts⟩ (k_X6_emptyOne l dC dI cI cJ cC H.size o o_page o_readRows o_rows o_turns o_amounts o_drank o_takes o_leans o_would o_keptAmounts o_keptDrank o_keptTurns vo_pageMany vo_readMany vo_state vo_readMost vo_glasses vo_towersRead vo_poured vo_spilt vo_done vo_seedNow vo_keptTower vo_keptPoured vo_keptSpilt vo_hash vo_amounts vo_drank p1 r2 u3 u4 ev_9 (by first | omega | decide) (by first | omega | decide)) (cwV 1 hts gX6_drink_X6_emptyOne rfl rfl rfl (by decide +kernel) ⟨Nat.le_of_ble_eq_true rfl, Nat.le_of_ble_eq_true rfl⟩) (zz_preV [3, 1, 2] hK hP hD rfl rfl (va_recv hK hP (ci := 6) (q0 := 3) rfl rfl)) rfl rfl hl.1 rfl (lv_room (Nat.le_of_ble_eq_true rfl)) dX6_drink_31 ⟨Nat.zero_le _, Nat.zero_le _⟩) hP hD hS hA rfl rfl rfl (by decide) (fun ok_10 H locs hP hD hS => ?_)
      have hP : va_P (dC, dI) vwCl [(o_rows, .inl (cI, 54, .inl vo_rows)), (o, .inr (6, [.ref o_page, .int vo_pageMany, .int vo_readMany, .int vo_state, .int vo_readMost, .ref o_readRows, .int vo_glasses, .int vo_towersRead, .int vo_poured, .ref o_rows, .ref o_turns, .ref o_amounts, .ref o_drank, .long vo_spilt, .ref o_takes, .ref o_leans, .ref o_would, .int vo_done, .int vo_seedNow, .int vo_keptTower, .int vo_keptPoured, .long vo_keptSpilt, .ref o_keptAmounts, .ref o_keptDrank, .ref o_keptTurns, .long vo_hash])), (o_amounts, .inl (cJ, 9, .inr (.inl u3))), (o_drank, .inl (cJ, 9, .inr (.inl u4)))] H := hP
      have hD : va_D A [(o_rows, .inl (cI, 54, .inl vo_rows)), (o, .inr (6, [.ref o_page, .int vo_pageMany, .int vo_readMany, .int vo_state, .int vo_readMost, .ref o_readRows, .int vo_glasses, .int vo_towersRead, .int vo_poured, .ref o_rows, .ref o_turns, .ref o_amounts, .ref o_drank, .long vo_spilt, .ref o_takes, .ref o_leans, .ref o_would, .int vo_done, .int vo_seedNow, .int vo_keptTower, .int vo_keptPoured, .long vo_keptSpilt, .ref o_keptAmounts, .ref o_keptDrank, .ref o_keptTurns, .long vo_hash])), (o_amounts, .inl (cJ, 9, .inr (.inl u3))), (o_drank, .inl (cJ, 9, .inr (.inl u4)))] := hD
      have hP9 := hP
      have hD9 := hD
      have hS9 := hS
      have hT : (r2, u3, u4) = (r, qo_amounts, qo_drank) := hT
      cases hT
      subst hQ
      exact zz_iret hx hb hr [1, 0, 2, 3] hK hP9 hD9 hS9 rfl rfl trivial hlocks dX6_drink_34
    · replace hT := cutT c_8 hT
      have g_13 := zeqT (rfl : ((vo_rows ((6 : Int32) * p1).toNatClampNeg)).toInt = _) (by decide : ((4 : Int32)).toInt = 4) c_8
      refine lv_bipush (v := (-103 : Int32)) hx hb dX6_drink_24 (by decide) ?_
      refine lv_goto (tgt := 34) hx hb dX6_drink_26 (by decide) ?_
      have hP9 := hP
      have hD9 := hD
      have hS9 := hS
      have hT : ((-103 : Int32), vo_amounts, vo_drank) = (r, qo_amounts, qo_drank) := hT
      cases hT
      subst hQ
      exact zz_iret hx hb hr [3, 0, 1, 2] hK hP9 hD9 hS9 rfl rfl trivial hlocks dX6_drink_34
  · replace hT := cutT c_5 hT
    have g_14 := zeqT (rfl : (r1).toInt = _) (by decide : ((0 : Int32)).toInt = 0) c_5
    refine lv_bipush (v := (-101 : Int32)) hx hb dX6_drink_8 (by decide) ?_
    have hP9 := hP
    have hD9 := hD
    have hS9 := hS
    have hT : ((-101 : Int32), vo_amounts, vo_drank) = (r, qo_amounts, qo_drank) := hT
    cases hT
    subst hQ
    exact zz_iret hx hb hr [3, 0, 1, 2] hK hP9 hD9 hS9 rfl rfl trivial hlocks dX6_drink_10

def m_X6_drunk (vo_glasses : Int32) (vo_drank : Nat → Int64) (p1 : Int32) (p2 : Int32) : Int64 :=
 cut (m_X6_isGlass vo_glasses p1) (fun (r1 : Int32) =>
 if r1 = (0 : Int32) then
  (-101 : Int64)
 else
  cut (m_X6_isPart p2) (fun (r2 : Int32) =>
  if r2 = (0 : Int32) then
   (-102 : Int64)
  else
   cut (m_X6_term (vo_drank p1.toNatClampNeg) p2) (fun (r3 : Int64) =>
   r3)))
set_option maxHeartbeats 4000000 in
set_option maxRecDepth 100000 in
theorem k_X6_drunk (l : Launch) (dC : Nat → ClassId) (dI : Nat → Nat → Nat) (cI cJ cC : ClassId) (sz : Nat) (o o_page o_readRows o_rows o_turns o_amounts o_drank o_takes o_leans o_would o_keptAmounts o_keptDrank o_keptTurns : Nat) (vo_pageMany : Int32) (vo_readMany : Int32) (vo_state : Int32) (vo_readMost : Int32) (vo_glasses : Int32) (vo_towersRead : Int32) (vo_poured : Int32) (vo_spilt : Int64) (vo_done : Int32) (vo_seedNow : Int32) (vo_keptTower : Int32) (vo_keptPoured : Int32) (vo_keptSpilt : Int64) (vo_hash : Int64) (vo_drank : Nat → Int64) (p1 : Int32) (p2 : Int32) (r : Int64) (hT : m_X6_drunk vo_glasses vo_drank p1 p2 = r) (hg0 : 0 ≤ vo_glasses.toInt) (hg9 : vo_glasses.toInt ≤ 9) : Met l yX6_drunk wsX6_drunk ({ frames := 2, cells := 0, slots := 0, locals := 46 }) (zPc [.ref o, .int p1, .int p2] (dC, dI) (zTy cI cJ cC) [(o, .inr (6, [.ref o_page, .int vo_pageMany, .int vo_readMany, .int vo_state, .int vo_readMost, .ref o_readRows, .int vo_glasses, .int vo_towersRead, .int vo_poured, .ref o_rows, .ref o_turns, .ref o_amounts, .ref o_drank, .long vo_spilt, .ref o_takes, .ref o_leans, .ref o_would, .int vo_done, .int vo_seedNow, .int vo_keptTower, .int vo_keptPoured, .long vo_keptSpilt, .ref o_keptAmounts, .ref o_keptDrank, .ref o_keptTurns, .long vo_hash])), (o_drank, .inl (cJ, 9, .inr (.inl vo_drank)))] sz) (zQl r (True) (dC, dI) (zTy cI cJ cC) [(o, .inr (6, [.ref o_page, .int vo_pageMany, .int vo_readMany, .int vo_state, .int vo_readMost, .ref o_readRows, .int vo_glasses, .int vo_towersRead, .int vo_poured, .ref o_rows, .ref o_turns, .ref o_amounts, .ref o_drank, .long vo_spilt, .ref o_takes, .ref o_leans, .ref o_would, .int vo_done, .int vo_seedNow, .int vo_keptTower, .int vo_keptPoured, .long vo_keptSpilt, .ref o_keptAmounts, .ref o_keptDrank, .ref o_keptTurns, .long vo_hash])), (o_drank, .inl (cJ, 9, .inr (.inl vo_drank)))] (va_A [(o, .inr (6, [.ref o_page, .int vo_pageMany, .int vo_readMany, .int vo_state, .int vo_readMost, .ref o_readRows, .int vo_glasses, .int vo_towersRead, .int vo_poured, .ref o_rows, .ref o_turns, .ref o_amounts, .ref o_drank, .long vo_spilt, .ref o_takes, .ref o_leans, .ref o_would, .int vo_done, .int vo_seedNow, .int vo_keptTower, .int vo_keptPoured, .long vo_keptSpilt, .ref o_keptAmounts, .ref o_keptDrank, .ref o_keptTurns, .long vo_hash])), (o_drank, .inl (cJ, 9, .inr (.inl vo_drank)))] sz)) 0 0 (va_A [(o, .inr (6, [.ref o_page, .int vo_pageMany, .int vo_readMany, .int vo_state, .int vo_readMost, .ref o_readRows, .int vo_glasses, .int vo_towersRead, .int vo_poured, .ref o_rows, .ref o_turns, .ref o_amounts, .ref o_drank, .long vo_spilt, .ref o_takes, .ref o_leans, .ref o_would, .int vo_done, .int vo_seedNow, .int vo_keptTower, .int vo_keptPoured, .long vo_keptSpilt, .ref o_keptAmounts, .ref o_keptDrank, .ref o_keptTurns, .long vo_hash])), (o_drank, .inl (cJ, 9, .inr (.inl vo_drank)))] sz) := by
  refine Met.ofW (cc := cX6_drunk) (maxL := 3) (ret := (some .long)) (by decide) rfl ?_
  intro p e s m args below meth c s₁ B hml hv
  obtain ⟨rfl, hsz, hP, hK, hD0⟩ := hv
  have hx := B.exec
  have hb := B.bytes
  have hr := B.returns
  have hts := atoms_spec (ws := wsX6_drunk) B.pre
  have hown : s.vm.findClass RX6 = some m.cls := findClass_of_methodNamed B.named
  have hlocks := B.notSynchronized
  subst hsz
  have hD := hD0.self (sz := s.heap.size)
  generalize hAe : va_A [(o, .inr (6, [.ref o_page, .int vo_pageMany, .int vo_readMany, .int vo_state, .int vo_readMost, .ref o_readRows, .int vo_glasses, .int vo_towersRead, .int vo_poured, .ref o_rows, .ref o_turns, .ref o_amounts, .ref o_drank, .long vo_spilt, .ref o_takes, .ref o_leans, .ref o_would, .int vo_done, .int vo_seedNow, .int vo_keptTower, .int vo_keptPoured, .long vo_keptSpilt, .ref o_keptAmounts, .ref o_keptDrank, .ref o_keptTurns, .long vo_hash])), (o_drank, .inl (cJ, 9, .inr (.inl vo_drank)))] s.heap.size = A at hD ⊢
  have hA : ∀ q : Nat, s.heap.size ≤ q → A q := fun q h => by rw [← hAe]; exact Or.inr h
  have hS : va_S A s.heap s.heap [] := va_S.rf
  have hP : va_P (dC, dI) vwCl [(o, .inr (6, [.ref o_page, .int vo_pageMany, .int vo_readMany, .int vo_state, .int vo_readMost, .ref o_readRows, .int vo_glasses, .int vo_towersRead, .int vo_poured, .ref o_rows, .ref o_turns, .ref o_amounts, .ref o_drank, .long vo_spilt, .ref o_takes, .ref o_leans, .ref o_would, .int vo_done, .int vo_seedNow, .int vo_keptTower, .int vo_keptPoured, .long vo_keptSpilt, .ref o_keptAmounts, .ref o_keptDrank, .ref o_keptTurns, .long vo_hash])), (o_drank, .inl (cJ, 9, .inr (.inl vo_drank)))] s.heap := hP
  have hK : va_K (dC, dI) vwCl (zTy cI cJ cC) s := hK
  have hl := lv_entry ([.ref o, .int p1, .int p2]) (n := 3) (Nat.le_of_ble_eq_true rfl)
  rw [lg_entry_eq]
  generalize (lg_sl ([.ref o, .int p1, .int p2]) ++ List.replicate (3 - (lg_sl ([.ref o, .int p1, .int p2])).length) Slot.unset).toArray = ls at hl ⊢
  have hl : lv_has ls 3 [(0, .ref o), (1, .int p1), (2, .int p2)] := hl
  refine zz_start hP hS (fun Q hQ H locs hP hS => ?_)
  have hwX6 : ∀ w ∈ u_ws RX6 TX6 26, w ∈ wsX6_drunk := by decide +kernel
  have hc_143 := (hts (.constantLong RX6 143 (-101)) (by decide +kernel))
  have hc_152 := (hts (.constantLong RX6 152 (-102)) (by decide +kernel))
  have hf_26 := (hts (.fieldLink RX6 26 "PouredTopmostModel" "drank" "[J") (by decide +kernel))
  refine lv_aload_n hx hb dX6_drunk_0 rfl (lv_at hl 0 rfl) ?_
  refine lv_iload_n hx hb dX6_drunk_1 rfl (lv_at hl 1 rfl) ?_
  obtain ⟨r1, ev_1⟩ : ∃ x0, (m_X6_isGlass vo_glasses p1) = x0 := ⟨_, rfl⟩
  replace hT := cut_n ev_1 hT
  refine zz_ci [0] [1] (wr := [(o_drank, .inl (cJ, 9, .inr (.inl vo_drank)))]) (w1 := [(o, .inr (6, [.ref o_page, .int vo_pageMany, .int vo_readMany, .int vo_state, .int vo_readMost, .ref o_readRows, .int vo_glasses, .int vo_towersRead, .int vo_poured, .ref o_rows, .ref o_turns, .ref o_amounts, .ref o_drank, .long vo_spilt, .ref o_takes, .ref o_leans, .ref o_would, .int vo_done, .int vo_seedNow, .int vo_keptTower, .int vo_keptPoured, .long vo_keptSpilt, .ref o_keptAmounts, .ref o_keptDrank, .ref o_keptTurns, .long vo_hash]))]) (va_runV (As := [.int p1]) (rest := []) ⟨hx, hb, hml, hown, hts⟩ (k_X6_isGlass l dC dI cI cJ cC H.size o o_page o_readRows o_rows o_turns o_amounts o_drank o_takes o_leans o_would o_keptAmounts o_keptDrank o_keptTurns vo_pageMany vo_readMany vo_state vo_readMost vo_glasses vo_towersRead vo_poured vo_spilt vo_done vo_seedNow vo_keptTower vo_keptPoured vo_keptSpilt vo_hash p1 r1 ev_1 hg0 hg9) (cwV 1 hts gX6_drunk_X6_isGlass rfl rfl rfl (by decide +kernel) ⟨Nat.le_of_ble_eq_true rfl, Nat.le_of_ble_eq_true rfl⟩) (zz_preV [0] hK hP hD rfl rfl (va_recv hK hP (ci := 6) (q0 := 0) rfl rfl)) rfl rfl hl.1 rfl (lv_room (Nat.le_of_ble_eq_true rfl)) dX6_drunk_2 ⟨Nat.zero_le _, Nat.zero_le _⟩) hP hD hS hA rfl rfl rfl (by decide) (fun ok_2 H locs hP hD hS => ?_)
  have hP : va_P (dC, dI) vwCl [(o_drank, .inl (cJ, 9, .inr (.inl vo_drank))), (o, .inr (6, [.ref o_page, .int vo_pageMany, .int vo_readMany, .int vo_state, .int vo_readMost, .ref o_readRows, .int vo_glasses, .int vo_towersRead, .int vo_poured, .ref o_rows, .ref o_turns, .ref o_amounts, .ref o_drank, .long vo_spilt, .ref o_takes, .ref o_leans, .ref o_would, .int vo_done, .int vo_seedNow, .int vo_keptTower, .int vo_keptPoured, .long vo_keptSpilt, .ref o_keptAmounts, .ref o_keptDrank, .ref o_keptTurns, .long vo_hash]))] H := hP
  have hD : va_D A [(o_drank, .inl (cJ, 9, .inr (.inl vo_drank))), (o, .inr (6, [.ref o_page, .int vo_pageMany, .int vo_readMany, .int vo_state, .int vo_readMost, .ref o_readRows, .int vo_glasses, .int vo_towersRead, .int vo_poured, .ref o_rows, .ref o_turns, .ref o_amounts, .ref o_drank, .long vo_spilt, .ref o_takes, .ref o_leans, .ref o_would, .int vo_done, .int vo_seedNow, .int vo_keptTower, .int vo_keptPoured, .long vo_keptSpilt, .ref o_keptAmounts, .ref o_keptDrank, .ref o_keptTurns, .long vo_hash]))] := hD
  obtain ⟨k_3, k_4⟩ := ok_2
  refine lv_if_ne (tgt := 12) hx hb dX6_drunk_5 (by decide) (fun c_5 => ?_) (fun c_5 => ?_)
  · replace hT := cutF c_5 hT
    have g_12 := zeqF (rfl : (r1).toInt = _) (by decide : ((0 : Int32)).toInt = 0) c_5
    refine lv_iload_n hx hb dX6_drunk_12 rfl (lv_at hl 2 rfl) ?_
    obtain ⟨r2, ev_6⟩ : ∃ x0, (m_X6_isPart p2) = x0 := ⟨_, rfl⟩
    replace hT := cut_n ev_6 hT
    refine zz_ci [] [0, 1] (wr := [(o_drank, .inl (cJ, 9, .inr (.inl vo_drank))), (o, .inr (6, [.ref o_page, .int vo_pageMany, .int vo_readMany, .int vo_state, .int vo_readMost, .ref o_readRows, .int vo_glasses, .int vo_towersRead, .int vo_poured, .ref o_rows, .ref o_turns, .ref o_amounts, .ref o_drank, .long vo_spilt, .ref o_takes, .ref o_leans, .ref o_would, .int vo_done, .int vo_seedNow, .int vo_keptTower, .int vo_keptPoured, .long vo_keptSpilt, .ref o_keptAmounts, .ref o_keptDrank, .ref o_keptTurns, .long vo_hash]))]) (w1 := []) (va_runS (As := [.int p2]) (rest := []) ⟨hx, hb, hml, hown, hts⟩ (k_X6_isPart l dC dI cI cJ cC H.size p2 r2 ev_6) (va_cwS 1 hts gX6_drunk_X6_isPart rfl rfl rfl (by decide +kernel) ⟨Nat.le_of_ble_eq_true rfl, Nat.le_of_ble_eq_true rfl⟩) (zz_preS [] hK hP hD rfl rfl) rfl rfl hl.1 rfl (lv_room (Nat.le_of_ble_eq_true rfl)) dX6_drunk_13 ⟨Nat.zero_le _, Nat.zero_le _⟩) hP hD hS hA rfl rfl rfl (by decide) (fun ok_7 H locs hP hD hS => ?_)
    have hP : va_P (dC, dI) vwCl [(o_drank, .inl (cJ, 9, .inr (.inl vo_drank))), (o, .inr (6, [.ref o_page, .int vo_pageMany, .int vo_readMany, .int vo_state, .int vo_readMost, .ref o_readRows, .int vo_glasses, .int vo_towersRead, .int vo_poured, .ref o_rows, .ref o_turns, .ref o_amounts, .ref o_drank, .long vo_spilt, .ref o_takes, .ref o_leans, .ref o_would, .int vo_done, .int vo_seedNow, .int vo_keptTower, .int vo_keptPoured, .long vo_keptSpilt, .ref o_keptAmounts, .ref o_keptDrank, .ref o_keptTurns, .long vo_hash]))] H := hP
    have hD : va_D A [(o_drank, .inl (cJ, 9, .inr (.inl vo_drank))), (o, .inr (6, [.ref o_page, .int vo_pageMany, .int vo_readMany, .int vo_state, .int vo_readMost, .ref o_readRows, .int vo_glasses, .int vo_towersRead, .int vo_poured, .ref o_rows, .ref o_turns, .ref o_amounts, .ref o_drank, .long vo_spilt, .ref o_takes, .ref o_leans, .ref o_would, .int vo_done, .int vo_seedNow, .int vo_keptTower, .int vo_keptPoured, .long vo_keptSpilt, .ref o_keptAmounts, .ref o_keptDrank, .ref o_keptTurns, .long vo_hash]))] := hD
    refine lv_if_eq (tgt := 32) hx hb dX6_drunk_16 (by decide) (fun c_8 => ?_) (fun c_8 => ?_)
    · replace hT := cutT c_8 hT
      have g_13 := zeqT (rfl : (r2).toInt = _) (by decide : ((0 : Int32)).toInt = 0) c_8
      refine lv_ldc2 (v := (-102 : Int64)) hx hb hown hc_152 dX6_drunk_32 ?_
      have hP9 := hP
      have hD9 := hD
      have hS9 := hS
      have hT : (-102 : Int64) = r := hT
      subst hT
      subst hQ
      exact zz_lret hx hb hr [1, 0] hK hP9 hD9 hS9 rfl rfl trivial hlocks dX6_drunk_35
    · replace hT := cutF c_8 hT
      have g_14 := zeqF (rfl : (r2).toInt = _) (by decide : ((0 : Int32)).toInt = 0) c_8
      refine lv_aload_n hx hb dX6_drunk_19 rfl (lv_at hl 0 rfl) ?_
      refine va_get (D := (dC, dI)) (ci := 6) (v := .ref o_drank) (C := RX6) (T := TX6) (N := 26) hx hb hts hwX6 hown hK hP 1 rfl rfl 12 (by decide) hf_26 (fun _ h9 => h9) rfl dX6_drunk_20 ?_
      refine lv_iload_n hx hb dX6_drunk_23 rfl (lv_at hl 1 rfl) ?_
      have h_9 : vp_in p1 9 := zin (by omega) (by omega)
      refine va_lald hx hb hK hP 0 1 rfl rfl h_9 dX6_drunk_24 ?_
      refine lv_iload_n hx hb dX6_drunk_25 rfl (lv_at hl 2 rfl) ?_
      obtain ⟨r3, ev_10⟩ : ∃ x0, (m_X6_term (vo_drank p1.toNatClampNeg) p2) = x0 := ⟨_, rfl⟩
      replace hT := cut_n ev_10 hT
      refine zz_cl [] [0, 1] (wr := [(o_drank, .inl (cJ, 9, .inr (.inl vo_drank))), (o, .inr (6, [.ref o_page, .int vo_pageMany, .int vo_readMany, .int vo_state, .int vo_readMost, .ref o_readRows, .int vo_glasses, .int vo_towersRead, .int vo_poured, .ref o_rows, .ref o_turns, .ref o_amounts, .ref o_drank, .long vo_spilt, .ref o_takes, .ref o_leans, .ref o_would, .int vo_done, .int vo_seedNow, .int vo_keptTower, .int vo_keptPoured, .long vo_keptSpilt, .ref o_keptAmounts, .ref o_keptDrank, .ref o_keptTurns, .long vo_hash]))]) (w1 := []) (va_runS (As := [.long (vo_drank p1.toNatClampNeg), .int p2]) (rest := []) ⟨hx, hb, hml, hown, hts⟩ (k_X6_term l dC dI cI cJ cC H.size (vo_drank p1.toNatClampNeg) p2 r3 ev_10) (va_cwS 2 hts gX6_drunk_X6_term rfl rfl rfl (by decide +kernel) ⟨Nat.le_of_ble_eq_true rfl, Nat.le_of_ble_eq_true rfl⟩) (zz_preS [] hK hP hD rfl rfl) rfl rfl hl.1 rfl (lv_room (Nat.le_of_ble_eq_true rfl)) dX6_drunk_26 ⟨Nat.zero_le _, Nat.zero_le _⟩) hP hD hS hA rfl rfl rfl (by decide) (fun ok_11 H locs hP hD hS => ?_)
      have hP : va_P (dC, dI) vwCl [(o_drank, .inl (cJ, 9, .inr (.inl vo_drank))), (o, .inr (6, [.ref o_page, .int vo_pageMany, .int vo_readMany, .int vo_state, .int vo_readMost, .ref o_readRows, .int vo_glasses, .int vo_towersRead, .int vo_poured, .ref o_rows, .ref o_turns, .ref o_amounts, .ref o_drank, .long vo_spilt, .ref o_takes, .ref o_leans, .ref o_would, .int vo_done, .int vo_seedNow, .int vo_keptTower, .int vo_keptPoured, .long vo_keptSpilt, .ref o_keptAmounts, .ref o_keptDrank, .ref o_keptTurns, .long vo_hash]))] H := hP
      have hD : va_D A [(o_drank, .inl (cJ, 9, .inr (.inl vo_drank))), (o, .inr (6, [.ref o_page, .int vo_pageMany, .int vo_readMany, .int vo_state, .int vo_readMost, .ref o_readRows, .int vo_glasses, .int vo_towersRead, .int vo_poured, .ref o_rows, .ref o_turns, .ref o_amounts, .ref o_drank, .long vo_spilt, .ref o_takes, .ref o_leans, .ref o_would, .int vo_done, .int vo_seedNow, .int vo_keptTower, .int vo_keptPoured, .long vo_keptSpilt, .ref o_keptAmounts, .ref o_keptDrank, .ref o_keptTurns, .long vo_hash]))] := hD
      refine lv_goto (tgt := 35) hx hb dX6_drunk_29 (by decide) ?_
      have hP9 := hP
      have hD9 := hD
      have hS9 := hS
      have hT : r3 = r := hT
      subst hT
      subst hQ
      exact zz_lret hx hb hr [1, 0] hK hP9 hD9 hS9 rfl rfl trivial hlocks dX6_drunk_35
  · replace hT := cutT c_5 hT
    have g_15 := zeqT (rfl : (r1).toInt = _) (by decide : ((0 : Int32)).toInt = 0) c_5
    refine lv_ldc2 (v := (-101 : Int64)) hx hb hown hc_143 dX6_drunk_8 ?_
    have hP9 := hP
    have hD9 := hD
    have hS9 := hS
    have hT : (-101 : Int64) = r := hT
    subst hT
    subst hQ
    exact zz_lret hx hb hr [1, 0] hK hP9 hD9 hS9 rfl rfl trivial hlocks dX6_drunk_11

def m_X6_clear (vo_poured : Int32) (vo_amounts : Nat → Int64) (vo_drank : Nat → Int64) : Int32 × Int32 × Int64 × (Nat → Int64) × (Nat → Int64) :=
 cut4 (m_X6_empty vo_amounts vo_drank) (fun (u1 : Int32) (u2 : Int64) (u3 : Nat → Int64) (u4 : Nat → Int64) =>
 (vo_poured, u1, u2, u3, u4))
set_option maxHeartbeats 4000000 in
set_option maxRecDepth 100000 in
theorem k_X6_clear (l : Launch) (dC : Nat → ClassId) (dI : Nat → Nat → Nat) (cI cJ cC : ClassId) (sz : Nat) (o o_page o_readRows o_rows o_turns o_amounts o_drank o_takes o_leans o_would o_keptAmounts o_keptDrank o_keptTurns : Nat) (vo_pageMany : Int32) (vo_readMany : Int32) (vo_state : Int32) (vo_readMost : Int32) (vo_glasses : Int32) (vo_towersRead : Int32) (vo_poured : Int32) (vo_spilt : Int64) (vo_done : Int32) (vo_seedNow : Int32) (vo_keptTower : Int32) (vo_keptPoured : Int32) (vo_keptSpilt : Int64) (vo_hash : Int64) (vo_amounts : Nat → Int64) (vo_drank : Nat → Int64) (r : Int32) (qo_poured : Int32) (qo_spilt : Int64) (qo_amounts : Nat → Int64) (qo_drank : Nat → Int64) (hT : m_X6_clear vo_poured vo_amounts vo_drank = (r, qo_poured, qo_spilt, qo_amounts, qo_drank)) : Met l yX6_clear wsX6_clear ({ frames := 1, cells := 0, slots := 0, locals := 21 }) (zPc [.ref o] (dC, dI) (zTy cI cJ cC) [(o, .inr (6, [.ref o_page, .int vo_pageMany, .int vo_readMany, .int vo_state, .int vo_readMost, .ref o_readRows, .int vo_glasses, .int vo_towersRead, .int vo_poured, .ref o_rows, .ref o_turns, .ref o_amounts, .ref o_drank, .long vo_spilt, .ref o_takes, .ref o_leans, .ref o_would, .int vo_done, .int vo_seedNow, .int vo_keptTower, .int vo_keptPoured, .long vo_keptSpilt, .ref o_keptAmounts, .ref o_keptDrank, .ref o_keptTurns, .long vo_hash])), (o_amounts, .inl (cJ, 9, .inr (.inl vo_amounts))), (o_drank, .inl (cJ, 9, .inr (.inl vo_drank)))] sz) (zQi r (True) (dC, dI) (zTy cI cJ cC) [(o, .inr (6, [.ref o_page, .int vo_pageMany, .int vo_readMany, .int vo_state, .int vo_readMost, .ref o_readRows, .int vo_glasses, .int vo_towersRead, .int qo_poured, .ref o_rows, .ref o_turns, .ref o_amounts, .ref o_drank, .long qo_spilt, .ref o_takes, .ref o_leans, .ref o_would, .int vo_done, .int vo_seedNow, .int vo_keptTower, .int vo_keptPoured, .long vo_keptSpilt, .ref o_keptAmounts, .ref o_keptDrank, .ref o_keptTurns, .long vo_hash])), (o_amounts, .inl (cJ, 9, .inr (.inl qo_amounts))), (o_drank, .inl (cJ, 9, .inr (.inl qo_drank)))] (va_A [(o, .inr (6, [.ref o_page, .int vo_pageMany, .int vo_readMany, .int vo_state, .int vo_readMost, .ref o_readRows, .int vo_glasses, .int vo_towersRead, .int vo_poured, .ref o_rows, .ref o_turns, .ref o_amounts, .ref o_drank, .long vo_spilt, .ref o_takes, .ref o_leans, .ref o_would, .int vo_done, .int vo_seedNow, .int vo_keptTower, .int vo_keptPoured, .long vo_keptSpilt, .ref o_keptAmounts, .ref o_keptDrank, .ref o_keptTurns, .long vo_hash])), (o_amounts, .inl (cJ, 9, .inr (.inl vo_amounts))), (o_drank, .inl (cJ, 9, .inr (.inl vo_drank)))] sz)) 0 0 (va_A [(o, .inr (6, [.ref o_page, .int vo_pageMany, .int vo_readMany, .int vo_state, .int vo_readMost, .ref o_readRows, .int vo_glasses, .int vo_towersRead, .int vo_poured, .ref o_rows, .ref o_turns, .ref o_amounts, .ref o_drank, .long vo_spilt, .ref o_takes, .ref o_leans, .ref o_would, .int vo_done, .int vo_seedNow, .int vo_keptTower, .int vo_keptPoured, .long vo_keptSpilt, .ref o_keptAmounts, .ref o_keptDrank, .ref o_keptTurns, .long vo_hash])), (o_amounts, .inl (cJ, 9, .inr (.inl vo_amounts))), (o_drank, .inl (cJ, 9, .inr (.inl vo_drank)))] sz) := by
  refine Met.ofW (cc := cX6_clear) (maxL := 2) (ret := (some .int)) (by decide) rfl ?_
  intro p e s m args below meth c s₁ B hml hv
  obtain ⟨rfl, hsz, hP, hK, hD0⟩ := hv
  have hx := B.exec
  have hb := B.bytes
  have hr := B.returns
  have hts := atoms_spec (ws := wsX6_clear) B.pre
  have hown : s.vm.findClass RX6 = some m.cls := findClass_of_methodNamed B.named
  have hlocks := B.notSynchronized
  subst hsz
  have hD := hD0.self (sz := s.heap.size)
  generalize hAe : va_A [(o, .inr (6, [.ref o_page, .int vo_pageMany, .int vo_readMany, .int vo_state, .int vo_readMost, .ref o_readRows, .int vo_glasses, .int vo_towersRead, .int vo_poured, .ref o_rows, .ref o_turns, .ref o_amounts, .ref o_drank, .long vo_spilt, .ref o_takes, .ref o_leans, .ref o_would, .int vo_done, .int vo_seedNow, .int vo_keptTower, .int vo_keptPoured, .long vo_keptSpilt, .ref o_keptAmounts, .ref o_keptDrank, .ref o_keptTurns, .long vo_hash])), (o_amounts, .inl (cJ, 9, .inr (.inl vo_amounts))), (o_drank, .inl (cJ, 9, .inr (.inl vo_drank)))] s.heap.size = A at hD ⊢
  have hA : ∀ q : Nat, s.heap.size ≤ q → A q := fun q h => by rw [← hAe]; exact Or.inr h
  have hS : va_S A s.heap s.heap [] := va_S.rf
  have hP : va_P (dC, dI) vwCl [(o, .inr (6, [.ref o_page, .int vo_pageMany, .int vo_readMany, .int vo_state, .int vo_readMost, .ref o_readRows, .int vo_glasses, .int vo_towersRead, .int vo_poured, .ref o_rows, .ref o_turns, .ref o_amounts, .ref o_drank, .long vo_spilt, .ref o_takes, .ref o_leans, .ref o_would, .int vo_done, .int vo_seedNow, .int vo_keptTower, .int vo_keptPoured, .long vo_keptSpilt, .ref o_keptAmounts, .ref o_keptDrank, .ref o_keptTurns, .long vo_hash])), (o_amounts, .inl (cJ, 9, .inr (.inl vo_amounts))), (o_drank, .inl (cJ, 9, .inr (.inl vo_drank)))] s.heap := hP
  have hK : va_K (dC, dI) vwCl (zTy cI cJ cC) s := hK
  have hl := lv_entry ([.ref o]) (n := 2) (Nat.le_of_ble_eq_true rfl)
  rw [lg_entry_eq]
  generalize (lg_sl ([.ref o]) ++ List.replicate (2 - (lg_sl ([.ref o])).length) Slot.unset).toArray = ls at hl ⊢
  have hl : lv_has ls 2 [(0, .ref o)] := hl
  refine zz_start hP hS (fun Q hQ H locs hP hS => ?_)
  have hwX6 : ∀ w ∈ u_ws RX6 TX6 26, w ∈ wsX6_clear := by decide +kernel
  have hf_110 := (hts (.fieldLink RX6 110 "PouredTopmostModel" "poured" "I") (by decide +kernel))
  refine lv_aload_n hx hb dX6_clear_0 rfl (lv_at hl 0 rfl) ?_
  refine va_get (D := (dC, dI)) (ci := 6) (v := .int vo_poured) (C := RX6) (T := TX6) (N := 26) hx hb hts hwX6 hown hK hP 0 rfl rfl 8 (by decide) hf_110 (fun _ h9 => h9) rfl dX6_clear_1 ?_
  refine lv_istore_n (lv' := [(1, .int vo_poured), (0, .ref o)]) hx hb dX6_clear_4 rfl hl (by decide) rfl (fun ls hl => ?_)
  refine lv_aload_n hx hb dX6_clear_5 rfl (lv_at hl 1 rfl) ?_
  obtain ⟨u1, u2, u3, u4, ev_1⟩ : ∃ x0 x1 x2 x3, (m_X6_empty vo_amounts vo_drank) = (x0, x1, x2, x3) := ⟨_, _, _, _, rfl⟩
  replace hT := cut4_n ev_1 hT
  refine zz_cv [0, 1, 2] [] (wr := []) (w1 := [(o, .inr (6, [.ref o_page, .int vo_pageMany, .int vo_readMany, .int vo_state, .int vo_readMost, .ref o_readRows, .int vo_glasses, .int vo_towersRead, .int u1, .ref o_rows, .ref o_turns, .ref o_amounts, .ref o_drank, .long u2, .ref o_takes, .ref o_leans, .ref o_would, .int vo_done, .int vo_seedNow, .int vo_keptTower, .int vo_keptPoured, .long vo_keptSpilt, .ref o_keptAmounts, .ref o_keptDrank, .ref o_keptTurns, .long vo_hash])), (o_amounts, .inl (cJ, 9, .inr (.inl u3))), (o_drank, .inl (cJ, 9, .inr (.inl u4)))]) (va_runV (As := []) (rest := []) ⟨hx, hb, hml, hown, hts⟩ (k_X6_empty l dC dI cI cJ cC H.size o o_page o_readRows o_rows o_turns o_amounts o_drank o_takes o_leans o_would o_keptAmounts o_keptDrank o_keptTurns vo_pageMany vo_readMany vo_state vo_readMost vo_glasses vo_towersRead vo_poured vo_spilt vo_done vo_seedNow vo_keptTower vo_keptPoured vo_keptSpilt vo_hash vo_amounts vo_drank u1 u2 u3 u4 ev_1) (cwV 0 hts gX6_clear_X6_empty rfl rfl rfl (by decide +kernel) ⟨Nat.le_of_ble_eq_true rfl, Nat.le_of_ble_eq_true rfl⟩) (zz_preV [0, 1, 2] hK hP hD rfl rfl (va_recv hK hP (ci := 6) (q0 := 0) rfl rfl)) rfl rfl hl.1 rfl (lv_room (Nat.le_of_ble_eq_true rfl)) dX6_clear_6 ⟨Nat.zero_le _, Nat.zero_le _⟩) hP hD hS hA rfl rfl rfl (by decide) (fun ok_2 H locs hP hD hS => ?_)
  have hP : va_P (dC, dI) vwCl [(o, .inr (6, [.ref o_page, .int vo_pageMany, .int vo_readMany, .int vo_state, .int vo_readMost, .ref o_readRows, .int vo_glasses, .int vo_towersRead, .int u1, .ref o_rows, .ref o_turns, .ref o_amounts, .ref o_drank, .long u2, .ref o_takes, .ref o_leans, .ref o_would, .int vo_done, .int vo_seedNow, .int vo_keptTower, .int vo_keptPoured, .long vo_keptSpilt, .ref o_keptAmounts, .ref o_keptDrank, .ref o_keptTurns, .long vo_hash])), (o_amounts, .inl (cJ, 9, .inr (.inl u3))), (o_drank, .inl (cJ, 9, .inr (.inl u4)))] H := hP
  have hD : va_D A [(o, .inr (6, [.ref o_page, .int vo_pageMany, .int vo_readMany, .int vo_state, .int vo_readMost, .ref o_readRows, .int vo_glasses, .int vo_towersRead, .int u1, .ref o_rows, .ref o_turns, .ref o_amounts, .ref o_drank, .long u2, .ref o_takes, .ref o_leans, .ref o_would, .int vo_done, .int vo_seedNow, .int vo_keptTower, .int vo_keptPoured, .long vo_keptSpilt, .ref o_keptAmounts, .ref o_keptDrank, .ref o_keptTurns, .long vo_hash])), (o_amounts, .inl (cJ, 9, .inr (.inl u3))), (o_drank, .inl (cJ, 9, .inr (.inl u4)))] := hD
  refine lv_iload_n hx hb dX6_clear_9 rfl (lv_at hl 0 rfl) ?_
  have hP9 := hP
  have hD9 := hD
  have hS9 := hS
  have hT : (vo_poured, u1, u2, u3, u4) = (r, qo_poured, qo_spilt, qo_amounts, qo_drank) := hT
  cases hT
  subst hQ
  exact zz_iret hx hb hr [0, 1, 2] hK hP9 hD9 hS9 rfl rfl trivial hlocks dX6_clear_10

def rs_X6_beginWould_2 (u1 : Nat → Int64) (u2 : Nat → Int32) (x5 : Int32) (x6 : Nat → Int64) : (Nat → Int64) × (Nat → Int32) × (Nat → Int64) :=
 (u1, u2, x6)
def lp_X6_beginWould_2 (ct2 : Int32 → (Nat → Int64) → ((Nat → Int64) × (Nat → Int32) × (Nat → Int64))) (p1 : Int32) (vo_amounts : Nat → Int64) : Nat → Int32 → (Nat → Int64) → ((Nat → Int64) × (Nat → Int32) × (Nat → Int64))
  | 0, _, _ => default
  | k + 1, b3, b4 =>
  if (9 : Int32) ≤ b3 then
   (ct2 b3 b4)
  else
   if p1 = (0 : Int32) then
    cut (vp_updL b4 b3.toNatClampNeg (0 : Int64)) (fun (a7 : Nat → Int64) =>
    cut (b3 + (1 : Int32)) (fun (v8 : Int32) =>
    (lp_X6_beginWould_2 ct2 p1 vo_amounts k v8 a7)))
   else
    cut (vp_updL b4 b3.toNatClampNeg (vo_amounts b3.toNatClampNeg)) (fun (a9 : Nat → Int64) =>
    cut (b3 + (1 : Int32)) (fun (v10 : Int32) =>
    (lp_X6_beginWould_2 ct2 p1 vo_amounts k v10 a9)))
def m_X6_beginWould (vo_glasses : Int32) (vo_rows : Nat → Int32) (vo_amounts : Nat → Int64) (vo_takes : Nat → Int64) (vo_leans : Nat → Int32) (vo_would : Nat → Int64) (p1 : Int32) : (Nat → Int64) × (Nat → Int32) × (Nat → Int64) :=
 cut2 (m_X6_layTakes vo_glasses vo_rows vo_takes vo_leans) (fun (u1 : Nat → Int64) (u2 : Nat → Int32) =>
 (lp_X6_beginWould_2 (rs_X6_beginWould_2 u1 u2) p1 vo_amounts 11 (0 : Int32) vo_would))
set_option maxHeartbeats 4000000 in
set_option maxRecDepth 100000 in
theorem k_X6_beginWould (l : Launch) (dC : Nat → ClassId) (dI : Nat → Nat → Nat) (cI cJ cC : ClassId) (sz : Nat) (o o_page o_readRows o_rows o_turns o_amounts o_drank o_takes o_leans o_would o_keptAmounts o_keptDrank o_keptTurns : Nat) (vo_pageMany : Int32) (vo_readMany : Int32) (vo_state : Int32) (vo_readMost : Int32) (vo_glasses : Int32) (vo_towersRead : Int32) (vo_poured : Int32) (vo_spilt : Int64) (vo_done : Int32) (vo_seedNow : Int32) (vo_keptTower : Int32) (vo_keptPoured : Int32) (vo_keptSpilt : Int64) (vo_hash : Int64) (vo_rows : Nat → Int32) (vo_amounts : Nat → Int64) (vo_takes : Nat → Int64) (vo_leans : Nat → Int32) (vo_would : Nat → Int64) (p1 : Int32) (qo_takes : Nat → Int64) (qo_leans : Nat → Int32) (qo_would : Nat → Int64) (hT : m_X6_beginWould vo_glasses vo_rows vo_amounts vo_takes vo_leans vo_would p1 = (qo_takes, qo_leans, qo_would)) (hg0 : 0 ≤ vo_glasses.toInt) (hg9 : vo_glasses.toInt ≤ 9) (hln : zLn vo_leans) : Met l yX6_beginWould wsX6_beginWould ({ frames := 2, cells := 0, slots := 0, locals := 44 }) (zPc [.ref o, .int p1] (dC, dI) (zTy cI cJ cC) [(o, .inr (6, [.ref o_page, .int vo_pageMany, .int vo_readMany, .int vo_state, .int vo_readMost, .ref o_readRows, .int vo_glasses, .int vo_towersRead, .int vo_poured, .ref o_rows, .ref o_turns, .ref o_amounts, .ref o_drank, .long vo_spilt, .ref o_takes, .ref o_leans, .ref o_would, .int vo_done, .int vo_seedNow, .int vo_keptTower, .int vo_keptPoured, .long vo_keptSpilt, .ref o_keptAmounts, .ref o_keptDrank, .ref o_keptTurns, .long vo_hash])), (o_rows, .inl (cI, 54, .inl vo_rows)), (o_amounts, .inl (cJ, 9, .inr (.inl vo_amounts))), (o_takes, .inl (cJ, 9, .inr (.inl vo_takes))), (o_leans, .inl (cI, 9, .inl vo_leans)), (o_would, .inl (cJ, 9, .inr (.inl vo_would)))] sz) (zQv ((zLn qo_leans)) (dC, dI) (zTy cI cJ cC) [(o, .inr (6, [.ref o_page, .int vo_pageMany, .int vo_readMany, .int vo_state, .int vo_readMost, .ref o_readRows, .int vo_glasses, .int vo_towersRead, .int vo_poured, .ref o_rows, .ref o_turns, .ref o_amounts, .ref o_drank, .long vo_spilt, .ref o_takes, .ref o_leans, .ref o_would, .int vo_done, .int vo_seedNow, .int vo_keptTower, .int vo_keptPoured, .long vo_keptSpilt, .ref o_keptAmounts, .ref o_keptDrank, .ref o_keptTurns, .long vo_hash])), (o_rows, .inl (cI, 54, .inl vo_rows)), (o_amounts, .inl (cJ, 9, .inr (.inl vo_amounts))), (o_takes, .inl (cJ, 9, .inr (.inl qo_takes))), (o_leans, .inl (cI, 9, .inl qo_leans)), (o_would, .inl (cJ, 9, .inr (.inl qo_would)))] (va_A [(o, .inr (6, [.ref o_page, .int vo_pageMany, .int vo_readMany, .int vo_state, .int vo_readMost, .ref o_readRows, .int vo_glasses, .int vo_towersRead, .int vo_poured, .ref o_rows, .ref o_turns, .ref o_amounts, .ref o_drank, .long vo_spilt, .ref o_takes, .ref o_leans, .ref o_would, .int vo_done, .int vo_seedNow, .int vo_keptTower, .int vo_keptPoured, .long vo_keptSpilt, .ref o_keptAmounts, .ref o_keptDrank, .ref o_keptTurns, .long vo_hash])), (o_rows, .inl (cI, 54, .inl vo_rows)), (o_amounts, .inl (cJ, 9, .inr (.inl vo_amounts))), (o_takes, .inl (cJ, 9, .inr (.inl vo_takes))), (o_leans, .inl (cI, 9, .inl vo_leans)), (o_would, .inl (cJ, 9, .inr (.inl vo_would)))] sz)) 0 0 (va_A [(o, .inr (6, [.ref o_page, .int vo_pageMany, .int vo_readMany, .int vo_state, .int vo_readMost, .ref o_readRows, .int vo_glasses, .int vo_towersRead, .int vo_poured, .ref o_rows, .ref o_turns, .ref o_amounts, .ref o_drank, .long vo_spilt, .ref o_takes, .ref o_leans, .ref o_would, .int vo_done, .int vo_seedNow, .int vo_keptTower, .int vo_keptPoured, .long vo_keptSpilt, .ref o_keptAmounts, .ref o_keptDrank, .ref o_keptTurns, .long vo_hash])), (o_rows, .inl (cI, 54, .inl vo_rows)), (o_amounts, .inl (cJ, 9, .inr (.inl vo_amounts))), (o_takes, .inl (cJ, 9, .inr (.inl vo_takes))), (o_leans, .inl (cI, 9, .inl vo_leans)), (o_would, .inl (cJ, 9, .inr (.inl vo_would)))] sz) := by
  refine Met.ofW (cc := cX6_beginWould) (maxL := 3) (ret := none) (by decide) rfl ?_
  intro p e s m args below meth c s₁ B hml hv
  obtain ⟨rfl, hsz, hP, hK, hD0⟩ := hv
  have hx := B.exec
  have hb := B.bytes
  have hr := B.returns
  have hts := atoms_spec (ws := wsX6_beginWould) B.pre
  have hown : s.vm.findClass RX6 = some m.cls := findClass_of_methodNamed B.named
  have hlocks := B.notSynchronized
  subst hsz
  have hD := hD0.self (sz := s.heap.size)
  generalize hAe : va_A [(o, .inr (6, [.ref o_page, .int vo_pageMany, .int vo_readMany, .int vo_state, .int vo_readMost, .ref o_readRows, .int vo_glasses, .int vo_towersRead, .int vo_poured, .ref o_rows, .ref o_turns, .ref o_amounts, .ref o_drank, .long vo_spilt, .ref o_takes, .ref o_leans, .ref o_would, .int vo_done, .int vo_seedNow, .int vo_keptTower, .int vo_keptPoured, .long vo_keptSpilt, .ref o_keptAmounts, .ref o_keptDrank, .ref o_keptTurns, .long vo_hash])), (o_rows, .inl (cI, 54, .inl vo_rows)), (o_amounts, .inl (cJ, 9, .inr (.inl vo_amounts))), (o_takes, .inl (cJ, 9, .inr (.inl vo_takes))), (o_leans, .inl (cI, 9, .inl vo_leans)), (o_would, .inl (cJ, 9, .inr (.inl vo_would)))] s.heap.size = A at hD ⊢
  have hA : ∀ q : Nat, s.heap.size ≤ q → A q := fun q h => by rw [← hAe]; exact Or.inr h
  have hS : va_S A s.heap s.heap [] := va_S.rf
  have hP : va_P (dC, dI) vwCl [(o, .inr (6, [.ref o_page, .int vo_pageMany, .int vo_readMany, .int vo_state, .int vo_readMost, .ref o_readRows, .int vo_glasses, .int vo_towersRead, .int vo_poured, .ref o_rows, .ref o_turns, .ref o_amounts, .ref o_drank, .long vo_spilt, .ref o_takes, .ref o_leans, .ref o_would, .int vo_done, .int vo_seedNow, .int vo_keptTower, .int vo_keptPoured, .long vo_keptSpilt, .ref o_keptAmounts, .ref o_keptDrank, .ref o_keptTurns, .long vo_hash])), (o_rows, .inl (cI, 54, .inl vo_rows)), (o_amounts, .inl (cJ, 9, .inr (.inl vo_amounts))), (o_takes, .inl (cJ, 9, .inr (.inl vo_takes))), (o_leans, .inl (cI, 9, .inl vo_leans)), (o_would, .inl (cJ, 9, .inr (.inl vo_would)))] s.heap := hP
  have hK : va_K (dC, dI) vwCl (zTy cI cJ cC) s := hK
  have hl := lv_entry ([.ref o, .int p1]) (n := 3) (Nat.le_of_ble_eq_true rfl)
  rw [lg_entry_eq]
  generalize (lg_sl ([.ref o, .int p1]) ++ List.replicate (3 - (lg_sl ([.ref o, .int p1])).length) Slot.unset).toArray = ls at hl ⊢
  have hl : lv_has ls 3 [(0, .ref o), (1, .int p1)] := hl
  refine zz_start hP hS (fun Q hQ H locs hP hS => ?_)
  have hwX6 : ∀ w ∈ u_ws RX6 TX6 26, w ∈ wsX6_beginWould := by decide +kernel
  have hf_22 := (hts (.fieldLink RX6 22 "PouredTopmostModel" "amounts" "[J") (by decide +kernel))
  have hf_35 := (hts (.fieldLink RX6 35 "PouredTopmostModel" "would" "[J") (by decide +kernel))
  refine lv_aload_n hx hb dX6_beginWould_0 rfl (lv_at hl 0 rfl) ?_
  obtain ⟨u1, u2, ev_1⟩ : ∃ x0 x1, (m_X6_layTakes vo_glasses vo_rows vo_takes vo_leans) = (x0, x1) := ⟨_, _, rfl⟩
  replace hT := cut2_n ev_1 hT
  refine zz_cv [0, 1, 3, 4] [2, 5] (wr := [(o_amounts, .inl (cJ, 9, .inr (.inl vo_amounts))), (o_would, .inl (cJ, 9, .inr (.inl vo_would)))]) (w1 := [(o, .inr (6, [.ref o_page, .int vo_pageMany, .int vo_readMany, .int vo_state, .int vo_readMost, .ref o_readRows, .int vo_glasses, .int vo_towersRead, .int vo_poured, .ref o_rows, .ref o_turns, .ref o_amounts, .ref o_drank, .long vo_spilt, .ref o_takes, .ref o_leans, .ref o_would, .int vo_done, .int vo_seedNow, .int vo_keptTower, .int vo_keptPoured, .long vo_keptSpilt, .ref o_keptAmounts, .ref o_keptDrank, .ref o_keptTurns, .long vo_hash])), (o_rows, .inl (cI, 54, .inl vo_rows)), (o_takes, .inl (cJ, 9, .inr (.inl u1))), (o_leans, .inl (cI, 9, .inl u2))]) (va_runV (As := []) (rest := []) ⟨hx, hb, hml, hown, hts⟩ (k_X6_layTakes l dC dI cI cJ cC H.size o o_page o_readRows o_rows o_turns o_amounts o_drank o_takes o_leans o_would o_keptAmounts o_keptDrank o_keptTurns vo_pageMany vo_readMany vo_state vo_readMost vo_glasses vo_towersRead vo_poured vo_spilt vo_done vo_seedNow vo_keptTower vo_keptPoured vo_keptSpilt vo_hash vo_rows vo_takes vo_leans u1 u2 ev_1 hg0 hg9 hln) (cwV 0 hts gX6_beginWould_X6_layTakes rfl rfl rfl (by decide +kernel) ⟨Nat.le_of_ble_eq_true rfl, Nat.le_of_ble_eq_true rfl⟩) (zz_preV [0, 1, 3, 4] hK hP hD rfl rfl (va_recv hK hP (ci := 6) (q0 := 0) rfl rfl)) rfl rfl hl.1 rfl (lv_room (Nat.le_of_ble_eq_true rfl)) dX6_beginWould_1 ⟨Nat.zero_le _, Nat.zero_le _⟩) hP hD hS hA rfl rfl rfl (by decide) (fun ok_2 H locs hP hD hS => ?_)
  have hP : va_P (dC, dI) vwCl [(o_amounts, .inl (cJ, 9, .inr (.inl vo_amounts))), (o_would, .inl (cJ, 9, .inr (.inl vo_would))), (o, .inr (6, [.ref o_page, .int vo_pageMany, .int vo_readMany, .int vo_state, .int vo_readMost, .ref o_readRows, .int vo_glasses, .int vo_towersRead, .int vo_poured, .ref o_rows, .ref o_turns, .ref o_amounts, .ref o_drank, .long vo_spilt, .ref o_takes, .ref o_leans, .ref o_would, .int vo_done, .int vo_seedNow, .int vo_keptTower, .int vo_keptPoured, .long vo_keptSpilt, .ref o_keptAmounts, .ref o_keptDrank, .ref o_keptTurns, .long vo_hash])), (o_rows, .inl (cI, 54, .inl vo_rows)), (o_takes, .inl (cJ, 9, .inr (.inl u1))), (o_leans, .inl (cI, 9, .inl u2))] H := hP
  have hD : va_D A [(o_amounts, .inl (cJ, 9, .inr (.inl vo_amounts))), (o_would, .inl (cJ, 9, .inr (.inl vo_would))), (o, .inr (6, [.ref o_page, .int vo_pageMany, .int vo_readMany, .int vo_state, .int vo_readMost, .ref o_readRows, .int vo_glasses, .int vo_towersRead, .int vo_poured, .ref o_rows, .ref o_turns, .ref o_amounts, .ref o_drank, .long vo_spilt, .ref o_takes, .ref o_leans, .ref o_would, .int vo_done, .int vo_seedNow, .int vo_keptTower, .int vo_keptPoured, .long vo_keptSpilt, .ref o_keptAmounts, .ref o_keptDrank, .ref o_keptTurns, .long vo_hash])), (o_rows, .inl (cI, 54, .inl vo_rows)), (o_takes, .inl (cJ, 9, .inr (.inl u1))), (o_leans, .inl (cI, 9, .inl u2))] := hD
  refine lv_iconst (v := (0 : Int32)) hx hb dX6_beginWould_4 (by decide) ?_
  refine lv_istore_n (lv' := [(2, .int (0 : Int32)), (0, .ref o), (1, .int p1)]) hx hb dX6_beginWould_5 rfl hl (by decide) rfl (fun ls hl => ?_)
  have hz_8 : ((0 : Int32)).toInt = 0 := by decide
  refine zz_loop (α := Int32 × (Nat → Int64)) 38 (fun k a H locs ls => (0 ≤ a.1.toInt) ∧ (a.1.toInt ≤ 9) ∧ (9 - a.1.toInt < ((k : Nat) : Int)) ∧ lp_X6_beginWould_2 (rs_X6_beginWould_2 u1 u2) p1 vo_amounts k a.1 a.2 = (qo_takes, qo_leans, qo_would) ∧ va_P (dC, dI) vwCl [(o_amounts, .inl (cJ, 9, .inr (.inl vo_amounts))), (o_would, .inl (cJ, 9, .inr (.inl a.2))), (o, .inr (6, [.ref o_page, .int vo_pageMany, .int vo_readMany, .int vo_state, .int vo_readMost, .ref o_readRows, .int vo_glasses, .int vo_towersRead, .int vo_poured, .ref o_rows, .ref o_turns, .ref o_amounts, .ref o_drank, .long vo_spilt, .ref o_takes, .ref o_leans, .ref o_would, .int vo_done, .int vo_seedNow, .int vo_keptTower, .int vo_keptPoured, .long vo_keptSpilt, .ref o_keptAmounts, .ref o_keptDrank, .ref o_keptTurns, .long vo_hash])), (o_rows, .inl (cI, 54, .inl vo_rows)), (o_takes, .inl (cJ, 9, .inr (.inl u1))), (o_leans, .inl (cI, 9, .inl u2))] H ∧ va_D A [(o_amounts, .inl (cJ, 9, .inr (.inl vo_amounts))), (o_would, .inl (cJ, 9, .inr (.inl a.2))), (o, .inr (6, [.ref o_page, .int vo_pageMany, .int vo_readMany, .int vo_state, .int vo_readMost, .ref o_readRows, .int vo_glasses, .int vo_towersRead, .int vo_poured, .ref o_rows, .ref o_turns, .ref o_amounts, .ref o_drank, .long vo_spilt, .ref o_takes, .ref o_leans, .ref o_would, .int vo_done, .int vo_seedNow, .int vo_keptTower, .int vo_keptPoured, .long vo_keptSpilt, .ref o_keptAmounts, .ref o_keptDrank, .ref o_keptTurns, .long vo_hash])), (o_rows, .inl (cI, 54, .inl vo_rows)), (o_takes, .inl (cJ, 9, .inr (.inl u1))), (o_leans, .inl (cI, 9, .inl u2))] ∧ va_S A s.heap H locs ∧ lv_has ls 3 [(2, .int a.1), (0, .ref o), (1, .int p1)]) (fun a H locs ls => (0 ≤ a.1.toInt) ∧ (a.1.toInt ≤ 9) ∧ (rs_X6_beginWould_2 u1 u2) a.1 a.2 = (qo_takes, qo_leans, qo_would) ∧ va_P (dC, dI) vwCl [(o_amounts, .inl (cJ, 9, .inr (.inl vo_amounts))), (o_would, .inl (cJ, 9, .inr (.inl a.2))), (o, .inr (6, [.ref o_page, .int vo_pageMany, .int vo_readMany, .int vo_state, .int vo_readMost, .ref o_readRows, .int vo_glasses, .int vo_towersRead, .int vo_poured, .ref o_rows, .ref o_turns, .ref o_amounts, .ref o_drank, .long vo_spilt, .ref o_takes, .ref o_leans, .ref o_would, .int vo_done, .int vo_seedNow, .int vo_keptTower, .int vo_keptPoured, .long vo_keptSpilt, .ref o_keptAmounts, .ref o_keptDrank, .ref o_keptTurns, .long vo_hash])), (o_rows, .inl (cI, 54, .inl vo_rows)), (o_takes, .inl (cJ, 9, .inr (.inl u1))), (o_leans, .inl (cI, 9, .inl u2))] H ∧ va_D A [(o_amounts, .inl (cJ, 9, .inr (.inl vo_amounts))), (o_would, .inl (cJ, 9, .inr (.inl a.2))), (o, .inr (6, [.ref o_page, .int vo_pageMany, .int vo_readMany, .int vo_state, .int vo_readMost, .ref o_readRows, .int vo_glasses, .int vo_towersRead, .int vo_poured, .ref o_rows, .ref o_turns, .ref o_amounts, .ref o_drank, .long vo_spilt, .ref o_takes, .ref o_leans, .ref o_would, .int vo_done, .int vo_seedNow, .int vo_keptTower, .int vo_keptPoured, .long vo_keptSpilt, .ref o_keptAmounts, .ref o_keptDrank, .ref o_keptTurns, .long vo_hash])), (o_rows, .inl (cI, 54, .inl vo_rows)), (o_takes, .inl (cJ, 9, .inr (.inl u1))), (o_leans, .inl (cI, 9, .inl u2))] ∧ va_S A s.heap H locs ∧ lv_has ls 3 []) ?_ ?_ ?_ 11 ((0 : Int32), vo_would) ⟨(by omega : 0 ≤ (0 : Int32).toInt), (by omega : (0 : Int32).toInt ≤ 9), (by omega : 9 - (0 : Int32).toInt < ((11 : Nat) : Int)), hT, hP.sub [0, 1, 2, 3, 4, 5] rfl, hD.sub [0, 1, 2, 3, 4, 5] rfl rfl, hS, lv_sub hl [0, 1, 2] rfl⟩
  · rintro ⟨x5, x6⟩ H locs ls ⟨i1, j1, hT, hP, hD, hS, hl⟩
    have hP : va_P (dC, dI) vwCl [(o_amounts, .inl (cJ, 9, .inr (.inl vo_amounts))), (o_would, .inl (cJ, 9, .inr (.inl x6))), (o, .inr (6, [.ref o_page, .int vo_pageMany, .int vo_readMany, .int vo_state, .int vo_readMost, .ref o_readRows, .int vo_glasses, .int vo_towersRead, .int vo_poured, .ref o_rows, .ref o_turns, .ref o_amounts, .ref o_drank, .long vo_spilt, .ref o_takes, .ref o_leans, .ref o_would, .int vo_done, .int vo_seedNow, .int vo_keptTower, .int vo_keptPoured, .long vo_keptSpilt, .ref o_keptAmounts, .ref o_keptDrank, .ref o_keptTurns, .long vo_hash])), (o_rows, .inl (cI, 54, .inl vo_rows)), (o_takes, .inl (cJ, 9, .inr (.inl u1))), (o_leans, .inl (cI, 9, .inl u2))] H := hP
    have hD : va_D A [(o_amounts, .inl (cJ, 9, .inr (.inl vo_amounts))), (o_would, .inl (cJ, 9, .inr (.inl x6))), (o, .inr (6, [.ref o_page, .int vo_pageMany, .int vo_readMany, .int vo_state, .int vo_readMost, .ref o_readRows, .int vo_glasses, .int vo_towersRead, .int vo_poured, .ref o_rows, .ref o_turns, .ref o_amounts, .ref o_drank, .long vo_spilt, .ref o_takes, .ref o_leans, .ref o_would, .int vo_done, .int vo_seedNow, .int vo_keptTower, .int vo_keptPoured, .long vo_keptSpilt, .ref o_keptAmounts, .ref o_keptDrank, .ref o_keptTurns, .long vo_hash])), (o_rows, .inl (cI, 54, .inl vo_rows)), (o_takes, .inl (cJ, 9, .inr (.inl u1))), (o_leans, .inl (cI, 9, .inl u2))] := hD
    have hl : lv_has ls 3 [] := hl
    have hT : (rs_X6_beginWould_2 u1 u2) x5 x6 = (qo_takes, qo_leans, qo_would) := hT
    have i1 : 0 ≤ x5.toInt := i1
    have j1 : x5.toInt ≤ 9 := j1
    have hP9 := hP
    have hD9 := hD
    have hS9 := hS
    have hT : (u1, u2, x6) = (qo_takes, qo_leans, qo_would) := hT
    cases hT
    subst hQ
    exact zz_vret hx hb hr [2, 3, 0, 4, 5, 1] hK hP9 hD9 hS9 rfl rfl (by assumption) hlocks dX6_beginWould_38
  · rintro ⟨b3, b4⟩ H locs ls ⟨i1, j1, hm, -⟩
    try dsimp only at *
    omega
  · intro k2 hex2 ih2
    rintro ⟨b3, b4⟩ H locs ls ⟨i1, j1, hm2, hT, hP, hD, hS, hl⟩
    have hP : va_P (dC, dI) vwCl [(o_amounts, .inl (cJ, 9, .inr (.inl vo_amounts))), (o_would, .inl (cJ, 9, .inr (.inl b4))), (o, .inr (6, [.ref o_page, .int vo_pageMany, .int vo_readMany, .int vo_state, .int vo_readMost, .ref o_readRows, .int vo_glasses, .int vo_towersRead, .int vo_poured, .ref o_rows, .ref o_turns, .ref o_amounts, .ref o_drank, .long vo_spilt, .ref o_takes, .ref o_leans, .ref o_would, .int vo_done, .int vo_seedNow, .int vo_keptTower, .int vo_keptPoured, .long vo_keptSpilt, .ref o_keptAmounts, .ref o_keptDrank, .ref o_keptTurns, .long vo_hash])), (o_rows, .inl (cI, 54, .inl vo_rows)), (o_takes, .inl (cJ, 9, .inr (.inl u1))), (o_leans, .inl (cI, 9, .inl u2))] H := hP
    have hD : va_D A [(o_amounts, .inl (cJ, 9, .inr (.inl vo_amounts))), (o_would, .inl (cJ, 9, .inr (.inl b4))), (o, .inr (6, [.ref o_page, .int vo_pageMany, .int vo_readMany, .int vo_state, .int vo_readMost, .ref o_readRows, .int vo_glasses, .int vo_towersRead, .int vo_poured, .ref o_rows, .ref o_turns, .ref o_amounts, .ref o_drank, .long vo_spilt, .ref o_takes, .ref o_leans, .ref o_would, .int vo_done, .int vo_seedNow, .int vo_keptTower, .int vo_keptPoured, .long vo_keptSpilt, .ref o_keptAmounts, .ref o_keptDrank, .ref o_keptTurns, .long vo_hash])), (o_rows, .inl (cI, 54, .inl vo_rows)), (o_takes, .inl (cJ, 9, .inr (.inl u1))), (o_leans, .inl (cI, 9, .inl u2))] := hD
    have hl : lv_has ls 3 [(2, .int b3), (0, .ref o), (1, .int p1)] := hl
    have hT : lp_X6_beginWould_2 (rs_X6_beginWould_2 u1 u2) p1 vo_amounts (k2 + 1) b3 b4 = (qo_takes, qo_leans, qo_would) := hT
    have i1 : 0 ≤ b3.toInt := i1
    have j1 : b3.toInt ≤ 9 := j1
    have hm2 : 9 - b3.toInt < (((k2 + 1) : Nat) : Int) := hm2
    try simp only [Int.natCast_add, Int.natCast_one, Nat.cast_add, Nat.cast_one] at hm2
    refine lv_iload_n hx hb dX6_beginWould_6 rfl (lv_at hl 0 rfl) ?_
    refine lv_bipush (v := (9 : Int32)) hx hb dX6_beginWould_7 (by decide) ?_
    refine lv_icmp_ge (tgt := 38) hx hb dX6_beginWould_9 (by decide) (fun c_3 => ?_) (fun c_3 => ?_)
    · replace hT := cutT c_3 hT
      have g_9 := zleT (by decide : ((9 : Int32)).toInt = 9) (rfl : (b3).toInt = _) c_3
      exact hex2 (b3, b4) _ _ _ ⟨(by omega : 0 ≤ b3.toInt), (by omega : b3.toInt ≤ 9), hT, hP.sub [0, 1, 2, 3, 4, 5] rfl, hD.sub [0, 1, 2, 3, 4, 5] rfl rfl, hS, lv_sub hl [] rfl⟩
    · replace hT := cutF c_3 hT
      have g_10 := zleF (by decide : ((9 : Int32)).toInt = 9) (rfl : (b3).toInt = _) c_3
      refine lv_aload_n hx hb dX6_beginWould_12 rfl (lv_at hl 1 rfl) ?_
      refine va_get (D := (dC, dI)) (ci := 6) (v := .ref o_would) (C := RX6) (T := TX6) (N := 26) hx hb hts hwX6 hown hK hP 2 rfl rfl 16 (by decide) hf_35 (fun _ h9 => h9) rfl dX6_beginWould_13 ?_
      refine lv_iload_n hx hb dX6_beginWould_16 rfl (lv_at hl 0 rfl) ?_
      refine lv_iload_n hx hb dX6_beginWould_17 rfl (lv_at hl 2 rfl) ?_
      refine lv_if_eq (tgt := 30) hx hb dX6_beginWould_18 (by decide) (fun c_4 => ?_) (fun c_4 => ?_)
      · replace hT := cutT c_4 hT
        have g_11 := zeqT (rfl : (p1).toInt = _) (by decide : ((0 : Int32)).toInt = 0) c_4
        refine lv_lconst (v := (0 : Int64)) hx hb dX6_beginWould_30 (by decide) ?_
        have h_5 : vp_in b3 9 := zin (by omega) (by omega)
        refine va_last hx hb hK hP hD hS 1 1 rfl rfl h_5 dX6_beginWould_31 (fun H locs hP hD hS => ?_)
        obtain ⟨a7, ea7⟩ : ∃ z, (vp_updL b4 b3.toNatClampNeg (0 : Int64)) = z := ⟨_, rfl⟩
        replace hT := cut_n ea7 hT
        have hP : va_P (dC, dI) vwCl [(o_amounts, .inl (cJ, 9, .inr (.inl vo_amounts))), (o_would, .inl (cJ, 9, .inr (.inl a7))), (o, .inr (6, [.ref o_page, .int vo_pageMany, .int vo_readMany, .int vo_state, .int vo_readMost, .ref o_readRows, .int vo_glasses, .int vo_towersRead, .int vo_poured, .ref o_rows, .ref o_turns, .ref o_amounts, .ref o_drank, .long vo_spilt, .ref o_takes, .ref o_leans, .ref o_would, .int vo_done, .int vo_seedNow, .int vo_keptTower, .int vo_keptPoured, .long vo_keptSpilt, .ref o_keptAmounts, .ref o_keptDrank, .ref o_keptTurns, .long vo_hash])), (o_rows, .inl (cI, 54, .inl vo_rows)), (o_takes, .inl (cJ, 9, .inr (.inl u1))), (o_leans, .inl (cI, 9, .inl u2))] H := by rw [← ea7]; exact hP
        have hD : va_D A [(o_amounts, .inl (cJ, 9, .inr (.inl vo_amounts))), (o_would, .inl (cJ, 9, .inr (.inl a7))), (o, .inr (6, [.ref o_page, .int vo_pageMany, .int vo_readMany, .int vo_state, .int vo_readMost, .ref o_readRows, .int vo_glasses, .int vo_towersRead, .int vo_poured, .ref o_rows, .ref o_turns, .ref o_amounts, .ref o_drank, .long vo_spilt, .ref o_takes, .ref o_leans, .ref o_would, .int vo_done, .int vo_seedNow, .int vo_keptTower, .int vo_keptPoured, .long vo_keptSpilt, .ref o_keptAmounts, .ref o_keptDrank, .ref o_keptTurns, .long vo_hash])), (o_rows, .inl (cI, 54, .inl vo_rows)), (o_takes, .inl (cJ, 9, .inr (.inl u1))), (o_leans, .inl (cI, 9, .inl u2))] := by rw [← ea7]; exact hD
        obtain ⟨v8, ev8⟩ : ∃ y : Int32, (b3 + (1 : Int32)) = y := ⟨_, rfl⟩
        replace hT := cut_n ev8 hT
        try have fv8 := zaddE (rfl : (b3).toInt = _) (by decide : ((1 : Int32)).toInt = 1) ev8 (by omega) (by omega)
        refine lv_iinc (v := v8) (lv' := [(2, .int v8), (0, .ref o), (1, .int p1)]) hx hb dX6_beginWould_32 hl (k := 0) rfl (by rw [← ev8]; rfl) (by decide) rfl (fun ls hl => ?_)
        refine lv_goto (tgt := 6) hx hb dX6_beginWould_35 (by decide) ?_
        exact ih2 (v8, a7) _ _ _ ⟨(by omega : 0 ≤ v8.toInt), (by omega : v8.toInt ≤ 9), (by omega : 9 - v8.toInt < ((k2 : Nat) : Int)), hT, hP.sub [0, 1, 2, 3, 4, 5] rfl, hD.sub [0, 1, 2, 3, 4, 5] rfl rfl, hS, lv_sub hl [0, 1, 2] rfl⟩
      · replace hT := cutF c_4 hT
        have g_12 := zeqF (rfl : (p1).toInt = _) (by decide : ((0 : Int32)).toInt = 0) c_4
        refine lv_aload_n hx hb dX6_beginWould_21 rfl (lv_at hl 1 rfl) ?_
        refine va_get (D := (dC, dI)) (ci := 6) (v := .ref o_amounts) (C := RX6) (T := TX6) (N := 26) hx hb hts hwX6 hown hK hP 2 rfl rfl 11 (by decide) hf_22 (fun _ h9 => h9) rfl dX6_beginWould_22 ?_
        refine lv_iload_n hx hb dX6_beginWould_25 rfl (lv_at hl 0 rfl) ?_
        have h_6 : vp_in b3 9 := zin (by omega) (by omega)
        refine va_lald hx hb hK hP 0 1 rfl rfl h_6 dX6_beginWould_26 ?_
        refine lv_goto (tgt := 31) hx hb dX6_beginWould_27 (by decide) ?_
        have h_7 : vp_in b3 9 := zin (by omega) (by omega)
        refine va_last hx hb hK hP hD hS 1 1 rfl rfl h_7 dX6_beginWould_31 (fun H locs hP hD hS => ?_)
        obtain ⟨a9, ea9⟩ : ∃ z, (vp_updL b4 b3.toNatClampNeg (vo_amounts b3.toNatClampNeg)) = z := ⟨_, rfl⟩
        replace hT := cut_n ea9 hT
        have hP : va_P (dC, dI) vwCl [(o_amounts, .inl (cJ, 9, .inr (.inl vo_amounts))), (o_would, .inl (cJ, 9, .inr (.inl a9))), (o, .inr (6, [.ref o_page, .int vo_pageMany, .int vo_readMany, .int vo_state, .int vo_readMost, .ref o_readRows, .int vo_glasses, .int vo_towersRead, .int vo_poured, .ref o_rows, .ref o_turns, .ref o_amounts, .ref o_drank, .long vo_spilt, .ref o_takes, .ref o_leans, .ref o_would, .int vo_done, .int vo_seedNow, .int vo_keptTower, .int vo_keptPoured, .long vo_keptSpilt, .ref o_keptAmounts, .ref o_keptDrank, .ref o_keptTurns, .long vo_hash])), (o_rows, .inl (cI, 54, .inl vo_rows)), (o_takes, .inl (cJ, 9, .inr (.inl u1))), (o_leans, .inl (cI, 9, .inl u2))] H := by rw [← ea9]; exact hP
        have hD : va_D A [(o_amounts, .inl (cJ, 9, .inr (.inl vo_amounts))), (o_would, .inl (cJ, 9, .inr (.inl a9))), (o, .inr (6, [.ref o_page, .int vo_pageMany, .int vo_readMany, .int vo_state, .int vo_readMost, .ref o_readRows, .int vo_glasses, .int vo_towersRead, .int vo_poured, .ref o_rows, .ref o_turns, .ref o_amounts, .ref o_drank, .long vo_spilt, .ref o_takes, .ref o_leans, .ref o_would, .int vo_done, .int vo_seedNow, .int vo_keptTower, .int vo_keptPoured, .long vo_keptSpilt, .ref o_keptAmounts, .ref o_keptDrank, .ref o_keptTurns, .long vo_hash])), (o_rows, .inl (cI, 54, .inl vo_rows)), (o_takes, .inl (cJ, 9, .inr (.inl u1))), (o_leans, .inl (cI, 9, .inl u2))] := by rw [← ea9]; exact hD
        obtain ⟨v10, ev10⟩ : ∃ y : Int32, (b3 + (1 : Int32)) = y := ⟨_, rfl⟩
        replace hT := cut_n ev10 hT
        try have fv10 := zaddE (rfl : (b3).toInt = _) (by decide : ((1 : Int32)).toInt = 1) ev10 (by omega) (by omega)
        refine lv_iinc (v := v10) (lv' := [(2, .int v10), (0, .ref o), (1, .int p1)]) hx hb dX6_beginWould_32 hl (k := 0) rfl (by rw [← ev10]; rfl) (by decide) rfl (fun ls hl => ?_)
        refine lv_goto (tgt := 6) hx hb dX6_beginWould_35 (by decide) ?_
        exact ih2 (v10, a9) _ _ _ ⟨(by omega : 0 ≤ v10.toInt), (by omega : v10.toInt ≤ 9), (by omega : 9 - v10.toInt < ((k2 : Nat) : Int)), hT, hP.sub [0, 1, 2, 3, 4, 5] rfl, hD.sub [0, 1, 2, 3, 4, 5] rfl rfl, hS, lv_sub hl [0, 1, 2] rfl⟩
