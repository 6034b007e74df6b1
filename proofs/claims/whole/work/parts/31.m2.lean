def rs_X6_go_2 (r12 : Int32) (vo_readMany : Int32) (p1 : Int32) (vo_readMost : Int32) (x18 : Int32) (x19 : Nat → Int32) : Int32 × Int32 × Int32 × Int32 × (Nat → Int32) :=
 if r12 = (-1 : Int32) then
  cut3 (m_X6_goHolds vo_readMany x19 p1) (fun (r22 : Int32) (u23 : Int32) (u24 : Nat → Int32) =>
  if r22 = (0 : Int32) then
   ((0 : Int32), vo_readMany, u23, vo_readMost, u24)
  else
   ((1 : Int32), vo_readMany, u23, vo_readMost, u24))
 else
  ((1 : Int32), vo_readMany, (1 : Int32), vo_readMost, x19)
def lp_X6_go_2 (ct2 : Int32 → (Nat → Int32) → (Int32 × Int32 × Int32 × Int32 × (Nat → Int32))) (v1 : Int32) : Nat → Int32 → (Nat → Int32) → (Int32 × Int32 × Int32 × Int32 × (Nat → Int32))
  | 0, _, _ => default
  | k + 1, b16, b17 =>
  if (6 : Int32) ≤ b16 then
   (ct2 b16 b17)
  else
   cut (upd b17 (v1 + b16).toNatClampNeg (-1 : Int32)) (fun (a20 : Nat → Int32) =>
   cut (b16 + (1 : Int32)) (fun (v21 : Int32) =>
   (lp_X6_go_2 ct2 v1 k v21 a20)))
def m_X6_go (vo_readMany : Int32) (vo_state : Int32) (vo_readMost : Int32) (vo_readRows : Nat → Int32) (p1 : Int32) : Int32 × Int32 × Int32 × Int32 × (Nat → Int32) :=
 cut ((6 : Int32) * vo_readMany) (fun (v1 : Int32) =>
 if vo_state = (0 : Int32) then
  cut (m_X6_kindOf p1) (fun (r12 : Int32) =>
  cut (
   if r12 = (-1 : Int32) then
    (0 : Int32)
   else
    r12) (fun (j13 : Int32) =>
  cut (upd vo_readRows v1.toNatClampNeg j13) (fun (a14 : Nat → Int32) =>
  cut (upd a14 (v1 + (2 : Int32)).toNatClampNeg (0 : Int32)) (fun (a15 : Nat → Int32) =>
  (lp_X6_go_2 (rs_X6_go_2 r12 vo_readMany p1 vo_readMost) v1 5 (3 : Int32) a15)))))
 else
  if vo_state = (1 : Int32) then
   cut3 (m_X6_goHolds vo_readMany vo_readRows p1) (fun (r9 : Int32) (u10 : Int32) (u11 : Nat → Int32) =>
   (r9, vo_readMany, u10, vo_readMost, u11))
  else
   if p1 = (47 : Int32) then
    cut3 (m_X6_goNext vo_readMany vo_state) (fun (r6 : Int32) (u7 : Int32) (u8 : Int32) =>
    (r6, u7, u8, vo_readMost, vo_readRows))
   else
    if vo_state = (2 : Int32) then
     if p1 = (58 : Int32) then
      ((1 : Int32), vo_readMany, (3 : Int32), vo_readMost, vo_readRows)
     else
      ((0 : Int32), vo_readMany, (3 : Int32), vo_readMost, vo_readRows)
    else
     cut4 (m_X6_goShare vo_readMany vo_readMost vo_readRows p1) (fun (r2 : Int32) (u3 : Int32) (u4 : Int32) (u5 : Nat → Int32) =>
     (r2, vo_readMany, u3, u4, u5)))
set_option maxHeartbeats 4000000 in
set_option maxRecDepth 100000 in
theorem k_X6_go (l : Launch) (dC : Nat → ClassId) (dI : Nat → Nat → Nat) (cI cJ cC : ClassId) (sz : Nat) (o o_page o_readRows o_rows o_turns o_amounts o_drank o_takes o_leans o_would o_keptAmounts o_keptDrank o_keptTurns : Nat) (vo_pageMany : Int32) (vo_readMany : Int32) (vo_state : Int32) (vo_readMost : Int32) (vo_glasses : Int32) (vo_towersRead : Int32) (vo_poured : Int32) (vo_spilt : Int64) (vo_done : Int32) (vo_seedNow : Int32) (vo_keptTower : Int32) (vo_keptPoured : Int32) (vo_keptSpilt : Int64) (vo_hash : Int64) (vo_readRows : Nat → Int32) (p1 : Int32) (r : Int32) (qo_readMany : Int32) (qo_state : Int32) (qo_readMost : Int32) (qo_readRows : Nat → Int32) (hT : m_X6_go vo_readMany vo_state vo_readMost vo_readRows p1 = (r, qo_readMany, qo_state, qo_readMost, qo_readRows)) (hm0 : 0 ≤ vo_readMany.toInt) (hm8 : vo_readMany.toInt ≤ 8) (hrr : zRw vo_readRows) : Met l yX6_go wsX6_go ({ frames := 2, cells := 0, slots := 0, locals := 49 }) (zPc [.ref o, .int p1] (dC, dI) (zTy cI cJ cC) [(o, .inr (6, [.ref o_page, .int vo_pageMany, .int vo_readMany, .int vo_state, .int vo_readMost, .ref o_readRows, .int vo_glasses, .int vo_towersRead, .int vo_poured, .ref o_rows, .ref o_turns, .ref o_amounts, .ref o_drank, .long vo_spilt, .ref o_takes, .ref o_leans, .ref o_would, .int vo_done, .int vo_seedNow, .int vo_keptTower, .int vo_keptPoured, .long vo_keptSpilt, .ref o_keptAmounts, .ref o_keptDrank, .ref o_keptTurns, .long vo_hash])), (o_readRows, .inl (cI, 54, .inl vo_readRows))] sz) (zQi r ((zB01 r) ∧ (zRw qo_readRows) ∧ (0 ≤ qo_readMany.toInt) ∧ (qo_readMany.toInt ≤ 8)) (dC, dI) (zTy cI cJ cC) [(o, .inr (6, [.ref o_page, .int vo_pageMany, .int qo_readMany, .int qo_state, .int qo_readMost, .ref o_readRows, .int vo_glasses, .int vo_towersRead, .int vo_poured, .ref o_rows, .ref o_turns, .ref o_amounts, .ref o_drank, .long vo_spilt, .ref o_takes, .ref o_leans, .ref o_would, .int vo_done, .int vo_seedNow, .int vo_keptTower, .int vo_keptPoured, .long vo_keptSpilt, .ref o_keptAmounts, .ref o_keptDrank, .ref o_keptTurns, .long vo_hash])), (o_readRows, .inl (cI, 54, .inl qo_readRows))] (va_A [(o, .inr (6, [.ref o_page, .int vo_pageMany, .int vo_readMany, .int vo_state, .int vo_readMost, .ref o_readRows, .int vo_glasses, .int vo_towersRead, .int vo_poured, .ref o_rows, .ref o_turns, .ref o_amounts, .ref o_drank, .long vo_spilt, .ref o_takes, .ref o_leans, .ref o_would, .int vo_done, .int vo_seedNow, .int vo_keptTower, .int vo_keptPoured, .long vo_keptSpilt, .ref o_keptAmounts, .ref o_keptDrank, .ref o_keptTurns, .long vo_hash])), (o_readRows, .inl (cI, 54, .inl vo_readRows))] sz)) 0 0 (va_A [(o, .inr (6, [.ref o_page, .int vo_pageMany, .int vo_readMany, .int vo_state, .int vo_readMost, .ref o_readRows, .int vo_glasses, .int vo_towersRead, .int vo_poured, .ref o_rows, .ref o_turns, .ref o_amounts, .ref o_drank, .long vo_spilt, .ref o_takes, .ref o_leans, .ref o_would, .int vo_done, .int vo_seedNow, .int vo_keptTower, .int vo_keptPoured, .long vo_keptSpilt, .ref o_keptAmounts, .ref o_keptDrank, .ref o_keptTurns, .long vo_hash])), (o_readRows, .inl (cI, 54, .inl vo_readRows))] sz) := by
  refine Met.ofW (cc := cX6_go) (maxL := 5) (ret := (some .boolean)) (by decide) rfl ?_
  intro p e s m args below meth c s₁ B hml hv
  obtain ⟨rfl, hsz, hP, hK, hD0⟩ := hv
  have hx := B.exec
  have hb := B.bytes
  have hr := B.returns
  have hts := atoms_spec (ws := wsX6_go) B.pre
  have hown : s.vm.findClass RX6 = some m.cls := findClass_of_methodNamed B.named
  have hlocks := B.notSynchronized
  subst hsz
  have hD := hD0.self (sz := s.heap.size)
  generalize hAe : va_A [(o, .inr (6, [.ref o_page, .int vo_pageMany, .int vo_readMany, .int vo_state, .int vo_readMost, .ref o_readRows, .int vo_glasses, .int vo_towersRead, .int vo_poured, .ref o_rows, .ref o_turns, .ref o_amounts, .ref o_drank, .long vo_spilt, .ref o_takes, .ref o_leans, .ref o_would, .int vo_done, .int vo_seedNow, .int vo_keptTower, .int vo_keptPoured, .long vo_keptSpilt, .ref o_keptAmounts, .ref o_keptDrank, .ref o_keptTurns, .long vo_hash])), (o_readRows, .inl (cI, 54, .inl vo_readRows))] s.heap.size = A at hD ⊢
  have hA : ∀ q : Nat, s.heap.size ≤ q → A q := fun q h => by rw [← hAe]; exact Or.inr h
  have hS : va_S A s.heap s.heap [] := va_S.rf
  have hP : va_P (dC, dI) vwCl [(o, .inr (6, [.ref o_page, .int vo_pageMany, .int vo_readMany, .int vo_state, .int vo_readMost, .ref o_readRows, .int vo_glasses, .int vo_towersRead, .int vo_poured, .ref o_rows, .ref o_turns, .ref o_amounts, .ref o_drank, .long vo_spilt, .ref o_takes, .ref o_leans, .ref o_would, .int vo_done, .int vo_seedNow, .int vo_keptTower, .int vo_keptPoured, .long vo_keptSpilt, .ref o_keptAmounts, .ref o_keptDrank, .ref o_keptTurns, .long vo_hash])), (o_readRows, .inl (cI, 54, .inl vo_readRows))] s.heap := hP
  have hK : va_K (dC, dI) vwCl (zTy cI cJ cC) s := hK
  have hl := lv_entry ([.ref o, .int p1]) (n := 5) (Nat.le_of_ble_eq_true rfl)
  rw [lg_entry_eq]
  generalize (lg_sl ([.ref o, .int p1]) ++ List.replicate (5 - (lg_sl ([.ref o, .int p1])).length) Slot.unset).toArray = ls at hl ⊢
  have hl : lv_has ls 5 [(0, .ref o), (1, .int p1)] := hl
  refine zz_start hP hS (fun Q hQ H locs hP hS => ?_)
  have hwX6 : ∀ w ∈ u_ws RX6 TX6 26, w ∈ wsX6_go := by decide +kernel
  have hf_13 := (hts (.fieldLink RX6 13 "PouredTopmostModel" "readRows" "[I") (by decide +kernel))
  have hf_56 := (hts (.fieldLink RX6 56 "PouredTopmostModel" "readMany" "I") (by decide +kernel))
  have hf_59 := (hts (.fieldLink RX6 59 "PouredTopmostModel" "state" "I") (by decide +kernel))
  refine lv_bipush (v := (6 : Int32)) hx hb dX6_go_0 (by decide) ?_
  refine lv_aload_n hx hb dX6_go_2 rfl (lv_at hl 0 rfl) ?_
  refine va_get (D := (dC, dI)) (ci := 6) (v := .int vo_readMany) (C := RX6) (T := TX6) (N := 26) hx hb hts hwX6 hown hK hP 0 rfl rfl 2 (by decide) hf_56 (fun _ h9 => h9) rfl dX6_go_3 ?_
  refine lv_imul hx hb dX6_go_6 ?_
  refine lv_topi (fun v1 ev1 => ?_)
  replace hT := cut_n ev1.symm hT
  try have fv1 := zmulE (by decide : ((6 : Int32)).toInt = 6) (rfl : (vo_readMany).toInt = _) ev1.symm (by omega) (by omega)
  refine lv_istore_n (lv' := [(2, .int v1), (0, .ref o), (1, .int p1)]) hx hb dX6_go_7 rfl hl (by decide) rfl (fun ls hl => ?_)
  refine lv_aload_n hx hb dX6_go_8 rfl (lv_at hl 1 rfl) ?_
  refine va_get (D := (dC, dI)) (ci := 6) (v := .int vo_state) (C := RX6) (T := TX6) (N := 26) hx hb hts hwX6 hown hK hP 0 rfl rfl 3 (by decide) hf_59 (fun _ h9 => h9) rfl dX6_go_9 ?_
  refine lv_if_ne (tgt := 95) hx hb dX6_go_12 (by decide) (fun c_1 => ?_) (fun c_1 => ?_)
  · replace hT := cutF c_1 hT
    have g_36 := zeqF (rfl : (vo_state).toInt = _) (by decide : ((0 : Int32)).toInt = 0) c_1
    refine lv_aload_n hx hb dX6_go_95 rfl (lv_at hl 1 rfl) ?_
    refine va_get (D := (dC, dI)) (ci := 6) (v := .int vo_state) (C := RX6) (T := TX6) (N := 26) hx hb hts hwX6 hown hK hP 0 rfl rfl 3 (by decide) hf_59 (fun _ h9 => h9) rfl dX6_go_96 ?_
    refine lv_iconst (v := (1 : Int32)) hx hb dX6_go_99 (by decide) ?_
    refine lv_icmp_ne (tgt := 109) hx hb dX6_go_100 (by decide) (fun c_2 => ?_) (fun c_2 => ?_)
    · replace hT := cutF c_2 hT
      have g_37 := zeqF (rfl : (vo_state).toInt = _) (by decide : ((1 : Int32)).toInt = 1) c_2
      refine lv_iload_n hx hb dX6_go_109 rfl (lv_at hl 2 rfl) ?_
      refine lv_bipush (v := (47 : Int32)) hx hb dX6_go_110 (by decide) ?_
      refine lv_icmp_ne (tgt := 120) hx hb dX6_go_112 (by decide) (fun c_3 => ?_) (fun c_3 => ?_)
      · replace hT := cutF c_3 hT
        have g_38 := zeqF (rfl : (p1).toInt = _) (by decide : ((47 : Int32)).toInt = 47) c_3
        refine lv_aload_n hx hb dX6_go_120 rfl (lv_at hl 1 rfl) ?_
        refine va_get (D := (dC, dI)) (ci := 6) (v := .int vo_state) (C := RX6) (T := TX6) (N := 26) hx hb hts hwX6 hown hK hP 0 rfl rfl 3 (by decide) hf_59 (fun _ h9 => h9) rfl dX6_go_121 ?_
        refine lv_iconst (v := (2 : Int32)) hx hb dX6_go_124 (by decide) ?_
        refine lv_icmp_ne (tgt := 145) hx hb dX6_go_125 (by decide) (fun c_4 => ?_) (fun c_4 => ?_)
        · replace hT := cutF c_4 hT
          have g_39 := zeqF (rfl : (vo_state).toInt = _) (by decide : ((2 : Int32)).toInt = 2) c_4
          refine lv_aload_n hx hb dX6_go_145 rfl (lv_at hl 1 rfl) ?_
          refine lv_iload_n hx hb dX6_go_146 rfl (lv_at hl 2 rfl) ?_
          obtain ⟨r2, u3, u4, u5, ev_5⟩ : ∃ x0 x1 x2 x3, (m_X6_goShare vo_readMany vo_readMost vo_readRows p1) = (x0, x1, x2, x3) := ⟨_, _, _, _, rfl⟩
          replace hT := cut4_n ev_5 hT
          refine zz_ci [0, 1] [] (wr := []) (w1 := [(o, .inr (6, [.ref o_page, .int vo_pageMany, .int vo_readMany, .int u3, .int u4, .ref o_readRows, .int vo_glasses, .int vo_towersRead, .int vo_poured, .ref o_rows, .ref o_turns, .ref o_amounts, .ref o_drank, .long vo_spilt, .ref o_takes, .ref o_leans, .ref o_would, .int vo_done, .int vo_seedNow, .int vo_keptTower, .int vo_keptPoured, .long vo_keptSpilt, .ref o_keptAmounts, .ref o_keptDrank, .ref o_keptTurns, .long vo_hash])), (o_readRows, .inl (cI, 54, .inl u5))]) (va_runV (As := [.int p1]) (rest := []) ⟨hx, hb, hml, hown, hts⟩ (k_X6_goShare l dC dI cI cJ cC H.size o o_page o_readRows o_rows o_turns o_amounts o_drank o_takes o_leans o_would o_keptAmounts o_keptDrank o_keptTurns vo_pageMany vo_readMany vo_state vo_readMost vo_glasses vo_towersRead vo_poured vo_spilt vo_done vo_seedNow vo_keptTower vo_keptPoured vo_keptSpilt vo_hash vo_readRows p1 r2 u3 u4 u5 ev_5 hm0 hm8 hrr) (cwV 1 hts gX6_go_X6_goShare rfl rfl rfl (by decide +kernel) ⟨Nat.le_of_ble_eq_true rfl, Nat.le_of_ble_eq_true rfl⟩) (zz_preV [0, 1] hK hP hD rfl rfl (va_recv hK hP (ci := 6) (q0 := 0) rfl rfl)) rfl rfl hl.1 rfl (lv_room (Nat.le_of_ble_eq_true rfl)) dX6_go_147 ⟨Nat.zero_le _, Nat.zero_le _⟩) hP hD hS hA rfl rfl rfl (by decide) (fun ok_6 H locs hP hD hS => ?_)
          have hP : va_P (dC, dI) vwCl [(o, .inr (6, [.ref o_page, .int vo_pageMany, .int vo_readMany, .int u3, .int u4, .ref o_readRows, .int vo_glasses, .int vo_towersRead, .int vo_poured, .ref o_rows, .ref o_turns, .ref o_amounts, .ref o_drank, .long vo_spilt, .ref o_takes, .ref o_leans, .ref o_would, .int vo_done, .int vo_seedNow, .int vo_keptTower, .int vo_keptPoured, .long vo_keptSpilt, .ref o_keptAmounts, .ref o_keptDrank, .ref o_keptTurns, .long vo_hash])), (o_readRows, .inl (cI, 54, .inl u5))] H := hP
          have hD : va_D A [(o, .inr (6, [.ref o_page, .int vo_pageMany, .int vo_readMany, .int u3, .int u4, .ref o_readRows, .int vo_glasses, .int vo_towersRead, .int vo_poured, .ref o_rows, .ref o_turns, .ref o_amounts, .ref o_drank, .long vo_spilt, .ref o_takes, .ref o_leans, .ref o_would, .int vo_done, .int vo_seedNow, .int vo_keptTower, .int vo_keptPoured, .long vo_keptSpilt, .ref o_keptAmounts, .ref o_keptDrank, .ref o_keptTurns, .long vo_hash])), (o_readRows, .inl (cI, 54, .inl u5))] := hD
          obtain ⟨k_7, k_8⟩ := ok_6
          have hP9 := hP
          have hD9 := hD
          have hS9 := hS
          have hT : (r2, vo_readMany, u3, u4, u5) = (r, qo_readMany, qo_state, qo_readMost, qo_readRows) := hT
          cases hT
          subst hQ
          exact zz_zret hx hb hr (zB01.nar k_7) [0, 1] hK hP9 hD9 hS9 rfl rfl ⟨k_7, (by assumption), (by first | assumption | omega), (by first | assumption | omega)⟩ hlocks dX6_go_150
        · replace hT := cutT c_4 hT
          have g_40 := zeqT (rfl : (vo_state).toInt = _) (by decide : ((2 : Int32)).toInt = 2) c_4
          refine lv_aload_n hx hb dX6_go_128 rfl (lv_at hl 1 rfl) ?_
          refine lv_iconst (v := (3 : Int32)) hx hb dX6_go_129 (by decide) ?_
          refine va_put (D := (dC, dI)) (ci := 6) (v := .int (3 : Int32)) (ty := .int) (C := RX6) (T := TX6) (N := 26) hx hb hts hwX6 tyX6 tyX6_ok nmX6 hown hK hP hD hS 0 rfl rfl 3 (by decide) hf_59 (fun _ h9 => h9) rfl (by decide +kernel) rfl rfl (Nat.le_of_ble_eq_true rfl) dX6_go_130 (fun H locs hP hD hS => ?_)
          have hP : va_P (dC, dI) vwCl [(o, .inr (6, [.ref o_page, .int vo_pageMany, .int vo_readMany, .int (3 : Int32), .int vo_readMost, .ref o_readRows, .int vo_glasses, .int vo_towersRead, .int vo_poured, .ref o_rows, .ref o_turns, .ref o_amounts, .ref o_drank, .long vo_spilt, .ref o_takes, .ref o_leans, .ref o_would, .int vo_done, .int vo_seedNow, .int vo_keptTower, .int vo_keptPoured, .long vo_keptSpilt, .ref o_keptAmounts, .ref o_keptDrank, .ref o_keptTurns, .long vo_hash])), (o_readRows, .inl (cI, 54, .inl vo_readRows))] H := hP
          have hD : va_D A [(o, .inr (6, [.ref o_page, .int vo_pageMany, .int vo_readMany, .int (3 : Int32), .int vo_readMost, .ref o_readRows, .int vo_glasses, .int vo_towersRead, .int vo_poured, .ref o_rows, .ref o_turns, .ref o_amounts, .ref o_drank, .long vo_spilt, .ref o_takes, .ref o_leans, .ref o_would, .int vo_done, .int vo_seedNow, .int vo_keptTower, .int vo_keptPoured, .long vo_keptSpilt, .ref o_keptAmounts, .ref o_keptDrank, .ref o_keptTurns, .long vo_hash])), (o_readRows, .inl (cI, 54, .inl vo_readRows))] := hD
          refine lv_iload_n hx hb dX6_go_133 rfl (lv_at hl 2 rfl) ?_
          refine lv_bipush (v := (58 : Int32)) hx hb dX6_go_134 (by decide) ?_
          refine lv_icmp_ne (tgt := 143) hx hb dX6_go_136 (by decide) (fun c_9 => ?_) (fun c_9 => ?_)
          · replace hT := cutF c_9 hT
            have g_41 := zeqF (rfl : (p1).toInt = _) (by decide : ((58 : Int32)).toInt = 58) c_9
            refine lv_iconst (v := (0 : Int32)) hx hb dX6_go_143 (by decide) ?_
            have hP9 := hP
            have hD9 := hD
            have hS9 := hS
            have hT : ((0 : Int32), vo_readMany, (3 : Int32), vo_readMost, vo_readRows) = (r, qo_readMany, qo_state, qo_readMost, qo_readRows) := hT
            cases hT
            subst hQ
            exact zz_zret hx hb hr rfl [0, 1] hK hP9 hD9 hS9 rfl rfl ⟨(Or.inl rfl), (by assumption), (by first | assumption | omega), (by first | assumption | omega)⟩ hlocks dX6_go_144
          · replace hT := cutT c_9 hT
            have g_42 := zeqT (rfl : (p1).toInt = _) (by decide : ((58 : Int32)).toInt = 58) c_9
            refine lv_iconst (v := (1 : Int32)) hx hb dX6_go_139 (by decide) ?_
            refine lv_goto (tgt := 144) hx hb dX6_go_140 (by decide) ?_
            have hP9 := hP
            have hD9 := hD
            have hS9 := hS
            have hT : ((1 : Int32), vo_readMany, (3 : Int32), vo_readMost, vo_readRows) = (r, qo_readMany, qo_state, qo_readMost, qo_readRows) := hT
            cases hT
            subst hQ
            exact zz_zret hx hb hr rfl [0, 1] hK hP9 hD9 hS9 rfl rfl ⟨(Or.inr rfl), (by assumption), (by first | assumption | omega), (by first | assumption | omega)⟩ hlocks dX6_go_144
      · replace hT := cutT c_3 hT
        have g_43 := zeqT (rfl : (p1).toInt = _) (by decide : ((47 : Int32)).toInt = 47) c_3
        refine lv_aload_n hx hb dX6_go_115 rfl (lv_at hl 1 rfl) ?_
        obtain ⟨r6, u7, u8, ev_10⟩ : ∃ x0 x1 x2, (m_X6_goNext vo_readMany vo_state) = (x0, x1, x2) := ⟨_, _, _, rfl⟩
        replace hT := cut3_n ev_10 hT
        refine zz_ci [0] [1] (wr := [(o_readRows, .inl (cI, 54, .inl vo_readRows))]) (w1 := [(o, .inr (6, [.ref o_page, .int vo_pageMany, .int u7, .int u8, .int vo_readMost, .ref o_readRows, .int vo_glasses, .int vo_towersRead, .int vo_poured, .ref o_rows, .ref o_turns, .ref o_amounts, .ref o_drank, .long vo_spilt, .ref o_takes, .ref o_leans, .ref o_would, .int vo_done, .int vo_seedNow, .int vo_keptTower, .int vo_keptPoured, .long vo_keptSpilt, .ref o_keptAmounts, .ref o_keptDrank, .ref o_keptTurns, .long vo_hash]))]) (va_runV (As := []) (rest := []) ⟨hx, hb, hml, hown, hts⟩ (k_X6_goNext l dC dI cI cJ cC H.size o o_page o_readRows o_rows o_turns o_amounts o_drank o_takes o_leans o_would o_keptAmounts o_keptDrank o_keptTurns vo_pageMany vo_readMany vo_state vo_readMost vo_glasses vo_towersRead vo_poured vo_spilt vo_done vo_seedNow vo_keptTower vo_keptPoured vo_keptSpilt vo_hash r6 u7 u8 ev_10 hm0 hm8) (cwV 0 hts gX6_go_X6_goNext rfl rfl rfl (by decide +kernel) ⟨Nat.le_of_ble_eq_true rfl, Nat.le_of_ble_eq_true rfl⟩) (zz_preV [0] hK hP hD rfl rfl (va_recv hK hP (ci := 6) (q0 := 0) rfl rfl)) rfl rfl hl.1 rfl (lv_room (Nat.le_of_ble_eq_true rfl)) dX6_go_116 ⟨Nat.zero_le _, Nat.zero_le _⟩) hP hD hS hA rfl rfl rfl (by decide) (fun ok_11 H locs hP hD hS => ?_)
        have hP : va_P (dC, dI) vwCl [(o_readRows, .inl (cI, 54, .inl vo_readRows)), (o, .inr (6, [.ref o_page, .int vo_pageMany, .int u7, .int u8, .int vo_readMost, .ref o_readRows, .int vo_glasses, .int vo_towersRead, .int vo_poured, .ref o_rows, .ref o_turns, .ref o_amounts, .ref o_drank, .long vo_spilt, .ref o_takes, .ref o_leans, .ref o_would, .int vo_done, .int vo_seedNow, .int vo_keptTower, .int vo_keptPoured, .long vo_keptSpilt, .ref o_keptAmounts, .ref o_keptDrank, .ref o_keptTurns, .long vo_hash]))] H := hP
        have hD : va_D A [(o_readRows, .inl (cI, 54, .inl vo_readRows)), (o, .inr (6, [.ref o_page, .int vo_pageMany, .int u7, .int u8, .int vo_readMost, .ref o_readRows, .int vo_glasses, .int vo_towersRead, .int vo_poured, .ref o_rows, .ref o_turns, .ref o_amounts, .ref o_drank, .long vo_spilt, .ref o_takes, .ref o_leans, .ref o_would, .int vo_done, .int vo_seedNow, .int vo_keptTower, .int vo_keptPoured, .long vo_keptSpilt, .ref o_keptAmounts, .ref o_keptDrank, .ref o_keptTurns, .long vo_hash]))] := hD
        obtain ⟨k_12, k_13, k_14⟩ := ok_11
        have hP9 := hP
        have hD9 := hD
        have hS9 := hS
        have hT : (r6, u7, u8, vo_readMost, vo_readRows) = (r, qo_readMany, qo_state, qo_readMost, qo_readRows) := hT
        cases hT
        subst hQ
        exact zz_zret hx hb hr (zB01.nar k_12) [1, 0] hK hP9 hD9 hS9 rfl rfl ⟨k_12, (by assumption), (by first | assumption | omega), (by first | assumption | omega)⟩ hlocks dX6_go_119
    · replace hT := cutT c_2 hT
      have g_44 := zeqT (rfl : (vo_state).toInt = _) (by decide : ((1 : Int32)).toInt = 1) c_2
      refine lv_aload_n hx hb dX6_go_103 rfl (lv_at hl 1 rfl) ?_
      refine lv_iload_n hx hb dX6_go_104 rfl (lv_at hl 2 rfl) ?_
      obtain ⟨r9, u10, u11, ev_15⟩ : ∃ x0 x1 x2, (m_X6_goHolds vo_readMany vo_readRows p1) = (x0, x1, x2) := ⟨_, _, _, rfl⟩
      replace hT := cut3_n ev_15 hT
      refine zz_ci [0, 1] [] (wr := []) (w1 := [(o, .inr (6, [.ref o_page, .int vo_pageMany, .int vo_readMany, .int u10, .int vo_readMost, .ref o_readRows, .int vo_glasses, .int vo_towersRead, .int vo_poured, .ref o_rows, .ref o_turns, .ref o_amounts, .ref o_drank, .long vo_spilt, .ref o_takes, .ref o_leans, .ref o_would, .int vo_done, .int vo_seedNow, .int vo_keptTower, .int vo_keptPoured, .long vo_keptSpilt, .ref o_keptAmounts, .ref o_keptDrank, .ref o_keptTurns, .long vo_hash])), (o_readRows, .inl (cI, 54, .inl u11))]) (va_runV (As := [.int p1]) (rest := []) ⟨hx, hb, hml, hown, hts⟩ (k_X6_goHolds l dC dI cI cJ cC H.size o o_page o_readRows o_rows o_turns o_amounts o_drank o_takes o_leans o_would o_keptAmounts o_keptDrank o_keptTurns vo_pageMany vo_readMany vo_state vo_readMost vo_glasses vo_towersRead vo_poured vo_spilt vo_done vo_seedNow vo_keptTower vo_keptPoured vo_keptSpilt vo_hash vo_readRows p1 r9 u10 u11 ev_15 hm0 hm8 hrr) (cwV 1 hts gX6_go_X6_goHolds rfl rfl rfl (by decide +kernel) ⟨Nat.le_of_ble_eq_true rfl, Nat.le_of_ble_eq_true rfl⟩) (zz_preV [0, 1] hK hP hD rfl rfl (va_recv hK hP (ci := 6) (q0 := 0) rfl rfl)) rfl rfl hl.1 rfl (lv_room (Nat.le_of_ble_eq_true rfl)) dX6_go_105 ⟨Nat.zero_le _, Nat.zero_le _⟩) hP hD hS hA rfl rfl rfl (by decide) (fun ok_16 H locs hP hD hS => ?_)
      have hP : va_P (dC, dI) vwCl [(o, .inr (6, [.ref o_page, .int vo_pageMany, .int vo_readMany, .int u10, .int vo_readMost, .ref o_readRows, .int vo_glasses, .int vo_towersRead, .int vo_poured, .ref o_rows, .ref o_turns, .ref o_amounts, .ref o_drank, .long vo_spilt, .ref o_takes, .ref o_leans, .ref o_would, .int vo_done, .int vo_seedNow, .int vo_keptTower, .int vo_keptPoured, .long vo_keptSpilt, .ref o_keptAmounts, .ref o_keptDrank, .ref o_keptTurns, .long vo_hash])), (o_readRows, .inl (cI, 54, .inl u11))] H := hP
      have hD : va_D A [(o, .inr (6, [.ref o_page, .int vo_pageMany, .int vo_readMany, .int u10, .int vo_readMost, .ref o_readRows, .int vo_glasses, .int vo_towersRead, .int vo_poured, .ref o_rows, .ref o_turns, .ref o_amounts, .ref o_drank, .long vo_spilt, .ref o_takes, .ref o_leans, .ref o_would, .int vo_done, .int vo_seedNow, .int vo_keptTower, .int vo_keptPoured, .long vo_keptSpilt, .ref o_keptAmounts, .ref o_keptDrank, .ref o_keptTurns, .long vo_hash])), (o_readRows, .inl (cI, 54, .inl u11))] := hD
      obtain ⟨k_17, k_18⟩ := ok_16
      have hP9 := hP
      have hD9 := hD
      have hS9 := hS
      have hT : (r9, vo_readMany, u10, vo_readMost, u11) = (r, qo_readMany, qo_state, qo_readMost, qo_readRows) := hT
      cases hT
      subst hQ
      exact zz_zret hx hb hr (zB01.nar k_17) [0, 1] hK hP9 hD9 hS9 rfl rfl ⟨k_17, (by assumption), (by first | assumption | omega), (by first | assumption | omega)⟩ hlocks dX6_go_108
  · replace hT := cutT c_1 hT
    have g_45 := zeqT (rfl : (vo_state).toInt = _) (by decide : ((0 : Int32)).toInt = 0) c_1
    refine lv_iload_n hx hb dX6_go_15 rfl (lv_at hl 2 rfl) ?_
    obtain ⟨r12, ev_19⟩ : ∃ x0, (m_X6_kindOf p1) = x0 := ⟨_, rfl⟩
    replace hT := cut_n ev_19 hT
    refine zz_ci [] [0, 1] (wr := [(o, .inr (6, [.ref o_page, .int vo_pageMany, .int vo_readMany, .int vo_state, .int vo_readMost, .ref o_readRows, .int vo_glasses, .int vo_towersRead, .int vo_poured, .ref o_rows, .ref o_turns, .ref o_amounts, .ref o_drank, .long vo_spilt, .ref o_takes, .ref o_leans, .ref o_would, .int vo_done, .int vo_seedNow, .int vo_keptTower, .int vo_keptPoured, .long vo_keptSpilt, .ref o_keptAmounts, .ref o_keptDrank, .ref o_keptTurns, .long vo_hash])), (o_readRows, .inl (cI, 54, .inl vo_readRows))]) (w1 := []) (va_runS (As := [.int p1]) (rest := []) ⟨hx, hb, hml, hown, hts⟩ (k_X6_kindOf l dC dI cI cJ cC H.size p1 r12 ev_19) (va_cwS 1 hts gX6_go_X6_kindOf rfl rfl rfl (by decide +kernel) ⟨Nat.le_of_ble_eq_true rfl, Nat.le_of_ble_eq_true rfl⟩) (zz_preS [] hK hP hD rfl rfl) rfl rfl hl.1 rfl (lv_room (Nat.le_of_ble_eq_true rfl)) dX6_go_16 ⟨Nat.zero_le _, Nat.zero_le _⟩) hP hD hS hA rfl rfl rfl (by decide) (fun ok_20 H locs hP hD hS => ?_)
    have hP : va_P (dC, dI) vwCl [(o, .inr (6, [.ref o_page, .int vo_pageMany, .int vo_readMany, .int vo_state, .int vo_readMost, .ref o_readRows, .int vo_glasses, .int vo_towersRead, .int vo_poured, .ref o_rows, .ref o_turns, .ref o_amounts, .ref o_drank, .long vo_spilt, .ref o_takes, .ref o_leans, .ref o_would, .int vo_done, .int vo_seedNow, .int vo_keptTower, .int vo_keptPoured, .long vo_keptSpilt, .ref o_keptAmounts, .ref o_keptDrank, .ref o_keptTurns, .long vo_hash])), (o_readRows, .inl (cI, 54, .inl vo_readRows))] H := hP
    have hD : va_D A [(o, .inr (6, [.ref o_page, .int vo_pageMany, .int vo_readMany, .int vo_state, .int vo_readMost, .ref o_readRows, .int vo_glasses, .int vo_towersRead, .int vo_poured, .ref o_rows, .ref o_turns, .ref o_amounts, .ref o_drank, .long vo_spilt, .ref o_takes, .ref o_leans, .ref o_would, .int vo_done, .int vo_seedNow, .int vo_keptTower, .int vo_keptPoured, .long vo_keptSpilt, .ref o_keptAmounts, .ref o_keptDrank, .ref o_keptTurns, .long vo_hash])), (o_readRows, .inl (cI, 54, .inl vo_readRows))] := hD
    refine lv_istore_n (lv' := [(3, .int r12), (2, .int v1), (0, .ref o), (1, .int p1)]) hx hb dX6_go_19 rfl hl (by decide) rfl (fun ls hl => ?_)
    refine lv_aload_n hx hb dX6_go_20 rfl (lv_at hl 2 rfl) ?_
    refine va_get (D := (dC, dI)) (ci := 6) (v := .ref o_readRows) (C := RX6) (T := TX6) (N := 26) hx hb hts hwX6 hown hK hP 0 rfl rfl 5 (by decide) hf_13 (fun _ h9 => h9) rfl dX6_go_21 ?_
    refine lv_iload_n hx hb dX6_go_24 rfl (lv_at hl 1 rfl) ?_
    refine lv_iload_n hx hb dX6_go_25 rfl (lv_at hl 0 rfl) ?_
    refine lv_iconst (v := (-1 : Int32)) hx hb dX6_go_26 (by decide) ?_
    refine zz_join1 hT 35 (fun v => [.int v, .int v1, .ref o_readRows]) (fun v H locs ls => va_P (dC, dI) vwCl [(o, .inr (6, [.ref o_page, .int vo_pageMany, .int vo_readMany, .int vo_state, .int vo_readMost, .ref o_readRows, .int vo_glasses, .int vo_towersRead, .int vo_poured, .ref o_rows, .ref o_turns, .ref o_amounts, .ref o_drank, .long vo_spilt, .ref o_takes, .ref o_leans, .ref o_would, .int vo_done, .int vo_seedNow, .int vo_keptTower, .int vo_keptPoured, .long vo_keptSpilt, .ref o_keptAmounts, .ref o_keptDrank, .ref o_keptTurns, .long vo_hash])), (o_readRows, .inl (cI, 54, .inl vo_readRows))] H ∧ va_D A [(o, .inr (6, [.ref o_page, .int vo_pageMany, .int vo_readMany, .int vo_state, .int vo_readMost, .ref o_readRows, .int vo_glasses, .int vo_towersRead, .int vo_poured, .ref o_rows, .ref o_turns, .ref o_amounts, .ref o_drank, .long vo_spilt, .ref o_takes, .ref o_leans, .ref o_would, .int vo_done, .int vo_seedNow, .int vo_keptTower, .int vo_keptPoured, .long vo_keptSpilt, .ref o_keptAmounts, .ref o_keptDrank, .ref o_keptTurns, .long vo_hash])), (o_readRows, .inl (cI, 54, .inl vo_readRows))] ∧ va_S A s.heap H locs ∧ lv_has ls 5 [(0, .ref o), (1, .int p1), (2, .int v1), (3, .int r12)]) ?_ ?_
    · rintro j13 ej_46 H locs ls ⟨hP, hD, hS, hl⟩
      replace hT := cut_n ej_46 hT
      have hP : va_P (dC, dI) vwCl [(o, .inr (6, [.ref o_page, .int vo_pageMany, .int vo_readMany, .int vo_state, .int vo_readMost, .ref o_readRows, .int vo_glasses, .int vo_towersRead, .int vo_poured, .ref o_rows, .ref o_turns, .ref o_amounts, .ref o_drank, .long vo_spilt, .ref o_takes, .ref o_leans, .ref o_would, .int vo_done, .int vo_seedNow, .int vo_keptTower, .int vo_keptPoured, .long vo_keptSpilt, .ref o_keptAmounts, .ref o_keptDrank, .ref o_keptTurns, .long vo_hash])), (o_readRows, .inl (cI, 54, .inl vo_readRows))] H := hP
      have hD : va_D A [(o, .inr (6, [.ref o_page, .int vo_pageMany, .int vo_readMany, .int vo_state, .int vo_readMost, .ref o_readRows, .int vo_glasses, .int vo_towersRead, .int vo_poured, .ref o_rows, .ref o_turns, .ref o_amounts, .ref o_drank, .long vo_spilt, .ref o_takes, .ref o_leans, .ref o_would, .int vo_done, .int vo_seedNow, .int vo_keptTower, .int vo_keptPoured, .long vo_keptSpilt, .ref o_keptAmounts, .ref o_keptDrank, .ref o_keptTurns, .long vo_hash])), (o_readRows, .inl (cI, 54, .inl vo_readRows))] := hD
      have hl : lv_has ls 5 [(0, .ref o), (1, .int p1), (2, .int v1), (3, .int r12)] := hl
      have h_22 : vp_in v1 54 := zin (by omega) (by omega)
      refine va_iast hx hb hK hP hD hS 1 0 rfl rfl h_22 dX6_go_35 (fun H locs hP hD hS => ?_)
      obtain ⟨a14, ea14⟩ : ∃ z, (upd vo_readRows v1.toNatClampNeg j13) = z := ⟨_, rfl⟩
      replace hT := cut_n ea14 hT
      have hP : va_P (dC, dI) vwCl [(o, .inr (6, [.ref o_page, .int vo_pageMany, .int vo_readMany, .int vo_state, .int vo_readMost, .ref o_readRows, .int vo_glasses, .int vo_towersRead, .int vo_poured, .ref o_rows, .ref o_turns, .ref o_amounts, .ref o_drank, .long vo_spilt, .ref o_takes, .ref o_leans, .ref o_would, .int vo_done, .int vo_seedNow, .int vo_keptTower, .int vo_keptPoured, .long vo_keptSpilt, .ref o_keptAmounts, .ref o_keptDrank, .ref o_keptTurns, .long vo_hash])), (o_readRows, .inl (cI, 54, .inl a14))] H := by rw [← ea14]; exact hP
      have hD : va_D A [(o, .inr (6, [.ref o_page, .int vo_pageMany, .int vo_readMany, .int vo_state, .int vo_readMost, .ref o_readRows, .int vo_glasses, .int vo_towersRead, .int vo_poured, .ref o_rows, .ref o_turns, .ref o_amounts, .ref o_drank, .long vo_spilt, .ref o_takes, .ref o_leans, .ref o_would, .int vo_done, .int vo_seedNow, .int vo_keptTower, .int vo_keptPoured, .long vo_keptSpilt, .ref o_keptAmounts, .ref o_keptDrank, .ref o_keptTurns, .long vo_hash])), (o_readRows, .inl (cI, 54, .inl a14))] := by rw [← ea14]; exact hD
      have rw_23 : zRw a14 := by rw [← ea14]; exact zRw_01I hrr (by omega) (by omega)
      refine lv_aload_n hx hb dX6_go_36 rfl (lv_at hl 0 rfl) ?_
      refine va_get (D := (dC, dI)) (ci := 6) (v := .ref o_readRows) (C := RX6) (T := TX6) (N := 26) hx hb hts hwX6 hown hK hP 0 rfl rfl 5 (by decide) hf_13 (fun _ h9 => h9) rfl dX6_go_37 ?_
      refine lv_iload_n hx hb dX6_go_40 rfl (lv_at hl 2 rfl) ?_
      refine lv_iconst (v := (2 : Int32)) hx hb dX6_go_41 (by decide) ?_
      refine lv_iadd hx hb dX6_go_42 ?_
      refine lv_iconst (v := (0 : Int32)) hx hb dX6_go_43 (by decide) ?_
      have e_25 := zaddE (v := (v1 + (2 : Int32))) (rfl : (v1).toInt = _) (by decide : ((2 : Int32)).toInt = 2) rfl (by omega) (by omega)
      have h_24 : vp_in (v1 + (2 : Int32)) 54 := zin (by omega) (by omega)
      refine va_iast hx hb hK hP hD hS 1 0 rfl rfl h_24 dX6_go_44 (fun H locs hP hD hS => ?_)
      obtain ⟨a15, ea15⟩ : ∃ z, (upd a14 (v1 + (2 : Int32)).toNatClampNeg (0 : Int32)) = z := ⟨_, rfl⟩
      replace hT := cut_n ea15 hT
      have hP : va_P (dC, dI) vwCl [(o, .inr (6, [.ref o_page, .int vo_pageMany, .int vo_readMany, .int vo_state, .int vo_readMost, .ref o_readRows, .int vo_glasses, .int vo_towersRead, .int vo_poured, .ref o_rows, .ref o_turns, .ref o_amounts, .ref o_drank, .long vo_spilt, .ref o_takes, .ref o_leans, .ref o_would, .int vo_done, .int vo_seedNow, .int vo_keptTower, .int vo_keptPoured, .long vo_keptSpilt, .ref o_keptAmounts, .ref o_keptDrank, .ref o_keptTurns, .long vo_hash])), (o_readRows, .inl (cI, 54, .inl a15))] H := by rw [← ea15]; exact hP
      have hD : va_D A [(o, .inr (6, [.ref o_page, .int vo_pageMany, .int vo_readMany, .int vo_state, .int vo_readMost, .ref o_readRows, .int vo_glasses, .int vo_towersRead, .int vo_poured, .ref o_rows, .ref o_turns, .ref o_amounts, .ref o_drank, .long vo_spilt, .ref o_takes, .ref o_leans, .ref o_would, .int vo_done, .int vo_seedNow, .int vo_keptTower, .int vo_keptPoured, .long vo_keptSpilt, .ref o_keptAmounts, .ref o_keptDrank, .ref o_keptTurns, .long vo_hash])), (o_readRows, .inl (cI, 54, .inl a15))] := by rw [← ea15]; exact hD
      have rw_26 : zRw a15 := by rw [← ea15]; exact zRw_20 rw_23 (by omega) (by omega)
      have hc0 : a15 (v1 + (2 : Int32)).toNatClampNeg = 0 := by rw [← ea15]; exact pk_us
      refine lv_iconst (v := (3 : Int32)) hx hb dX6_go_45 (by decide) ?_
      refine lv_istore (lv' := [(4, .int (3 : Int32)), (0, .ref o), (1, .int p1), (2, .int v1), (3, .int r12)]) hx hb dX6_go_46 hl (by decide) rfl (fun ls hl => ?_)
      have hz_47 : ((3 : Int32)).toInt = 3 := by decide
      refine zz_loop (α := Int32 × (Nat → Int32)) 71 (fun k a H locs ls => (3 ≤ a.1.toInt) ∧ (a.1.toInt ≤ 6) ∧ (zRw a.2) ∧ (a.2 (v1 + (2 : Int32)).toNatClampNeg = 0) ∧ (6 - a.1.toInt < ((k : Nat) : Int)) ∧ lp_X6_go_2 (rs_X6_go_2 r12 vo_readMany p1 vo_readMost) v1 k a.1 a.2 = (r, qo_readMany, qo_state, qo_readMost, qo_readRows) ∧ va_P (dC, dI) vwCl [(o, .inr (6, [.ref o_page, .int vo_pageMany, .int vo_readMany, .int vo_state, .int vo_readMost, .ref o_readRows, .int vo_glasses, .int vo_towersRead, .int vo_poured, .ref o_rows, .ref o_turns, .ref o_amounts, .ref o_drank, .long vo_spilt, .ref o_takes, .ref o_leans, .ref o_would, .int vo_done, .int vo_seedNow, .int vo_keptTower, .int vo_keptPoured, .long vo_keptSpilt, .ref o_keptAmounts, .ref o_keptDrank, .ref o_keptTurns, .long vo_hash])), (o_readRows, .inl (cI, 54, .inl a.2))] H ∧ va_D A [(o, .inr (6, [.ref o_page, .int vo_pageMany, .int vo_readMany, .int vo_state, .int vo_readMost, .ref o_readRows, .int vo_glasses, .int vo_towersRead, .int vo_poured, .ref o_rows, .ref o_turns, .ref o_amounts, .ref o_drank, .long vo_spilt, .ref o_takes, .ref o_leans, .ref o_would, .int vo_done, .int vo_seedNow, .int vo_keptTower, .int vo_keptPoured, .long vo_keptSpilt, .ref o_keptAmounts, .ref o_keptDrank, .ref o_keptTurns, .long vo_hash])), (o_readRows, .inl (cI, 54, .inl a.2))] ∧ va_S A s.heap H locs ∧ lv_has ls 5 [(4, .int a.1), (0, .ref o), (1, .int p1), (2, .int v1), (3, .int r12)]) (fun a H locs ls => (3 ≤ a.1.toInt) ∧ (a.1.toInt ≤ 6) ∧ (zRw a.2) ∧ (a.2 (v1 + (2 : Int32)).toNatClampNeg = 0) ∧ (rs_X6_go_2 r12 vo_readMany p1 vo_readMost) a.1 a.2 = (r, qo_readMany, qo_state, qo_readMost, qo_readRows) ∧ va_P (dC, dI) vwCl [(o, .inr (6, [.ref o_page, .int vo_pageMany, .int vo_readMany, .int vo_state, .int vo_readMost, .ref o_readRows, .int vo_glasses, .int vo_towersRead, .int vo_poured, .ref o_rows, .ref o_turns, .ref o_amounts, .ref o_drank, .long vo_spilt, .ref o_takes, .ref o_leans, .ref o_would, .int vo_done, .int vo_seedNow, .int vo_keptTower, .int vo_keptPoured, .long vo_keptSpilt, .ref o_keptAmounts, .ref o_keptDrank, .ref o_keptTurns, .long vo_hash])), (o_readRows, .inl (cI, 54, .inl a.2))] H ∧ va_D A [(o, .inr (6, [.ref o_page, .int vo_pageMany, .int vo_readMany, .int vo_state, .int vo_readMost, .ref o_readRows, .int vo_glasses, .int vo_towersRead, .int vo_poured, .ref o_rows, .ref o_turns, .ref o_amounts, .ref o_drank, .long vo_spilt, .ref o_takes, .ref o_leans, .ref o_would, .int vo_done, .int vo_seedNow, .int vo_keptTower, .int vo_keptPoured, .long vo_keptSpilt, .ref o_keptAmounts, .ref o_keptDrank, .ref o_keptTurns, .long vo_hash])), (o_readRows, .inl (cI, 54, .inl a.2))] ∧ va_S A s.heap H locs ∧ lv_has ls 5 [(0, .ref o), (1, .int p1), (3, .int r12)]) ?_ ?_ ?_ 5 ((3 : Int32), a15) ⟨(by omega : 3 ≤ (3 : Int32).toInt), (by omega : (3 : Int32).toInt ≤ 6), (by assumption : zRw a15), (by assumption : a15 (v1 + (2 : Int32)).toNatClampNeg = 0), (by omega : 6 - (3 : Int32).toInt < ((5 : Nat) : Int)), hT, hP.sub [0, 1] rfl, hD.sub [0, 1] rfl rfl, hS, lv_sub hl [0, 1, 2, 3, 4] rfl⟩
      · rintro ⟨x18, x19⟩ H locs ls ⟨i1, j1, hy1, hy2, hT, hP, hD, hS, hl⟩
        have hP : va_P (dC, dI) vwCl [(o, .inr (6, [.ref o_page, .int vo_pageMany, .int vo_readMany, .int vo_state, .int vo_readMost, .ref o_readRows, .int vo_glasses, .int vo_towersRead, .int vo_poured, .ref o_rows, .ref o_turns, .ref o_amounts, .ref o_drank, .long vo_spilt, .ref o_takes, .ref o_leans, .ref o_would, .int vo_done, .int vo_seedNow, .int vo_keptTower, .int vo_keptPoured, .long vo_keptSpilt, .ref o_keptAmounts, .ref o_keptDrank, .ref o_keptTurns, .long vo_hash])), (o_readRows, .inl (cI, 54, .inl x19))] H := hP
        have hD : va_D A [(o, .inr (6, [.ref o_page, .int vo_pageMany, .int vo_readMany, .int vo_state, .int vo_readMost, .ref o_readRows, .int vo_glasses, .int vo_towersRead, .int vo_poured, .ref o_rows, .ref o_turns, .ref o_amounts, .ref o_drank, .long vo_spilt, .ref o_takes, .ref o_leans, .ref o_would, .int vo_done, .int vo_seedNow, .int vo_keptTower, .int vo_keptPoured, .long vo_keptSpilt, .ref o_keptAmounts, .ref o_keptDrank, .ref o_keptTurns, .long vo_hash])), (o_readRows, .inl (cI, 54, .inl x19))] := hD
        have hl : lv_has ls 5 [(0, .ref o), (1, .int p1), (3, .int r12)] := hl
        have hT : (rs_X6_go_2 r12 vo_readMany p1 vo_readMost) x18 x19 = (r, qo_readMany, qo_state, qo_readMost, qo_readRows) := hT
        have i1 : 3 ≤ x18.toInt := i1
        have j1 : x18.toInt ≤ 6 := j1
        have hy1 : zRw x19 := hy1
        have hy2 : x19 (v1 + (2 : Int32)).toNatClampNeg = 0 := hy2
        refine lv_aload_n hx hb dX6_go_71 rfl (lv_at hl 0 rfl) ?_
        refine lv_iconst (v := (1 : Int32)) hx hb dX6_go_72 (by decide) ?_
        refine va_put (D := (dC, dI)) (ci := 6) (v := .int (1 : Int32)) (ty := .int) (C := RX6) (T := TX6) (N := 26) hx hb hts hwX6 tyX6 tyX6_ok nmX6 hown hK hP hD hS 0 rfl rfl 3 (by decide) hf_59 (fun _ h9 => h9) rfl (by decide +kernel) rfl rfl (Nat.le_of_ble_eq_true rfl) dX6_go_73 (fun H locs hP hD hS => ?_)
        have hP : va_P (dC, dI) vwCl [(o, .inr (6, [.ref o_page, .int vo_pageMany, .int vo_readMany, .int (1 : Int32), .int vo_readMost, .ref o_readRows, .int vo_glasses, .int vo_towersRead, .int vo_poured, .ref o_rows, .ref o_turns, .ref o_amounts, .ref o_drank, .long vo_spilt, .ref o_takes, .ref o_leans, .ref o_would, .int vo_done, .int vo_seedNow, .int vo_keptTower, .int vo_keptPoured, .long vo_keptSpilt, .ref o_keptAmounts, .ref o_keptDrank, .ref o_keptTurns, .long vo_hash])), (o_readRows, .inl (cI, 54, .inl x19))] H := hP
        have hD : va_D A [(o, .inr (6, [.ref o_page, .int vo_pageMany, .int vo_readMany, .int (1 : Int32), .int vo_readMost, .ref o_readRows, .int vo_glasses, .int vo_towersRead, .int vo_poured, .ref o_rows, .ref o_turns, .ref o_amounts, .ref o_drank, .long vo_spilt, .ref o_takes, .ref o_leans, .ref o_would, .int vo_done, .int vo_seedNow, .int vo_keptTower, .int vo_keptPoured, .long vo_keptSpilt, .ref o_keptAmounts, .ref o_keptDrank, .ref o_keptTurns, .long vo_hash])), (o_readRows, .inl (cI, 54, .inl x19))] := hD
        refine lv_iload_n hx hb dX6_go_76 rfl (lv_at hl 2 rfl) ?_
        refine lv_iconst (v := (-1 : Int32)) hx hb dX6_go_77 (by decide) ?_
        refine lv_icmp_ne (tgt := 89) hx hb dX6_go_78 (by decide) (fun c_30 => ?_) (fun c_30 => ?_)
        · replace hT := cutF c_30 hT
          have g_48 := zeqF (rfl : (r12).toInt = _) (by decide : ((-1 : Int32)).toInt = -1) c_30
          refine lv_iconst (v := (1 : Int32)) hx hb dX6_go_89 (by decide) ?_
          refine lv_goto (tgt := 94) hx hb dX6_go_90 (by decide) ?_
          have hP9 := hP
          have hD9 := hD
          have hS9 := hS
          have hT : ((1 : Int32), vo_readMany, (1 : Int32), vo_readMost, x19) = (r, qo_readMany, qo_state, qo_readMost, qo_readRows) := hT
          cases hT
          subst hQ
          exact zz_zret hx hb hr rfl [0, 1] hK hP9 hD9 hS9 rfl rfl ⟨(Or.inr rfl), (by assumption), (by first | assumption | omega), (by first | assumption | omega)⟩ hlocks dX6_go_94
        · replace hT := cutT c_30 hT
          have g_49 := zeqT (rfl : (r12).toInt = _) (by decide : ((-1 : Int32)).toInt = -1) c_30
          refine lv_aload_n hx hb dX6_go_81 rfl (lv_at hl 0 rfl) ?_
          refine lv_iload_n hx hb dX6_go_82 rfl (lv_at hl 1 rfl) ?_
          obtain ⟨r22, u23, u24, ev_31⟩ : ∃ x0 x1 x2, (m_X6_goHolds vo_readMany x19 p1) = (x0, x1, x2) := ⟨_, _, _, rfl⟩
          replace hT := cut3_n ev_31 hT
          refine zz_ci [0, 1] [] (wr := []) (w1 := [(o, .inr (6, [.ref o_page, .int vo_pageMany, .int vo_readMany, .int u23, .int vo_readMost, .ref o_readRows, .int vo_glasses, .int vo_towersRead, .int vo_poured, .ref o_rows, .ref o_turns, .ref o_amounts, .ref o_drank, .long vo_spilt, .ref o_takes, .ref o_leans, .ref o_would, .int vo_done, .int vo_seedNow, .int vo_keptTower, .int vo_keptPoured, .long vo_keptSpilt, .ref o_keptAmounts, .ref o_keptDrank, .ref o_keptTurns, .long vo_hash])), (o_readRows, .inl (cI, 54, .inl u24))]) (va_runV (As := [.int p1]) (rest := []) ⟨hx, hb, hml, hown, hts⟩ (k_X6_goHolds l dC dI cI cJ cC H.size o o_page o_readRows o_rows o_turns o_amounts o_drank o_takes o_leans o_would o_keptAmounts o_keptDrank o_keptTurns vo_pageMany vo_readMany (1 : Int32) vo_readMost vo_glasses vo_towersRead vo_poured vo_spilt vo_done vo_seedNow vo_keptTower vo_keptPoured vo_keptSpilt vo_hash x19 p1 r22 u23 u24 ev_31 hm0 hm8 hy1) (cwV 1 hts gX6_go_X6_goHolds rfl rfl rfl (by decide +kernel) ⟨Nat.le_of_ble_eq_true rfl, Nat.le_of_ble_eq_true rfl⟩) (zz_preV [0, 1] hK hP hD rfl rfl (va_recv hK hP (ci := 6) (q0 := 0) rfl rfl)) rfl rfl hl.1 rfl (lv_room (Nat.le_of_ble_eq_true rfl)) dX6_go_83 ⟨Nat.zero_le _, Nat.zero_le _⟩) hP hD hS hA rfl rfl rfl (by decide) (fun ok_32 H locs hP hD hS => ?_)
          have hP : va_P (dC, dI) vwCl [(o, .inr (6, [.ref o_page, .int vo_pageMany, .int vo_readMany, .int u23, .int vo_readMost, .ref o_readRows, .int vo_glasses, .int vo_towersRead, .int vo_poured, .ref o_rows, .ref o_turns, .ref o_amounts, .ref o_drank, .long vo_spilt, .ref o_takes, .ref o_leans, .ref o_would, .int vo_done, .int vo_seedNow, .int vo_keptTower, .int vo_keptPoured, .long vo_keptSpilt, .ref o_keptAmounts, .ref o_keptDrank, .ref o_keptTurns, .long vo_hash])), (o_readRows, .inl (cI, 54, .inl u24))] H := hP
          have hD : va_D A [(o, .inr (6, [.ref o_page, .int vo_pageMany, .int vo_readMany, .int u23, .int vo_readMost, .ref o_readRows, .int vo_glasses, .int vo_towersRead, .int vo_poured, .ref o_rows, .ref o_turns, .ref o_amounts, .ref o_drank, .long vo_spilt, .ref o_takes, .ref o_leans, .ref o_would, .int vo_done, .int vo_seedNow, .int vo_keptTower, .int vo_keptPoured, .long vo_keptSpilt, .ref o_keptAmounts, .ref o_keptDrank, .ref o_keptTurns, .long vo_hash])), (o_readRows, .inl (cI, 54, .inl u24))] := hD
          obtain ⟨k_33, k_34⟩ := ok_32
          refine lv_if_eq (tgt := 93) hx hb dX6_go_86 (by decide) (fun c_35 => ?_) (fun c_35 => ?_)
          · replace hT := cutT c_35 hT
            have g_50 := zeqT (rfl : (r22).toInt = _) (by decide : ((0 : Int32)).toInt = 0) c_35
            refine lv_iconst (v := (0 : Int32)) hx hb dX6_go_93 (by decide) ?_
            have hP9 := hP
            have hD9 := hD
            have hS9 := hS
            have hT : ((0 : Int32), vo_readMany, u23, vo_readMost, u24) = (r, qo_readMany, qo_state, qo_readMost, qo_readRows) := hT
            cases hT
            subst hQ
            exact zz_zret hx hb hr rfl [0, 1] hK hP9 hD9 hS9 rfl rfl ⟨(Or.inl rfl), (by assumption), (by first | assumption | omega), (by first | assumption | omega)⟩ hlocks dX6_go_94
          · replace hT := cutF c_35 hT
            have g_51 := zeqF (rfl : (r22).toInt = _) (by decide : ((0 : Int32)).toInt = 0) c_35
            refine lv_iconst (v := (1 : Int32)) hx hb dX6_go_89 (by decide) ?_
            refine lv_goto (tgt := 94) hx hb dX6_go_90 (by decide) ?_
            have hP9 := hP
            have hD9 := hD
            have hS9 := hS
            have hT : ((1 : Int32), vo_readMany, u23, vo_readMost, u24) = (r, qo_readMany, qo_state, qo_readMost, qo_readRows) := hT
            cases hT
            subst hQ
            exact zz_zret hx hb hr rfl [0, 1] hK hP9 hD9 hS9 rfl rfl ⟨(Or.inr rfl), (by assumption), (by first | assumption | omega), (by first | assumption | omega)⟩ hlocks dX6_go_94
      · rintro ⟨b16, b17⟩ H locs ls ⟨i1, j1, hy1, hy2, hm, -⟩
        try dsimp only at *
        omega
      · intro k2 hex2 ih2
        rintro ⟨b16, b17⟩ H locs ls ⟨i1, j1, hy1, hy2, hm2, hT, hP, hD, hS, hl⟩
        have hP : va_P (dC, dI) vwCl [(o, .inr (6, [.ref o_page, .int vo_pageMany, .int vo_readMany, .int vo_state, .int vo_readMost, .ref o_readRows, .int vo_glasses, .int vo_towersRead, .int vo_poured, .ref o_rows, .ref o_turns, .ref o_amounts, .ref o_drank, .long vo_spilt, .ref o_takes, .ref o_leans, .ref o_would, .int vo_done, .int vo_seedNow, .int vo_keptTower, .int vo_keptPoured, .long vo_keptSpilt, .ref o_keptAmounts, .ref o_keptDrank, .ref o_keptTurns, .long vo_hash])), (o_readRows, .inl (cI, 54, .inl b17))] H := hP
        have hD : va_D A [(o, .inr (6, [.ref o_page, .int vo_pageMany, .int vo_readMany, .int vo_state, .int vo_readMost, .ref o_readRows, .int vo_glasses, .int vo_towersRead, .int vo_poured, .ref o_rows, .ref o_turns, .ref o_amounts, .ref o_drank, .long vo_spilt, .ref o_takes, .ref o_leans, .ref o_would, .int vo_done, .int vo_seedNow, .int vo_keptTower, .int vo_keptPoured, .long vo_keptSpilt, .ref o_keptAmounts, .ref o_keptDrank, .ref o_keptTurns, .long vo_hash])), (o_readRows, .inl (cI, 54, .inl b17))] := hD
        have hl : lv_has ls 5 [(4, .int b16), (0, .ref o), (1, .int p1), (2, .int v1), (3, .int r12)] := hl
        have hT : lp_X6_go_2 (rs_X6_go_2 r12 vo_readMany p1 vo_readMost) v1 (k2 + 1) b16 b17 = (r, qo_readMany, qo_state, qo_readMost, qo_readRows) := hT
        have i1 : 3 ≤ b16.toInt := i1
        have j1 : b16.toInt ≤ 6 := j1
        have hy1 : zRw b17 := hy1
        have hy2 : b17 (v1 + (2 : Int32)).toNatClampNeg = 0 := hy2
        have hm2 : 6 - b16.toInt < (((k2 + 1) : Nat) : Int) := hm2
        try simp only [Int.natCast_add, Int.natCast_one, Nat.cast_add, Nat.cast_one] at hm2
        refine lv_iload hx hb dX6_go_48 (lv_at hl 0 rfl) ?_
        refine lv_bipush (v := (6 : Int32)) hx hb dX6_go_50 (by decide) ?_
        refine lv_icmp_ge (tgt := 71) hx hb dX6_go_52 (by decide) (fun c_27 => ?_) (fun c_27 => ?_)
        · replace hT := cutT c_27 hT
          have g_52 := zleT (by decide : ((6 : Int32)).toInt = 6) (rfl : (b16).toInt = _) c_27
          exact hex2 (b16, b17) _ _ _ ⟨(by omega : 3 ≤ b16.toInt), (by omega : b16.toInt ≤ 6), (by assumption : zRw b17), (by assumption : b17 (v1 + (2 : Int32)).toNatClampNeg = 0), hT, hP.sub [0, 1] rfl, hD.sub [0, 1] rfl rfl, hS, lv_sub hl [1, 2, 4] rfl⟩
        · replace hT := cutF c_27 hT
          have g_53 := zleF (by decide : ((6 : Int32)).toInt = 6) (rfl : (b16).toInt = _) c_27
          refine lv_aload_n hx hb dX6_go_55 rfl (lv_at hl 1 rfl) ?_
          refine va_get (D := (dC, dI)) (ci := 6) (v := .ref o_readRows) (C := RX6) (T := TX6) (N := 26) hx hb hts hwX6 hown hK hP 0 rfl rfl 5 (by decide) hf_13 (fun _ h9 => h9) rfl dX6_go_56 ?_
          refine lv_iload_n hx hb dX6_go_59 rfl (lv_at hl 3 rfl) ?_
          refine lv_iload hx hb dX6_go_60 (lv_at hl 0 rfl) ?_
          refine lv_iadd hx hb dX6_go_62 ?_
          refine lv_iconst (v := (-1 : Int32)) hx hb dX6_go_63 (by decide) ?_
          have e_29 := zaddE (v := (v1 + b16)) (rfl : (v1).toInt = _) (rfl : (b16).toInt = _) rfl (by omega) (by omega)
          have h_28 : vp_in (v1 + b16) 54 := zin (by omega) (by omega)
          refine va_iast hx hb hK hP hD hS 1 0 rfl rfl h_28 dX6_go_64 (fun H locs hP hD hS => ?_)
          obtain ⟨a20, ea20⟩ : ∃ z, (upd b17 (v1 + b16).toNatClampNeg (-1 : Int32)) = z := ⟨_, rfl⟩
          replace hT := cut_n ea20 hT
          have hP : va_P (dC, dI) vwCl [(o, .inr (6, [.ref o_page, .int vo_pageMany, .int vo_readMany, .int vo_state, .int vo_readMost, .ref o_readRows, .int vo_glasses, .int vo_towersRead, .int vo_poured, .ref o_rows, .ref o_turns, .ref o_amounts, .ref o_drank, .long vo_spilt, .ref o_takes, .ref o_leans, .ref o_would, .int vo_done, .int vo_seedNow, .int vo_keptTower, .int vo_keptPoured, .long vo_keptSpilt, .ref o_keptAmounts, .ref o_keptDrank, .ref o_keptTurns, .long vo_hash])), (o_readRows, .inl (cI, 54, .inl a20))] H := by rw [← ea20]; exact hP
          have hD : va_D A [(o, .inr (6, [.ref o_page, .int vo_pageMany, .int vo_readMany, .int vo_state, .int vo_readMost, .ref o_readRows, .int vo_glasses, .int vo_towersRead, .int vo_poured, .ref o_rows, .ref o_turns, .ref o_amounts, .ref o_drank, .long vo_spilt, .ref o_takes, .ref o_leans, .ref o_would, .int vo_done, .int vo_seedNow, .int vo_keptTower, .int vo_keptPoured, .long vo_keptSpilt, .ref o_keptAmounts, .ref o_keptDrank, .ref o_keptTurns, .long vo_hash])), (o_readRows, .inl (cI, 54, .inl a20))] := by rw [← ea20]; exact hD
          have hz64 := zRw_3I hy1 (i := (v1 + b16)) (c := (v1 + (2 : Int32))) (x := (-1)) (by omega) (by omega) (by omega) (Or.inl (by rw [hy2]; decide))
          rw [ea20] at hz64
          have hy1n : zRw a20 := hz64.1
          have hy2n : a20 (v1 + (2 : Int32)).toNatClampNeg = 0 := by rw [hz64.2]; exact hy2
          obtain ⟨v21, ev21⟩ : ∃ y : Int32, (b16 + (1 : Int32)) = y := ⟨_, rfl⟩
          replace hT := cut_n ev21 hT
          try have fv21 := zaddE (rfl : (b16).toInt = _) (by decide : ((1 : Int32)).toInt = 1) ev21 (by omega) (by omega)
          refine lv_iinc (v := v21) (lv' := [(4, .int v21), (0, .ref o), (1, .int p1), (2, .int v1), (3, .int r12)]) hx hb dX6_go_65 hl (k := 0) rfl (by rw [← ev21]; rfl) (by decide) rfl (fun ls hl => ?_)
          refine lv_goto (tgt := 48) hx hb dX6_go_68 (by decide) ?_
          exact ih2 (v21, a20) _ _ _ ⟨(by omega : 3 ≤ v21.toInt), (by omega : v21.toInt ≤ 6), (by assumption : zRw a20), (by assumption : a20 (v1 + (2 : Int32)).toNatClampNeg = 0), (by omega : 6 - v21.toInt < ((k2 : Nat) : Int)), hT, hP.sub [0, 1] rfl, hD.sub [0, 1] rfl rfl, hS, lv_sub hl [0, 1, 2, 3, 4] rfl⟩
    · intro xv hT hM
      refine lv_icmp_ne (tgt := 34) hx hb dX6_go_27 (by decide) (fun c_21 => ?_) (fun c_21 => ?_)
      · replace hT := cutF c_21 hT
        have g_54 := zeqF (rfl : (r12).toInt = _) (by decide : ((-1 : Int32)).toInt = -1) c_21
        refine lv_iload_n hx hb dX6_go_34 rfl (lv_at hl 0 rfl) ?_
        have hP9 := hP
        have hD9 := hD
        have hS9 := hS
        have hl9 := hl
        have hM9 := hM
        have hT : r12 = xv := hT
        subst hT
        exact hM9 _ _ _ ⟨hP9.sub [0, 1] rfl, hD9.sub [0, 1] rfl rfl, hS9, lv_sub hl9 [2, 3, 1, 0] rfl⟩
      · replace hT := cutT c_21 hT
        have g_55 := zeqT (rfl : (r12).toInt = _) (by decide : ((-1 : Int32)).toInt = -1) c_21
        refine lv_iconst (v := (0 : Int32)) hx hb dX6_go_30 (by decide) ?_
        refine lv_goto (tgt := 35) hx hb dX6_go_31 (by decide) ?_
        have hP9 := hP
        have hD9 := hD
        have hS9 := hS
        have hl9 := hl
        have hM9 := hM
        have hT : (0 : Int32) = xv := hT
        subst hT
        exact hM9 _ _ _ ⟨hP9.sub [0, 1] rfl, hD9.sub [0, 1] rfl rfl, hS9, lv_sub hl9 [2, 3, 1, 0] rfl⟩

def rs_X6_faultOf_2  (x6 : Int32) (x7 : Int32) (x8 : Int32) (x9 : Int32) (x10 : Nat → Int32) : Int32 × Int32 × Int32 × Int32 × (Nat → Int32) :=
 (x6, x7, x8, x9, x10)
def lp_X6_faultOf_2 (vo_pageMany : Int32) (ct2 : Int32 → Int32 → Int32 → Int32 → (Nat → Int32) → (Int32 × Int32 × Int32 × Int32 × (Nat → Int32))) (vo_page : Nat → Int32) : Nat → Int32 → Int32 → Int32 → Int32 → (Nat → Int32) → (Int32 × Int32 × Int32 × Int32 × (Nat → Int32))
  | 0, _, _, _, _, _ => default
  | k + 1, b1, b2, b3, b4, b5 =>
  if vo_pageMany ≤ b1 then
   (ct2 b1 b2 b3 b4 b5)
  else
   cut5 (m_X6_go b2 b3 b4 b5 (vo_page b1.toNatClampNeg)) (fun (r11 : Int32) (u12 : Int32) (u13 : Int32) (u14 : Int32) (u15 : Nat → Int32) =>
   if r11 = (0 : Int32) then
    (ct2 b1 u12 u13 u14 u15)
   else
    cut (b1 + (1 : Int32)) (fun (v16 : Int32) =>
    (lp_X6_faultOf_2 vo_pageMany ct2 vo_page k v16 u12 u13 u14 u15)))
def m_X6_faultOf (vo_pageMany : Int32) (vo_page : Nat → Int32) (vo_readRows : Nat → Int32) : Int32 × Int32 × Int32 × Int32 × (Nat → Int32) :=
 (lp_X6_faultOf_2 vo_pageMany rs_X6_faultOf_2 vo_page 72 (0 : Int32) (0 : Int32) (0 : Int32) (0 : Int32) vo_readRows)
set_option maxHeartbeats 4000000 in
set_option maxRecDepth 100000 in
theorem k_X6_faultOf (l : Launch) (dC : Nat → ClassId) (dI : Nat → Nat → Nat) (cI cJ cC : ClassId) (sz : Nat) (o o_page o_readRows o_rows o_turns o_amounts o_drank o_takes o_leans o_would o_keptAmounts o_keptDrank o_keptTurns : Nat) (vo_pageMany : Int32) (vo_readMany : Int32) (vo_state : Int32) (vo_readMost : Int32) (vo_glasses : Int32) (vo_towersRead : Int32) (vo_poured : Int32) (vo_spilt : Int64) (vo_done : Int32) (vo_seedNow : Int32) (vo_keptTower : Int32) (vo_keptPoured : Int32) (vo_keptSpilt : Int64) (vo_hash : Int64) (vo_page : Nat → Int32) (vo_readRows : Nat → Int32) (r : Int32) (qo_readMany : Int32) (qo_state : Int32) (qo_readMost : Int32) (qo_readRows : Nat → Int32) (hT : m_X6_faultOf vo_pageMany vo_page vo_readRows = (r, qo_readMany, qo_state, qo_readMost, qo_readRows)) (hp0 : 0 ≤ vo_pageMany.toInt) (hp70 : vo_pageMany.toInt ≤ 70) (hrr : zRw vo_readRows) : Met l yX6_faultOf wsX6_faultOf ({ frames := 3, cells := 0, slots := 0, locals := 73 }) (zPc [.ref o] (dC, dI) (zTy cI cJ cC) [(o, .inr (6, [.ref o_page, .int vo_pageMany, .int vo_readMany, .int vo_state, .int vo_readMost, .ref o_readRows, .int vo_glasses, .int vo_towersRead, .int vo_poured, .ref o_rows, .ref o_turns, .ref o_amounts, .ref o_drank, .long vo_spilt, .ref o_takes, .ref o_leans, .ref o_would, .int vo_done, .int vo_seedNow, .int vo_keptTower, .int vo_keptPoured, .long vo_keptSpilt, .ref o_keptAmounts, .ref o_keptDrank, .ref o_keptTurns, .long vo_hash])), (o_page, .inl (cI, 70, .inl vo_page)), (o_readRows, .inl (cI, 54, .inl vo_readRows))] sz) (zQi r ((zRw qo_readRows) ∧ (0 ≤ qo_readMany.toInt) ∧ (qo_readMany.toInt ≤ 8) ∧ (0 ≤ r.toInt) ∧ (r.toInt ≤ vo_pageMany.toInt)) (dC, dI) (zTy cI cJ cC) [(o, .inr (6, [.ref o_page, .int vo_pageMany, .int qo_readMany, .int qo_state, .int qo_readMost, .ref o_readRows, .int vo_glasses, .int vo_towersRead, .int vo_poured, .ref o_rows, .ref o_turns, .ref o_amounts, .ref o_drank, .long vo_spilt, .ref o_takes, .ref o_leans, .ref o_would, .int vo_done, .int vo_seedNow, .int vo_keptTower, .int vo_keptPoured, .long vo_keptSpilt, .ref o_keptAmounts, .ref o_keptDrank, .ref o_keptTurns, .long vo_hash])), (o_page, .inl (cI, 70, .inl vo_page)), (o_readRows, .inl (cI, 54, .inl qo_readRows))] (va_A [(o, .inr (6, [.ref o_page, .int vo_pageMany, .int vo_readMany, .int vo_state, .int vo_readMost, .ref o_readRows, .int vo_glasses, .int vo_towersRead, .int vo_poured, .ref o_rows, .ref o_turns, .ref o_amounts, .ref o_drank, .long vo_spilt, .ref o_takes, .ref o_leans, .ref o_would, .int vo_done, .int vo_seedNow, .int vo_keptTower, .int vo_keptPoured, .long vo_keptSpilt, .ref o_keptAmounts, .ref o_keptDrank, .ref o_keptTurns, .long vo_hash])), (o_page, .inl (cI, 70, .inl vo_page)), (o_readRows, .inl (cI, 54, .inl vo_readRows))] sz)) 0 0 (va_A [(o, .inr (6, [.ref o_page, .int vo_pageMany, .int vo_readMany, .int vo_state, .int vo_readMost, .ref o_readRows, .int vo_glasses, .int vo_towersRead, .int vo_poured, .ref o_rows, .ref o_turns, .ref o_amounts, .ref o_drank, .long vo_spilt, .ref o_takes, .ref o_leans, .ref o_would, .int vo_done, .int vo_seedNow, .int vo_keptTower, .int vo_keptPoured, .long vo_keptSpilt, .ref o_keptAmounts, .ref o_keptDrank, .ref o_keptTurns, .long vo_hash])), (o_page, .inl (cI, 70, .inl vo_page)), (o_readRows, .inl (cI, 54, .inl vo_readRows))] sz) := by
  refine Met.ofW (cc := cX6_faultOf) (maxL := 2) (ret := (some .int)) (by decide) rfl ?_
  intro p e s m args below meth c s₁ B hml hv
  obtain ⟨rfl, hsz, hP, hK, hD0⟩ := hv
  have hx := B.exec
  have hb := B.bytes
  have hr := B.returns
  have hts := atoms_spec (ws := wsX6_faultOf) B.pre
  have hown : s.vm.findClass RX6 = some m.cls := findClass_of_methodNamed B.named
  have hlocks := B.notSynchronized
  subst hsz
  have hD := hD0.self (sz := s.heap.size)
  generalize hAe : va_A [(o, .inr (6, [.ref o_page, .int vo_pageMany, .int vo_readMany, .int vo_state, .int vo_readMost, .ref o_readRows, .int vo_glasses, .int vo_towersRead, .int vo_poured, .ref o_rows, .ref o_turns, .ref o_amounts, .ref o_drank, .long vo_spilt, .ref o_takes, .ref o_leans, .ref o_would, .int vo_done, .int vo_seedNow, .int vo_keptTower, .int vo_keptPoured, .long vo_keptSpilt, .ref o_keptAmounts, .ref o_keptDrank, .ref o_keptTurns, .long vo_hash])), (o_page, .inl (cI, 70, .inl vo_page)), (o_readRows, .inl (cI, 54, .inl vo_readRows))] s.heap.size = A at hD ⊢
  have hA : ∀ q : Nat, s.heap.size ≤ q → A q := fun q h => by rw [← hAe]; exact Or.inr h
  have hS : va_S A s.heap s.heap [] := va_S.rf
  have hP : va_P (dC, dI) vwCl [(o, .inr (6, [.ref o_page, .int vo_pageMany, .int vo_readMany, .int vo_state, .int vo_readMost, .ref o_readRows, .int vo_glasses, .int vo_towersRead, .int vo_poured, .ref o_rows, .ref o_turns, .ref o_amounts, .ref o_drank, .long vo_spilt, .ref o_takes, .ref o_leans, .ref o_would, .int vo_done, .int vo_seedNow, .int vo_keptTower, .int vo_keptPoured, .long vo_keptSpilt, .ref o_keptAmounts, .ref o_keptDrank, .ref o_keptTurns, .long vo_hash])), (o_page, .inl (cI, 70, .inl vo_page)), (o_readRows, .inl (cI, 54, .inl vo_readRows))] s.heap := hP
  have hK : va_K (dC, dI) vwCl (zTy cI cJ cC) s := hK
  have hl := lv_entry ([.ref o]) (n := 2) (Nat.le_of_ble_eq_true rfl)
  rw [lg_entry_eq]
  generalize (lg_sl ([.ref o]) ++ List.replicate (2 - (lg_sl ([.ref o])).length) Slot.unset).toArray = ls at hl ⊢
  have hl : lv_has ls 2 [(0, .ref o)] := hl
  refine zz_start hP hS (fun Q hQ H locs hP hS => ?_)
  have hwX6 : ∀ w ∈ u_ws RX6 TX6 26, w ∈ wsX6_faultOf := by decide +kernel
  have hf_53 := (hts (.fieldLink RX6 53 "PouredTopmostModel" "pageMany" "I") (by decide +kernel))
  have hf_56 := (hts (.fieldLink RX6 56 "PouredTopmostModel" "readMany" "I") (by decide +kernel))
  have hf_59 := (hts (.fieldLink RX6 59 "PouredTopmostModel" "state" "I") (by decide +kernel))
  have hf_7 := (hts (.fieldLink RX6 7 "PouredTopmostModel" "page" "[I") (by decide +kernel))
  have hf_72 := (hts (.fieldLink RX6 72 "PouredTopmostModel" "readMost" "I") (by decide +kernel))
  refine lv_aload_n hx hb dX6_faultOf_0 rfl (lv_at hl 0 rfl) ?_
  refine lv_iconst (v := (0 : Int32)) hx hb dX6_faultOf_1 (by decide) ?_
  refine va_put (D := (dC, dI)) (ci := 6) (v := .int (0 : Int32)) (ty := .int) (C := RX6) (T := TX6) (N := 26) hx hb hts hwX6 tyX6 tyX6_ok nmX6 hown hK hP hD hS 0 rfl rfl 2 (by decide) hf_56 (fun _ h9 => h9) rfl (by decide +kernel) rfl rfl (Nat.le_of_ble_eq_true rfl) dX6_faultOf_2 (fun H locs hP hD hS => ?_)
  have hP : va_P (dC, dI) vwCl [(o, .inr (6, [.ref o_page, .int vo_pageMany, .int (0 : Int32), .int vo_state, .int vo_readMost, .ref o_readRows, .int vo_glasses, .int vo_towersRead, .int vo_poured, .ref o_rows, .ref o_turns, .ref o_amounts, .ref o_drank, .long vo_spilt, .ref o_takes, .ref o_leans, .ref o_would, .int vo_done, .int vo_seedNow, .int vo_keptTower, .int vo_keptPoured, .long vo_keptSpilt, .ref o_keptAmounts, .ref o_keptDrank, .ref o_keptTurns, .long vo_hash])), (o_page, .inl (cI, 70, .inl vo_page)), (o_readRows, .inl (cI, 54, .inl vo_readRows))] H := hP
  have hD : va_D A [(o, .inr (6, [.ref o_page, .int vo_pageMany, .int (0 : Int32), .int vo_state, .int vo_readMost, .ref o_readRows, .int vo_glasses, .int vo_towersRead, .int vo_poured, .ref o_rows, .ref o_turns, .ref o_amounts, .ref o_drank, .long vo_spilt, .ref o_takes, .ref o_leans, .ref o_would, .int vo_done, .int vo_seedNow, .int vo_keptTower, .int vo_keptPoured, .long vo_keptSpilt, .ref o_keptAmounts, .ref o_keptDrank, .ref o_keptTurns, .long vo_hash])), (o_page, .inl (cI, 70, .inl vo_page)), (o_readRows, .inl (cI, 54, .inl vo_readRows))] := hD
  refine lv_aload_n hx hb dX6_faultOf_5 rfl (lv_at hl 0 rfl) ?_
  refine lv_iconst (v := (0 : Int32)) hx hb dX6_faultOf_6 (by decide) ?_
  refine va_put (D := (dC, dI)) (ci := 6) (v := .int (0 : Int32)) (ty := .int) (C := RX6) (T := TX6) (N := 26) hx hb hts hwX6 tyX6 tyX6_ok nmX6 hown hK hP hD hS 0 rfl rfl 4 (by decide) hf_72 (fun _ h9 => h9) rfl (by decide +kernel) rfl rfl (Nat.le_of_ble_eq_true rfl) dX6_faultOf_7 (fun H locs hP hD hS => ?_)
  have hP : va_P (dC, dI) vwCl [(o, .inr (6, [.ref o_page, .int vo_pageMany, .int (0 : Int32), .int vo_state, .int (0 : Int32), .ref o_readRows, .int vo_glasses, .int vo_towersRead, .int vo_poured, .ref o_rows, .ref o_turns, .ref o_amounts, .ref o_drank, .long vo_spilt, .ref o_takes, .ref o_leans, .ref o_would, .int vo_done, .int vo_seedNow, .int vo_keptTower, .int vo_keptPoured, .long vo_keptSpilt, .ref o_keptAmounts, .ref o_keptDrank, .ref o_keptTurns, .long vo_hash])), (o_page, .inl (cI, 70, .inl vo_page)), (o_readRows, .inl (cI, 54, .inl vo_readRows))] H := hP
  have hD : va_D A [(o, .inr (6, [.ref o_page, .int vo_pageMany, .int (0 : Int32), .int vo_state, .int (0 : Int32), .ref o_readRows, .int vo_glasses, .int vo_towersRead, .int vo_poured, .ref o_rows, .ref o_turns, .ref o_amounts, .ref o_drank, .long vo_spilt, .ref o_takes, .ref o_leans, .ref o_would, .int vo_done, .int vo_seedNow, .int vo_keptTower, .int vo_keptPoured, .long vo_keptSpilt, .ref o_keptAmounts, .ref o_keptDrank, .ref o_keptTurns, .long vo_hash])), (o_page, .inl (cI, 70, .inl vo_page)), (o_readRows, .inl (cI, 54, .inl vo_readRows))] := hD
  refine lv_aload_n hx hb dX6_faultOf_10 rfl (lv_at hl 0 rfl) ?_
  refine lv_iconst (v := (0 : Int32)) hx hb dX6_faultOf_11 (by decide) ?_
  refine va_put (D := (dC, dI)) (ci := 6) (v := .int (0 : Int32)) (ty := .int) (C := RX6) (T := TX6) (N := 26) hx hb hts hwX6 tyX6 tyX6_ok nmX6 hown hK hP hD hS 0 rfl rfl 3 (by decide) hf_59 (fun _ h9 => h9) rfl (by decide +kernel) rfl rfl (Nat.le_of_ble_eq_true rfl) dX6_faultOf_12 (fun H locs hP hD hS => ?_)
  have hP : va_P (dC, dI) vwCl [(o, .inr (6, [.ref o_page, .int vo_pageMany, .int (0 : Int32), .int (0 : Int32), .int (0 : Int32), .ref o_readRows, .int vo_glasses, .int vo_towersRead, .int vo_poured, .ref o_rows, .ref o_turns, .ref o_amounts, .ref o_drank, .long vo_spilt, .ref o_takes, .ref o_leans, .ref o_would, .int vo_done, .int vo_seedNow, .int vo_keptTower, .int vo_keptPoured, .long vo_keptSpilt, .ref o_keptAmounts, .ref o_keptDrank, .ref o_keptTurns, .long vo_hash])), (o_page, .inl (cI, 70, .inl vo_page)), (o_readRows, .inl (cI, 54, .inl vo_readRows))] H := hP
  have hD : va_D A [(o, .inr (6, [.ref o_page, .int vo_pageMany, .int (0 : Int32), .int (0 : Int32), .int (0 : Int32), .ref o_readRows, .int vo_glasses, .int vo_towersRead, .int vo_poured, .ref o_rows, .ref o_turns, .ref o_amounts, .ref o_drank, .long vo_spilt, .ref o_takes, .ref o_leans, .ref o_would, .int vo_done, .int vo_seedNow, .int vo_keptTower, .int vo_keptPoured, .long vo_keptSpilt, .ref o_keptAmounts, .ref o_keptDrank, .ref o_keptTurns, .long vo_hash])), (o_page, .inl (cI, 70, .inl vo_page)), (o_readRows, .inl (cI, 54, .inl vo_readRows))] := hD
  refine lv_iconst (v := (0 : Int32)) hx hb dX6_faultOf_15 (by decide) ?_
  refine lv_istore_n (lv' := [(1, .int (0 : Int32)), (0, .ref o)]) hx hb dX6_faultOf_16 rfl hl (by decide) rfl (fun ls hl => ?_)
  have hz_10 : ((0 : Int32)).toInt = 0 := by decide
  have hz_11 : ((0 : Int32)).toInt = 0 := by decide
  have hz_12 : ((0 : Int32)).toInt = 0 := by decide
  have hz_13 : ((0 : Int32)).toInt = 0 := by decide
  refine zz_loop (α := Int32 × Int32 × Int32 × Int32 × (Nat → Int32)) 44 (fun k a H locs ls => (0 ≤ a.1.toInt) ∧ (a.1.toInt ≤ vo_pageMany.toInt) ∧ (zRw a.2.2.2.2) ∧ (0 ≤ a.2.1.toInt) ∧ (a.2.1.toInt ≤ 8) ∧ (vo_pageMany.toInt - a.1.toInt < ((k : Nat) : Int)) ∧ lp_X6_faultOf_2 vo_pageMany rs_X6_faultOf_2 vo_page k a.1 a.2.1 a.2.2.1 a.2.2.2.1 a.2.2.2.2 = (r, qo_readMany, qo_state, qo_readMost, qo_readRows) ∧ va_P (dC, dI) vwCl [(o, .inr (6, [.ref o_page, .int vo_pageMany, .int a.2.1, .int a.2.2.1, .int a.2.2.2.1, .ref o_readRows, .int vo_glasses, .int vo_towersRead, .int vo_poured, .ref o_rows, .ref o_turns, .ref o_amounts, .ref o_drank, .long vo_spilt, .ref o_takes, .ref o_leans, .ref o_would, .int vo_done, .int vo_seedNow, .int vo_keptTower, .int vo_keptPoured, .long vo_keptSpilt, .ref o_keptAmounts, .ref o_keptDrank, .ref o_keptTurns, .long vo_hash])), (o_page, .inl (cI, 70, .inl vo_page)), (o_readRows, .inl (cI, 54, .inl a.2.2.2.2))] H ∧ va_D A [(o, .inr (6, [.ref o_page, .int vo_pageMany, .int a.2.1, .int a.2.2.1, .int a.2.2.2.1, .ref o_readRows, .int vo_glasses, .int vo_towersRead, .int vo_poured, .ref o_rows, .ref o_turns, .ref o_amounts, .ref o_drank, .long vo_spilt, .ref o_takes, .ref o_leans, .ref o_would, .int vo_done, .int vo_seedNow, .int vo_keptTower, .int vo_keptPoured, .long vo_keptSpilt, .ref o_keptAmounts, .ref o_keptDrank, .ref o_keptTurns, .long vo_hash])), (o_page, .inl (cI, 70, .inl vo_page)), (o_readRows, .inl (cI, 54, .inl a.2.2.2.2))] ∧ va_S A s.heap H locs ∧ lv_has ls 2 [(1, .int a.1), (0, .ref o)]) (fun a H locs ls => (0 ≤ a.1.toInt) ∧ (a.1.toInt ≤ vo_pageMany.toInt) ∧ (zRw a.2.2.2.2) ∧ (0 ≤ a.2.1.toInt) ∧ (a.2.1.toInt ≤ 8) ∧ rs_X6_faultOf_2 a.1 a.2.1 a.2.2.1 a.2.2.2.1 a.2.2.2.2 = (r, qo_readMany, qo_state, qo_readMost, qo_readRows) ∧ va_P (dC, dI) vwCl [(o, .inr (6, [.ref o_page, .int vo_pageMany, .int a.2.1, .int a.2.2.1, .int a.2.2.2.1, .ref o_readRows, .int vo_glasses, .int vo_towersRead, .int vo_poured, .ref o_rows, .ref o_turns, .ref o_amounts, .ref o_drank, .long vo_spilt, .ref o_takes, .ref o_leans, .ref o_would, .int vo_done, .int vo_seedNow, .int vo_keptTower, .int vo_keptPoured, .long vo_keptSpilt, .ref o_keptAmounts, .ref o_keptDrank, .ref o_keptTurns, .long vo_hash])), (o_page, .inl (cI, 70, .inl vo_page)), (o_readRows, .inl (cI, 54, .inl a.2.2.2.2))] H ∧ va_D A [(o, .inr (6, [.ref o_page, .int vo_pageMany, .int a.2.1, .int a.2.2.1, .int a.2.2.2.1, .ref o_readRows, .int vo_glasses, .int vo_towersRead, .int vo_poured, .ref o_rows, .ref o_turns, .ref o_amounts, .ref o_drank, .long vo_spilt, .ref o_takes, .ref o_leans, .ref o_would, .int vo_done, .int vo_seedNow, .int vo_keptTower, .int vo_keptPoured, .long vo_keptSpilt, .ref o_keptAmounts, .ref o_keptDrank, .ref o_keptTurns, .long vo_hash])), (o_page, .inl (cI, 70, .inl vo_page)), (o_readRows, .inl (cI, 54, .inl a.2.2.2.2))] ∧ va_S A s.heap H locs ∧ lv_has ls 2 [(1, .int a.1)]) ?_ ?_ ?_ 72 ((0 : Int32), (0 : Int32), (0 : Int32), (0 : Int32), vo_readRows) ⟨(by omega : 0 ≤ (0 : Int32).toInt), (by omega : (0 : Int32).toInt ≤ vo_pageMany.toInt), (by assumption : zRw vo_readRows), (by omega : 0 ≤ (0 : Int32).toInt), (by omega : (0 : Int32).toInt ≤ 8), (by omega : vo_pageMany.toInt - (0 : Int32).toInt < ((72 : Nat) : Int)), hT, hP.sub [0, 1, 2] rfl, hD.sub [0, 1, 2] rfl rfl, hS, lv_sub hl [0, 1] rfl⟩
  · rintro ⟨x6, x7, x8, x9, x10⟩ H locs ls ⟨i1, j1, hy1, hy2, hy3, hT, hP, hD, hS, hl⟩
    have hP : va_P (dC, dI) vwCl [(o, .inr (6, [.ref o_page, .int vo_pageMany, .int x7, .int x8, .int x9, .ref o_readRows, .int vo_glasses, .int vo_towersRead, .int vo_poured, .ref o_rows, .ref o_turns, .ref o_amounts, .ref o_drank, .long vo_spilt, .ref o_takes, .ref o_leans, .ref o_would, .int vo_done, .int vo_seedNow, .int vo_keptTower, .int vo_keptPoured, .long vo_keptSpilt, .ref o_keptAmounts, .ref o_keptDrank, .ref o_keptTurns, .long vo_hash])), (o_page, .inl (cI, 70, .inl vo_page)), (o_readRows, .inl (cI, 54, .inl x10))] H := hP
    have hD : va_D A [(o, .inr (6, [.ref o_page, .int vo_pageMany, .int x7, .int x8, .int x9, .ref o_readRows, .int vo_glasses, .int vo_towersRead, .int vo_poured, .ref o_rows, .ref o_turns, .ref o_amounts, .ref o_drank, .long vo_spilt, .ref o_takes, .ref o_leans, .ref o_would, .int vo_done, .int vo_seedNow, .int vo_keptTower, .int vo_keptPoured, .long vo_keptSpilt, .ref o_keptAmounts, .ref o_keptDrank, .ref o_keptTurns, .long vo_hash])), (o_page, .inl (cI, 70, .inl vo_page)), (o_readRows, .inl (cI, 54, .inl x10))] := hD
    have hl : lv_has ls 2 [(1, .int x6)] := hl
    have hT : rs_X6_faultOf_2 x6 x7 x8 x9 x10 = (r, qo_readMany, qo_state, qo_readMost, qo_readRows) := hT
    have i1 : 0 ≤ x6.toInt := i1
    have j1 : x6.toInt ≤ vo_pageMany.toInt := j1
    have hy1 : zRw x10 := hy1
    have hy2 : 0 ≤ x7.toInt := hy2
    have hy3 : x7.toInt ≤ 8 := hy3
    refine lv_iload_n hx hb dX6_faultOf_44 rfl (lv_at hl 0 rfl) ?_
    have hP9 := hP
    have hD9 := hD
    have hS9 := hS
    have hT : (x6, x7, x8, x9, x10) = (r, qo_readMany, qo_state, qo_readMost, qo_readRows) := hT
    cases hT
    subst hQ
    exact zz_iret hx hb hr [0, 1, 2] hK hP9 hD9 hS9 rfl rfl ⟨(by assumption), (by omega), (by omega), (by omega), (by omega)⟩ hlocks dX6_faultOf_45
  · rintro ⟨b1, b2, b3, b4, b5⟩ H locs ls ⟨i1, j1, hy1, hy2, hy3, hm, -⟩
    try dsimp only at *
    omega
  · intro k2 hex2 ih2
    rintro ⟨b1, b2, b3, b4, b5⟩ H locs ls ⟨i1, j1, hy1, hy2, hy3, hm2, hT, hP, hD, hS, hl⟩
    have hP : va_P (dC, dI) vwCl [(o, .inr (6, [.ref o_page, .int vo_pageMany, .int b2, .int b3, .int b4, .ref o_readRows, .int vo_glasses, .int vo_towersRead, .int vo_poured, .ref o_rows, .ref o_turns, .ref o_amounts, .ref o_drank, .long vo_spilt, .ref o_takes, .ref o_leans, .ref o_would, .int vo_done, .int vo_seedNow, .int vo_keptTower, .int vo_keptPoured, .long vo_keptSpilt, .ref o_keptAmounts, .ref o_keptDrank, .ref o_keptTurns, .long vo_hash])), (o_page, .inl (cI, 70, .inl vo_page)), (o_readRows, .inl (cI, 54, .inl b5))] H := hP
    have hD : va_D A [(o, .inr (6, [.ref o_page, .int vo_pageMany, .int b2, .int b3, .int b4, .ref o_readRows, .int vo_glasses, .int vo_towersRead, .int vo_poured, .ref o_rows, .ref o_turns, .ref o_amounts, .ref o_drank, .long vo_spilt, .ref o_takes, .ref o_leans, .ref o_would, .int vo_done, .int vo_seedNow, .int vo_keptTower, .int vo_keptPoured, .long vo_keptSpilt, .ref o_keptAmounts, .ref o_keptDrank, .ref o_keptTurns, .long vo_hash])), (o_page, .inl (cI, 70, .inl vo_page)), (o_readRows, .inl (cI, 54, .inl b5))] := hD
    have hl : lv_has ls 2 [(1, .int b1), (0, .ref o)] := hl
    have hT : lp_X6_faultOf_2 vo_pageMany rs_X6_faultOf_2 vo_page (k2 + 1) b1 b2 b3 b4 b5 = (r, qo_readMany, qo_state, qo_readMost, qo_readRows) := hT
    have i1 : 0 ≤ b1.toInt := i1
    have j1 : b1.toInt ≤ vo_pageMany.toInt := j1
    have hy1 : zRw b5 := hy1
    have hy2 : 0 ≤ b2.toInt := hy2
    have hy3 : b2.toInt ≤ 8 := hy3
    have hm2 : vo_pageMany.toInt - b1.toInt < (((k2 + 1) : Nat) : Int) := hm2
    try simp only [Int.natCast_add, Int.natCast_one, Nat.cast_add, Nat.cast_one] at hm2
    refine lv_iload_n hx hb dX6_faultOf_17 rfl (lv_at hl 0 rfl) ?_
    refine lv_aload_n hx hb dX6_faultOf_18 rfl (lv_at hl 1 rfl) ?_
    refine va_get (D := (dC, dI)) (ci := 6) (v := .int vo_pageMany) (C := RX6) (T := TX6) (N := 26) hx hb hts hwX6 hown hK hP 0 rfl rfl 1 (by decide) hf_53 (fun _ h9 => h9) rfl dX6_faultOf_19 ?_
    refine lv_icmp_ge (tgt := 44) hx hb dX6_faultOf_22 (by decide) (fun c_1 => ?_) (fun c_1 => ?_)
    · replace hT := cutT c_1 hT
      have g_14 := zleT (rfl : (vo_pageMany).toInt = _) (rfl : (b1).toInt = _) c_1
      exact hex2 (b1, b2, b3, b4, b5) _ _ _ ⟨(by omega : 0 ≤ b1.toInt), (by omega : b1.toInt ≤ vo_pageMany.toInt), (by assumption : zRw b5), (by omega : 0 ≤ b2.toInt), (by omega : b2.toInt ≤ 8), hT, hP.sub [0, 1, 2] rfl, hD.sub [0, 1, 2] rfl rfl, hS, lv_sub hl [0] rfl⟩
    · replace hT := cutF c_1 hT
      have g_15 := zleF (rfl : (vo_pageMany).toInt = _) (rfl : (b1).toInt = _) c_1
      refine lv_aload_n hx hb dX6_faultOf_25 rfl (lv_at hl 1 rfl) ?_
      refine lv_aload_n hx hb dX6_faultOf_26 rfl (lv_at hl 1 rfl) ?_
      refine va_get (D := (dC, dI)) (ci := 6) (v := .ref o_page) (C := RX6) (T := TX6) (N := 26) hx hb hts hwX6 hown hK hP 0 rfl rfl 0 (by decide) hf_7 (fun _ h9 => h9) rfl dX6_faultOf_27 ?_
      refine lv_iload_n hx hb dX6_faultOf_30 rfl (lv_at hl 0 rfl) ?_
      have h_2 : vp_in b1 70 := zin (by omega) (by omega)
      refine va_iald hx hb hK hP 1 0 rfl rfl h_2 dX6_faultOf_31 ?_
      obtain ⟨r11, u12, u13, u14, u15, ev_3⟩ : ∃ x0 x1 x2 x3 x4, (m_X6_go b2 b3 b4 b5 (vo_page b1.toNatClampNeg)) = (x0, x1, x2, x3, x4) := ⟨_, _, _, _, _, rfl⟩
      replace hT := cut5_n ev_3 hT
      refine zz_ci [0, 2] [1] (wr := [(o_page, .inl (cI, 70, .inl vo_page))]) (w1 := [(o, .inr (6, [.ref o_page, .int vo_pageMany, .int u12, .int u13, .int u14, .ref o_readRows, .int vo_glasses, .int vo_towersRead, .int vo_poured, .ref o_rows, .ref o_turns, .ref o_amounts, .ref o_drank, .long vo_spilt, .ref o_takes, .ref o_leans, .ref o_would, .int vo_done, .int vo_seedNow, .int vo_keptTower, .int vo_keptPoured, .long vo_keptSpilt, .ref o_keptAmounts, .ref o_keptDrank, .ref o_keptTurns, .long vo_hash])), (o_readRows, .inl (cI, 54, .inl u15))]) (va_runV (As := [.int (vo_page b1.toNatClampNeg)]) (rest := []) ⟨hx, hb, hml, hown, hts⟩ (k_X6_go l dC dI cI cJ cC H.size o o_page o_readRows o_rows o_turns o_amounts o_drank o_takes o_leans o_would o_keptAmounts o_keptDrank o_keptTurns vo_pageMany b2 b3 b4 vo_glasses vo_towersRead vo_poured vo_spilt vo_done vo_seedNow vo_keptTower vo_keptPoured vo_keptSpilt vo_hash b5 (vo_page b1.toNatClampNeg) r11 u12 u13 u14 u15 ev_3 (by first | omega | decide) (by first | omega | decide) hy1) (cwV 1 hts gX6_faultOf_X6_go rfl rfl rfl (by decide +kernel) ⟨Nat.le_of_ble_eq_true rfl, Nat.le_of_ble_eq_true rfl⟩) (zz_preV [0, 2] hK hP hD rfl rfl (va_recv hK hP (ci := 6) (q0 := 0) rfl rfl)) rfl rfl hl.1 rfl (lv_room (Nat.le_of_ble_eq_true rfl)) dX6_faultOf_32 ⟨Nat.zero_le _, Nat.zero_le _⟩) hP hD hS hA rfl rfl rfl (by decide) (fun ok_4 H locs hP hD hS => ?_)
      have hP : va_P (dC, dI) vwCl [(o_page, .inl (cI, 70, .inl vo_page)), (o, .inr (6, [.ref o_page, .int vo_pageMany, .int u12, .int u13, .int u14, .ref o_readRows, .int vo_glasses, .int vo_towersRead, .int vo_poured, .ref o_rows, .ref o_turns, .ref o_amounts, .ref o_drank, .long vo_spilt, .ref o_takes, .ref o_leans, .ref o_would, .int vo_done, .int vo_seedNow, .int vo_keptTower, .int vo_keptPoured, .long vo_keptSpilt, .ref o_keptAmounts, .ref o_keptDrank, .ref o_keptTurns, .long vo_hash])), (o_readRows, .inl (cI, 54, .inl u15))] H := hP
      have hD : va_D A [(o_page, .inl (cI, 70, .inl vo_page)), (o, .inr (6, [.ref o_page, .int vo_pageMany, .int u12, .int u13, .int u14, .ref o_readRows, .int vo_glasses, .int vo_towersRead, .int vo_poured, .ref o_rows, .ref o_turns, .ref o_amounts, .ref o_drank, .long vo_spilt, .ref o_takes, .ref o_leans, .ref o_would, .int vo_done, .int vo_seedNow, .int vo_keptTower, .int vo_keptPoured, .long vo_keptSpilt, .ref o_keptAmounts, .ref o_keptDrank, .ref o_keptTurns, .long vo_hash])), (o_readRows, .inl (cI, 54, .inl u15))] := hD
      obtain ⟨k_5, k_6, k_7, k_8⟩ := ok_4
      refine lv_if_eq (tgt := 44) hx hb dX6_faultOf_35 (by decide) (fun c_9 => ?_) (fun c_9 => ?_)
      · replace hT := cutT c_9 hT
        have g_16 := zeqT (rfl : (r11).toInt = _) (by decide : ((0 : Int32)).toInt = 0) c_9
        exact hex2 (b1, u12, u13, u14, u15) _ _ _ ⟨(by omega : 0 ≤ b1.toInt), (by omega : b1.toInt ≤ vo_pageMany.toInt), (by assumption : zRw u15), (by omega : 0 ≤ u12.toInt), (by omega : u12.toInt ≤ 8), hT, hP.sub [1, 0, 2] rfl, hD.sub [1, 0, 2] rfl rfl, hS, lv_sub hl [0] rfl⟩
      · replace hT := cutF c_9 hT
        have g_17 := zeqF (rfl : (r11).toInt = _) (by decide : ((0 : Int32)).toInt = 0) c_9
        obtain ⟨v16, ev16⟩ : ∃ y : Int32, (b1 + (1 : Int32)) = y := ⟨_, rfl⟩
        replace hT := cut_n ev16 hT
        try have fv16 := zaddE (rfl : (b1).toInt = _) (by decide : ((1 : Int32)).toInt = 1) ev16 (by omega) (by omega)
        refine lv_iinc (v := v16) (lv' := [(1, .int v16), (0, .ref o)]) hx hb dX6_faultOf_38 hl (k := 0) rfl (by rw [← ev16]; rfl) (by decide) rfl (fun ls hl => ?_)
        refine lv_goto (tgt := 17) hx hb dX6_faultOf_41 (by decide) ?_
        exact ih2 (v16, u12, u13, u14, u15) _ _ _ ⟨(by omega : 0 ≤ v16.toInt), (by omega : v16.toInt ≤ vo_pageMany.toInt), (by assumption : zRw u15), (by omega : 0 ≤ u12.toInt), (by omega : u12.toInt ≤ 8), (by omega : vo_pageMany.toInt - v16.toInt < ((k2 : Nat) : Int)), hT, hP.sub [1, 0, 2] rfl, hD.sub [1, 0, 2] rfl rfl, hS, lv_sub hl [0, 1] rfl⟩

def m_X6_fault (vo_pageMany : Int32) (vo_page : Nat → Int32) (vo_readRows : Nat → Int32) : Int32 × Int32 × Int32 × Int32 × (Nat → Int32) :=
 cut5 (m_X6_faultOf vo_pageMany vo_page vo_readRows) (fun (r1 : Int32) (u2 : Int32) (u3 : Int32) (u4 : Int32) (u5 : Nat → Int32) =>
 (r1, u2, u3, u4, u5))
set_option maxHeartbeats 4000000 in
set_option maxRecDepth 100000 in
theorem k_X6_fault (l : Launch) (dC : Nat → ClassId) (dI : Nat → Nat → Nat) (cI cJ cC : ClassId) (sz : Nat) (o o_page o_readRows o_rows o_turns o_amounts o_drank o_takes o_leans o_would o_keptAmounts o_keptDrank o_keptTurns : Nat) (vo_pageMany : Int32) (vo_readMany : Int32) (vo_state : Int32) (vo_readMost : Int32) (vo_glasses : Int32) (vo_towersRead : Int32) (vo_poured : Int32) (vo_spilt : Int64) (vo_done : Int32) (vo_seedNow : Int32) (vo_keptTower : Int32) (vo_keptPoured : Int32) (vo_keptSpilt : Int64) (vo_hash : Int64) (vo_page : Nat → Int32) (vo_readRows : Nat → Int32) (r : Int32) (qo_readMany : Int32) (qo_state : Int32) (qo_readMost : Int32) (qo_readRows : Nat → Int32) (hT : m_X6_fault vo_pageMany vo_page vo_readRows = (r, qo_readMany, qo_state, qo_readMost, qo_readRows)) (hp0 : 0 ≤ vo_pageMany.toInt) (hp70 : vo_pageMany.toInt ≤ 70) (hrr : zRw vo_readRows) : Met l yX6_fault wsX6_fault ({ frames := 4, cells := 0, slots := 0, locals := 94 }) (zPc [.ref o] (dC, dI) (zTy cI cJ cC) [(o, .inr (6, [.ref o_page, .int vo_pageMany, .int vo_readMany, .int vo_state, .int vo_readMost, .ref o_readRows, .int vo_glasses, .int vo_towersRead, .int vo_poured, .ref o_rows, .ref o_turns, .ref o_amounts, .ref o_drank, .long vo_spilt, .ref o_takes, .ref o_leans, .ref o_would, .int vo_done, .int vo_seedNow, .int vo_keptTower, .int vo_keptPoured, .long vo_keptSpilt, .ref o_keptAmounts, .ref o_keptDrank, .ref o_keptTurns, .long vo_hash])), (o_page, .inl (cI, 70, .inl vo_page)), (o_readRows, .inl (cI, 54, .inl vo_readRows))] sz) (zQi r ((zRw qo_readRows) ∧ (0 ≤ qo_readMany.toInt) ∧ (qo_readMany.toInt ≤ 8)) (dC, dI) (zTy cI cJ cC) [(o, .inr (6, [.ref o_page, .int vo_pageMany, .int qo_readMany, .int qo_state, .int qo_readMost, .ref o_readRows, .int vo_glasses, .int vo_towersRead, .int vo_poured, .ref o_rows, .ref o_turns, .ref o_amounts, .ref o_drank, .long vo_spilt, .ref o_takes, .ref o_leans, .ref o_would, .int vo_done, .int vo_seedNow, .int vo_keptTower, .int vo_keptPoured, .long vo_keptSpilt, .ref o_keptAmounts, .ref o_keptDrank, .ref o_keptTurns, .long vo_hash])), (o_page, .inl (cI, 70, .inl vo_page)), (o_readRows, .inl (cI, 54, .inl qo_readRows))] (va_A [(o, .inr (6, [.ref o_page, .int vo_pageMany, .int vo_readMany, .int vo_state, .int vo_readMost, .ref o_readRows, .int vo_glasses, .int vo_towersRead, .int vo_poured, .ref o_rows, .ref o_turns, .ref o_amounts, .ref o_drank, .long vo_spilt, .ref o_takes, .ref o_leans, .ref o_would, .int vo_done, .int vo_seedNow, .int vo_keptTower, .int vo_keptPoured, .long vo_keptSpilt, .ref o_keptAmounts, .ref o_keptDrank, .ref o_keptTurns, .long vo_hash])), (o_page, .inl (cI, 70, .inl vo_page)), (o_readRows, .inl (cI, 54, .inl vo_readRows))] sz)) 0 0 (va_A [(o, .inr (6, [.ref o_page, .int vo_pageMany, .int vo_readMany, .int vo_state, .int vo_readMost, .ref o_readRows, .int vo_glasses, .int vo_towersRead, .int vo_poured, .ref o_rows, .ref o_turns, .ref o_amounts, .ref o_drank, .long vo_spilt, .ref o_takes, .ref o_leans, .ref o_would, .int vo_done, .int vo_seedNow, .int vo_keptTower, .int vo_keptPoured, .long vo_keptSpilt, .ref o_keptAmounts, .ref o_keptDrank, .ref o_keptTurns, .long vo_hash])), (o_page, .inl (cI, 70, .inl vo_page)), (o_readRows, .inl (cI, 54, .inl vo_readRows))] sz) := by
  refine Met.ofW (cc := cX6_fault) (maxL := 1) (ret := (some .int)) (by decide) rfl ?_
  intro p e s m args below meth c s₁ B hml hv
  obtain ⟨rfl, hsz, hP, hK, hD0⟩ := hv
  have hx := B.exec
  have hb := B.bytes
  have hr := B.returns
  have hts := atoms_spec (ws := wsX6_fault) B.pre
  have hown : s.vm.findClass RX6 = some m.cls := findClass_of_methodNamed B.named
  have hlocks := B.notSynchronized
  subst hsz
  have hD := hD0.self (sz := s.heap.size)
  generalize hAe : va_A [(o, .inr (6, [.ref o_page, .int vo_pageMany, .int vo_readMany, .int vo_state, .int vo_readMost, .ref o_readRows, .int vo_glasses, .int vo_towersRead, .int vo_poured, .ref o_rows, .ref o_turns, .ref o_amounts, .ref o_drank, .long vo_spilt, .ref o_takes, .ref o_leans, .ref o_would, .int vo_done, .int vo_seedNow, .int vo_keptTower, .int vo_keptPoured, .long vo_keptSpilt, .ref o_keptAmounts, .ref o_keptDrank, .ref o_keptTurns, .long vo_hash])), (o_page, .inl (cI, 70, .inl vo_page)), (o_readRows, .inl (cI, 54, .inl vo_readRows))] s.heap.size = A at hD ⊢
  have hA : ∀ q : Nat, s.heap.size ≤ q → A q := fun q h => by rw [← hAe]; exact Or.inr h
  have hS : va_S A s.heap s.heap [] := va_S.rf
  have hP : va_P (dC, dI) vwCl [(o, .inr (6, [.ref o_page, .int vo_pageMany, .int vo_readMany, .int vo_state, .int vo_readMost, .ref o_readRows, .int vo_glasses, .int vo_towersRead, .int vo_poured, .ref o_rows, .ref o_turns, .ref o_amounts, .ref o_drank, .long vo_spilt, .ref o_takes, .ref o_leans, .ref o_would, .int vo_done, .int vo_seedNow, .int vo_keptTower, .int vo_keptPoured, .long vo_keptSpilt, .ref o_keptAmounts, .ref o_keptDrank, .ref o_keptTurns, .long vo_hash])), (o_page, .inl (cI, 70, .inl vo_page)), (o_readRows, .inl (cI, 54, .inl vo_readRows))] s.heap := hP
  have hK : va_K (dC, dI) vwCl (zTy cI cJ cC) s := hK
  have hl := lv_entry ([.ref o]) (n := 1) (Nat.le_of_ble_eq_true rfl)
  rw [lg_entry_eq]
  generalize (lg_sl ([.ref o]) ++ List.replicate (1 - (lg_sl ([.ref o])).length) Slot.unset).toArray = ls at hl ⊢
  have hl : lv_has ls 1 [(0, .ref o)] := hl
  refine zz_start hP hS (fun Q hQ H locs hP hS => ?_)
  refine lv_aload_n hx hb dX6_fault_0 rfl (lv_at hl 0 rfl) ?_
  obtain ⟨r1, u2, u3, u4, u5, ev_1⟩ : ∃ x0 x1 x2 x3 x4, (m_X6_faultOf vo_pageMany vo_page vo_readRows) = (x0, x1, x2, x3, x4) := ⟨_, _, _, _, _, rfl⟩
  replace hT := cut5_n ev_1 hT
  refine zz_ci [0, 1, 2] [] (wr := []) (w1 := [(o, .inr (6, [.ref o_page, .int vo_pageMany, .int u2, .int u3, .int u4, .ref o_readRows, .int vo_glasses, .int vo_towersRead, .int vo_poured, .ref o_rows, .ref o_turns, .ref o_amounts, .ref o_drank, .long vo_spilt, .ref o_takes, .ref o_leans, .ref o_would, .int vo_done, .int vo_seedNow, .int vo_keptTower, .int vo_keptPoured, .long vo_keptSpilt, .ref o_keptAmounts, .ref o_keptDrank, .ref o_keptTurns, .long vo_hash])), (o_page, .inl (cI, 70, .inl vo_page)), (o_readRows, .inl (cI, 54, .inl u5))]) (va_runV (As := []) (rest := []) ⟨hx, hb, hml, hown, hts⟩ (k_X6_faultOf l dC dI cI cJ cC H.size o o_page o_readRows o_rows o_turns o_amounts o_drank o_takes o_leans o_would o_keptAmounts o_keptDrank o_keptTurns vo_pageMany vo_readMany vo_state vo_readMost vo_glasses vo_towersRead vo_poured vo_spilt vo_done vo_seedNow vo_keptTower vo_keptPoured vo_keptSpilt vo_hash vo_page vo_readRows r1 u2 u3 u4 u5 ev_1 hp0 hp70 hrr) (cwV 0 hts gX6_fault_X6_faultOf rfl rfl rfl (by decide +kernel) ⟨Nat.le_of_ble_eq_true rfl, Nat.le_of_ble_eq_true rfl⟩) (zz_preV [0, 1, 2] hK hP hD rfl rfl (va_recv hK hP (ci := 6) (q0 := 0) rfl rfl)) rfl rfl hl.1 rfl (lv_room (Nat.le_of_ble_eq_true rfl)) dX6_fault_1 ⟨Nat.zero_le _, Nat.zero_le _⟩) hP hD hS hA rfl rfl rfl (by decide) (fun ok_2 H locs hP hD hS => ?_)
  have hP : va_P (dC, dI) vwCl [(o, .inr (6, [.ref o_page, .int vo_pageMany, .int u2, .int u3, .int u4, .ref o_readRows, .int vo_glasses, .int vo_towersRead, .int vo_poured, .ref o_rows, .ref o_turns, .ref o_amounts, .ref o_drank, .long vo_spilt, .ref o_takes, .ref o_leans, .ref o_would, .int vo_done, .int vo_seedNow, .int vo_keptTower, .int vo_keptPoured, .long vo_keptSpilt, .ref o_keptAmounts, .ref o_keptDrank, .ref o_keptTurns, .long vo_hash])), (o_page, .inl (cI, 70, .inl vo_page)), (o_readRows, .inl (cI, 54, .inl u5))] H := hP
  have hD : va_D A [(o, .inr (6, [.ref o_page, .int vo_pageMany, .int u2, .int u3, .int u4, .ref o_readRows, .int vo_glasses, .int vo_towersRead, .int vo_poured, .ref o_rows, .ref o_turns, .ref o_amounts, .ref o_drank, .long vo_spilt, .ref o_takes, .ref o_leans, .ref o_would, .int vo_done, .int vo_seedNow, .int vo_keptTower, .int vo_keptPoured, .long vo_keptSpilt, .ref o_keptAmounts, .ref o_keptDrank, .ref o_keptTurns, .long vo_hash])), (o_page, .inl (cI, 70, .inl vo_page)), (o_readRows, .inl (cI, 54, .inl u5))] := hD
  obtain ⟨k_3, k_4, k_5, k_6, k_7⟩ := ok_2
  have hP9 := hP
  have hD9 := hD
  have hS9 := hS
  have hT : (r1, u2, u3, u4, u5) = (r, qo_readMany, qo_state, qo_readMost, qo_readRows) := hT
  cases hT
  subst hQ
  exact zz_iret hx hb hr [0, 1, 2] hK hP9 hD9 hS9 rfl rfl ⟨(by assumption), (by omega), (by omega)⟩ hlocks dX6_fault_4

def rs_X6_empty_2  (x4 : Int32) (x5 : Nat → Int64) (x6 : Nat → Int64) : Int32 × Int64 × (Nat → Int64) × (Nat → Int64) :=
 ((0 : Int32), (0 : Int64), x5, x6)
def lp_X6_empty_2 (ct2 : Int32 → (Nat → Int64) → (Nat → Int64) → (Int32 × Int64 × (Nat → Int64) × (Nat → Int64))) : Nat → Int32 → (Nat → Int64) → (Nat → Int64) → (Int32 × Int64 × (Nat → Int64) × (Nat → Int64))
  | 0, _, _, _ => default
  | k + 1, b1, b2, b3 =>
  if (9 : Int32) ≤ b1 then
   (ct2 b1 b2 b3)
  else
   cut (vp_updL b2 b1.toNatClampNeg (0 : Int64)) (fun (a7 : Nat → Int64) =>
   cut (vp_updL b3 b1.toNatClampNeg (0 : Int64)) (fun (a8 : Nat → Int64) =>
   cut (b1 + (1 : Int32)) (fun (v9 : Int32) =>
   (lp_X6_empty_2 ct2 k v9 a7 a8))))
def m_X6_empty (vo_amounts : Nat → Int64) (vo_drank : Nat → Int64) : Int32 × Int64 × (Nat → Int64) × (Nat → Int64) :=
 (lp_X6_empty_2 rs_X6_empty_2 11 (0 : Int32) vo_amounts vo_drank)
set_option maxHeartbeats 4000000 in
set_option maxRecDepth 100000 in
theorem k_X6_empty (l : Launch) (dC : Nat → ClassId) (dI : Nat → Nat → Nat) (cI cJ cC : ClassId) (sz : Nat) (o o_page o_readRows o_rows o_turns o_amounts o_drank o_takes o_leans o_would o_keptAmounts o_keptDrank o_keptTurns : Nat) (vo_pageMany : Int32) (vo_readMany : Int32) (vo_state : Int32) (vo_readMost : Int32) (vo_glasses : Int32) (vo_towersRead : Int32) (vo_poured : Int32) (vo_spilt : Int64) (vo_done : Int32) (vo_seedNow : Int32) (vo_keptTower : Int32) (vo_keptPoured : Int32) (vo_keptSpilt : Int64) (vo_hash : Int64) (vo_amounts : Nat → Int64) (vo_drank : Nat → Int64) (qo_poured : Int32) (qo_spilt : Int64) (qo_amounts : Nat → Int64) (qo_drank : Nat → Int64) (hT : m_X6_empty vo_amounts vo_drank = (qo_poured, qo_spilt, qo_amounts, qo_drank)) : Met l yX6_empty wsX6_empty ({ frames := 0, cells := 0, slots := 0, locals := 0 }) (zPc [.ref o] (dC, dI) (zTy cI cJ cC) [(o, .inr (6, [.ref o_page, .int vo_pageMany, .int vo_readMany, .int vo_state, .int vo_readMost, .ref o_readRows, .int vo_glasses, .int vo_towersRead, .int vo_poured, .ref o_rows, .ref o_turns, .ref o_amounts, .ref o_drank, .long vo_spilt, .ref o_takes, .ref o_leans, .ref o_would, .int vo_done, .int vo_seedNow, .int vo_keptTower, .int vo_keptPoured, .long vo_keptSpilt, .ref o_keptAmounts, .ref o_keptDrank, .ref o_keptTurns, .long vo_hash])), (o_amounts, .inl (cJ, 9, .inr (.inl vo_amounts))), (o_drank, .inl (cJ, 9, .inr (.inl vo_drank)))] sz) (zQv (True) (dC, dI) (zTy cI cJ cC) [(o, .inr (6, [.ref o_page, .int vo_pageMany, .int vo_readMany, .int vo_state, .int vo_readMost, .ref o_readRows, .int vo_glasses, .int vo_towersRead, .int qo_poured, .ref o_rows, .ref o_turns, .ref o_amounts, .ref o_drank, .long qo_spilt, .ref o_takes, .ref o_leans, .ref o_would, .int vo_done, .int vo_seedNow, .int vo_keptTower, .int vo_keptPoured, .long vo_keptSpilt, .ref o_keptAmounts, .ref o_keptDrank, .ref o_keptTurns, .long vo_hash])), (o_amounts, .inl (cJ, 9, .inr (.inl qo_amounts))), (o_drank, .inl (cJ, 9, .inr (.inl qo_drank)))] (va_A [(o, .inr (6, [.ref o_page, .int vo_pageMany, .int vo_readMany, .int vo_state, .int vo_readMost, .ref o_readRows, .int vo_glasses, .int vo_towersRead, .int vo_poured, .ref o_rows, .ref o_turns, .ref o_amounts, .ref o_drank, .long vo_spilt, .ref o_takes, .ref o_leans, .ref o_would, .int vo_done, .int vo_seedNow, .int vo_keptTower, .int vo_keptPoured, .long vo_keptSpilt, .ref o_keptAmounts, .ref o_keptDrank, .ref o_keptTurns, .long vo_hash])), (o_amounts, .inl (cJ, 9, .inr (.inl vo_amounts))), (o_drank, .inl (cJ, 9, .inr (.inl vo_drank)))] sz)) 0 0 (va_A [(o, .inr (6, [.ref o_page, .int vo_pageMany, .int vo_readMany, .int vo_state, .int vo_readMost, .ref o_readRows, .int vo_glasses, .int vo_towersRead, .int vo_poured, .ref o_rows, .ref o_turns, .ref o_amounts, .ref o_drank, .long vo_spilt, .ref o_takes, .ref o_leans, .ref o_would, .int vo_done, .int vo_seedNow, .int vo_keptTower, .int vo_keptPoured, .long vo_keptSpilt, .ref o_keptAmounts, .ref o_keptDrank, .ref o_keptTurns, .long vo_hash])), (o_amounts, .inl (cJ, 9, .inr (.inl vo_amounts))), (o_drank, .inl (cJ, 9, .inr (.inl vo_drank)))] sz) := by
  refine Met.ofW (cc := cX6_empty) (maxL := 2) (ret := none) (by decide) rfl ?_
  intro p e s m args below meth c s₁ B hml hv
  obtain ⟨rfl, hsz, hP, hK, hD0⟩ := hv
  have hx := B.exec
  have hb := B.bytes
  have hr := B.returns
  have hts := atoms_spec (ws := wsX6_empty) B.pre
  have hown : s.vm.findClass RX6 = some m.cls := findClass_of_methodNamed B.named
  have hlocks := B.notSynchronized
  subst hsz
  have hD := hD0.self (sz := s.heap.size)
  generalize hAe : va_A [(o, .inr (6, [.ref o_page, .int vo_pageMany, .int vo_readMany, .int vo_state, .int vo_readMost, .ref o_readRows, .int vo_glasses, .int vo_towersRead, .int vo_poured, .ref o_rows, .ref o_turns, .ref o_amounts, .ref o_drank, .long vo_spilt, .ref o_takes, .ref o_leans, .ref o_would, .int vo_done, .int vo_seedNow, .int vo_keptTower, .int vo_keptPoured, .long vo_keptSpilt, .ref o_keptAmounts, .ref o_keptDrank, .ref o_keptTurns, .long vo_hash])), (o_amounts, .inl (cJ, 9, .inr (.inl vo_amounts))), (o_drank, .inl (cJ, 9, .inr (.inl vo_drank)))] s.heap.size = A at hD ⊢
  have hA : ∀ q : Nat, s.heap.size ≤ q → A q := fun q h => by rw [← hAe]; exact Or.inr h
  have hS : va_S A s.heap s.heap [] := va_S.rf
  have hP : va_P (dC, dI) vwCl [(o, .inr (6, [.ref o_page, .int vo_pageMany, .int vo_readMany, .int vo_state, .int vo_readMost, .ref o_readRows, .int vo_glasses, .int vo_towersRead, .int vo_poured, .ref o_rows, .ref o_turns, .ref o_amounts, .ref o_drank, .long vo_spilt, .ref o_takes, .ref o_leans, .ref o_would, .int vo_done, .int vo_seedNow, .int vo_keptTower, .int vo_keptPoured, .long vo_keptSpilt, .ref o_keptAmounts, .ref o_keptDrank, .ref o_keptTurns, .long vo_hash])), (o_amounts, .inl (cJ, 9, .inr (.inl vo_amounts))), (o_drank, .inl (cJ, 9, .inr (.inl vo_drank)))] s.heap := hP
  have hK : va_K (dC, dI) vwCl (zTy cI cJ cC) s := hK
  have hl := lv_entry ([.ref o]) (n := 2) (Nat.le_of_ble_eq_true rfl)
  rw [lg_entry_eq]
  generalize (lg_sl ([.ref o]) ++ List.replicate (2 - (lg_sl ([.ref o])).length) Slot.unset).toArray = ls at hl ⊢
  have hl : lv_has ls 2 [(0, .ref o)] := hl
  refine zz_start hP hS (fun Q hQ H locs hP hS => ?_)
  have hwX6 : ∀ w ∈ u_ws RX6 TX6 26, w ∈ wsX6_empty := by decide +kernel
  have hf_106 := (hts (.fieldLink RX6 106 "PouredTopmostModel" "spilt" "J") (by decide +kernel))
  have hf_110 := (hts (.fieldLink RX6 110 "PouredTopmostModel" "poured" "I") (by decide +kernel))
  have hf_22 := (hts (.fieldLink RX6 22 "PouredTopmostModel" "amounts" "[J") (by decide +kernel))
  have hf_26 := (hts (.fieldLink RX6 26 "PouredTopmostModel" "drank" "[J") (by decide +kernel))
  refine lv_iconst (v := (0 : Int32)) hx hb dX6_empty_0 (by decide) ?_
  refine lv_istore_n (lv' := [(1, .int (0 : Int32)), (0, .ref o)]) hx hb dX6_empty_1 rfl hl (by decide) rfl (fun ls hl => ?_)
  have hz_4 : ((0 : Int32)).toInt = 0 := by decide
  refine zz_loop (α := Int32 × (Nat → Int64) × (Nat → Int64)) 28 (fun k a H locs ls => (0 ≤ a.1.toInt) ∧ (a.1.toInt ≤ 9) ∧ (9 - a.1.toInt < ((k : Nat) : Int)) ∧ lp_X6_empty_2 rs_X6_empty_2 k a.1 a.2.1 a.2.2 = (qo_poured, qo_spilt, qo_amounts, qo_drank) ∧ va_P (dC, dI) vwCl [(o, .inr (6, [.ref o_page, .int vo_pageMany, .int vo_readMany, .int vo_state, .int vo_readMost, .ref o_readRows, .int vo_glasses, .int vo_towersRead, .int vo_poured, .ref o_rows, .ref o_turns, .ref o_amounts, .ref o_drank, .long vo_spilt, .ref o_takes, .ref o_leans, .ref o_would, .int vo_done, .int vo_seedNow, .int vo_keptTower, .int vo_keptPoured, .long vo_keptSpilt, .ref o_keptAmounts, .ref o_keptDrank, .ref o_keptTurns, .long vo_hash])), (o_amounts, .inl (cJ, 9, .inr (.inl a.2.1))), (o_drank, .inl (cJ, 9, .inr (.inl a.2.2)))] H ∧ va_D A [(o, .inr (6, [.ref o_page, .int vo_pageMany, .int vo_readMany, .int vo_state, .int vo_readMost, .ref o_readRows, .int vo_glasses, .int vo_towersRead, .int vo_poured, .ref o_rows, .ref o_turns, .ref o_amounts, .ref o_drank, .long vo_spilt, .ref o_takes, .ref o_leans, .ref o_would, .int vo_done, .int vo_seedNow, .int vo_keptTower, .int vo_keptPoured, .long vo_keptSpilt, .ref o_keptAmounts, .ref o_keptDrank, .ref o_keptTurns, .long vo_hash])), (o_amounts, .inl (cJ, 9, .inr (.inl a.2.1))), (o_drank, .inl (cJ, 9, .inr (.inl a.2.2)))] ∧ va_S A s.heap H locs ∧ lv_has ls 2 [(1, .int a.1), (0, .ref o)]) (fun a H locs ls => (0 ≤ a.1.toInt) ∧ (a.1.toInt ≤ 9) ∧ rs_X6_empty_2 a.1 a.2.1 a.2.2 = (qo_poured, qo_spilt, qo_amounts, qo_drank) ∧ va_P (dC, dI) vwCl [(o, .inr (6, [.ref o_page, .int vo_pageMany, .int vo_readMany, .int vo_state, .int vo_readMost, .ref o_readRows, .int vo_glasses, .int vo_towersRead, .int vo_poured, .ref o_rows, .ref o_turns, .ref o_amounts, .ref o_drank, .long vo_spilt, .ref o_takes, .ref o_leans, .ref o_would, .int vo_done, .int vo_seedNow, .int vo_keptTower, .int vo_keptPoured, .long vo_keptSpilt, .ref o_keptAmounts, .ref o_keptDrank, .ref o_keptTurns, .long vo_hash])), (o_amounts, .inl (cJ, 9, .inr (.inl a.2.1))), (o_drank, .inl (cJ, 9, .inr (.inl a.2.2)))] H ∧ va_D A [(o, .inr (6, [.ref o_page, .int vo_pageMany, .int vo_readMany, .int vo_state, .int vo_readMost, .ref o_readRows, .int vo_glasses, .int vo_towersRead, .int vo_poured, .ref o_rows, .ref o_turns, .ref o_amounts, .ref o_drank, .long vo_spilt, .ref o_takes, .ref o_leans, .ref o_would, .int vo_done, .int vo_seedNow, .int vo_keptTower, .int vo_keptPoured, .long vo_keptSpilt, .ref o_keptAmounts, .ref o_keptDrank, .ref o_keptTurns, .long vo_hash])), (o_amounts, .inl (cJ, 9, .inr (.inl a.2.1))), (o_drank, .inl (cJ, 9, .inr (.inl a.2.2)))] ∧ va_S A s.heap H locs ∧ lv_has ls 2 [(0, .ref o)]) ?_ ?_ ?_ 11 ((0 : Int32), vo_amounts, vo_drank) ⟨(by omega : 0 ≤ (0 : Int32).toInt), (by omega : (0 : Int32).toInt ≤ 9), (by omega : 9 - (0 : Int32).toInt < ((11 : Nat) : Int)), hT, hP.sub [0, 1, 2] rfl, hD.sub [0, 1, 2] rfl rfl, hS, lv_sub hl [0, 1] rfl⟩
  · rintro ⟨x4, x5, x6⟩ H locs ls ⟨i1, j1, hT, hP, hD, hS, hl⟩
    have hP : va_P (dC, dI) vwCl [(o, .inr (6, [.ref o_page, .int vo_pageMany, .int vo_readMany, .int vo_state, .int vo_readMost, .ref o_readRows, .int vo_glasses, .int vo_towersRead, .int vo_poured, .ref o_rows, .ref o_turns, .ref o_amounts, .ref o_drank, .long vo_spilt, .ref o_takes, .ref o_leans, .ref o_would, .int vo_done, .int vo_seedNow, .int vo_keptTower, .int vo_keptPoured, .long vo_keptSpilt, .ref o_keptAmounts, .ref o_keptDrank, .ref o_keptTurns, .long vo_hash])), (o_amounts, .inl (cJ, 9, .inr (.inl x5))), (o_drank, .inl (cJ, 9, .inr (.inl x6)))] H := hP
    have hD : va_D A [(o, .inr (6, [.ref o_page, .int vo_pageMany, .int vo_readMany, .int vo_state, .int vo_readMost, .ref o_readRows, .int vo_glasses, .int vo_towersRead, .int vo_poured, .ref o_rows, .ref o_turns, .ref o_amounts, .ref o_drank, .long vo_spilt, .ref o_takes, .ref o_leans, .ref o_would, .int vo_done, .int vo_seedNow, .int vo_keptTower, .int vo_keptPoured, .long vo_keptSpilt, .ref o_keptAmounts, .ref o_keptDrank, .ref o_keptTurns, .long vo_hash])), (o_amounts, .inl (cJ, 9, .inr (.inl x5))), (o_drank, .inl (cJ, 9, .inr (.inl x6)))] := hD
    have hl : lv_has ls 2 [(0, .ref o)] := hl
    have hT : rs_X6_empty_2 x4 x5 x6 = (qo_poured, qo_spilt, qo_amounts, qo_drank) := hT
    have i1 : 0 ≤ x4.toInt := i1
    have j1 : x4.toInt ≤ 9 := j1
    refine lv_aload_n hx hb dX6_empty_28 rfl (lv_at hl 0 rfl) ?_
    refine lv_lconst (v := (0 : Int64)) hx hb dX6_empty_29 (by decide) ?_
    refine va_put (D := (dC, dI)) (ci := 6) (v := .long (0 : Int64)) (ty := .long) (C := RX6) (T := TX6) (N := 26) hx hb hts hwX6 tyX6 tyX6_ok nmX6 hown hK hP hD hS 0 rfl rfl 13 (by decide) hf_106 (fun _ h9 => h9) rfl (by decide +kernel) rfl rfl (Nat.le_of_ble_eq_true rfl) dX6_empty_30 (fun H locs hP hD hS => ?_)
    have hP : va_P (dC, dI) vwCl [(o, .inr (6, [.ref o_page, .int vo_pageMany, .int vo_readMany, .int vo_state, .int vo_readMost, .ref o_readRows, .int vo_glasses, .int vo_towersRead, .int vo_poured, .ref o_rows, .ref o_turns, .ref o_amounts, .ref o_drank, .long (0 : Int64), .ref o_takes, .ref o_leans, .ref o_would, .int vo_done, .int vo_seedNow, .int vo_keptTower, .int vo_keptPoured, .long vo_keptSpilt, .ref o_keptAmounts, .ref o_keptDrank, .ref o_keptTurns, .long vo_hash])), (o_amounts, .inl (cJ, 9, .inr (.inl x5))), (o_drank, .inl (cJ, 9, .inr (.inl x6)))] H := hP
    have hD : va_D A [(o, .inr (6, [.ref o_page, .int vo_pageMany, .int vo_readMany, .int vo_state, .int vo_readMost, .ref o_readRows, .int vo_glasses, .int vo_towersRead, .int vo_poured, .ref o_rows, .ref o_turns, .ref o_amounts, .ref o_drank, .long (0 : Int64), .ref o_takes, .ref o_leans, .ref o_would, .int vo_done, .int vo_seedNow, .int vo_keptTower, .int vo_keptPoured, .long vo_keptSpilt, .ref o_keptAmounts, .ref o_keptDrank, .ref o_keptTurns, .long vo_hash])), (o_amounts, .inl (cJ, 9, .inr (.inl x5))), (o_drank, .inl (cJ, 9, .inr (.inl x6)))] := hD
    refine lv_aload_n hx hb dX6_empty_33 rfl (lv_at hl 0 rfl) ?_
    refine lv_iconst (v := (0 : Int32)) hx hb dX6_empty_34 (by decide) ?_
    refine va_put (D := (dC, dI)) (ci := 6) (v := .int (0 : Int32)) (ty := .int) (C := RX6) (T := TX6) (N := 26) hx hb hts hwX6 tyX6 tyX6_ok nmX6 hown hK hP hD hS 0 rfl rfl 8 (by decide) hf_110 (fun _ h9 => h9) rfl (by decide +kernel) rfl rfl (Nat.le_of_ble_eq_true rfl) dX6_empty_35 (fun H locs hP hD hS => ?_)
    have hP : va_P (dC, dI) vwCl [(o, .inr (6, [.ref o_page, .int vo_pageMany, .int vo_readMany, .int vo_state, .int vo_readMost, .ref o_readRows, .int vo_glasses, .int vo_towersRead, .int (0 : Int32), .ref o_rows, .ref o_turns, .ref o_amounts, .ref o_drank, .long (0 : Int64), .ref o_takes, .ref o_leans, .ref o_would, .int vo_done, .int vo_seedNow, .int vo_keptTower, .int vo_keptPoured, .long vo_keptSpilt, .ref o_keptAmounts, .ref o_keptDrank, .ref o_keptTurns, .long vo_hash])), (o_amounts, .inl (cJ, 9, .inr (.inl x5))), (o_drank, .inl (cJ, 9, .inr (.inl x6)))] H := hP
    have hD : va_D A [(o, .inr (6, [.ref o_page, .int vo_pageMany, .int vo_readMany, .int vo_state, .int vo_readMost, .ref o_readRows, .int vo_glasses, .int vo_towersRead, .int (0 : Int32), .ref o_rows, .ref o_turns, .ref o_amounts, .ref o_drank, .long (0 : Int64), .ref o_takes, .ref o_leans, .ref o_would, .int vo_done, .int vo_seedNow, .int vo_keptTower, .int vo_keptPoured, .long vo_keptSpilt, .ref o_keptAmounts, .ref o_keptDrank, .ref o_keptTurns, .long vo_hash])), (o_amounts, .inl (cJ, 9, .inr (.inl x5))), (o_drank, .inl (cJ, 9, .inr (.inl x6)))] := hD
    have hP9 := hP
    have hD9 := hD
    have hS9 := hS
    have hT : ((0 : Int32), (0 : Int64), x5, x6) = (qo_poured, qo_spilt, qo_amounts, qo_drank) := hT
    cases hT
    subst hQ
    exact zz_vret hx hb hr [0, 1, 2] hK hP9 hD9 hS9 rfl rfl trivial hlocks dX6_empty_38
  · rintro ⟨b1, b2, b3⟩ H locs ls ⟨i1, j1, hm, -⟩
    try dsimp only at *
    omega
  · intro k2 hex2 ih2
    rintro ⟨b1, b2, b3⟩ H locs ls ⟨i1, j1, hm2, hT, hP, hD, hS, hl⟩
    have hP : va_P (dC, dI) vwCl [(o, .inr (6, [.ref o_page, .int vo_pageMany, .int vo_readMany, .int vo_state, .int vo_readMost, .ref o_readRows, .int vo_glasses, .int vo_towersRead, .int vo_poured, .ref o_rows, .ref o_turns, .ref o_amounts, .ref o_drank, .long vo_spilt, .ref o_takes, .ref o_leans, .ref o_would, .int vo_done, .int vo_seedNow, .int vo_keptTower, .int vo_keptPoured, .long vo_keptSpilt, .ref o_keptAmounts, .ref o_keptDrank, .ref o_keptTurns, .long vo_hash])), (o_amounts, .inl (cJ, 9, .inr (.inl b2))), (o_drank, .inl (cJ, 9, .inr (.inl b3)))] H := hP
    have hD : va_D A [(o, .inr (6, [.ref o_page, .int vo_pageMany, .int vo_readMany, .int vo_state, .int vo_readMost, .ref o_readRows, .int vo_glasses, .int vo_towersRead, .int vo_poured, .ref o_rows, .ref o_turns, .ref o_amounts, .ref o_drank, .long vo_spilt, .ref o_takes, .ref o_leans, .ref o_would, .int vo_done, .int vo_seedNow, .int vo_keptTower, .int vo_keptPoured, .long vo_keptSpilt, .ref o_keptAmounts, .ref o_keptDrank, .ref o_keptTurns, .long vo_hash])), (o_amounts, .inl (cJ, 9, .inr (.inl b2))), (o_drank, .inl (cJ, 9, .inr (.inl b3)))] := hD
    have hl : lv_has ls 2 [(1, .int b1), (0, .ref o)] := hl
    have hT : lp_X6_empty_2 rs_X6_empty_2 (k2 + 1) b1 b2 b3 = (qo_poured, qo_spilt, qo_amounts, qo_drank) := hT
    have i1 : 0 ≤ b1.toInt := i1
    have j1 : b1.toInt ≤ 9 := j1
    have hm2 : 9 - b1.toInt < (((k2 + 1) : Nat) : Int) := hm2
    try simp only [Int.natCast_add, Int.natCast_one, Nat.cast_add, Nat.cast_one] at hm2
    refine lv_iload_n hx hb dX6_empty_2 rfl (lv_at hl 0 rfl) ?_
    refine lv_bipush (v := (9 : Int32)) hx hb dX6_empty_3 (by decide) ?_
    refine lv_icmp_ge (tgt := 28) hx hb dX6_empty_5 (by decide) (fun c_1 => ?_) (fun c_1 => ?_)
    · replace hT := cutT c_1 hT
      have g_5 := zleT (by decide : ((9 : Int32)).toInt = 9) (rfl : (b1).toInt = _) c_1
      exact hex2 (b1, b2, b3) _ _ _ ⟨(by omega : 0 ≤ b1.toInt), (by omega : b1.toInt ≤ 9), hT, hP.sub [0, 1, 2] rfl, hD.sub [0, 1, 2] rfl rfl, hS, lv_sub hl [1] rfl⟩
    · replace hT := cutF c_1 hT
      have g_6 := zleF (by decide : ((9 : Int32)).toInt = 9) (rfl : (b1).toInt = _) c_1
      refine lv_aload_n hx hb dX6_empty_8 rfl (lv_at hl 1 rfl) ?_
      refine va_get (D := (dC, dI)) (ci := 6) (v := .ref o_amounts) (C := RX6) (T := TX6) (N := 26) hx hb hts hwX6 hown hK hP 0 rfl rfl 11 (by decide) hf_22 (fun _ h9 => h9) rfl dX6_empty_9 ?_
      refine lv_iload_n hx hb dX6_empty_12 rfl (lv_at hl 0 rfl) ?_
      refine lv_lconst (v := (0 : Int64)) hx hb dX6_empty_13 (by decide) ?_
      have h_2 : vp_in b1 9 := zin (by omega) (by omega)
      refine va_last hx hb hK hP hD hS 1 1 rfl rfl h_2 dX6_empty_14 (fun H locs hP hD hS => ?_)
      obtain ⟨a7, ea7⟩ : ∃ z, (vp_updL b2 b1.toNatClampNeg (0 : Int64)) = z := ⟨_, rfl⟩
      replace hT := cut_n ea7 hT
      have hP : va_P (dC, dI) vwCl [(o, .inr (6, [.ref o_page, .int vo_pageMany, .int vo_readMany, .int vo_state, .int vo_readMost, .ref o_readRows, .int vo_glasses, .int vo_towersRead, .int vo_poured, .ref o_rows, .ref o_turns, .ref o_amounts, .ref o_drank, .long vo_spilt, .ref o_takes, .ref o_leans, .ref o_would, .int vo_done, .int vo_seedNow, .int vo_keptTower, .int vo_keptPoured, .long vo_keptSpilt, .ref o_keptAmounts, .ref o_keptDrank, .ref o_keptTurns, .long vo_hash])), (o_amounts, .inl (cJ, 9, .inr (.inl a7))), (o_drank, .inl (cJ, 9, .inr (.inl b3)))] H := by rw [← ea7]; exact hP
      have hD : va_D A [(o, .inr (6, [.ref o_page, .int vo_pageMany, .int vo_readMany, .int vo_state, .int vo_readMost, .ref o_readRows, .int vo_glasses, .int vo_towersRead, .int vo_poured, .ref o_rows, .ref o_turns, .ref o_amounts, .ref o_drank, .long vo_spilt, .ref o_takes, .ref o_leans, .ref o_would, .int vo_done, .int vo_seedNow, .int vo_keptTower, .int vo_keptPoured, .long vo_keptSpilt, .ref o_keptAmounts, .ref o_keptDrank, .ref o_keptTurns, .long vo_hash])), (o_amounts, .inl (cJ, 9, .inr (.inl a7))), (o_drank, .inl (cJ, 9, .inr (.inl b3)))] := by rw [← ea7]; exact hD
      refine lv_aload_n hx hb dX6_empty_15 rfl (lv_at hl 1 rfl) ?_
      refine va_get (D := (dC, dI)) (ci := 6) (v := .ref o_drank) (C := RX6) (T := TX6) (N := 26) hx hb hts hwX6 hown hK hP 0 rfl rfl 12 (by decide) hf_26 (fun _ h9 => h9) rfl dX6_empty_16 ?_
      refine lv_iload_n hx hb dX6_empty_19 rfl (lv_at hl 0 rfl) ?_
      refine lv_lconst (v := (0 : Int64)) hx hb dX6_empty_20 (by decide) ?_
      have h_3 : vp_in b1 9 := zin (by omega) (by omega)
      refine va_last hx hb hK hP hD hS 2 1 rfl rfl h_3 dX6_empty_21 (fun H locs hP hD hS => ?_)
      obtain ⟨a8, ea8⟩ : ∃ z, (vp_updL b3 b1.toNatClampNeg (0 : Int64)) = z := ⟨_, rfl⟩
      replace hT := cut_n ea8 hT
      have hP : va_P (dC, dI) vwCl [(o, .inr (6, [.ref o_page, .int vo_pageMany, .int vo_readMany, .int vo_state, .int vo_readMost, .ref o_readRows, .int vo_glasses, .int vo_towersRead, .int vo_poured, .ref o_rows, .ref o_turns, .ref o_amounts, .ref o_drank, .long vo_spilt, .ref o_takes, .ref o_leans, .ref o_would, .int vo_done, .int vo_seedNow, .int vo_keptTower, .int vo_keptPoured, .long vo_keptSpilt, .ref o_keptAmounts, .ref o_keptDrank, .ref o_keptTurns, .long vo_hash])), (o_amounts, .inl (cJ, 9, .inr (.inl a7))), (o_drank, .inl (cJ, 9, .inr (.inl a8)))] H := by rw [← ea8]; exact hP
      have hD : va_D A [(o, .inr (6, [.ref o_page, .int vo_pageMany, .int vo_readMany, .int vo_state, .int vo_readMost, .ref o_readRows, .int vo_glasses, .int vo_towersRead, .int vo_poured, .ref o_rows, .ref o_turns, .ref o_amounts, .ref o_drank, .long vo_spilt, .ref o_takes, .ref o_leans, .ref o_would, .int vo_done, .int vo_seedNow, .int vo_keptTower, .int vo_keptPoured, .long vo_keptSpilt, .ref o_keptAmounts, .ref o_keptDrank, .ref o_keptTurns, .long vo_hash])), (o_amounts, .inl (cJ, 9, .inr (.inl a7))), (o_drank, .inl (cJ, 9, .inr (.inl a8)))] := by rw [← ea8]; exact hD
      obtain ⟨v9, ev9⟩ : ∃ y : Int32, (b1 + (1 : Int32)) = y := ⟨_, rfl⟩
      replace hT := cut_n ev9 hT
      try have fv9 := zaddE (rfl : (b1).toInt = _) (by decide : ((1 : Int32)).toInt = 1) ev9 (by omega) (by omega)
      refine lv_iinc (v := v9) (lv' := [(1, .int v9), (0, .ref o)]) hx hb dX6_empty_22 hl (k := 0) rfl (by rw [← ev9]; rfl) (by decide) rfl (fun ls hl => ?_)
      refine lv_goto (tgt := 2) hx hb dX6_empty_25 (by decide) ?_
      exact ih2 (v9, a7, a8) _ _ _ ⟨(by omega : 0 ≤ v9.toInt), (by omega : v9.toInt ≤ 9), (by omega : 9 - v9.toInt < ((k2 : Nat) : Int)), hT, hP.sub [0, 1, 2] rfl, hD.sub [0, 1, 2] rfl rfl, hS, lv_sub hl [0, 1] rfl⟩

def rs_X6_tower_6 (vo_amounts : Nat → Int64) (vo_drank : Nat → Int64) (vo_towersRead : Int32) (v6 : Int32) (u2 : Int32) (u3 : Int32) (u4 : Int32) (u5 : Nat → Int32) (x10 : Nat → Int32) (x15 : Int32) (x16 : Nat → Int32) : Int32 × Int32 × Int32 × Int32 × Int32 × Int32 × Int32 × Int32 × Int64 × (Nat → Int32) × (Nat → Int32) × (Nat → Int32) × (Nat → Int64) × (Nat → Int64) :=
 cut4 (m_X6_empty vo_amounts vo_drank) (fun (u19 : Int32) (u20 : Int64) (u21 : Nat → Int64) (u22 : Nat → Int64) =>
 cut (vo_towersRead + (1 : Int32)) (fun (v23 : Int32) =>
 (v6, (0 : Int32), u2, u3, u4, v6, v23, u19, u20, u5, x10, x16, u21, u22)))
def lp_X6_tower_6 (ct6 : Int32 → (Nat → Int32) → (Int32 × Int32 × Int32 × Int32 × Int32 × Int32 × Int32 × Int32 × Int64 × (Nat → Int32) × (Nat → Int32) × (Nat → Int32) × (Nat → Int64) × (Nat → Int64))) : Nat → Int32 → (Nat → Int32) → (Int32 × Int32 × Int32 × Int32 × Int32 × Int32 × Int32 × Int32 × Int64 × (Nat → Int32) × (Nat → Int32) × (Nat → Int32) × (Nat → Int64) × (Nat → Int64))
  | 0, _, _ => default
  | k + 1, b13, b14 =>
  if (9 : Int32) ≤ b13 then
   (ct6 b13 b14)
  else
   cut (upd b14 b13.toNatClampNeg (0 : Int32)) (fun (a17 : Nat → Int32) =>
   cut (b13 + (1 : Int32)) (fun (v18 : Int32) =>
   (lp_X6_tower_6 ct6 k v18 a17)))
def rs_X6_tower_5 (vo_amounts : Nat → Int64) (vo_drank : Nat → Int64) (vo_towersRead : Int32) (v6 : Int32) (u2 : Int32) (u3 : Int32) (u4 : Int32) (u5 : Nat → Int32) (vo_turns : Nat → Int32) (x9 : Int32) (x10 : Nat → Int32) : Int32 × Int32 × Int32 × Int32 × Int32 × Int32 × Int32 × Int32 × Int64 × (Nat → Int32) × (Nat → Int32) × (Nat → Int32) × (Nat → Int64) × (Nat → Int64) :=
 (lp_X6_tower_6 (rs_X6_tower_6 vo_amounts vo_drank vo_towersRead v6 u2 u3 u4 u5 x10) 11 (0 : Int32) vo_turns)
def lp_X6_tower_5 (v6 : Int32) (ct5 : Int32 → (Nat → Int32) → (Int32 × Int32 × Int32 × Int32 × Int32 × Int32 × Int32 × Int32 × Int64 × (Nat → Int32) × (Nat → Int32) × (Nat → Int32) × (Nat → Int64) × (Nat → Int64))) (u5 : Nat → Int32) : Nat → Int32 → (Nat → Int32) → (Int32 × Int32 × Int32 × Int32 × Int32 × Int32 × Int32 × Int32 × Int64 × (Nat → Int32) × (Nat → Int32) × (Nat → Int32) × (Nat → Int64) × (Nat → Int64))
  | 0, _, _ => default
  | k + 1, b7, b8 =>
  if ((6 : Int32) * v6) ≤ b7 then
   (ct5 b7 b8)
  else
   cut (upd b8 b7.toNatClampNeg (u5 b7.toNatClampNeg)) (fun (a11 : Nat → Int32) =>
   cut (b7 + (1 : Int32)) (fun (v12 : Int32) =>
   (lp_X6_tower_5 v6 ct5 u5 k v12 a11)))
def rs_X6_tower_8 (vo_amounts : Nat → Int64) (vo_drank : Nat → Int64) (vo_towersRead : Int32) (v24 : Int32) (u2 : Int32) (u3 : Int32) (u4 : Int32) (u5 : Nat → Int32) (x28 : Nat → Int32) (x33 : Int32) (x34 : Nat → Int32) : Int32 × Int32 × Int32 × Int32 × Int32 × Int32 × Int32 × Int32 × Int64 × (Nat → Int32) × (Nat → Int32) × (Nat → Int32) × (Nat → Int64) × (Nat → Int64) :=
 cut4 (m_X6_empty vo_amounts vo_drank) (fun (u37 : Int32) (u38 : Int64) (u39 : Nat → Int64) (u40 : Nat → Int64) =>
 cut (vo_towersRead + (1 : Int32)) (fun (v41 : Int32) =>
 (v24, (0 : Int32), u2, u3, u4, v24, v41, u37, u38, u5, x28, x34, u39, u40)))
def lp_X6_tower_8 (ct8 : Int32 → (Nat → Int32) → (Int32 × Int32 × Int32 × Int32 × Int32 × Int32 × Int32 × Int32 × Int64 × (Nat → Int32) × (Nat → Int32) × (Nat → Int32) × (Nat → Int64) × (Nat → Int64))) : Nat → Int32 → (Nat → Int32) → (Int32 × Int32 × Int32 × Int32 × Int32 × Int32 × Int32 × Int32 × Int64 × (Nat → Int32) × (Nat → Int32) × (Nat → Int32) × (Nat → Int64) × (Nat → Int64))
  | 0, _, _ => default
  | k + 1, b31, b32 =>
  if (9 : Int32) ≤ b31 then
   (ct8 b31 b32)
  else
   cut (upd b32 b31.toNatClampNeg (0 : Int32)) (fun (a35 : Nat → Int32) =>
   cut (b31 + (1 : Int32)) (fun (v36 : Int32) =>
   (lp_X6_tower_8 ct8 k v36 a35)))
def rs_X6_tower_7 (vo_amounts : Nat → Int64) (vo_drank : Nat → Int64) (vo_towersRead : Int32) (v24 : Int32) (u2 : Int32) (u3 : Int32) (u4 : Int32) (u5 : Nat → Int32) (vo_turns : Nat → Int32) (x27 : Int32) (x28 : Nat → Int32) : Int32 × Int32 × Int32 × Int32 × Int32 × Int32 × Int32 × Int32 × Int64 × (Nat → Int32) × (Nat → Int32) × (Nat → Int32) × (Nat → Int64) × (Nat → Int64) :=
 (lp_X6_tower_8 (rs_X6_tower_8 vo_amounts vo_drank vo_towersRead v24 u2 u3 u4 u5 x28) 11 (0 : Int32) vo_turns)
def lp_X6_tower_7 (v24 : Int32) (ct7 : Int32 → (Nat → Int32) → (Int32 × Int32 × Int32 × Int32 × Int32 × Int32 × Int32 × Int32 × Int64 × (Nat → Int32) × (Nat → Int32) × (Nat → Int32) × (Nat → Int64) × (Nat → Int64))) (u5 : Nat → Int32) : Nat → Int32 → (Nat → Int32) → (Int32 × Int32 × Int32 × Int32 × Int32 × Int32 × Int32 × Int32 × Int64 × (Nat → Int32) × (Nat → Int32) × (Nat → Int32) × (Nat → Int64) × (Nat → Int64))
  | 0, _, _ => default
  | k + 1, b25, b26 =>
  if ((6 : Int32) * v24) ≤ b25 then
   (ct7 b25 b26)
  else
   cut (upd b26 b25.toNatClampNeg (u5 b25.toNatClampNeg)) (fun (a29 : Nat → Int32) =>
   cut (b25 + (1 : Int32)) (fun (v30 : Int32) =>
   (lp_X6_tower_7 v24 ct7 u5 k v30 a29)))
def m_X6_tower (vo_pageMany : Int32) (vo_glasses : Int32) (vo_towersRead : Int32) (vo_poured : Int32) (vo_spilt : Int64) (vo_page : Nat → Int32) (vo_readRows : Nat → Int32) (vo_rows : Nat → Int32) (vo_turns : Nat → Int32) (vo_amounts : Nat → Int64) (vo_drank : Nat → Int64) : Int32 × Int32 × Int32 × Int32 × Int32 × Int32 × Int32 × Int32 × Int64 × (Nat → Int32) × (Nat → Int32) × (Nat → Int32) × (Nat → Int64) × (Nat → Int64) :=
 cut5 (m_X6_faultOf vo_pageMany vo_page vo_readRows) (fun (r1 : Int32) (u2 : Int32) (u3 : Int32) (u4 : Int32) (u5 : Nat → Int32) =>
 if r1 < vo_pageMany then
  ((-103 : Int32), vo_pageMany, u2, u3, u4, vo_glasses, vo_towersRead, vo_poured, vo_spilt, u5, vo_rows, vo_turns, vo_amounts, vo_drank)
 else
  if u3 = (2 : Int32) then
   if u4 ≤ u2 then
    cut (u2 + (1 : Int32)) (fun (v6 : Int32) =>
    (lp_X6_tower_5 v6 (rs_X6_tower_5 vo_amounts vo_drank vo_towersRead v6 u2 u3 u4 u5 vo_turns) u5 56 (0 : Int32) vo_rows))
   else
    ((-103 : Int32), vo_pageMany, u2, u3, u4, vo_glasses, vo_towersRead, vo_poured, vo_spilt, u5, vo_rows, vo_turns, vo_amounts, vo_drank)
  else
   if u3 = (4 : Int32) then
    if u4 ≤ u2 then
     cut (u2 + (1 : Int32)) (fun (v24 : Int32) =>
     (lp_X6_tower_7 v24 (rs_X6_tower_7 vo_amounts vo_drank vo_towersRead v24 u2 u3 u4 u5 vo_turns) u5 56 (0 : Int32) vo_rows))
    else
     ((-103 : Int32), vo_pageMany, u2, u3, u4, vo_glasses, vo_towersRead, vo_poured, vo_spilt, u5, vo_rows, vo_turns, vo_amounts, vo_drank)
   else
    ((-103 : Int32), vo_pageMany, u2, u3, u4, vo_glasses, vo_towersRead, vo_poured, vo_spilt, u5, vo_rows, vo_turns, vo_amounts, vo_drank))
set_option maxHeartbeats 4000000 in
set_option maxRecDepth 100000 in
theorem k_X6_tower (l : Launch) (dC : Nat → ClassId) (dI : Nat → Nat → Nat) (cI cJ cC : ClassId) (sz : Nat) (o o_page o_readRows o_rows o_turns o_amounts o_drank o_takes o_leans o_would o_keptAmounts o_keptDrank o_keptTurns : Nat) (vo_pageMany : Int32) (vo_readMany : Int32) (vo_state : Int32) (vo_readMost : Int32) (vo_glasses : Int32) (vo_towersRead : Int32) (vo_poured : Int32) (vo_spilt : Int64) (vo_done : Int32) (vo_seedNow : Int32) (vo_keptTower : Int32) (vo_keptPoured : Int32) (vo_keptSpilt : Int64) (vo_hash : Int64) (vo_page : Nat → Int32) (vo_readRows : Nat → Int32) (vo_rows : Nat → Int32) (vo_turns : Nat → Int32) (vo_amounts : Nat → Int64) (vo_drank : Nat → Int64) (r : Int32) (qo_pageMany : Int32) (qo_readMany : Int32) (qo_state : Int32) (qo_readMost : Int32) (qo_glasses : Int32) (qo_towersRead : Int32) (qo_poured : Int32) (qo_spilt : Int64) (qo_readRows : Nat → Int32) (qo_rows : Nat → Int32) (qo_turns : Nat → Int32) (qo_amounts : Nat → Int64) (qo_drank : Nat → Int64) (hT : m_X6_tower vo_pageMany vo_glasses vo_towersRead vo_poured vo_spilt vo_page vo_readRows vo_rows vo_turns vo_amounts vo_drank = (r, qo_pageMany, qo_readMany, qo_state, qo_readMost, qo_glasses, qo_towersRead, qo_poured, qo_spilt, qo_readRows, qo_rows, qo_turns, qo_amounts, qo_drank)) (hp0 : 0 ≤ vo_pageMany.toInt) (hp70 : vo_pageMany.toInt ≤ 70) (hrr : zRw vo_readRows) (hrw : zRw vo_rows) (hg0 : 0 ≤ vo_glasses.toInt) (hg9 : vo_glasses.toInt ≤ 9) : Met l yX6_tower wsX6_tower ({ frames := 4, cells := 0, slots := 0, locals := 94 }) (zPc [.ref o] (dC, dI) (zTy cI cJ cC) [(o, .inr (6, [.ref o_page, .int vo_pageMany, .int vo_readMany, .int vo_state, .int vo_readMost, .ref o_readRows, .int vo_glasses, .int vo_towersRead, .int vo_poured, .ref o_rows, .ref o_turns, .ref o_amounts, .ref o_drank, .long vo_spilt, .ref o_takes, .ref o_leans, .ref o_would, .int vo_done, .int vo_seedNow, .int vo_keptTower, .int vo_keptPoured, .long vo_keptSpilt, .ref o_keptAmounts, .ref o_keptDrank, .ref o_keptTurns, .long vo_hash])), (o_page, .inl (cI, 70, .inl vo_page)), (o_readRows, .inl (cI, 54, .inl vo_readRows)), (o_rows, .inl (cI, 54, .inl vo_rows)), (o_turns, .inl (cI, 9, .inl vo_turns)), (o_amounts, .inl (cJ, 9, .inr (.inl vo_amounts))), (o_drank, .inl (cJ, 9, .inr (.inl vo_drank)))] sz) (zQi r ((zRw qo_readRows) ∧ (zRw qo_rows) ∧ (0 ≤ qo_glasses.toInt) ∧ (qo_glasses.toInt ≤ 9) ∧ (0 ≤ qo_pageMany.toInt) ∧ (qo_pageMany.toInt ≤ 70)) (dC, dI) (zTy cI cJ cC) [(o, .inr (6, [.ref o_page, .int qo_pageMany, .int qo_readMany, .int qo_state, .int qo_readMost, .ref o_readRows, .int qo_glasses, .int qo_towersRead, .int qo_poured, .ref o_rows, .ref o_turns, .ref o_amounts, .ref o_drank, .long qo_spilt, .ref o_takes, .ref o_leans, .ref o_would, .int vo_done, .int vo_seedNow, .int vo_keptTower, .int vo_keptPoured, .long vo_keptSpilt, .ref o_keptAmounts, .ref o_keptDrank, .ref o_keptTurns, .long vo_hash])), (o_page, .inl (cI, 70, .inl vo_page)), (o_readRows, .inl (cI, 54, .inl qo_readRows)), (o_rows, .inl (cI, 54, .inl qo_rows)), (o_turns, .inl (cI, 9, .inl qo_turns)), (o_amounts, .inl (cJ, 9, .inr (.inl qo_amounts))), (o_drank, .inl (cJ, 9, .inr (.inl qo_drank)))] (va_A [(o, .inr (6, [.ref o_page, .int vo_pageMany, .int vo_readMany, .int vo_state, .int vo_readMost, .ref o_readRows, .int vo_glasses, .int vo_towersRead, .int vo_poured, .ref o_rows, .ref o_turns, .ref o_amounts, .ref o_drank, .long vo_spilt, .ref o_takes, .ref o_leans, .ref o_would, .int vo_done, .int vo_seedNow, .int vo_keptTower, .int vo_keptPoured, .long vo_keptSpilt, .ref o_keptAmounts, .ref o_keptDrank, .ref o_keptTurns, .long vo_hash])), (o_page, .inl (cI, 70, .inl vo_page)), (o_readRows, .inl (cI, 54, .inl vo_readRows)), (o_rows, .inl (cI, 54, .inl vo_rows)), (o_turns, .inl (cI, 9, .inl vo_turns)), (o_amounts, .inl (cJ, 9, .inr (.inl vo_amounts))), (o_drank, .inl (cJ, 9, .inr (.inl vo_drank)))] sz)) 0 0 (va_A [(o, .inr (6, [.ref o_page, .int vo_pageMany, .int vo_readMany, .int vo_state, .int vo_readMost, .ref o_readRows, .int vo_glasses, .int vo_towersRead, .int vo_poured, .ref o_rows, .ref o_turns, .ref o_amounts, .ref o_drank, .long vo_spilt, .ref o_takes, .ref o_leans, .ref o_would, .int vo_done, .int vo_seedNow, .int vo_keptTower, .int vo_keptPoured, .long vo_keptSpilt, .ref o_keptAmounts, .ref o_keptDrank, .ref o_keptTurns, .long vo_hash])), (o_page, .inl (cI, 70, .inl vo_page)), (o_readRows, .inl (cI, 54, .inl vo_readRows)), (o_rows, .inl (cI, 54, .inl vo_rows)), (o_turns, .inl (cI, 9, .inl vo_turns)), (o_amounts, .inl (cJ, 9, .inr (.inl vo_amounts))), (o_drank, .inl (cJ, 9, .inr (.inl vo_drank)))] sz) := by
  refine Met.ofW (cc := cX6_tower) (maxL := 2) (ret := (some .int)) (by decide) rfl ?_
  intro p e s m args below meth c s₁ B hml hv
  obtain ⟨rfl, hsz, hP, hK, hD0⟩ := hv
  have hx := B.exec
  have hb := B.bytes
  have hr := B.returns
  have hts := atoms_spec (ws := wsX6_tower) B.pre
  have hown : s.vm.findClass RX6 = some m.cls := findClass_of_methodNamed B.named
  have hlocks := B.notSynchronized
  subst hsz
  have hD := hD0.self (sz := s.heap.size)
  generalize hAe : va_A [(o, .inr (6, [.ref o_page, .int vo_pageMany, .int vo_readMany, .int vo_state, .int vo_readMost, .ref o_readRows, .int vo_glasses, .int vo_towersRead, .int vo_poured, .ref o_rows, .ref o_turns, .ref o_amounts, .ref o_drank, .long vo_spilt, .ref o_takes, .ref o_leans, .ref o_would, .int vo_done, .int vo_seedNow, .int vo_keptTower, .int vo_keptPoured, .long vo_keptSpilt, .ref o_keptAmounts, .ref o_keptDrank, .ref o_keptTurns, .long vo_hash])), (o_page, .inl (cI, 70, .inl vo_page)), (o_readRows, .inl (cI, 54, .inl vo_readRows)), (o_rows, .inl (cI, 54, .inl vo_rows)), (o_turns, .inl (cI, 9, .inl vo_turns)), (o_amounts, .inl (cJ, 9, .inr (.inl vo_amounts))), (o_drank, .inl (cJ, 9, .inr (.inl vo_drank)))] s.heap.size = A at hD ⊢
  have hA : ∀ q : Nat, s.heap.size ≤ q → A q := fun q h => by rw [← hAe]; exact Or.inr h
  have hS : va_S A s.heap s.heap [] := va_S.rf
  have hP : va_P (dC, dI) vwCl [(o, .inr (6, [.ref o_page, .int vo_pageMany, .int vo_readMany, .int vo_state, .int vo_readMost, .ref o_readRows, .int vo_glasses, .int vo_towersRead, .int vo_poured, .ref o_rows, .ref o_turns, .ref o_amounts, .ref o_drank, .long vo_spilt, .ref o_takes, .ref o_leans, .ref o_would, .int vo_done, .int vo_seedNow, .int vo_keptTower, .int vo_keptPoured, .long vo_keptSpilt, .ref o_keptAmounts, .ref o_keptDrank, .ref o_keptTurns, .long vo_hash])), (o_page, .inl (cI, 70, .inl vo_page)), (o_readRows, .inl (cI, 54, .inl vo_readRows)), (o_rows, .inl (cI, 54, .inl vo_rows)), (o_turns, .inl (cI, 9, .inl vo_turns)), (o_amounts, .inl (cJ, 9, .inr (.inl vo_amounts))), (o_drank, .inl (cJ, 9, .inr (.inl vo_drank)))] s.heap := hP
  have hK : va_K (dC, dI) vwCl (zTy cI cJ cC) s := hK
  have hl := lv_entry ([.ref o]) (n := 2) (Nat.le_of_ble_eq_true rfl)
  rw [lg_entry_eq]
  generalize (lg_sl ([.ref o]) ++ List.replicate (2 - (lg_sl ([.ref o])).length) Slot.unset).toArray = ls at hl ⊢
  have hl : lv_has ls 2 [(0, .ref o)] := hl
  refine zz_start hP hS (fun Q hQ H locs hP hS => ?_)
  have hwX6 : ∀ w ∈ u_ws RX6 TX6 26, w ∈ wsX6_tower := by decide +kernel
  have hf_103 := (hts (.fieldLink RX6 103 "PouredTopmostModel" "towersRead" "I") (by decide +kernel))
  have hf_13 := (hts (.fieldLink RX6 13 "PouredTopmostModel" "readRows" "[I") (by decide +kernel))
  have hf_16 := (hts (.fieldLink RX6 16 "PouredTopmostModel" "rows" "[I") (by decide +kernel))
  have hf_19 := (hts (.fieldLink RX6 19 "PouredTopmostModel" "turns" "[I") (by decide +kernel))
  have hf_53 := (hts (.fieldLink RX6 53 "PouredTopmostModel" "pageMany" "I") (by decide +kernel))
  have hf_56 := (hts (.fieldLink RX6 56 "PouredTopmostModel" "readMany" "I") (by decide +kernel))
  have hf_59 := (hts (.fieldLink RX6 59 "PouredTopmostModel" "state" "I") (by decide +kernel))
  have hf_72 := (hts (.fieldLink RX6 72 "PouredTopmostModel" "readMost" "I") (by decide +kernel))
  have hf_97 := (hts (.fieldLink RX6 97 "PouredTopmostModel" "glasses" "I") (by decide +kernel))
  refine lv_aload_n hx hb dX6_tower_0 rfl (lv_at hl 0 rfl) ?_
  obtain ⟨r1, u2, u3, u4, u5, ev_1⟩ : ∃ x0 x1 x2 x3 x4, (m_X6_faultOf vo_pageMany vo_page vo_readRows) = (x0, x1, x2, x3, x4) := ⟨_, _, _, _, _, rfl⟩
  replace hT := cut5_n ev_1 hT
  refine zz_ci [0, 1, 2] [3, 4, 5, 6] (wr := [(o_rows, .inl (cI, 54, .inl vo_rows)), (o_turns, .inl (cI, 9, .inl vo_turns)), (o_amounts, .inl (cJ, 9, .inr (.inl vo_amounts))), (o_drank, .inl (cJ, 9, .inr (.inl vo_drank)))]) (w1 := [(o, .inr (6, [.ref o_page, .int vo_pageMany, .int u2, .int u3, .int u4, .ref o_readRows, .int vo_glasses, .int vo_towersRead, .int vo_poured, .ref o_rows, .ref o_turns, .ref o_amounts, .ref o_drank, .long vo_spilt, .ref o_takes, .ref o_leans, .ref o_would, .int vo_done, .int vo_seedNow, .int vo_keptTower, .int vo_keptPoured, .long vo_keptSpilt, .ref o_keptAmounts, .ref o_keptDrank, .ref o_keptTurns, .long vo_hash])), (o_page, .inl (cI, 70, .inl vo_page)), (o_readRows, .inl (cI, 54, .inl u5))]) (va_runV (As := []) (rest := []) ⟨hx, hb, hml, hown, hts⟩ (k_X6_faultOf l dC dI cI cJ cC H.size o o_page o_readRows o_rows o_turns o_amounts o_drank o_takes o_leans o_would o_keptAmounts o_keptDrank o_keptTurns vo_pageMany vo_readMany vo_state vo_readMost vo_glasses vo_towersRead vo_poured vo_spilt vo_done vo_seedNow vo_keptTower vo_keptPoured vo_keptSpilt vo_hash vo_page vo_readRows r1 u2 u3 u4 u5 ev_1 hp0 hp70 hrr) (cwV 0 hts gX6_tower_X6_faultOf rfl rfl rfl (by decide +kernel) ⟨Nat.le_of_ble_eq_true rfl, Nat.le_of_ble_eq_true rfl⟩) (zz_preV [0, 1, 2] hK hP hD rfl rfl (va_recv hK hP (ci := 6) (q0 := 0) rfl rfl)) rfl rfl hl.1 rfl (lv_room (Nat.le_of_ble_eq_true rfl)) dX6_tower_1 ⟨Nat.zero_le _, Nat.zero_le _⟩) hP hD hS hA rfl rfl rfl (by decide) (fun ok_2 H locs hP hD hS => ?_)
  have hP : va_P (dC, dI) vwCl [(o_rows, .inl (cI, 54, .inl vo_rows)), (o_turns, .inl (cI, 9, .inl vo_turns)), (o_amounts, .inl (cJ, 9, .inr (.inl vo_amounts))), (o_drank, .inl (cJ, 9, .inr (.inl vo_drank))), (o, .inr (6, [.ref o_page, .int vo_pageMany, .int u2, .int u3, .int u4, .ref o_readRows, .int vo_glasses, .int vo_towersRead, .int vo_poured, .ref o_rows, .ref o_turns, .ref o_amounts, .ref o_drank, .long vo_spilt, .ref o_takes, .ref o_leans, .ref o_would, .int vo_done, .int vo_seedNow, .int vo_keptTower, .int vo_keptPoured, .long vo_keptSpilt, .ref o_keptAmounts, .ref o_keptDrank, .ref o_keptTurns, .long vo_hash])), (o_page, .inl (cI, 70, .inl vo_page)), (o_readRows, .inl (cI, 54, .inl u5))] H := hP
  have hD : va_D A [(o_rows, .inl (cI, 54, .inl vo_rows)), (o_turns, .inl (cI, 9, .inl vo_turns)), (o_amounts, .inl (cJ, 9, .inr (.inl vo_amounts))), (o_drank, .inl (cJ, 9, .inr (.inl vo_drank))), (o, .inr (6, [.ref o_page, .int vo_pageMany, .int u2, .int u3, .int u4, .ref o_readRows, .int vo_glasses, .int vo_towersRead, .int vo_poured, .ref o_rows, .ref o_turns, .ref o_amounts, .ref o_drank, .long vo_spilt, .ref o_takes, .ref o_leans, .ref o_would, .int vo_done, .int vo_seedNow, .int vo_keptTower, .int vo_keptPoured, .long vo_keptSpilt, .ref o_keptAmounts, .ref o_keptDrank, .ref o_keptTurns, .long vo_hash])), (o_page, .inl (cI, 70, .inl vo_page)), (o_readRows, .inl (cI, 54, .inl u5))] := hD
  obtain ⟨k_3, k_4, k_5, k_6, k_7⟩ := ok_2
  refine lv_aload_n hx hb dX6_tower_4 rfl (lv_at hl 0 rfl) ?_
  refine va_get (D := (dC, dI)) (ci := 6) (v := .int vo_pageMany) (C := RX6) (T := TX6) (N := 26) hx hb hts hwX6 hown hK hP 4 rfl rfl 1 (by decide) hf_53 (fun _ h9 => h9) rfl dX6_tower_5 ?_
  refine lv_icmp_lt (tgt := 38) hx hb dX6_tower_8 (by decide) (fun c_8 => ?_) (fun c_8 => ?_)
  · replace hT := cutT c_8 hT
    have g_27 := zltT (rfl : (r1).toInt = _) (rfl : (vo_pageMany).toInt = _) c_8
    refine lv_bipush (v := (-103 : Int32)) hx hb dX6_tower_38 (by decide) ?_
    have hP9 := hP
    have hD9 := hD
    have hS9 := hS
    have hT : ((-103 : Int32), vo_pageMany, u2, u3, u4, vo_glasses, vo_towersRead, vo_poured, vo_spilt, u5, vo_rows, vo_turns, vo_amounts, vo_drank) = (r, qo_pageMany, qo_readMany, qo_state, qo_readMost, qo_glasses, qo_towersRead, qo_poured, qo_spilt, qo_readRows, qo_rows, qo_turns, qo_amounts, qo_drank) := hT
    cases hT
    subst hQ
    exact zz_iret hx hb hr [4, 5, 6, 0, 1, 2, 3] hK hP9 hD9 hS9 rfl rfl ⟨(by assumption), (by assumption), (by first | decide | omega), (by first | decide | omega), (by first | decide | omega), (by first | decide | omega)⟩ hlocks dX6_tower_40
  · replace hT := cutF c_8 hT
    have g_28 := zltF (rfl : (r1).toInt = _) (rfl : (vo_pageMany).toInt = _) c_8
    refine lv_aload_n hx hb dX6_tower_11 rfl (lv_at hl 0 rfl) ?_
    refine va_get (D := (dC, dI)) (ci := 6) (v := .int u3) (C := RX6) (T := TX6) (N := 26) hx hb hts hwX6 hown hK hP 4 rfl rfl 3 (by decide) hf_59 (fun _ h9 => h9) rfl dX6_tower_12 ?_
    refine lv_iconst (v := (2 : Int32)) hx hb dX6_tower_15 (by decide) ?_
    refine lv_icmp_eq (tgt := 27) hx hb dX6_tower_16 (by decide) (fun c_9 => ?_) (fun c_9 => ?_)
    · replace hT := cutT c_9 hT
      have g_29 := zeqT (rfl : (u3).toInt = _) (by decide : ((2 : Int32)).toInt = 2) c_9
      refine lv_aload_n hx hb dX6_tower_27 rfl (lv_at hl 0 rfl) ?_
      refine va_get (D := (dC, dI)) (ci := 6) (v := .int u4) (C := RX6) (T := TX6) (N := 26) hx hb hts hwX6 hown hK hP 4 rfl rfl 4 (by decide) hf_72 (fun _ h9 => h9) rfl dX6_tower_28 ?_
      refine lv_aload_n hx hb dX6_tower_31 rfl (lv_at hl 0 rfl) ?_
      refine va_get (D := (dC, dI)) (ci := 6) (v := .int u2) (C := RX6) (T := TX6) (N := 26) hx hb hts hwX6 hown hK hP 4 rfl rfl 2 (by decide) hf_56 (fun _ h9 => h9) rfl dX6_tower_32 ?_
      refine lv_icmp_le (tgt := 41) hx hb dX6_tower_35 (by decide) (fun c_10 => ?_) (fun c_10 => ?_)
      · replace hT := cutT c_10 hT
        have g_30 := zleT (rfl : (u4).toInt = _) (rfl : (u2).toInt = _) c_10
        refine lv_aload_n hx hb dX6_tower_41 rfl (lv_at hl 0 rfl) ?_
        refine lv_aload_n hx hb dX6_tower_42 rfl (lv_at hl 0 rfl) ?_
        refine va_get (D := (dC, dI)) (ci := 6) (v := .int u2) (C := RX6) (T := TX6) (N := 26) hx hb hts hwX6 hown hK hP 4 rfl rfl 2 (by decide) hf_56 (fun _ h9 => h9) rfl dX6_tower_43 ?_
        refine lv_iconst (v := (1 : Int32)) hx hb dX6_tower_46 (by decide) ?_
        refine lv_iadd hx hb dX6_tower_47 ?_
        refine lv_topi (fun v6 ev6 => ?_)
        replace hT := cut_n ev6.symm hT
        try have fv6 := zaddE (rfl : (u2).toInt = _) (by decide : ((1 : Int32)).toInt = 1) ev6.symm (by omega) (by omega)
        refine va_put (D := (dC, dI)) (ci := 6) (v := .int v6) (ty := .int) (C := RX6) (T := TX6) (N := 26) hx hb hts hwX6 tyX6 tyX6_ok nmX6 hown hK hP hD hS 4 rfl rfl 6 (by decide) hf_97 (fun _ h9 => h9) rfl (by decide +kernel) rfl rfl (Nat.le_of_ble_eq_true rfl) dX6_tower_48 (fun H locs hP hD hS => ?_)
        have hP : va_P (dC, dI) vwCl [(o_rows, .inl (cI, 54, .inl vo_rows)), (o_turns, .inl (cI, 9, .inl vo_turns)), (o_amounts, .inl (cJ, 9, .inr (.inl vo_amounts))), (o_drank, .inl (cJ, 9, .inr (.inl vo_drank))), (o, .inr (6, [.ref o_page, .int vo_pageMany, .int u2, .int u3, .int u4, .ref o_readRows, .int v6, .int vo_towersRead, .int vo_poured, .ref o_rows, .ref o_turns, .ref o_amounts, .ref o_drank, .long vo_spilt, .ref o_takes, .ref o_leans, .ref o_would, .int vo_done, .int vo_seedNow, .int vo_keptTower, .int vo_keptPoured, .long vo_keptSpilt, .ref o_keptAmounts, .ref o_keptDrank, .ref o_keptTurns, .long vo_hash])), (o_page, .inl (cI, 70, .inl vo_page)), (o_readRows, .inl (cI, 54, .inl u5))] H := hP
        have hD : va_D A [(o_rows, .inl (cI, 54, .inl vo_rows)), (o_turns, .inl (cI, 9, .inl vo_turns)), (o_amounts, .inl (cJ, 9, .inr (.inl vo_amounts))), (o_drank, .inl (cJ, 9, .inr (.inl vo_drank))), (o, .inr (6, [.ref o_page, .int vo_pageMany, .int u2, .int u3, .int u4, .ref o_readRows, .int v6, .int vo_towersRead, .int vo_poured, .ref o_rows, .ref o_turns, .ref o_amounts, .ref o_drank, .long vo_spilt, .ref o_takes, .ref o_leans, .ref o_would, .int vo_done, .int vo_seedNow, .int vo_keptTower, .int vo_keptPoured, .long vo_keptSpilt, .ref o_keptAmounts, .ref o_keptDrank, .ref o_keptTurns, .long vo_hash])), (o_page, .inl (cI, 70, .inl vo_page)), (o_readRows, .inl (cI, 54, .inl u5))] := hD
        refine lv_iconst (v := (0 : Int32)) hx hb dX6_tower_51 (by decide) ?_
        refine lv_istore_n (lv' := [(1, .int (0 : Int32)), (0, .ref o)]) hx hb dX6_tower_52 rfl hl (by decide) rfl (fun ls hl => ?_)
        have hz_31 : ((0 : Int32)).toInt = 0 := by decide
        refine zz_loop (α := Int32 × (Nat → Int32)) 82 (fun k a H locs ls => (0 ≤ a.1.toInt) ∧ (a.1.toInt ≤ 6 * v6.toInt) ∧ (∀ n : Nat, a.2 n = if (n : Int) < a.1.toInt then u5 n else vo_rows n) ∧ (6 * v6.toInt - a.1.toInt < ((k : Nat) : Int)) ∧ lp_X6_tower_5 v6 (rs_X6_tower_5 vo_amounts vo_drank vo_towersRead v6 u2 u3 u4 u5 vo_turns) u5 k a.1 a.2 = (r, qo_pageMany, qo_readMany, qo_state, qo_readMost, qo_glasses, qo_towersRead, qo_poured, qo_spilt, qo_readRows, qo_rows, qo_turns, qo_amounts, qo_drank) ∧ va_P (dC, dI) vwCl [(o_rows, .inl (cI, 54, .inl a.2)), (o_turns, .inl (cI, 9, .inl vo_turns)), (o_amounts, .inl (cJ, 9, .inr (.inl vo_amounts))), (o_drank, .inl (cJ, 9, .inr (.inl vo_drank))), (o, .inr (6, [.ref o_page, .int vo_pageMany, .int u2, .int u3, .int u4, .ref o_readRows, .int v6, .int vo_towersRead, .int vo_poured, .ref o_rows, .ref o_turns, .ref o_amounts, .ref o_drank, .long vo_spilt, .ref o_takes, .ref o_leans, .ref o_would, .int vo_done, .int vo_seedNow, .int vo_keptTower, .int vo_keptPoured, .long vo_keptSpilt, .ref o_keptAmounts, .ref o_keptDrank, .ref o_keptTurns, .long vo_hash])), (o_page, .inl (cI, 70, .inl vo_page)), (o_readRows, .inl (cI, 54, .inl u5))] H ∧ va_D A [(o_rows, .inl (cI, 54, .inl a.2)), (o_turns, .inl (cI, 9, .inl vo_turns)), (o_amounts, .inl (cJ, 9, .inr (.inl vo_amounts))), (o_drank, .inl (cJ, 9, .inr (.inl vo_drank))), (o, .inr (6, [.ref o_page, .int vo_pageMany, .int u2, .int u3, .int u4, .ref o_readRows, .int v6, .int vo_towersRead, .int vo_poured, .ref o_rows, .ref o_turns, .ref o_amounts, .ref o_drank, .long vo_spilt, .ref o_takes, .ref o_leans, .ref o_would, .int vo_done, .int vo_seedNow, .int vo_keptTower, .int vo_keptPoured, .long vo_keptSpilt, .ref o_keptAmounts, .ref o_keptDrank, .ref o_keptTurns, .long vo_hash])), (o_page, .inl (cI, 70, .inl vo_page)), (o_readRows, .inl (cI, 54, .inl u5))] ∧ va_S A s.heap H locs ∧ lv_has ls 2 [(1, .int a.1), (0, .ref o)]) (fun a H locs ls => (0 ≤ a.1.toInt) ∧ (a.1.toInt ≤ 6 * v6.toInt) ∧ (∀ n : Nat, a.2 n = if (n : Int) < a.1.toInt then u5 n else vo_rows n) ∧ (6 * v6.toInt ≤ a.1.toInt) ∧ (rs_X6_tower_5 vo_amounts vo_drank vo_towersRead v6 u2 u3 u4 u5 vo_turns) a.1 a.2 = (r, qo_pageMany, qo_readMany, qo_state, qo_readMost, qo_glasses, qo_towersRead, qo_poured, qo_spilt, qo_readRows, qo_rows, qo_turns, qo_amounts, qo_drank) ∧ va_P (dC, dI) vwCl [(o_rows, .inl (cI, 54, .inl a.2)), (o_turns, .inl (cI, 9, .inl vo_turns)), (o_amounts, .inl (cJ, 9, .inr (.inl vo_amounts))), (o_drank, .inl (cJ, 9, .inr (.inl vo_drank))), (o, .inr (6, [.ref o_page, .int vo_pageMany, .int u2, .int u3, .int u4, .ref o_readRows, .int v6, .int vo_towersRead, .int vo_poured, .ref o_rows, .ref o_turns, .ref o_amounts, .ref o_drank, .long vo_spilt, .ref o_takes, .ref o_leans, .ref o_would, .int vo_done, .int vo_seedNow, .int vo_keptTower, .int vo_keptPoured, .long vo_keptSpilt, .ref o_keptAmounts, .ref o_keptDrank, .ref o_keptTurns, .long vo_hash])), (o_page, .inl (cI, 70, .inl vo_page)), (o_readRows, .inl (cI, 54, .inl u5))] H ∧ va_D A [(o_rows, .inl (cI, 54, .inl a.2)), (o_turns, .inl (cI, 9, .inl vo_turns)), (o_amounts, .inl (cJ, 9, .inr (.inl vo_amounts))), (o_drank, .inl (cJ, 9, .inr (.inl vo_drank))), (o, .inr (6, [.ref o_page, .int vo_pageMany, .int u2, .int u3, .int u4, .ref o_readRows, .int v6, .int vo_towersRead, .int vo_poured, .ref o_rows, .ref o_turns, .ref o_amounts, .ref o_drank, .long vo_spilt, .ref o_takes, .ref o_leans, .ref o_would, .int vo_done, .int vo_seedNow, .int vo_keptTower, .int vo_keptPoured, .long vo_keptSpilt, .ref o_keptAmounts, .ref o_keptDrank, .ref o_keptTurns, .long vo_hash])), (o_page, .inl (cI, 70, .inl vo_page)), (o_readRows, .inl (cI, 54, .inl u5))] ∧ va_S A s.heap H locs ∧ lv_has ls 2 [(0, .ref o)]) ?_ ?_ ?_ 56 ((0 : Int32), vo_rows) ⟨(by omega : 0 ≤ (0 : Int32).toInt), (by omega : (0 : Int32).toInt ≤ 6 * v6.toInt), (by intro n; rw [if_neg (by omega)] : ∀ n : Nat, vo_rows n = if (n : Int) < (0 : Int32).toInt then u5 n else vo_rows n), (by omega : 6 * v6.toInt - (0 : Int32).toInt < ((56 : Nat) : Int)), hT, hP.sub [0, 1, 2, 3, 4, 5, 6] rfl, hD.sub [0, 1, 2, 3, 4, 5, 6] rfl rfl, hS, lv_sub hl [0, 1] rfl⟩
        · rintro ⟨x9, x10⟩ H locs ls ⟨i1, j1, hy1, hx1, hT, hP, hD, hS, hl⟩
          have hP : va_P (dC, dI) vwCl [(o_rows, .inl (cI, 54, .inl x10)), (o_turns, .inl (cI, 9, .inl vo_turns)), (o_amounts, .inl (cJ, 9, .inr (.inl vo_amounts))), (o_drank, .inl (cJ, 9, .inr (.inl vo_drank))), (o, .inr (6, [.ref o_page, .int vo_pageMany, .int u2, .int u3, .int u4, .ref o_readRows, .int v6, .int vo_towersRead, .int vo_poured, .ref o_rows, .ref o_turns, .ref o_amounts, .ref o_drank, .long vo_spilt, .ref o_takes, .ref o_leans, .ref o_would, .int vo_done, .int vo_seedNow, .int vo_keptTower, .int vo_keptPoured, .long vo_keptSpilt, .ref o_keptAmounts, .ref o_keptDrank, .ref o_keptTurns, .long vo_hash])), (o_page, .inl (cI, 70, .inl vo_page)), (o_readRows, .inl (cI, 54, .inl u5))] H := hP
          have hD : va_D A [(o_rows, .inl (cI, 54, .inl x10)), (o_turns, .inl (cI, 9, .inl vo_turns)), (o_amounts, .inl (cJ, 9, .inr (.inl vo_amounts))), (o_drank, .inl (cJ, 9, .inr (.inl vo_drank))), (o, .inr (6, [.ref o_page, .int vo_pageMany, .int u2, .int u3, .int u4, .ref o_readRows, .int v6, .int vo_towersRead, .int vo_poured, .ref o_rows, .ref o_turns, .ref o_amounts, .ref o_drank, .long vo_spilt, .ref o_takes, .ref o_leans, .ref o_would, .int vo_done, .int vo_seedNow, .int vo_keptTower, .int vo_keptPoured, .long vo_keptSpilt, .ref o_keptAmounts, .ref o_keptDrank, .ref o_keptTurns, .long vo_hash])), (o_page, .inl (cI, 70, .inl vo_page)), (o_readRows, .inl (cI, 54, .inl u5))] := hD
          have hl : lv_has ls 2 [(0, .ref o)] := hl
          have hT : (rs_X6_tower_5 vo_amounts vo_drank vo_towersRead v6 u2 u3 u4 u5 vo_turns) x9 x10 = (r, qo_pageMany, qo_readMany, qo_state, qo_readMost, qo_glasses, qo_towersRead, qo_poured, qo_spilt, qo_readRows, qo_rows, qo_turns, qo_amounts, qo_drank) := hT
          have i1 : 0 ≤ x9.toInt := i1
          have j1 : x9.toInt ≤ 6 * v6.toInt := j1
          have hy1 : ∀ n : Nat, x10 n = if (n : Int) < x9.toInt then u5 n else vo_rows n := hy1
          have hx1 : 6 * v6.toInt ≤ x9.toInt := hx1
          have hy2 := zRw_cpy (b := x10) (gl := v6.toInt.toNat) (z := 6 * v6.toInt) (by omega) ‹zRw u5› hrw (by intro n; rw [hy1 n]; congr 1; apply propext; constructor <;> intro _ <;> omega)
          refine lv_iconst (v := (0 : Int32)) hx hb dX6_tower_82 (by decide) ?_
          refine lv_istore_n (lv' := [(1, .int (0 : Int32)), (0, .ref o)]) hx hb dX6_tower_83 rfl hl (by decide) rfl (fun ls hl => ?_)
          have hz_32 : ((0 : Int32)).toInt = 0 := by decide
          refine zz_loop (α := Int32 × (Nat → Int32)) 103 (fun k a H locs ls => (0 ≤ a.1.toInt) ∧ (a.1.toInt ≤ 9) ∧ (9 - a.1.toInt < ((k : Nat) : Int)) ∧ lp_X6_tower_6 (rs_X6_tower_6 vo_amounts vo_drank vo_towersRead v6 u2 u3 u4 u5 x10) k a.1 a.2 = (r, qo_pageMany, qo_readMany, qo_state, qo_readMost, qo_glasses, qo_towersRead, qo_poured, qo_spilt, qo_readRows, qo_rows, qo_turns, qo_amounts, qo_drank) ∧ va_P (dC, dI) vwCl [(o_rows, .inl (cI, 54, .inl x10)), (o_turns, .inl (cI, 9, .inl a.2)), (o_amounts, .inl (cJ, 9, .inr (.inl vo_amounts))), (o_drank, .inl (cJ, 9, .inr (.inl vo_drank))), (o, .inr (6, [.ref o_page, .int vo_pageMany, .int u2, .int u3, .int u4, .ref o_readRows, .int v6, .int vo_towersRead, .int vo_poured, .ref o_rows, .ref o_turns, .ref o_amounts, .ref o_drank, .long vo_spilt, .ref o_takes, .ref o_leans, .ref o_would, .int vo_done, .int vo_seedNow, .int vo_keptTower, .int vo_keptPoured, .long vo_keptSpilt, .ref o_keptAmounts, .ref o_keptDrank, .ref o_keptTurns, .long vo_hash])), (o_page, .inl (cI, 70, .inl vo_page)), (o_readRows, .inl (cI, 54, .inl u5))] H ∧ va_D A [(o_rows, .inl (cI, 54, .inl x10)), (o_turns, .inl (cI, 9, .inl a.2)), (o_amounts, .inl (cJ, 9, .inr (.inl vo_amounts))), (o_drank, .inl (cJ, 9, .inr (.inl vo_drank))), (o, .inr (6, [.ref o_page, .int vo_pageMany, .int u2, .int u3, .int u4, .ref o_readRows, .int v6, .int vo_towersRead, .int vo_poured, .ref o_rows, .ref o_turns, .ref o_amounts, .ref o_drank, .long vo_spilt, .ref o_takes, .ref o_leans, .ref o_would, .int vo_done, .int vo_seedNow, .int vo_keptTower, .int vo_keptPoured, .long vo_keptSpilt, .ref o_keptAmounts, .ref o_keptDrank, .ref o_keptTurns, .long vo_hash])), (o_page, .inl (cI, 70, .inl vo_page)), (o_readRows, .inl (cI, 54, .inl u5))] ∧ va_S A s.heap H locs ∧ lv_has ls 2 [(1, .int a.1), (0, .ref o)]) (fun a H locs ls => (0 ≤ a.1.toInt) ∧ (a.1.toInt ≤ 9) ∧ (rs_X6_tower_6 vo_amounts vo_drank vo_towersRead v6 u2 u3 u4 u5 x10) a.1 a.2 = (r, qo_pageMany, qo_readMany, qo_state, qo_readMost, qo_glasses, qo_towersRead, qo_poured, qo_spilt, qo_readRows, qo_rows, qo_turns, qo_amounts, qo_drank) ∧ va_P (dC, dI) vwCl [(o_rows, .inl (cI, 54, .inl x10)), (o_turns, .inl (cI, 9, .inl a.2)), (o_amounts, .inl (cJ, 9, .inr (.inl vo_amounts))), (o_drank, .inl (cJ, 9, .inr (.inl vo_drank))), (o, .inr (6, [.ref o_page, .int vo_pageMany, .int u2, .int u3, .int u4, .ref o_readRows, .int v6, .int vo_towersRead, .int vo_poured, .ref o_rows, .ref o_turns, .ref o_amounts, .ref o_drank, .long vo_spilt, .ref o_takes, .ref o_leans, .ref o_would, .int vo_done, .int vo_seedNow, .int vo_keptTower, .int vo_keptPoured, .long vo_keptSpilt, .ref o_keptAmounts, .ref o_keptDrank, .ref o_keptTurns, .long vo_hash])), (o_page, .inl (cI, 70, .inl vo_page)), (o_readRows, .inl (cI, 54, .inl u5))] H ∧ va_D A [(o_rows, .inl (cI, 54, .inl x10)), (o_turns, .inl (cI, 9, .inl a.2)), (o_amounts, .inl (cJ, 9, .inr (.inl vo_amounts))), (o_drank, .inl (cJ, 9, .inr (.inl vo_drank))), (o, .inr (6, [.ref o_page, .int vo_pageMany, .int u2, .int u3, .int u4, .ref o_readRows, .int v6, .int vo_towersRead, .int vo_poured, .ref o_rows, .ref o_turns, .ref o_amounts, .ref o_drank, .long vo_spilt, .ref o_takes, .ref o_leans, .ref o_would, .int vo_done, .int vo_seedNow, .int vo_keptTower, .int vo_keptPoured, .long vo_keptSpilt, .ref o_keptAmounts, .ref o_keptDrank, .ref o_keptTurns, .long vo_hash])), (o_page, .inl (cI, 70, .inl vo_page)), (o_readRows, .inl (cI, 54, .inl u5))] ∧ va_S A s.heap H locs ∧ lv_has ls 2 [(0, .ref o)]) ?_ ?_ ?_ 11 ((0 : Int32), vo_turns) ⟨(by omega : 0 ≤ (0 : Int32).toInt), (by omega : (0 : Int32).toInt ≤ 9), (by omega : 9 - (0 : Int32).toInt < ((11 : Nat) : Int)), hT, hP.sub [0, 1, 2, 3, 4, 5, 6] rfl, hD.sub [0, 1, 2, 3, 4, 5, 6] rfl rfl, hS, lv_sub hl [0, 1] rfl⟩
          · rintro ⟨x15, x16⟩ H locs ls ⟨i2, j2, hT, hP, hD, hS, hl⟩
            have hP : va_P (dC, dI) vwCl [(o_rows, .inl (cI, 54, .inl x10)), (o_turns, .inl (cI, 9, .inl x16)), (o_amounts, .inl (cJ, 9, .inr (.inl vo_amounts))), (o_drank, .inl (cJ, 9, .inr (.inl vo_drank))), (o, .inr (6, [.ref o_page, .int vo_pageMany, .int u2, .int u3, .int u4, .ref o_readRows, .int v6, .int vo_towersRead, .int vo_poured, .ref o_rows, .ref o_turns, .ref o_amounts, .ref o_drank, .long vo_spilt, .ref o_takes, .ref o_leans, .ref o_would, .int vo_done, .int vo_seedNow, .int vo_keptTower, .int vo_keptPoured, .long vo_keptSpilt, .ref o_keptAmounts, .ref o_keptDrank, .ref o_keptTurns, .long vo_hash])), (o_page, .inl (cI, 70, .inl vo_page)), (o_readRows, .inl (cI, 54, .inl u5))] H := hP
            have hD : va_D A [(o_rows, .inl (cI, 54, .inl x10)), (o_turns, .inl (cI, 9, .inl x16)), (o_amounts, .inl (cJ, 9, .inr (.inl vo_amounts))), (o_drank, .inl (cJ, 9, .inr (.inl vo_drank))), (o, .inr (6, [.ref o_page, .int vo_pageMany, .int u2, .int u3, .int u4, .ref o_readRows, .int v6, .int vo_towersRead, .int vo_poured, .ref o_rows, .ref o_turns, .ref o_amounts, .ref o_drank, .long vo_spilt, .ref o_takes, .ref o_leans, .ref o_would, .int vo_done, .int vo_seedNow, .int vo_keptTower, .int vo_keptPoured, .long vo_keptSpilt, .ref o_keptAmounts, .ref o_keptDrank, .ref o_keptTurns, .long vo_hash])), (o_page, .inl (cI, 70, .inl vo_page)), (o_readRows, .inl (cI, 54, .inl u5))] := hD
            have hl : lv_has ls 2 [(0, .ref o)] := hl
            have hT : (rs_X6_tower_6 vo_amounts vo_drank vo_towersRead v6 u2 u3 u4 u5 x10) x15 x16 = (r, qo_pageMany, qo_readMany, qo_state, qo_readMost, qo_glasses, qo_towersRead, qo_poured, qo_spilt, qo_readRows, qo_rows, qo_turns, qo_amounts, qo_drank) := hT
            have i2 : 0 ≤ x15.toInt := i2
            have j2 : x15.toInt ≤ 9 := j2
            refine lv_aload_n hx hb dX6_tower_103 rfl (lv_at hl 0 rfl) ?_
            obtain ⟨u19, u20, u21, u22, ev_16⟩ : ∃ x0 x1 x2 x3, (m_X6_empty vo_amounts vo_drank) = (x0, x1, x2, x3) := ⟨_, _, _, _, rfl⟩
            replace hT := cut4_n ev_16 hT
            refine zz_cv [4, 2, 3] [0, 1, 5, 6] (wr := [(o_rows, .inl (cI, 54, .inl x10)), (o_turns, .inl (cI, 9, .inl x16)), (o_page, .inl (cI, 70, .inl vo_page)), (o_readRows, .inl (cI, 54, .inl u5))]) (w1 := [(o, .inr (6, [.ref o_page, .int vo_pageMany, .int u2, .int u3, .int u4, .ref o_readRows, .int v6, .int vo_towersRead, .int u19, .ref o_rows, .ref o_turns, .ref o_amounts, .ref o_drank, .long u20, .ref o_takes, .ref o_leans, .ref o_would, .int vo_done, .int vo_seedNow, .int vo_keptTower, .int vo_keptPoured, .long vo_keptSpilt, .ref o_keptAmounts, .ref o_keptDrank, .ref o_keptTurns, .long vo_hash])), (o_amounts, .inl (cJ, 9, .inr (.inl u21))), (o_drank, .inl (cJ, 9, .inr (.inl u22)))]) (va_runV (As := []) (rest := []) ⟨hx, hb, hml, hown, hts⟩ (k_X6_empty l dC dI cI cJ cC H.size o o_page o_readRows o_rows o_turns o_amounts o_drank o_takes o_leans o_would o_keptAmounts o_keptDrank o_keptTurns vo_pageMany u2 u3 u4 v6 vo_towersRead vo_poured vo_spilt vo_done vo_seedNow vo_keptTower vo_keptPoured vo_keptSpilt vo_hash vo_amounts vo_drank u19 u20 u21 u22 ev_16) (cwV 0 hts gX6_tower_X6_empty rfl rfl rfl (by decide +kernel) ⟨Nat.le_of_ble_eq_true rfl, Nat.le_of_ble_eq_true rfl⟩) (zz_preV [4, 2, 3] hK hP hD rfl rfl (va_recv hK hP (ci := 6) (q0 := 4) rfl rfl)) rfl rfl hl.1 rfl (lv_room (Nat.le_of_ble_eq_true rfl)) dX6_tower_104 ⟨Nat.zero_le _, Nat.zero_le _⟩) hP hD hS hA rfl rfl rfl (by decide) (fun ok_17 H locs hP hD hS => ?_)
            have hP : va_P (dC, dI) vwCl [(o_rows, .inl (cI, 54, .inl x10)), (o_turns, .inl (cI, 9, .inl x16)), (o_page, .inl (cI, 70, .inl vo_page)), (o_readRows, .inl (cI, 54, .inl u5)), (o, .inr (6, [.ref o_page, .int vo_pageMany, .int u2, .int u3, .int u4, .ref o_readRows, .int v6, .int vo_towersRead, .int u19, .ref o_rows, .ref o_turns, .ref o_amounts, .ref o_drank, .long u20, .ref o_takes, .ref o_leans, .ref o_would, .int vo_done, .int vo_seedNow, .int vo_keptTower, .int vo_keptPoured, .long vo_keptSpilt, .ref o_keptAmounts, .ref o_keptDrank, .ref o_keptTurns, .long vo_hash])), (o_amounts, .inl (cJ, 9, .inr (.inl u21))), (o_drank, .inl (cJ, 9, .inr (.inl u22)))] H := hP
            have hD : va_D A [(o_rows, .inl (cI, 54, .inl x10)), (o_turns, .inl (cI, 9, .inl x16)), (o_page, .inl (cI, 70, .inl vo_page)), (o_readRows, .inl (cI, 54, .inl u5)), (o, .inr (6, [.ref o_page, .int vo_pageMany, .int u2, .int u3, .int u4, .ref o_readRows, .int v6, .int vo_towersRead, .int u19, .ref o_rows, .ref o_turns, .ref o_amounts, .ref o_drank, .long u20, .ref o_takes, .ref o_leans, .ref o_would, .int vo_done, .int vo_seedNow, .int vo_keptTower, .int vo_keptPoured, .long vo_keptSpilt, .ref o_keptAmounts, .ref o_keptDrank, .ref o_keptTurns, .long vo_hash])), (o_amounts, .inl (cJ, 9, .inr (.inl u21))), (o_drank, .inl (cJ, 9, .inr (.inl u22)))] := hD
            refine lv_aload_n hx hb dX6_tower_107 rfl (lv_at hl 0 rfl) ?_
            refine lv_dup hx hb dX6_tower_108 rfl ?_
            refine va_get (D := (dC, dI)) (ci := 6) (v := .int vo_towersRead) (C := RX6) (T := TX6) (N := 26) hx hb hts hwX6 hown hK hP 4 rfl rfl 7 (by decide) hf_103 (fun _ h9 => h9) rfl dX6_tower_109 ?_
            refine lv_iconst (v := (1 : Int32)) hx hb dX6_tower_112 (by decide) ?_
            refine lv_iadd hx hb dX6_tower_113 ?_
            refine lv_topi (fun v23 ev23 => ?_)
            replace hT := cut_n ev23.symm hT
            try have fv23 := zaddE (rfl : (vo_towersRead).toInt = _) (by decide : ((1 : Int32)).toInt = 1) ev23.symm (by omega) (by omega)
            refine va_put (D := (dC, dI)) (ci := 6) (v := .int v23) (ty := .int) (C := RX6) (T := TX6) (N := 26) hx hb hts hwX6 tyX6 tyX6_ok nmX6 hown hK hP hD hS 4 rfl rfl 7 (by decide) hf_103 (fun _ h9 => h9) rfl (by decide +kernel) rfl rfl (Nat.le_of_ble_eq_true rfl) dX6_tower_114 (fun H locs hP hD hS => ?_)
            have hP : va_P (dC, dI) vwCl [(o_rows, .inl (cI, 54, .inl x10)), (o_turns, .inl (cI, 9, .inl x16)), (o_page, .inl (cI, 70, .inl vo_page)), (o_readRows, .inl (cI, 54, .inl u5)), (o, .inr (6, [.ref o_page, .int vo_pageMany, .int u2, .int u3, .int u4, .ref o_readRows, .int v6, .int v23, .int u19, .ref o_rows, .ref o_turns, .ref o_amounts, .ref o_drank, .long u20, .ref o_takes, .ref o_leans, .ref o_would, .int vo_done, .int vo_seedNow, .int vo_keptTower, .int vo_keptPoured, .long vo_keptSpilt, .ref o_keptAmounts, .ref o_keptDrank, .ref o_keptTurns, .long vo_hash])), (o_amounts, .inl (cJ, 9, .inr (.inl u21))), (o_drank, .inl (cJ, 9, .inr (.inl u22)))] H := hP
            have hD : va_D A [(o_rows, .inl (cI, 54, .inl x10)), (o_turns, .inl (cI, 9, .inl x16)), (o_page, .inl (cI, 70, .inl vo_page)), (o_readRows, .inl (cI, 54, .inl u5)), (o, .inr (6, [.ref o_page, .int vo_pageMany, .int u2, .int u3, .int u4, .ref o_readRows, .int v6, .int v23, .int u19, .ref o_rows, .ref o_turns, .ref o_amounts, .ref o_drank, .long u20, .ref o_takes, .ref o_leans, .ref o_would, .int vo_done, .int vo_seedNow, .int vo_keptTower, .int vo_keptPoured, .long vo_keptSpilt, .ref o_keptAmounts, .ref o_keptDrank, .ref o_keptTurns, .long vo_hash])), (o_amounts, .inl (cJ, 9, .inr (.inl u21))), (o_drank, .inl (cJ, 9, .inr (.inl u22)))] := hD
            refine lv_aload_n hx hb dX6_tower_117 rfl (lv_at hl 0 rfl) ?_
            refine lv_iconst (v := (0 : Int32)) hx hb dX6_tower_118 (by decide) ?_
            refine va_put (D := (dC, dI)) (ci := 6) (v := .int (0 : Int32)) (ty := .int) (C := RX6) (T := TX6) (N := 26) hx hb hts hwX6 tyX6 tyX6_ok nmX6 hown hK hP hD hS 4 rfl rfl 1 (by decide) hf_53 (fun _ h9 => h9) rfl (by decide +kernel) rfl rfl (Nat.le_of_ble_eq_true rfl) dX6_tower_119 (fun H locs hP hD hS => ?_)
            have hP : va_P (dC, dI) vwCl [(o_rows, .inl (cI, 54, .inl x10)), (o_turns, .inl (cI, 9, .inl x16)), (o_page, .inl (cI, 70, .inl vo_page)), (o_readRows, .inl (cI, 54, .inl u5)), (o, .inr (6, [.ref o_page, .int (0 : Int32), .int u2, .int u3, .int u4, .ref o_readRows, .int v6, .int v23, .int u19, .ref o_rows, .ref o_turns, .ref o_amounts, .ref o_drank, .long u20, .ref o_takes, .ref o_leans, .ref o_would, .int vo_done, .int vo_seedNow, .int vo_keptTower, .int vo_keptPoured, .long vo_keptSpilt, .ref o_keptAmounts, .ref o_keptDrank, .ref o_keptTurns, .long vo_hash])), (o_amounts, .inl (cJ, 9, .inr (.inl u21))), (o_drank, .inl (cJ, 9, .inr (.inl u22)))] H := hP
            have hD : va_D A [(o_rows, .inl (cI, 54, .inl x10)), (o_turns, .inl (cI, 9, .inl x16)), (o_page, .inl (cI, 70, .inl vo_page)), (o_readRows, .inl (cI, 54, .inl u5)), (o, .inr (6, [.ref o_page, .int (0 : Int32), .int u2, .int u3, .int u4, .ref o_readRows, .int v6, .int v23, .int u19, .ref o_rows, .ref o_turns, .ref o_amounts, .ref o_drank, .long u20, .ref o_takes, .ref o_leans, .ref o_would, .int vo_done, .int vo_seedNow, .int vo_keptTower, .int vo_keptPoured, .long vo_keptSpilt, .ref o_keptAmounts, .ref o_keptDrank, .ref o_keptTurns, .long vo_hash])), (o_amounts, .inl (cJ, 9, .inr (.inl u21))), (o_drank, .inl (cJ, 9, .inr (.inl u22)))] := hD
            refine lv_aload_n hx hb dX6_tower_122 rfl (lv_at hl 0 rfl) ?_
            refine va_get (D := (dC, dI)) (ci := 6) (v := .int v6) (C := RX6) (T := TX6) (N := 26) hx hb hts hwX6 hown hK hP 4 rfl rfl 6 (by decide) hf_97 (fun _ h9 => h9) rfl dX6_tower_123 ?_
            have hP9 := hP
            have hD9 := hD
            have hS9 := hS
            have hT : (v6, (0 : Int32), u2, u3, u4, v6, v23, u19, u20, u5, x10, x16, u21, u22) = (r, qo_pageMany, qo_readMany, qo_state, qo_readMost, qo_glasses, qo_towersRead, qo_poured, qo_spilt, qo_readRows, qo_rows, qo_turns, qo_amounts, qo_drank) := hT
            cases hT
            subst hQ
            exact zz_iret hx hb hr [4, 2, 3, 0, 1, 5, 6] hK hP9 hD9 hS9 rfl rfl ⟨(by assumption), (by assumption), (by first | decide | omega), (by first | decide | omega), (by first | decide | omega), (by first | decide | omega)⟩ hlocks dX6_tower_126
          · rintro ⟨b13, b14⟩ H locs ls ⟨i2, j2, hm, -⟩
            try dsimp only at *
            omega
          · intro k6 hex6 ih6
            rintro ⟨b13, b14⟩ H locs ls ⟨i2, j2, hm6, hT, hP, hD, hS, hl⟩
            have hP : va_P (dC, dI) vwCl [(o_rows, .inl (cI, 54, .inl x10)), (o_turns, .inl (cI, 9, .inl b14)), (o_amounts, .inl (cJ, 9, .inr (.inl vo_amounts))), (o_drank, .inl (cJ, 9, .inr (.inl vo_drank))), (o, .inr (6, [.ref o_page, .int vo_pageMany, .int u2, .int u3, .int u4, .ref o_readRows, .int v6, .int vo_towersRead, .int vo_poured, .ref o_rows, .ref o_turns, .ref o_amounts, .ref o_drank, .long vo_spilt, .ref o_takes, .ref o_leans, .ref o_would, .int vo_done, .int vo_seedNow, .int vo_keptTower, .int vo_keptPoured, .long vo_keptSpilt, .ref o_keptAmounts, .ref o_keptDrank, .ref o_keptTurns, .long vo_hash])), (o_page, .inl (cI, 70, .inl vo_page)), (o_readRows, .inl (cI, 54, .inl u5))] H := hP
            have hD : va_D A [(o_rows, .inl (cI, 54, .inl x10)), (o_turns, .inl (cI, 9, .inl b14)), (o_amounts, .inl (cJ, 9, .inr (.inl vo_amounts))), (o_drank, .inl (cJ, 9, .inr (.inl vo_drank))), (o, .inr (6, [.ref o_page, .int vo_pageMany, .int u2, .int u3, .int u4, .ref o_readRows, .int v6, .int vo_towersRead, .int vo_poured, .ref o_rows, .ref o_turns, .ref o_amounts, .ref o_drank, .long vo_spilt, .ref o_takes, .ref o_leans, .ref o_would, .int vo_done, .int vo_seedNow, .int vo_keptTower, .int vo_keptPoured, .long vo_keptSpilt, .ref o_keptAmounts, .ref o_keptDrank, .ref o_keptTurns, .long vo_hash])), (o_page, .inl (cI, 70, .inl vo_page)), (o_readRows, .inl (cI, 54, .inl u5))] := hD
            have hl : lv_has ls 2 [(1, .int b13), (0, .ref o)] := hl
            have hT : lp_X6_tower_6 (rs_X6_tower_6 vo_amounts vo_drank vo_towersRead v6 u2 u3 u4 u5 x10) (k6 + 1) b13 b14 = (r, qo_pageMany, qo_readMany, qo_state, qo_readMost, qo_glasses, qo_towersRead, qo_poured, qo_spilt, qo_readRows, qo_rows, qo_turns, qo_amounts, qo_drank) := hT
            have i2 : 0 ≤ b13.toInt := i2
            have j2 : b13.toInt ≤ 9 := j2
            have hm6 : 9 - b13.toInt < (((k6 + 1) : Nat) : Int) := hm6
            try simp only [Int.natCast_add, Int.natCast_one, Nat.cast_add, Nat.cast_one] at hm6
            refine lv_iload_n hx hb dX6_tower_84 rfl (lv_at hl 0 rfl) ?_
            refine lv_bipush (v := (9 : Int32)) hx hb dX6_tower_85 (by decide) ?_
            refine lv_icmp_ge (tgt := 103) hx hb dX6_tower_87 (by decide) (fun c_14 => ?_) (fun c_14 => ?_)
            · replace hT := cutT c_14 hT
              have g_33 := zleT (by decide : ((9 : Int32)).toInt = 9) (rfl : (b13).toInt = _) c_14
              exact hex6 (b13, b14) _ _ _ ⟨(by omega : 0 ≤ b13.toInt), (by omega : b13.toInt ≤ 9), hT, hP.sub [0, 1, 2, 3, 4, 5, 6] rfl, hD.sub [0, 1, 2, 3, 4, 5, 6] rfl rfl, hS, lv_sub hl [1] rfl⟩
            · replace hT := cutF c_14 hT
              have g_34 := zleF (by decide : ((9 : Int32)).toInt = 9) (rfl : (b13).toInt = _) c_14
              refine lv_aload_n hx hb dX6_tower_90 rfl (lv_at hl 1 rfl) ?_
              refine va_get (D := (dC, dI)) (ci := 6) (v := .ref o_turns) (C := RX6) (T := TX6) (N := 26) hx hb hts hwX6 hown hK hP 4 rfl rfl 10 (by decide) hf_19 (fun _ h9 => h9) rfl dX6_tower_91 ?_
              refine lv_iload_n hx hb dX6_tower_94 rfl (lv_at hl 0 rfl) ?_
              refine lv_iconst (v := (0 : Int32)) hx hb dX6_tower_95 (by decide) ?_
              have h_15 : vp_in b13 9 := zin (by omega) (by omega)
              refine va_iast hx hb hK hP hD hS 1 0 rfl rfl h_15 dX6_tower_96 (fun H locs hP hD hS => ?_)
              obtain ⟨a17, ea17⟩ : ∃ z, (upd b14 b13.toNatClampNeg (0 : Int32)) = z := ⟨_, rfl⟩
              replace hT := cut_n ea17 hT
              have hP : va_P (dC, dI) vwCl [(o_rows, .inl (cI, 54, .inl x10)), (o_turns, .inl (cI, 9, .inl a17)), (o_amounts, .inl (cJ, 9, .inr (.inl vo_amounts))), (o_drank, .inl (cJ, 9, .inr (.inl vo_drank))), (o, .inr (6, [.ref o_page, .int vo_pageMany, .int u2, .int u3, .int u4, .ref o_readRows, .int v6, .int vo_towersRead, .int vo_poured, .ref o_rows, .ref o_turns, .ref o_amounts, .ref o_drank, .long vo_spilt, .ref o_takes, .ref o_leans, .ref o_would, .int vo_done, .int vo_seedNow, .int vo_keptTower, .int vo_keptPoured, .long vo_keptSpilt, .ref o_keptAmounts, .ref o_keptDrank, .ref o_keptTurns, .long vo_hash])), (o_page, .inl (cI, 70, .inl vo_page)), (o_readRows, .inl (cI, 54, .inl u5))] H := by rw [← ea17]; exact hP
              have hD : va_D A [(o_rows, .inl (cI, 54, .inl x10)), (o_turns, .inl (cI, 9, .inl a17)), (o_amounts, .inl (cJ, 9, .inr (.inl vo_amounts))), (o_drank, .inl (cJ, 9, .inr (.inl vo_drank))), (o, .inr (6, [.ref o_page, .int vo_pageMany, .int u2, .int u3, .int u4, .ref o_readRows, .int v6, .int vo_towersRead, .int vo_poured, .ref o_rows, .ref o_turns, .ref o_amounts, .ref o_drank, .long vo_spilt, .ref o_takes, .ref o_leans, .ref o_would, .int vo_done, .int vo_seedNow, .int vo_keptTower, .int vo_keptPoured, .long vo_keptSpilt, .ref o_keptAmounts, .ref o_keptDrank, .ref o_keptTurns, .long vo_hash])), (o_page, .inl (cI, 70, .inl vo_page)), (o_readRows, .inl (cI, 54, .inl u5))] := by rw [← ea17]; exact hD
              obtain ⟨v18, ev18⟩ : ∃ y : Int32, (b13 + (1 : Int32)) = y := ⟨_, rfl⟩
              replace hT := cut_n ev18 hT
              try have fv18 := zaddE (rfl : (b13).toInt = _) (by decide : ((1 : Int32)).toInt = 1) ev18 (by omega) (by omega)
              refine lv_iinc (v := v18) (lv' := [(1, .int v18), (0, .ref o)]) hx hb dX6_tower_97 hl (k := 0) rfl (by rw [← ev18]; rfl) (by decide) rfl (fun ls hl => ?_)
              refine lv_goto (tgt := 84) hx hb dX6_tower_100 (by decide) ?_
              exact ih6 (v18, a17) _ _ _ ⟨(by omega : 0 ≤ v18.toInt), (by omega : v18.toInt ≤ 9), (by omega : 9 - v18.toInt < ((k6 : Nat) : Int)), hT, hP.sub [0, 1, 2, 3, 4, 5, 6] rfl, hD.sub [0, 1, 2, 3, 4, 5, 6] rfl rfl, hS, lv_sub hl [0, 1] rfl⟩
        · rintro ⟨b7, b8⟩ H locs ls ⟨i1, j1, hy1, hm, -⟩
          try dsimp only at *
          omega
        · intro k5 hex5 ih5
          rintro ⟨b7, b8⟩ H locs ls ⟨i1, j1, hy1, hm5, hT, hP, hD, hS, hl⟩
          have hP : va_P (dC, dI) vwCl [(o_rows, .inl (cI, 54, .inl b8)), (o_turns, .inl (cI, 9, .inl vo_turns)), (o_amounts, .inl (cJ, 9, .inr (.inl vo_amounts))), (o_drank, .inl (cJ, 9, .inr (.inl vo_drank))), (o, .inr (6, [.ref o_page, .int vo_pageMany, .int u2, .int u3, .int u4, .ref o_readRows, .int v6, .int vo_towersRead, .int vo_poured, .ref o_rows, .ref o_turns, .ref o_amounts, .ref o_drank, .long vo_spilt, .ref o_takes, .ref o_leans, .ref o_would, .int vo_done, .int vo_seedNow, .int vo_keptTower, .int vo_keptPoured, .long vo_keptSpilt, .ref o_keptAmounts, .ref o_keptDrank, .ref o_keptTurns, .long vo_hash])), (o_page, .inl (cI, 70, .inl vo_page)), (o_readRows, .inl (cI, 54, .inl u5))] H := hP
          have hD : va_D A [(o_rows, .inl (cI, 54, .inl b8)), (o_turns, .inl (cI, 9, .inl vo_turns)), (o_amounts, .inl (cJ, 9, .inr (.inl vo_amounts))), (o_drank, .inl (cJ, 9, .inr (.inl vo_drank))), (o, .inr (6, [.ref o_page, .int vo_pageMany, .int u2, .int u3, .int u4, .ref o_readRows, .int v6, .int vo_towersRead, .int vo_poured, .ref o_rows, .ref o_turns, .ref o_amounts, .ref o_drank, .long vo_spilt, .ref o_takes, .ref o_leans, .ref o_would, .int vo_done, .int vo_seedNow, .int vo_keptTower, .int vo_keptPoured, .long vo_keptSpilt, .ref o_keptAmounts, .ref o_keptDrank, .ref o_keptTurns, .long vo_hash])), (o_page, .inl (cI, 70, .inl vo_page)), (o_readRows, .inl (cI, 54, .inl u5))] := hD
          have hl : lv_has ls 2 [(1, .int b7), (0, .ref o)] := hl
          have hT : lp_X6_tower_5 v6 (rs_X6_tower_5 vo_amounts vo_drank vo_towersRead v6 u2 u3 u4 u5 vo_turns) u5 (k5 + 1) b7 b8 = (r, qo_pageMany, qo_readMany, qo_state, qo_readMost, qo_glasses, qo_towersRead, qo_poured, qo_spilt, qo_readRows, qo_rows, qo_turns, qo_amounts, qo_drank) := hT
          have i1 : 0 ≤ b7.toInt := i1
          have j1 : b7.toInt ≤ 6 * v6.toInt := j1
          have hy1 : ∀ n : Nat, b8 n = if (n : Int) < b7.toInt then u5 n else vo_rows n := hy1
          have hm5 : 6 * v6.toInt - b7.toInt < (((k5 + 1) : Nat) : Int) := hm5
          try simp only [Int.natCast_add, Int.natCast_one, Nat.cast_add, Nat.cast_one] at hm5
          refine lv_iload_n hx hb dX6_tower_53 rfl (lv_at hl 0 rfl) ?_
          refine lv_bipush (v := (6 : Int32)) hx hb dX6_tower_54 (by decide) ?_
          refine lv_aload_n hx hb dX6_tower_56 rfl (lv_at hl 1 rfl) ?_
          refine va_get (D := (dC, dI)) (ci := 6) (v := .int v6) (C := RX6) (T := TX6) (N := 26) hx hb hts hwX6 hown hK hP 4 rfl rfl 6 (by decide) hf_97 (fun _ h9 => h9) rfl dX6_tower_57 ?_
          refine lv_imul hx hb dX6_tower_60 ?_
          try have e_35 := zmulE (v := ((6 : Int32) * v6)) (by decide : ((6 : Int32)).toInt = 6) (rfl : (v6).toInt = _) rfl (by omega) (by omega)
          refine lv_icmp_ge (tgt := 82) hx hb dX6_tower_61 (by decide) (fun c_11 => ?_) (fun c_11 => ?_)
          · replace hT := cutT c_11 hT
            have g_36 := zleT (rfl : (((6 : Int32) * v6)).toInt = _) (rfl : (b7).toInt = _) c_11
            exact hex5 (b7, b8) _ _ _ ⟨(by omega : 0 ≤ b7.toInt), (by omega : b7.toInt ≤ 6 * v6.toInt), (by omega : ∀ n : Nat, b8 n = if (n : Int) < b7.toInt then u5 n else vo_rows n), (by omega : 6 * v6.toInt ≤ b7.toInt), hT, hP.sub [0, 1, 2, 3, 4, 5, 6] rfl, hD.sub [0, 1, 2, 3, 4, 5, 6] rfl rfl, hS, lv_sub hl [1] rfl⟩
          · replace hT := cutF c_11 hT
            have g_37 := zleF (rfl : (((6 : Int32) * v6)).toInt = _) (rfl : (b7).toInt = _) c_11
            refine lv_aload_n hx hb dX6_tower_64 rfl (lv_at hl 1 rfl) ?_
            refine va_get (D := (dC, dI)) (ci := 6) (v := .ref o_rows) (C := RX6) (T := TX6) (N := 26) hx hb hts hwX6 hown hK hP 4 rfl rfl 9 (by decide) hf_16 (fun _ h9 => h9) rfl dX6_tower_65 ?_
            refine lv_iload_n hx hb dX6_tower_68 rfl (lv_at hl 0 rfl) ?_
            refine lv_aload_n hx hb dX6_tower_69 rfl (lv_at hl 1 rfl) ?_
            refine va_get (D := (dC, dI)) (ci := 6) (v := .ref o_readRows) (C := RX6) (T := TX6) (N := 26) hx hb hts hwX6 hown hK hP 4 rfl rfl 5 (by decide) hf_13 (fun _ h9 => h9) rfl dX6_tower_70 ?_
            refine lv_iload_n hx hb dX6_tower_73 rfl (lv_at hl 0 rfl) ?_
            have h_12 : vp_in b7 54 := zin (by omega) (by omega)
            refine va_iald hx hb hK hP 6 0 rfl rfl h_12 dX6_tower_74 ?_
            have h_13 : vp_in b7 54 := zin (by omega) (by omega)
            refine va_iast hx hb hK hP hD hS 0 0 rfl rfl h_13 dX6_tower_75 (fun H locs hP hD hS => ?_)
            obtain ⟨a11, ea11⟩ : ∃ z, (upd b8 b7.toNatClampNeg (u5 b7.toNatClampNeg)) = z := ⟨_, rfl⟩
            replace hT := cut_n ea11 hT
            have hP : va_P (dC, dI) vwCl [(o_rows, .inl (cI, 54, .inl a11)), (o_turns, .inl (cI, 9, .inl vo_turns)), (o_amounts, .inl (cJ, 9, .inr (.inl vo_amounts))), (o_drank, .inl (cJ, 9, .inr (.inl vo_drank))), (o, .inr (6, [.ref o_page, .int vo_pageMany, .int u2, .int u3, .int u4, .ref o_readRows, .int v6, .int vo_towersRead, .int vo_poured, .ref o_rows, .ref o_turns, .ref o_amounts, .ref o_drank, .long vo_spilt, .ref o_takes, .ref o_leans, .ref o_would, .int vo_done, .int vo_seedNow, .int vo_keptTower, .int vo_keptPoured, .long vo_keptSpilt, .ref o_keptAmounts, .ref o_keptDrank, .ref o_keptTurns, .long vo_hash])), (o_page, .inl (cI, 70, .inl vo_page)), (o_readRows, .inl (cI, 54, .inl u5))] H := by rw [← ea11]; exact hP
            have hD : va_D A [(o_rows, .inl (cI, 54, .inl a11)), (o_turns, .inl (cI, 9, .inl vo_turns)), (o_amounts, .inl (cJ, 9, .inr (.inl vo_amounts))), (o_drank, .inl (cJ, 9, .inr (.inl vo_drank))), (o, .inr (6, [.ref o_page, .int vo_pageMany, .int u2, .int u3, .int u4, .ref o_readRows, .int v6, .int vo_towersRead, .int vo_poured, .ref o_rows, .ref o_turns, .ref o_amounts, .ref o_drank, .long vo_spilt, .ref o_takes, .ref o_leans, .ref o_would, .int vo_done, .int vo_seedNow, .int vo_keptTower, .int vo_keptPoured, .long vo_keptSpilt, .ref o_keptAmounts, .ref o_keptDrank, .ref o_keptTurns, .long vo_hash])), (o_page, .inl (cI, 70, .inl vo_page)), (o_readRows, .inl (cI, 54, .inl u5))] := by rw [← ea11]; exact hD
            have hy1n : ∀ n : Nat, a11 n = if (n : Int) < b7.toInt + 1 then u5 n else vo_rows n := zcp1 (by omega) hy1 ea11
            obtain ⟨v12, ev12⟩ : ∃ y : Int32, (b7 + (1 : Int32)) = y := ⟨_, rfl⟩
            replace hT := cut_n ev12 hT
            try have fv12 := zaddE (rfl : (b7).toInt = _) (by decide : ((1 : Int32)).toInt = 1) ev12 (by omega) (by omega)
            refine lv_iinc (v := v12) (lv' := [(1, .int v12), (0, .ref o)]) hx hb dX6_tower_76 hl (k := 0) rfl (by rw [← ev12]; rfl) (by decide) rfl (fun ls hl => ?_)
            refine lv_goto (tgt := 53) hx hb dX6_tower_79 (by decide) ?_
            exact ih5 (v12, a11) _ _ _ ⟨(by omega : 0 ≤ v12.toInt), (by omega : v12.toInt ≤ 6 * v6.toInt), (by intro n; rw [hy1n n]; congr 1; apply propext; constructor <;> intro _ <;> omega : ∀ n : Nat, a11 n = if (n : Int) < v12.toInt then u5 n else vo_rows n), (by omega : 6 * v6.toInt - v12.toInt < ((k5 : Nat) : Int)), hT, hP.sub [0, 1, 2, 3, 4, 5, 6] rfl, hD.sub [0, 1, 2, 3, 4, 5, 6] rfl rfl, hS, lv_sub hl [0, 1] rfl⟩
      · replace hT := cutF c_10 hT
        have g_38 := zleF (rfl : (u4).toInt = _) (rfl : (u2).toInt = _) c_10
        refine lv_bipush (v := (-103 : Int32)) hx hb dX6_tower_38 (by decide) ?_
        have hP9 := hP
        have hD9 := hD
        have hS9 := hS
        have hT : ((-103 : Int32), vo_pageMany, u2, u3, u4, vo_glasses, vo_towersRead, vo_poured, vo_spilt, u5, vo_rows, vo_turns, vo_amounts, vo_drank) = (r, qo_pageMany, qo_readMany, qo_state, qo_readMost, qo_glasses, qo_towersRead, qo_poured, qo_spilt, qo_readRows, qo_rows, qo_turns, qo_amounts, qo_drank) := hT
        cases hT
        subst hQ
        exact zz_iret hx hb hr [4, 5, 6, 0, 1, 2, 3] hK hP9 hD9 hS9 rfl rfl ⟨(by assumption), (by assumption), (by first | decide | omega), (by first | decide | omega), (by first | decide | omega), (by first | decide | omega)⟩ hlocks dX6_tower_40
    · replace hT := cutF c_9 hT
      have g_39 := zeqF (rfl : (u3).toInt = _) (by decide : ((2 : Int32)).toInt = 2) c_9
      refine lv_aload_n hx hb dX6_tower_19 rfl (lv_at hl 0 rfl) ?_
      refine va_get (D := (dC, dI)) (ci := 6) (v := .int u3) (C := RX6) (T := TX6) (N := 26) hx hb hts hwX6 hown hK hP 4 rfl rfl 3 (by decide) hf_59 (fun _ h9 => h9) rfl dX6_tower_20 ?_
      refine lv_iconst (v := (4 : Int32)) hx hb dX6_tower_23 (by decide) ?_
      refine lv_icmp_ne (tgt := 38) hx hb dX6_tower_24 (by decide) (fun c_18 => ?_) (fun c_18 => ?_)
      · replace hT := cutF c_18 hT
        have g_40 := zeqF (rfl : (u3).toInt = _) (by decide : ((4 : Int32)).toInt = 4) c_18
        refine lv_bipush (v := (-103 : Int32)) hx hb dX6_tower_38 (by decide) ?_
        have hP9 := hP
        have hD9 := hD
        have hS9 := hS
        have hT : ((-103 : Int32), vo_pageMany, u2, u3, u4, vo_glasses, vo_towersRead, vo_poured, vo_spilt, u5, vo_rows, vo_turns, vo_amounts, vo_drank) = (r, qo_pageMany, qo_readMany, qo_state, qo_readMost, qo_glasses, qo_towersRead, qo_poured, qo_spilt, qo_readRows, qo_rows, qo_turns, qo_amounts, qo_drank) := hT
        cases hT
        subst hQ
        exact zz_iret hx hb hr [4, 5, 6, 0, 1, 2, 3] hK hP9 hD9 hS9 rfl rfl ⟨(by assumption), (by assumption), (by first | decide | omega), (by first | decide | omega), (by first | decide | omega), (by first | decide | omega)⟩ hlocks dX6_tower_40
      · replace hT := cutT c_18 hT
        have g_41 := zeqT (rfl : (u3).toInt = _) (by decide : ((4 : Int32)).toInt = 4) c_18
        refine lv_aload_n hx hb dX6_tower_27 rfl (lv_at hl 0 rfl) ?_
        refine va_get (D := (dC, dI)) (ci := 6) (v := .int u4) (C := RX6) (T := TX6) (N := 26) hx hb hts hwX6 hown hK hP 4 rfl rfl 4 (by decide) hf_72 (fun _ h9 => h9) rfl dX6_tower_28 ?_
        refine lv_aload_n hx hb dX6_tower_31 rfl (lv_at hl 0 rfl) ?_
        refine va_get (D := (dC, dI)) (ci := 6) (v := .int u2) (C := RX6) (T := TX6) (N := 26) hx hb hts hwX6 hown hK hP 4 rfl rfl 2 (by decide) hf_56 (fun _ h9 => h9) rfl dX6_tower_32 ?_
        refine lv_icmp_le (tgt := 41) hx hb dX6_tower_35 (by decide) (fun c_19 => ?_) (fun c_19 => ?_)
        · replace hT := cutT c_19 hT
          have g_42 := zleT (rfl : (u4).toInt = _) (rfl : (u2).toInt = _) c_19
          refine lv_aload_n hx hb dX6_tower_41 rfl (lv_at hl 0 rfl) ?_
          refine lv_aload_n hx hb dX6_tower_42 rfl (lv_at hl 0 rfl) ?_
          refine va_get (D := (dC, dI)) (ci := 6) (v := .int u2) (C := RX6) (T := TX6) (N := 26) hx hb hts hwX6 hown hK hP 4 rfl rfl 2 (by decide) hf_56 (fun _ h9 => h9) rfl dX6_tower_43 ?_
          refine lv_iconst (v := (1 : Int32)) hx hb dX6_tower_46 (by decide) ?_
          refine lv_iadd hx hb dX6_tower_47 ?_
          refine lv_topi (fun v24 ev24 => ?_)
          replace hT := cut_n ev24.symm hT
          try have fv24 := zaddE (rfl : (u2).toInt = _) (by decide : ((1 : Int32)).toInt = 1) ev24.symm (by omega) (by omega)
          refine va_put (D := (dC, dI)) (ci := 6) (v := .int v24) (ty := .int) (C := RX6) (T := TX6) (N := 26) hx hb hts hwX6 tyX6 tyX6_ok nmX6 hown hK hP hD hS 4 rfl rfl 6 (by decide) hf_97 (fun _ h9 => h9) rfl (by decide +kernel) rfl rfl (Nat.le_of_ble_eq_true rfl) dX6_tower_48 (fun H locs hP hD hS => ?_)
          have hP : va_P (dC, dI) vwCl [(o_rows, .inl (cI, 54, .inl vo_rows)), (o_turns, .inl (cI, 9, .inl vo_turns)), (o_amounts, .inl (cJ, 9, .inr (.inl vo_amounts))), (o_drank, .inl (cJ, 9, .inr (.inl vo_drank))), (o, .inr (6, [.ref o_page, .int vo_pageMany, .int u2, .int u3, .int u4, .ref o_readRows, .int v24, .int vo_towersRead, .int vo_poured, .ref o_rows, .ref o_turns, .ref o_amounts, .ref o_drank, .long vo_spilt, .ref o_takes, .ref o_leans, .ref o_would, .int vo_done, .int vo_seedNow, .int vo_keptTower, .int vo_keptPoured, .long vo_keptSpilt, .ref o_keptAmounts, .ref o_keptDrank, .ref o_keptTurns, .long vo_hash])), (o_page, .inl (cI, 70, .inl vo_page)), (o_readRows, .inl (cI, 54, .inl u5))] H := hP
          have hD : va_D A [(o_rows, .inl (cI, 54, .inl vo_rows)), (o_turns, .inl (cI, 9, .inl vo_turns)), (o_amounts, .inl (cJ, 9, .inr (.inl vo_amounts))), (o_drank, .inl (cJ, 9, .inr (.inl vo_drank))), (o, .inr (6, [.ref o_page, .int vo_pageMany, .int u2, .int u3, .int u4, .ref o_readRows, .int v24, .int vo_towersRead, .int vo_poured, .ref o_rows, .ref o_turns, .ref o_amounts, .ref o_drank, .long vo_spilt, .ref o_takes, .ref o_leans, .ref o_would, .int vo_done, .int vo_seedNow, .int vo_keptTower, .int vo_keptPoured, .long vo_keptSpilt, .ref o_keptAmounts, .ref o_keptDrank, .ref o_keptTurns, .long vo_hash])), (o_page, .inl (cI, 70, .inl vo_page)), (o_readRows, .inl (cI, 54, .inl u5))] := hD
          refine lv_iconst (v := (0 : Int32)) hx hb dX6_tower_51 (by decide) ?_
          refine lv_istore_n (lv' := [(1, .int (0 : Int32)), (0, .ref o)]) hx hb dX6_tower_52 rfl hl (by decide) rfl (fun ls hl => ?_)
          have hz_43 : ((0 : Int32)).toInt = 0 := by decide
          refine zz_loop (α := Int32 × (Nat → Int32)) 82 (fun k a H locs ls => (0 ≤ a.1.toInt) ∧ (a.1.toInt ≤ 6 * v24.toInt) ∧ (∀ n : Nat, a.2 n = if (n : Int) < a.1.toInt then u5 n else vo_rows n) ∧ (6 * v24.toInt - a.1.toInt < ((k : Nat) : Int)) ∧ lp_X6_tower_7 v24 (rs_X6_tower_7 vo_amounts vo_drank vo_towersRead v24 u2 u3 u4 u5 vo_turns) u5 k a.1 a.2 = (r, qo_pageMany, qo_readMany, qo_state, qo_readMost, qo_glasses, qo_towersRead, qo_poured, qo_spilt, qo_readRows, qo_rows, qo_turns, qo_amounts, qo_drank) ∧ va_P (dC, dI) vwCl [(o_rows, .inl (cI, 54, .inl a.2)), (o_turns, .inl (cI, 9, .inl vo_turns)), (o_amounts, .inl (cJ, 9, .inr (.inl vo_amounts))), (o_drank, .inl (cJ, 9, .inr (.inl vo_drank))), (o, .inr (6, [.ref o_page, .int vo_pageMany, .int u2, .int u3, .int u4, .ref o_readRows, .int v24, .int vo_towersRead, .int vo_poured, .ref o_rows, .ref o_turns, .ref o_amounts, .ref o_drank, .long vo_spilt, .ref o_takes, .ref o_leans, .ref o_would, .int vo_done, .int vo_seedNow, .int vo_keptTower, .int vo_keptPoured, .long vo_keptSpilt, .ref o_keptAmounts, .ref o_keptDrank, .ref o_keptTurns, .long vo_hash])), (o_page, .inl (cI, 70, .inl vo_page)), (o_readRows, .inl (cI, 54, .inl u5))] H ∧ va_D A [(o_rows, .inl (cI, 54, .inl a.2)), (o_turns, .inl (cI, 9, .inl vo_turns)), (o_amounts, .inl (cJ, 9, .inr (.inl vo_amounts))), (o_drank, .inl (cJ, 9, .inr (.inl vo_drank))), (o, .inr (6, [.ref o_page, .int vo_pageMany, .int u2, .int u3, .int u4, .ref o_readRows, .int v24, .int vo_towersRead, .int vo_poured, .ref o_rows, .ref o_turns, .ref o_amounts, .ref o_drank, .long vo_spilt, .ref o_takes, .ref o_leans, .ref o_would, .int vo_done, .int vo_seedNow, .int vo_keptTower, .int vo_keptPoured, .long vo_keptSpilt, .ref o_keptAmounts, .ref o_keptDrank, .ref o_keptTurns, .long vo_hash])), (o_page, .inl (cI, 70, .inl vo_page)), (o_readRows, .inl (cI, 54, .inl u5))] ∧ va_S A s.heap H locs ∧ lv_has ls 2 [(1, .int a.1), (0, .ref o)]) (fun a H locs ls => (0 ≤ a.1.toInt) ∧ (a.1.toInt ≤ 6 * v24.toInt) ∧ (∀ n : Nat, a.2 n = if (n : Int) < a.1.toInt then u5 n else vo_rows n) ∧ (6 * v24.toInt ≤ a.1.toInt) ∧ (rs_X6_tower_7 vo_amounts vo_drank vo_towersRead v24 u2 u3 u4 u5 vo_turns) a.1 a.2 = (r, qo_pageMany, qo_readMany, qo_state, qo_readMost, qo_glasses, qo_towersRead, qo_poured, qo_spilt, qo_readRows, qo_rows, qo_turns, qo_amounts, qo_drank) ∧ va_P (dC, dI) vwCl [(o_rows, .inl (cI, 54, .inl a.2)), (o_turns, .inl (cI, 9, .inl vo_turns)), (o_amounts, .inl (cJ, 9, .inr (.inl vo_amounts))), (o_drank, .inl (cJ, 9, .inr (.inl vo_drank))), (o, .inr (6, [.ref o_page, .int vo_pageMany, .int u2, .int u3, .int u4, .ref o_readRows, .int v24, .int vo_towersRead, .int vo_poured, .ref o_rows, .ref o_turns, .ref o_amounts, .ref o_drank, .long vo_spilt, .ref o_takes, .ref o_leans, .ref o_would, .int vo_done, .int vo_seedNow, .int vo_keptTower, .int vo_keptPoured, .long vo_keptSpilt, .ref o_keptAmounts, .ref o_keptDrank, .ref o_keptTurns, .long vo_hash])), (o_page, .inl (cI, 70, .inl vo_page)), (o_readRows, .inl (cI, 54, .inl u5))] H ∧ va_D A [(o_rows, .inl (cI, 54, .inl a.2)), (o_turns, .inl (cI, 9, .inl vo_turns)), (o_amounts, .inl (cJ, 9, .inr (.inl vo_amounts))), (o_drank, .inl (cJ, 9, .inr (.inl vo_drank))), (o, .inr (6, [.ref o_page, .int vo_pageMany, .int u2, .int u3, .int u4, .ref o_readRows, .int v24, .int vo_towersRead, .int vo_poured, .ref o_rows, .ref o_turns, .ref o_amounts, .ref o_drank, .long vo_spilt, .ref o_takes, .ref o_leans, .ref o_would, .int vo_done, .int vo_seedNow, .int vo_keptTower, .int vo_keptPoured, .long vo_keptSpilt, .ref o_keptAmounts, .ref o_keptDrank, .ref o_keptTurns, .long vo_hash])), (o_page, .inl (cI, 70, .inl vo_page)), (o_readRows, .inl (cI, 54, .inl u5))] ∧ va_S A s.heap H locs ∧ lv_has ls 2 [(0, .ref o)]) ?_ ?_ ?_ 56 ((0 : Int32), vo_rows) ⟨(by omega : 0 ≤ (0 : Int32).toInt), (by omega : (0 : Int32).toInt ≤ 6 * v24.toInt), (by intro n; rw [if_neg (by omega)] : ∀ n : Nat, vo_rows n = if (n : Int) < (0 : Int32).toInt then u5 n else vo_rows n), (by omega : 6 * v24.toInt - (0 : Int32).toInt < ((56 : Nat) : Int)), hT, hP.sub [0, 1, 2, 3, 4, 5, 6] rfl, hD.sub [0, 1, 2, 3, 4, 5, 6] rfl rfl, hS, lv_sub hl [0, 1] rfl⟩
          · rintro ⟨x27, x28⟩ H locs ls ⟨i1, j1, hy1, hx1, hT, hP, hD, hS, hl⟩
            have hP : va_P (dC, dI) vwCl [(o_rows, .inl (cI, 54, .inl x28)), (o_turns, .inl (cI, 9, .inl vo_turns)), (o_amounts, .inl (cJ, 9, .inr (.inl vo_amounts))), (o_drank, .inl (cJ, 9, .inr (.inl vo_drank))), (o, .inr (6, [.ref o_page, .int vo_pageMany, .int u2, .int u3, .int u4, .ref o_readRows, .int v24, .int vo_towersRead, .int vo_poured, .ref o_rows, .ref o_turns, .ref o_amounts, .ref o_drank, .long vo_spilt, .ref o_takes, .ref o_leans, .ref o_would, .int vo_done, .int vo_seedNow, .int vo_keptTower, .int vo_keptPoured, .long vo_keptSpilt, .ref o_keptAmounts, .ref o_keptDrank, .ref o_keptTurns, .long vo_hash])), (o_page, .inl (cI, 70, .inl vo_page)), (o_readRows, .inl (cI, 54, .inl u5))] H := hP
            have hD : va_D A [(o_rows, .inl (cI, 54, .inl x28)), (o_turns, .inl (cI, 9, .inl vo_turns)), (o_amounts, .inl (cJ, 9, .inr (.inl vo_amounts))), (o_drank, .inl (cJ, 9, .inr (.inl vo_drank))), (o, .inr (6, [.ref o_page, .int vo_pageMany, .int u2, .int u3, .int u4, .ref o_readRows, .int v24, .int vo_towersRead, .int vo_poured, .ref o_rows, .ref o_turns, .ref o_amounts, .ref o_drank, .long vo_spilt, .ref o_takes, .ref o_leans, .ref o_would, .int vo_done, .int vo_seedNow, .int vo_keptTower, .int vo_keptPoured, .long vo_keptSpilt, .ref o_keptAmounts, .ref o_keptDrank, .ref o_keptTurns, .long vo_hash])), (o_page, .inl (cI, 70, .inl vo_page)), (o_readRows, .inl (cI, 54, .inl u5))] := hD
            have hl : lv_has ls 2 [(0, .ref o)] := hl
            have hT : (rs_X6_tower_7 vo_amounts vo_drank vo_towersRead v24 u2 u3 u4 u5 vo_turns) x27 x28 = (r, qo_pageMany, qo_readMany, qo_state, qo_readMost, qo_glasses, qo_towersRead, qo_poured, qo_spilt, qo_readRows, qo_rows, qo_turns, qo_amounts, qo_drank) := hT
            have i1 : 0 ≤ x27.toInt := i1
            have j1 : x27.toInt ≤ 6 * v24.toInt := j1
            have hy1 : ∀ n : Nat, x28 n = if (n : Int) < x27.toInt then u5 n else vo_rows n := hy1
            have hx1 : 6 * v24.toInt ≤ x27.toInt := hx1
            have hy2 := zRw_cpy (b := x28) (gl := v24.toInt.toNat) (z := 6 * v24.toInt) (by omega) ‹zRw u5› hrw (by intro n; rw [hy1 n]; congr 1; apply propext; constructor <;> intro _ <;> omega)
            refine lv_iconst (v := (0 : Int32)) hx hb dX6_tower_82 (by decide) ?_
            refine lv_istore_n (lv' := [(1, .int (0 : Int32)), (0, .ref o)]) hx hb dX6_tower_83 rfl hl (by decide) rfl (fun ls hl => ?_)
            have hz_44 : ((0 : Int32)).toInt = 0 := by decide
            refine zz_loop (α := Int32 × (Nat → Int32)) 103 (fun k a H locs ls => (0 ≤ a.1.toInt) ∧ (a.1.toInt ≤ 9) ∧ (9 - a.1.toInt < ((k : Nat) : Int)) ∧ lp_X6_tower_8 (rs_X6_tower_8 vo_amounts vo_drank vo_towersRead v24 u2 u3 u4 u5 x28) k a.1 a.2 = (r, qo_pageMany, qo_readMany, qo_state, qo_readMost, qo_glasses, qo_towersRead, qo_poured, qo_spilt, qo_readRows, qo_rows, qo_turns, qo_amounts, qo_drank) ∧ va_P (dC, dI) vwCl [(o_rows, .inl (cI, 54, .inl x28)), (o_turns, .inl (cI, 9, .inl a.2)), (o_amounts, .inl (cJ, 9, .inr (.inl vo_amounts))), (o_drank, .inl (cJ, 9, .inr (.inl vo_drank))), (o, .inr (6, [.ref o_page, .int vo_pageMany, .int u2, .int u3, .int u4, .ref o_readRows, .int v24, .int vo_towersRead, .int vo_poured, .ref o_rows, .ref o_turns, .ref o_amounts, .ref o_drank, .long vo_spilt, .ref o_takes, .ref o_leans, .ref o_would, .int vo_done, .int vo_seedNow, .int vo_keptTower, .int vo_keptPoured, .long vo_keptSpilt, .ref o_keptAmounts, .ref o_keptDrank, .ref o_keptTurns, .long vo_hash])), (o_page, .inl (cI, 70, .inl vo_page)), (o_readRows, .inl (cI, 54, .inl u5))] H ∧ va_D A [(o_rows, .inl (cI, 54, .inl x28)), (o_turns, .inl (cI, 9, .inl a.2)), (o_amounts, .inl (cJ, 9, .inr (.inl vo_amounts))), (o_drank, .inl (cJ, 9, .inr (.inl vo_drank))), (o, .inr (6, [.ref o_page, .int vo_pageMany, .int u2, .int u3, .int u4, .ref o_readRows, .int v24, .int vo_towersRead, .int vo_poured, .ref o_rows, .ref o_turns, .ref o_amounts, .ref o_drank, .long vo_spilt, .ref o_takes, .ref o_leans, .ref o_would, .int vo_done, .int vo_seedNow, .int vo_keptTower, .int vo_keptPoured, .long vo_keptSpilt, .ref o_keptAmounts, .ref o_keptDrank, .ref o_keptTurns, .long vo_hash])), (o_page, .inl (cI, 70, .inl vo_page)), (o_readRows, .inl (cI, 54, .inl u5))] ∧ va_S A s.heap H locs ∧ lv_has ls 2 [(1, .int a.1), (0, .ref o)]) (fun a H locs ls => (0 ≤ a.1.toInt) ∧ (a.1.toInt ≤ 9) ∧ (rs_X6_tower_8 vo_amounts vo_drank vo_towersRead v24 u2 u3 u4 u5 x28) a.1 a.2 = (r, qo_pageMany, qo_readMany, qo_state, qo_readMost, qo_glasses, qo_towersRead, qo_poured, qo_spilt, qo_readRows, qo_rows, qo_turns, qo_amounts, qo_drank) ∧ va_P (dC, dI) vwCl [(o_rows, .inl (cI, 54, .inl x28)), (o_turns, .inl (cI, 9, .inl a.2)), (o_amounts, .inl (cJ, 9, .inr (.inl vo_amounts))), (o_drank, .inl (cJ, 9, .inr (.inl vo_drank))), (o, .inr (6, [.ref o_page, .int vo_pageMany, .int u2, .int u3, .int u4, .ref o_readRows, .int v24, .int vo_towersRead, .int vo_poured, .ref o_rows, .ref o_turns, .ref o_amounts, .ref o_drank, .long vo_spilt, .ref o_takes, .ref o_leans, .ref o_would, .int vo_done, .int vo_seedNow, .int vo_keptTower, .int vo_keptPoured, .long vo_keptSpilt, .ref o_keptAmounts, .ref o_keptDrank, .ref o_keptTurns, .long vo_hash])), (o_page, .inl (cI, 70, .inl vo_page)), (o_readRows, .inl (cI, 54, .inl u5))] H ∧ va_D A [(o_rows, .inl (cI, 54, .inl x28)), (o_turns, .inl (cI, 9, .inl a.2)), (o_amounts, .inl (cJ, 9, .inr (.inl vo_amounts))), (o_drank, .inl (cJ, 9, .inr (.inl vo_drank))), (o, .inr (6, [.ref o_page, .int vo_pageMany, .int u2, .int u3, .int u4, .ref o_readRows, .int v24, .int vo_towersRead, .int vo_poured, .ref o_rows, .ref o_turns, .ref o_amounts, .ref o_drank, .long vo_spilt, .ref o_takes, .ref o_leans, .ref o_would, .int vo_done, .int vo_seedNow, .int vo_keptTower, .int vo_keptPoured, .long vo_keptSpilt, .ref o_keptAmounts, .ref o_keptDrank, .ref o_keptTurns, .long vo_hash])), (o_page, .inl (cI, 70, .inl vo_page)), (o_readRows, .inl (cI, 54, .inl u5))] ∧ va_S A s.heap H locs ∧ lv_has ls 2 [(0, .ref o)]) ?_ ?_ ?_ 11 ((0 : Int32), vo_turns) ⟨(by omega : 0 ≤ (0 : Int32).toInt), (by omega : (0 : Int32).toInt ≤ 9), (by omega : 9 - (0 : Int32).toInt < ((11 : Nat) : Int)), hT, hP.sub [0, 1, 2, 3, 4, 5, 6] rfl, hD.sub [0, 1, 2, 3, 4, 5, 6] rfl rfl, hS, lv_sub hl [0, 1] rfl⟩
            · rintro ⟨x33, x34⟩ H locs ls ⟨i2, j2, hT, hP, hD, hS, hl⟩
              have hP : va_P (dC, dI) vwCl [(o_rows, .inl (cI, 54, .inl x28)), (o_turns, .inl (cI, 9, .inl x34)), (o_amounts, .inl (cJ, 9, .inr (.inl vo_amounts))), (o_drank, .inl (cJ, 9, .inr (.inl vo_drank))), (o, .inr (6, [.ref o_page, .int vo_pageMany, .int u2, .int u3, .int u4, .ref o_readRows, .int v24, .int vo_towersRead, .int vo_poured, .ref o_rows, .ref o_turns, .ref o_amounts, .ref o_drank, .long vo_spilt, .ref o_takes, .ref o_leans, .ref o_would, .int vo_done, .int vo_seedNow, .int vo_keptTower, .int vo_keptPoured, .long vo_keptSpilt, .ref o_keptAmounts, .ref o_keptDrank, .ref o_keptTurns, .long vo_hash])), (o_page, .inl (cI, 70, .inl vo_page)), (o_readRows, .inl (cI, 54, .inl u5))] H := hP
              have hD : va_D A [(o_rows, .inl (cI, 54, .inl x28)), (o_turns, .inl (cI, 9, .inl x34)), (o_amounts, .inl (cJ, 9, .inr (.inl vo_amounts))), (o_drank, .inl (cJ, 9, .inr (.inl vo_drank))), (o, .inr (6, [.ref o_page, .int vo_pageMany, .int u2, .int u3, .int u4, .ref o_readRows, .int v24, .int vo_towersRead, .int vo_poured, .ref o_rows, .ref o_turns, .ref o_amounts, .ref o_drank, .long vo_spilt, .ref o_takes, .ref o_leans, .ref o_would, .int vo_done, .int vo_seedNow, .int vo_keptTower, .int vo_keptPoured, .long vo_keptSpilt, .ref o_keptAmounts, .ref o_keptDrank, .ref o_keptTurns, .long vo_hash])), (o_page, .inl (cI, 70, .inl vo_page)), (o_readRows, .inl (cI, 54, .inl u5))] := hD
              have hl : lv_has ls 2 [(0, .ref o)] := hl
              have hT : (rs_X6_tower_8 vo_amounts vo_drank vo_towersRead v24 u2 u3 u4 u5 x28) x33 x34 = (r, qo_pageMany, qo_readMany, qo_state, qo_readMost, qo_glasses, qo_towersRead, qo_poured, qo_spilt, qo_readRows, qo_rows, qo_turns, qo_amounts, qo_drank) := hT
              have i2 : 0 ≤ x33.toInt := i2
              have j2 : x33.toInt ≤ 9 := j2
              refine lv_aload_n hx hb dX6_tower_103 rfl (lv_at hl 0 rfl) ?_
              obtain ⟨u37, u38, u39, u40, ev_25⟩ : ∃ x0 x1 x2 x3, (m_X6_empty vo_amounts vo_drank) = (x0, x1, x2, x3) := ⟨_, _, _, _, rfl⟩
              replace hT := cut4_n ev_25 hT
              refine zz_cv [4, 2, 3] [0, 1, 5, 6] (wr := [(o_rows, .inl (cI, 54, .inl x28)), (o_turns, .inl (cI, 9, .inl x34)), (o_page, .inl (cI, 70, .inl vo_page)), (o_readRows, .inl (cI, 54, .inl u5))]) (w1 := [(o, .inr (6, [.ref o_page, .int vo_pageMany, .int u2, .int u3, .int u4, .ref o_readRows, .int v24, .int vo_towersRead, .int u37, .ref o_rows, .ref o_turns, .ref o_amounts, .ref o_drank, .long u38, .ref o_takes, .ref o_leans, .ref o_would, .int vo_done, .int vo_seedNow, .int vo_keptTower, .int vo_keptPoured, .long vo_keptSpilt, .ref o_keptAmounts, .ref o_keptDrank, .ref o_keptTurns, .long vo_hash])), (o_amounts, .inl (cJ, 9, .inr (.inl u39))), (o_drank, .inl (cJ, 9, .inr (.inl u40)))]) (va_runV (As := []) (rest := []) ⟨hx, hb, hml, hown, hts⟩ (k_X6_empty l dC dI cI cJ cC H.size o o_page o_readRows o_rows o_turns o_amounts o_drank o_takes o_leans o_would o_keptAmounts o_keptDrank o_keptTurns vo_pageMany u2 u3 u4 v24 vo_towersRead vo_poured vo_spilt vo_done vo_seedNow vo_keptTower vo_keptPoured vo_keptSpilt vo_hash vo_amounts vo_drank u37 u38 u39 u40 ev_25) (cwV 0 hts gX6_tower_X6_empty rfl rfl rfl (by decide +kernel) ⟨Nat.le_of_ble_eq_true rfl, Nat.le_of_ble_eq_true rfl⟩) (zz_preV [4, 2, 3] hK hP hD rfl rfl (va_recv hK hP (ci := 6) (q0 := 4) rfl rfl)) rfl rfl hl.1 rfl (lv_room (Nat.le_of_ble_eq_true rfl)) dX6_tower_104 ⟨Nat.zero_le _, Nat.zero_le _⟩) hP hD hS hA rfl rfl rfl (by decide) (fun ok_26 H locs hP hD hS => ?_)
              have hP : va_P (dC, dI) vwCl [(o_rows, .inl (cI, 54, .inl x28)), (o_turns, .inl (cI, 9, .inl x34)), (o_page, .inl (cI, 70, .inl vo_page)), (o_readRows, .inl (cI, 54, .inl u5)), (o, .inr (6, [.ref o_page, .int vo_pageMany, .int u2, .int u3, .int u4, .ref o_readRows, .int v24, .int vo_towersRead, .int u37, .ref o_rows, .ref o_turns, .ref o_amounts, .ref o_drank, .long u38, .ref o_takes, .ref o_leans, .ref o_would, .int vo_done, .int vo_seedNow, .int vo_keptTower, .int vo_keptPoured, .long vo_keptSpilt, .ref o_keptAmounts, .ref o_keptDrank, .ref o_keptTurns, .long vo_hash])), (o_amounts, .inl (cJ, 9, .inr (.inl u39))), (o_drank, .inl (cJ, 9, .inr (.inl u40)))] H := hP
              have hD : va_D A [(o_rows, .inl (cI, 54, .inl x28)), (o_turns, .inl (cI, 9, .inl x34)), (o_page, .inl (cI, 70, .inl vo_page)), (o_readRows, .inl (cI, 54, .inl u5)), (o, .inr (6, [.ref o_page, .int vo_pageMany, .int u2, .int u3, .int u4, .ref o_readRows, .int v24, .int vo_towersRead, .int u37, .ref o_rows, .ref o_turns, .ref o_amounts, .ref o_drank, .long u38, .ref o_takes, .ref o_leans, .ref o_would, .int vo_done, .int vo_seedNow, .int vo_keptTower, .int vo_keptPoured, .long vo_keptSpilt, .ref o_keptAmounts, .ref o_keptDrank, .ref o_keptTurns, .long vo_hash])), (o_amounts, .inl (cJ, 9, .inr (.inl u39))), (o_drank, .inl (cJ, 9, .inr (.inl u40)))] := hD
              refine lv_aload_n hx hb dX6_tower_107 rfl (lv_at hl 0 rfl) ?_
              refine lv_dup hx hb dX6_tower_108 rfl ?_
              refine va_get (D := (dC, dI)) (ci := 6) (v := .int vo_towersRead) (C := RX6) (T := TX6) (N := 26) hx hb hts hwX6 hown hK hP 4 rfl rfl 7 (by decide) hf_103 (fun _ h9 => h9) rfl dX6_tower_109 ?_
              refine lv_iconst (v := (1 : Int32)) hx hb dX6_tower_112 (by decide) ?_
              refine lv_iadd hx hb dX6_tower_113 ?_
              refine lv_topi (fun v41 ev41 => ?_)
              replace hT := cut_n ev41.symm hT
              try have fv41 := zaddE (rfl : (vo_towersRead).toInt = _) (by decide : ((1 : Int32)).toInt = 1) ev41.symm (by omega) (by omega)
              refine va_put (D := (dC, dI)) (ci := 6) (v := .int v41) (ty := .int) (C := RX6) (T := TX6) (N := 26) hx hb hts hwX6 tyX6 tyX6_ok nmX6 hown hK hP hD hS 4 rfl rfl 7 (by decide) hf_103 (fun _ h9 => h9) rfl (by decide +kernel) rfl rfl (Nat.le_of_ble_eq_true rfl) dX6_tower_114 (fun H locs hP hD hS => ?_)
              have hP : va_P (dC, dI) vwCl [(o_rows, .inl (cI, 54, .inl x28)), (o_turns, .inl (cI, 9, .inl x34)), (o_page, .inl (cI, 70, .inl vo_page)), (o_readRows, .inl (cI, 54, .inl u5)), (o, .inr (6, [.ref o_page, .int vo_pageMany, .int u2, .int u3, .int u4, .ref o_readRows, .int v24, .int v41, .int u37, .ref o_rows, .ref o_turns, .ref o_amounts, .ref o_drank, .long u38, .ref o_takes, .ref o_leans, .ref o_would, .int vo_done, .int vo_seedNow, .int vo_keptTower, .int vo_keptPoured, .long vo_keptSpilt, .ref o_keptAmounts, .ref o_keptDrank, .ref o_keptTurns, .long vo_hash])), (o_amounts, .inl (cJ, 9, .inr (.inl u39))), (o_drank, .inl (cJ, 9, .inr (.inl u40)))] H := hP
              have hD : va_D A [(o_rows, .inl (cI, 54, .inl x28)), (o_turns, .inl (cI, 9, .inl x34)), (o_page, .inl (cI, 70, .inl vo_page)), (o_readRows, .inl (cI, 54, .inl u5)), (o, .inr (6, [.ref o_page, .int vo_pageMany, .int u2, .int u3, .int u4, .ref o_readRows, .int v24, .int v41, .int u37, .ref o_rows, .ref o_turns, .ref o_amounts, .ref o_drank, .long u38, .ref o_takes, .ref o_leans, .ref o_would, .int vo_done, .int vo_seedNow, .int vo_keptTower, .int vo_keptPoured, .long vo_keptSpilt, .ref o_keptAmounts, .ref o_keptDrank, .ref o_keptTurns, .long vo_hash])), (o_amounts, .inl (cJ, 9, .inr (.inl u39))), (o_drank, .inl (cJ, 9, .inr (.inl u40)))] := hD
              refine lv_aload_n hx hb dX6_tower_117 rfl (lv_at hl 0 rfl) ?_
              refine lv_iconst (v := (0 : Int32)) hx hb dX6_tower_118 (by decide) ?_
              refine va_put (D := (dC, dI)) (ci := 6) (v := .int (0 : Int32)) (ty := .int) (C := RX6) (T := TX6) (N := 26) hx hb hts hwX6 tyX6 tyX6_ok nmX6 hown hK hP hD hS 4 rfl rfl 1 (by decide) hf_53 (fun _ h9 => h9) rfl (by decide +kernel) rfl rfl (Nat.le_of_ble_eq_true rfl) dX6_tower_119 (fun H locs hP hD hS => ?_)
              have hP : va_P (dC, dI) vwCl [(o_rows, .inl (cI, 54, .inl x28)), (o_turns, .inl (cI, 9, .inl x34)), (o_page, .inl (cI, 70, .inl vo_page)), (o_readRows, .inl (cI, 54, .inl u5)), (o, .inr (6, [.ref o_page, .int (0 : Int32), .int u2, .int u3, .int u4, .ref o_readRows, .int v24, .int v41, .int u37, .ref o_rows, .ref o_turns, .ref o_amounts, .ref o_drank, .long u38, .ref o_takes, .ref o_leans, .ref o_would, .int vo_done, .int vo_seedNow, .int vo_keptTower, .int vo_keptPoured, .long vo_keptSpilt, .ref o_keptAmounts, .ref o_keptDrank, .ref o_keptTurns, .long vo_hash])), (o_amounts, .inl (cJ, 9, .inr (.inl u39))), (o_drank, .inl (cJ, 9, .inr (.inl u40)))] H := hP
              have hD : va_D A [(o_rows, .inl (cI, 54, .inl x28)), (o_turns, .inl (cI, 9, .inl x34)), (o_page, .inl (cI, 70, .inl vo_page)), (o_readRows, .inl (cI, 54, .inl u5)), (o, .inr (6, [.ref o_page, .int (0 : Int32), .int u2, .int u3, .int u4, .ref o_readRows, .int v24, .int v41, .int u37, .ref o_rows, .ref o_turns, .ref o_amounts, .ref o_drank, .long u38, .ref o_takes, .ref o_leans, .ref o_would, .int vo_done, .int vo_seedNow, .int vo_keptTower, .int vo_keptPoured, .long vo_keptSpilt, .ref o_keptAmounts, .ref o_keptDrank, .ref o_keptTurns, .long vo_hash])), (o_amounts, .inl (cJ, 9, .inr (.inl u39))), (o_drank, .inl (cJ, 9, .inr (.inl u40)))] := hD
              refine lv_aload_n hx hb dX6_tower_122 rfl (lv_at hl 0 rfl) ?_
              refine va_get (D := (dC, dI)) (ci := 6) (v := .int v24) (C := RX6) (T := TX6) (N := 26) hx hb hts hwX6 hown hK hP 4 rfl rfl 6 (by decide) hf_97 (fun _ h9 => h9) rfl dX6_tower_123 ?_
              have hP9 := hP
              have hD9 := hD
              have hS9 := hS
              have hT : (v24, (0 : Int32), u2, u3, u4, v24, v41, u37, u38, u5, x28, x34, u39, u40) = (r, qo_pageMany, qo_readMany, qo_state, qo_readMost, qo_glasses, qo_towersRead, qo_poured, qo_spilt, qo_readRows, qo_rows, qo_turns, qo_amounts, qo_drank) := hT
              cases hT
              subst hQ
              exact zz_iret hx hb hr [4, 2, 3, 0, 1, 5, 6] hK hP9 hD9 hS9 rfl rfl ⟨(by assumption), (by assumption), (by first | decide | omega), (by first | decide | omega), (by first | decide | omega), (by first | decide | omega)⟩ hlocks dX6_tower_126
            · rintro ⟨b31, b32⟩ H locs ls ⟨i2, j2, hm, -⟩
              try dsimp only at *
              omega
            · intro k8 hex8 ih8
              rintro ⟨b31, b32⟩ H locs ls ⟨i2, j2, hm8, hT, hP, hD, hS, hl⟩
              have hP : va_P (dC, dI) vwCl [(o_rows, .inl (cI, 54, .inl x28)), (o_turns, .inl (cI, 9, .inl b32)), (o_amounts, .inl (cJ, 9, .inr (.inl vo_amounts))), (o_drank, .inl (cJ, 9, .inr (.inl vo_drank))), (o, .inr (6, [.ref o_page, .int vo_pageMany, .int u2, .int u3, .int u4, .ref o_readRows, .int v24, .int vo_towersRead, .int vo_poured, .ref o_rows, .ref o_turns, .ref o_amounts, .ref o_drank, .long vo_spilt, .ref o_takes, .ref o_leans, .ref o_would, .int vo_done, .int vo_seedNow, .int vo_keptTower, .int vo_keptPoured, .long vo_keptSpilt, .ref o_keptAmounts, .ref o_keptDrank, .ref o_keptTurns, .long vo_hash])), (o_page, .inl (cI, 70, .inl vo_page)), (o_readRows, .inl (cI, 54, .inl u5))] H := hP
              have hD : va_D A [(o_rows, .inl (cI, 54, .inl x28)), (o_turns, .inl (cI, 9, .inl b32)), (o_amounts, .inl (cJ, 9, .inr (.inl vo_amounts))), (o_drank, .inl (cJ, 9, .inr (.inl vo_drank))), (o, .inr (6, [.ref o_page, .int vo_pageMany, .int u2, .int u3, .int u4, .ref o_readRows, .int v24, .int vo_towersRead, .int vo_poured, .ref o_rows, .ref o_turns, .ref o_amounts, .ref o_drank, .long vo_spilt, .ref o_takes, .ref o_leans, .ref o_would, .int vo_done, .int vo_seedNow, .int vo_keptTower, .int vo_keptPoured, .long vo_keptSpilt, .ref o_keptAmounts, .ref o_keptDrank, .ref o_keptTurns, .long vo_hash])), (o_page, .inl (cI, 70, .inl vo_page)), (o_readRows, .inl (cI, 54, .inl u5))] := hD
              have hl : lv_has ls 2 [(1, .int b31), (0, .ref o)] := hl
              have hT : lp_X6_tower_8 (rs_X6_tower_8 vo_amounts vo_drank vo_towersRead v24 u2 u3 u4 u5 x28) (k8 + 1) b31 b32 = (r, qo_pageMany, qo_readMany, qo_state, qo_readMost, qo_glasses, qo_towersRead, qo_poured, qo_spilt, qo_readRows, qo_rows, qo_turns, qo_amounts, qo_drank) := hT
              have i2 : 0 ≤ b31.toInt := i2
              have j2 : b31.toInt ≤ 9 := j2
              have hm8 : 9 - b31.toInt < (((k8 + 1) : Nat) : Int) := hm8
              try simp only [Int.natCast_add, Int.natCast_one, Nat.cast_add, Nat.cast_one] at hm8
              refine lv_iload_n hx hb dX6_tower_84 rfl (lv_at hl 0 rfl) ?_
              refine lv_bipush (v := (9 : Int32)) hx hb dX6_tower_85 (by decide) ?_
              refine lv_icmp_ge (tgt := 103) hx hb dX6_tower_87 (by decide) (fun c_23 => ?_) (fun c_23 => ?_)
              · replace hT := cutT c_23 hT
                have g_45 := zleT (by decide : ((9 : Int32)).toInt = 9) (rfl : (b31).toInt = _) c_23
                exact hex8 (b31, b32) _ _ _ ⟨(by omega : 0 ≤ b31.toInt), (by omega : b31.toInt ≤ 9), hT, hP.sub [0, 1, 2, 3, 4, 5, 6] rfl, hD.sub [0, 1, 2, 3, 4, 5, 6] rfl rfl, hS, lv_sub hl [1] rfl⟩
              · replace hT := cutF c_23 hT
                have g_46 := zleF (by decide : ((9 : Int32)).toInt = 9) (rfl : (b31).toInt = _) c_23
                refine lv_aload_n hx hb dX6_tower_90 rfl (lv_at hl 1 rfl) ?_
                refine va_get (D := (dC, dI)) (ci := 6) (v := .ref o_turns) (C := RX6) (T := TX6) (N := 26) hx hb hts hwX6 hown hK hP 4 rfl rfl 10 (by decide) hf_19 (fun _ h9 => h9) rfl dX6_tower_91 ?_
                refine lv_iload_n hx hb dX6_tower_94 rfl (lv_at hl 0 rfl) ?_
                refine lv_iconst (v := (0 : Int32)) hx hb dX6_tower_95 (by decide) ?_
                have h_24 : vp_in b31 9 := zin (by omega) (by omega)
                refine va_iast hx hb hK hP hD hS 1 0 rfl rfl h_24 dX6_tower_96 (fun H locs hP hD hS => ?_)
                obtain ⟨a35, ea35⟩ : ∃ z, (upd b32 b31.toNatClampNeg (0 : Int32)) = z := ⟨_, rfl⟩
                replace hT := cut_n ea35 hT
                have hP : va_P (dC, dI) vwCl [(o_rows, .inl (cI, 54, .inl x28)), (o_turns, .inl (cI, 9, .inl a35)), (o_amounts, .inl (cJ, 9, .inr (.inl vo_amounts))), (o_drank, .inl (cJ, 9, .inr (.inl vo_drank))), (o, .inr (6, [.ref o_page, .int vo_pageMany, .int u2, .int u3, .int u4, .ref o_readRows, .int v24, .int vo_towersRead, .int vo_poured, .ref o_rows, .ref o_turns, .ref o_amounts, .ref o_drank, .long vo_spilt, .ref o_takes, .ref o_leans, .ref o_would, .int vo_done, .int vo_seedNow, .int vo_keptTower, .int vo_keptPoured, .long vo_keptSpilt, .ref o_keptAmounts, .ref o_keptDrank, .ref o_keptTurns, .long vo_hash])), (o_page, .inl (cI, 70, .inl vo_page)), (o_readRows, .inl (cI, 54, .inl u5))] H := by rw [← ea35]; exact hP
                have hD : va_D A [(o_rows, .inl (cI, 54, .inl x28)), (o_turns, .inl (cI, 9, .inl a35)), (o_amounts, .inl (cJ, 9, .inr (.inl vo_amounts))), (o_drank, .inl (cJ, 9, .inr (.inl vo_drank))), (o, .inr (6, [.ref o_page, .int vo_pageMany, .int u2, .int u3, .int u4, .ref o_readRows, .int v24, .int vo_towersRead, .int vo_poured, .ref o_rows, .ref o_turns, .ref o_amounts, .ref o_drank, .long vo_spilt, .ref o_takes, .ref o_leans, .ref o_would, .int vo_done, .int vo_seedNow, .int vo_keptTower, .int vo_keptPoured, .long vo_keptSpilt, .ref o_keptAmounts, .ref o_keptDrank, .ref o_keptTurns, .long vo_hash])), (o_page, .inl (cI, 70, .inl vo_page)), (o_readRows, .inl (cI, 54, .inl u5))] := by rw [← ea35]; exact hD
                obtain ⟨v36, ev36⟩ : ∃ y : Int32, (b31 + (1 : Int32)) = y := ⟨_, rfl⟩
                replace hT := cut_n ev36 hT
                try have fv36 := zaddE (rfl : (b31).toInt = _) (by decide : ((1 : Int32)).toInt = 1) ev36 (by omega) (by omega)
                refine lv_iinc (v := v36) (lv' := [(1, .int v36), (0, .ref o)]) hx hb dX6_tower_97 hl (k := 0) rfl (by rw [← ev36]; rfl) (by decide) rfl (fun ls hl => ?_)
                refine lv_goto (tgt := 84) hx hb dX6_tower_100 (by decide) ?_
                exact ih8 (v36, a35) _ _ _ ⟨(by omega : 0 ≤ v36.toInt), (by omega : v36.toInt ≤ 9), (by omega : 9 - v36.toInt < ((k8 : Nat) : Int)), hT, hP.sub [0, 1, 2, 3, 4, 5, 6] rfl, hD.sub [0, 1, 2, 3, 4, 5, 6] rfl rfl, hS, lv_sub hl [0, 1] rfl⟩
          · rintro ⟨b25, b26⟩ H locs ls ⟨i1, j1, hy1, hm, -⟩
            try dsimp only at *
            omega
          · intro k7 hex7 ih7
            rintro ⟨b25, b26⟩ H locs ls ⟨i1, j1, hy1, hm7, hT, hP, hD, hS, hl⟩
            have hP : va_P (dC, dI) vwCl [(o_rows, .inl (cI, 54, .inl b26)), (o_turns, .inl (cI, 9, .inl vo_turns)), (o_amounts, .inl (cJ, 9, .inr (.inl vo_amounts))), (o_drank, .inl (cJ, 9, .inr (.inl vo_drank))), (o, .inr (6, [.ref o_page, .int vo_pageMany, .int u2, .int u3, .int u4, .ref o_readRows, .int v24, .int vo_towersRead, .int vo_poured, .ref o_rows, .ref o_turns, .ref o_amounts, .ref o_drank, .long vo_spilt, .ref o_takes, .ref o_leans, .ref o_would, .int vo_done, .int vo_seedNow, .int vo_keptTower, .int vo_keptPoured, .long vo_keptSpilt, .ref o_keptAmounts, .ref o_keptDrank, .ref o_keptTurns, .long vo_hash])), (o_page, .inl (cI, 70, .inl vo_page)), (o_readRows, .inl (cI, 54, .inl u5))] H := hP
            have hD : va_D A [(o_rows, .inl (cI, 54, .inl b26)), (o_turns, .inl (cI, 9, .inl vo_turns)), (o_amounts, .inl (cJ, 9, .inr (.inl vo_amounts))), (o_drank, .inl (cJ, 9, .inr (.inl vo_drank))), (o, .inr (6, [.ref o_page, .int vo_pageMany, .int u2, .int u3, .int u4, .ref o_readRows, .int v24, .int vo_towersRead, .int vo_poured, .ref o_rows, .ref o_turns, .ref o_amounts, .ref o_drank, .long vo_spilt, .ref o_takes, .ref o_leans, .ref o_would, .int vo_done, .int vo_seedNow, .int vo_keptTower, .int vo_keptPoured, .long vo_keptSpilt, .ref o_keptAmounts, .ref o_keptDrank, .ref o_keptTurns, .long vo_hash])), (o_page, .inl (cI, 70, .inl vo_page)), (o_readRows, .inl (cI, 54, .inl u5))] := hD
            have hl : lv_has ls 2 [(1, .int b25), (0, .ref o)] := hl
            have hT : lp_X6_tower_7 v24 (rs_X6_tower_7 vo_amounts vo_drank vo_towersRead v24 u2 u3 u4 u5 vo_turns) u5 (k7 + 1) b25 b26 = (r, qo_pageMany, qo_readMany, qo_state, qo_readMost, qo_glasses, qo_towersRead, qo_poured, qo_spilt, qo_readRows, qo_rows, qo_turns, qo_amounts, qo_drank) := hT
            have i1 : 0 ≤ b25.toInt := i1
            have j1 : b25.toInt ≤ 6 * v24.toInt := j1
            have hy1 : ∀ n : Nat, b26 n = if (n : Int) < b25.toInt then u5 n else vo_rows n := hy1
            have hm7 : 6 * v24.toInt - b25.toInt < (((k7 + 1) : Nat) : Int) := hm7
            try simp only [Int.natCast_add, Int.natCast_one, Nat.cast_add, Nat.cast_one] at hm7
            refine lv_iload_n hx hb dX6_tower_53 rfl (lv_at hl 0 rfl) ?_
            refine lv_bipush (v := (6 : Int32)) hx hb dX6_tower_54 (by decide) ?_
            refine lv_aload_n hx hb dX6_tower_56 rfl (lv_at hl 1 rfl) ?_
            refine va_get (D := (dC, dI)) (ci := 6) (v := .int v24) (C := RX6) (T := TX6) (N := 26) hx hb hts hwX6 hown hK hP 4 rfl rfl 6 (by decide) hf_97 (fun _ h9 => h9) rfl dX6_tower_57 ?_
            refine lv_imul hx hb dX6_tower_60 ?_
            try have e_47 := zmulE (v := ((6 : Int32) * v24)) (by decide : ((6 : Int32)).toInt = 6) (rfl : (v24).toInt = _) rfl (by omega) (by omega)
            refine lv_icmp_ge (tgt := 82) hx hb dX6_tower_61 (by decide) (fun c_20 => ?_) (fun c_20 => ?_)
            · replace hT := cutT c_20 hT
              have g_48 := zleT (rfl : (((6 : Int32) * v24)).toInt = _) (rfl : (b25).toInt = _) c_20
              exact hex7 (b25, b26) _ _ _ ⟨(by omega : 0 ≤ b25.toInt), (by omega : b25.toInt ≤ 6 * v24.toInt), (by omega : ∀ n : Nat, b26 n = if (n : Int) < b25.toInt then u5 n else vo_rows n), (by omega : 6 * v24.toInt ≤ b25.toInt), hT, hP.sub [0, 1, 2, 3, 4, 5, 6] rfl, hD.sub [0, 1, 2, 3, 4, 5, 6] rfl rfl, hS, lv_sub hl [1] rfl⟩
            · replace hT := cutF c_20 hT
              have g_49 := zleF (rfl : (((6 : Int32) * v24)).toInt = _) (rfl : (b25).toInt = _) c_20
              refine lv_aload_n hx hb dX6_tower_64 rfl (lv_at hl 1 rfl) ?_
              refine va_get (D := (dC, dI)) (ci := 6) (v := .ref o_rows) (C := RX6) (T := TX6) (N := 26) hx hb hts hwX6 hown hK hP 4 rfl rfl 9 (by decide) hf_16 (fun _ h9 => h9) rfl dX6_tower_65 ?_
              refine lv_iload_n hx hb dX6_tower_68 rfl (lv_at hl 0 rfl) ?_
              refine lv_aload_n hx hb dX6_tower_69 rfl (lv_at hl 1 rfl) ?_
              refine va_get (D := (dC, dI)) (ci := 6) (v := .ref o_readRows) (C := RX6) (T := TX6) (N := 26) hx hb hts hwX6 hown hK hP 4 rfl rfl 5 (by decide) hf_13 (fun _ h9 => h9) rfl dX6_tower_70 ?_
              refine lv_iload_n hx hb dX6_tower_73 rfl (lv_at hl 0 rfl) ?_
              have h_21 : vp_in b25 54 := zin (by omega) (by omega)
              refine va_iald hx hb hK hP 6 0 rfl rfl h_21 dX6_tower_74 ?_
              have h_22 : vp_in b25 54 := zin (by omega) (by omega)
              refine va_iast hx hb hK hP hD hS 0 0 rfl rfl h_22 dX6_tower_75 (fun H locs hP hD hS => ?_)
              obtain ⟨a29, ea29⟩ : ∃ z, (upd b26 b25.toNatClampNeg (u5 b25.toNatClampNeg)) = z := ⟨_, rfl⟩
              replace hT := cut_n ea29 hT
              have hP : va_P (dC, dI) vwCl [(o_rows, .inl (cI, 54, .inl a29)), (o_turns, .inl (cI, 9, .inl vo_turns)), (o_amounts, .inl (cJ, 9, .inr (.inl vo_amounts))), (o_drank, .inl (cJ, 9, .inr (.inl vo_drank))), (o, .inr (6, [.ref o_page, .int vo_pageMany, .int u2, .int u3, .int u4, .ref o_readRows, .int v24, .int vo_towersRead, .int vo_poured, .ref o_rows, .ref o_turns, .ref o_amounts, .ref o_drank, .long vo_spilt, .ref o_takes, .ref o_leans, .ref o_would, .int vo_done, .int vo_seedNow, .int vo_keptTower, .int vo_keptPoured, .long vo_keptSpilt, .ref o_keptAmounts, .ref o_keptDrank, .ref o_keptTurns, .long vo_hash])), (o_page, .inl (cI, 70, .inl vo_page)), (o_readRows, .inl (cI, 54, .inl u5))] H := by rw [← ea29]; exact hP
              have hD : va_D A [(o_rows, .inl (cI, 54, .inl a29)), (o_turns, .inl (cI, 9, .inl vo_turns)), (o_amounts, .inl (cJ, 9, .inr (.inl vo_amounts))), (o_drank, .inl (cJ, 9, .inr (.inl vo_drank))), (o, .inr (6, [.ref o_page, .int vo_pageMany, .int u2, .int u3, .int u4, .ref o_readRows, .int v24, .int vo_towersRead, .int vo_poured, .ref o_rows, .ref o_turns, .ref o_amounts, .ref o_drank, .long vo_spilt, .ref o_takes, .ref o_leans, .ref o_would, .int vo_done, .int vo_seedNow, .int vo_keptTower, .int vo_keptPoured, .long vo_keptSpilt, .ref o_keptAmounts, .ref o_keptDrank, .ref o_keptTurns, .long vo_hash])), (o_page, .inl (cI, 70, .inl vo_page)), (o_readRows, .inl (cI, 54, .inl u5))] := by rw [← ea29]; exact hD
              have hy1n : ∀ n : Nat, a29 n = if (n : Int) < b25.toInt + 1 then u5 n else vo_rows n := zcp1 (by omega) hy1 ea29
              obtain ⟨v30, ev30⟩ : ∃ y : Int32, (b25 + (1 : Int32)) = y := ⟨_, rfl⟩
              replace hT := cut_n ev30 hT
              try have fv30 := zaddE (rfl : (b25).toInt = _) (by decide : ((1 : Int32)).toInt = 1) ev30 (by omega) (by omega)
              refine lv_iinc (v := v30) (lv' := [(1, .int v30), (0, .ref o)]) hx hb dX6_tower_76 hl (k := 0) rfl (by rw [← ev30]; rfl) (by decide) rfl (fun ls hl => ?_)
              refine lv_goto (tgt := 53) hx hb dX6_tower_79 (by decide) ?_
              exact ih7 (v30, a29) _ _ _ ⟨(by omega : 0 ≤ v30.toInt), (by omega : v30.toInt ≤ 6 * v24.toInt), (by intro n; rw [hy1n n]; congr 1; apply propext; constructor <;> intro _ <;> omega : ∀ n : Nat, a29 n = if (n : Int) < v30.toInt then u5 n else vo_rows n), (by omega : 6 * v24.toInt - v30.toInt < ((k7 : Nat) : Int)), hT, hP.sub [0, 1, 2, 3, 4, 5, 6] rfl, hD.sub [0, 1, 2, 3, 4, 5, 6] rfl rfl, hS, lv_sub hl [0, 1] rfl⟩
        · replace hT := cutF c_19 hT
          have g_50 := zleF (rfl : (u4).toInt = _) (rfl : (u2).toInt = _) c_19
          refine lv_bipush (v := (-103 : Int32)) hx hb dX6_tower_38 (by decide) ?_
          have hP9 := hP
          have hD9 := hD
          have hS9 := hS
          have hT : ((-103 : Int32), vo_pageMany, u2, u3, u4, vo_glasses, vo_towersRead, vo_poured, vo_spilt, u5, vo_rows, vo_turns, vo_amounts, vo_drank) = (r, qo_pageMany, qo_readMany, qo_state, qo_readMost, qo_glasses, qo_towersRead, qo_poured, qo_spilt, qo_readRows, qo_rows, qo_turns, qo_amounts, qo_drank) := hT
          cases hT
          subst hQ
          exact zz_iret hx hb hr [4, 5, 6, 0, 1, 2, 3] hK hP9 hD9 hS9 rfl rfl ⟨(by assumption), (by assumption), (by first | decide | omega), (by first | decide | omega), (by first | decide | omega), (by first | decide | omega)⟩ hlocks dX6_tower_40
