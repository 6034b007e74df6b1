def m_X3_has (vo_size : Int32) (p1 : Int32) : Int32 :=
 if p1 < (0 : Int32) then
  (0 : Int32)
 else
  if vo_size ≤ p1 then
   (0 : Int32)
  else
   (1 : Int32)
set_option maxHeartbeats 4000000 in
set_option maxRecDepth 100000 in
theorem k_X3_has (l : Launch) (dC : Nat → ClassId) (dI : Nat → Nat → Nat) (cI cJ cC : ClassId) (sz : Nat) (o o_kinds o_holds o_takes o_shareCounts o_shares : Nat) (vo_size : Int32) (p1 : Int32) (r : Int32) (hT : m_X3_has vo_size p1 = r) : Met l yX3_has wsX3_has ({ frames := 0, cells := 0, slots := 0, locals := 0 }) (zPc [.ref o, .int p1] (dC, dI) (zTy cI cJ cC) [(o, .inr (3, [.ref o_kinds, .ref o_holds, .ref o_takes, .ref o_shareCounts, .ref o_shares, .int vo_size]))] sz) (zQi r ((zB01 r) ∧ (r.toInt = 0 ∨ (0 ≤ p1.toInt ∧ p1.toInt < vo_size.toInt))) (dC, dI) (zTy cI cJ cC) [(o, .inr (3, [.ref o_kinds, .ref o_holds, .ref o_takes, .ref o_shareCounts, .ref o_shares, .int vo_size]))] (va_A [(o, .inr (3, [.ref o_kinds, .ref o_holds, .ref o_takes, .ref o_shareCounts, .ref o_shares, .int vo_size]))] sz)) 0 0 (va_A [(o, .inr (3, [.ref o_kinds, .ref o_holds, .ref o_takes, .ref o_shareCounts, .ref o_shares, .int vo_size]))] sz) := by
  refine Met.ofW (cc := cX3_has) (maxL := 2) (ret := (some .boolean)) (by decide) rfl ?_
  intro p e s m args below meth c s₁ B hml hv
  obtain ⟨rfl, hsz, hP, hK, hD0⟩ := hv
  have hx := B.exec
  have hb := B.bytes
  have hr := B.returns
  have hts := atoms_spec (ws := wsX3_has) B.pre
  have hown : s.vm.findClass RX3 = some m.cls := findClass_of_methodNamed B.named
  have hlocks := B.notSynchronized
  subst hsz
  have hD := hD0.self (sz := s.heap.size)
  generalize hAe : va_A [(o, .inr (3, [.ref o_kinds, .ref o_holds, .ref o_takes, .ref o_shareCounts, .ref o_shares, .int vo_size]))] s.heap.size = A at hD ⊢
  have hA : ∀ q : Nat, s.heap.size ≤ q → A q := fun q h => by rw [← hAe]; exact Or.inr h
  have hS : va_S A s.heap s.heap [] := va_S.rf
  have hP : va_P (dC, dI) vwCl [(o, .inr (3, [.ref o_kinds, .ref o_holds, .ref o_takes, .ref o_shareCounts, .ref o_shares, .int vo_size]))] s.heap := hP
  have hK : va_K (dC, dI) vwCl (zTy cI cJ cC) s := hK
  have hl := lv_entry ([.ref o, .int p1]) (n := 2) (Nat.le_of_ble_eq_true rfl)
  rw [lg_entry_eq]
  generalize (lg_sl ([.ref o, .int p1]) ++ List.replicate (2 - (lg_sl ([.ref o, .int p1])).length) Slot.unset).toArray = ls at hl ⊢
  have hl : lv_has ls 2 [(0, .ref o), (1, .int p1)] := hl
  refine zz_start hP hS (fun Q hQ H locs hP hS => ?_)
  have hwX3 : ∀ w ∈ u_ws RX3 TX3 6, w ∈ wsX3_has := by decide +kernel
  have hf_33 := (hts (.fieldLink RX3 33 "PouredTopmost$Stand" "size" "I") (by decide +kernel))
  refine lv_iload_n hx hb dX3_has_0 rfl (lv_at hl 1 rfl) ?_
  refine lv_if_lt (tgt := 16) hx hb dX3_has_1 (by decide) (fun c_1 => ?_) (fun c_1 => ?_)
  · replace hT := cutT c_1 hT
    have g_3 := zltT (rfl : (p1).toInt = _) (by decide : ((0 : Int32)).toInt = 0) c_1
    refine lv_iconst (v := (0 : Int32)) hx hb dX3_has_16 (by decide) ?_
    have hP9 := hP
    have hD9 := hD
    have hS9 := hS
    have hT : (0 : Int32) = r := hT
    subst hT
    subst hQ
    exact zz_zret hx hb hr rfl [0] hK hP9 hD9 hS9 rfl rfl ⟨(Or.inl rfl), (by first | (left; decide) | (right; omega))⟩ hlocks dX3_has_17
  · replace hT := cutF c_1 hT
    have g_4 := zltF (rfl : (p1).toInt = _) (by decide : ((0 : Int32)).toInt = 0) c_1
    refine lv_iload_n hx hb dX3_has_4 rfl (lv_at hl 1 rfl) ?_
    refine lv_aload_n hx hb dX3_has_5 rfl (lv_at hl 0 rfl) ?_
    refine va_get (D := (dC, dI)) (ci := 3) (v := .int vo_size) (C := RX3) (T := TX3) (N := 6) hx hb hts hwX3 hown hK hP 0 rfl rfl 5 (by decide) hf_33 (fun _ h9 => h9) rfl dX3_has_6 ?_
    refine lv_icmp_ge (tgt := 16) hx hb dX3_has_9 (by decide) (fun c_2 => ?_) (fun c_2 => ?_)
    · replace hT := cutT c_2 hT
      have g_5 := zleT (rfl : (vo_size).toInt = _) (rfl : (p1).toInt = _) c_2
      refine lv_iconst (v := (0 : Int32)) hx hb dX3_has_16 (by decide) ?_
      have hP9 := hP
      have hD9 := hD
      have hS9 := hS
      have hT : (0 : Int32) = r := hT
      subst hT
      subst hQ
      exact zz_zret hx hb hr rfl [0] hK hP9 hD9 hS9 rfl rfl ⟨(Or.inl rfl), (by first | (left; decide) | (right; omega))⟩ hlocks dX3_has_17
    · replace hT := cutF c_2 hT
      have g_6 := zleF (rfl : (vo_size).toInt = _) (rfl : (p1).toInt = _) c_2
      refine lv_iconst (v := (1 : Int32)) hx hb dX3_has_12 (by decide) ?_
      refine lv_goto (tgt := 17) hx hb dX3_has_13 (by decide) ?_
      have hP9 := hP
      have hD9 := hD
      have hS9 := hS
      have hT : (1 : Int32) = r := hT
      subst hT
      subst hQ
      exact zz_zret hx hb hr rfl [0] hK hP9 hD9 hS9 rfl rfl ⟨(Or.inr rfl), (by first | (left; decide) | (right; omega))⟩ hlocks dX3_has_17

def m_X3_isSet (vo_size : Int32) (p1 : Int32) : Int32 :=
 if p1 < (0 : Int32) then
  (0 : Int32)
 else
  if ((1 : Int32) <<< (vo_size &&& 31)) ≤ p1 then
   (0 : Int32)
  else
   (1 : Int32)
set_option maxHeartbeats 4000000 in
set_option maxRecDepth 100000 in
theorem k_X3_isSet (l : Launch) (dC : Nat → ClassId) (dI : Nat → Nat → Nat) (cI cJ cC : ClassId) (sz : Nat) (o o_kinds o_holds o_takes o_shareCounts o_shares : Nat) (vo_size : Int32) (p1 : Int32) (r : Int32) (hT : m_X3_isSet vo_size p1 = r) : Met l yX3_isSet wsX3_isSet ({ frames := 0, cells := 0, slots := 0, locals := 0 }) (zPc [.ref o, .int p1] (dC, dI) (zTy cI cJ cC) [(o, .inr (3, [.ref o_kinds, .ref o_holds, .ref o_takes, .ref o_shareCounts, .ref o_shares, .int vo_size]))] sz) (zQi r ((zB01 r)) (dC, dI) (zTy cI cJ cC) [(o, .inr (3, [.ref o_kinds, .ref o_holds, .ref o_takes, .ref o_shareCounts, .ref o_shares, .int vo_size]))] (va_A [(o, .inr (3, [.ref o_kinds, .ref o_holds, .ref o_takes, .ref o_shareCounts, .ref o_shares, .int vo_size]))] sz)) 0 0 (va_A [(o, .inr (3, [.ref o_kinds, .ref o_holds, .ref o_takes, .ref o_shareCounts, .ref o_shares, .int vo_size]))] sz) := by
  refine Met.ofW (cc := cX3_isSet) (maxL := 2) (ret := (some .boolean)) (by decide) rfl ?_
  intro p e s m args below meth c s₁ B hml hv
  obtain ⟨rfl, hsz, hP, hK, hD0⟩ := hv
  have hx := B.exec
  have hb := B.bytes
  have hr := B.returns
  have hts := atoms_spec (ws := wsX3_isSet) B.pre
  have hown : s.vm.findClass RX3 = some m.cls := findClass_of_methodNamed B.named
  have hlocks := B.notSynchronized
  subst hsz
  have hD := hD0.self (sz := s.heap.size)
  generalize hAe : va_A [(o, .inr (3, [.ref o_kinds, .ref o_holds, .ref o_takes, .ref o_shareCounts, .ref o_shares, .int vo_size]))] s.heap.size = A at hD ⊢
  have hA : ∀ q : Nat, s.heap.size ≤ q → A q := fun q h => by rw [← hAe]; exact Or.inr h
  have hS : va_S A s.heap s.heap [] := va_S.rf
  have hP : va_P (dC, dI) vwCl [(o, .inr (3, [.ref o_kinds, .ref o_holds, .ref o_takes, .ref o_shareCounts, .ref o_shares, .int vo_size]))] s.heap := hP
  have hK : va_K (dC, dI) vwCl (zTy cI cJ cC) s := hK
  have hl := lv_entry ([.ref o, .int p1]) (n := 2) (Nat.le_of_ble_eq_true rfl)
  rw [lg_entry_eq]
  generalize (lg_sl ([.ref o, .int p1]) ++ List.replicate (2 - (lg_sl ([.ref o, .int p1])).length) Slot.unset).toArray = ls at hl ⊢
  have hl : lv_has ls 2 [(0, .ref o), (1, .int p1)] := hl
  refine zz_start hP hS (fun Q hQ H locs hP hS => ?_)
  have hwX3 : ∀ w ∈ u_ws RX3 TX3 6, w ∈ wsX3_isSet := by decide +kernel
  have hf_33 := (hts (.fieldLink RX3 33 "PouredTopmost$Stand" "size" "I") (by decide +kernel))
  refine lv_iload_n hx hb dX3_isSet_0 rfl (lv_at hl 1 rfl) ?_
  refine lv_if_lt (tgt := 18) hx hb dX3_isSet_1 (by decide) (fun c_1 => ?_) (fun c_1 => ?_)
  · replace hT := cutT c_1 hT
    have g_3 := zltT (rfl : (p1).toInt = _) (by decide : ((0 : Int32)).toInt = 0) c_1
    refine lv_iconst (v := (0 : Int32)) hx hb dX3_isSet_18 (by decide) ?_
    have hP9 := hP
    have hD9 := hD
    have hS9 := hS
    have hT : (0 : Int32) = r := hT
    subst hT
    subst hQ
    exact zz_zret hx hb hr rfl [0] hK hP9 hD9 hS9 rfl rfl (Or.inl rfl) hlocks dX3_isSet_19
  · replace hT := cutF c_1 hT
    have g_4 := zltF (rfl : (p1).toInt = _) (by decide : ((0 : Int32)).toInt = 0) c_1
    refine lv_iload_n hx hb dX3_isSet_4 rfl (lv_at hl 1 rfl) ?_
    refine lv_iconst (v := (1 : Int32)) hx hb dX3_isSet_5 (by decide) ?_
    refine lv_aload_n hx hb dX3_isSet_6 rfl (lv_at hl 0 rfl) ?_
    refine va_get (D := (dC, dI)) (ci := 3) (v := .int vo_size) (C := RX3) (T := TX3) (N := 6) hx hb hts hwX3 hown hK hP 0 rfl rfl 5 (by decide) hf_33 (fun _ h9 => h9) rfl dX3_isSet_7 ?_
    refine lv_ishl hx hb dX3_isSet_10 ?_
    refine lv_icmp_ge (tgt := 18) hx hb dX3_isSet_11 (by decide) (fun c_2 => ?_) (fun c_2 => ?_)
    · replace hT := cutT c_2 hT
      have g_5 := zleT (rfl : (((1 : Int32) <<< (vo_size &&& 31))).toInt = _) (rfl : (p1).toInt = _) c_2
      refine lv_iconst (v := (0 : Int32)) hx hb dX3_isSet_18 (by decide) ?_
      have hP9 := hP
      have hD9 := hD
      have hS9 := hS
      have hT : (0 : Int32) = r := hT
      subst hT
      subst hQ
      exact zz_zret hx hb hr rfl [0] hK hP9 hD9 hS9 rfl rfl (Or.inl rfl) hlocks dX3_isSet_19
    · replace hT := cutF c_2 hT
      have g_6 := zleF (rfl : (((1 : Int32) <<< (vo_size &&& 31))).toInt = _) (rfl : (p1).toInt = _) c_2
      refine lv_iconst (v := (1 : Int32)) hx hb dX3_isSet_14 (by decide) ?_
      refine lv_goto (tgt := 19) hx hb dX3_isSet_15 (by decide) ?_
      have hP9 := hP
      have hD9 := hD
      have hS9 := hS
      have hT : (1 : Int32) = r := hT
      subst hT
      subst hQ
      exact zz_zret hx hb hr rfl [0] hK hP9 hD9 hS9 rfl rfl (Or.inr rfl) hlocks dX3_isSet_19

def m_X3_isOfKind (vo_size : Int32) (vo_kinds : Nat → Int32) (p1 : Int32) (p2 : Int32) : Int32 :=
 cut (m_X3_has vo_size p1) (fun (r1 : Int32) =>
 if r1 = (0 : Int32) then
  (0 : Int32)
 else
  cut (vo_kinds p1.toNatClampNeg) (fun (v2 : Int32) =>
  if p2 = (0 : Int32) then
   (1 : Int32)
  else
   if p2 = v2 then
    (1 : Int32)
   else
    if p2 = (2 : Int32) then
     if v2 = (4 : Int32) then
      (1 : Int32)
     else
      (0 : Int32)
    else
     (0 : Int32)))
set_option maxHeartbeats 4000000 in
set_option maxRecDepth 100000 in
theorem k_X3_isOfKind (l : Launch) (dC : Nat → ClassId) (dI : Nat → Nat → Nat) (cI cJ cC : ClassId) (sz : Nat) (o o_kinds o_holds o_takes o_shareCounts o_shares : Nat) (vo_size : Int32) (vo_kinds : Nat → Int32) (p1 : Int32) (p2 : Int32) (r : Int32) (hT : m_X3_isOfKind vo_size vo_kinds p1 p2 = r) (hs9 : vo_size.toInt ≤ 9) : Met l yX3_isOfKind wsX3_isOfKind ({ frames := 1, cells := 0, slots := 0, locals := 21 }) (zPc [.ref o, .int p1, .int p2] (dC, dI) (zTy cI cJ cC) [(o, .inr (3, [.ref o_kinds, .ref o_holds, .ref o_takes, .ref o_shareCounts, .ref o_shares, .int vo_size])), (o_kinds, .inl (cI, 9, .inl vo_kinds))] sz) (zQi r ((zB01 r)) (dC, dI) (zTy cI cJ cC) [(o, .inr (3, [.ref o_kinds, .ref o_holds, .ref o_takes, .ref o_shareCounts, .ref o_shares, .int vo_size])), (o_kinds, .inl (cI, 9, .inl vo_kinds))] (va_A [(o, .inr (3, [.ref o_kinds, .ref o_holds, .ref o_takes, .ref o_shareCounts, .ref o_shares, .int vo_size])), (o_kinds, .inl (cI, 9, .inl vo_kinds))] sz)) 0 0 (va_A [(o, .inr (3, [.ref o_kinds, .ref o_holds, .ref o_takes, .ref o_shareCounts, .ref o_shares, .int vo_size])), (o_kinds, .inl (cI, 9, .inl vo_kinds))] sz) := by
  refine Met.ofW (cc := cX3_isOfKind) (maxL := 4) (ret := (some .boolean)) (by decide) rfl ?_
  intro p e s m args below meth c s₁ B hml hv
  obtain ⟨rfl, hsz, hP, hK, hD0⟩ := hv
  have hx := B.exec
  have hb := B.bytes
  have hr := B.returns
  have hts := atoms_spec (ws := wsX3_isOfKind) B.pre
  have hown : s.vm.findClass RX3 = some m.cls := findClass_of_methodNamed B.named
  have hlocks := B.notSynchronized
  subst hsz
  have hD := hD0.self (sz := s.heap.size)
  generalize hAe : va_A [(o, .inr (3, [.ref o_kinds, .ref o_holds, .ref o_takes, .ref o_shareCounts, .ref o_shares, .int vo_size])), (o_kinds, .inl (cI, 9, .inl vo_kinds))] s.heap.size = A at hD ⊢
  have hA : ∀ q : Nat, s.heap.size ≤ q → A q := fun q h => by rw [← hAe]; exact Or.inr h
  have hS : va_S A s.heap s.heap [] := va_S.rf
  have hP : va_P (dC, dI) vwCl [(o, .inr (3, [.ref o_kinds, .ref o_holds, .ref o_takes, .ref o_shareCounts, .ref o_shares, .int vo_size])), (o_kinds, .inl (cI, 9, .inl vo_kinds))] s.heap := hP
  have hK : va_K (dC, dI) vwCl (zTy cI cJ cC) s := hK
  have hl := lv_entry ([.ref o, .int p1, .int p2]) (n := 4) (Nat.le_of_ble_eq_true rfl)
  rw [lg_entry_eq]
  generalize (lg_sl ([.ref o, .int p1, .int p2]) ++ List.replicate (4 - (lg_sl ([.ref o, .int p1, .int p2])).length) Slot.unset).toArray = ls at hl ⊢
  have hl : lv_has ls 4 [(0, .ref o), (1, .int p1), (2, .int p2)] := hl
  refine zz_start hP hS (fun Q hQ H locs hP hS => ?_)
  have hwX3 : ∀ w ∈ u_ws RX3 TX3 6, w ∈ wsX3_isOfKind := by decide +kernel
  have hf_9 := (hts (.fieldLink RX3 9 "PouredTopmost$Stand" "kinds" "[I") (by decide +kernel))
  refine lv_aload_n hx hb dX3_isOfKind_0 rfl (lv_at hl 0 rfl) ?_
  refine lv_iload_n hx hb dX3_isOfKind_1 rfl (lv_at hl 1 rfl) ?_
  obtain ⟨r1, ev_1⟩ : ∃ x0, (m_X3_has vo_size p1) = x0 := ⟨_, rfl⟩
  replace hT := cut_n ev_1 hT
  refine zz_ci [0] [1] (wr := [(o_kinds, .inl (cI, 9, .inl vo_kinds))]) (w1 := [(o, .inr (3, [.ref o_kinds, .ref o_holds, .ref o_takes, .ref o_shareCounts, .ref o_shares, .int vo_size]))]) (va_runV (As := [.int p1]) (rest := []) ⟨hx, hb, hml, hown, hts⟩ (k_X3_has l dC dI cI cJ cC H.size o o_kinds o_holds o_takes o_shareCounts o_shares vo_size p1 r1 ev_1) (cwV 1 hts gX3_isOfKind_X3_has rfl rfl rfl (by decide +kernel) ⟨Nat.le_of_ble_eq_true rfl, Nat.le_of_ble_eq_true rfl⟩) (zz_preV [0] hK hP hD rfl rfl (va_recv hK hP (ci := 3) (q0 := 0) rfl rfl)) rfl rfl hl.1 rfl (lv_room (Nat.le_of_ble_eq_true rfl)) dX3_isOfKind_2 ⟨Nat.zero_le _, Nat.zero_le _⟩) hP hD hS hA rfl rfl rfl (by decide) (fun ok_2 H locs hP hD hS => ?_)
  have hP : va_P (dC, dI) vwCl [(o_kinds, .inl (cI, 9, .inl vo_kinds)), (o, .inr (3, [.ref o_kinds, .ref o_holds, .ref o_takes, .ref o_shareCounts, .ref o_shares, .int vo_size]))] H := hP
  have hD : va_D A [(o_kinds, .inl (cI, 9, .inl vo_kinds)), (o, .inr (3, [.ref o_kinds, .ref o_holds, .ref o_takes, .ref o_shareCounts, .ref o_shares, .int vo_size]))] := hD
  obtain ⟨k_3, k_4⟩ := ok_2
  refine lv_if_ne (tgt := 10) hx hb dX3_isOfKind_5 (by decide) (fun c_5 => ?_) (fun c_5 => ?_)
  · replace hT := cutF c_5 hT
    have g_11 := zeqF (rfl : (r1).toInt = _) (by decide : ((0 : Int32)).toInt = 0) c_5
    refine lv_aload_n hx hb dX3_isOfKind_10 rfl (lv_at hl 0 rfl) ?_
    refine va_get (D := (dC, dI)) (ci := 3) (v := .ref o_kinds) (C := RX3) (T := TX3) (N := 6) hx hb hts hwX3 hown hK hP 1 rfl rfl 0 (by decide) hf_9 (fun _ h9 => h9) rfl dX3_isOfKind_11 ?_
    refine lv_iload_n hx hb dX3_isOfKind_14 rfl (lv_at hl 1 rfl) ?_
    have h_6 : vp_in p1 9 := zin (by omega) (by omega)
    refine va_iald hx hb hK hP 0 0 rfl rfl h_6 dX3_isOfKind_15 ?_
    refine lv_topi (fun v2 ev2 => ?_)
    replace hT := cut_n ev2.symm hT
    have fv2 : (v2).toInt = (vo_kinds p1.toNatClampNeg).toInt := by rw [ev2]
    refine lv_istore_n (lv' := [(3, .int v2), (0, .ref o), (1, .int p1), (2, .int p2)]) hx hb dX3_isOfKind_16 rfl hl (by decide) rfl (fun ls hl => ?_)
    refine lv_iload_n hx hb dX3_isOfKind_17 rfl (lv_at hl 3 rfl) ?_
    refine lv_if_eq (tgt := 36) hx hb dX3_isOfKind_18 (by decide) (fun c_7 => ?_) (fun c_7 => ?_)
    · replace hT := cutT c_7 hT
      have g_12 := zeqT (rfl : (p2).toInt = _) (by decide : ((0 : Int32)).toInt = 0) c_7
      refine lv_iconst (v := (1 : Int32)) hx hb dX3_isOfKind_36 (by decide) ?_
      refine lv_goto (tgt := 41) hx hb dX3_isOfKind_37 (by decide) ?_
      have hP9 := hP
      have hD9 := hD
      have hS9 := hS
      have hT : (1 : Int32) = r := hT
      subst hT
      subst hQ
      exact zz_zret hx hb hr rfl [1, 0] hK hP9 hD9 hS9 rfl rfl (Or.inr rfl) hlocks dX3_isOfKind_41
    · replace hT := cutF c_7 hT
      have g_13 := zeqF (rfl : (p2).toInt = _) (by decide : ((0 : Int32)).toInt = 0) c_7
      refine lv_iload_n hx hb dX3_isOfKind_21 rfl (lv_at hl 3 rfl) ?_
      refine lv_iload_n hx hb dX3_isOfKind_22 rfl (lv_at hl 0 rfl) ?_
      refine lv_icmp_eq (tgt := 36) hx hb dX3_isOfKind_23 (by decide) (fun c_8 => ?_) (fun c_8 => ?_)
      · replace hT := cutT c_8 hT
        have g_14 := zeqT (rfl : (p2).toInt = _) (rfl : (v2).toInt = _) c_8
        refine lv_iconst (v := (1 : Int32)) hx hb dX3_isOfKind_36 (by decide) ?_
        refine lv_goto (tgt := 41) hx hb dX3_isOfKind_37 (by decide) ?_
        have hP9 := hP
        have hD9 := hD
        have hS9 := hS
        have hT : (1 : Int32) = r := hT
        subst hT
        subst hQ
        exact zz_zret hx hb hr rfl [1, 0] hK hP9 hD9 hS9 rfl rfl (Or.inr rfl) hlocks dX3_isOfKind_41
      · replace hT := cutF c_8 hT
        have g_15 := zeqF (rfl : (p2).toInt = _) (rfl : (v2).toInt = _) c_8
        refine lv_iload_n hx hb dX3_isOfKind_26 rfl (lv_at hl 3 rfl) ?_
        refine lv_iconst (v := (2 : Int32)) hx hb dX3_isOfKind_27 (by decide) ?_
        refine lv_icmp_ne (tgt := 40) hx hb dX3_isOfKind_28 (by decide) (fun c_9 => ?_) (fun c_9 => ?_)
        · replace hT := cutF c_9 hT
          have g_16 := zeqF (rfl : (p2).toInt = _) (by decide : ((2 : Int32)).toInt = 2) c_9
          refine lv_iconst (v := (0 : Int32)) hx hb dX3_isOfKind_40 (by decide) ?_
          have hP9 := hP
          have hD9 := hD
          have hS9 := hS
          have hT : (0 : Int32) = r := hT
          subst hT
          subst hQ
          exact zz_zret hx hb hr rfl [1, 0] hK hP9 hD9 hS9 rfl rfl (Or.inl rfl) hlocks dX3_isOfKind_41
        · replace hT := cutT c_9 hT
          have g_17 := zeqT (rfl : (p2).toInt = _) (by decide : ((2 : Int32)).toInt = 2) c_9
          refine lv_iload_n hx hb dX3_isOfKind_31 rfl (lv_at hl 0 rfl) ?_
          refine lv_iconst (v := (4 : Int32)) hx hb dX3_isOfKind_32 (by decide) ?_
          refine lv_icmp_ne (tgt := 40) hx hb dX3_isOfKind_33 (by decide) (fun c_10 => ?_) (fun c_10 => ?_)
          · replace hT := cutF c_10 hT
            have g_18 := zeqF (rfl : (v2).toInt = _) (by decide : ((4 : Int32)).toInt = 4) c_10
            refine lv_iconst (v := (0 : Int32)) hx hb dX3_isOfKind_40 (by decide) ?_
            have hP9 := hP
            have hD9 := hD
            have hS9 := hS
            have hT : (0 : Int32) = r := hT
            subst hT
            subst hQ
            exact zz_zret hx hb hr rfl [1, 0] hK hP9 hD9 hS9 rfl rfl (Or.inl rfl) hlocks dX3_isOfKind_41
          · replace hT := cutT c_10 hT
            have g_19 := zeqT (rfl : (v2).toInt = _) (by decide : ((4 : Int32)).toInt = 4) c_10
            refine lv_iconst (v := (1 : Int32)) hx hb dX3_isOfKind_36 (by decide) ?_
            refine lv_goto (tgt := 41) hx hb dX3_isOfKind_37 (by decide) ?_
            have hP9 := hP
            have hD9 := hD
            have hS9 := hS
            have hT : (1 : Int32) = r := hT
            subst hT
            subst hQ
            exact zz_zret hx hb hr rfl [1, 0] hK hP9 hD9 hS9 rfl rfl (Or.inr rfl) hlocks dX3_isOfKind_41
  · replace hT := cutT c_5 hT
    have g_20 := zeqT (rfl : (r1).toInt = _) (by decide : ((0 : Int32)).toInt = 0) c_5
    refine lv_iconst (v := (0 : Int32)) hx hb dX3_isOfKind_8 (by decide) ?_
    have hP9 := hP
    have hD9 := hD
    have hS9 := hS
    have hT : (0 : Int32) = r := hT
    subst hT
    subst hQ
    exact zz_zret hx hb hr rfl [1, 0] hK hP9 hD9 hS9 rfl rfl (Or.inl rfl) hlocks dX3_isOfKind_9

def m_X3_shareOf (vo_size : Int32) (vo_shareCounts : Nat → Int32) (vo_shares : Nat → Int32) (p1 : Int32) (p2 : Int32) : Int32 :=
 cut (m_X3_has vo_size p1) (fun (r1 : Int32) =>
 if r1 = (0 : Int32) then
  (-1 : Int32)
 else
  if p2 < (0 : Int32) then
   (-1 : Int32)
  else
   if p2 < (vo_shareCounts p1.toNatClampNeg) then
    (vo_shares ((p1 * (3 : Int32)) + p2).toNatClampNeg)
   else
    (-1 : Int32))
set_option maxHeartbeats 4000000 in
set_option maxRecDepth 100000 in
theorem k_X3_shareOf (l : Launch) (dC : Nat → ClassId) (dI : Nat → Nat → Nat) (cI cJ cC : ClassId) (sz : Nat) (o o_kinds o_holds o_takes o_shareCounts o_shares : Nat) (vo_size : Int32) (vo_shareCounts : Nat → Int32) (vo_shares : Nat → Int32) (p1 : Int32) (p2 : Int32) (r : Int32) (hT : m_X3_shareOf vo_size vo_shareCounts vo_shares p1 p2 = r) (hs9 : vo_size.toInt ≤ 9) (hsc : zSc vo_shareCounts) : Met l yX3_shareOf wsX3_shareOf ({ frames := 1, cells := 0, slots := 0, locals := 21 }) (zPc [.ref o, .int p1, .int p2] (dC, dI) (zTy cI cJ cC) [(o, .inr (3, [.ref o_kinds, .ref o_holds, .ref o_takes, .ref o_shareCounts, .ref o_shares, .int vo_size])), (o_shareCounts, .inl (cI, 9, .inl vo_shareCounts)), (o_shares, .inl (cI, 27, .inl vo_shares))] sz) (zQi r (True) (dC, dI) (zTy cI cJ cC) [(o, .inr (3, [.ref o_kinds, .ref o_holds, .ref o_takes, .ref o_shareCounts, .ref o_shares, .int vo_size])), (o_shareCounts, .inl (cI, 9, .inl vo_shareCounts)), (o_shares, .inl (cI, 27, .inl vo_shares))] (va_A [(o, .inr (3, [.ref o_kinds, .ref o_holds, .ref o_takes, .ref o_shareCounts, .ref o_shares, .int vo_size])), (o_shareCounts, .inl (cI, 9, .inl vo_shareCounts)), (o_shares, .inl (cI, 27, .inl vo_shares))] sz)) 0 0 (va_A [(o, .inr (3, [.ref o_kinds, .ref o_holds, .ref o_takes, .ref o_shareCounts, .ref o_shares, .int vo_size])), (o_shareCounts, .inl (cI, 9, .inl vo_shareCounts)), (o_shares, .inl (cI, 27, .inl vo_shares))] sz) := by
  refine Met.ofW (cc := cX3_shareOf) (maxL := 3) (ret := (some .int)) (by decide) rfl ?_
  intro p e s m args below meth c s₁ B hml hv
  obtain ⟨rfl, hsz, hP, hK, hD0⟩ := hv
  have hx := B.exec
  have hb := B.bytes
  have hr := B.returns
  have hts := atoms_spec (ws := wsX3_shareOf) B.pre
  have hown : s.vm.findClass RX3 = some m.cls := findClass_of_methodNamed B.named
  have hlocks := B.notSynchronized
  subst hsz
  have hD := hD0.self (sz := s.heap.size)
  generalize hAe : va_A [(o, .inr (3, [.ref o_kinds, .ref o_holds, .ref o_takes, .ref o_shareCounts, .ref o_shares, .int vo_size])), (o_shareCounts, .inl (cI, 9, .inl vo_shareCounts)), (o_shares, .inl (cI, 27, .inl vo_shares))] s.heap.size = A at hD ⊢
  have hA : ∀ q : Nat, s.heap.size ≤ q → A q := fun q h => by rw [← hAe]; exact Or.inr h
  have hS : va_S A s.heap s.heap [] := va_S.rf
  have hP : va_P (dC, dI) vwCl [(o, .inr (3, [.ref o_kinds, .ref o_holds, .ref o_takes, .ref o_shareCounts, .ref o_shares, .int vo_size])), (o_shareCounts, .inl (cI, 9, .inl vo_shareCounts)), (o_shares, .inl (cI, 27, .inl vo_shares))] s.heap := hP
  have hK : va_K (dC, dI) vwCl (zTy cI cJ cC) s := hK
  have hl := lv_entry ([.ref o, .int p1, .int p2]) (n := 3) (Nat.le_of_ble_eq_true rfl)
  rw [lg_entry_eq]
  generalize (lg_sl ([.ref o, .int p1, .int p2]) ++ List.replicate (3 - (lg_sl ([.ref o, .int p1, .int p2])).length) Slot.unset).toArray = ls at hl ⊢
  have hl : lv_has ls 3 [(0, .ref o), (1, .int p1), (2, .int p2)] := hl
  refine zz_start hP hS (fun Q hQ H locs hP hS => ?_)
  have hwX3 : ∀ w ∈ u_ws RX3 TX3 6, w ∈ wsX3_shareOf := by decide +kernel
  have hf_21 := (hts (.fieldLink RX3 21 "PouredTopmost$Stand" "shareCounts" "[I") (by decide +kernel))
  have hf_24 := (hts (.fieldLink RX3 24 "PouredTopmost$Stand" "shares" "[I") (by decide +kernel))
  refine lv_aload_n hx hb dX3_shareOf_0 rfl (lv_at hl 0 rfl) ?_
  refine lv_iload_n hx hb dX3_shareOf_1 rfl (lv_at hl 1 rfl) ?_
  obtain ⟨r1, ev_1⟩ : ∃ x0, (m_X3_has vo_size p1) = x0 := ⟨_, rfl⟩
  replace hT := cut_n ev_1 hT
  refine zz_ci [0] [1, 2] (wr := [(o_shareCounts, .inl (cI, 9, .inl vo_shareCounts)), (o_shares, .inl (cI, 27, .inl vo_shares))]) (w1 := [(o, .inr (3, [.ref o_kinds, .ref o_holds, .ref o_takes, .ref o_shareCounts, .ref o_shares, .int vo_size]))]) (va_runV (As := [.int p1]) (rest := []) ⟨hx, hb, hml, hown, hts⟩ (k_X3_has l dC dI cI cJ cC H.size o o_kinds o_holds o_takes o_shareCounts o_shares vo_size p1 r1 ev_1) (cwV 1 hts gX3_shareOf_X3_has rfl rfl rfl (by decide +kernel) ⟨Nat.le_of_ble_eq_true rfl, Nat.le_of_ble_eq_true rfl⟩) (zz_preV [0] hK hP hD rfl rfl (va_recv hK hP (ci := 3) (q0 := 0) rfl rfl)) rfl rfl hl.1 rfl (lv_room (Nat.le_of_ble_eq_true rfl)) dX3_shareOf_2 ⟨Nat.zero_le _, Nat.zero_le _⟩) hP hD hS hA rfl rfl rfl (by decide) (fun ok_2 H locs hP hD hS => ?_)
  have hP : va_P (dC, dI) vwCl [(o_shareCounts, .inl (cI, 9, .inl vo_shareCounts)), (o_shares, .inl (cI, 27, .inl vo_shares)), (o, .inr (3, [.ref o_kinds, .ref o_holds, .ref o_takes, .ref o_shareCounts, .ref o_shares, .int vo_size]))] H := hP
  have hD : va_D A [(o_shareCounts, .inl (cI, 9, .inl vo_shareCounts)), (o_shares, .inl (cI, 27, .inl vo_shares)), (o, .inr (3, [.ref o_kinds, .ref o_holds, .ref o_takes, .ref o_shareCounts, .ref o_shares, .int vo_size]))] := hD
  obtain ⟨k_3, k_4⟩ := ok_2
  refine lv_if_eq (tgt := 22) hx hb dX3_shareOf_5 (by decide) (fun c_5 => ?_) (fun c_5 => ?_)
  · replace hT := cutT c_5 hT
    have g_13 := zeqT (rfl : (r1).toInt = _) (by decide : ((0 : Int32)).toInt = 0) c_5
    refine lv_iconst (v := (-1 : Int32)) hx hb dX3_shareOf_22 (by decide) ?_
    have hP9 := hP
    have hD9 := hD
    have hS9 := hS
    have hT : (-1 : Int32) = r := hT
    subst hT
    subst hQ
    exact zz_iret hx hb hr [2, 0, 1] hK hP9 hD9 hS9 rfl rfl trivial hlocks dX3_shareOf_23
  · replace hT := cutF c_5 hT
    have g_14 := zeqF (rfl : (r1).toInt = _) (by decide : ((0 : Int32)).toInt = 0) c_5
    refine lv_iload_n hx hb dX3_shareOf_8 rfl (lv_at hl 2 rfl) ?_
    refine lv_if_lt (tgt := 22) hx hb dX3_shareOf_9 (by decide) (fun c_6 => ?_) (fun c_6 => ?_)
    · replace hT := cutT c_6 hT
      have g_15 := zltT (rfl : (p2).toInt = _) (by decide : ((0 : Int32)).toInt = 0) c_6
      refine lv_iconst (v := (-1 : Int32)) hx hb dX3_shareOf_22 (by decide) ?_
      have hP9 := hP
      have hD9 := hD
      have hS9 := hS
      have hT : (-1 : Int32) = r := hT
      subst hT
      subst hQ
      exact zz_iret hx hb hr [2, 0, 1] hK hP9 hD9 hS9 rfl rfl trivial hlocks dX3_shareOf_23
    · replace hT := cutF c_6 hT
      have g_16 := zltF (rfl : (p2).toInt = _) (by decide : ((0 : Int32)).toInt = 0) c_6
      refine lv_iload_n hx hb dX3_shareOf_12 rfl (lv_at hl 2 rfl) ?_
      refine lv_aload_n hx hb dX3_shareOf_13 rfl (lv_at hl 0 rfl) ?_
      refine va_get (D := (dC, dI)) (ci := 3) (v := .ref o_shareCounts) (C := RX3) (T := TX3) (N := 6) hx hb hts hwX3 hown hK hP 2 rfl rfl 3 (by decide) hf_21 (fun _ h9 => h9) rfl dX3_shareOf_14 ?_
      refine lv_iload_n hx hb dX3_shareOf_17 rfl (lv_at hl 1 rfl) ?_
      have h_7 : vp_in p1 9 := zin (by omega) (by omega)
      refine va_iald hx hb hK hP 0 0 rfl rfl h_7 dX3_shareOf_18 ?_
      have g_8 := hsc p1.toNatClampNeg
      refine lv_icmp_lt (tgt := 24) hx hb dX3_shareOf_19 (by decide) (fun c_9 => ?_) (fun c_9 => ?_)
      · replace hT := cutT c_9 hT
        have g_17 := zltT (rfl : (p2).toInt = _) (rfl : ((vo_shareCounts p1.toNatClampNeg)).toInt = _) c_9
        refine lv_aload_n hx hb dX3_shareOf_24 rfl (lv_at hl 0 rfl) ?_
        refine va_get (D := (dC, dI)) (ci := 3) (v := .ref o_shares) (C := RX3) (T := TX3) (N := 6) hx hb hts hwX3 hown hK hP 2 rfl rfl 4 (by decide) hf_24 (fun _ h9 => h9) rfl dX3_shareOf_25 ?_
        refine lv_iload_n hx hb dX3_shareOf_28 rfl (lv_at hl 1 rfl) ?_
        refine lv_iconst (v := (3 : Int32)) hx hb dX3_shareOf_29 (by decide) ?_
        refine lv_imul hx hb dX3_shareOf_30 ?_
        refine lv_iload_n hx hb dX3_shareOf_31 rfl (lv_at hl 2 rfl) ?_
        refine lv_iadd hx hb dX3_shareOf_32 ?_
        have e_11 := zmulE (v := (p1 * (3 : Int32))) (rfl : (p1).toInt = _) (by decide : ((3 : Int32)).toInt = 3) rfl (by omega) (by omega)
        have e_12 := zaddE (v := ((p1 * (3 : Int32)) + p2)) e_11 (rfl : (p2).toInt = _) rfl (by omega) (by omega)
        have h_10 : vp_in ((p1 * (3 : Int32)) + p2) 27 := zin (by omega) (by omega)
        refine va_iald hx hb hK hP 1 0 rfl rfl h_10 dX3_shareOf_33 ?_
        have hP9 := hP
        have hD9 := hD
        have hS9 := hS
        have hT : (vo_shares ((p1 * (3 : Int32)) + p2).toNatClampNeg) = r := hT
        subst hT
        subst hQ
        exact zz_iret hx hb hr [2, 0, 1] hK hP9 hD9 hS9 rfl rfl trivial hlocks dX3_shareOf_34
      · replace hT := cutF c_9 hT
        have g_18 := zltF (rfl : (p2).toInt = _) (rfl : ((vo_shareCounts p1.toNatClampNeg)).toInt = _) c_9
        refine lv_iconst (v := (-1 : Int32)) hx hb dX3_shareOf_22 (by decide) ?_
        have hP9 := hP
        have hD9 := hD
        have hS9 := hS
        have hT : (-1 : Int32) = r := hT
        subst hT
        subst hQ
        exact zz_iret hx hb hr [2, 0, 1] hK hP9 hD9 hS9 rfl rfl trivial hlocks dX3_shareOf_23

def m_X3_partsOf (vo_size : Int32) (vo_kinds : Nat → Int32) (vo_shareCounts : Nat → Int32) (p1 : Int32) : Int32 :=
 cut (m_X3_has vo_size p1) (fun (r1 : Int32) =>
 if r1 = (0 : Int32) then
  (0 : Int32)
 else
  if (vo_shareCounts p1.toNatClampNeg) = (0 : Int32) then
   (0 : Int32)
  else
   if (vo_kinds p1.toNatClampNeg) = (3 : Int32) then
    ((vo_shareCounts p1.toNatClampNeg) + (1 : Int32))
   else
    (vo_shareCounts p1.toNatClampNeg))
set_option maxHeartbeats 4000000 in
set_option maxRecDepth 100000 in
theorem k_X3_partsOf (l : Launch) (dC : Nat → ClassId) (dI : Nat → Nat → Nat) (cI cJ cC : ClassId) (sz : Nat) (o o_kinds o_holds o_takes o_shareCounts o_shares : Nat) (vo_size : Int32) (vo_kinds : Nat → Int32) (vo_shareCounts : Nat → Int32) (p1 : Int32) (r : Int32) (hT : m_X3_partsOf vo_size vo_kinds vo_shareCounts p1 = r) (hs9 : vo_size.toInt ≤ 9) : Met l yX3_partsOf wsX3_partsOf ({ frames := 1, cells := 0, slots := 0, locals := 21 }) (zPc [.ref o, .int p1] (dC, dI) (zTy cI cJ cC) [(o, .inr (3, [.ref o_kinds, .ref o_holds, .ref o_takes, .ref o_shareCounts, .ref o_shares, .int vo_size])), (o_kinds, .inl (cI, 9, .inl vo_kinds)), (o_shareCounts, .inl (cI, 9, .inl vo_shareCounts))] sz) (zQi r (True) (dC, dI) (zTy cI cJ cC) [(o, .inr (3, [.ref o_kinds, .ref o_holds, .ref o_takes, .ref o_shareCounts, .ref o_shares, .int vo_size])), (o_kinds, .inl (cI, 9, .inl vo_kinds)), (o_shareCounts, .inl (cI, 9, .inl vo_shareCounts))] (va_A [(o, .inr (3, [.ref o_kinds, .ref o_holds, .ref o_takes, .ref o_shareCounts, .ref o_shares, .int vo_size])), (o_kinds, .inl (cI, 9, .inl vo_kinds)), (o_shareCounts, .inl (cI, 9, .inl vo_shareCounts))] sz)) 0 0 (va_A [(o, .inr (3, [.ref o_kinds, .ref o_holds, .ref o_takes, .ref o_shareCounts, .ref o_shares, .int vo_size])), (o_kinds, .inl (cI, 9, .inl vo_kinds)), (o_shareCounts, .inl (cI, 9, .inl vo_shareCounts))] sz) := by
  refine Met.ofW (cc := cX3_partsOf) (maxL := 2) (ret := (some .int)) (by decide) rfl ?_
  intro p e s m args below meth c s₁ B hml hv
  obtain ⟨rfl, hsz, hP, hK, hD0⟩ := hv
  have hx := B.exec
  have hb := B.bytes
  have hr := B.returns
  have hts := atoms_spec (ws := wsX3_partsOf) B.pre
  have hown : s.vm.findClass RX3 = some m.cls := findClass_of_methodNamed B.named
  have hlocks := B.notSynchronized
  subst hsz
  have hD := hD0.self (sz := s.heap.size)
  generalize hAe : va_A [(o, .inr (3, [.ref o_kinds, .ref o_holds, .ref o_takes, .ref o_shareCounts, .ref o_shares, .int vo_size])), (o_kinds, .inl (cI, 9, .inl vo_kinds)), (o_shareCounts, .inl (cI, 9, .inl vo_shareCounts))] s.heap.size = A at hD ⊢
  have hA : ∀ q : Nat, s.heap.size ≤ q → A q := fun q h => by rw [← hAe]; exact Or.inr h
  have hS : va_S A s.heap s.heap [] := va_S.rf
  have hP : va_P (dC, dI) vwCl [(o, .inr (3, [.ref o_kinds, .ref o_holds, .ref o_takes, .ref o_shareCounts, .ref o_shares, .int vo_size])), (o_kinds, .inl (cI, 9, .inl vo_kinds)), (o_shareCounts, .inl (cI, 9, .inl vo_shareCounts))] s.heap := hP
  have hK : va_K (dC, dI) vwCl (zTy cI cJ cC) s := hK
  have hl := lv_entry ([.ref o, .int p1]) (n := 2) (Nat.le_of_ble_eq_true rfl)
  rw [lg_entry_eq]
  generalize (lg_sl ([.ref o, .int p1]) ++ List.replicate (2 - (lg_sl ([.ref o, .int p1])).length) Slot.unset).toArray = ls at hl ⊢
  have hl : lv_has ls 2 [(0, .ref o), (1, .int p1)] := hl
  refine zz_start hP hS (fun Q hQ H locs hP hS => ?_)
  have hwX3 : ∀ w ∈ u_ws RX3 TX3 6, w ∈ wsX3_partsOf := by decide +kernel
  have hf_21 := (hts (.fieldLink RX3 21 "PouredTopmost$Stand" "shareCounts" "[I") (by decide +kernel))
  have hf_9 := (hts (.fieldLink RX3 9 "PouredTopmost$Stand" "kinds" "[I") (by decide +kernel))
  refine lv_aload_n hx hb dX3_partsOf_0 rfl (lv_at hl 0 rfl) ?_
  refine lv_iload_n hx hb dX3_partsOf_1 rfl (lv_at hl 1 rfl) ?_
  obtain ⟨r1, ev_1⟩ : ∃ x0, (m_X3_has vo_size p1) = x0 := ⟨_, rfl⟩
  replace hT := cut_n ev_1 hT
  refine zz_ci [0] [1, 2] (wr := [(o_kinds, .inl (cI, 9, .inl vo_kinds)), (o_shareCounts, .inl (cI, 9, .inl vo_shareCounts))]) (w1 := [(o, .inr (3, [.ref o_kinds, .ref o_holds, .ref o_takes, .ref o_shareCounts, .ref o_shares, .int vo_size]))]) (va_runV (As := [.int p1]) (rest := []) ⟨hx, hb, hml, hown, hts⟩ (k_X3_has l dC dI cI cJ cC H.size o o_kinds o_holds o_takes o_shareCounts o_shares vo_size p1 r1 ev_1) (cwV 1 hts gX3_partsOf_X3_has rfl rfl rfl (by decide +kernel) ⟨Nat.le_of_ble_eq_true rfl, Nat.le_of_ble_eq_true rfl⟩) (zz_preV [0] hK hP hD rfl rfl (va_recv hK hP (ci := 3) (q0 := 0) rfl rfl)) rfl rfl hl.1 rfl (lv_room (Nat.le_of_ble_eq_true rfl)) dX3_partsOf_2 ⟨Nat.zero_le _, Nat.zero_le _⟩) hP hD hS hA rfl rfl rfl (by decide) (fun ok_2 H locs hP hD hS => ?_)
  have hP : va_P (dC, dI) vwCl [(o_kinds, .inl (cI, 9, .inl vo_kinds)), (o_shareCounts, .inl (cI, 9, .inl vo_shareCounts)), (o, .inr (3, [.ref o_kinds, .ref o_holds, .ref o_takes, .ref o_shareCounts, .ref o_shares, .int vo_size]))] H := hP
  have hD : va_D A [(o_kinds, .inl (cI, 9, .inl vo_kinds)), (o_shareCounts, .inl (cI, 9, .inl vo_shareCounts)), (o, .inr (3, [.ref o_kinds, .ref o_holds, .ref o_takes, .ref o_shareCounts, .ref o_shares, .int vo_size]))] := hD
  obtain ⟨k_3, k_4⟩ := ok_2
  refine lv_if_eq (tgt := 17) hx hb dX3_partsOf_5 (by decide) (fun c_5 => ?_) (fun c_5 => ?_)
  · replace hT := cutT c_5 hT
    have g_12 := zeqT (rfl : (r1).toInt = _) (by decide : ((0 : Int32)).toInt = 0) c_5
    refine lv_iconst (v := (0 : Int32)) hx hb dX3_partsOf_17 (by decide) ?_
    have hP9 := hP
    have hD9 := hD
    have hS9 := hS
    have hT : (0 : Int32) = r := hT
    subst hT
    subst hQ
    exact zz_iret hx hb hr [2, 0, 1] hK hP9 hD9 hS9 rfl rfl trivial hlocks dX3_partsOf_18
  · replace hT := cutF c_5 hT
    have g_13 := zeqF (rfl : (r1).toInt = _) (by decide : ((0 : Int32)).toInt = 0) c_5
    refine lv_aload_n hx hb dX3_partsOf_8 rfl (lv_at hl 0 rfl) ?_
    refine va_get (D := (dC, dI)) (ci := 3) (v := .ref o_shareCounts) (C := RX3) (T := TX3) (N := 6) hx hb hts hwX3 hown hK hP 2 rfl rfl 3 (by decide) hf_21 (fun _ h9 => h9) rfl dX3_partsOf_9 ?_
    refine lv_iload_n hx hb dX3_partsOf_12 rfl (lv_at hl 1 rfl) ?_
    have h_6 : vp_in p1 9 := zin (by omega) (by omega)
    refine va_iald hx hb hK hP 1 0 rfl rfl h_6 dX3_partsOf_13 ?_
    refine lv_if_ne (tgt := 19) hx hb dX3_partsOf_14 (by decide) (fun c_7 => ?_) (fun c_7 => ?_)
    · replace hT := cutF c_7 hT
      have g_14 := zeqF (rfl : ((vo_shareCounts p1.toNatClampNeg)).toInt = _) (by decide : ((0 : Int32)).toInt = 0) c_7
      refine lv_aload_n hx hb dX3_partsOf_19 rfl (lv_at hl 0 rfl) ?_
      refine va_get (D := (dC, dI)) (ci := 3) (v := .ref o_kinds) (C := RX3) (T := TX3) (N := 6) hx hb hts hwX3 hown hK hP 2 rfl rfl 0 (by decide) hf_9 (fun _ h9 => h9) rfl dX3_partsOf_20 ?_
      refine lv_iload_n hx hb dX3_partsOf_23 rfl (lv_at hl 1 rfl) ?_
      have h_8 : vp_in p1 9 := zin (by omega) (by omega)
      refine va_iald hx hb hK hP 0 0 rfl rfl h_8 dX3_partsOf_24 ?_
      refine lv_iconst (v := (3 : Int32)) hx hb dX3_partsOf_25 (by decide) ?_
      refine lv_icmp_ne (tgt := 40) hx hb dX3_partsOf_26 (by decide) (fun c_9 => ?_) (fun c_9 => ?_)
      · replace hT := cutF c_9 hT
        have g_15 := zeqF (rfl : ((vo_kinds p1.toNatClampNeg)).toInt = _) (by decide : ((3 : Int32)).toInt = 3) c_9
        refine lv_aload_n hx hb dX3_partsOf_40 rfl (lv_at hl 0 rfl) ?_
        refine va_get (D := (dC, dI)) (ci := 3) (v := .ref o_shareCounts) (C := RX3) (T := TX3) (N := 6) hx hb hts hwX3 hown hK hP 2 rfl rfl 3 (by decide) hf_21 (fun _ h9 => h9) rfl dX3_partsOf_41 ?_
        refine lv_iload_n hx hb dX3_partsOf_44 rfl (lv_at hl 1 rfl) ?_
        have h_10 : vp_in p1 9 := zin (by omega) (by omega)
        refine va_iald hx hb hK hP 1 0 rfl rfl h_10 dX3_partsOf_45 ?_
        have hP9 := hP
        have hD9 := hD
        have hS9 := hS
        have hT : (vo_shareCounts p1.toNatClampNeg) = r := hT
        subst hT
        subst hQ
        exact zz_iret hx hb hr [2, 0, 1] hK hP9 hD9 hS9 rfl rfl trivial hlocks dX3_partsOf_46
      · replace hT := cutT c_9 hT
        have g_16 := zeqT (rfl : ((vo_kinds p1.toNatClampNeg)).toInt = _) (by decide : ((3 : Int32)).toInt = 3) c_9
        refine lv_aload_n hx hb dX3_partsOf_29 rfl (lv_at hl 0 rfl) ?_
        refine va_get (D := (dC, dI)) (ci := 3) (v := .ref o_shareCounts) (C := RX3) (T := TX3) (N := 6) hx hb hts hwX3 hown hK hP 2 rfl rfl 3 (by decide) hf_21 (fun _ h9 => h9) rfl dX3_partsOf_30 ?_
        refine lv_iload_n hx hb dX3_partsOf_33 rfl (lv_at hl 1 rfl) ?_
        have h_11 : vp_in p1 9 := zin (by omega) (by omega)
        refine va_iald hx hb hK hP 1 0 rfl rfl h_11 dX3_partsOf_34 ?_
        refine lv_iconst (v := (1 : Int32)) hx hb dX3_partsOf_35 (by decide) ?_
        refine lv_iadd hx hb dX3_partsOf_36 ?_
        refine lv_goto (tgt := 46) hx hb dX3_partsOf_37 (by decide) ?_
        have hP9 := hP
        have hD9 := hD
        have hS9 := hS
        have hT : ((vo_shareCounts p1.toNatClampNeg) + (1 : Int32)) = r := hT
        subst hT
        subst hQ
        exact zz_iret hx hb hr [2, 0, 1] hK hP9 hD9 hS9 rfl rfl trivial hlocks dX3_partsOf_46
    · replace hT := cutT c_7 hT
      have g_17 := zeqT (rfl : ((vo_shareCounts p1.toNatClampNeg)).toInt = _) (by decide : ((0 : Int32)).toInt = 0) c_7
      refine lv_iconst (v := (0 : Int32)) hx hb dX3_partsOf_17 (by decide) ?_
      have hP9 := hP
      have hD9 := hD
      have hS9 := hS
      have hT : (0 : Int32) = r := hT
      subst hT
      subst hQ
      exact zz_iret hx hb hr [2, 0, 1] hK hP9 hD9 hS9 rfl rfl trivial hlocks dX3_partsOf_18

def m_X3_putGlass (vo_size : Int32) (vo_kinds : Nat → Int32) (vo_shareCounts : Nat → Int32) : Int32 × Int32 × (Nat → Int32) × (Nat → Int32) :=
 if vo_size < (9 : Int32) then
  cut (upd vo_kinds vo_size.toNatClampNeg (0 : Int32)) (fun (a1 : Nat → Int32) =>
  cut (upd vo_shareCounts vo_size.toNatClampNeg (0 : Int32)) (fun (a2 : Nat → Int32) =>
  cut (vo_size + (1 : Int32)) (fun (v3 : Int32) =>
  ((1 : Int32), v3, a1, a2))))
 else
  ((0 : Int32), vo_size, vo_kinds, vo_shareCounts)
set_option maxHeartbeats 4000000 in
set_option maxRecDepth 100000 in
theorem k_X3_putGlass (l : Launch) (dC : Nat → ClassId) (dI : Nat → Nat → Nat) (cI cJ cC : ClassId) (sz : Nat) (o o_kinds o_holds o_takes o_shareCounts o_shares : Nat) (vo_size : Int32) (vo_kinds : Nat → Int32) (vo_shareCounts : Nat → Int32) (r : Int32) (qo_size : Int32) (qo_kinds : Nat → Int32) (qo_shareCounts : Nat → Int32) (hT : m_X3_putGlass vo_size vo_kinds vo_shareCounts = (r, qo_size, qo_kinds, qo_shareCounts)) (hs0 : 0 ≤ vo_size.toInt) (hs9 : vo_size.toInt ≤ 9) (hsc : zSc vo_shareCounts) : Met l yX3_putGlass wsX3_putGlass ({ frames := 0, cells := 0, slots := 0, locals := 0 }) (zPc [.ref o] (dC, dI) (zTy cI cJ cC) [(o, .inr (3, [.ref o_kinds, .ref o_holds, .ref o_takes, .ref o_shareCounts, .ref o_shares, .int vo_size])), (o_kinds, .inl (cI, 9, .inl vo_kinds)), (o_shareCounts, .inl (cI, 9, .inl vo_shareCounts))] sz) (zQi r ((zB01 r) ∧ (0 ≤ qo_size.toInt) ∧ (qo_size.toInt ≤ 9) ∧ (zSc qo_shareCounts)) (dC, dI) (zTy cI cJ cC) [(o, .inr (3, [.ref o_kinds, .ref o_holds, .ref o_takes, .ref o_shareCounts, .ref o_shares, .int qo_size])), (o_kinds, .inl (cI, 9, .inl qo_kinds)), (o_shareCounts, .inl (cI, 9, .inl qo_shareCounts))] (va_A [(o, .inr (3, [.ref o_kinds, .ref o_holds, .ref o_takes, .ref o_shareCounts, .ref o_shares, .int vo_size])), (o_kinds, .inl (cI, 9, .inl vo_kinds)), (o_shareCounts, .inl (cI, 9, .inl vo_shareCounts))] sz)) 0 0 (va_A [(o, .inr (3, [.ref o_kinds, .ref o_holds, .ref o_takes, .ref o_shareCounts, .ref o_shares, .int vo_size])), (o_kinds, .inl (cI, 9, .inl vo_kinds)), (o_shareCounts, .inl (cI, 9, .inl vo_shareCounts))] sz) := by
  refine Met.ofW (cc := cX3_putGlass) (maxL := 1) (ret := (some .boolean)) (by decide) rfl ?_
  intro p e s m args below meth c s₁ B hml hv
  obtain ⟨rfl, hsz, hP, hK, hD0⟩ := hv
  have hx := B.exec
  have hb := B.bytes
  have hr := B.returns
  have hts := atoms_spec (ws := wsX3_putGlass) B.pre
  have hown : s.vm.findClass RX3 = some m.cls := findClass_of_methodNamed B.named
  have hlocks := B.notSynchronized
  subst hsz
  have hD := hD0.self (sz := s.heap.size)
  generalize hAe : va_A [(o, .inr (3, [.ref o_kinds, .ref o_holds, .ref o_takes, .ref o_shareCounts, .ref o_shares, .int vo_size])), (o_kinds, .inl (cI, 9, .inl vo_kinds)), (o_shareCounts, .inl (cI, 9, .inl vo_shareCounts))] s.heap.size = A at hD ⊢
  have hA : ∀ q : Nat, s.heap.size ≤ q → A q := fun q h => by rw [← hAe]; exact Or.inr h
  have hS : va_S A s.heap s.heap [] := va_S.rf
  have hP : va_P (dC, dI) vwCl [(o, .inr (3, [.ref o_kinds, .ref o_holds, .ref o_takes, .ref o_shareCounts, .ref o_shares, .int vo_size])), (o_kinds, .inl (cI, 9, .inl vo_kinds)), (o_shareCounts, .inl (cI, 9, .inl vo_shareCounts))] s.heap := hP
  have hK : va_K (dC, dI) vwCl (zTy cI cJ cC) s := hK
  have hl := lv_entry ([.ref o]) (n := 1) (Nat.le_of_ble_eq_true rfl)
  rw [lg_entry_eq]
  generalize (lg_sl ([.ref o]) ++ List.replicate (1 - (lg_sl ([.ref o])).length) Slot.unset).toArray = ls at hl ⊢
  have hl : lv_has ls 1 [(0, .ref o)] := hl
  refine zz_start hP hS (fun Q hQ H locs hP hS => ?_)
  have hwX3 : ∀ w ∈ u_ws RX3 TX3 6, w ∈ wsX3_putGlass := by decide +kernel
  have hf_21 := (hts (.fieldLink RX3 21 "PouredTopmost$Stand" "shareCounts" "[I") (by decide +kernel))
  have hf_33 := (hts (.fieldLink RX3 33 "PouredTopmost$Stand" "size" "I") (by decide +kernel))
  have hf_9 := (hts (.fieldLink RX3 9 "PouredTopmost$Stand" "kinds" "[I") (by decide +kernel))
  refine lv_aload_n hx hb dX3_putGlass_0 rfl (lv_at hl 0 rfl) ?_
  refine va_get (D := (dC, dI)) (ci := 3) (v := .int vo_size) (C := RX3) (T := TX3) (N := 6) hx hb hts hwX3 hown hK hP 0 rfl rfl 5 (by decide) hf_33 (fun _ h9 => h9) rfl dX3_putGlass_1 ?_
  refine lv_bipush (v := (9 : Int32)) hx hb dX3_putGlass_4 (by decide) ?_
  refine lv_icmp_lt (tgt := 11) hx hb dX3_putGlass_6 (by decide) (fun c_1 => ?_) (fun c_1 => ?_)
  · replace hT := cutT c_1 hT
    have g_5 := zltT (rfl : (vo_size).toInt = _) (by decide : ((9 : Int32)).toInt = 9) c_1
    refine lv_aload_n hx hb dX3_putGlass_11 rfl (lv_at hl 0 rfl) ?_
    refine va_get (D := (dC, dI)) (ci := 3) (v := .ref o_kinds) (C := RX3) (T := TX3) (N := 6) hx hb hts hwX3 hown hK hP 0 rfl rfl 0 (by decide) hf_9 (fun _ h9 => h9) rfl dX3_putGlass_12 ?_
    refine lv_aload_n hx hb dX3_putGlass_15 rfl (lv_at hl 0 rfl) ?_
    refine va_get (D := (dC, dI)) (ci := 3) (v := .int vo_size) (C := RX3) (T := TX3) (N := 6) hx hb hts hwX3 hown hK hP 0 rfl rfl 5 (by decide) hf_33 (fun _ h9 => h9) rfl dX3_putGlass_16 ?_
    refine lv_iconst (v := (0 : Int32)) hx hb dX3_putGlass_19 (by decide) ?_
    have h_2 : vp_in vo_size 9 := zin (by omega) (by omega)
    refine va_iast hx hb hK hP hD hS 1 0 rfl rfl h_2 dX3_putGlass_20 (fun H locs hP hD hS => ?_)
    obtain ⟨a1, ea1⟩ : ∃ z, (upd vo_kinds vo_size.toNatClampNeg (0 : Int32)) = z := ⟨_, rfl⟩
    replace hT := cut_n ea1 hT
    have hP : va_P (dC, dI) vwCl [(o, .inr (3, [.ref o_kinds, .ref o_holds, .ref o_takes, .ref o_shareCounts, .ref o_shares, .int vo_size])), (o_kinds, .inl (cI, 9, .inl a1)), (o_shareCounts, .inl (cI, 9, .inl vo_shareCounts))] H := by rw [← ea1]; exact hP
    have hD : va_D A [(o, .inr (3, [.ref o_kinds, .ref o_holds, .ref o_takes, .ref o_shareCounts, .ref o_shares, .int vo_size])), (o_kinds, .inl (cI, 9, .inl a1)), (o_shareCounts, .inl (cI, 9, .inl vo_shareCounts))] := by rw [← ea1]; exact hD
    refine lv_aload_n hx hb dX3_putGlass_21 rfl (lv_at hl 0 rfl) ?_
    refine va_get (D := (dC, dI)) (ci := 3) (v := .ref o_shareCounts) (C := RX3) (T := TX3) (N := 6) hx hb hts hwX3 hown hK hP 0 rfl rfl 3 (by decide) hf_21 (fun _ h9 => h9) rfl dX3_putGlass_22 ?_
    refine lv_aload_n hx hb dX3_putGlass_25 rfl (lv_at hl 0 rfl) ?_
    refine va_get (D := (dC, dI)) (ci := 3) (v := .int vo_size) (C := RX3) (T := TX3) (N := 6) hx hb hts hwX3 hown hK hP 0 rfl rfl 5 (by decide) hf_33 (fun _ h9 => h9) rfl dX3_putGlass_26 ?_
    refine lv_iconst (v := (0 : Int32)) hx hb dX3_putGlass_29 (by decide) ?_
    have h_3 : vp_in vo_size 9 := zin (by omega) (by omega)
    refine va_iast hx hb hK hP hD hS 2 0 rfl rfl h_3 dX3_putGlass_30 (fun H locs hP hD hS => ?_)
    obtain ⟨a2, ea2⟩ : ∃ z, (upd vo_shareCounts vo_size.toNatClampNeg (0 : Int32)) = z := ⟨_, rfl⟩
    replace hT := cut_n ea2 hT
    have hP : va_P (dC, dI) vwCl [(o, .inr (3, [.ref o_kinds, .ref o_holds, .ref o_takes, .ref o_shareCounts, .ref o_shares, .int vo_size])), (o_kinds, .inl (cI, 9, .inl a1)), (o_shareCounts, .inl (cI, 9, .inl a2))] H := by rw [← ea2]; exact hP
    have hD : va_D A [(o, .inr (3, [.ref o_kinds, .ref o_holds, .ref o_takes, .ref o_shareCounts, .ref o_shares, .int vo_size])), (o_kinds, .inl (cI, 9, .inl a1)), (o_shareCounts, .inl (cI, 9, .inl a2))] := by rw [← ea2]; exact hD
    have sc_4 : zSc a2 := by rw [← ea2]; exact zSc_upd hsc (by decide) (by decide)
    refine lv_aload_n hx hb dX3_putGlass_31 rfl (lv_at hl 0 rfl) ?_
    refine lv_dup hx hb dX3_putGlass_32 rfl ?_
    refine va_get (D := (dC, dI)) (ci := 3) (v := .int vo_size) (C := RX3) (T := TX3) (N := 6) hx hb hts hwX3 hown hK hP 0 rfl rfl 5 (by decide) hf_33 (fun _ h9 => h9) rfl dX3_putGlass_33 ?_
    refine lv_iconst (v := (1 : Int32)) hx hb dX3_putGlass_36 (by decide) ?_
    refine lv_iadd hx hb dX3_putGlass_37 ?_
    refine lv_topi (fun v3 ev3 => ?_)
    replace hT := cut_n ev3.symm hT
    try have fv3 := zaddE (rfl : (vo_size).toInt = _) (by decide : ((1 : Int32)).toInt = 1) ev3.symm (by omega) (by omega)
    refine va_put (D := (dC, dI)) (ci := 3) (v := .int v3) (ty := .int) (C := RX3) (T := TX3) (N := 6) hx hb hts hwX3 tyX3 tyX3_ok nmX3 hown hK hP hD hS 0 rfl rfl 5 (by decide) hf_33 (fun _ h9 => h9) rfl (by decide +kernel) rfl rfl (Nat.le_of_ble_eq_true rfl) dX3_putGlass_38 (fun H locs hP hD hS => ?_)
    have hP : va_P (dC, dI) vwCl [(o, .inr (3, [.ref o_kinds, .ref o_holds, .ref o_takes, .ref o_shareCounts, .ref o_shares, .int v3])), (o_kinds, .inl (cI, 9, .inl a1)), (o_shareCounts, .inl (cI, 9, .inl a2))] H := hP
    have hD : va_D A [(o, .inr (3, [.ref o_kinds, .ref o_holds, .ref o_takes, .ref o_shareCounts, .ref o_shares, .int v3])), (o_kinds, .inl (cI, 9, .inl a1)), (o_shareCounts, .inl (cI, 9, .inl a2))] := hD
    refine lv_iconst (v := (1 : Int32)) hx hb dX3_putGlass_41 (by decide) ?_
    have hP9 := hP
    have hD9 := hD
    have hS9 := hS
    have hT : ((1 : Int32), v3, a1, a2) = (r, qo_size, qo_kinds, qo_shareCounts) := hT
    cases hT
    subst hQ
    exact zz_zret hx hb hr rfl [0, 1, 2] hK hP9 hD9 hS9 rfl rfl ⟨(Or.inr rfl), (by omega), (by omega), (by assumption)⟩ hlocks dX3_putGlass_42
  · replace hT := cutF c_1 hT
    have g_6 := zltF (rfl : (vo_size).toInt = _) (by decide : ((9 : Int32)).toInt = 9) c_1
    refine lv_iconst (v := (0 : Int32)) hx hb dX3_putGlass_9 (by decide) ?_
    have hP9 := hP
    have hD9 := hD
    have hS9 := hS
    have hT : ((0 : Int32), vo_size, vo_kinds, vo_shareCounts) = (r, qo_size, qo_kinds, qo_shareCounts) := hT
    cases hT
    subst hQ
    exact zz_zret hx hb hr rfl [0, 1, 2] hK hP9 hD9 hS9 rfl rfl ⟨(Or.inl rfl), (by omega), (by omega), (by assumption)⟩ hlocks dX3_putGlass_10

def m_X3_tellKind (vo_size : Int32) (vo_kinds : Nat → Int32) (p1 : Int32) : (Nat → Int32) :=
 if vo_size ≤ (0 : Int32) then
  vo_kinds
 else
  cut (upd vo_kinds (vo_size - (1 : Int32)).toNatClampNeg p1) (fun (a1 : Nat → Int32) =>
  a1)
set_option maxHeartbeats 4000000 in
set_option maxRecDepth 100000 in
theorem k_X3_tellKind (l : Launch) (dC : Nat → ClassId) (dI : Nat → Nat → Nat) (cI cJ cC : ClassId) (sz : Nat) (o o_kinds o_holds o_takes o_shareCounts o_shares : Nat) (vo_size : Int32) (vo_kinds : Nat → Int32) (p1 : Int32) (qo_kinds : Nat → Int32) (hT : m_X3_tellKind vo_size vo_kinds p1 = qo_kinds) (hs9 : vo_size.toInt ≤ 9) : Met l yX3_tellKind wsX3_tellKind ({ frames := 0, cells := 0, slots := 0, locals := 0 }) (zPc [.ref o, .int p1] (dC, dI) (zTy cI cJ cC) [(o, .inr (3, [.ref o_kinds, .ref o_holds, .ref o_takes, .ref o_shareCounts, .ref o_shares, .int vo_size])), (o_kinds, .inl (cI, 9, .inl vo_kinds))] sz) (zQv (True) (dC, dI) (zTy cI cJ cC) [(o, .inr (3, [.ref o_kinds, .ref o_holds, .ref o_takes, .ref o_shareCounts, .ref o_shares, .int vo_size])), (o_kinds, .inl (cI, 9, .inl qo_kinds))] (va_A [(o, .inr (3, [.ref o_kinds, .ref o_holds, .ref o_takes, .ref o_shareCounts, .ref o_shares, .int vo_size])), (o_kinds, .inl (cI, 9, .inl vo_kinds))] sz)) 0 0 (va_A [(o, .inr (3, [.ref o_kinds, .ref o_holds, .ref o_takes, .ref o_shareCounts, .ref o_shares, .int vo_size])), (o_kinds, .inl (cI, 9, .inl vo_kinds))] sz) := by
  refine Met.ofW (cc := cX3_tellKind) (maxL := 2) (ret := none) (by decide) rfl ?_
  intro p e s m args below meth c s₁ B hml hv
  obtain ⟨rfl, hsz, hP, hK, hD0⟩ := hv
  have hx := B.exec
  have hb := B.bytes
  have hr := B.returns
  have hts := atoms_spec (ws := wsX3_tellKind) B.pre
  have hown : s.vm.findClass RX3 = some m.cls := findClass_of_methodNamed B.named
  have hlocks := B.notSynchronized
  subst hsz
  have hD := hD0.self (sz := s.heap.size)
  generalize hAe : va_A [(o, .inr (3, [.ref o_kinds, .ref o_holds, .ref o_takes, .ref o_shareCounts, .ref o_shares, .int vo_size])), (o_kinds, .inl (cI, 9, .inl vo_kinds))] s.heap.size = A at hD ⊢
  have hA : ∀ q : Nat, s.heap.size ≤ q → A q := fun q h => by rw [← hAe]; exact Or.inr h
  have hS : va_S A s.heap s.heap [] := va_S.rf
  have hP : va_P (dC, dI) vwCl [(o, .inr (3, [.ref o_kinds, .ref o_holds, .ref o_takes, .ref o_shareCounts, .ref o_shares, .int vo_size])), (o_kinds, .inl (cI, 9, .inl vo_kinds))] s.heap := hP
  have hK : va_K (dC, dI) vwCl (zTy cI cJ cC) s := hK
  have hl := lv_entry ([.ref o, .int p1]) (n := 2) (Nat.le_of_ble_eq_true rfl)
  rw [lg_entry_eq]
  generalize (lg_sl ([.ref o, .int p1]) ++ List.replicate (2 - (lg_sl ([.ref o, .int p1])).length) Slot.unset).toArray = ls at hl ⊢
  have hl : lv_has ls 2 [(0, .ref o), (1, .int p1)] := hl
  refine zz_start hP hS (fun Q hQ H locs hP hS => ?_)
  have hwX3 : ∀ w ∈ u_ws RX3 TX3 6, w ∈ wsX3_tellKind := by decide +kernel
  have hf_33 := (hts (.fieldLink RX3 33 "PouredTopmost$Stand" "size" "I") (by decide +kernel))
  have hf_9 := (hts (.fieldLink RX3 9 "PouredTopmost$Stand" "kinds" "[I") (by decide +kernel))
  refine lv_aload_n hx hb dX3_tellKind_0 rfl (lv_at hl 0 rfl) ?_
  refine va_get (D := (dC, dI)) (ci := 3) (v := .int vo_size) (C := RX3) (T := TX3) (N := 6) hx hb hts hwX3 hown hK hP 0 rfl rfl 5 (by decide) hf_33 (fun _ h9 => h9) rfl dX3_tellKind_1 ?_
  refine lv_if_le (tgt := 19) hx hb dX3_tellKind_4 (by decide) (fun c_1 => ?_) (fun c_1 => ?_)
  · replace hT := cutT c_1 hT
    have g_4 := zleT (rfl : (vo_size).toInt = _) (by decide : ((0 : Int32)).toInt = 0) c_1
    have hP9 := hP
    have hD9 := hD
    have hS9 := hS
    have hT : vo_kinds = qo_kinds := hT
    subst hT
    subst hQ
    exact zz_vret hx hb hr [0, 1] hK hP9 hD9 hS9 rfl rfl trivial hlocks dX3_tellKind_19
  · replace hT := cutF c_1 hT
    have g_5 := zleF (rfl : (vo_size).toInt = _) (by decide : ((0 : Int32)).toInt = 0) c_1
    refine lv_aload_n hx hb dX3_tellKind_7 rfl (lv_at hl 0 rfl) ?_
    refine va_get (D := (dC, dI)) (ci := 3) (v := .ref o_kinds) (C := RX3) (T := TX3) (N := 6) hx hb hts hwX3 hown hK hP 0 rfl rfl 0 (by decide) hf_9 (fun _ h9 => h9) rfl dX3_tellKind_8 ?_
    refine lv_aload_n hx hb dX3_tellKind_11 rfl (lv_at hl 0 rfl) ?_
    refine va_get (D := (dC, dI)) (ci := 3) (v := .int vo_size) (C := RX3) (T := TX3) (N := 6) hx hb hts hwX3 hown hK hP 0 rfl rfl 5 (by decide) hf_33 (fun _ h9 => h9) rfl dX3_tellKind_12 ?_
    refine lv_iconst (v := (1 : Int32)) hx hb dX3_tellKind_15 (by decide) ?_
    refine lv_isub hx hb dX3_tellKind_16 ?_
    refine lv_iload_n hx hb dX3_tellKind_17 rfl (lv_at hl 1 rfl) ?_
    have e_3 := zsubE (v := (vo_size - (1 : Int32))) (rfl : (vo_size).toInt = _) (by decide : ((1 : Int32)).toInt = 1) rfl (by omega) (by omega)
    have h_2 : vp_in (vo_size - (1 : Int32)) 9 := zin (by omega) (by omega)
    refine va_iast hx hb hK hP hD hS 1 0 rfl rfl h_2 dX3_tellKind_18 (fun H locs hP hD hS => ?_)
    obtain ⟨a1, ea1⟩ : ∃ z, (upd vo_kinds (vo_size - (1 : Int32)).toNatClampNeg p1) = z := ⟨_, rfl⟩
    replace hT := cut_n ea1 hT
    have hP : va_P (dC, dI) vwCl [(o, .inr (3, [.ref o_kinds, .ref o_holds, .ref o_takes, .ref o_shareCounts, .ref o_shares, .int vo_size])), (o_kinds, .inl (cI, 9, .inl a1))] H := by rw [← ea1]; exact hP
    have hD : va_D A [(o, .inr (3, [.ref o_kinds, .ref o_holds, .ref o_takes, .ref o_shareCounts, .ref o_shares, .int vo_size])), (o_kinds, .inl (cI, 9, .inl a1))] := by rw [← ea1]; exact hD
    have hP9 := hP
    have hD9 := hD
    have hS9 := hS
    have hT : a1 = qo_kinds := hT
    subst hT
    subst hQ
    exact zz_vret hx hb hr [0, 1] hK hP9 hD9 hS9 rfl rfl trivial hlocks dX3_tellKind_19

def m_X3_lastShareCount (vo_size : Int32) (vo_shareCounts : Nat → Int32) : Int32 :=
 if vo_size ≤ (0 : Int32) then
  (0 : Int32)
 else
  (vo_shareCounts (vo_size - (1 : Int32)).toNatClampNeg)
set_option maxHeartbeats 4000000 in
set_option maxRecDepth 100000 in
theorem k_X3_lastShareCount (l : Launch) (dC : Nat → ClassId) (dI : Nat → Nat → Nat) (cI cJ cC : ClassId) (sz : Nat) (o o_kinds o_holds o_takes o_shareCounts o_shares : Nat) (vo_size : Int32) (vo_shareCounts : Nat → Int32) (r : Int32) (hT : m_X3_lastShareCount vo_size vo_shareCounts = r) (hs9 : vo_size.toInt ≤ 9) (hsc : zSc vo_shareCounts) : Met l yX3_lastShareCount wsX3_lastShareCount ({ frames := 0, cells := 0, slots := 0, locals := 0 }) (zPc [.ref o] (dC, dI) (zTy cI cJ cC) [(o, .inr (3, [.ref o_kinds, .ref o_holds, .ref o_takes, .ref o_shareCounts, .ref o_shares, .int vo_size])), (o_shareCounts, .inl (cI, 9, .inl vo_shareCounts))] sz) (zQi r ((0 ≤ r.toInt) ∧ (r.toInt ≤ 3) ∧ (0 < vo_size.toInt → r = vo_shareCounts (vo_size - (1 : Int32)).toNatClampNeg)) (dC, dI) (zTy cI cJ cC) [(o, .inr (3, [.ref o_kinds, .ref o_holds, .ref o_takes, .ref o_shareCounts, .ref o_shares, .int vo_size])), (o_shareCounts, .inl (cI, 9, .inl vo_shareCounts))] (va_A [(o, .inr (3, [.ref o_kinds, .ref o_holds, .ref o_takes, .ref o_shareCounts, .ref o_shares, .int vo_size])), (o_shareCounts, .inl (cI, 9, .inl vo_shareCounts))] sz)) 0 0 (va_A [(o, .inr (3, [.ref o_kinds, .ref o_holds, .ref o_takes, .ref o_shareCounts, .ref o_shares, .int vo_size])), (o_shareCounts, .inl (cI, 9, .inl vo_shareCounts))] sz) := by
  refine Met.ofW (cc := cX3_lastShareCount) (maxL := 1) (ret := (some .int)) (by decide) rfl ?_
  intro p e s m args below meth c s₁ B hml hv
  obtain ⟨rfl, hsz, hP, hK, hD0⟩ := hv
  have hx := B.exec
  have hb := B.bytes
  have hr := B.returns
  have hts := atoms_spec (ws := wsX3_lastShareCount) B.pre
  have hown : s.vm.findClass RX3 = some m.cls := findClass_of_methodNamed B.named
  have hlocks := B.notSynchronized
  subst hsz
  have hD := hD0.self (sz := s.heap.size)
  generalize hAe : va_A [(o, .inr (3, [.ref o_kinds, .ref o_holds, .ref o_takes, .ref o_shareCounts, .ref o_shares, .int vo_size])), (o_shareCounts, .inl (cI, 9, .inl vo_shareCounts))] s.heap.size = A at hD ⊢
  have hA : ∀ q : Nat, s.heap.size ≤ q → A q := fun q h => by rw [← hAe]; exact Or.inr h
  have hS : va_S A s.heap s.heap [] := va_S.rf
  have hP : va_P (dC, dI) vwCl [(o, .inr (3, [.ref o_kinds, .ref o_holds, .ref o_takes, .ref o_shareCounts, .ref o_shares, .int vo_size])), (o_shareCounts, .inl (cI, 9, .inl vo_shareCounts))] s.heap := hP
  have hK : va_K (dC, dI) vwCl (zTy cI cJ cC) s := hK
  have hl := lv_entry ([.ref o]) (n := 1) (Nat.le_of_ble_eq_true rfl)
  rw [lg_entry_eq]
  generalize (lg_sl ([.ref o]) ++ List.replicate (1 - (lg_sl ([.ref o])).length) Slot.unset).toArray = ls at hl ⊢
  have hl : lv_has ls 1 [(0, .ref o)] := hl
  refine zz_start hP hS (fun Q hQ H locs hP hS => ?_)
  have hwX3 : ∀ w ∈ u_ws RX3 TX3 6, w ∈ wsX3_lastShareCount := by decide +kernel
  have hf_21 := (hts (.fieldLink RX3 21 "PouredTopmost$Stand" "shareCounts" "[I") (by decide +kernel))
  have hf_33 := (hts (.fieldLink RX3 33 "PouredTopmost$Stand" "size" "I") (by decide +kernel))
  refine lv_aload_n hx hb dX3_lastShareCount_0 rfl (lv_at hl 0 rfl) ?_
  refine va_get (D := (dC, dI)) (ci := 3) (v := .int vo_size) (C := RX3) (T := TX3) (N := 6) hx hb hts hwX3 hown hK hP 0 rfl rfl 5 (by decide) hf_33 (fun _ h9 => h9) rfl dX3_lastShareCount_1 ?_
  refine lv_if_le (tgt := 21) hx hb dX3_lastShareCount_4 (by decide) (fun c_1 => ?_) (fun c_1 => ?_)
  · replace hT := cutT c_1 hT
    have g_5 := zleT (rfl : (vo_size).toInt = _) (by decide : ((0 : Int32)).toInt = 0) c_1
    refine lv_iconst (v := (0 : Int32)) hx hb dX3_lastShareCount_21 (by decide) ?_
    have hP9 := hP
    have hD9 := hD
    have hS9 := hS
    have hT : (0 : Int32) = r := hT
    subst hT
    subst hQ
    exact zz_iret hx hb hr [0, 1] hK hP9 hD9 hS9 rfl rfl ⟨(by first | decide | omega), (by first | decide | omega), (by intro h0; first | rfl | omega)⟩ hlocks dX3_lastShareCount_22
  · replace hT := cutF c_1 hT
    have g_6 := zleF (rfl : (vo_size).toInt = _) (by decide : ((0 : Int32)).toInt = 0) c_1
    refine lv_aload_n hx hb dX3_lastShareCount_7 rfl (lv_at hl 0 rfl) ?_
    refine va_get (D := (dC, dI)) (ci := 3) (v := .ref o_shareCounts) (C := RX3) (T := TX3) (N := 6) hx hb hts hwX3 hown hK hP 0 rfl rfl 3 (by decide) hf_21 (fun _ h9 => h9) rfl dX3_lastShareCount_8 ?_
    refine lv_aload_n hx hb dX3_lastShareCount_11 rfl (lv_at hl 0 rfl) ?_
    refine va_get (D := (dC, dI)) (ci := 3) (v := .int vo_size) (C := RX3) (T := TX3) (N := 6) hx hb hts hwX3 hown hK hP 0 rfl rfl 5 (by decide) hf_33 (fun _ h9 => h9) rfl dX3_lastShareCount_12 ?_
    refine lv_iconst (v := (1 : Int32)) hx hb dX3_lastShareCount_15 (by decide) ?_
    refine lv_isub hx hb dX3_lastShareCount_16 ?_
    have e_3 := zsubE (v := (vo_size - (1 : Int32))) (rfl : (vo_size).toInt = _) (by decide : ((1 : Int32)).toInt = 1) rfl (by omega) (by omega)
    have h_2 : vp_in (vo_size - (1 : Int32)) 9 := zin (by omega) (by omega)
    refine va_iald hx hb hK hP 1 0 rfl rfl h_2 dX3_lastShareCount_17 ?_
    have g_4 := hsc (vo_size - (1 : Int32)).toNatClampNeg
    refine lv_goto (tgt := 22) hx hb dX3_lastShareCount_18 (by decide) ?_
    have hP9 := hP
    have hD9 := hD
    have hS9 := hS
    have hT : (vo_shareCounts (vo_size - (1 : Int32)).toNatClampNeg) = r := hT
    subst hT
    subst hQ
    exact zz_iret hx hb hr [0, 1] hK hP9 hD9 hS9 rfl rfl ⟨(by first | decide | omega), (by first | decide | omega), (by intro h0; first | rfl | omega)⟩ hlocks dX3_lastShareCount_22

def m_X3_tellShare (vo_size : Int32) (vo_shareCounts : Nat → Int32) (vo_shares : Nat → Int32) (p1 : Int32) : Int32 × (Nat → Int32) × (Nat → Int32) :=
 cut (m_X3_lastShareCount vo_size vo_shareCounts) (fun (r1 : Int32) =>
 if vo_size = (0 : Int32) then
  ((0 : Int32), vo_shareCounts, vo_shares)
 else
  if r1 < (3 : Int32) then
   cut (upd vo_shares (((vo_size - (1 : Int32)) * (3 : Int32)) + r1).toNatClampNeg p1) (fun (a2 : Nat → Int32) =>
   cut (upd vo_shareCounts (vo_size - (1 : Int32)).toNatClampNeg ((vo_shareCounts (vo_size - (1 : Int32)).toNatClampNeg) + (1 : Int32))) (fun (a3 : Nat → Int32) =>
   ((1 : Int32), a3, a2)))
  else
   ((0 : Int32), vo_shareCounts, vo_shares))
set_option maxHeartbeats 4000000 in
set_option maxRecDepth 100000 in
theorem k_X3_tellShare (l : Launch) (dC : Nat → ClassId) (dI : Nat → Nat → Nat) (cI cJ cC : ClassId) (sz : Nat) (o o_kinds o_holds o_takes o_shareCounts o_shares : Nat) (vo_size : Int32) (vo_shareCounts : Nat → Int32) (vo_shares : Nat → Int32) (p1 : Int32) (r : Int32) (qo_shareCounts : Nat → Int32) (qo_shares : Nat → Int32) (hT : m_X3_tellShare vo_size vo_shareCounts vo_shares p1 = (r, qo_shareCounts, qo_shares)) (hs0 : 0 ≤ vo_size.toInt) (hs9 : vo_size.toInt ≤ 9) (hsc : zSc vo_shareCounts) : Met l yX3_tellShare wsX3_tellShare ({ frames := 1, cells := 0, slots := 0, locals := 20 }) (zPc [.ref o, .int p1] (dC, dI) (zTy cI cJ cC) [(o, .inr (3, [.ref o_kinds, .ref o_holds, .ref o_takes, .ref o_shareCounts, .ref o_shares, .int vo_size])), (o_shareCounts, .inl (cI, 9, .inl vo_shareCounts)), (o_shares, .inl (cI, 27, .inl vo_shares))] sz) (zQi r ((zB01 r) ∧ (zSc qo_shareCounts)) (dC, dI) (zTy cI cJ cC) [(o, .inr (3, [.ref o_kinds, .ref o_holds, .ref o_takes, .ref o_shareCounts, .ref o_shares, .int vo_size])), (o_shareCounts, .inl (cI, 9, .inl qo_shareCounts)), (o_shares, .inl (cI, 27, .inl qo_shares))] (va_A [(o, .inr (3, [.ref o_kinds, .ref o_holds, .ref o_takes, .ref o_shareCounts, .ref o_shares, .int vo_size])), (o_shareCounts, .inl (cI, 9, .inl vo_shareCounts)), (o_shares, .inl (cI, 27, .inl vo_shares))] sz)) 0 0 (va_A [(o, .inr (3, [.ref o_kinds, .ref o_holds, .ref o_takes, .ref o_shareCounts, .ref o_shares, .int vo_size])), (o_shareCounts, .inl (cI, 9, .inl vo_shareCounts)), (o_shares, .inl (cI, 27, .inl vo_shares))] sz) := by
  refine Met.ofW (cc := cX3_tellShare) (maxL := 3) (ret := (some .boolean)) (by decide) rfl ?_
  intro p e s m args below meth c s₁ B hml hv
  obtain ⟨rfl, hsz, hP, hK, hD0⟩ := hv
  have hx := B.exec
  have hb := B.bytes
  have hr := B.returns
  have hts := atoms_spec (ws := wsX3_tellShare) B.pre
  have hown : s.vm.findClass RX3 = some m.cls := findClass_of_methodNamed B.named
  have hlocks := B.notSynchronized
  subst hsz
  have hD := hD0.self (sz := s.heap.size)
  generalize hAe : va_A [(o, .inr (3, [.ref o_kinds, .ref o_holds, .ref o_takes, .ref o_shareCounts, .ref o_shares, .int vo_size])), (o_shareCounts, .inl (cI, 9, .inl vo_shareCounts)), (o_shares, .inl (cI, 27, .inl vo_shares))] s.heap.size = A at hD ⊢
  have hA : ∀ q : Nat, s.heap.size ≤ q → A q := fun q h => by rw [← hAe]; exact Or.inr h
  have hS : va_S A s.heap s.heap [] := va_S.rf
  have hP : va_P (dC, dI) vwCl [(o, .inr (3, [.ref o_kinds, .ref o_holds, .ref o_takes, .ref o_shareCounts, .ref o_shares, .int vo_size])), (o_shareCounts, .inl (cI, 9, .inl vo_shareCounts)), (o_shares, .inl (cI, 27, .inl vo_shares))] s.heap := hP
  have hK : va_K (dC, dI) vwCl (zTy cI cJ cC) s := hK
  have hl := lv_entry ([.ref o, .int p1]) (n := 3) (Nat.le_of_ble_eq_true rfl)
  rw [lg_entry_eq]
  generalize (lg_sl ([.ref o, .int p1]) ++ List.replicate (3 - (lg_sl ([.ref o, .int p1])).length) Slot.unset).toArray = ls at hl ⊢
  have hl : lv_has ls 3 [(0, .ref o), (1, .int p1)] := hl
  refine zz_start hP hS (fun Q hQ H locs hP hS => ?_)
  have hwX3 : ∀ w ∈ u_ws RX3 TX3 6, w ∈ wsX3_tellShare := by decide +kernel
  have hf_21 := (hts (.fieldLink RX3 21 "PouredTopmost$Stand" "shareCounts" "[I") (by decide +kernel))
  have hf_24 := (hts (.fieldLink RX3 24 "PouredTopmost$Stand" "shares" "[I") (by decide +kernel))
  have hf_33 := (hts (.fieldLink RX3 33 "PouredTopmost$Stand" "size" "I") (by decide +kernel))
  refine lv_aload_n hx hb dX3_tellShare_0 rfl (lv_at hl 0 rfl) ?_
  obtain ⟨r1, ev_1⟩ : ∃ x0, (m_X3_lastShareCount vo_size vo_shareCounts) = x0 := ⟨_, rfl⟩
  replace hT := cut_n ev_1 hT
  refine zz_ci [0, 1] [2] (wr := [(o_shares, .inl (cI, 27, .inl vo_shares))]) (w1 := [(o, .inr (3, [.ref o_kinds, .ref o_holds, .ref o_takes, .ref o_shareCounts, .ref o_shares, .int vo_size])), (o_shareCounts, .inl (cI, 9, .inl vo_shareCounts))]) (va_runV (As := []) (rest := []) ⟨hx, hb, hml, hown, hts⟩ (k_X3_lastShareCount l dC dI cI cJ cC H.size o o_kinds o_holds o_takes o_shareCounts o_shares vo_size vo_shareCounts r1 ev_1 hs9 hsc) (cwV 0 hts gX3_tellShare_X3_lastShareCount rfl rfl rfl (by decide +kernel) ⟨Nat.le_of_ble_eq_true rfl, Nat.le_of_ble_eq_true rfl⟩) (zz_preV [0, 1] hK hP hD rfl rfl (va_recv hK hP (ci := 3) (q0 := 0) rfl rfl)) rfl rfl hl.1 rfl (lv_room (Nat.le_of_ble_eq_true rfl)) dX3_tellShare_1 ⟨Nat.zero_le _, Nat.zero_le _⟩) hP hD hS hA rfl rfl rfl (by decide) (fun ok_2 H locs hP hD hS => ?_)
  have hP : va_P (dC, dI) vwCl [(o_shares, .inl (cI, 27, .inl vo_shares)), (o, .inr (3, [.ref o_kinds, .ref o_holds, .ref o_takes, .ref o_shareCounts, .ref o_shares, .int vo_size])), (o_shareCounts, .inl (cI, 9, .inl vo_shareCounts))] H := hP
  have hD : va_D A [(o_shares, .inl (cI, 27, .inl vo_shares)), (o, .inr (3, [.ref o_kinds, .ref o_holds, .ref o_takes, .ref o_shareCounts, .ref o_shares, .int vo_size])), (o_shareCounts, .inl (cI, 9, .inl vo_shareCounts))] := hD
  obtain ⟨k_3, k_4, k_5⟩ := ok_2
  refine lv_istore_n (lv' := [(2, .int r1), (0, .ref o), (1, .int p1)]) hx hb dX3_tellShare_4 rfl hl (by decide) rfl (fun ls hl => ?_)
  refine lv_aload_n hx hb dX3_tellShare_5 rfl (lv_at hl 1 rfl) ?_
  refine va_get (D := (dC, dI)) (ci := 3) (v := .int vo_size) (C := RX3) (T := TX3) (N := 6) hx hb hts hwX3 hown hK hP 1 rfl rfl 5 (by decide) hf_33 (fun _ h9 => h9) rfl dX3_tellShare_6 ?_
  refine lv_if_eq (tgt := 17) hx hb dX3_tellShare_9 (by decide) (fun c_6 => ?_) (fun c_6 => ?_)
  · replace hT := cutT c_6 hT
    have g_19 := zeqT (rfl : (vo_size).toInt = _) (by decide : ((0 : Int32)).toInt = 0) c_6
    refine lv_iconst (v := (0 : Int32)) hx hb dX3_tellShare_17 (by decide) ?_
    have hP9 := hP
    have hD9 := hD
    have hS9 := hS
    have hT : ((0 : Int32), vo_shareCounts, vo_shares) = (r, qo_shareCounts, qo_shares) := hT
    cases hT
    subst hQ
    exact zz_zret hx hb hr rfl [1, 2, 0] hK hP9 hD9 hS9 rfl rfl ⟨(Or.inl rfl), (by assumption)⟩ hlocks dX3_tellShare_18
  · replace hT := cutF c_6 hT
    have g_20 := zeqF (rfl : (vo_size).toInt = _) (by decide : ((0 : Int32)).toInt = 0) c_6
    refine lv_iload_n hx hb dX3_tellShare_12 rfl (lv_at hl 0 rfl) ?_
    refine lv_iconst (v := (3 : Int32)) hx hb dX3_tellShare_13 (by decide) ?_
    refine lv_icmp_lt (tgt := 19) hx hb dX3_tellShare_14 (by decide) (fun c_7 => ?_) (fun c_7 => ?_)
    · replace hT := cutT c_7 hT
      have g_21 := zltT (rfl : (r1).toInt = _) (by decide : ((3 : Int32)).toInt = 3) c_7
      refine lv_aload_n hx hb dX3_tellShare_19 rfl (lv_at hl 1 rfl) ?_
      refine va_get (D := (dC, dI)) (ci := 3) (v := .ref o_shares) (C := RX3) (T := TX3) (N := 6) hx hb hts hwX3 hown hK hP 1 rfl rfl 4 (by decide) hf_24 (fun _ h9 => h9) rfl dX3_tellShare_20 ?_
      refine lv_aload_n hx hb dX3_tellShare_23 rfl (lv_at hl 1 rfl) ?_
      refine va_get (D := (dC, dI)) (ci := 3) (v := .int vo_size) (C := RX3) (T := TX3) (N := 6) hx hb hts hwX3 hown hK hP 1 rfl rfl 5 (by decide) hf_33 (fun _ h9 => h9) rfl dX3_tellShare_24 ?_
      refine lv_iconst (v := (1 : Int32)) hx hb dX3_tellShare_27 (by decide) ?_
      refine lv_isub hx hb dX3_tellShare_28 ?_
      refine lv_iconst (v := (3 : Int32)) hx hb dX3_tellShare_29 (by decide) ?_
      refine lv_imul hx hb dX3_tellShare_30 ?_
      refine lv_iload_n hx hb dX3_tellShare_31 rfl (lv_at hl 0 rfl) ?_
      refine lv_iadd hx hb dX3_tellShare_32 ?_
      refine lv_iload_n hx hb dX3_tellShare_33 rfl (lv_at hl 2 rfl) ?_
      have e_9 := zsubE (v := (vo_size - (1 : Int32))) (rfl : (vo_size).toInt = _) (by decide : ((1 : Int32)).toInt = 1) rfl (by omega) (by omega)
      have e_10 := zmulE (v := ((vo_size - (1 : Int32)) * (3 : Int32))) e_9 (by decide : ((3 : Int32)).toInt = 3) rfl (by omega) (by omega)
      have e_11 := zaddE (v := (((vo_size - (1 : Int32)) * (3 : Int32)) + r1)) e_10 (rfl : (r1).toInt = _) rfl (by omega) (by omega)
      have h_8 : vp_in (((vo_size - (1 : Int32)) * (3 : Int32)) + r1) 27 := zin (by omega) (by omega)
      refine va_iast hx hb hK hP hD hS 0 0 rfl rfl h_8 dX3_tellShare_34 (fun H locs hP hD hS => ?_)
      obtain ⟨a2, ea2⟩ : ∃ z, (upd vo_shares (((vo_size - (1 : Int32)) * (3 : Int32)) + r1).toNatClampNeg p1) = z := ⟨_, rfl⟩
      replace hT := cut_n ea2 hT
      have hP : va_P (dC, dI) vwCl [(o_shares, .inl (cI, 27, .inl a2)), (o, .inr (3, [.ref o_kinds, .ref o_holds, .ref o_takes, .ref o_shareCounts, .ref o_shares, .int vo_size])), (o_shareCounts, .inl (cI, 9, .inl vo_shareCounts))] H := by rw [← ea2]; exact hP
      have hD : va_D A [(o_shares, .inl (cI, 27, .inl a2)), (o, .inr (3, [.ref o_kinds, .ref o_holds, .ref o_takes, .ref o_shareCounts, .ref o_shares, .int vo_size])), (o_shareCounts, .inl (cI, 9, .inl vo_shareCounts))] := by rw [← ea2]; exact hD
      refine lv_aload_n hx hb dX3_tellShare_35 rfl (lv_at hl 1 rfl) ?_
      refine va_get (D := (dC, dI)) (ci := 3) (v := .ref o_shareCounts) (C := RX3) (T := TX3) (N := 6) hx hb hts hwX3 hown hK hP 1 rfl rfl 3 (by decide) hf_21 (fun _ h9 => h9) rfl dX3_tellShare_36 ?_
      refine lv_aload_n hx hb dX3_tellShare_39 rfl (lv_at hl 1 rfl) ?_
      refine va_get (D := (dC, dI)) (ci := 3) (v := .int vo_size) (C := RX3) (T := TX3) (N := 6) hx hb hts hwX3 hown hK hP 1 rfl rfl 5 (by decide) hf_33 (fun _ h9 => h9) rfl dX3_tellShare_40 ?_
      refine lv_iconst (v := (1 : Int32)) hx hb dX3_tellShare_43 (by decide) ?_
      refine lv_isub hx hb dX3_tellShare_44 ?_
      refine lv_dup2_11 hx hb dX3_tellShare_45 rfl rfl ?_
      have e_13 := zsubE (v := (vo_size - (1 : Int32))) (rfl : (vo_size).toInt = _) (by decide : ((1 : Int32)).toInt = 1) rfl (by omega) (by omega)
      have h_12 : vp_in (vo_size - (1 : Int32)) 9 := zin (by omega) (by omega)
      refine va_iald hx hb hK hP 2 0 rfl rfl h_12 dX3_tellShare_46 ?_
      have g_14 := hsc (vo_size - (1 : Int32)).toNatClampNeg
      refine lv_iconst (v := (1 : Int32)) hx hb dX3_tellShare_47 (by decide) ?_
      refine lv_iadd hx hb dX3_tellShare_48 ?_
      have hq1 : r1 = vo_shareCounts (vo_size - (1 : Int32)).toNatClampNeg := (‹0 < vo_size.toInt → r1 = vo_shareCounts (vo_size - (1 : Int32)).toNatClampNeg›) (by omega)
      have hq2 : (vo_shareCounts (vo_size - (1 : Int32)).toNatClampNeg).toInt = r1.toInt := by rw [← hq1]
      have e_16 := zsubE (v := (vo_size - (1 : Int32))) (rfl : (vo_size).toInt = _) (by decide : ((1 : Int32)).toInt = 1) rfl (by omega) (by omega)
      have h_15 : vp_in (vo_size - (1 : Int32)) 9 := zin (by omega) (by omega)
      refine va_iast hx hb hK hP hD hS 2 0 rfl rfl h_15 dX3_tellShare_49 (fun H locs hP hD hS => ?_)
      obtain ⟨a3, ea3⟩ : ∃ z, (upd vo_shareCounts (vo_size - (1 : Int32)).toNatClampNeg ((vo_shareCounts (vo_size - (1 : Int32)).toNatClampNeg) + (1 : Int32))) = z := ⟨_, rfl⟩
      replace hT := cut_n ea3 hT
      have hP : va_P (dC, dI) vwCl [(o_shares, .inl (cI, 27, .inl a2)), (o, .inr (3, [.ref o_kinds, .ref o_holds, .ref o_takes, .ref o_shareCounts, .ref o_shares, .int vo_size])), (o_shareCounts, .inl (cI, 9, .inl a3))] H := by rw [← ea3]; exact hP
      have hD : va_D A [(o_shares, .inl (cI, 27, .inl a2)), (o, .inr (3, [.ref o_kinds, .ref o_holds, .ref o_takes, .ref o_shareCounts, .ref o_shares, .int vo_size])), (o_shareCounts, .inl (cI, 9, .inl a3))] := by rw [← ea3]; exact hD
      have e_18 := zaddE (v := ((vo_shareCounts (vo_size - (1 : Int32)).toNatClampNeg) + (1 : Int32))) (rfl : ((vo_shareCounts (vo_size - (1 : Int32)).toNatClampNeg)).toInt = _) (by decide : ((1 : Int32)).toInt = 1) rfl (by omega) (by omega)
      have sc_17 : zSc a3 := by rw [← ea3]; exact zSc_upd hsc (by omega) (by omega)
      refine lv_iconst (v := (1 : Int32)) hx hb dX3_tellShare_50 (by decide) ?_
      have hP9 := hP
      have hD9 := hD
      have hS9 := hS
      have hT : ((1 : Int32), a3, a2) = (r, qo_shareCounts, qo_shares) := hT
      cases hT
      subst hQ
      exact zz_zret hx hb hr rfl [1, 2, 0] hK hP9 hD9 hS9 rfl rfl ⟨(Or.inr rfl), (by assumption)⟩ hlocks dX3_tellShare_51
    · replace hT := cutF c_7 hT
      have g_22 := zltF (rfl : (r1).toInt = _) (by decide : ((3 : Int32)).toInt = 3) c_7
      refine lv_iconst (v := (0 : Int32)) hx hb dX3_tellShare_17 (by decide) ?_
      have hP9 := hP
      have hD9 := hD
      have hS9 := hS
      have hT : ((0 : Int32), vo_shareCounts, vo_shares) = (r, qo_shareCounts, qo_shares) := hT
      cases hT
      subst hQ
      exact zz_zret hx hb hr rfl [1, 2, 0] hK hP9 hD9 hS9 rfl rfl ⟨(Or.inl rfl), (by assumption)⟩ hlocks dX3_tellShare_18

def rs_X3_hasAllShares_6 (b1 : Int32) (bk5 : Int32 → (Int32)) (x4 : Int32) : Int32 :=
 cut (b1 + (1 : Int32)) (fun (v9 : Int32) =>
 (bk5 v9))
def lp_X3_hasAllShares_6 (vo_shareCounts : Nat → Int32) (b1 : Int32) (ct6 : Int32 → (Int32)) (vo_size : Int32) (vo_shares : Nat → Int32) : Nat → Int32 → (Int32)
  | 0, _ => default
  | k + 1, b3 =>
  if (vo_shareCounts b1.toNatClampNeg) ≤ b3 then
   (ct6 b3)
  else
   cut (m_X3_shareOf vo_size vo_shareCounts vo_shares b1 b3) (fun (r5 : Int32) =>
   if r5 = (9 : Int32) then
    cut (b3 + (1 : Int32)) (fun (v6 : Int32) =>
    (lp_X3_hasAllShares_6 vo_shareCounts b1 ct6 vo_size vo_shares k v6))
   else
    cut (m_X3_has vo_size r5) (fun (r7 : Int32) =>
    if r7 = (0 : Int32) then
     (0 : Int32)
    else
     cut (b3 + (1 : Int32)) (fun (v8 : Int32) =>
     (lp_X3_hasAllShares_6 vo_shareCounts b1 ct6 vo_size vo_shares k v8))))
def rs_X3_hasAllShares_5  (x2 : Int32) : Int32 :=
 (1 : Int32)
def lp_X3_hasAllShares_5 (vo_size : Int32) (ct5 : Int32 → (Int32)) (vo_shareCounts : Nat → Int32) (vo_shares : Nat → Int32) : Nat → Int32 → (Int32)
  | 0, _ => default
  | k + 1, b1 =>
  if vo_size ≤ b1 then
   (ct5 b1)
  else
   (lp_X3_hasAllShares_6 vo_shareCounts b1 (rs_X3_hasAllShares_6 b1 (fun c0 => lp_X3_hasAllShares_5 vo_size ct5 vo_shareCounts vo_shares k c0)) vo_size vo_shares 5 (0 : Int32))
def m_X3_hasAllShares (vo_size : Int32) (vo_shareCounts : Nat → Int32) (vo_shares : Nat → Int32) : Int32 :=
 (lp_X3_hasAllShares_5 vo_size rs_X3_hasAllShares_5 vo_shareCounts vo_shares 10 (0 : Int32))
set_option maxHeartbeats 4000000 in
set_option maxRecDepth 100000 in
theorem k_X3_hasAllShares (l : Launch) (dC : Nat → ClassId) (dI : Nat → Nat → Nat) (cI cJ cC : ClassId) (sz : Nat) (o o_kinds o_holds o_takes o_shareCounts o_shares : Nat) (vo_size : Int32) (vo_shareCounts : Nat → Int32) (vo_shares : Nat → Int32) (r : Int32) (hT : m_X3_hasAllShares vo_size vo_shareCounts vo_shares = r) (hs0 : 0 ≤ vo_size.toInt) (hs9 : vo_size.toInt ≤ 9) (hsc : zSc vo_shareCounts) : Met l yX3_hasAllShares wsX3_hasAllShares ({ frames := 2, cells := 0, slots := 0, locals := 43 }) (zPc [.ref o] (dC, dI) (zTy cI cJ cC) [(o, .inr (3, [.ref o_kinds, .ref o_holds, .ref o_takes, .ref o_shareCounts, .ref o_shares, .int vo_size])), (o_shareCounts, .inl (cI, 9, .inl vo_shareCounts)), (o_shares, .inl (cI, 27, .inl vo_shares))] sz) (zQi r ((zB01 r)) (dC, dI) (zTy cI cJ cC) [(o, .inr (3, [.ref o_kinds, .ref o_holds, .ref o_takes, .ref o_shareCounts, .ref o_shares, .int vo_size])), (o_shareCounts, .inl (cI, 9, .inl vo_shareCounts)), (o_shares, .inl (cI, 27, .inl vo_shares))] (va_A [(o, .inr (3, [.ref o_kinds, .ref o_holds, .ref o_takes, .ref o_shareCounts, .ref o_shares, .int vo_size])), (o_shareCounts, .inl (cI, 9, .inl vo_shareCounts)), (o_shares, .inl (cI, 27, .inl vo_shares))] sz)) 0 0 (va_A [(o, .inr (3, [.ref o_kinds, .ref o_holds, .ref o_takes, .ref o_shareCounts, .ref o_shares, .int vo_size])), (o_shareCounts, .inl (cI, 9, .inl vo_shareCounts)), (o_shares, .inl (cI, 27, .inl vo_shares))] sz) := by
  refine Met.ofW (cc := cX3_hasAllShares) (maxL := 4) (ret := (some .boolean)) (by decide) rfl ?_
  intro p e s m args below meth c s₁ B hml hv
  obtain ⟨rfl, hsz, hP, hK, hD0⟩ := hv
  have hx := B.exec
  have hb := B.bytes
  have hr := B.returns
  have hts := atoms_spec (ws := wsX3_hasAllShares) B.pre
  have hown : s.vm.findClass RX3 = some m.cls := findClass_of_methodNamed B.named
  have hlocks := B.notSynchronized
  subst hsz
  have hD := hD0.self (sz := s.heap.size)
  generalize hAe : va_A [(o, .inr (3, [.ref o_kinds, .ref o_holds, .ref o_takes, .ref o_shareCounts, .ref o_shares, .int vo_size])), (o_shareCounts, .inl (cI, 9, .inl vo_shareCounts)), (o_shares, .inl (cI, 27, .inl vo_shares))] s.heap.size = A at hD ⊢
  have hA : ∀ q : Nat, s.heap.size ≤ q → A q := fun q h => by rw [← hAe]; exact Or.inr h
  have hS : va_S A s.heap s.heap [] := va_S.rf
  have hP : va_P (dC, dI) vwCl [(o, .inr (3, [.ref o_kinds, .ref o_holds, .ref o_takes, .ref o_shareCounts, .ref o_shares, .int vo_size])), (o_shareCounts, .inl (cI, 9, .inl vo_shareCounts)), (o_shares, .inl (cI, 27, .inl vo_shares))] s.heap := hP
  have hK : va_K (dC, dI) vwCl (zTy cI cJ cC) s := hK
  have hl := lv_entry ([.ref o]) (n := 4) (Nat.le_of_ble_eq_true rfl)
  rw [lg_entry_eq]
  generalize (lg_sl ([.ref o]) ++ List.replicate (4 - (lg_sl ([.ref o])).length) Slot.unset).toArray = ls at hl ⊢
  have hl : lv_has ls 4 [(0, .ref o)] := hl
  refine zz_start hP hS (fun Q hQ H locs hP hS => ?_)
  have hwX3 : ∀ w ∈ u_ws RX3 TX3 6, w ∈ wsX3_hasAllShares := by decide +kernel
  have hf_21 := (hts (.fieldLink RX3 21 "PouredTopmost$Stand" "shareCounts" "[I") (by decide +kernel))
  have hf_33 := (hts (.fieldLink RX3 33 "PouredTopmost$Stand" "size" "I") (by decide +kernel))
  refine lv_iconst (v := (0 : Int32)) hx hb dX3_hasAllShares_0 (by decide) ?_
  refine lv_istore_n (lv' := [(1, .int (0 : Int32)), (0, .ref o)]) hx hb dX3_hasAllShares_1 rfl hl (by decide) rfl (fun ls hl => ?_)
  have hz_13 : ((0 : Int32)).toInt = 0 := by decide
  refine zz_loop (α := Int32) 57 (fun k a H locs ls => (0 ≤ a.toInt) ∧ (a.toInt ≤ vo_size.toInt) ∧ (vo_size.toInt - a.toInt < ((k : Nat) : Int)) ∧ lp_X3_hasAllShares_5 vo_size rs_X3_hasAllShares_5 vo_shareCounts vo_shares k a = r ∧ va_P (dC, dI) vwCl [(o, .inr (3, [.ref o_kinds, .ref o_holds, .ref o_takes, .ref o_shareCounts, .ref o_shares, .int vo_size])), (o_shareCounts, .inl (cI, 9, .inl vo_shareCounts)), (o_shares, .inl (cI, 27, .inl vo_shares))] H ∧ va_D A [(o, .inr (3, [.ref o_kinds, .ref o_holds, .ref o_takes, .ref o_shareCounts, .ref o_shares, .int vo_size])), (o_shareCounts, .inl (cI, 9, .inl vo_shareCounts)), (o_shares, .inl (cI, 27, .inl vo_shares))] ∧ va_S A s.heap H locs ∧ lv_has ls 4 [(1, .int a), (0, .ref o)]) (fun a H locs ls => (0 ≤ a.toInt) ∧ (a.toInt ≤ vo_size.toInt) ∧ rs_X3_hasAllShares_5 a = r ∧ va_P (dC, dI) vwCl [(o, .inr (3, [.ref o_kinds, .ref o_holds, .ref o_takes, .ref o_shareCounts, .ref o_shares, .int vo_size])), (o_shareCounts, .inl (cI, 9, .inl vo_shareCounts)), (o_shares, .inl (cI, 27, .inl vo_shares))] H ∧ va_D A [(o, .inr (3, [.ref o_kinds, .ref o_holds, .ref o_takes, .ref o_shareCounts, .ref o_shares, .int vo_size])), (o_shareCounts, .inl (cI, 9, .inl vo_shareCounts)), (o_shares, .inl (cI, 27, .inl vo_shares))] ∧ va_S A s.heap H locs ∧ lv_has ls 4 []) ?_ ?_ ?_ 10 (0 : Int32) ⟨(by omega : 0 ≤ (0 : Int32).toInt), (by omega : (0 : Int32).toInt ≤ vo_size.toInt), (by omega : vo_size.toInt - (0 : Int32).toInt < ((10 : Nat) : Int)), hT, hP.sub [0, 1, 2] rfl, hD.sub [0, 1, 2] rfl rfl, hS, lv_sub hl [0, 1] rfl⟩
  · rintro x2 H locs ls ⟨i1, j1, hT, hP, hD, hS, hl⟩
    have hP : va_P (dC, dI) vwCl [(o, .inr (3, [.ref o_kinds, .ref o_holds, .ref o_takes, .ref o_shareCounts, .ref o_shares, .int vo_size])), (o_shareCounts, .inl (cI, 9, .inl vo_shareCounts)), (o_shares, .inl (cI, 27, .inl vo_shares))] H := hP
    have hD : va_D A [(o, .inr (3, [.ref o_kinds, .ref o_holds, .ref o_takes, .ref o_shareCounts, .ref o_shares, .int vo_size])), (o_shareCounts, .inl (cI, 9, .inl vo_shareCounts)), (o_shares, .inl (cI, 27, .inl vo_shares))] := hD
    have hl : lv_has ls 4 [] := hl
    have hT : rs_X3_hasAllShares_5 x2 = r := hT
    have i1 : 0 ≤ x2.toInt := i1
    have j1 : x2.toInt ≤ vo_size.toInt := j1
    refine lv_iconst (v := (1 : Int32)) hx hb dX3_hasAllShares_57 (by decide) ?_
    have hP9 := hP
    have hD9 := hD
    have hS9 := hS
    have hT : (1 : Int32) = r := hT
    subst hT
    subst hQ
    exact zz_zret hx hb hr rfl [0, 1, 2] hK hP9 hD9 hS9 rfl rfl (Or.inr rfl) hlocks dX3_hasAllShares_58
  · rintro b1 H locs ls ⟨i1, j1, hm, -⟩
    try dsimp only at *
    omega
  · intro k5 hex5 ih5
    rintro b1 H locs ls ⟨i1, j1, hm5, hT, hP, hD, hS, hl⟩
    have hP : va_P (dC, dI) vwCl [(o, .inr (3, [.ref o_kinds, .ref o_holds, .ref o_takes, .ref o_shareCounts, .ref o_shares, .int vo_size])), (o_shareCounts, .inl (cI, 9, .inl vo_shareCounts)), (o_shares, .inl (cI, 27, .inl vo_shares))] H := hP
    have hD : va_D A [(o, .inr (3, [.ref o_kinds, .ref o_holds, .ref o_takes, .ref o_shareCounts, .ref o_shares, .int vo_size])), (o_shareCounts, .inl (cI, 9, .inl vo_shareCounts)), (o_shares, .inl (cI, 27, .inl vo_shares))] := hD
    have hl : lv_has ls 4 [(1, .int b1), (0, .ref o)] := hl
    have hT : lp_X3_hasAllShares_5 vo_size rs_X3_hasAllShares_5 vo_shareCounts vo_shares (k5 + 1) b1 = r := hT
    have i1 : 0 ≤ b1.toInt := i1
    have j1 : b1.toInt ≤ vo_size.toInt := j1
    have hm5 : vo_size.toInt - b1.toInt < (((k5 + 1) : Nat) : Int) := hm5
    try simp only [Int.natCast_add, Int.natCast_one, Nat.cast_add, Nat.cast_one] at hm5
    refine lv_iload_n hx hb dX3_hasAllShares_2 rfl (lv_at hl 0 rfl) ?_
    refine lv_aload_n hx hb dX3_hasAllShares_3 rfl (lv_at hl 1 rfl) ?_
    refine va_get (D := (dC, dI)) (ci := 3) (v := .int vo_size) (C := RX3) (T := TX3) (N := 6) hx hb hts hwX3 hown hK hP 0 rfl rfl 5 (by decide) hf_33 (fun _ h9 => h9) rfl dX3_hasAllShares_4 ?_
    refine lv_icmp_ge (tgt := 57) hx hb dX3_hasAllShares_7 (by decide) (fun c_1 => ?_) (fun c_1 => ?_)
    · replace hT := cutT c_1 hT
      have g_14 := zleT (rfl : (vo_size).toInt = _) (rfl : (b1).toInt = _) c_1
      exact hex5 b1 _ _ _ ⟨(by omega : 0 ≤ b1.toInt), (by omega : b1.toInt ≤ vo_size.toInt), hT, hP.sub [0, 1, 2] rfl, hD.sub [0, 1, 2] rfl rfl, hS, lv_sub hl [] rfl⟩
    · replace hT := cutF c_1 hT
      have g_15 := zleF (rfl : (vo_size).toInt = _) (rfl : (b1).toInt = _) c_1
      refine lv_iconst (v := (0 : Int32)) hx hb dX3_hasAllShares_10 (by decide) ?_
      refine lv_istore_n (lv' := [(2, .int (0 : Int32)), (1, .int b1), (0, .ref o)]) hx hb dX3_hasAllShares_11 rfl hl (by decide) rfl (fun ls hl => ?_)
      have hz_16 : ((0 : Int32)).toInt = 0 := by decide
      refine zz_loop (α := Int32) 51 (fun k a H locs ls => (0 ≤ a.toInt) ∧ (a.toInt ≤ 3) ∧ (3 - a.toInt < ((k : Nat) : Int)) ∧ lp_X3_hasAllShares_6 vo_shareCounts b1 (rs_X3_hasAllShares_6 b1 (fun c0 => lp_X3_hasAllShares_5 vo_size rs_X3_hasAllShares_5 vo_shareCounts vo_shares k5 c0)) vo_size vo_shares k a = r ∧ va_P (dC, dI) vwCl [(o, .inr (3, [.ref o_kinds, .ref o_holds, .ref o_takes, .ref o_shareCounts, .ref o_shares, .int vo_size])), (o_shareCounts, .inl (cI, 9, .inl vo_shareCounts)), (o_shares, .inl (cI, 27, .inl vo_shares))] H ∧ va_D A [(o, .inr (3, [.ref o_kinds, .ref o_holds, .ref o_takes, .ref o_shareCounts, .ref o_shares, .int vo_size])), (o_shareCounts, .inl (cI, 9, .inl vo_shareCounts)), (o_shares, .inl (cI, 27, .inl vo_shares))] ∧ va_S A s.heap H locs ∧ lv_has ls 4 [(2, .int a), (1, .int b1), (0, .ref o)]) (fun a H locs ls => (0 ≤ a.toInt) ∧ (a.toInt ≤ 3) ∧ (rs_X3_hasAllShares_6 b1 (fun c0 => lp_X3_hasAllShares_5 vo_size rs_X3_hasAllShares_5 vo_shareCounts vo_shares k5 c0)) a = r ∧ va_P (dC, dI) vwCl [(o, .inr (3, [.ref o_kinds, .ref o_holds, .ref o_takes, .ref o_shareCounts, .ref o_shares, .int vo_size])), (o_shareCounts, .inl (cI, 9, .inl vo_shareCounts)), (o_shares, .inl (cI, 27, .inl vo_shares))] H ∧ va_D A [(o, .inr (3, [.ref o_kinds, .ref o_holds, .ref o_takes, .ref o_shareCounts, .ref o_shares, .int vo_size])), (o_shareCounts, .inl (cI, 9, .inl vo_shareCounts)), (o_shares, .inl (cI, 27, .inl vo_shares))] ∧ va_S A s.heap H locs ∧ lv_has ls 4 [(1, .int b1), (0, .ref o)]) ?_ ?_ ?_ 5 (0 : Int32) ⟨(by omega : 0 ≤ (0 : Int32).toInt), (by omega : (0 : Int32).toInt ≤ 3), (by omega : 3 - (0 : Int32).toInt < ((5 : Nat) : Int)), hT, hP.sub [0, 1, 2] rfl, hD.sub [0, 1, 2] rfl rfl, hS, lv_sub hl [0, 1, 2] rfl⟩
      · rintro x4 H locs ls ⟨i2, j2, hT, hP, hD, hS, hl⟩
        have hP : va_P (dC, dI) vwCl [(o, .inr (3, [.ref o_kinds, .ref o_holds, .ref o_takes, .ref o_shareCounts, .ref o_shares, .int vo_size])), (o_shareCounts, .inl (cI, 9, .inl vo_shareCounts)), (o_shares, .inl (cI, 27, .inl vo_shares))] H := hP
        have hD : va_D A [(o, .inr (3, [.ref o_kinds, .ref o_holds, .ref o_takes, .ref o_shareCounts, .ref o_shares, .int vo_size])), (o_shareCounts, .inl (cI, 9, .inl vo_shareCounts)), (o_shares, .inl (cI, 27, .inl vo_shares))] := hD
        have hl : lv_has ls 4 [(1, .int b1), (0, .ref o)] := hl
        have hT : (rs_X3_hasAllShares_6 b1 (fun c0 => lp_X3_hasAllShares_5 vo_size rs_X3_hasAllShares_5 vo_shareCounts vo_shares k5 c0)) x4 = r := hT
        have i2 : 0 ≤ x4.toInt := i2
        have j2 : x4.toInt ≤ 3 := j2
        obtain ⟨v9, ev9⟩ : ∃ y : Int32, (b1 + (1 : Int32)) = y := ⟨_, rfl⟩
        replace hT := cut_n ev9 hT
        try have fv9 := zaddE (rfl : (b1).toInt = _) (by decide : ((1 : Int32)).toInt = 1) ev9 (by omega) (by omega)
        refine lv_iinc (v := v9) (lv' := [(1, .int v9), (0, .ref o)]) hx hb dX3_hasAllShares_51 hl (k := 0) rfl (by rw [← ev9]; rfl) (by decide) rfl (fun ls hl => ?_)
        refine lv_goto (tgt := 2) hx hb dX3_hasAllShares_54 (by decide) ?_
        exact ih5 v9 _ _ _ ⟨(by omega : 0 ≤ v9.toInt), (by omega : v9.toInt ≤ vo_size.toInt), (by omega : vo_size.toInt - v9.toInt < ((k5 : Nat) : Int)), hT, hP.sub [0, 1, 2] rfl, hD.sub [0, 1, 2] rfl rfl, hS, lv_sub hl [0, 1] rfl⟩
      · rintro b3 H locs ls ⟨i2, j2, hm, -⟩
        try dsimp only at *
        omega
      · intro k6 hex6 ih6
        rintro b3 H locs ls ⟨i2, j2, hm6, hT, hP, hD, hS, hl⟩
        have hP : va_P (dC, dI) vwCl [(o, .inr (3, [.ref o_kinds, .ref o_holds, .ref o_takes, .ref o_shareCounts, .ref o_shares, .int vo_size])), (o_shareCounts, .inl (cI, 9, .inl vo_shareCounts)), (o_shares, .inl (cI, 27, .inl vo_shares))] H := hP
        have hD : va_D A [(o, .inr (3, [.ref o_kinds, .ref o_holds, .ref o_takes, .ref o_shareCounts, .ref o_shares, .int vo_size])), (o_shareCounts, .inl (cI, 9, .inl vo_shareCounts)), (o_shares, .inl (cI, 27, .inl vo_shares))] := hD
        have hl : lv_has ls 4 [(2, .int b3), (1, .int b1), (0, .ref o)] := hl
        have hT : lp_X3_hasAllShares_6 vo_shareCounts b1 (rs_X3_hasAllShares_6 b1 (fun c0 => lp_X3_hasAllShares_5 vo_size rs_X3_hasAllShares_5 vo_shareCounts vo_shares k5 c0)) vo_size vo_shares (k6 + 1) b3 = r := hT
        have i2 : 0 ≤ b3.toInt := i2
        have j2 : b3.toInt ≤ 3 := j2
        have hm6 : 3 - b3.toInt < (((k6 + 1) : Nat) : Int) := hm6
        try simp only [Int.natCast_add, Int.natCast_one, Nat.cast_add, Nat.cast_one] at hm6
        refine lv_iload_n hx hb dX3_hasAllShares_12 rfl (lv_at hl 0 rfl) ?_
        refine lv_aload_n hx hb dX3_hasAllShares_13 rfl (lv_at hl 2 rfl) ?_
        refine va_get (D := (dC, dI)) (ci := 3) (v := .ref o_shareCounts) (C := RX3) (T := TX3) (N := 6) hx hb hts hwX3 hown hK hP 0 rfl rfl 3 (by decide) hf_21 (fun _ h9 => h9) rfl dX3_hasAllShares_14 ?_
        refine lv_iload_n hx hb dX3_hasAllShares_17 rfl (lv_at hl 1 rfl) ?_
        have h_2 : vp_in b1 9 := zin (by omega) (by omega)
        refine va_iald hx hb hK hP 1 0 rfl rfl h_2 dX3_hasAllShares_18 ?_
        have g_3 := hsc b1.toNatClampNeg
        refine lv_icmp_ge (tgt := 51) hx hb dX3_hasAllShares_19 (by decide) (fun c_4 => ?_) (fun c_4 => ?_)
        · replace hT := cutT c_4 hT
          have g_17 := zleT (rfl : ((vo_shareCounts b1.toNatClampNeg)).toInt = _) (rfl : (b3).toInt = _) c_4
          exact hex6 b3 _ _ _ ⟨(by omega : 0 ≤ b3.toInt), (by omega : b3.toInt ≤ 3), hT, hP.sub [0, 1, 2] rfl, hD.sub [0, 1, 2] rfl rfl, hS, lv_sub hl [1, 2] rfl⟩
        · replace hT := cutF c_4 hT
          have g_18 := zleF (rfl : ((vo_shareCounts b1.toNatClampNeg)).toInt = _) (rfl : (b3).toInt = _) c_4
          refine lv_aload_n hx hb dX3_hasAllShares_22 rfl (lv_at hl 2 rfl) ?_
          refine lv_iload_n hx hb dX3_hasAllShares_23 rfl (lv_at hl 1 rfl) ?_
          refine lv_iload_n hx hb dX3_hasAllShares_24 rfl (lv_at hl 0 rfl) ?_
          obtain ⟨r5, ev_5⟩ : ∃ x0, (m_X3_shareOf vo_size vo_shareCounts vo_shares b1 b3) = x0 := ⟨_, rfl⟩
          replace hT := cut_n ev_5 hT
          refine zz_ci [0, 1, 2] [] (wr := []) (w1 := [(o, .inr (3, [.ref o_kinds, .ref o_holds, .ref o_takes, .ref o_shareCounts, .ref o_shares, .int vo_size])), (o_shareCounts, .inl (cI, 9, .inl vo_shareCounts)), (o_shares, .inl (cI, 27, .inl vo_shares))]) (va_runV (As := [.int b1, .int b3]) (rest := []) ⟨hx, hb, hml, hown, hts⟩ (k_X3_shareOf l dC dI cI cJ cC H.size o o_kinds o_holds o_takes o_shareCounts o_shares vo_size vo_shareCounts vo_shares b1 b3 r5 ev_5 hs9 hsc) (cwV 2 hts gX3_hasAllShares_X3_shareOf rfl rfl rfl (by decide +kernel) ⟨Nat.le_of_ble_eq_true rfl, Nat.le_of_ble_eq_true rfl⟩) (zz_preV [0, 1, 2] hK hP hD rfl rfl (va_recv hK hP (ci := 3) (q0 := 0) rfl rfl)) rfl rfl hl.1 rfl (lv_room (Nat.le_of_ble_eq_true rfl)) dX3_hasAllShares_25 ⟨Nat.zero_le _, Nat.zero_le _⟩) hP hD hS hA rfl rfl rfl (by decide) (fun ok_6 H locs hP hD hS => ?_)
          have hP : va_P (dC, dI) vwCl [(o, .inr (3, [.ref o_kinds, .ref o_holds, .ref o_takes, .ref o_shareCounts, .ref o_shares, .int vo_size])), (o_shareCounts, .inl (cI, 9, .inl vo_shareCounts)), (o_shares, .inl (cI, 27, .inl vo_shares))] H := hP
          have hD : va_D A [(o, .inr (3, [.ref o_kinds, .ref o_holds, .ref o_takes, .ref o_shareCounts, .ref o_shares, .int vo_size])), (o_shareCounts, .inl (cI, 9, .inl vo_shareCounts)), (o_shares, .inl (cI, 27, .inl vo_shares))] := hD
          refine lv_istore_n (lv' := [(3, .int r5), (2, .int b3), (1, .int b1), (0, .ref o)]) hx hb dX3_hasAllShares_28 rfl hl (by decide) rfl (fun ls hl => ?_)
          refine lv_iload_n hx hb dX3_hasAllShares_29 rfl (lv_at hl 0 rfl) ?_
          refine lv_bipush (v := (9 : Int32)) hx hb dX3_hasAllShares_30 (by decide) ?_
          refine lv_icmp_eq (tgt := 45) hx hb dX3_hasAllShares_32 (by decide) (fun c_7 => ?_) (fun c_7 => ?_)
          · replace hT := cutT c_7 hT
            have g_19 := zeqT (rfl : (r5).toInt = _) (by decide : ((9 : Int32)).toInt = 9) c_7
            obtain ⟨v6, ev6⟩ : ∃ y : Int32, (b3 + (1 : Int32)) = y := ⟨_, rfl⟩
            replace hT := cut_n ev6 hT
            try have fv6 := zaddE (rfl : (b3).toInt = _) (by decide : ((1 : Int32)).toInt = 1) ev6 (by omega) (by omega)
            refine lv_iinc (v := v6) (lv' := [(2, .int v6), (3, .int r5), (1, .int b1), (0, .ref o)]) hx hb dX3_hasAllShares_45 hl (k := 1) rfl (by rw [← ev6]; rfl) (by decide) rfl (fun ls hl => ?_)
            refine lv_goto (tgt := 12) hx hb dX3_hasAllShares_48 (by decide) ?_
            exact ih6 v6 _ _ _ ⟨(by omega : 0 ≤ v6.toInt), (by omega : v6.toInt ≤ 3), (by omega : 3 - v6.toInt < ((k6 : Nat) : Int)), hT, hP.sub [0, 1, 2] rfl, hD.sub [0, 1, 2] rfl rfl, hS, lv_sub hl [0, 2, 3] rfl⟩
          · replace hT := cutF c_7 hT
            have g_20 := zeqF (rfl : (r5).toInt = _) (by decide : ((9 : Int32)).toInt = 9) c_7
            refine lv_aload_n hx hb dX3_hasAllShares_35 rfl (lv_at hl 3 rfl) ?_
            refine lv_iload_n hx hb dX3_hasAllShares_36 rfl (lv_at hl 0 rfl) ?_
            obtain ⟨r7, ev_8⟩ : ∃ x0, (m_X3_has vo_size r5) = x0 := ⟨_, rfl⟩
            replace hT := cut_n ev_8 hT
            refine zz_ci [0] [1, 2] (wr := [(o_shareCounts, .inl (cI, 9, .inl vo_shareCounts)), (o_shares, .inl (cI, 27, .inl vo_shares))]) (w1 := [(o, .inr (3, [.ref o_kinds, .ref o_holds, .ref o_takes, .ref o_shareCounts, .ref o_shares, .int vo_size]))]) (va_runV (As := [.int r5]) (rest := []) ⟨hx, hb, hml, hown, hts⟩ (k_X3_has l dC dI cI cJ cC H.size o o_kinds o_holds o_takes o_shareCounts o_shares vo_size r5 r7 ev_8) (cwV 1 hts gX3_hasAllShares_X3_has rfl rfl rfl (by decide +kernel) ⟨Nat.le_of_ble_eq_true rfl, Nat.le_of_ble_eq_true rfl⟩) (zz_preV [0] hK hP hD rfl rfl (va_recv hK hP (ci := 3) (q0 := 0) rfl rfl)) rfl rfl hl.1 rfl (lv_room (Nat.le_of_ble_eq_true rfl)) dX3_hasAllShares_37 ⟨Nat.zero_le _, Nat.zero_le _⟩) hP hD hS hA rfl rfl rfl (by decide) (fun ok_9 H locs hP hD hS => ?_)
            have hP : va_P (dC, dI) vwCl [(o_shareCounts, .inl (cI, 9, .inl vo_shareCounts)), (o_shares, .inl (cI, 27, .inl vo_shares)), (o, .inr (3, [.ref o_kinds, .ref o_holds, .ref o_takes, .ref o_shareCounts, .ref o_shares, .int vo_size]))] H := hP
            have hD : va_D A [(o_shareCounts, .inl (cI, 9, .inl vo_shareCounts)), (o_shares, .inl (cI, 27, .inl vo_shares)), (o, .inr (3, [.ref o_kinds, .ref o_holds, .ref o_takes, .ref o_shareCounts, .ref o_shares, .int vo_size]))] := hD
            obtain ⟨k_10, k_11⟩ := ok_9
            refine lv_if_ne (tgt := 45) hx hb dX3_hasAllShares_40 (by decide) (fun c_12 => ?_) (fun c_12 => ?_)
            · replace hT := cutF c_12 hT
              have g_21 := zeqF (rfl : (r7).toInt = _) (by decide : ((0 : Int32)).toInt = 0) c_12
              obtain ⟨v8, ev8⟩ : ∃ y : Int32, (b3 + (1 : Int32)) = y := ⟨_, rfl⟩
              replace hT := cut_n ev8 hT
              try have fv8 := zaddE (rfl : (b3).toInt = _) (by decide : ((1 : Int32)).toInt = 1) ev8 (by omega) (by omega)
              refine lv_iinc (v := v8) (lv' := [(2, .int v8), (3, .int r5), (1, .int b1), (0, .ref o)]) hx hb dX3_hasAllShares_45 hl (k := 1) rfl (by rw [← ev8]; rfl) (by decide) rfl (fun ls hl => ?_)
              refine lv_goto (tgt := 12) hx hb dX3_hasAllShares_48 (by decide) ?_
              exact ih6 v8 _ _ _ ⟨(by omega : 0 ≤ v8.toInt), (by omega : v8.toInt ≤ 3), (by omega : 3 - v8.toInt < ((k6 : Nat) : Int)), hT, hP.sub [2, 0, 1] rfl, hD.sub [2, 0, 1] rfl rfl, hS, lv_sub hl [0, 2, 3] rfl⟩
            · replace hT := cutT c_12 hT
              have g_22 := zeqT (rfl : (r7).toInt = _) (by decide : ((0 : Int32)).toInt = 0) c_12
              refine lv_iconst (v := (0 : Int32)) hx hb dX3_hasAllShares_43 (by decide) ?_
              have hP9 := hP
              have hD9 := hD
              have hS9 := hS
              have hT : (0 : Int32) = r := hT
              subst hT
              subst hQ
              exact zz_zret hx hb hr rfl [2, 0, 1] hK hP9 hD9 hS9 rfl rfl (Or.inl rfl) hlocks dX3_hasAllShares_44

def m_X3_exchangeIn (vp1 : Nat → Int32) (p2 : Int32) (p3 : Int32) : (Nat → Int32) :=
 cut (vp1 p2.toNatClampNeg) (fun (v1 : Int32) =>
 cut (upd vp1 p2.toNatClampNeg (vp1 p3.toNatClampNeg)) (fun (a2 : Nat → Int32) =>
 cut (upd a2 p3.toNatClampNeg v1) (fun (a3 : Nat → Int32) =>
 a3)))
set_option maxHeartbeats 4000000 in
set_option maxRecDepth 100000 in
theorem k_X3_exchangeIn (l : Launch) (dC : Nat → ClassId) (dI : Nat → Nat → Nat) (cI cJ cC : ClassId) (sz : Nat) (p1 : Nat) (vp1 : Nat → Int32) (p2 : Int32) (p3 : Int32) (qp1 : Nat → Int32) (hT : m_X3_exchangeIn vp1 p2 p3 = qp1) (h1 : 0 ≤ p2.toInt) (h2 : p2.toInt < 9) (h3 : 0 ≤ p3.toInt) (h4 : p3.toInt < 9) : Met l yX3_exchangeIn wsX3_exchangeIn ({ frames := 0, cells := 0, slots := 0, locals := 0 }) (zPc [.ref p1, .int p2, .int p3] (dC, dI) (zTy cI cJ cC) [(p1, .inl (cI, 9, .inl vp1))] sz) (zQv (True) (dC, dI) (zTy cI cJ cC) [(p1, .inl (cI, 9, .inl qp1))] (va_A [(p1, .inl (cI, 9, .inl vp1))] sz)) 0 0 (va_A [(p1, .inl (cI, 9, .inl vp1))] sz) := by
  refine Met.ofW (cc := cX3_exchangeIn) (maxL := 4) (ret := none) (by decide) rfl ?_
  intro p e s m args below meth c s₁ B hml hv
  obtain ⟨rfl, hsz, hP, hK, hD0⟩ := hv
  have hx := B.exec
  have hb := B.bytes
  have hr := B.returns
  have hts := atoms_spec (ws := wsX3_exchangeIn) B.pre
  have hown : s.vm.findClass RX3 = some m.cls := findClass_of_methodNamed B.named
  have hlocks := B.notSynchronized
  subst hsz
  have hD := hD0.self (sz := s.heap.size)
  generalize hAe : va_A [(p1, .inl (cI, 9, .inl vp1))] s.heap.size = A at hD ⊢
  have hA : ∀ q : Nat, s.heap.size ≤ q → A q := fun q h => by rw [← hAe]; exact Or.inr h
  have hS : va_S A s.heap s.heap [] := va_S.rf
  have hP : va_P (dC, dI) vwCl [(p1, .inl (cI, 9, .inl vp1))] s.heap := hP
  have hK : va_K (dC, dI) vwCl (zTy cI cJ cC) s := hK
  have hl := lv_entry ([.ref p1, .int p2, .int p3]) (n := 4) (Nat.le_of_ble_eq_true rfl)
  rw [lg_entry_eq]
  generalize (lg_sl ([.ref p1, .int p2, .int p3]) ++ List.replicate (4 - (lg_sl ([.ref p1, .int p2, .int p3])).length) Slot.unset).toArray = ls at hl ⊢
  have hl : lv_has ls 4 [(0, .ref p1), (1, .int p2), (2, .int p3)] := hl
  refine zz_start hP hS (fun Q hQ H locs hP hS => ?_)
  refine lv_aload_n hx hb dX3_exchangeIn_0 rfl (lv_at hl 0 rfl) ?_
  refine lv_iload_n hx hb dX3_exchangeIn_1 rfl (lv_at hl 1 rfl) ?_
  have h_1 : vp_in p2 9 := zin (by omega) (by omega)
  refine va_iald hx hb hK hP 0 0 rfl rfl h_1 dX3_exchangeIn_2 ?_
  refine lv_topi (fun v1 ev1 => ?_)
  replace hT := cut_n ev1.symm hT
  have fv1 : (v1).toInt = (vp1 p2.toNatClampNeg).toInt := by rw [ev1]
  refine lv_istore_n (lv' := [(3, .int v1), (0, .ref p1), (1, .int p2), (2, .int p3)]) hx hb dX3_exchangeIn_3 rfl hl (by decide) rfl (fun ls hl => ?_)
  refine lv_aload_n hx hb dX3_exchangeIn_4 rfl (lv_at hl 1 rfl) ?_
  refine lv_iload_n hx hb dX3_exchangeIn_5 rfl (lv_at hl 2 rfl) ?_
  refine lv_aload_n hx hb dX3_exchangeIn_6 rfl (lv_at hl 1 rfl) ?_
  refine lv_iload_n hx hb dX3_exchangeIn_7 rfl (lv_at hl 3 rfl) ?_
  have h_2 : vp_in p3 9 := zin (by omega) (by omega)
  refine va_iald hx hb hK hP 0 0 rfl rfl h_2 dX3_exchangeIn_8 ?_
  have h_3 : vp_in p2 9 := zin (by omega) (by omega)
  refine va_iast hx hb hK hP hD hS 0 0 rfl rfl h_3 dX3_exchangeIn_9 (fun H locs hP hD hS => ?_)
  obtain ⟨a2, ea2⟩ : ∃ z, (upd vp1 p2.toNatClampNeg (vp1 p3.toNatClampNeg)) = z := ⟨_, rfl⟩
  replace hT := cut_n ea2 hT
  have hP : va_P (dC, dI) vwCl [(p1, .inl (cI, 9, .inl a2))] H := by rw [← ea2]; exact hP
  have hD : va_D A [(p1, .inl (cI, 9, .inl a2))] := by rw [← ea2]; exact hD
  refine lv_aload_n hx hb dX3_exchangeIn_10 rfl (lv_at hl 1 rfl) ?_
  refine lv_iload_n hx hb dX3_exchangeIn_11 rfl (lv_at hl 3 rfl) ?_
  refine lv_iload_n hx hb dX3_exchangeIn_12 rfl (lv_at hl 0 rfl) ?_
  have h_4 : vp_in p3 9 := zin (by omega) (by omega)
  refine va_iast hx hb hK hP hD hS 0 0 rfl rfl h_4 dX3_exchangeIn_13 (fun H locs hP hD hS => ?_)
  obtain ⟨a3, ea3⟩ : ∃ z, (upd a2 p3.toNatClampNeg v1) = z := ⟨_, rfl⟩
  replace hT := cut_n ea3 hT
  have hP : va_P (dC, dI) vwCl [(p1, .inl (cI, 9, .inl a3))] H := by rw [← ea3]; exact hP
  have hD : va_D A [(p1, .inl (cI, 9, .inl a3))] := by rw [← ea3]; exact hD
  have hP9 := hP
  have hD9 := hD
  have hS9 := hS
  have hT : a3 = qp1 := hT
  subst hT
  subst hQ
  exact zz_vret hx hb hr [0] hK hP9 hD9 hS9 rfl rfl trivial hlocks dX3_exchangeIn_14

def m_X3_exchange (vo_size : Int32) (vo_kinds : Nat → Int32) (vo_holds : Nat → Int32) (vo_takes : Nat → Int32) (p1 : Int32) (p2 : Int32) : (Nat → Int32) × (Nat → Int32) × (Nat → Int32) :=
 cut (m_X3_has vo_size p1) (fun (r1 : Int32) =>
 if r1 = (0 : Int32) then
  (vo_kinds, vo_holds, vo_takes)
 else
  cut (m_X3_has vo_size p2) (fun (r2 : Int32) =>
  if r2 = (0 : Int32) then
   (vo_kinds, vo_holds, vo_takes)
  else
   cut (m_X3_exchangeIn vo_kinds p1 p2) (fun (u3 : Nat → Int32) =>
   cut (m_X3_exchangeIn vo_holds p1 p2) (fun (u4 : Nat → Int32) =>
   cut (m_X3_exchangeIn vo_takes p1 p2) (fun (u5 : Nat → Int32) =>
   (u3, u4, u5))))))
set_option maxHeartbeats 4000000 in
set_option maxRecDepth 100000 in
theorem k_X3_exchange (l : Launch) (dC : Nat → ClassId) (dI : Nat → Nat → Nat) (cI cJ cC : ClassId) (sz : Nat) (o o_kinds o_holds o_takes o_shareCounts o_shares : Nat) (vo_size : Int32) (vo_kinds : Nat → Int32) (vo_holds : Nat → Int32) (vo_takes : Nat → Int32) (p1 : Int32) (p2 : Int32) (qo_kinds : Nat → Int32) (qo_holds : Nat → Int32) (qo_takes : Nat → Int32) (hT : m_X3_exchange vo_size vo_kinds vo_holds vo_takes p1 p2 = (qo_kinds, qo_holds, qo_takes)) (hs9 : vo_size.toInt ≤ 9) : Met l yX3_exchange wsX3_exchange ({ frames := 1, cells := 0, slots := 0, locals := 23 }) (zPc [.ref o, .int p1, .int p2] (dC, dI) (zTy cI cJ cC) [(o, .inr (3, [.ref o_kinds, .ref o_holds, .ref o_takes, .ref o_shareCounts, .ref o_shares, .int vo_size])), (o_kinds, .inl (cI, 9, .inl vo_kinds)), (o_holds, .inl (cI, 9, .inl vo_holds)), (o_takes, .inl (cI, 9, .inl vo_takes))] sz) (zQv (True) (dC, dI) (zTy cI cJ cC) [(o, .inr (3, [.ref o_kinds, .ref o_holds, .ref o_takes, .ref o_shareCounts, .ref o_shares, .int vo_size])), (o_kinds, .inl (cI, 9, .inl qo_kinds)), (o_holds, .inl (cI, 9, .inl qo_holds)), (o_takes, .inl (cI, 9, .inl qo_takes))] (va_A [(o, .inr (3, [.ref o_kinds, .ref o_holds, .ref o_takes, .ref o_shareCounts, .ref o_shares, .int vo_size])), (o_kinds, .inl (cI, 9, .inl vo_kinds)), (o_holds, .inl (cI, 9, .inl vo_holds)), (o_takes, .inl (cI, 9, .inl vo_takes))] sz)) 0 0 (va_A [(o, .inr (3, [.ref o_kinds, .ref o_holds, .ref o_takes, .ref o_shareCounts, .ref o_shares, .int vo_size])), (o_kinds, .inl (cI, 9, .inl vo_kinds)), (o_holds, .inl (cI, 9, .inl vo_holds)), (o_takes, .inl (cI, 9, .inl vo_takes))] sz) := by
  refine Met.ofW (cc := cX3_exchange) (maxL := 3) (ret := none) (by decide) rfl ?_
  intro p e s m args below meth c s₁ B hml hv
  obtain ⟨rfl, hsz, hP, hK, hD0⟩ := hv
  have hx := B.exec
  have hb := B.bytes
  have hr := B.returns
  have hts := atoms_spec (ws := wsX3_exchange) B.pre
  have hown : s.vm.findClass RX3 = some m.cls := findClass_of_methodNamed B.named
  have hlocks := B.notSynchronized
  subst hsz
  have hD := hD0.self (sz := s.heap.size)
  generalize hAe : va_A [(o, .inr (3, [.ref o_kinds, .ref o_holds, .ref o_takes, .ref o_shareCounts, .ref o_shares, .int vo_size])), (o_kinds, .inl (cI, 9, .inl vo_kinds)), (o_holds, .inl (cI, 9, .inl vo_holds)), (o_takes, .inl (cI, 9, .inl vo_takes))] s.heap.size = A at hD ⊢
  have hA : ∀ q : Nat, s.heap.size ≤ q → A q := fun q h => by rw [← hAe]; exact Or.inr h
  have hS : va_S A s.heap s.heap [] := va_S.rf
  have hP : va_P (dC, dI) vwCl [(o, .inr (3, [.ref o_kinds, .ref o_holds, .ref o_takes, .ref o_shareCounts, .ref o_shares, .int vo_size])), (o_kinds, .inl (cI, 9, .inl vo_kinds)), (o_holds, .inl (cI, 9, .inl vo_holds)), (o_takes, .inl (cI, 9, .inl vo_takes))] s.heap := hP
  have hK : va_K (dC, dI) vwCl (zTy cI cJ cC) s := hK
  have hl := lv_entry ([.ref o, .int p1, .int p2]) (n := 3) (Nat.le_of_ble_eq_true rfl)
  rw [lg_entry_eq]
  generalize (lg_sl ([.ref o, .int p1, .int p2]) ++ List.replicate (3 - (lg_sl ([.ref o, .int p1, .int p2])).length) Slot.unset).toArray = ls at hl ⊢
  have hl : lv_has ls 3 [(0, .ref o), (1, .int p1), (2, .int p2)] := hl
  refine zz_start hP hS (fun Q hQ H locs hP hS => ?_)
  have hwX3 : ∀ w ∈ u_ws RX3 TX3 6, w ∈ wsX3_exchange := by decide +kernel
  have hf_15 := (hts (.fieldLink RX3 15 "PouredTopmost$Stand" "holds" "[I") (by decide +kernel))
  have hf_18 := (hts (.fieldLink RX3 18 "PouredTopmost$Stand" "takes" "[I") (by decide +kernel))
  have hf_9 := (hts (.fieldLink RX3 9 "PouredTopmost$Stand" "kinds" "[I") (by decide +kernel))
  refine lv_aload_n hx hb dX3_exchange_0 rfl (lv_at hl 0 rfl) ?_
  refine lv_iload_n hx hb dX3_exchange_1 rfl (lv_at hl 1 rfl) ?_
  obtain ⟨r1, ev_1⟩ : ∃ x0, (m_X3_has vo_size p1) = x0 := ⟨_, rfl⟩
  replace hT := cut_n ev_1 hT
  refine zz_ci [0] [1, 2, 3] (wr := [(o_kinds, .inl (cI, 9, .inl vo_kinds)), (o_holds, .inl (cI, 9, .inl vo_holds)), (o_takes, .inl (cI, 9, .inl vo_takes))]) (w1 := [(o, .inr (3, [.ref o_kinds, .ref o_holds, .ref o_takes, .ref o_shareCounts, .ref o_shares, .int vo_size]))]) (va_runV (As := [.int p1]) (rest := []) ⟨hx, hb, hml, hown, hts⟩ (k_X3_has l dC dI cI cJ cC H.size o o_kinds o_holds o_takes o_shareCounts o_shares vo_size p1 r1 ev_1) (cwV 1 hts gX3_exchange_X3_has rfl rfl rfl (by decide +kernel) ⟨Nat.le_of_ble_eq_true rfl, Nat.le_of_ble_eq_true rfl⟩) (zz_preV [0] hK hP hD rfl rfl (va_recv hK hP (ci := 3) (q0 := 0) rfl rfl)) rfl rfl hl.1 rfl (lv_room (Nat.le_of_ble_eq_true rfl)) dX3_exchange_2 ⟨Nat.zero_le _, Nat.zero_le _⟩) hP hD hS hA rfl rfl rfl (by decide) (fun ok_2 H locs hP hD hS => ?_)
  have hP : va_P (dC, dI) vwCl [(o_kinds, .inl (cI, 9, .inl vo_kinds)), (o_holds, .inl (cI, 9, .inl vo_holds)), (o_takes, .inl (cI, 9, .inl vo_takes)), (o, .inr (3, [.ref o_kinds, .ref o_holds, .ref o_takes, .ref o_shareCounts, .ref o_shares, .int vo_size]))] H := hP
  have hD : va_D A [(o_kinds, .inl (cI, 9, .inl vo_kinds)), (o_holds, .inl (cI, 9, .inl vo_holds)), (o_takes, .inl (cI, 9, .inl vo_takes)), (o, .inr (3, [.ref o_kinds, .ref o_holds, .ref o_takes, .ref o_shareCounts, .ref o_shares, .int vo_size]))] := hD
  obtain ⟨k_3, k_4⟩ := ok_2
  refine lv_if_eq (tgt := 43) hx hb dX3_exchange_5 (by decide) (fun c_5 => ?_) (fun c_5 => ?_)
  · replace hT := cutT c_5 hT
    have g_17 := zeqT (rfl : (r1).toInt = _) (by decide : ((0 : Int32)).toInt = 0) c_5
    have hP9 := hP
    have hD9 := hD
    have hS9 := hS
    have hT : (vo_kinds, vo_holds, vo_takes) = (qo_kinds, qo_holds, qo_takes) := hT
    cases hT
    subst hQ
    exact zz_vret hx hb hr [3, 0, 1, 2] hK hP9 hD9 hS9 rfl rfl trivial hlocks dX3_exchange_43
  · replace hT := cutF c_5 hT
    have g_18 := zeqF (rfl : (r1).toInt = _) (by decide : ((0 : Int32)).toInt = 0) c_5
    refine lv_aload_n hx hb dX3_exchange_8 rfl (lv_at hl 0 rfl) ?_
    refine lv_iload_n hx hb dX3_exchange_9 rfl (lv_at hl 2 rfl) ?_
    obtain ⟨r2, ev_6⟩ : ∃ x0, (m_X3_has vo_size p2) = x0 := ⟨_, rfl⟩
    replace hT := cut_n ev_6 hT
    refine zz_ci [3] [0, 1, 2] (wr := [(o_kinds, .inl (cI, 9, .inl vo_kinds)), (o_holds, .inl (cI, 9, .inl vo_holds)), (o_takes, .inl (cI, 9, .inl vo_takes))]) (w1 := [(o, .inr (3, [.ref o_kinds, .ref o_holds, .ref o_takes, .ref o_shareCounts, .ref o_shares, .int vo_size]))]) (va_runV (As := [.int p2]) (rest := []) ⟨hx, hb, hml, hown, hts⟩ (k_X3_has l dC dI cI cJ cC H.size o o_kinds o_holds o_takes o_shareCounts o_shares vo_size p2 r2 ev_6) (cwV 1 hts gX3_exchange_X3_has rfl rfl rfl (by decide +kernel) ⟨Nat.le_of_ble_eq_true rfl, Nat.le_of_ble_eq_true rfl⟩) (zz_preV [3] hK hP hD rfl rfl (va_recv hK hP (ci := 3) (q0 := 3) rfl rfl)) rfl rfl hl.1 rfl (lv_room (Nat.le_of_ble_eq_true rfl)) dX3_exchange_10 ⟨Nat.zero_le _, Nat.zero_le _⟩) hP hD hS hA rfl rfl rfl (by decide) (fun ok_7 H locs hP hD hS => ?_)
    have hP : va_P (dC, dI) vwCl [(o_kinds, .inl (cI, 9, .inl vo_kinds)), (o_holds, .inl (cI, 9, .inl vo_holds)), (o_takes, .inl (cI, 9, .inl vo_takes)), (o, .inr (3, [.ref o_kinds, .ref o_holds, .ref o_takes, .ref o_shareCounts, .ref o_shares, .int vo_size]))] H := hP
    have hD : va_D A [(o_kinds, .inl (cI, 9, .inl vo_kinds)), (o_holds, .inl (cI, 9, .inl vo_holds)), (o_takes, .inl (cI, 9, .inl vo_takes)), (o, .inr (3, [.ref o_kinds, .ref o_holds, .ref o_takes, .ref o_shareCounts, .ref o_shares, .int vo_size]))] := hD
    obtain ⟨k_8, k_9⟩ := ok_7
    refine lv_if_eq (tgt := 43) hx hb dX3_exchange_13 (by decide) (fun c_10 => ?_) (fun c_10 => ?_)
    · replace hT := cutT c_10 hT
      have g_19 := zeqT (rfl : (r2).toInt = _) (by decide : ((0 : Int32)).toInt = 0) c_10
      have hP9 := hP
      have hD9 := hD
      have hS9 := hS
      have hT : (vo_kinds, vo_holds, vo_takes) = (qo_kinds, qo_holds, qo_takes) := hT
      cases hT
      subst hQ
      exact zz_vret hx hb hr [3, 0, 1, 2] hK hP9 hD9 hS9 rfl rfl trivial hlocks dX3_exchange_43
    · replace hT := cutF c_10 hT
      have g_20 := zeqF (rfl : (r2).toInt = _) (by decide : ((0 : Int32)).toInt = 0) c_10
      refine lv_aload_n hx hb dX3_exchange_16 rfl (lv_at hl 0 rfl) ?_
      refine va_get (D := (dC, dI)) (ci := 3) (v := .ref o_kinds) (C := RX3) (T := TX3) (N := 6) hx hb hts hwX3 hown hK hP 3 rfl rfl 0 (by decide) hf_9 (fun _ h9 => h9) rfl dX3_exchange_17 ?_
      refine lv_iload_n hx hb dX3_exchange_20 rfl (lv_at hl 1 rfl) ?_
      refine lv_iload_n hx hb dX3_exchange_21 rfl (lv_at hl 2 rfl) ?_
      obtain ⟨u3, ev_11⟩ : ∃ x0, (m_X3_exchangeIn vo_kinds p1 p2) = x0 := ⟨_, rfl⟩
      replace hT := cut_n ev_11 hT
      refine zz_cv [0] [1, 2, 3] (wr := [(o_holds, .inl (cI, 9, .inl vo_holds)), (o_takes, .inl (cI, 9, .inl vo_takes)), (o, .inr (3, [.ref o_kinds, .ref o_holds, .ref o_takes, .ref o_shareCounts, .ref o_shares, .int vo_size]))]) (w1 := [(o_kinds, .inl (cI, 9, .inl u3))]) (va_runS (As := [.ref o_kinds, .int p1, .int p2]) (rest := []) ⟨hx, hb, hml, hown, hts⟩ (k_X3_exchangeIn l dC dI cI cJ cC H.size o_kinds vo_kinds p1 p2 u3 ev_11 (by first | omega | decide) (by first | omega | decide) (by first | omega | decide) (by first | omega | decide)) (va_cwS 3 hts gX3_exchange_X3_exchangeIn rfl rfl rfl (by decide +kernel) ⟨Nat.le_of_ble_eq_true rfl, Nat.le_of_ble_eq_true rfl⟩) (zz_preS [0] hK hP hD rfl rfl) rfl rfl hl.1 rfl (lv_room (Nat.le_of_ble_eq_true rfl)) dX3_exchange_22 ⟨Nat.zero_le _, Nat.zero_le _⟩) hP hD hS hA rfl rfl rfl (by decide) (fun ok_12 H locs hP hD hS => ?_)
      have hP : va_P (dC, dI) vwCl [(o_holds, .inl (cI, 9, .inl vo_holds)), (o_takes, .inl (cI, 9, .inl vo_takes)), (o, .inr (3, [.ref o_kinds, .ref o_holds, .ref o_takes, .ref o_shareCounts, .ref o_shares, .int vo_size])), (o_kinds, .inl (cI, 9, .inl u3))] H := hP
      have hD : va_D A [(o_holds, .inl (cI, 9, .inl vo_holds)), (o_takes, .inl (cI, 9, .inl vo_takes)), (o, .inr (3, [.ref o_kinds, .ref o_holds, .ref o_takes, .ref o_shareCounts, .ref o_shares, .int vo_size])), (o_kinds, .inl (cI, 9, .inl u3))] := hD
      refine lv_aload_n hx hb dX3_exchange_25 rfl (lv_at hl 0 rfl) ?_
      refine va_get (D := (dC, dI)) (ci := 3) (v := .ref o_holds) (C := RX3) (T := TX3) (N := 6) hx hb hts hwX3 hown hK hP 2 rfl rfl 1 (by decide) hf_15 (fun _ h9 => h9) rfl dX3_exchange_26 ?_
      refine lv_iload_n hx hb dX3_exchange_29 rfl (lv_at hl 1 rfl) ?_
      refine lv_iload_n hx hb dX3_exchange_30 rfl (lv_at hl 2 rfl) ?_
      obtain ⟨u4, ev_13⟩ : ∃ x0, (m_X3_exchangeIn vo_holds p1 p2) = x0 := ⟨_, rfl⟩
      replace hT := cut_n ev_13 hT
      refine zz_cv [0] [1, 2, 3] (wr := [(o_takes, .inl (cI, 9, .inl vo_takes)), (o, .inr (3, [.ref o_kinds, .ref o_holds, .ref o_takes, .ref o_shareCounts, .ref o_shares, .int vo_size])), (o_kinds, .inl (cI, 9, .inl u3))]) (w1 := [(o_holds, .inl (cI, 9, .inl u4))]) (va_runS (As := [.ref o_holds, .int p1, .int p2]) (rest := []) ⟨hx, hb, hml, hown, hts⟩ (k_X3_exchangeIn l dC dI cI cJ cC H.size o_holds vo_holds p1 p2 u4 ev_13 (by first | omega | decide) (by first | omega | decide) (by first | omega | decide) (by first | omega | decide)) (va_cwS 3 hts gX3_exchange_X3_exchangeIn rfl rfl rfl (by decide +kernel) ⟨Nat.le_of_ble_eq_true rfl, Nat.le_of_ble_eq_true rfl⟩) (zz_preS [0] hK hP hD rfl rfl) rfl rfl hl.1 rfl (lv_room (Nat.le_of_ble_eq_true rfl)) dX3_exchange_31 ⟨Nat.zero_le _, Nat.zero_le _⟩) hP hD hS hA rfl rfl rfl (by decide) (fun ok_14 H locs hP hD hS => ?_)
      have hP : va_P (dC, dI) vwCl [(o_takes, .inl (cI, 9, .inl vo_takes)), (o, .inr (3, [.ref o_kinds, .ref o_holds, .ref o_takes, .ref o_shareCounts, .ref o_shares, .int vo_size])), (o_kinds, .inl (cI, 9, .inl u3)), (o_holds, .inl (cI, 9, .inl u4))] H := hP
      have hD : va_D A [(o_takes, .inl (cI, 9, .inl vo_takes)), (o, .inr (3, [.ref o_kinds, .ref o_holds, .ref o_takes, .ref o_shareCounts, .ref o_shares, .int vo_size])), (o_kinds, .inl (cI, 9, .inl u3)), (o_holds, .inl (cI, 9, .inl u4))] := hD
      refine lv_aload_n hx hb dX3_exchange_34 rfl (lv_at hl 0 rfl) ?_
      refine va_get (D := (dC, dI)) (ci := 3) (v := .ref o_takes) (C := RX3) (T := TX3) (N := 6) hx hb hts hwX3 hown hK hP 1 rfl rfl 2 (by decide) hf_18 (fun _ h9 => h9) rfl dX3_exchange_35 ?_
      refine lv_iload_n hx hb dX3_exchange_38 rfl (lv_at hl 1 rfl) ?_
      refine lv_iload_n hx hb dX3_exchange_39 rfl (lv_at hl 2 rfl) ?_
      obtain ⟨u5, ev_15⟩ : ∃ x0, (m_X3_exchangeIn vo_takes p1 p2) = x0 := ⟨_, rfl⟩
      replace hT := cut_n ev_15 hT
      refine zz_cv [0] [1, 2, 3] (wr := [(o, .inr (3, [.ref o_kinds, .ref o_holds, .ref o_takes, .ref o_shareCounts, .ref o_shares, .int vo_size])), (o_kinds, .inl (cI, 9, .inl u3)), (o_holds, .inl (cI, 9, .inl u4))]) (w1 := [(o_takes, .inl (cI, 9, .inl u5))]) (va_runS (As := [.ref o_takes, .int p1, .int p2]) (rest := []) ⟨hx, hb, hml, hown, hts⟩ (k_X3_exchangeIn l dC dI cI cJ cC H.size o_takes vo_takes p1 p2 u5 ev_15 (by first | omega | decide) (by first | omega | decide) (by first | omega | decide) (by first | omega | decide)) (va_cwS 3 hts gX3_exchange_X3_exchangeIn rfl rfl rfl (by decide +kernel) ⟨Nat.le_of_ble_eq_true rfl, Nat.le_of_ble_eq_true rfl⟩) (zz_preS [0] hK hP hD rfl rfl) rfl rfl hl.1 rfl (lv_room (Nat.le_of_ble_eq_true rfl)) dX3_exchange_40 ⟨Nat.zero_le _, Nat.zero_le _⟩) hP hD hS hA rfl rfl rfl (by decide) (fun ok_16 H locs hP hD hS => ?_)
      have hP : va_P (dC, dI) vwCl [(o, .inr (3, [.ref o_kinds, .ref o_holds, .ref o_takes, .ref o_shareCounts, .ref o_shares, .int vo_size])), (o_kinds, .inl (cI, 9, .inl u3)), (o_holds, .inl (cI, 9, .inl u4)), (o_takes, .inl (cI, 9, .inl u5))] H := hP
      have hD : va_D A [(o, .inr (3, [.ref o_kinds, .ref o_holds, .ref o_takes, .ref o_shareCounts, .ref o_shares, .int vo_size])), (o_kinds, .inl (cI, 9, .inl u3)), (o_holds, .inl (cI, 9, .inl u4)), (o_takes, .inl (cI, 9, .inl u5))] := hD
      have hP9 := hP
      have hD9 := hD
      have hS9 := hS
      have hT : (u3, u4, u5) = (qo_kinds, qo_holds, qo_takes) := hT
      cases hT
      subst hQ
      exact zz_vret hx hb hr [0, 1, 2, 3] hK hP9 hD9 hS9 rfl rfl trivial hlocks dX3_exchange_43

def m_X3_copyFrom (vo_kinds : Nat → Int32) (vo_holds : Nat → Int32) (vo_takes : Nat → Int32) (vo_shareCounts : Nat → Int32) (vo_shares : Nat → Int32) (vp1_size : Int32) (vp1_kinds : Nat → Int32) (vp1_holds : Nat → Int32) (vp1_takes : Nat → Int32) (vp1_shareCounts : Nat → Int32) (vp1_shares : Nat → Int32) : Int32 × (Nat → Int32) × (Nat → Int32) × (Nat → Int32) × (Nat → Int32) × (Nat → Int32) :=
 cut (va_cpy vp1_kinds vo_kinds (0 : Int32).toNatClampNeg (0 : Int32).toNatClampNeg (9 : Int32).toNatClampNeg) (fun (a1 : Nat → Int32) =>
 cut (va_cpy vp1_holds vo_holds (0 : Int32).toNatClampNeg (0 : Int32).toNatClampNeg (9 : Int32).toNatClampNeg) (fun (a2 : Nat → Int32) =>
 cut (va_cpy vp1_takes vo_takes (0 : Int32).toNatClampNeg (0 : Int32).toNatClampNeg (9 : Int32).toNatClampNeg) (fun (a3 : Nat → Int32) =>
 cut (va_cpy vp1_shareCounts vo_shareCounts (0 : Int32).toNatClampNeg (0 : Int32).toNatClampNeg (9 : Int32).toNatClampNeg) (fun (a4 : Nat → Int32) =>
 cut (va_cpy vp1_shares vo_shares (0 : Int32).toNatClampNeg (0 : Int32).toNatClampNeg (27 : Int32).toNatClampNeg) (fun (a5 : Nat → Int32) =>
 (vp1_size, a1, a2, a3, a4, a5))))))
set_option maxHeartbeats 4000000 in
set_option maxRecDepth 100000 in
theorem k_X3_copyFrom (l : Launch) (dC : Nat → ClassId) (dI : Nat → Nat → Nat) (cI cJ cC : ClassId) (sz : Nat) (o o_kinds o_holds o_takes o_shareCounts o_shares p1 p1_kinds p1_holds p1_takes p1_shareCounts p1_shares : Nat) (vo_size : Int32) (vo_kinds : Nat → Int32) (vo_holds : Nat → Int32) (vo_takes : Nat → Int32) (vo_shareCounts : Nat → Int32) (vo_shares : Nat → Int32) (vp1_size : Int32) (vp1_kinds : Nat → Int32) (vp1_holds : Nat → Int32) (vp1_takes : Nat → Int32) (vp1_shareCounts : Nat → Int32) (vp1_shares : Nat → Int32) (qo_size : Int32) (qo_kinds : Nat → Int32) (qo_holds : Nat → Int32) (qo_takes : Nat → Int32) (qo_shareCounts : Nat → Int32) (qo_shares : Nat → Int32) (hT : m_X3_copyFrom vo_kinds vo_holds vo_takes vo_shareCounts vo_shares vp1_size vp1_kinds vp1_holds vp1_takes vp1_shareCounts vp1_shares = (qo_size, qo_kinds, qo_holds, qo_takes, qo_shareCounts, qo_shares)) (hscp : zSc vp1_shareCounts) (hsc : zSc vo_shareCounts) : Met l yX3_copyFrom wsX3_copyFrom ({ frames := 1, cells := 0, slots := 0, locals := 60 }) (zPc [.ref o, .ref p1] (dC, dI) (zTy cI cJ cC) [(o, .inr (3, [.ref o_kinds, .ref o_holds, .ref o_takes, .ref o_shareCounts, .ref o_shares, .int vo_size])), (o_kinds, .inl (cI, 9, .inl vo_kinds)), (o_holds, .inl (cI, 9, .inl vo_holds)), (o_takes, .inl (cI, 9, .inl vo_takes)), (o_shareCounts, .inl (cI, 9, .inl vo_shareCounts)), (o_shares, .inl (cI, 27, .inl vo_shares)), (p1, .inr (3, [.ref p1_kinds, .ref p1_holds, .ref p1_takes, .ref p1_shareCounts, .ref p1_shares, .int vp1_size])), (p1_kinds, .inl (cI, 9, .inl vp1_kinds)), (p1_holds, .inl (cI, 9, .inl vp1_holds)), (p1_takes, .inl (cI, 9, .inl vp1_takes)), (p1_shareCounts, .inl (cI, 9, .inl vp1_shareCounts)), (p1_shares, .inl (cI, 27, .inl vp1_shares))] sz) (zQv ((zSc qo_shareCounts) ∧ (qo_size.toInt = vp1_size.toInt)) (dC, dI) (zTy cI cJ cC) [(o, .inr (3, [.ref o_kinds, .ref o_holds, .ref o_takes, .ref o_shareCounts, .ref o_shares, .int qo_size])), (o_kinds, .inl (cI, 9, .inl qo_kinds)), (o_holds, .inl (cI, 9, .inl qo_holds)), (o_takes, .inl (cI, 9, .inl qo_takes)), (o_shareCounts, .inl (cI, 9, .inl qo_shareCounts)), (o_shares, .inl (cI, 27, .inl qo_shares)), (p1, .inr (3, [.ref p1_kinds, .ref p1_holds, .ref p1_takes, .ref p1_shareCounts, .ref p1_shares, .int vp1_size])), (p1_kinds, .inl (cI, 9, .inl vp1_kinds)), (p1_holds, .inl (cI, 9, .inl vp1_holds)), (p1_takes, .inl (cI, 9, .inl vp1_takes)), (p1_shareCounts, .inl (cI, 9, .inl vp1_shareCounts)), (p1_shares, .inl (cI, 27, .inl vp1_shares))] (va_A [(o, .inr (3, [.ref o_kinds, .ref o_holds, .ref o_takes, .ref o_shareCounts, .ref o_shares, .int vo_size])), (o_kinds, .inl (cI, 9, .inl vo_kinds)), (o_holds, .inl (cI, 9, .inl vo_holds)), (o_takes, .inl (cI, 9, .inl vo_takes)), (o_shareCounts, .inl (cI, 9, .inl vo_shareCounts)), (o_shares, .inl (cI, 27, .inl vo_shares)), (p1, .inr (3, [.ref p1_kinds, .ref p1_holds, .ref p1_takes, .ref p1_shareCounts, .ref p1_shares, .int vp1_size])), (p1_kinds, .inl (cI, 9, .inl vp1_kinds)), (p1_holds, .inl (cI, 9, .inl vp1_holds)), (p1_takes, .inl (cI, 9, .inl vp1_takes)), (p1_shareCounts, .inl (cI, 9, .inl vp1_shareCounts)), (p1_shares, .inl (cI, 27, .inl vp1_shares))] sz)) 0 0 (va_A [(o, .inr (3, [.ref o_kinds, .ref o_holds, .ref o_takes, .ref o_shareCounts, .ref o_shares, .int vo_size])), (o_kinds, .inl (cI, 9, .inl vo_kinds)), (o_holds, .inl (cI, 9, .inl vo_holds)), (o_takes, .inl (cI, 9, .inl vo_takes)), (o_shareCounts, .inl (cI, 9, .inl vo_shareCounts)), (o_shares, .inl (cI, 27, .inl vo_shares)), (p1, .inr (3, [.ref p1_kinds, .ref p1_holds, .ref p1_takes, .ref p1_shareCounts, .ref p1_shares, .int vp1_size])), (p1_kinds, .inl (cI, 9, .inl vp1_kinds)), (p1_holds, .inl (cI, 9, .inl vp1_holds)), (p1_takes, .inl (cI, 9, .inl vp1_takes)), (p1_shareCounts, .inl (cI, 9, .inl vp1_shareCounts)), (p1_shares, .inl (cI, 27, .inl vp1_shares))] sz) := by
  refine Met.ofW (cc := cX3_copyFrom) (maxL := 2) (ret := none) (by decide) rfl ?_
  intro p e s m args below meth c s₁ B hml hv
  obtain ⟨rfl, hsz, hP, hK, hD0⟩ := hv
  have hx := B.exec
  have hb := B.bytes
  have hr := B.returns
  have hts := atoms_spec (ws := wsX3_copyFrom) B.pre
  have hown : s.vm.findClass RX3 = some m.cls := findClass_of_methodNamed B.named
  have hlocks := B.notSynchronized
  subst hsz
  have hD := hD0.self (sz := s.heap.size)
  generalize hAe : va_A [(o, .inr (3, [.ref o_kinds, .ref o_holds, .ref o_takes, .ref o_shareCounts, .ref o_shares, .int vo_size])), (o_kinds, .inl (cI, 9, .inl vo_kinds)), (o_holds, .inl (cI, 9, .inl vo_holds)), (o_takes, .inl (cI, 9, .inl vo_takes)), (o_shareCounts, .inl (cI, 9, .inl vo_shareCounts)), (o_shares, .inl (cI, 27, .inl vo_shares)), (p1, .inr (3, [.ref p1_kinds, .ref p1_holds, .ref p1_takes, .ref p1_shareCounts, .ref p1_shares, .int vp1_size])), (p1_kinds, .inl (cI, 9, .inl vp1_kinds)), (p1_holds, .inl (cI, 9, .inl vp1_holds)), (p1_takes, .inl (cI, 9, .inl vp1_takes)), (p1_shareCounts, .inl (cI, 9, .inl vp1_shareCounts)), (p1_shares, .inl (cI, 27, .inl vp1_shares))] s.heap.size = A at hD ⊢
  have hA : ∀ q : Nat, s.heap.size ≤ q → A q := fun q h => by rw [← hAe]; exact Or.inr h
  have hS : va_S A s.heap s.heap [] := va_S.rf
  have hP : va_P (dC, dI) vwCl [(o, .inr (3, [.ref o_kinds, .ref o_holds, .ref o_takes, .ref o_shareCounts, .ref o_shares, .int vo_size])), (o_kinds, .inl (cI, 9, .inl vo_kinds)), (o_holds, .inl (cI, 9, .inl vo_holds)), (o_takes, .inl (cI, 9, .inl vo_takes)), (o_shareCounts, .inl (cI, 9, .inl vo_shareCounts)), (o_shares, .inl (cI, 27, .inl vo_shares)), (p1, .inr (3, [.ref p1_kinds, .ref p1_holds, .ref p1_takes, .ref p1_shareCounts, .ref p1_shares, .int vp1_size])), (p1_kinds, .inl (cI, 9, .inl vp1_kinds)), (p1_holds, .inl (cI, 9, .inl vp1_holds)), (p1_takes, .inl (cI, 9, .inl vp1_takes)), (p1_shareCounts, .inl (cI, 9, .inl vp1_shareCounts)), (p1_shares, .inl (cI, 27, .inl vp1_shares))] s.heap := hP
  have hK : va_K (dC, dI) vwCl (zTy cI cJ cC) s := hK
  have hl := lv_entry ([.ref o, .ref p1]) (n := 2) (Nat.le_of_ble_eq_true rfl)
  rw [lg_entry_eq]
  generalize (lg_sl ([.ref o, .ref p1]) ++ List.replicate (2 - (lg_sl ([.ref o, .ref p1])).length) Slot.unset).toArray = ls at hl ⊢
  have hl : lv_has ls 2 [(0, .ref o), (1, .ref p1)] := hl
  refine zz_start hP hS (fun Q hQ H locs hP hS => ?_)
  have hwX3 : ∀ w ∈ u_ws RX3 TX3 6, w ∈ wsX3_copyFrom := by decide +kernel
  have hm_27 := (hts (.methodLink RX3 27 arraycopyName) (by decide +kernel))
  have hac_i := (hts (.initialized "java/lang/System") (by decide +kernel))
  have hac_n := (hts (.native arraycopyName) (by decide +kernel))
  have hac_s := (hts (.static arraycopyName) (by decide +kernel))
  have hf_15 := (hts (.fieldLink RX3 15 "PouredTopmost$Stand" "holds" "[I") (by decide +kernel))
  have hf_18 := (hts (.fieldLink RX3 18 "PouredTopmost$Stand" "takes" "[I") (by decide +kernel))
  have hf_21 := (hts (.fieldLink RX3 21 "PouredTopmost$Stand" "shareCounts" "[I") (by decide +kernel))
  have hf_24 := (hts (.fieldLink RX3 24 "PouredTopmost$Stand" "shares" "[I") (by decide +kernel))
  have hf_33 := (hts (.fieldLink RX3 33 "PouredTopmost$Stand" "size" "I") (by decide +kernel))
  have hf_9 := (hts (.fieldLink RX3 9 "PouredTopmost$Stand" "kinds" "[I") (by decide +kernel))
  refine lv_aload_n hx hb dX3_copyFrom_0 rfl (lv_at hl 1 rfl) ?_
  refine va_get (D := (dC, dI)) (ci := 3) (v := .ref p1_kinds) (C := RX3) (T := TX3) (N := 6) hx hb hts hwX3 hown hK hP 6 rfl rfl 0 (by decide) hf_9 (fun _ h9 => h9) rfl dX3_copyFrom_1 ?_
  refine lv_iconst (v := (0 : Int32)) hx hb dX3_copyFrom_4 (by decide) ?_
  refine lv_aload_n hx hb dX3_copyFrom_5 rfl (lv_at hl 0 rfl) ?_
  refine va_get (D := (dC, dI)) (ci := 3) (v := .ref o_kinds) (C := RX3) (T := TX3) (N := 6) hx hb hts hwX3 hown hK hP 0 rfl rfl 0 (by decide) hf_9 (fun _ h9 => h9) rfl dX3_copyFrom_6 ?_
  refine lv_iconst (v := (0 : Int32)) hx hb dX3_copyFrom_9 (by decide) ?_
  refine lv_bipush (v := (9 : Int32)) hx hb dX3_copyFrom_10 (by decide) ?_
  refine va_copyi hx hb (by rw [hml]; exact hl.1.symm) hown hm_27 hac_n hac_s hac_i hK hP hD hS 7 1 0 0 rfl rfl rfl rfl rfl (by decide) (by decide) (by decide) (by decide) (by decide) (fun i hi => rfl) (Nat.le_of_ble_eq_true rfl) (by decide +kernel) dX3_copyFrom_12 (fun H locs hP hD hS => ?_)
  obtain ⟨a1, ea1⟩ : ∃ z, (va_cpy vp1_kinds vo_kinds (0 : Int32).toNatClampNeg (0 : Int32).toNatClampNeg (9 : Int32).toNatClampNeg) = z := ⟨_, rfl⟩
  replace hT := cut_n ea1 hT
  have hP : va_P (dC, dI) vwCl [(o, .inr (3, [.ref o_kinds, .ref o_holds, .ref o_takes, .ref o_shareCounts, .ref o_shares, .int vo_size])), (o_kinds, .inl (cI, 9, .inl a1)), (o_holds, .inl (cI, 9, .inl vo_holds)), (o_takes, .inl (cI, 9, .inl vo_takes)), (o_shareCounts, .inl (cI, 9, .inl vo_shareCounts)), (o_shares, .inl (cI, 27, .inl vo_shares)), (p1, .inr (3, [.ref p1_kinds, .ref p1_holds, .ref p1_takes, .ref p1_shareCounts, .ref p1_shares, .int vp1_size])), (p1_kinds, .inl (cI, 9, .inl vp1_kinds)), (p1_holds, .inl (cI, 9, .inl vp1_holds)), (p1_takes, .inl (cI, 9, .inl vp1_takes)), (p1_shareCounts, .inl (cI, 9, .inl vp1_shareCounts)), (p1_shares, .inl (cI, 27, .inl vp1_shares))] H := by rw [← ea1]; exact hP
  have hD : va_D A [(o, .inr (3, [.ref o_kinds, .ref o_holds, .ref o_takes, .ref o_shareCounts, .ref o_shares, .int vo_size])), (o_kinds, .inl (cI, 9, .inl a1)), (o_holds, .inl (cI, 9, .inl vo_holds)), (o_takes, .inl (cI, 9, .inl vo_takes)), (o_shareCounts, .inl (cI, 9, .inl vo_shareCounts)), (o_shares, .inl (cI, 27, .inl vo_shares)), (p1, .inr (3, [.ref p1_kinds, .ref p1_holds, .ref p1_takes, .ref p1_shareCounts, .ref p1_shares, .int vp1_size])), (p1_kinds, .inl (cI, 9, .inl vp1_kinds)), (p1_holds, .inl (cI, 9, .inl vp1_holds)), (p1_takes, .inl (cI, 9, .inl vp1_takes)), (p1_shareCounts, .inl (cI, 9, .inl vp1_shareCounts)), (p1_shares, .inl (cI, 27, .inl vp1_shares))] := by rw [← ea1]; exact hD
  refine lv_aload_n hx hb dX3_copyFrom_15 rfl (lv_at hl 1 rfl) ?_
  refine va_get (D := (dC, dI)) (ci := 3) (v := .ref p1_holds) (C := RX3) (T := TX3) (N := 6) hx hb hts hwX3 hown hK hP 6 rfl rfl 1 (by decide) hf_15 (fun _ h9 => h9) rfl dX3_copyFrom_16 ?_
  refine lv_iconst (v := (0 : Int32)) hx hb dX3_copyFrom_19 (by decide) ?_
  refine lv_aload_n hx hb dX3_copyFrom_20 rfl (lv_at hl 0 rfl) ?_
  refine va_get (D := (dC, dI)) (ci := 3) (v := .ref o_holds) (C := RX3) (T := TX3) (N := 6) hx hb hts hwX3 hown hK hP 0 rfl rfl 1 (by decide) hf_15 (fun _ h9 => h9) rfl dX3_copyFrom_21 ?_
  refine lv_iconst (v := (0 : Int32)) hx hb dX3_copyFrom_24 (by decide) ?_
  refine lv_bipush (v := (9 : Int32)) hx hb dX3_copyFrom_25 (by decide) ?_
  refine va_copyi hx hb (by rw [hml]; exact hl.1.symm) hown hm_27 hac_n hac_s hac_i hK hP hD hS 8 2 0 0 rfl rfl rfl rfl rfl (by decide) (by decide) (by decide) (by decide) (by decide) (fun i hi => rfl) (Nat.le_of_ble_eq_true rfl) (by decide +kernel) dX3_copyFrom_27 (fun H locs hP hD hS => ?_)
  obtain ⟨a2, ea2⟩ : ∃ z, (va_cpy vp1_holds vo_holds (0 : Int32).toNatClampNeg (0 : Int32).toNatClampNeg (9 : Int32).toNatClampNeg) = z := ⟨_, rfl⟩
  replace hT := cut_n ea2 hT
  have hP : va_P (dC, dI) vwCl [(o, .inr (3, [.ref o_kinds, .ref o_holds, .ref o_takes, .ref o_shareCounts, .ref o_shares, .int vo_size])), (o_kinds, .inl (cI, 9, .inl a1)), (o_holds, .inl (cI, 9, .inl a2)), (o_takes, .inl (cI, 9, .inl vo_takes)), (o_shareCounts, .inl (cI, 9, .inl vo_shareCounts)), (o_shares, .inl (cI, 27, .inl vo_shares)), (p1, .inr (3, [.ref p1_kinds, .ref p1_holds, .ref p1_takes, .ref p1_shareCounts, .ref p1_shares, .int vp1_size])), (p1_kinds, .inl (cI, 9, .inl vp1_kinds)), (p1_holds, .inl (cI, 9, .inl vp1_holds)), (p1_takes, .inl (cI, 9, .inl vp1_takes)), (p1_shareCounts, .inl (cI, 9, .inl vp1_shareCounts)), (p1_shares, .inl (cI, 27, .inl vp1_shares))] H := by rw [← ea2]; exact hP
  have hD : va_D A [(o, .inr (3, [.ref o_kinds, .ref o_holds, .ref o_takes, .ref o_shareCounts, .ref o_shares, .int vo_size])), (o_kinds, .inl (cI, 9, .inl a1)), (o_holds, .inl (cI, 9, .inl a2)), (o_takes, .inl (cI, 9, .inl vo_takes)), (o_shareCounts, .inl (cI, 9, .inl vo_shareCounts)), (o_shares, .inl (cI, 27, .inl vo_shares)), (p1, .inr (3, [.ref p1_kinds, .ref p1_holds, .ref p1_takes, .ref p1_shareCounts, .ref p1_shares, .int vp1_size])), (p1_kinds, .inl (cI, 9, .inl vp1_kinds)), (p1_holds, .inl (cI, 9, .inl vp1_holds)), (p1_takes, .inl (cI, 9, .inl vp1_takes)), (p1_shareCounts, .inl (cI, 9, .inl vp1_shareCounts)), (p1_shares, .inl (cI, 27, .inl vp1_shares))] := by rw [← ea2]; exact hD
  refine lv_aload_n hx hb dX3_copyFrom_30 rfl (lv_at hl 1 rfl) ?_
  refine va_get (D := (dC, dI)) (ci := 3) (v := .ref p1_takes) (C := RX3) (T := TX3) (N := 6) hx hb hts hwX3 hown hK hP 6 rfl rfl 2 (by decide) hf_18 (fun _ h9 => h9) rfl dX3_copyFrom_31 ?_
  refine lv_iconst (v := (0 : Int32)) hx hb dX3_copyFrom_34 (by decide) ?_
  refine lv_aload_n hx hb dX3_copyFrom_35 rfl (lv_at hl 0 rfl) ?_
  refine va_get (D := (dC, dI)) (ci := 3) (v := .ref o_takes) (C := RX3) (T := TX3) (N := 6) hx hb hts hwX3 hown hK hP 0 rfl rfl 2 (by decide) hf_18 (fun _ h9 => h9) rfl dX3_copyFrom_36 ?_
  refine lv_iconst (v := (0 : Int32)) hx hb dX3_copyFrom_39 (by decide) ?_
  refine lv_bipush (v := (9 : Int32)) hx hb dX3_copyFrom_40 (by decide) ?_
  refine va_copyi hx hb (by rw [hml]; exact hl.1.symm) hown hm_27 hac_n hac_s hac_i hK hP hD hS 9 3 0 0 rfl rfl rfl rfl rfl (by decide) (by decide) (by decide) (by decide) (by decide) (fun i hi => rfl) (Nat.le_of_ble_eq_true rfl) (by decide +kernel) dX3_copyFrom_42 (fun H locs hP hD hS => ?_)
  obtain ⟨a3, ea3⟩ : ∃ z, (va_cpy vp1_takes vo_takes (0 : Int32).toNatClampNeg (0 : Int32).toNatClampNeg (9 : Int32).toNatClampNeg) = z := ⟨_, rfl⟩
  replace hT := cut_n ea3 hT
  have hP : va_P (dC, dI) vwCl [(o, .inr (3, [.ref o_kinds, .ref o_holds, .ref o_takes, .ref o_shareCounts, .ref o_shares, .int vo_size])), (o_kinds, .inl (cI, 9, .inl a1)), (o_holds, .inl (cI, 9, .inl a2)), (o_takes, .inl (cI, 9, .inl a3)), (o_shareCounts, .inl (cI, 9, .inl vo_shareCounts)), (o_shares, .inl (cI, 27, .inl vo_shares)), (p1, .inr (3, [.ref p1_kinds, .ref p1_holds, .ref p1_takes, .ref p1_shareCounts, .ref p1_shares, .int vp1_size])), (p1_kinds, .inl (cI, 9, .inl vp1_kinds)), (p1_holds, .inl (cI, 9, .inl vp1_holds)), (p1_takes, .inl (cI, 9, .inl vp1_takes)), (p1_shareCounts, .inl (cI, 9, .inl vp1_shareCounts)), (p1_shares, .inl (cI, 27, .inl vp1_shares))] H := by rw [← ea3]; exact hP
  have hD : va_D A [(o, .inr (3, [.ref o_kinds, .ref o_holds, .ref o_takes, .ref o_shareCounts, .ref o_shares, .int vo_size])), (o_kinds, .inl (cI, 9, .inl a1)), (o_holds, .inl (cI, 9, .inl a2)), (o_takes, .inl (cI, 9, .inl a3)), (o_shareCounts, .inl (cI, 9, .inl vo_shareCounts)), (o_shares, .inl (cI, 27, .inl vo_shares)), (p1, .inr (3, [.ref p1_kinds, .ref p1_holds, .ref p1_takes, .ref p1_shareCounts, .ref p1_shares, .int vp1_size])), (p1_kinds, .inl (cI, 9, .inl vp1_kinds)), (p1_holds, .inl (cI, 9, .inl vp1_holds)), (p1_takes, .inl (cI, 9, .inl vp1_takes)), (p1_shareCounts, .inl (cI, 9, .inl vp1_shareCounts)), (p1_shares, .inl (cI, 27, .inl vp1_shares))] := by rw [← ea3]; exact hD
  refine lv_aload_n hx hb dX3_copyFrom_45 rfl (lv_at hl 1 rfl) ?_
  refine va_get (D := (dC, dI)) (ci := 3) (v := .ref p1_shareCounts) (C := RX3) (T := TX3) (N := 6) hx hb hts hwX3 hown hK hP 6 rfl rfl 3 (by decide) hf_21 (fun _ h9 => h9) rfl dX3_copyFrom_46 ?_
  refine lv_iconst (v := (0 : Int32)) hx hb dX3_copyFrom_49 (by decide) ?_
  refine lv_aload_n hx hb dX3_copyFrom_50 rfl (lv_at hl 0 rfl) ?_
  refine va_get (D := (dC, dI)) (ci := 3) (v := .ref o_shareCounts) (C := RX3) (T := TX3) (N := 6) hx hb hts hwX3 hown hK hP 0 rfl rfl 3 (by decide) hf_21 (fun _ h9 => h9) rfl dX3_copyFrom_51 ?_
  refine lv_iconst (v := (0 : Int32)) hx hb dX3_copyFrom_54 (by decide) ?_
  refine lv_bipush (v := (9 : Int32)) hx hb dX3_copyFrom_55 (by decide) ?_
  refine va_copyi hx hb (by rw [hml]; exact hl.1.symm) hown hm_27 hac_n hac_s hac_i hK hP hD hS 10 4 0 0 rfl rfl rfl rfl rfl (by decide) (by decide) (by decide) (by decide) (by decide) (fun i hi => rfl) (Nat.le_of_ble_eq_true rfl) (by decide +kernel) dX3_copyFrom_57 (fun H locs hP hD hS => ?_)
  obtain ⟨a4, ea4⟩ : ∃ z, (va_cpy vp1_shareCounts vo_shareCounts (0 : Int32).toNatClampNeg (0 : Int32).toNatClampNeg (9 : Int32).toNatClampNeg) = z := ⟨_, rfl⟩
  replace hT := cut_n ea4 hT
  have hP : va_P (dC, dI) vwCl [(o, .inr (3, [.ref o_kinds, .ref o_holds, .ref o_takes, .ref o_shareCounts, .ref o_shares, .int vo_size])), (o_kinds, .inl (cI, 9, .inl a1)), (o_holds, .inl (cI, 9, .inl a2)), (o_takes, .inl (cI, 9, .inl a3)), (o_shareCounts, .inl (cI, 9, .inl a4)), (o_shares, .inl (cI, 27, .inl vo_shares)), (p1, .inr (3, [.ref p1_kinds, .ref p1_holds, .ref p1_takes, .ref p1_shareCounts, .ref p1_shares, .int vp1_size])), (p1_kinds, .inl (cI, 9, .inl vp1_kinds)), (p1_holds, .inl (cI, 9, .inl vp1_holds)), (p1_takes, .inl (cI, 9, .inl vp1_takes)), (p1_shareCounts, .inl (cI, 9, .inl vp1_shareCounts)), (p1_shares, .inl (cI, 27, .inl vp1_shares))] H := by rw [← ea4]; exact hP
  have hD : va_D A [(o, .inr (3, [.ref o_kinds, .ref o_holds, .ref o_takes, .ref o_shareCounts, .ref o_shares, .int vo_size])), (o_kinds, .inl (cI, 9, .inl a1)), (o_holds, .inl (cI, 9, .inl a2)), (o_takes, .inl (cI, 9, .inl a3)), (o_shareCounts, .inl (cI, 9, .inl a4)), (o_shares, .inl (cI, 27, .inl vo_shares)), (p1, .inr (3, [.ref p1_kinds, .ref p1_holds, .ref p1_takes, .ref p1_shareCounts, .ref p1_shares, .int vp1_size])), (p1_kinds, .inl (cI, 9, .inl vp1_kinds)), (p1_holds, .inl (cI, 9, .inl vp1_holds)), (p1_takes, .inl (cI, 9, .inl vp1_takes)), (p1_shareCounts, .inl (cI, 9, .inl vp1_shareCounts)), (p1_shares, .inl (cI, 27, .inl vp1_shares))] := by rw [← ea4]; exact hD
  have sc_1 : zSc a4 := by rw [← ea4]; exact zSc_cpy hscp hsc
  refine lv_aload_n hx hb dX3_copyFrom_60 rfl (lv_at hl 1 rfl) ?_
  refine va_get (D := (dC, dI)) (ci := 3) (v := .ref p1_shares) (C := RX3) (T := TX3) (N := 6) hx hb hts hwX3 hown hK hP 6 rfl rfl 4 (by decide) hf_24 (fun _ h9 => h9) rfl dX3_copyFrom_61 ?_
  refine lv_iconst (v := (0 : Int32)) hx hb dX3_copyFrom_64 (by decide) ?_
  refine lv_aload_n hx hb dX3_copyFrom_65 rfl (lv_at hl 0 rfl) ?_
  refine va_get (D := (dC, dI)) (ci := 3) (v := .ref o_shares) (C := RX3) (T := TX3) (N := 6) hx hb hts hwX3 hown hK hP 0 rfl rfl 4 (by decide) hf_24 (fun _ h9 => h9) rfl dX3_copyFrom_66 ?_
  refine lv_iconst (v := (0 : Int32)) hx hb dX3_copyFrom_69 (by decide) ?_
  refine lv_bipush (v := (27 : Int32)) hx hb dX3_copyFrom_70 (by decide) ?_
  refine va_copyi hx hb (by rw [hml]; exact hl.1.symm) hown hm_27 hac_n hac_s hac_i hK hP hD hS 11 5 0 0 rfl rfl rfl rfl rfl (by decide) (by decide) (by decide) (by decide) (by decide) (fun i hi => rfl) (Nat.le_of_ble_eq_true rfl) (by decide +kernel) dX3_copyFrom_72 (fun H locs hP hD hS => ?_)
  obtain ⟨a5, ea5⟩ : ∃ z, (va_cpy vp1_shares vo_shares (0 : Int32).toNatClampNeg (0 : Int32).toNatClampNeg (27 : Int32).toNatClampNeg) = z := ⟨_, rfl⟩
  replace hT := cut_n ea5 hT
  have hP : va_P (dC, dI) vwCl [(o, .inr (3, [.ref o_kinds, .ref o_holds, .ref o_takes, .ref o_shareCounts, .ref o_shares, .int vo_size])), (o_kinds, .inl (cI, 9, .inl a1)), (o_holds, .inl (cI, 9, .inl a2)), (o_takes, .inl (cI, 9, .inl a3)), (o_shareCounts, .inl (cI, 9, .inl a4)), (o_shares, .inl (cI, 27, .inl a5)), (p1, .inr (3, [.ref p1_kinds, .ref p1_holds, .ref p1_takes, .ref p1_shareCounts, .ref p1_shares, .int vp1_size])), (p1_kinds, .inl (cI, 9, .inl vp1_kinds)), (p1_holds, .inl (cI, 9, .inl vp1_holds)), (p1_takes, .inl (cI, 9, .inl vp1_takes)), (p1_shareCounts, .inl (cI, 9, .inl vp1_shareCounts)), (p1_shares, .inl (cI, 27, .inl vp1_shares))] H := by rw [← ea5]; exact hP
  have hD : va_D A [(o, .inr (3, [.ref o_kinds, .ref o_holds, .ref o_takes, .ref o_shareCounts, .ref o_shares, .int vo_size])), (o_kinds, .inl (cI, 9, .inl a1)), (o_holds, .inl (cI, 9, .inl a2)), (o_takes, .inl (cI, 9, .inl a3)), (o_shareCounts, .inl (cI, 9, .inl a4)), (o_shares, .inl (cI, 27, .inl a5)), (p1, .inr (3, [.ref p1_kinds, .ref p1_holds, .ref p1_takes, .ref p1_shareCounts, .ref p1_shares, .int vp1_size])), (p1_kinds, .inl (cI, 9, .inl vp1_kinds)), (p1_holds, .inl (cI, 9, .inl vp1_holds)), (p1_takes, .inl (cI, 9, .inl vp1_takes)), (p1_shareCounts, .inl (cI, 9, .inl vp1_shareCounts)), (p1_shares, .inl (cI, 27, .inl vp1_shares))] := by rw [← ea5]; exact hD
  refine lv_aload_n hx hb dX3_copyFrom_75 rfl (lv_at hl 0 rfl) ?_
  refine lv_aload_n hx hb dX3_copyFrom_76 rfl (lv_at hl 1 rfl) ?_
  refine va_get (D := (dC, dI)) (ci := 3) (v := .int vp1_size) (C := RX3) (T := TX3) (N := 6) hx hb hts hwX3 hown hK hP 6 rfl rfl 5 (by decide) hf_33 (fun _ h9 => h9) rfl dX3_copyFrom_77 ?_
  refine va_put (D := (dC, dI)) (ci := 3) (v := .int vp1_size) (ty := .int) (C := RX3) (T := TX3) (N := 6) hx hb hts hwX3 tyX3 tyX3_ok nmX3 hown hK hP hD hS 0 rfl rfl 5 (by decide) hf_33 (fun _ h9 => h9) rfl (by decide +kernel) rfl rfl (Nat.le_of_ble_eq_true rfl) dX3_copyFrom_80 (fun H locs hP hD hS => ?_)
  have hP : va_P (dC, dI) vwCl [(o, .inr (3, [.ref o_kinds, .ref o_holds, .ref o_takes, .ref o_shareCounts, .ref o_shares, .int vp1_size])), (o_kinds, .inl (cI, 9, .inl a1)), (o_holds, .inl (cI, 9, .inl a2)), (o_takes, .inl (cI, 9, .inl a3)), (o_shareCounts, .inl (cI, 9, .inl a4)), (o_shares, .inl (cI, 27, .inl a5)), (p1, .inr (3, [.ref p1_kinds, .ref p1_holds, .ref p1_takes, .ref p1_shareCounts, .ref p1_shares, .int vp1_size])), (p1_kinds, .inl (cI, 9, .inl vp1_kinds)), (p1_holds, .inl (cI, 9, .inl vp1_holds)), (p1_takes, .inl (cI, 9, .inl vp1_takes)), (p1_shareCounts, .inl (cI, 9, .inl vp1_shareCounts)), (p1_shares, .inl (cI, 27, .inl vp1_shares))] H := hP
  have hD : va_D A [(o, .inr (3, [.ref o_kinds, .ref o_holds, .ref o_takes, .ref o_shareCounts, .ref o_shares, .int vp1_size])), (o_kinds, .inl (cI, 9, .inl a1)), (o_holds, .inl (cI, 9, .inl a2)), (o_takes, .inl (cI, 9, .inl a3)), (o_shareCounts, .inl (cI, 9, .inl a4)), (o_shares, .inl (cI, 27, .inl a5)), (p1, .inr (3, [.ref p1_kinds, .ref p1_holds, .ref p1_takes, .ref p1_shareCounts, .ref p1_shares, .int vp1_size])), (p1_kinds, .inl (cI, 9, .inl vp1_kinds)), (p1_holds, .inl (cI, 9, .inl vp1_holds)), (p1_takes, .inl (cI, 9, .inl vp1_takes)), (p1_shareCounts, .inl (cI, 9, .inl vp1_shareCounts)), (p1_shares, .inl (cI, 27, .inl vp1_shares))] := hD
  have hP9 := hP
  have hD9 := hD
  have hS9 := hS
  have hT : (vp1_size, a1, a2, a3, a4, a5) = (qo_size, qo_kinds, qo_holds, qo_takes, qo_shareCounts, qo_shares) := hT
  cases hT
  subst hQ
  exact zz_vret hx hb hr [0, 1, 2, 3, 4, 5, 6, 7, 8, 9, 10, 11] hK hP9 hD9 hS9 rfl rfl ⟨(by assumption), rfl⟩ hlocks dX3_copyFrom_83

def m_X1_write (vo_size : Int32) (vo_codes : Nat → Int32) (p1 : Int32) : Int32 × (Nat → Int32) :=
 if (70 : Int32) ≤ vo_size then
  (vo_size, vo_codes)
 else
  cut (upd vo_codes vo_size.toNatClampNeg (vp_nar .char ((p1.toUInt32 % 65536).toInt32))) (fun (a1 : Nat → Int32) =>
  cut (vo_size + (1 : Int32)) (fun (v2 : Int32) =>
  (v2, a1)))
set_option maxHeartbeats 4000000 in
set_option maxRecDepth 100000 in
theorem k_X1_write (l : Launch) (dC : Nat → ClassId) (dI : Nat → Nat → Nat) (cI cJ cC : ClassId) (sz : Nat) (o o_codes : Nat) (vo_size : Int32) (vo_codes : Nat → Int32) (p1 : Int32) (qo_size : Int32) (qo_codes : Nat → Int32) (hT : m_X1_write vo_size vo_codes p1 = (qo_size, qo_codes)) (hs0 : 0 ≤ vo_size.toInt) (hs70 : vo_size.toInt ≤ 70) (hch : ∀ j, narrow .char (.int (vo_codes j)) = .int (vo_codes j)) : Met l yX1_write wsX1_write ({ frames := 0, cells := 0, slots := 0, locals := 0 }) (zPc [.ref o, .int p1] (dC, dI) (zTy cI cJ cC) [(o, .inr (1, [.ref o_codes, .int vo_size])), (o_codes, .inl (cC, 70, .inl vo_codes))] sz) (zQv ((0 ≤ qo_size.toInt) ∧ (qo_size.toInt ≤ 70) ∧ (∀ j, narrow .char (.int (qo_codes j)) = .int (qo_codes j))) (dC, dI) (zTy cI cJ cC) [(o, .inr (1, [.ref o_codes, .int qo_size])), (o_codes, .inl (cC, 70, .inl qo_codes))] (va_A [(o, .inr (1, [.ref o_codes, .int vo_size])), (o_codes, .inl (cC, 70, .inl vo_codes))] sz)) 0 0 (va_A [(o, .inr (1, [.ref o_codes, .int vo_size])), (o_codes, .inl (cC, 70, .inl vo_codes))] sz) := by
  refine Met.ofW (cc := cX1_write) (maxL := 2) (ret := none) (by decide) rfl ?_
  intro p e s m args below meth c s₁ B hml hv
  obtain ⟨rfl, hsz, hP, hK, hD0⟩ := hv
  have hx := B.exec
  have hb := B.bytes
  have hr := B.returns
  have hts := atoms_spec (ws := wsX1_write) B.pre
  have hown : s.vm.findClass RX1 = some m.cls := findClass_of_methodNamed B.named
  have hlocks := B.notSynchronized
  subst hsz
  have hD := hD0.self (sz := s.heap.size)
  generalize hAe : va_A [(o, .inr (1, [.ref o_codes, .int vo_size])), (o_codes, .inl (cC, 70, .inl vo_codes))] s.heap.size = A at hD ⊢
  have hA : ∀ q : Nat, s.heap.size ≤ q → A q := fun q h => by rw [← hAe]; exact Or.inr h
  have hS : va_S A s.heap s.heap [] := va_S.rf
  have hP : va_P (dC, dI) vwCl [(o, .inr (1, [.ref o_codes, .int vo_size])), (o_codes, .inl (cC, 70, .inl vo_codes))] s.heap := hP
  have hK : va_K (dC, dI) vwCl (zTy cI cJ cC) s := hK
  have hl := lv_entry ([.ref o, .int p1]) (n := 2) (Nat.le_of_ble_eq_true rfl)
  rw [lg_entry_eq]
  generalize (lg_sl ([.ref o, .int p1]) ++ List.replicate (2 - (lg_sl ([.ref o, .int p1])).length) Slot.unset).toArray = ls at hl ⊢
  have hl : lv_has ls 2 [(0, .ref o), (1, .int p1)] := hl
  refine zz_start hP hS (fun Q hQ H locs hP hS => ?_)
  have hwX1 : ∀ w ∈ u_ws RX1 TX1 2, w ∈ wsX1_write := by decide +kernel
  have hf_15 := (hts (.fieldLink RX1 15 "PouredTopmost$Page" "size" "I") (by decide +kernel))
  have hf_9 := (hts (.fieldLink RX1 9 "PouredTopmost$Page" "codes" "[C") (by decide +kernel))
  refine lv_aload_n hx hb dX1_write_0 rfl (lv_at hl 0 rfl) ?_
  refine va_get (D := (dC, dI)) (ci := 1) (v := .int vo_size) (C := RX1) (T := TX1) (N := 2) hx hb hts hwX1 hown hK hP 0 rfl rfl 1 (by decide) hf_15 (fun _ h9 => h9) rfl dX1_write_1 ?_
  refine lv_aload_n hx hb dX1_write_4 rfl (lv_at hl 0 rfl) ?_
  refine va_get (D := (dC, dI)) (ci := 1) (v := .ref o_codes) (C := RX1) (T := TX1) (N := 2) hx hb hts hwX1 hown hK hP 0 rfl rfl 0 (by decide) hf_9 (fun _ h9 => h9) rfl dX1_write_5 ?_
  refine va_alen (v := (70 : Int32)) hx hb hK hP 1 2 rfl rfl rfl dX1_write_8 ?_
  refine lv_icmp_ge (tgt := 33) hx hb dX1_write_9 (by decide) (fun c_1 => ?_) (fun c_1 => ?_)
  · replace hT := cutT c_1 hT
    have g_3 := zleT (by decide : ((70 : Int32)).toInt = 70) (rfl : (vo_size).toInt = _) c_1
    have hP9 := hP
    have hD9 := hD
    have hS9 := hS
    have hT : (vo_size, vo_codes) = (qo_size, qo_codes) := hT
    cases hT
    subst hQ
    exact zz_vret hx hb hr [0, 1] hK hP9 hD9 hS9 rfl rfl ⟨(by omega), (by omega), (by first | assumption | exact zch_upd ‹_› hch)⟩ hlocks dX1_write_33
  · replace hT := cutF c_1 hT
    have g_4 := zleF (by decide : ((70 : Int32)).toInt = 70) (rfl : (vo_size).toInt = _) c_1
    refine lv_aload_n hx hb dX1_write_12 rfl (lv_at hl 0 rfl) ?_
    refine va_get (D := (dC, dI)) (ci := 1) (v := .ref o_codes) (C := RX1) (T := TX1) (N := 2) hx hb hts hwX1 hown hK hP 0 rfl rfl 0 (by decide) hf_9 (fun _ h9 => h9) rfl dX1_write_13 ?_
    refine lv_aload_n hx hb dX1_write_16 rfl (lv_at hl 0 rfl) ?_
    refine va_get (D := (dC, dI)) (ci := 1) (v := .int vo_size) (C := RX1) (T := TX1) (N := 2) hx hb hts hwX1 hown hK hP 0 rfl rfl 1 (by decide) hf_15 (fun _ h9 => h9) rfl dX1_write_17 ?_
    refine lv_iload_n hx hb dX1_write_20 rfl (lv_at hl 1 rfl) ?_
    refine lv_i2c (v := ((p1.toUInt32 % 65536).toInt32)) hx hb dX1_write_21 rfl ?_
    have h_2 : vp_in vo_size 70 := zin (by omega) (by omega)
    refine va_cast hx hb hK hP hD hS 1 2 rfl rfl h_2 dX1_write_22 (fun H locs hP hD hS => ?_)
    obtain ⟨a1, ea1⟩ : ∃ z, (upd vo_codes vo_size.toNatClampNeg (vp_nar .char ((p1.toUInt32 % 65536).toInt32))) = z := ⟨_, rfl⟩
    replace hT := cut_n ea1 hT
    have hP : va_P (dC, dI) vwCl [(o, .inr (1, [.ref o_codes, .int vo_size])), (o_codes, .inl (cC, 70, .inl a1))] H := by rw [← ea1]; exact hP
    have hD : va_D A [(o, .inr (1, [.ref o_codes, .int vo_size])), (o_codes, .inl (cC, 70, .inl a1))] := by rw [← ea1]; exact hD
    refine lv_aload_n hx hb dX1_write_23 rfl (lv_at hl 0 rfl) ?_
    refine lv_dup hx hb dX1_write_24 rfl ?_
    refine va_get (D := (dC, dI)) (ci := 1) (v := .int vo_size) (C := RX1) (T := TX1) (N := 2) hx hb hts hwX1 hown hK hP 0 rfl rfl 1 (by decide) hf_15 (fun _ h9 => h9) rfl dX1_write_25 ?_
    refine lv_iconst (v := (1 : Int32)) hx hb dX1_write_28 (by decide) ?_
    refine lv_iadd hx hb dX1_write_29 ?_
    refine lv_topi (fun v2 ev2 => ?_)
    replace hT := cut_n ev2.symm hT
    try have fv2 := zaddE (rfl : (vo_size).toInt = _) (by decide : ((1 : Int32)).toInt = 1) ev2.symm (by omega) (by omega)
    refine va_put (D := (dC, dI)) (ci := 1) (v := .int v2) (ty := .int) (C := RX1) (T := TX1) (N := 2) hx hb hts hwX1 tyX1 tyX1_ok nmX1 hown hK hP hD hS 0 rfl rfl 1 (by decide) hf_15 (fun _ h9 => h9) rfl (by decide +kernel) rfl rfl (Nat.le_of_ble_eq_true rfl) dX1_write_30 (fun H locs hP hD hS => ?_)
    have hP : va_P (dC, dI) vwCl [(o, .inr (1, [.ref o_codes, .int v2])), (o_codes, .inl (cC, 70, .inl a1))] H := hP
    have hD : va_D A [(o, .inr (1, [.ref o_codes, .int v2])), (o_codes, .inl (cC, 70, .inl a1))] := hD
    have hP9 := hP
    have hD9 := hD
    have hS9 := hS
    have hT : (v2, a1) = (qo_size, qo_codes) := hT
    cases hT
    subst hQ
    exact zz_vret hx hb hr [0, 1] hK hP9 hD9 hS9 rfl rfl ⟨(by omega), (by omega), (by first | assumption | exact zch_upd ‹_› hch)⟩ hlocks dX1_write_33

def m_X1_codeAt (vo_size : Int32) (vo_codes : Nat → Int32) (p1 : Int32) : Int32 :=
 if p1 < (0 : Int32) then
  (0 : Int32)
 else
  if vo_size ≤ p1 then
   (0 : Int32)
  else
   (vo_codes p1.toNatClampNeg)
set_option maxHeartbeats 4000000 in
set_option maxRecDepth 100000 in
theorem k_X1_codeAt (l : Launch) (dC : Nat → ClassId) (dI : Nat → Nat → Nat) (cI cJ cC : ClassId) (sz : Nat) (o o_codes : Nat) (vo_size : Int32) (vo_codes : Nat → Int32) (p1 : Int32) (r : Int32) (hT : m_X1_codeAt vo_size vo_codes p1 = r) (hs70 : vo_size.toInt ≤ 70) (hch : ∀ j, narrow .char (.int (vo_codes j)) = .int (vo_codes j)) : Met l yX1_codeAt wsX1_codeAt ({ frames := 0, cells := 0, slots := 0, locals := 0 }) (zPc [.ref o, .int p1] (dC, dI) (zTy cI cJ cC) [(o, .inr (1, [.ref o_codes, .int vo_size])), (o_codes, .inl (cC, 70, .inl vo_codes))] sz) (zQi r ((narrow .char (.int r) = .int r)) (dC, dI) (zTy cI cJ cC) [(o, .inr (1, [.ref o_codes, .int vo_size])), (o_codes, .inl (cC, 70, .inl vo_codes))] (va_A [(o, .inr (1, [.ref o_codes, .int vo_size])), (o_codes, .inl (cC, 70, .inl vo_codes))] sz)) 0 0 (va_A [(o, .inr (1, [.ref o_codes, .int vo_size])), (o_codes, .inl (cC, 70, .inl vo_codes))] sz) := by
  refine Met.ofW (cc := cX1_codeAt) (maxL := 2) (ret := (some .char)) (by decide) rfl ?_
  intro p e s m args below meth c s₁ B hml hv
  obtain ⟨rfl, hsz, hP, hK, hD0⟩ := hv
  have hx := B.exec
  have hb := B.bytes
  have hr := B.returns
  have hts := atoms_spec (ws := wsX1_codeAt) B.pre
  have hown : s.vm.findClass RX1 = some m.cls := findClass_of_methodNamed B.named
  have hlocks := B.notSynchronized
  subst hsz
  have hD := hD0.self (sz := s.heap.size)
  generalize hAe : va_A [(o, .inr (1, [.ref o_codes, .int vo_size])), (o_codes, .inl (cC, 70, .inl vo_codes))] s.heap.size = A at hD ⊢
  have hA : ∀ q : Nat, s.heap.size ≤ q → A q := fun q h => by rw [← hAe]; exact Or.inr h
  have hS : va_S A s.heap s.heap [] := va_S.rf
  have hP : va_P (dC, dI) vwCl [(o, .inr (1, [.ref o_codes, .int vo_size])), (o_codes, .inl (cC, 70, .inl vo_codes))] s.heap := hP
  have hK : va_K (dC, dI) vwCl (zTy cI cJ cC) s := hK
  have hl := lv_entry ([.ref o, .int p1]) (n := 2) (Nat.le_of_ble_eq_true rfl)
  rw [lg_entry_eq]
  generalize (lg_sl ([.ref o, .int p1]) ++ List.replicate (2 - (lg_sl ([.ref o, .int p1])).length) Slot.unset).toArray = ls at hl ⊢
  have hl : lv_has ls 2 [(0, .ref o), (1, .int p1)] := hl
  refine zz_start hP hS (fun Q hQ H locs hP hS => ?_)
  have hwX1 : ∀ w ∈ u_ws RX1 TX1 2, w ∈ wsX1_codeAt := by decide +kernel
  have hf_15 := (hts (.fieldLink RX1 15 "PouredTopmost$Page" "size" "I") (by decide +kernel))
  have hf_9 := (hts (.fieldLink RX1 9 "PouredTopmost$Page" "codes" "[C") (by decide +kernel))
  refine lv_iload_n hx hb dX1_codeAt_0 rfl (lv_at hl 1 rfl) ?_
  refine lv_if_lt (tgt := 21) hx hb dX1_codeAt_1 (by decide) (fun c_1 => ?_) (fun c_1 => ?_)
  · replace hT := cutT c_1 hT
    have g_4 := zltT (rfl : (p1).toInt = _) (by decide : ((0 : Int32)).toInt = 0) c_1
    refine lv_iconst (v := (0 : Int32)) hx hb dX1_codeAt_21 (by decide) ?_
    have hP9 := hP
    have hD9 := hD
    have hS9 := hS
    have hT : (0 : Int32) = r := hT
    subst hT
    subst hQ
    exact zz_zret hx hb hr (by first | rfl | exact hch _) [0, 1] hK hP9 hD9 hS9 rfl rfl (by first | rfl | exact hch _) hlocks dX1_codeAt_22
  · replace hT := cutF c_1 hT
    have g_5 := zltF (rfl : (p1).toInt = _) (by decide : ((0 : Int32)).toInt = 0) c_1
    refine lv_iload_n hx hb dX1_codeAt_4 rfl (lv_at hl 1 rfl) ?_
    refine lv_aload_n hx hb dX1_codeAt_5 rfl (lv_at hl 0 rfl) ?_
    refine va_get (D := (dC, dI)) (ci := 1) (v := .int vo_size) (C := RX1) (T := TX1) (N := 2) hx hb hts hwX1 hown hK hP 0 rfl rfl 1 (by decide) hf_15 (fun _ h9 => h9) rfl dX1_codeAt_6 ?_
    refine lv_icmp_ge (tgt := 21) hx hb dX1_codeAt_9 (by decide) (fun c_2 => ?_) (fun c_2 => ?_)
    · replace hT := cutT c_2 hT
      have g_6 := zleT (rfl : (vo_size).toInt = _) (rfl : (p1).toInt = _) c_2
      refine lv_iconst (v := (0 : Int32)) hx hb dX1_codeAt_21 (by decide) ?_
      have hP9 := hP
      have hD9 := hD
      have hS9 := hS
      have hT : (0 : Int32) = r := hT
      subst hT
      subst hQ
      exact zz_zret hx hb hr (by first | rfl | exact hch _) [0, 1] hK hP9 hD9 hS9 rfl rfl (by first | rfl | exact hch _) hlocks dX1_codeAt_22
    · replace hT := cutF c_2 hT
      have g_7 := zleF (rfl : (vo_size).toInt = _) (rfl : (p1).toInt = _) c_2
      refine lv_aload_n hx hb dX1_codeAt_12 rfl (lv_at hl 0 rfl) ?_
      refine va_get (D := (dC, dI)) (ci := 1) (v := .ref o_codes) (C := RX1) (T := TX1) (N := 2) hx hb hts hwX1 hown hK hP 0 rfl rfl 0 (by decide) hf_9 (fun _ h9 => h9) rfl dX1_codeAt_13 ?_
      refine lv_iload_n hx hb dX1_codeAt_16 rfl (lv_at hl 1 rfl) ?_
      have h_3 : vp_in p1 70 := zin (by omega) (by omega)
      refine va_cald hx hb hK hP 1 2 rfl rfl h_3 dX1_codeAt_17 ?_
      refine lv_goto (tgt := 22) hx hb dX1_codeAt_18 (by decide) ?_
      have hP9 := hP
      have hD9 := hD
      have hS9 := hS
      have hT : (vo_codes p1.toNatClampNeg) = r := hT
      subst hT
      subst hQ
      exact zz_zret hx hb hr (by first | rfl | exact hch _) [0, 1] hK hP9 hD9 hS9 rfl rfl (by first | rfl | exact hch _) hlocks dX1_codeAt_22
