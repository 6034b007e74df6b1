def m_X4_makeEmpty (vo_fill_inside : Nat → Int64) (vo_drunkFrom : Nat → Int64) : Int32 × Int64 × (Nat → Int64) × (Nat → Int64) :=
 cut2 (m_X0_makeEmpty vo_fill_inside) (fun (u1 : Int64) (u2 : Nat → Int64) =>
 cut (m_J7_fill_d0a16 vo_drunkFrom (0 : Int64)) (fun (u3 : Nat → Int64) =>
 ((0 : Int32), u1, u2, u3)))
set_option maxHeartbeats 4000000 in
set_option maxRecDepth 100000 in
theorem k_X4_makeEmpty (l : Launch) (dC : Nat → ClassId) (dI : Nat → Nat → Nat) (cI cJ cC : ClassId) (sz : Nat) (o o_fill o_drunkFrom o_turns o_fill_inside : Nat) (vo_poured : Int32) (vo_fill_spilt : Int64) (vo_fill_inside : Nat → Int64) (vo_drunkFrom : Nat → Int64) (qo_poured : Int32) (qo_fill_spilt : Int64) (qo_fill_inside : Nat → Int64) (qo_drunkFrom : Nat → Int64) (hT : m_X4_makeEmpty vo_fill_inside vo_drunkFrom = (qo_poured, qo_fill_spilt, qo_fill_inside, qo_drunkFrom)) : Met l yX4_makeEmpty wsX4_makeEmpty ({ frames := 2, cells := 0, slots := 0, locals := 44 }) (zPc [.ref o] (dC, dI) (zTy cI cJ cC) [(o, .inr (4, [.ref o_fill, .ref o_drunkFrom, .ref o_turns, .int vo_poured])), (o_fill, .inr (0, [.ref o_fill_inside, .long vo_fill_spilt])), (o_fill_inside, .inl (cJ, 9, .inr (.inl vo_fill_inside))), (o_drunkFrom, .inl (cJ, 9, .inr (.inl vo_drunkFrom)))] sz) (zQv (True) (dC, dI) (zTy cI cJ cC) [(o, .inr (4, [.ref o_fill, .ref o_drunkFrom, .ref o_turns, .int qo_poured])), (o_fill, .inr (0, [.ref o_fill_inside, .long qo_fill_spilt])), (o_fill_inside, .inl (cJ, 9, .inr (.inl qo_fill_inside))), (o_drunkFrom, .inl (cJ, 9, .inr (.inl qo_drunkFrom)))] (va_A [(o, .inr (4, [.ref o_fill, .ref o_drunkFrom, .ref o_turns, .int vo_poured])), (o_fill, .inr (0, [.ref o_fill_inside, .long vo_fill_spilt])), (o_fill_inside, .inl (cJ, 9, .inr (.inl vo_fill_inside))), (o_drunkFrom, .inl (cJ, 9, .inr (.inl vo_drunkFrom)))] sz)) 0 0 (va_A [(o, .inr (4, [.ref o_fill, .ref o_drunkFrom, .ref o_turns, .int vo_poured])), (o_fill, .inr (0, [.ref o_fill_inside, .long vo_fill_spilt])), (o_fill_inside, .inl (cJ, 9, .inr (.inl vo_fill_inside))), (o_drunkFrom, .inl (cJ, 9, .inr (.inl vo_drunkFrom)))] sz) := by
  refine Met.ofW (cc := cX4_makeEmpty) (maxL := 1) (ret := none) (by decide) rfl ?_
  intro p e s m args below meth c s₁ B hml hv
  obtain ⟨rfl, hsz, hP, hK, hD0⟩ := hv
  have hx := B.exec
  have hb := B.bytes
  have hr := B.returns
  have hts := atoms_spec (ws := wsX4_makeEmpty) B.pre
  have hown : s.vm.findClass RX4 = some m.cls := findClass_of_methodNamed B.named
  have hlocks := B.notSynchronized
  subst hsz
  have hD := hD0.self (sz := s.heap.size)
  generalize hAe : va_A [(o, .inr (4, [.ref o_fill, .ref o_drunkFrom, .ref o_turns, .int vo_poured])), (o_fill, .inr (0, [.ref o_fill_inside, .long vo_fill_spilt])), (o_fill_inside, .inl (cJ, 9, .inr (.inl vo_fill_inside))), (o_drunkFrom, .inl (cJ, 9, .inr (.inl vo_drunkFrom)))] s.heap.size = A at hD ⊢
  have hA : ∀ q : Nat, s.heap.size ≤ q → A q := fun q h => by rw [← hAe]; exact Or.inr h
  have hS : va_S A s.heap s.heap [] := va_S.rf
  have hP : va_P (dC, dI) vwCl [(o, .inr (4, [.ref o_fill, .ref o_drunkFrom, .ref o_turns, .int vo_poured])), (o_fill, .inr (0, [.ref o_fill_inside, .long vo_fill_spilt])), (o_fill_inside, .inl (cJ, 9, .inr (.inl vo_fill_inside))), (o_drunkFrom, .inl (cJ, 9, .inr (.inl vo_drunkFrom)))] s.heap := hP
  have hK : va_K (dC, dI) vwCl (zTy cI cJ cC) s := hK
  have hl := lv_entry ([.ref o]) (n := 1) (Nat.le_of_ble_eq_true rfl)
  rw [lg_entry_eq]
  generalize (lg_sl ([.ref o]) ++ List.replicate (1 - (lg_sl ([.ref o])).length) Slot.unset).toArray = ls at hl ⊢
  have hl : lv_has ls 1 [(0, .ref o)] := hl
  refine zz_start hP hS (fun Q hQ H locs hP hS => ?_)
  have hwX4 : ∀ w ∈ u_ws RX4 TX4 4, w ∈ wsX4_makeEmpty := by decide +kernel
  have hf_12 := (hts (.fieldLink RX4 12 "PouredTopmost$Table" "fill" "LPouredTopmost$Fill;") (by decide +kernel))
  have hf_18 := (hts (.fieldLink RX4 18 "PouredTopmost$Table" "drunkFrom" "[J") (by decide +kernel))
  have hf_38 := (hts (.fieldLink RX4 38 "PouredTopmost$Table" "poured" "I") (by decide +kernel))
  refine lv_aload_n hx hb dX4_makeEmpty_0 rfl (lv_at hl 0 rfl) ?_
  refine va_get (D := (dC, dI)) (ci := 4) (v := .ref o_fill) (C := RX4) (T := TX4) (N := 4) hx hb hts hwX4 hown hK hP 0 rfl rfl 0 (by decide) hf_12 (fun _ h9 => h9) rfl dX4_makeEmpty_1 ?_
  obtain ⟨u1, u2, ev_1⟩ : ∃ x0 x1, (m_X0_makeEmpty vo_fill_inside) = (x0, x1) := ⟨_, _, rfl⟩
  replace hT := cut2_n ev_1 hT
  refine zz_cv [1, 2] [0, 3] (wr := [(o, .inr (4, [.ref o_fill, .ref o_drunkFrom, .ref o_turns, .int vo_poured])), (o_drunkFrom, .inl (cJ, 9, .inr (.inl vo_drunkFrom)))]) (w1 := [(o_fill, .inr (0, [.ref o_fill_inside, .long u1])), (o_fill_inside, .inl (cJ, 9, .inr (.inl u2)))]) (va_runV (As := []) (rest := []) ⟨hx, hb, hml, hown, hts⟩ (k_X0_makeEmpty l dC dI cI cJ cC H.size o_fill o_fill_inside vo_fill_spilt vo_fill_inside u1 u2 ev_1) (cwV 0 hts gX4_makeEmpty_X0_makeEmpty rfl rfl rfl (by decide +kernel) ⟨Nat.le_of_ble_eq_true rfl, Nat.le_of_ble_eq_true rfl⟩) (zz_preV [1, 2] hK hP hD rfl rfl (va_recv hK hP (ci := 0) (q0 := 1) rfl rfl)) rfl rfl hl.1 rfl (lv_room (Nat.le_of_ble_eq_true rfl)) dX4_makeEmpty_4 ⟨Nat.zero_le _, Nat.zero_le _⟩) hP hD hS hA rfl rfl rfl (by decide) (fun ok_2 H locs hP hD hS => ?_)
  have hP : va_P (dC, dI) vwCl [(o, .inr (4, [.ref o_fill, .ref o_drunkFrom, .ref o_turns, .int vo_poured])), (o_drunkFrom, .inl (cJ, 9, .inr (.inl vo_drunkFrom))), (o_fill, .inr (0, [.ref o_fill_inside, .long u1])), (o_fill_inside, .inl (cJ, 9, .inr (.inl u2)))] H := hP
  have hD : va_D A [(o, .inr (4, [.ref o_fill, .ref o_drunkFrom, .ref o_turns, .int vo_poured])), (o_drunkFrom, .inl (cJ, 9, .inr (.inl vo_drunkFrom))), (o_fill, .inr (0, [.ref o_fill_inside, .long u1])), (o_fill_inside, .inl (cJ, 9, .inr (.inl u2)))] := hD
  refine lv_aload_n hx hb dX4_makeEmpty_7 rfl (lv_at hl 0 rfl) ?_
  refine va_get (D := (dC, dI)) (ci := 4) (v := .ref o_drunkFrom) (C := RX4) (T := TX4) (N := 4) hx hb hts hwX4 hown hK hP 0 rfl rfl 1 (by decide) hf_18 (fun _ h9 => h9) rfl dX4_makeEmpty_8 ?_
  refine lv_lconst (v := (0 : Int64)) hx hb dX4_makeEmpty_11 (by decide) ?_
  obtain ⟨u3, ev_3⟩ : ∃ x0, (m_J7_fill_d0a16 vo_drunkFrom (0 : Int64)) = x0 := ⟨_, rfl⟩
  replace hT := cut_n ev_3 hT
  refine zz_cv [1] [0, 2, 3] (wr := [(o, .inr (4, [.ref o_fill, .ref o_drunkFrom, .ref o_turns, .int vo_poured])), (o_fill, .inr (0, [.ref o_fill_inside, .long u1])), (o_fill_inside, .inl (cJ, 9, .inr (.inl u2)))]) (w1 := [(o_drunkFrom, .inl (cJ, 9, .inr (.inl u3)))]) (va_runS (As := [.ref o_drunkFrom, .long (0 : Int64)]) (rest := []) ⟨hx, hb, hml, hown, hts⟩ (k_J7_fill_d0a16 l dC dI cI cJ cC H.size o_drunkFrom vo_drunkFrom (0 : Int64) u3 ev_3) (va_cwS 2 hts gX4_makeEmpty_J7_fill_d0a16 rfl rfl rfl (by decide +kernel) ⟨Nat.le_of_ble_eq_true rfl, Nat.le_of_ble_eq_true rfl⟩) (zz_preS [1] hK hP hD rfl rfl) rfl rfl hl.1 rfl (lv_room (Nat.le_of_ble_eq_true rfl)) dX4_makeEmpty_12 ⟨Nat.zero_le _, Nat.zero_le _⟩) hP hD hS hA rfl rfl rfl (by decide) (fun ok_4 H locs hP hD hS => ?_)
  have hP : va_P (dC, dI) vwCl [(o, .inr (4, [.ref o_fill, .ref o_drunkFrom, .ref o_turns, .int vo_poured])), (o_fill, .inr (0, [.ref o_fill_inside, .long u1])), (o_fill_inside, .inl (cJ, 9, .inr (.inl u2))), (o_drunkFrom, .inl (cJ, 9, .inr (.inl u3)))] H := hP
  have hD : va_D A [(o, .inr (4, [.ref o_fill, .ref o_drunkFrom, .ref o_turns, .int vo_poured])), (o_fill, .inr (0, [.ref o_fill_inside, .long u1])), (o_fill_inside, .inl (cJ, 9, .inr (.inl u2))), (o_drunkFrom, .inl (cJ, 9, .inr (.inl u3)))] := hD
  refine lv_aload_n hx hb dX4_makeEmpty_15 rfl (lv_at hl 0 rfl) ?_
  refine lv_iconst (v := (0 : Int32)) hx hb dX4_makeEmpty_16 (by decide) ?_
  refine va_put (D := (dC, dI)) (ci := 4) (v := .int (0 : Int32)) (ty := .int) (C := RX4) (T := TX4) (N := 4) hx hb hts hwX4 tyX4 tyX4_ok nmX4 hown hK hP hD hS 0 rfl rfl 3 (by decide) hf_38 (fun _ h9 => h9) rfl (by decide +kernel) rfl rfl (Nat.le_of_ble_eq_true rfl) dX4_makeEmpty_17 (fun H locs hP hD hS => ?_)
  have hP : va_P (dC, dI) vwCl [(o, .inr (4, [.ref o_fill, .ref o_drunkFrom, .ref o_turns, .int (0 : Int32)])), (o_fill, .inr (0, [.ref o_fill_inside, .long u1])), (o_fill_inside, .inl (cJ, 9, .inr (.inl u2))), (o_drunkFrom, .inl (cJ, 9, .inr (.inl u3)))] H := hP
  have hD : va_D A [(o, .inr (4, [.ref o_fill, .ref o_drunkFrom, .ref o_turns, .int (0 : Int32)])), (o_fill, .inr (0, [.ref o_fill_inside, .long u1])), (o_fill_inside, .inl (cJ, 9, .inr (.inl u2))), (o_drunkFrom, .inl (cJ, 9, .inr (.inl u3)))] := hD
  have hP9 := hP
  have hD9 := hD
  have hS9 := hS
  have hT : ((0 : Int32), u1, u2, u3) = (qo_poured, qo_fill_spilt, qo_fill_inside, qo_drunkFrom) := hT
  cases hT
  subst hQ
  exact zz_vret hx hb hr [0, 1, 2, 3] hK hP9 hD9 hS9 rfl rfl trivial hlocks dX4_makeEmpty_20

def m_X4_makeNew (vo_fill_inside : Nat → Int64) (vo_drunkFrom : Nat → Int64) (vo_turns : Nat → Int32) : Int32 × Int64 × (Nat → Int64) × (Nat → Int64) × (Nat → Int32) :=
 cut4 (m_X4_makeEmpty vo_fill_inside vo_drunkFrom) (fun (u1 : Int32) (u2 : Int64) (u3 : Nat → Int64) (u4 : Nat → Int64) =>
 cut (m_J7_fill_53178 vo_turns (0 : Int32)) (fun (u5 : Nat → Int32) =>
 (u1, u2, u3, u4, u5)))
set_option maxHeartbeats 4000000 in
set_option maxRecDepth 100000 in
theorem k_X4_makeNew (l : Launch) (dC : Nat → ClassId) (dI : Nat → Nat → Nat) (cI cJ cC : ClassId) (sz : Nat) (o o_fill o_drunkFrom o_turns o_fill_inside : Nat) (vo_poured : Int32) (vo_fill_spilt : Int64) (vo_fill_inside : Nat → Int64) (vo_drunkFrom : Nat → Int64) (vo_turns : Nat → Int32) (qo_poured : Int32) (qo_fill_spilt : Int64) (qo_fill_inside : Nat → Int64) (qo_drunkFrom : Nat → Int64) (qo_turns : Nat → Int32) (hT : m_X4_makeNew vo_fill_inside vo_drunkFrom vo_turns = (qo_poured, qo_fill_spilt, qo_fill_inside, qo_drunkFrom, qo_turns)) : Met l yX4_makeNew wsX4_makeNew ({ frames := 3, cells := 0, slots := 0, locals := 64 }) (zPc [.ref o] (dC, dI) (zTy cI cJ cC) [(o, .inr (4, [.ref o_fill, .ref o_drunkFrom, .ref o_turns, .int vo_poured])), (o_fill, .inr (0, [.ref o_fill_inside, .long vo_fill_spilt])), (o_fill_inside, .inl (cJ, 9, .inr (.inl vo_fill_inside))), (o_drunkFrom, .inl (cJ, 9, .inr (.inl vo_drunkFrom))), (o_turns, .inl (cI, 9, .inl vo_turns))] sz) (zQv (True) (dC, dI) (zTy cI cJ cC) [(o, .inr (4, [.ref o_fill, .ref o_drunkFrom, .ref o_turns, .int qo_poured])), (o_fill, .inr (0, [.ref o_fill_inside, .long qo_fill_spilt])), (o_fill_inside, .inl (cJ, 9, .inr (.inl qo_fill_inside))), (o_drunkFrom, .inl (cJ, 9, .inr (.inl qo_drunkFrom))), (o_turns, .inl (cI, 9, .inl qo_turns))] (va_A [(o, .inr (4, [.ref o_fill, .ref o_drunkFrom, .ref o_turns, .int vo_poured])), (o_fill, .inr (0, [.ref o_fill_inside, .long vo_fill_spilt])), (o_fill_inside, .inl (cJ, 9, .inr (.inl vo_fill_inside))), (o_drunkFrom, .inl (cJ, 9, .inr (.inl vo_drunkFrom))), (o_turns, .inl (cI, 9, .inl vo_turns))] sz)) 0 0 (va_A [(o, .inr (4, [.ref o_fill, .ref o_drunkFrom, .ref o_turns, .int vo_poured])), (o_fill, .inr (0, [.ref o_fill_inside, .long vo_fill_spilt])), (o_fill_inside, .inl (cJ, 9, .inr (.inl vo_fill_inside))), (o_drunkFrom, .inl (cJ, 9, .inr (.inl vo_drunkFrom))), (o_turns, .inl (cI, 9, .inl vo_turns))] sz) := by
  refine Met.ofW (cc := cX4_makeNew) (maxL := 1) (ret := none) (by decide) rfl ?_
  intro p e s m args below meth c s₁ B hml hv
  obtain ⟨rfl, hsz, hP, hK, hD0⟩ := hv
  have hx := B.exec
  have hb := B.bytes
  have hr := B.returns
  have hts := atoms_spec (ws := wsX4_makeNew) B.pre
  have hown : s.vm.findClass RX4 = some m.cls := findClass_of_methodNamed B.named
  have hlocks := B.notSynchronized
  subst hsz
  have hD := hD0.self (sz := s.heap.size)
  generalize hAe : va_A [(o, .inr (4, [.ref o_fill, .ref o_drunkFrom, .ref o_turns, .int vo_poured])), (o_fill, .inr (0, [.ref o_fill_inside, .long vo_fill_spilt])), (o_fill_inside, .inl (cJ, 9, .inr (.inl vo_fill_inside))), (o_drunkFrom, .inl (cJ, 9, .inr (.inl vo_drunkFrom))), (o_turns, .inl (cI, 9, .inl vo_turns))] s.heap.size = A at hD ⊢
  have hA : ∀ q : Nat, s.heap.size ≤ q → A q := fun q h => by rw [← hAe]; exact Or.inr h
  have hS : va_S A s.heap s.heap [] := va_S.rf
  have hP : va_P (dC, dI) vwCl [(o, .inr (4, [.ref o_fill, .ref o_drunkFrom, .ref o_turns, .int vo_poured])), (o_fill, .inr (0, [.ref o_fill_inside, .long vo_fill_spilt])), (o_fill_inside, .inl (cJ, 9, .inr (.inl vo_fill_inside))), (o_drunkFrom, .inl (cJ, 9, .inr (.inl vo_drunkFrom))), (o_turns, .inl (cI, 9, .inl vo_turns))] s.heap := hP
  have hK : va_K (dC, dI) vwCl (zTy cI cJ cC) s := hK
  have hl := lv_entry ([.ref o]) (n := 1) (Nat.le_of_ble_eq_true rfl)
  rw [lg_entry_eq]
  generalize (lg_sl ([.ref o]) ++ List.replicate (1 - (lg_sl ([.ref o])).length) Slot.unset).toArray = ls at hl ⊢
  have hl : lv_has ls 1 [(0, .ref o)] := hl
  refine zz_start hP hS (fun Q hQ H locs hP hS => ?_)
  have hwX4 : ∀ w ∈ u_ws RX4 TX4 4, w ∈ wsX4_makeNew := by decide +kernel
  have hf_22 := (hts (.fieldLink RX4 22 "PouredTopmost$Table" "turns" "[I") (by decide +kernel))
  refine lv_aload_n hx hb dX4_makeNew_0 rfl (lv_at hl 0 rfl) ?_
  obtain ⟨u1, u2, u3, u4, ev_1⟩ : ∃ x0 x1 x2 x3, (m_X4_makeEmpty vo_fill_inside vo_drunkFrom) = (x0, x1, x2, x3) := ⟨_, _, _, _, rfl⟩
  replace hT := cut4_n ev_1 hT
  refine zz_cv [0, 1, 2, 3] [4] (wr := [(o_turns, .inl (cI, 9, .inl vo_turns))]) (w1 := [(o, .inr (4, [.ref o_fill, .ref o_drunkFrom, .ref o_turns, .int u1])), (o_fill, .inr (0, [.ref o_fill_inside, .long u2])), (o_fill_inside, .inl (cJ, 9, .inr (.inl u3))), (o_drunkFrom, .inl (cJ, 9, .inr (.inl u4)))]) (va_runV (As := []) (rest := []) ⟨hx, hb, hml, hown, hts⟩ (k_X4_makeEmpty l dC dI cI cJ cC H.size o o_fill o_drunkFrom o_turns o_fill_inside vo_poured vo_fill_spilt vo_fill_inside vo_drunkFrom u1 u2 u3 u4 ev_1) (cwV 0 hts gX4_makeNew_X4_makeEmpty rfl rfl rfl (by decide +kernel) ⟨Nat.le_of_ble_eq_true rfl, Nat.le_of_ble_eq_true rfl⟩) (zz_preV [0, 1, 2, 3] hK hP hD rfl rfl (va_recv hK hP (ci := 4) (q0 := 0) rfl rfl)) rfl rfl hl.1 rfl (lv_room (Nat.le_of_ble_eq_true rfl)) dX4_makeNew_1 ⟨Nat.zero_le _, Nat.zero_le _⟩) hP hD hS hA rfl rfl rfl (by decide) (fun ok_2 H locs hP hD hS => ?_)
  have hP : va_P (dC, dI) vwCl [(o_turns, .inl (cI, 9, .inl vo_turns)), (o, .inr (4, [.ref o_fill, .ref o_drunkFrom, .ref o_turns, .int u1])), (o_fill, .inr (0, [.ref o_fill_inside, .long u2])), (o_fill_inside, .inl (cJ, 9, .inr (.inl u3))), (o_drunkFrom, .inl (cJ, 9, .inr (.inl u4)))] H := hP
  have hD : va_D A [(o_turns, .inl (cI, 9, .inl vo_turns)), (o, .inr (4, [.ref o_fill, .ref o_drunkFrom, .ref o_turns, .int u1])), (o_fill, .inr (0, [.ref o_fill_inside, .long u2])), (o_fill_inside, .inl (cJ, 9, .inr (.inl u3))), (o_drunkFrom, .inl (cJ, 9, .inr (.inl u4)))] := hD
  refine lv_aload_n hx hb dX4_makeNew_4 rfl (lv_at hl 0 rfl) ?_
  refine va_get (D := (dC, dI)) (ci := 4) (v := .ref o_turns) (C := RX4) (T := TX4) (N := 4) hx hb hts hwX4 hown hK hP 1 rfl rfl 2 (by decide) hf_22 (fun _ h9 => h9) rfl dX4_makeNew_5 ?_
  refine lv_iconst (v := (0 : Int32)) hx hb dX4_makeNew_8 (by decide) ?_
  obtain ⟨u5, ev_3⟩ : ∃ x0, (m_J7_fill_53178 vo_turns (0 : Int32)) = x0 := ⟨_, rfl⟩
  replace hT := cut_n ev_3 hT
  refine zz_cv [0] [1, 2, 3, 4] (wr := [(o, .inr (4, [.ref o_fill, .ref o_drunkFrom, .ref o_turns, .int u1])), (o_fill, .inr (0, [.ref o_fill_inside, .long u2])), (o_fill_inside, .inl (cJ, 9, .inr (.inl u3))), (o_drunkFrom, .inl (cJ, 9, .inr (.inl u4)))]) (w1 := [(o_turns, .inl (cI, 9, .inl u5))]) (va_runS (As := [.ref o_turns, .int (0 : Int32)]) (rest := []) ⟨hx, hb, hml, hown, hts⟩ (k_J7_fill_53178 l dC dI cI cJ cC H.size o_turns vo_turns (0 : Int32) u5 ev_3) (va_cwS 2 hts gX4_makeNew_J7_fill_53178 rfl rfl rfl (by decide +kernel) ⟨Nat.le_of_ble_eq_true rfl, Nat.le_of_ble_eq_true rfl⟩) (zz_preS [0] hK hP hD rfl rfl) rfl rfl hl.1 rfl (lv_room (Nat.le_of_ble_eq_true rfl)) dX4_makeNew_9 ⟨Nat.zero_le _, Nat.zero_le _⟩) hP hD hS hA rfl rfl rfl (by decide) (fun ok_4 H locs hP hD hS => ?_)
  have hP : va_P (dC, dI) vwCl [(o, .inr (4, [.ref o_fill, .ref o_drunkFrom, .ref o_turns, .int u1])), (o_fill, .inr (0, [.ref o_fill_inside, .long u2])), (o_fill_inside, .inl (cJ, 9, .inr (.inl u3))), (o_drunkFrom, .inl (cJ, 9, .inr (.inl u4))), (o_turns, .inl (cI, 9, .inl u5))] H := hP
  have hD : va_D A [(o, .inr (4, [.ref o_fill, .ref o_drunkFrom, .ref o_turns, .int u1])), (o_fill, .inr (0, [.ref o_fill_inside, .long u2])), (o_fill_inside, .inl (cJ, 9, .inr (.inl u3))), (o_drunkFrom, .inl (cJ, 9, .inr (.inl u4))), (o_turns, .inl (cI, 9, .inl u5))] := hD
  have hP9 := hP
  have hD9 := hD
  have hS9 := hS
  have hT : (u1, u2, u3, u4, u5) = (qo_poured, qo_fill_spilt, qo_fill_inside, qo_drunkFrom, qo_turns) := hT
  cases hT
  subst hQ
  exact zz_vret hx hb hr [0, 1, 2, 3, 4] hK hP9 hD9 hS9 rfl rfl trivial hlocks dX4_makeNew_12

def m_X4_copyFrom (vo_fill_inside : Nat → Int64) (vo_drunkFrom : Nat → Int64) (vo_turns : Nat → Int32) (vp1_poured : Int32) (vp1_fill_spilt : Int64) (vp1_fill_inside : Nat → Int64) (vp1_drunkFrom : Nat → Int64) (vp1_turns : Nat → Int32) : Int32 × Int64 × (Nat → Int64) × (Nat → Int64) × (Nat → Int32) :=
 cut2 (m_X0_copyFrom vo_fill_inside vp1_fill_spilt vp1_fill_inside) (fun (u1 : Int64) (u2 : Nat → Int64) =>
 cut (va_cpy vp1_drunkFrom vo_drunkFrom (0 : Int32).toNatClampNeg (0 : Int32).toNatClampNeg (9 : Int32).toNatClampNeg) (fun (a3 : Nat → Int64) =>
 cut (va_cpy vp1_turns vo_turns (0 : Int32).toNatClampNeg (0 : Int32).toNatClampNeg (9 : Int32).toNatClampNeg) (fun (a4 : Nat → Int32) =>
 (vp1_poured, u1, u2, a3, a4))))
set_option maxHeartbeats 4000000 in
set_option maxRecDepth 100000 in
theorem k_X4_copyFrom (l : Launch) (dC : Nat → ClassId) (dI : Nat → Nat → Nat) (cI cJ cC : ClassId) (sz : Nat) (o o_fill o_drunkFrom o_turns o_fill_inside p1 p1_fill p1_drunkFrom p1_turns p1_fill_inside : Nat) (vo_poured : Int32) (vo_fill_spilt : Int64) (vo_fill_inside : Nat → Int64) (vo_drunkFrom : Nat → Int64) (vo_turns : Nat → Int32) (vp1_poured : Int32) (vp1_fill_spilt : Int64) (vp1_fill_inside : Nat → Int64) (vp1_drunkFrom : Nat → Int64) (vp1_turns : Nat → Int32) (qo_poured : Int32) (qo_fill_spilt : Int64) (qo_fill_inside : Nat → Int64) (qo_drunkFrom : Nat → Int64) (qo_turns : Nat → Int32) (hT : m_X4_copyFrom vo_fill_inside vo_drunkFrom vo_turns vp1_poured vp1_fill_spilt vp1_fill_inside vp1_drunkFrom vp1_turns = (qo_poured, qo_fill_spilt, qo_fill_inside, qo_drunkFrom, qo_turns)) : Met l yX4_copyFrom wsX4_copyFrom ({ frames := 2, cells := 0, slots := 0, locals := 81 }) (zPc [.ref o, .ref p1] (dC, dI) (zTy cI cJ cC) [(o, .inr (4, [.ref o_fill, .ref o_drunkFrom, .ref o_turns, .int vo_poured])), (o_fill, .inr (0, [.ref o_fill_inside, .long vo_fill_spilt])), (o_fill_inside, .inl (cJ, 9, .inr (.inl vo_fill_inside))), (o_drunkFrom, .inl (cJ, 9, .inr (.inl vo_drunkFrom))), (o_turns, .inl (cI, 9, .inl vo_turns)), (p1, .inr (4, [.ref p1_fill, .ref p1_drunkFrom, .ref p1_turns, .int vp1_poured])), (p1_fill, .inr (0, [.ref p1_fill_inside, .long vp1_fill_spilt])), (p1_fill_inside, .inl (cJ, 9, .inr (.inl vp1_fill_inside))), (p1_drunkFrom, .inl (cJ, 9, .inr (.inl vp1_drunkFrom))), (p1_turns, .inl (cI, 9, .inl vp1_turns))] sz) (zQv (True) (dC, dI) (zTy cI cJ cC) [(o, .inr (4, [.ref o_fill, .ref o_drunkFrom, .ref o_turns, .int qo_poured])), (o_fill, .inr (0, [.ref o_fill_inside, .long qo_fill_spilt])), (o_fill_inside, .inl (cJ, 9, .inr (.inl qo_fill_inside))), (o_drunkFrom, .inl (cJ, 9, .inr (.inl qo_drunkFrom))), (o_turns, .inl (cI, 9, .inl qo_turns)), (p1, .inr (4, [.ref p1_fill, .ref p1_drunkFrom, .ref p1_turns, .int vp1_poured])), (p1_fill, .inr (0, [.ref p1_fill_inside, .long vp1_fill_spilt])), (p1_fill_inside, .inl (cJ, 9, .inr (.inl vp1_fill_inside))), (p1_drunkFrom, .inl (cJ, 9, .inr (.inl vp1_drunkFrom))), (p1_turns, .inl (cI, 9, .inl vp1_turns))] (va_A [(o, .inr (4, [.ref o_fill, .ref o_drunkFrom, .ref o_turns, .int vo_poured])), (o_fill, .inr (0, [.ref o_fill_inside, .long vo_fill_spilt])), (o_fill_inside, .inl (cJ, 9, .inr (.inl vo_fill_inside))), (o_drunkFrom, .inl (cJ, 9, .inr (.inl vo_drunkFrom))), (o_turns, .inl (cI, 9, .inl vo_turns)), (p1, .inr (4, [.ref p1_fill, .ref p1_drunkFrom, .ref p1_turns, .int vp1_poured])), (p1_fill, .inr (0, [.ref p1_fill_inside, .long vp1_fill_spilt])), (p1_fill_inside, .inl (cJ, 9, .inr (.inl vp1_fill_inside))), (p1_drunkFrom, .inl (cJ, 9, .inr (.inl vp1_drunkFrom))), (p1_turns, .inl (cI, 9, .inl vp1_turns))] sz)) 0 0 (va_A [(o, .inr (4, [.ref o_fill, .ref o_drunkFrom, .ref o_turns, .int vo_poured])), (o_fill, .inr (0, [.ref o_fill_inside, .long vo_fill_spilt])), (o_fill_inside, .inl (cJ, 9, .inr (.inl vo_fill_inside))), (o_drunkFrom, .inl (cJ, 9, .inr (.inl vo_drunkFrom))), (o_turns, .inl (cI, 9, .inl vo_turns)), (p1, .inr (4, [.ref p1_fill, .ref p1_drunkFrom, .ref p1_turns, .int vp1_poured])), (p1_fill, .inr (0, [.ref p1_fill_inside, .long vp1_fill_spilt])), (p1_fill_inside, .inl (cJ, 9, .inr (.inl vp1_fill_inside))), (p1_drunkFrom, .inl (cJ, 9, .inr (.inl vp1_drunkFrom))), (p1_turns, .inl (cI, 9, .inl vp1_turns))] sz) := by
  refine Met.ofW (cc := cX4_copyFrom) (maxL := 2) (ret := none) (by decide) rfl ?_
  intro p e s m args below meth c s₁ B hml hv
  obtain ⟨rfl, hsz, hP, hK, hD0⟩ := hv
  have hx := B.exec
  have hb := B.bytes
  have hr := B.returns
  have hts := atoms_spec (ws := wsX4_copyFrom) B.pre
  have hown : s.vm.findClass RX4 = some m.cls := findClass_of_methodNamed B.named
  have hlocks := B.notSynchronized
  subst hsz
  have hD := hD0.self (sz := s.heap.size)
  generalize hAe : va_A [(o, .inr (4, [.ref o_fill, .ref o_drunkFrom, .ref o_turns, .int vo_poured])), (o_fill, .inr (0, [.ref o_fill_inside, .long vo_fill_spilt])), (o_fill_inside, .inl (cJ, 9, .inr (.inl vo_fill_inside))), (o_drunkFrom, .inl (cJ, 9, .inr (.inl vo_drunkFrom))), (o_turns, .inl (cI, 9, .inl vo_turns)), (p1, .inr (4, [.ref p1_fill, .ref p1_drunkFrom, .ref p1_turns, .int vp1_poured])), (p1_fill, .inr (0, [.ref p1_fill_inside, .long vp1_fill_spilt])), (p1_fill_inside, .inl (cJ, 9, .inr (.inl vp1_fill_inside))), (p1_drunkFrom, .inl (cJ, 9, .inr (.inl vp1_drunkFrom))), (p1_turns, .inl (cI, 9, .inl vp1_turns))] s.heap.size = A at hD ⊢
  have hA : ∀ q : Nat, s.heap.size ≤ q → A q := fun q h => by rw [← hAe]; exact Or.inr h
  have hS : va_S A s.heap s.heap [] := va_S.rf
  have hP : va_P (dC, dI) vwCl [(o, .inr (4, [.ref o_fill, .ref o_drunkFrom, .ref o_turns, .int vo_poured])), (o_fill, .inr (0, [.ref o_fill_inside, .long vo_fill_spilt])), (o_fill_inside, .inl (cJ, 9, .inr (.inl vo_fill_inside))), (o_drunkFrom, .inl (cJ, 9, .inr (.inl vo_drunkFrom))), (o_turns, .inl (cI, 9, .inl vo_turns)), (p1, .inr (4, [.ref p1_fill, .ref p1_drunkFrom, .ref p1_turns, .int vp1_poured])), (p1_fill, .inr (0, [.ref p1_fill_inside, .long vp1_fill_spilt])), (p1_fill_inside, .inl (cJ, 9, .inr (.inl vp1_fill_inside))), (p1_drunkFrom, .inl (cJ, 9, .inr (.inl vp1_drunkFrom))), (p1_turns, .inl (cI, 9, .inl vp1_turns))] s.heap := hP
  have hK : va_K (dC, dI) vwCl (zTy cI cJ cC) s := hK
  have hl := lv_entry ([.ref o, .ref p1]) (n := 2) (Nat.le_of_ble_eq_true rfl)
  rw [lg_entry_eq]
  generalize (lg_sl ([.ref o, .ref p1]) ++ List.replicate (2 - (lg_sl ([.ref o, .ref p1])).length) Slot.unset).toArray = ls at hl ⊢
  have hl : lv_has ls 2 [(0, .ref o), (1, .ref p1)] := hl
  refine zz_start hP hS (fun Q hQ H locs hP hS => ?_)
  have hwX4 : ∀ w ∈ u_ws RX4 TX4 4, w ∈ wsX4_copyFrom := by decide +kernel
  have hm_46 := (hts (.methodLink RX4 46 arraycopyName) (by decide +kernel))
  have hac_i := (hts (.initialized "java/lang/System") (by decide +kernel))
  have hac_n := (hts (.native arraycopyName) (by decide +kernel))
  have hac_s := (hts (.static arraycopyName) (by decide +kernel))
  have hf_12 := (hts (.fieldLink RX4 12 "PouredTopmost$Table" "fill" "LPouredTopmost$Fill;") (by decide +kernel))
  have hf_18 := (hts (.fieldLink RX4 18 "PouredTopmost$Table" "drunkFrom" "[J") (by decide +kernel))
  have hf_22 := (hts (.fieldLink RX4 22 "PouredTopmost$Table" "turns" "[I") (by decide +kernel))
  have hf_38 := (hts (.fieldLink RX4 38 "PouredTopmost$Table" "poured" "I") (by decide +kernel))
  refine lv_aload_n hx hb dX4_copyFrom_0 rfl (lv_at hl 0 rfl) ?_
  refine va_get (D := (dC, dI)) (ci := 4) (v := .ref o_fill) (C := RX4) (T := TX4) (N := 4) hx hb hts hwX4 hown hK hP 0 rfl rfl 0 (by decide) hf_12 (fun _ h9 => h9) rfl dX4_copyFrom_1 ?_
  refine lv_aload_n hx hb dX4_copyFrom_4 rfl (lv_at hl 1 rfl) ?_
  refine va_get (D := (dC, dI)) (ci := 4) (v := .ref p1_fill) (C := RX4) (T := TX4) (N := 4) hx hb hts hwX4 hown hK hP 5 rfl rfl 0 (by decide) hf_12 (fun _ h9 => h9) rfl dX4_copyFrom_5 ?_
  obtain ⟨u1, u2, ev_1⟩ : ∃ x0 x1, (m_X0_copyFrom vo_fill_inside vp1_fill_spilt vp1_fill_inside) = (x0, x1) := ⟨_, _, rfl⟩
  replace hT := cut2_n ev_1 hT
  refine zz_cv [1, 2, 6, 7] [0, 3, 4, 5, 8, 9] (wr := [(o, .inr (4, [.ref o_fill, .ref o_drunkFrom, .ref o_turns, .int vo_poured])), (o_drunkFrom, .inl (cJ, 9, .inr (.inl vo_drunkFrom))), (o_turns, .inl (cI, 9, .inl vo_turns)), (p1, .inr (4, [.ref p1_fill, .ref p1_drunkFrom, .ref p1_turns, .int vp1_poured])), (p1_drunkFrom, .inl (cJ, 9, .inr (.inl vp1_drunkFrom))), (p1_turns, .inl (cI, 9, .inl vp1_turns))]) (w1 := [(o_fill, .inr (0, [.ref o_fill_inside, .long u1])), (o_fill_inside, .inl (cJ, 9, .inr (.inl u2))), (p1_fill, .inr (0, [.ref p1_fill_inside, .long vp1_fill_spilt])), (p1_fill_inside, .inl (cJ, 9, .inr (.inl vp1_fill_inside)))]) (va_runV (As := [.ref p1_fill]) (rest := []) ⟨hx, hb, hml, hown, hts⟩ (k_X0_copyFrom l dC dI cI cJ cC H.size o_fill o_fill_inside p1_fill p1_fill_inside vo_fill_spilt vo_fill_inside vp1_fill_spilt vp1_fill_inside u1 u2 ev_1) (cwV 1 hts gX4_copyFrom_X0_copyFrom rfl rfl rfl (by decide +kernel) ⟨Nat.le_of_ble_eq_true rfl, Nat.le_of_ble_eq_true rfl⟩) (zz_preV [1, 2, 6, 7] hK hP hD rfl rfl (va_recv hK hP (ci := 0) (q0 := 1) rfl rfl)) rfl rfl hl.1 rfl (lv_room (Nat.le_of_ble_eq_true rfl)) dX4_copyFrom_8 ⟨Nat.zero_le _, Nat.zero_le _⟩) hP hD hS hA rfl rfl rfl (by decide) (fun ok_2 H locs hP hD hS => ?_)
  have hP : va_P (dC, dI) vwCl [(o, .inr (4, [.ref o_fill, .ref o_drunkFrom, .ref o_turns, .int vo_poured])), (o_drunkFrom, .inl (cJ, 9, .inr (.inl vo_drunkFrom))), (o_turns, .inl (cI, 9, .inl vo_turns)), (p1, .inr (4, [.ref p1_fill, .ref p1_drunkFrom, .ref p1_turns, .int vp1_poured])), (p1_drunkFrom, .inl (cJ, 9, .inr (.inl vp1_drunkFrom))), (p1_turns, .inl (cI, 9, .inl vp1_turns)), (o_fill, .inr (0, [.ref o_fill_inside, .long u1])), (o_fill_inside, .inl (cJ, 9, .inr (.inl u2))), (p1_fill, .inr (0, [.ref p1_fill_inside, .long vp1_fill_spilt])), (p1_fill_inside, .inl (cJ, 9, .inr (.inl vp1_fill_inside)))] H := hP
  have hD : va_D A [(o, .inr (4, [.ref o_fill, .ref o_drunkFrom, .ref o_turns, .int vo_poured])), (o_drunkFrom, .inl (cJ, 9, .inr (.inl vo_drunkFrom))), (o_turns, .inl (cI, 9, .inl vo_turns)), (p1, .inr (4, [.ref p1_fill, .ref p1_drunkFrom, .ref p1_turns, .int vp1_poured])), (p1_drunkFrom, .inl (cJ, 9, .inr (.inl vp1_drunkFrom))), (p1_turns, .inl (cI, 9, .inl vp1_turns)), (o_fill, .inr (0, [.ref o_fill_inside, .long u1])), (o_fill_inside, .inl (cJ, 9, .inr (.inl u2))), (p1_fill, .inr (0, [.ref p1_fill_inside, .long vp1_fill_spilt])), (p1_fill_inside, .inl (cJ, 9, .inr (.inl vp1_fill_inside)))] := hD
  refine lv_aload_n hx hb dX4_copyFrom_11 rfl (lv_at hl 1 rfl) ?_
  refine va_get (D := (dC, dI)) (ci := 4) (v := .ref p1_drunkFrom) (C := RX4) (T := TX4) (N := 4) hx hb hts hwX4 hown hK hP 3 rfl rfl 1 (by decide) hf_18 (fun _ h9 => h9) rfl dX4_copyFrom_12 ?_
  refine lv_iconst (v := (0 : Int32)) hx hb dX4_copyFrom_15 (by decide) ?_
  refine lv_aload_n hx hb dX4_copyFrom_16 rfl (lv_at hl 0 rfl) ?_
  refine va_get (D := (dC, dI)) (ci := 4) (v := .ref o_drunkFrom) (C := RX4) (T := TX4) (N := 4) hx hb hts hwX4 hown hK hP 0 rfl rfl 1 (by decide) hf_18 (fun _ h9 => h9) rfl dX4_copyFrom_17 ?_
  refine lv_iconst (v := (0 : Int32)) hx hb dX4_copyFrom_20 (by decide) ?_
  refine lv_bipush (v := (9 : Int32)) hx hb dX4_copyFrom_21 (by decide) ?_
  refine va_copyl hx hb (by rw [hml]; exact hl.1.symm) hown hm_46 hac_n hac_s hac_i hK hP hD hS 4 1 1 1 rfl rfl rfl rfl rfl (by decide) (by decide) (by decide) (by decide) (by decide) (fun i hi => rfl) (Nat.le_of_ble_eq_true rfl) (by decide +kernel) dX4_copyFrom_23 (fun H locs hP hD hS => ?_)
  obtain ⟨a3, ea3⟩ : ∃ z, (va_cpy vp1_drunkFrom vo_drunkFrom (0 : Int32).toNatClampNeg (0 : Int32).toNatClampNeg (9 : Int32).toNatClampNeg) = z := ⟨_, rfl⟩
  replace hT := cut_n ea3 hT
  have hP : va_P (dC, dI) vwCl [(o, .inr (4, [.ref o_fill, .ref o_drunkFrom, .ref o_turns, .int vo_poured])), (o_drunkFrom, .inl (cJ, 9, .inr (.inl a3))), (o_turns, .inl (cI, 9, .inl vo_turns)), (p1, .inr (4, [.ref p1_fill, .ref p1_drunkFrom, .ref p1_turns, .int vp1_poured])), (p1_drunkFrom, .inl (cJ, 9, .inr (.inl vp1_drunkFrom))), (p1_turns, .inl (cI, 9, .inl vp1_turns)), (o_fill, .inr (0, [.ref o_fill_inside, .long u1])), (o_fill_inside, .inl (cJ, 9, .inr (.inl u2))), (p1_fill, .inr (0, [.ref p1_fill_inside, .long vp1_fill_spilt])), (p1_fill_inside, .inl (cJ, 9, .inr (.inl vp1_fill_inside)))] H := by rw [← ea3]; exact hP
  have hD : va_D A [(o, .inr (4, [.ref o_fill, .ref o_drunkFrom, .ref o_turns, .int vo_poured])), (o_drunkFrom, .inl (cJ, 9, .inr (.inl a3))), (o_turns, .inl (cI, 9, .inl vo_turns)), (p1, .inr (4, [.ref p1_fill, .ref p1_drunkFrom, .ref p1_turns, .int vp1_poured])), (p1_drunkFrom, .inl (cJ, 9, .inr (.inl vp1_drunkFrom))), (p1_turns, .inl (cI, 9, .inl vp1_turns)), (o_fill, .inr (0, [.ref o_fill_inside, .long u1])), (o_fill_inside, .inl (cJ, 9, .inr (.inl u2))), (p1_fill, .inr (0, [.ref p1_fill_inside, .long vp1_fill_spilt])), (p1_fill_inside, .inl (cJ, 9, .inr (.inl vp1_fill_inside)))] := by rw [← ea3]; exact hD
  refine lv_aload_n hx hb dX4_copyFrom_26 rfl (lv_at hl 1 rfl) ?_
  refine va_get (D := (dC, dI)) (ci := 4) (v := .ref p1_turns) (C := RX4) (T := TX4) (N := 4) hx hb hts hwX4 hown hK hP 3 rfl rfl 2 (by decide) hf_22 (fun _ h9 => h9) rfl dX4_copyFrom_27 ?_
  refine lv_iconst (v := (0 : Int32)) hx hb dX4_copyFrom_30 (by decide) ?_
  refine lv_aload_n hx hb dX4_copyFrom_31 rfl (lv_at hl 0 rfl) ?_
  refine va_get (D := (dC, dI)) (ci := 4) (v := .ref o_turns) (C := RX4) (T := TX4) (N := 4) hx hb hts hwX4 hown hK hP 0 rfl rfl 2 (by decide) hf_22 (fun _ h9 => h9) rfl dX4_copyFrom_32 ?_
  refine lv_iconst (v := (0 : Int32)) hx hb dX4_copyFrom_35 (by decide) ?_
  refine lv_bipush (v := (9 : Int32)) hx hb dX4_copyFrom_36 (by decide) ?_
  refine va_copyi hx hb (by rw [hml]; exact hl.1.symm) hown hm_46 hac_n hac_s hac_i hK hP hD hS 5 2 0 0 rfl rfl rfl rfl rfl (by decide) (by decide) (by decide) (by decide) (by decide) (fun i hi => rfl) (Nat.le_of_ble_eq_true rfl) (by decide +kernel) dX4_copyFrom_38 (fun H locs hP hD hS => ?_)
  obtain ⟨a4, ea4⟩ : ∃ z, (va_cpy vp1_turns vo_turns (0 : Int32).toNatClampNeg (0 : Int32).toNatClampNeg (9 : Int32).toNatClampNeg) = z := ⟨_, rfl⟩
  replace hT := cut_n ea4 hT
  have hP : va_P (dC, dI) vwCl [(o, .inr (4, [.ref o_fill, .ref o_drunkFrom, .ref o_turns, .int vo_poured])), (o_drunkFrom, .inl (cJ, 9, .inr (.inl a3))), (o_turns, .inl (cI, 9, .inl a4)), (p1, .inr (4, [.ref p1_fill, .ref p1_drunkFrom, .ref p1_turns, .int vp1_poured])), (p1_drunkFrom, .inl (cJ, 9, .inr (.inl vp1_drunkFrom))), (p1_turns, .inl (cI, 9, .inl vp1_turns)), (o_fill, .inr (0, [.ref o_fill_inside, .long u1])), (o_fill_inside, .inl (cJ, 9, .inr (.inl u2))), (p1_fill, .inr (0, [.ref p1_fill_inside, .long vp1_fill_spilt])), (p1_fill_inside, .inl (cJ, 9, .inr (.inl vp1_fill_inside)))] H := by rw [← ea4]; exact hP
  have hD : va_D A [(o, .inr (4, [.ref o_fill, .ref o_drunkFrom, .ref o_turns, .int vo_poured])), (o_drunkFrom, .inl (cJ, 9, .inr (.inl a3))), (o_turns, .inl (cI, 9, .inl a4)), (p1, .inr (4, [.ref p1_fill, .ref p1_drunkFrom, .ref p1_turns, .int vp1_poured])), (p1_drunkFrom, .inl (cJ, 9, .inr (.inl vp1_drunkFrom))), (p1_turns, .inl (cI, 9, .inl vp1_turns)), (o_fill, .inr (0, [.ref o_fill_inside, .long u1])), (o_fill_inside, .inl (cJ, 9, .inr (.inl u2))), (p1_fill, .inr (0, [.ref p1_fill_inside, .long vp1_fill_spilt])), (p1_fill_inside, .inl (cJ, 9, .inr (.inl vp1_fill_inside)))] := by rw [← ea4]; exact hD
  refine lv_aload_n hx hb dX4_copyFrom_41 rfl (lv_at hl 0 rfl) ?_
  refine lv_aload_n hx hb dX4_copyFrom_42 rfl (lv_at hl 1 rfl) ?_
  refine va_get (D := (dC, dI)) (ci := 4) (v := .int vp1_poured) (C := RX4) (T := TX4) (N := 4) hx hb hts hwX4 hown hK hP 3 rfl rfl 3 (by decide) hf_38 (fun _ h9 => h9) rfl dX4_copyFrom_43 ?_
  refine va_put (D := (dC, dI)) (ci := 4) (v := .int vp1_poured) (ty := .int) (C := RX4) (T := TX4) (N := 4) hx hb hts hwX4 tyX4 tyX4_ok nmX4 hown hK hP hD hS 0 rfl rfl 3 (by decide) hf_38 (fun _ h9 => h9) rfl (by decide +kernel) rfl rfl (Nat.le_of_ble_eq_true rfl) dX4_copyFrom_46 (fun H locs hP hD hS => ?_)
  have hP : va_P (dC, dI) vwCl [(o, .inr (4, [.ref o_fill, .ref o_drunkFrom, .ref o_turns, .int vp1_poured])), (o_drunkFrom, .inl (cJ, 9, .inr (.inl a3))), (o_turns, .inl (cI, 9, .inl a4)), (p1, .inr (4, [.ref p1_fill, .ref p1_drunkFrom, .ref p1_turns, .int vp1_poured])), (p1_drunkFrom, .inl (cJ, 9, .inr (.inl vp1_drunkFrom))), (p1_turns, .inl (cI, 9, .inl vp1_turns)), (o_fill, .inr (0, [.ref o_fill_inside, .long u1])), (o_fill_inside, .inl (cJ, 9, .inr (.inl u2))), (p1_fill, .inr (0, [.ref p1_fill_inside, .long vp1_fill_spilt])), (p1_fill_inside, .inl (cJ, 9, .inr (.inl vp1_fill_inside)))] H := hP
  have hD : va_D A [(o, .inr (4, [.ref o_fill, .ref o_drunkFrom, .ref o_turns, .int vp1_poured])), (o_drunkFrom, .inl (cJ, 9, .inr (.inl a3))), (o_turns, .inl (cI, 9, .inl a4)), (p1, .inr (4, [.ref p1_fill, .ref p1_drunkFrom, .ref p1_turns, .int vp1_poured])), (p1_drunkFrom, .inl (cJ, 9, .inr (.inl vp1_drunkFrom))), (p1_turns, .inl (cI, 9, .inl vp1_turns)), (o_fill, .inr (0, [.ref o_fill_inside, .long u1])), (o_fill_inside, .inl (cJ, 9, .inr (.inl u2))), (p1_fill, .inr (0, [.ref p1_fill_inside, .long vp1_fill_spilt])), (p1_fill_inside, .inl (cJ, 9, .inr (.inl vp1_fill_inside)))] := hD
  have hP9 := hP
  have hD9 := hD
  have hS9 := hS
  have hT : (vp1_poured, u1, u2, a3, a4) = (qo_poured, qo_fill_spilt, qo_fill_inside, qo_drunkFrom, qo_turns) := hT
  cases hT
  subst hQ
  exact zz_vret hx hb hr [0, 6, 7, 1, 2, 3, 8, 9, 4, 5] hK hP9 hD9 hS9 rfl rfl trivial hlocks dX4_copyFrom_49

def m_X4_addTo (vo_poured : Int32) (vo_fill_spilt : Int64) (vo_fill_inside : Nat → Int64) (vp1_size : Int32) (vp1_kinds : Nat → Int32) (vp1_takes : Nat → Int32) (vp1_shareCounts : Nat → Int32) (vp1_shares : Nat → Int32) (p2 : Int32) (p3 : Int32) : Int32 × Int64 × (Nat → Int64) :=
 cut2 (m_X0_addTo vo_fill_spilt vo_fill_inside vp1_size vp1_kinds vp1_takes vp1_shareCounts vp1_shares p2 p3) (fun (u1 : Int64) (u2 : Nat → Int64) =>
 cut (vo_poured + p3) (fun (v3 : Int32) =>
 (v3, u1, u2)))
set_option maxHeartbeats 4000000 in
set_option maxRecDepth 100000 in
theorem k_X4_addTo (l : Launch) (dC : Nat → ClassId) (dI : Nat → Nat → Nat) (cI cJ cC : ClassId) (sz : Nat) (o o_fill o_drunkFrom o_turns o_fill_inside p1 p1_kinds p1_holds p1_takes p1_shareCounts p1_shares : Nat) (vo_poured : Int32) (vo_fill_spilt : Int64) (vo_fill_inside : Nat → Int64) (vp1_size : Int32) (vp1_kinds : Nat → Int32) (vp1_takes : Nat → Int32) (vp1_shareCounts : Nat → Int32) (vp1_shares : Nat → Int32) (p2 : Int32) (p3 : Int32) (qo_poured : Int32) (qo_fill_spilt : Int64) (qo_fill_inside : Nat → Int64) (hT : m_X4_addTo vo_poured vo_fill_spilt vo_fill_inside vp1_size vp1_kinds vp1_takes vp1_shareCounts vp1_shares p2 p3 = (qo_poured, qo_fill_spilt, qo_fill_inside)) (ht0 : 0 ≤ vp1_size.toInt) (ht9 : vp1_size.toInt ≤ 9) (htc : zSc vp1_shareCounts) : Met l yX4_addTo wsX4_addTo ({ frames := 5, cells := 0, slots := 0, locals := 121 }) (zPc [.ref o, .ref p1, .int p2, .int p3] (dC, dI) (zTy cI cJ cC) [(o, .inr (4, [.ref o_fill, .ref o_drunkFrom, .ref o_turns, .int vo_poured])), (o_fill, .inr (0, [.ref o_fill_inside, .long vo_fill_spilt])), (o_fill_inside, .inl (cJ, 9, .inr (.inl vo_fill_inside))), (p1, .inr (3, [.ref p1_kinds, .ref p1_holds, .ref p1_takes, .ref p1_shareCounts, .ref p1_shares, .int vp1_size])), (p1_kinds, .inl (cI, 9, .inl vp1_kinds)), (p1_takes, .inl (cI, 9, .inl vp1_takes)), (p1_shareCounts, .inl (cI, 9, .inl vp1_shareCounts)), (p1_shares, .inl (cI, 27, .inl vp1_shares))] sz) (zQv (True) (dC, dI) (zTy cI cJ cC) [(o, .inr (4, [.ref o_fill, .ref o_drunkFrom, .ref o_turns, .int qo_poured])), (o_fill, .inr (0, [.ref o_fill_inside, .long qo_fill_spilt])), (o_fill_inside, .inl (cJ, 9, .inr (.inl qo_fill_inside))), (p1, .inr (3, [.ref p1_kinds, .ref p1_holds, .ref p1_takes, .ref p1_shareCounts, .ref p1_shares, .int vp1_size])), (p1_kinds, .inl (cI, 9, .inl vp1_kinds)), (p1_takes, .inl (cI, 9, .inl vp1_takes)), (p1_shareCounts, .inl (cI, 9, .inl vp1_shareCounts)), (p1_shares, .inl (cI, 27, .inl vp1_shares))] (va_A [(o, .inr (4, [.ref o_fill, .ref o_drunkFrom, .ref o_turns, .int vo_poured])), (o_fill, .inr (0, [.ref o_fill_inside, .long vo_fill_spilt])), (o_fill_inside, .inl (cJ, 9, .inr (.inl vo_fill_inside))), (p1, .inr (3, [.ref p1_kinds, .ref p1_holds, .ref p1_takes, .ref p1_shareCounts, .ref p1_shares, .int vp1_size])), (p1_kinds, .inl (cI, 9, .inl vp1_kinds)), (p1_takes, .inl (cI, 9, .inl vp1_takes)), (p1_shareCounts, .inl (cI, 9, .inl vp1_shareCounts)), (p1_shares, .inl (cI, 27, .inl vp1_shares))] sz)) 0 0 (va_A [(o, .inr (4, [.ref o_fill, .ref o_drunkFrom, .ref o_turns, .int vo_poured])), (o_fill, .inr (0, [.ref o_fill_inside, .long vo_fill_spilt])), (o_fill_inside, .inl (cJ, 9, .inr (.inl vo_fill_inside))), (p1, .inr (3, [.ref p1_kinds, .ref p1_holds, .ref p1_takes, .ref p1_shareCounts, .ref p1_shares, .int vp1_size])), (p1_kinds, .inl (cI, 9, .inl vp1_kinds)), (p1_takes, .inl (cI, 9, .inl vp1_takes)), (p1_shareCounts, .inl (cI, 9, .inl vp1_shareCounts)), (p1_shares, .inl (cI, 27, .inl vp1_shares))] sz) := by
  refine Met.ofW (cc := cX4_addTo) (maxL := 4) (ret := none) (by decide) rfl ?_
  intro p e s m args below meth c s₁ B hml hv
  obtain ⟨rfl, hsz, hP, hK, hD0⟩ := hv
  have hx := B.exec
  have hb := B.bytes
  have hr := B.returns
  have hts := atoms_spec (ws := wsX4_addTo) B.pre
  have hown : s.vm.findClass RX4 = some m.cls := findClass_of_methodNamed B.named
  have hlocks := B.notSynchronized
  subst hsz
  have hD := hD0.self (sz := s.heap.size)
  generalize hAe : va_A [(o, .inr (4, [.ref o_fill, .ref o_drunkFrom, .ref o_turns, .int vo_poured])), (o_fill, .inr (0, [.ref o_fill_inside, .long vo_fill_spilt])), (o_fill_inside, .inl (cJ, 9, .inr (.inl vo_fill_inside))), (p1, .inr (3, [.ref p1_kinds, .ref p1_holds, .ref p1_takes, .ref p1_shareCounts, .ref p1_shares, .int vp1_size])), (p1_kinds, .inl (cI, 9, .inl vp1_kinds)), (p1_takes, .inl (cI, 9, .inl vp1_takes)), (p1_shareCounts, .inl (cI, 9, .inl vp1_shareCounts)), (p1_shares, .inl (cI, 27, .inl vp1_shares))] s.heap.size = A at hD ⊢
  have hA : ∀ q : Nat, s.heap.size ≤ q → A q := fun q h => by rw [← hAe]; exact Or.inr h
  have hS : va_S A s.heap s.heap [] := va_S.rf
  have hP : va_P (dC, dI) vwCl [(o, .inr (4, [.ref o_fill, .ref o_drunkFrom, .ref o_turns, .int vo_poured])), (o_fill, .inr (0, [.ref o_fill_inside, .long vo_fill_spilt])), (o_fill_inside, .inl (cJ, 9, .inr (.inl vo_fill_inside))), (p1, .inr (3, [.ref p1_kinds, .ref p1_holds, .ref p1_takes, .ref p1_shareCounts, .ref p1_shares, .int vp1_size])), (p1_kinds, .inl (cI, 9, .inl vp1_kinds)), (p1_takes, .inl (cI, 9, .inl vp1_takes)), (p1_shareCounts, .inl (cI, 9, .inl vp1_shareCounts)), (p1_shares, .inl (cI, 27, .inl vp1_shares))] s.heap := hP
  have hK : va_K (dC, dI) vwCl (zTy cI cJ cC) s := hK
  have hl := lv_entry ([.ref o, .ref p1, .int p2, .int p3]) (n := 4) (Nat.le_of_ble_eq_true rfl)
  rw [lg_entry_eq]
  generalize (lg_sl ([.ref o, .ref p1, .int p2, .int p3]) ++ List.replicate (4 - (lg_sl ([.ref o, .ref p1, .int p2, .int p3])).length) Slot.unset).toArray = ls at hl ⊢
  have hl : lv_has ls 4 [(0, .ref o), (1, .ref p1), (2, .int p2), (3, .int p3)] := hl
  refine zz_start hP hS (fun Q hQ H locs hP hS => ?_)
  have hwX4 : ∀ w ∈ u_ws RX4 TX4 4, w ∈ wsX4_addTo := by decide +kernel
  have hf_12 := (hts (.fieldLink RX4 12 "PouredTopmost$Table" "fill" "LPouredTopmost$Fill;") (by decide +kernel))
  have hf_38 := (hts (.fieldLink RX4 38 "PouredTopmost$Table" "poured" "I") (by decide +kernel))
  refine lv_aload_n hx hb dX4_addTo_0 rfl (lv_at hl 0 rfl) ?_
  refine va_get (D := (dC, dI)) (ci := 4) (v := .ref o_fill) (C := RX4) (T := TX4) (N := 4) hx hb hts hwX4 hown hK hP 0 rfl rfl 0 (by decide) hf_12 (fun _ h9 => h9) rfl dX4_addTo_1 ?_
  refine lv_aload_n hx hb dX4_addTo_4 rfl (lv_at hl 1 rfl) ?_
  refine lv_iload_n hx hb dX4_addTo_5 rfl (lv_at hl 2 rfl) ?_
  refine lv_iload_n hx hb dX4_addTo_6 rfl (lv_at hl 3 rfl) ?_
  obtain ⟨u1, u2, ev_1⟩ : ∃ x0 x1, (m_X0_addTo vo_fill_spilt vo_fill_inside vp1_size vp1_kinds vp1_takes vp1_shareCounts vp1_shares p2 p3) = (x0, x1) := ⟨_, _, rfl⟩
  replace hT := cut2_n ev_1 hT
  refine zz_cv [1, 2, 3, 4, 5, 6, 7] [0] (wr := [(o, .inr (4, [.ref o_fill, .ref o_drunkFrom, .ref o_turns, .int vo_poured]))]) (w1 := [(o_fill, .inr (0, [.ref o_fill_inside, .long u1])), (o_fill_inside, .inl (cJ, 9, .inr (.inl u2))), (p1, .inr (3, [.ref p1_kinds, .ref p1_holds, .ref p1_takes, .ref p1_shareCounts, .ref p1_shares, .int vp1_size])), (p1_kinds, .inl (cI, 9, .inl vp1_kinds)), (p1_takes, .inl (cI, 9, .inl vp1_takes)), (p1_shareCounts, .inl (cI, 9, .inl vp1_shareCounts)), (p1_shares, .inl (cI, 27, .inl vp1_shares))]) (va_runV (As := [.ref p1, .int p2, .int p3]) (rest := []) ⟨hx, hb, hml, hown, hts⟩ (k_X0_addTo l dC dI cI cJ cC H.size o_fill o_fill_inside p1 p1_kinds p1_holds p1_takes p1_shareCounts p1_shares vo_fill_spilt vo_fill_inside vp1_size vp1_kinds vp1_takes vp1_shareCounts vp1_shares p2 p3 u1 u2 ev_1 ht0 ht9 htc) (cwV 3 hts gX4_addTo_X0_addTo rfl rfl rfl (by decide +kernel) ⟨Nat.le_of_ble_eq_true rfl, Nat.le_of_ble_eq_true rfl⟩) (zz_preV [1, 2, 3, 4, 5, 6, 7] hK hP hD rfl rfl (va_recv hK hP (ci := 0) (q0 := 1) rfl rfl)) rfl rfl hl.1 rfl (lv_room (Nat.le_of_ble_eq_true rfl)) dX4_addTo_7 ⟨Nat.zero_le _, Nat.zero_le _⟩) hP hD hS hA rfl rfl rfl (by decide) (fun ok_2 H locs hP hD hS => ?_)
  have hP : va_P (dC, dI) vwCl [(o, .inr (4, [.ref o_fill, .ref o_drunkFrom, .ref o_turns, .int vo_poured])), (o_fill, .inr (0, [.ref o_fill_inside, .long u1])), (o_fill_inside, .inl (cJ, 9, .inr (.inl u2))), (p1, .inr (3, [.ref p1_kinds, .ref p1_holds, .ref p1_takes, .ref p1_shareCounts, .ref p1_shares, .int vp1_size])), (p1_kinds, .inl (cI, 9, .inl vp1_kinds)), (p1_takes, .inl (cI, 9, .inl vp1_takes)), (p1_shareCounts, .inl (cI, 9, .inl vp1_shareCounts)), (p1_shares, .inl (cI, 27, .inl vp1_shares))] H := hP
  have hD : va_D A [(o, .inr (4, [.ref o_fill, .ref o_drunkFrom, .ref o_turns, .int vo_poured])), (o_fill, .inr (0, [.ref o_fill_inside, .long u1])), (o_fill_inside, .inl (cJ, 9, .inr (.inl u2))), (p1, .inr (3, [.ref p1_kinds, .ref p1_holds, .ref p1_takes, .ref p1_shareCounts, .ref p1_shares, .int vp1_size])), (p1_kinds, .inl (cI, 9, .inl vp1_kinds)), (p1_takes, .inl (cI, 9, .inl vp1_takes)), (p1_shareCounts, .inl (cI, 9, .inl vp1_shareCounts)), (p1_shares, .inl (cI, 27, .inl vp1_shares))] := hD
  refine lv_aload_n hx hb dX4_addTo_10 rfl (lv_at hl 0 rfl) ?_
  refine lv_dup hx hb dX4_addTo_11 rfl ?_
  refine va_get (D := (dC, dI)) (ci := 4) (v := .int vo_poured) (C := RX4) (T := TX4) (N := 4) hx hb hts hwX4 hown hK hP 0 rfl rfl 3 (by decide) hf_38 (fun _ h9 => h9) rfl dX4_addTo_12 ?_
  refine lv_iload_n hx hb dX4_addTo_15 rfl (lv_at hl 3 rfl) ?_
  refine lv_iadd hx hb dX4_addTo_16 ?_
  refine lv_topi (fun v3 ev3 => ?_)
  replace hT := cut_n ev3.symm hT
  try have fv3 := zaddE (rfl : (vo_poured).toInt = _) (rfl : (p3).toInt = _) ev3.symm (by omega) (by omega)
  refine va_put (D := (dC, dI)) (ci := 4) (v := .int v3) (ty := .int) (C := RX4) (T := TX4) (N := 4) hx hb hts hwX4 tyX4 tyX4_ok nmX4 hown hK hP hD hS 0 rfl rfl 3 (by decide) hf_38 (fun _ h9 => h9) rfl (by decide +kernel) rfl rfl (Nat.le_of_ble_eq_true rfl) dX4_addTo_17 (fun H locs hP hD hS => ?_)
  have hP : va_P (dC, dI) vwCl [(o, .inr (4, [.ref o_fill, .ref o_drunkFrom, .ref o_turns, .int v3])), (o_fill, .inr (0, [.ref o_fill_inside, .long u1])), (o_fill_inside, .inl (cJ, 9, .inr (.inl u2))), (p1, .inr (3, [.ref p1_kinds, .ref p1_holds, .ref p1_takes, .ref p1_shareCounts, .ref p1_shares, .int vp1_size])), (p1_kinds, .inl (cI, 9, .inl vp1_kinds)), (p1_takes, .inl (cI, 9, .inl vp1_takes)), (p1_shareCounts, .inl (cI, 9, .inl vp1_shareCounts)), (p1_shares, .inl (cI, 27, .inl vp1_shares))] H := hP
  have hD : va_D A [(o, .inr (4, [.ref o_fill, .ref o_drunkFrom, .ref o_turns, .int v3])), (o_fill, .inr (0, [.ref o_fill_inside, .long u1])), (o_fill_inside, .inl (cJ, 9, .inr (.inl u2))), (p1, .inr (3, [.ref p1_kinds, .ref p1_holds, .ref p1_takes, .ref p1_shareCounts, .ref p1_shares, .int vp1_size])), (p1_kinds, .inl (cI, 9, .inl vp1_kinds)), (p1_takes, .inl (cI, 9, .inl vp1_takes)), (p1_shareCounts, .inl (cI, 9, .inl vp1_shareCounts)), (p1_shares, .inl (cI, 27, .inl vp1_shares))] := hD
  have hP9 := hP
  have hD9 := hD
  have hS9 := hS
  have hT : (v3, u1, u2) = (qo_poured, qo_fill_spilt, qo_fill_inside) := hT
  cases hT
  subst hQ
  exact zz_vret hx hb hr [0, 1, 2, 3, 4, 5, 6, 7] hK hP9 hD9 hS9 rfl rfl trivial hlocks dX4_addTo_20

def m_X4_drinkFrom (vo_fill_inside : Nat → Int64) (vo_drunkFrom : Nat → Int64) (p1 : Int32) : Int64 × (Nat → Int64) × (Nat → Int64) :=
 if p1 < (0 : Int32) then
  ((0 : Int64), vo_fill_inside, vo_drunkFrom)
 else
  if p1 < (9 : Int32) then
   cut2 (m_X0_takeOut vo_fill_inside p1) (fun (r1 : Int64) (u2 : Nat → Int64) =>
   cut (vp_updL vo_drunkFrom p1.toNatClampNeg ((vo_drunkFrom p1.toNatClampNeg) + r1)) (fun (a3 : Nat → Int64) =>
   (r1, u2, a3)))
  else
   ((0 : Int64), vo_fill_inside, vo_drunkFrom)
set_option maxHeartbeats 4000000 in
set_option maxRecDepth 100000 in
theorem k_X4_drinkFrom (l : Launch) (dC : Nat → ClassId) (dI : Nat → Nat → Nat) (cI cJ cC : ClassId) (sz : Nat) (o o_fill o_drunkFrom o_turns o_fill_inside : Nat) (vo_poured : Int32) (vo_fill_spilt : Int64) (vo_fill_inside : Nat → Int64) (vo_drunkFrom : Nat → Int64) (p1 : Int32) (r : Int64) (qo_fill_inside : Nat → Int64) (qo_drunkFrom : Nat → Int64) (hT : m_X4_drinkFrom vo_fill_inside vo_drunkFrom p1 = (r, qo_fill_inside, qo_drunkFrom)) : Met l yX4_drinkFrom wsX4_drinkFrom ({ frames := 1, cells := 0, slots := 0, locals := 23 }) (zPc [.ref o, .int p1] (dC, dI) (zTy cI cJ cC) [(o, .inr (4, [.ref o_fill, .ref o_drunkFrom, .ref o_turns, .int vo_poured])), (o_fill, .inr (0, [.ref o_fill_inside, .long vo_fill_spilt])), (o_fill_inside, .inl (cJ, 9, .inr (.inl vo_fill_inside))), (o_drunkFrom, .inl (cJ, 9, .inr (.inl vo_drunkFrom)))] sz) (zQl r (True) (dC, dI) (zTy cI cJ cC) [(o, .inr (4, [.ref o_fill, .ref o_drunkFrom, .ref o_turns, .int vo_poured])), (o_fill, .inr (0, [.ref o_fill_inside, .long vo_fill_spilt])), (o_fill_inside, .inl (cJ, 9, .inr (.inl qo_fill_inside))), (o_drunkFrom, .inl (cJ, 9, .inr (.inl qo_drunkFrom)))] (va_A [(o, .inr (4, [.ref o_fill, .ref o_drunkFrom, .ref o_turns, .int vo_poured])), (o_fill, .inr (0, [.ref o_fill_inside, .long vo_fill_spilt])), (o_fill_inside, .inl (cJ, 9, .inr (.inl vo_fill_inside))), (o_drunkFrom, .inl (cJ, 9, .inr (.inl vo_drunkFrom)))] sz)) 0 0 (va_A [(o, .inr (4, [.ref o_fill, .ref o_drunkFrom, .ref o_turns, .int vo_poured])), (o_fill, .inr (0, [.ref o_fill_inside, .long vo_fill_spilt])), (o_fill_inside, .inl (cJ, 9, .inr (.inl vo_fill_inside))), (o_drunkFrom, .inl (cJ, 9, .inr (.inl vo_drunkFrom)))] sz) := by
  refine Met.ofW (cc := cX4_drinkFrom) (maxL := 4) (ret := (some .long)) (by decide) rfl ?_
  intro p e s m args below meth c s₁ B hml hv
  obtain ⟨rfl, hsz, hP, hK, hD0⟩ := hv
  have hx := B.exec
  have hb := B.bytes
  have hr := B.returns
  have hts := atoms_spec (ws := wsX4_drinkFrom) B.pre
  have hown : s.vm.findClass RX4 = some m.cls := findClass_of_methodNamed B.named
  have hlocks := B.notSynchronized
  subst hsz
  have hD := hD0.self (sz := s.heap.size)
  generalize hAe : va_A [(o, .inr (4, [.ref o_fill, .ref o_drunkFrom, .ref o_turns, .int vo_poured])), (o_fill, .inr (0, [.ref o_fill_inside, .long vo_fill_spilt])), (o_fill_inside, .inl (cJ, 9, .inr (.inl vo_fill_inside))), (o_drunkFrom, .inl (cJ, 9, .inr (.inl vo_drunkFrom)))] s.heap.size = A at hD ⊢
  have hA : ∀ q : Nat, s.heap.size ≤ q → A q := fun q h => by rw [← hAe]; exact Or.inr h
  have hS : va_S A s.heap s.heap [] := va_S.rf
  have hP : va_P (dC, dI) vwCl [(o, .inr (4, [.ref o_fill, .ref o_drunkFrom, .ref o_turns, .int vo_poured])), (o_fill, .inr (0, [.ref o_fill_inside, .long vo_fill_spilt])), (o_fill_inside, .inl (cJ, 9, .inr (.inl vo_fill_inside))), (o_drunkFrom, .inl (cJ, 9, .inr (.inl vo_drunkFrom)))] s.heap := hP
  have hK : va_K (dC, dI) vwCl (zTy cI cJ cC) s := hK
  have hl := lv_entry ([.ref o, .int p1]) (n := 4) (Nat.le_of_ble_eq_true rfl)
  rw [lg_entry_eq]
  generalize (lg_sl ([.ref o, .int p1]) ++ List.replicate (4 - (lg_sl ([.ref o, .int p1])).length) Slot.unset).toArray = ls at hl ⊢
  have hl : lv_has ls 4 [(0, .ref o), (1, .int p1)] := hl
  refine zz_start hP hS (fun Q hQ H locs hP hS => ?_)
  have hwX4 : ∀ w ∈ u_ws RX4 TX4 4, w ∈ wsX4_drinkFrom := by decide +kernel
  have hf_12 := (hts (.fieldLink RX4 12 "PouredTopmost$Table" "fill" "LPouredTopmost$Fill;") (by decide +kernel))
  have hf_18 := (hts (.fieldLink RX4 18 "PouredTopmost$Table" "drunkFrom" "[J") (by decide +kernel))
  refine lv_iload_n hx hb dX4_drinkFrom_0 rfl (lv_at hl 1 rfl) ?_
  refine lv_if_lt (tgt := 13) hx hb dX4_drinkFrom_1 (by decide) (fun c_1 => ?_) (fun c_1 => ?_)
  · replace hT := cutT c_1 hT
    have g_7 := zltT (rfl : (p1).toInt = _) (by decide : ((0 : Int32)).toInt = 0) c_1
    refine lv_lconst (v := (0 : Int64)) hx hb dX4_drinkFrom_13 (by decide) ?_
    have hP9 := hP
    have hD9 := hD
    have hS9 := hS
    have hT : ((0 : Int64), vo_fill_inside, vo_drunkFrom) = (r, qo_fill_inside, qo_drunkFrom) := hT
    cases hT
    subst hQ
    exact zz_lret hx hb hr [0, 1, 2, 3] hK hP9 hD9 hS9 rfl rfl trivial hlocks dX4_drinkFrom_14
  · replace hT := cutF c_1 hT
    have g_8 := zltF (rfl : (p1).toInt = _) (by decide : ((0 : Int32)).toInt = 0) c_1
    refine lv_iload_n hx hb dX4_drinkFrom_4 rfl (lv_at hl 1 rfl) ?_
    refine lv_aload_n hx hb dX4_drinkFrom_5 rfl (lv_at hl 0 rfl) ?_
    refine va_get (D := (dC, dI)) (ci := 4) (v := .ref o_drunkFrom) (C := RX4) (T := TX4) (N := 4) hx hb hts hwX4 hown hK hP 0 rfl rfl 1 (by decide) hf_18 (fun _ h9 => h9) rfl dX4_drinkFrom_6 ?_
    refine va_alen (v := (9 : Int32)) hx hb hK hP 3 1 rfl rfl rfl dX4_drinkFrom_9 ?_
    refine lv_icmp_lt (tgt := 15) hx hb dX4_drinkFrom_10 (by decide) (fun c_2 => ?_) (fun c_2 => ?_)
    · replace hT := cutT c_2 hT
      have g_9 := zltT (rfl : (p1).toInt = _) (by decide : ((9 : Int32)).toInt = 9) c_2
      refine lv_aload_n hx hb dX4_drinkFrom_15 rfl (lv_at hl 0 rfl) ?_
      refine va_get (D := (dC, dI)) (ci := 4) (v := .ref o_fill) (C := RX4) (T := TX4) (N := 4) hx hb hts hwX4 hown hK hP 0 rfl rfl 0 (by decide) hf_12 (fun _ h9 => h9) rfl dX4_drinkFrom_16 ?_
      refine lv_iload_n hx hb dX4_drinkFrom_19 rfl (lv_at hl 1 rfl) ?_
      obtain ⟨r1, u2, ev_3⟩ : ∃ x0 x1, (m_X0_takeOut vo_fill_inside p1) = (x0, x1) := ⟨_, _, rfl⟩
      replace hT := cut2_n ev_3 hT
      refine zz_cl [1, 2] [0, 3] (wr := [(o, .inr (4, [.ref o_fill, .ref o_drunkFrom, .ref o_turns, .int vo_poured])), (o_drunkFrom, .inl (cJ, 9, .inr (.inl vo_drunkFrom)))]) (w1 := [(o_fill, .inr (0, [.ref o_fill_inside, .long vo_fill_spilt])), (o_fill_inside, .inl (cJ, 9, .inr (.inl u2)))]) (va_runV (As := [.int p1]) (rest := []) ⟨hx, hb, hml, hown, hts⟩ (k_X0_takeOut l dC dI cI cJ cC H.size o_fill o_fill_inside vo_fill_spilt vo_fill_inside p1 r1 u2 ev_3) (cwV 1 hts gX4_drinkFrom_X0_takeOut rfl rfl rfl (by decide +kernel) ⟨Nat.le_of_ble_eq_true rfl, Nat.le_of_ble_eq_true rfl⟩) (zz_preV [1, 2] hK hP hD rfl rfl (va_recv hK hP (ci := 0) (q0 := 1) rfl rfl)) rfl rfl hl.1 rfl (lv_room (Nat.le_of_ble_eq_true rfl)) dX4_drinkFrom_20 ⟨Nat.zero_le _, Nat.zero_le _⟩) hP hD hS hA rfl rfl rfl (by decide) (fun ok_4 H locs hP hD hS => ?_)
      have hP : va_P (dC, dI) vwCl [(o, .inr (4, [.ref o_fill, .ref o_drunkFrom, .ref o_turns, .int vo_poured])), (o_drunkFrom, .inl (cJ, 9, .inr (.inl vo_drunkFrom))), (o_fill, .inr (0, [.ref o_fill_inside, .long vo_fill_spilt])), (o_fill_inside, .inl (cJ, 9, .inr (.inl u2)))] H := hP
      have hD : va_D A [(o, .inr (4, [.ref o_fill, .ref o_drunkFrom, .ref o_turns, .int vo_poured])), (o_drunkFrom, .inl (cJ, 9, .inr (.inl vo_drunkFrom))), (o_fill, .inr (0, [.ref o_fill_inside, .long vo_fill_spilt])), (o_fill_inside, .inl (cJ, 9, .inr (.inl u2)))] := hD
      refine lv_lstore_n (lv' := [(2, .long r1), (0, .ref o), (1, .int p1)]) hx hb dX4_drinkFrom_23 rfl hl (by decide) rfl (fun ls hl => ?_)
      refine lv_aload_n hx hb dX4_drinkFrom_24 rfl (lv_at hl 1 rfl) ?_
      refine va_get (D := (dC, dI)) (ci := 4) (v := .ref o_drunkFrom) (C := RX4) (T := TX4) (N := 4) hx hb hts hwX4 hown hK hP 0 rfl rfl 1 (by decide) hf_18 (fun _ h9 => h9) rfl dX4_drinkFrom_25 ?_
      refine lv_iload_n hx hb dX4_drinkFrom_28 rfl (lv_at hl 2 rfl) ?_
      refine lv_dup2_11 hx hb dX4_drinkFrom_29 rfl rfl ?_
      have h_5 : vp_in p1 9 := zin (by omega) (by omega)
      refine va_lald hx hb hK hP 1 1 rfl rfl h_5 dX4_drinkFrom_30 ?_
      refine lv_lload_n hx hb dX4_drinkFrom_31 rfl (lv_at hl 0 rfl) ?_
      refine lv_ladd hx hb dX4_drinkFrom_32 ?_
      have h_6 : vp_in p1 9 := zin (by omega) (by omega)
      refine va_last hx hb hK hP hD hS 1 1 rfl rfl h_6 dX4_drinkFrom_33 (fun H locs hP hD hS => ?_)
      obtain ⟨a3, ea3⟩ : ∃ z, (vp_updL vo_drunkFrom p1.toNatClampNeg ((vo_drunkFrom p1.toNatClampNeg) + r1)) = z := ⟨_, rfl⟩
      replace hT := cut_n ea3 hT
      have hP : va_P (dC, dI) vwCl [(o, .inr (4, [.ref o_fill, .ref o_drunkFrom, .ref o_turns, .int vo_poured])), (o_drunkFrom, .inl (cJ, 9, .inr (.inl a3))), (o_fill, .inr (0, [.ref o_fill_inside, .long vo_fill_spilt])), (o_fill_inside, .inl (cJ, 9, .inr (.inl u2)))] H := by rw [← ea3]; exact hP
      have hD : va_D A [(o, .inr (4, [.ref o_fill, .ref o_drunkFrom, .ref o_turns, .int vo_poured])), (o_drunkFrom, .inl (cJ, 9, .inr (.inl a3))), (o_fill, .inr (0, [.ref o_fill_inside, .long vo_fill_spilt])), (o_fill_inside, .inl (cJ, 9, .inr (.inl u2)))] := by rw [← ea3]; exact hD
      refine lv_lload_n hx hb dX4_drinkFrom_34 rfl (lv_at hl 0 rfl) ?_
      have hP9 := hP
      have hD9 := hD
      have hS9 := hS
      have hT : (r1, u2, a3) = (r, qo_fill_inside, qo_drunkFrom) := hT
      cases hT
      subst hQ
      exact zz_lret hx hb hr [0, 2, 3, 1] hK hP9 hD9 hS9 rfl rfl trivial hlocks dX4_drinkFrom_35
    · replace hT := cutF c_2 hT
      have g_10 := zltF (rfl : (p1).toInt = _) (by decide : ((9 : Int32)).toInt = 9) c_2
      refine lv_lconst (v := (0 : Int64)) hx hb dX4_drinkFrom_13 (by decide) ?_
      have hP9 := hP
      have hD9 := hD
      have hS9 := hS
      have hT : ((0 : Int64), vo_fill_inside, vo_drunkFrom) = (r, qo_fill_inside, qo_drunkFrom) := hT
      cases hT
      subst hQ
      exact zz_lret hx hb hr [0, 1, 2, 3] hK hP9 hD9 hS9 rfl rfl trivial hlocks dX4_drinkFrom_14

def rs_X4_drinkersOf_2  (x4 : Int32) (x5 : Nat → Int64) (x6 : Nat → Int64) : (Nat → Int64) × (Nat → Int64) :=
 (x5, x6)
def lp_X4_drinkersOf_2 (ct2 : Int32 → (Nat → Int64) → (Nat → Int64) → ((Nat → Int64) × (Nat → Int64))) (vo_turns : Nat → Int32) (p1 : Int32) : Nat → Int32 → (Nat → Int64) → (Nat → Int64) → ((Nat → Int64) × (Nat → Int64))
  | 0, _, _, _ => default
  | k + 1, b1, b2, b3 =>
  if (9 : Int32) ≤ b1 then
   (ct2 b1 b2 b3)
  else
   cut (vo_turns b1.toNatClampNeg) (fun (v7 : Int32) =>
   if v7 ≤ (0 : Int32) then
    cut (b1 + (1 : Int32)) (fun (v8 : Int32) =>
    (lp_X4_drinkersOf_2 ct2 vo_turns p1 k v8 b2 b3))
   else
    if (p1 - p1 / v7 * v7) = (0 : Int32) then
     cut3 (m_X4_drinkFrom b2 b3 b1) (fun (r10 : Int64) (u11 : Nat → Int64) (u12 : Nat → Int64) =>
     cut (b1 + (1 : Int32)) (fun (v13 : Int32) =>
     (lp_X4_drinkersOf_2 ct2 vo_turns p1 k v13 u11 u12)))
    else
     cut (b1 + (1 : Int32)) (fun (v9 : Int32) =>
     (lp_X4_drinkersOf_2 ct2 vo_turns p1 k v9 b2 b3)))
def m_X4_drinkersOf (vo_fill_inside : Nat → Int64) (vo_drunkFrom : Nat → Int64) (vo_turns : Nat → Int32) (p1 : Int32) : (Nat → Int64) × (Nat → Int64) :=
 (lp_X4_drinkersOf_2 rs_X4_drinkersOf_2 vo_turns p1 11 (0 : Int32) vo_fill_inside vo_drunkFrom)
set_option maxHeartbeats 4000000 in
set_option maxRecDepth 100000 in
theorem k_X4_drinkersOf (l : Launch) (dC : Nat → ClassId) (dI : Nat → Nat → Nat) (cI cJ cC : ClassId) (sz : Nat) (o o_fill o_drunkFrom o_turns o_fill_inside : Nat) (vo_poured : Int32) (vo_fill_spilt : Int64) (vo_fill_inside : Nat → Int64) (vo_drunkFrom : Nat → Int64) (vo_turns : Nat → Int32) (p1 : Int32) (qo_fill_inside : Nat → Int64) (qo_drunkFrom : Nat → Int64) (hT : m_X4_drinkersOf vo_fill_inside vo_drunkFrom vo_turns p1 = (qo_fill_inside, qo_drunkFrom)) : Met l yX4_drinkersOf wsX4_drinkersOf ({ frames := 2, cells := 0, slots := 0, locals := 46 }) (zPc [.ref o, .int p1] (dC, dI) (zTy cI cJ cC) [(o, .inr (4, [.ref o_fill, .ref o_drunkFrom, .ref o_turns, .int vo_poured])), (o_fill, .inr (0, [.ref o_fill_inside, .long vo_fill_spilt])), (o_fill_inside, .inl (cJ, 9, .inr (.inl vo_fill_inside))), (o_drunkFrom, .inl (cJ, 9, .inr (.inl vo_drunkFrom))), (o_turns, .inl (cI, 9, .inl vo_turns))] sz) (zQv (True) (dC, dI) (zTy cI cJ cC) [(o, .inr (4, [.ref o_fill, .ref o_drunkFrom, .ref o_turns, .int vo_poured])), (o_fill, .inr (0, [.ref o_fill_inside, .long vo_fill_spilt])), (o_fill_inside, .inl (cJ, 9, .inr (.inl qo_fill_inside))), (o_drunkFrom, .inl (cJ, 9, .inr (.inl qo_drunkFrom))), (o_turns, .inl (cI, 9, .inl vo_turns))] (va_A [(o, .inr (4, [.ref o_fill, .ref o_drunkFrom, .ref o_turns, .int vo_poured])), (o_fill, .inr (0, [.ref o_fill_inside, .long vo_fill_spilt])), (o_fill_inside, .inl (cJ, 9, .inr (.inl vo_fill_inside))), (o_drunkFrom, .inl (cJ, 9, .inr (.inl vo_drunkFrom))), (o_turns, .inl (cI, 9, .inl vo_turns))] sz)) 0 0 (va_A [(o, .inr (4, [.ref o_fill, .ref o_drunkFrom, .ref o_turns, .int vo_poured])), (o_fill, .inr (0, [.ref o_fill_inside, .long vo_fill_spilt])), (o_fill_inside, .inl (cJ, 9, .inr (.inl vo_fill_inside))), (o_drunkFrom, .inl (cJ, 9, .inr (.inl vo_drunkFrom))), (o_turns, .inl (cI, 9, .inl vo_turns))] sz) := by
  refine Met.ofW (cc := cX4_drinkersOf) (maxL := 4) (ret := none) (by decide) rfl ?_
  intro p e s m args below meth c s₁ B hml hv
  obtain ⟨rfl, hsz, hP, hK, hD0⟩ := hv
  have hx := B.exec
  have hb := B.bytes
  have hr := B.returns
  have hts := atoms_spec (ws := wsX4_drinkersOf) B.pre
  have hown : s.vm.findClass RX4 = some m.cls := findClass_of_methodNamed B.named
  have hlocks := B.notSynchronized
  subst hsz
  have hD := hD0.self (sz := s.heap.size)
  generalize hAe : va_A [(o, .inr (4, [.ref o_fill, .ref o_drunkFrom, .ref o_turns, .int vo_poured])), (o_fill, .inr (0, [.ref o_fill_inside, .long vo_fill_spilt])), (o_fill_inside, .inl (cJ, 9, .inr (.inl vo_fill_inside))), (o_drunkFrom, .inl (cJ, 9, .inr (.inl vo_drunkFrom))), (o_turns, .inl (cI, 9, .inl vo_turns))] s.heap.size = A at hD ⊢
  have hA : ∀ q : Nat, s.heap.size ≤ q → A q := fun q h => by rw [← hAe]; exact Or.inr h
  have hS : va_S A s.heap s.heap [] := va_S.rf
  have hP : va_P (dC, dI) vwCl [(o, .inr (4, [.ref o_fill, .ref o_drunkFrom, .ref o_turns, .int vo_poured])), (o_fill, .inr (0, [.ref o_fill_inside, .long vo_fill_spilt])), (o_fill_inside, .inl (cJ, 9, .inr (.inl vo_fill_inside))), (o_drunkFrom, .inl (cJ, 9, .inr (.inl vo_drunkFrom))), (o_turns, .inl (cI, 9, .inl vo_turns))] s.heap := hP
  have hK : va_K (dC, dI) vwCl (zTy cI cJ cC) s := hK
  have hl := lv_entry ([.ref o, .int p1]) (n := 4) (Nat.le_of_ble_eq_true rfl)
  rw [lg_entry_eq]
  generalize (lg_sl ([.ref o, .int p1]) ++ List.replicate (4 - (lg_sl ([.ref o, .int p1])).length) Slot.unset).toArray = ls at hl ⊢
  have hl : lv_has ls 4 [(0, .ref o), (1, .int p1)] := hl
  refine zz_start hP hS (fun Q hQ H locs hP hS => ?_)
  have hwX4 : ∀ w ∈ u_ws RX4 TX4 4, w ∈ wsX4_drinkersOf := by decide +kernel
  have hf_22 := (hts (.fieldLink RX4 22 "PouredTopmost$Table" "turns" "[I") (by decide +kernel))
  refine lv_iconst (v := (0 : Int32)) hx hb dX4_drinkersOf_0 (by decide) ?_
  refine lv_istore_n (lv' := [(2, .int (0 : Int32)), (0, .ref o), (1, .int p1)]) hx hb dX4_drinkersOf_1 rfl hl (by decide) rfl (fun ls hl => ?_)
  have hz_8 : ((0 : Int32)).toInt = 0 := by decide
  refine zz_loop (α := Int32 × (Nat → Int64) × (Nat → Int64)) 40 (fun k a H locs ls => (0 ≤ a.1.toInt) ∧ (a.1.toInt ≤ 9) ∧ (9 - a.1.toInt < ((k : Nat) : Int)) ∧ lp_X4_drinkersOf_2 rs_X4_drinkersOf_2 vo_turns p1 k a.1 a.2.1 a.2.2 = (qo_fill_inside, qo_drunkFrom) ∧ va_P (dC, dI) vwCl [(o, .inr (4, [.ref o_fill, .ref o_drunkFrom, .ref o_turns, .int vo_poured])), (o_fill, .inr (0, [.ref o_fill_inside, .long vo_fill_spilt])), (o_fill_inside, .inl (cJ, 9, .inr (.inl a.2.1))), (o_drunkFrom, .inl (cJ, 9, .inr (.inl a.2.2))), (o_turns, .inl (cI, 9, .inl vo_turns))] H ∧ va_D A [(o, .inr (4, [.ref o_fill, .ref o_drunkFrom, .ref o_turns, .int vo_poured])), (o_fill, .inr (0, [.ref o_fill_inside, .long vo_fill_spilt])), (o_fill_inside, .inl (cJ, 9, .inr (.inl a.2.1))), (o_drunkFrom, .inl (cJ, 9, .inr (.inl a.2.2))), (o_turns, .inl (cI, 9, .inl vo_turns))] ∧ va_S A s.heap H locs ∧ lv_has ls 4 [(2, .int a.1), (0, .ref o), (1, .int p1)]) (fun a H locs ls => (0 ≤ a.1.toInt) ∧ (a.1.toInt ≤ 9) ∧ rs_X4_drinkersOf_2 a.1 a.2.1 a.2.2 = (qo_fill_inside, qo_drunkFrom) ∧ va_P (dC, dI) vwCl [(o, .inr (4, [.ref o_fill, .ref o_drunkFrom, .ref o_turns, .int vo_poured])), (o_fill, .inr (0, [.ref o_fill_inside, .long vo_fill_spilt])), (o_fill_inside, .inl (cJ, 9, .inr (.inl a.2.1))), (o_drunkFrom, .inl (cJ, 9, .inr (.inl a.2.2))), (o_turns, .inl (cI, 9, .inl vo_turns))] H ∧ va_D A [(o, .inr (4, [.ref o_fill, .ref o_drunkFrom, .ref o_turns, .int vo_poured])), (o_fill, .inr (0, [.ref o_fill_inside, .long vo_fill_spilt])), (o_fill_inside, .inl (cJ, 9, .inr (.inl a.2.1))), (o_drunkFrom, .inl (cJ, 9, .inr (.inl a.2.2))), (o_turns, .inl (cI, 9, .inl vo_turns))] ∧ va_S A s.heap H locs ∧ lv_has ls 4 []) ?_ ?_ ?_ 11 ((0 : Int32), vo_fill_inside, vo_drunkFrom) ⟨(by omega : 0 ≤ (0 : Int32).toInt), (by omega : (0 : Int32).toInt ≤ 9), (by omega : 9 - (0 : Int32).toInt < ((11 : Nat) : Int)), hT, hP.sub [0, 1, 2, 3, 4] rfl, hD.sub [0, 1, 2, 3, 4] rfl rfl, hS, lv_sub hl [0, 1, 2] rfl⟩
  · rintro ⟨x4, x5, x6⟩ H locs ls ⟨i1, j1, hT, hP, hD, hS, hl⟩
    have hP : va_P (dC, dI) vwCl [(o, .inr (4, [.ref o_fill, .ref o_drunkFrom, .ref o_turns, .int vo_poured])), (o_fill, .inr (0, [.ref o_fill_inside, .long vo_fill_spilt])), (o_fill_inside, .inl (cJ, 9, .inr (.inl x5))), (o_drunkFrom, .inl (cJ, 9, .inr (.inl x6))), (o_turns, .inl (cI, 9, .inl vo_turns))] H := hP
    have hD : va_D A [(o, .inr (4, [.ref o_fill, .ref o_drunkFrom, .ref o_turns, .int vo_poured])), (o_fill, .inr (0, [.ref o_fill_inside, .long vo_fill_spilt])), (o_fill_inside, .inl (cJ, 9, .inr (.inl x5))), (o_drunkFrom, .inl (cJ, 9, .inr (.inl x6))), (o_turns, .inl (cI, 9, .inl vo_turns))] := hD
    have hl : lv_has ls 4 [] := hl
    have hT : rs_X4_drinkersOf_2 x4 x5 x6 = (qo_fill_inside, qo_drunkFrom) := hT
    have i1 : 0 ≤ x4.toInt := i1
    have j1 : x4.toInt ≤ 9 := j1
    have hP9 := hP
    have hD9 := hD
    have hS9 := hS
    have hT : (x5, x6) = (qo_fill_inside, qo_drunkFrom) := hT
    cases hT
    subst hQ
    exact zz_vret hx hb hr [0, 1, 2, 3, 4] hK hP9 hD9 hS9 rfl rfl trivial hlocks dX4_drinkersOf_40
  · rintro ⟨b1, b2, b3⟩ H locs ls ⟨i1, j1, hm, -⟩
    try dsimp only at *
    omega
  · intro k2 hex2 ih2
    rintro ⟨b1, b2, b3⟩ H locs ls ⟨i1, j1, hm2, hT, hP, hD, hS, hl⟩
    have hP : va_P (dC, dI) vwCl [(o, .inr (4, [.ref o_fill, .ref o_drunkFrom, .ref o_turns, .int vo_poured])), (o_fill, .inr (0, [.ref o_fill_inside, .long vo_fill_spilt])), (o_fill_inside, .inl (cJ, 9, .inr (.inl b2))), (o_drunkFrom, .inl (cJ, 9, .inr (.inl b3))), (o_turns, .inl (cI, 9, .inl vo_turns))] H := hP
    have hD : va_D A [(o, .inr (4, [.ref o_fill, .ref o_drunkFrom, .ref o_turns, .int vo_poured])), (o_fill, .inr (0, [.ref o_fill_inside, .long vo_fill_spilt])), (o_fill_inside, .inl (cJ, 9, .inr (.inl b2))), (o_drunkFrom, .inl (cJ, 9, .inr (.inl b3))), (o_turns, .inl (cI, 9, .inl vo_turns))] := hD
    have hl : lv_has ls 4 [(2, .int b1), (0, .ref o), (1, .int p1)] := hl
    have hT : lp_X4_drinkersOf_2 rs_X4_drinkersOf_2 vo_turns p1 (k2 + 1) b1 b2 b3 = (qo_fill_inside, qo_drunkFrom) := hT
    have i1 : 0 ≤ b1.toInt := i1
    have j1 : b1.toInt ≤ 9 := j1
    have hm2 : 9 - b1.toInt < (((k2 + 1) : Nat) : Int) := hm2
    try simp only [Int.natCast_add, Int.natCast_one, Nat.cast_add, Nat.cast_one] at hm2
    refine lv_iload_n hx hb dX4_drinkersOf_2 rfl (lv_at hl 0 rfl) ?_
    refine lv_aload_n hx hb dX4_drinkersOf_3 rfl (lv_at hl 1 rfl) ?_
    refine va_get (D := (dC, dI)) (ci := 4) (v := .ref o_turns) (C := RX4) (T := TX4) (N := 4) hx hb hts hwX4 hown hK hP 0 rfl rfl 2 (by decide) hf_22 (fun _ h9 => h9) rfl dX4_drinkersOf_4 ?_
    refine va_alen (v := (9 : Int32)) hx hb hK hP 4 0 rfl rfl rfl dX4_drinkersOf_7 ?_
    refine lv_icmp_ge (tgt := 40) hx hb dX4_drinkersOf_8 (by decide) (fun c_1 => ?_) (fun c_1 => ?_)
    · replace hT := cutT c_1 hT
      have g_9 := zleT (by decide : ((9 : Int32)).toInt = 9) (rfl : (b1).toInt = _) c_1
      exact hex2 (b1, b2, b3) _ _ _ ⟨(by omega : 0 ≤ b1.toInt), (by omega : b1.toInt ≤ 9), hT, hP.sub [0, 1, 2, 3, 4] rfl, hD.sub [0, 1, 2, 3, 4] rfl rfl, hS, lv_sub hl [] rfl⟩
    · replace hT := cutF c_1 hT
      have g_10 := zleF (by decide : ((9 : Int32)).toInt = 9) (rfl : (b1).toInt = _) c_1
      refine lv_aload_n hx hb dX4_drinkersOf_11 rfl (lv_at hl 1 rfl) ?_
      refine va_get (D := (dC, dI)) (ci := 4) (v := .ref o_turns) (C := RX4) (T := TX4) (N := 4) hx hb hts hwX4 hown hK hP 0 rfl rfl 2 (by decide) hf_22 (fun _ h9 => h9) rfl dX4_drinkersOf_12 ?_
      refine lv_iload_n hx hb dX4_drinkersOf_15 rfl (lv_at hl 0 rfl) ?_
      have h_2 : vp_in b1 9 := zin (by omega) (by omega)
      refine va_iald hx hb hK hP 4 0 rfl rfl h_2 dX4_drinkersOf_16 ?_
      refine lv_topi (fun v7 ev7 => ?_)
      replace hT := cut_n ev7.symm hT
      have fv7 : (v7).toInt = (vo_turns b1.toNatClampNeg).toInt := by rw [ev7]
      refine lv_istore_n (lv' := [(3, .int v7), (2, .int b1), (0, .ref o), (1, .int p1)]) hx hb dX4_drinkersOf_17 rfl hl (by decide) rfl (fun ls hl => ?_)
      refine lv_iload_n hx hb dX4_drinkersOf_18 rfl (lv_at hl 0 rfl) ?_
      refine lv_if_le (tgt := 34) hx hb dX4_drinkersOf_19 (by decide) (fun c_3 => ?_) (fun c_3 => ?_)
      · replace hT := cutT c_3 hT
        have g_11 := zleT (rfl : (v7).toInt = _) (by decide : ((0 : Int32)).toInt = 0) c_3
        obtain ⟨v8, ev8⟩ : ∃ y : Int32, (b1 + (1 : Int32)) = y := ⟨_, rfl⟩
        replace hT := cut_n ev8 hT
        try have fv8 := zaddE (rfl : (b1).toInt = _) (by decide : ((1 : Int32)).toInt = 1) ev8 (by omega) (by omega)
        refine lv_iinc (v := v8) (lv' := [(2, .int v8), (3, .int v7), (0, .ref o), (1, .int p1)]) hx hb dX4_drinkersOf_34 hl (k := 1) rfl (by rw [← ev8]; rfl) (by decide) rfl (fun ls hl => ?_)
        refine lv_goto (tgt := 2) hx hb dX4_drinkersOf_37 (by decide) ?_
        exact ih2 (v8, b2, b3) _ _ _ ⟨(by omega : 0 ≤ v8.toInt), (by omega : v8.toInt ≤ 9), (by omega : 9 - v8.toInt < ((k2 : Nat) : Int)), hT, hP.sub [0, 1, 2, 3, 4] rfl, hD.sub [0, 1, 2, 3, 4] rfl rfl, hS, lv_sub hl [0, 2, 3] rfl⟩
      · replace hT := cutF c_3 hT
        have g_12 := zleF (rfl : (v7).toInt = _) (by decide : ((0 : Int32)).toInt = 0) c_3
        refine lv_iload_n hx hb dX4_drinkersOf_22 rfl (lv_at hl 3 rfl) ?_
        refine lv_iload_n hx hb dX4_drinkersOf_23 rfl (lv_at hl 0 rfl) ?_
        have h_4 : ¬ v7 = 0 := z0ne (by omega)
        refine lv_irem hx hb dX4_drinkersOf_24 h_4 ?_
        refine lv_if_ne (tgt := 34) hx hb dX4_drinkersOf_25 (by decide) (fun c_5 => ?_) (fun c_5 => ?_)
        · replace hT := cutF c_5 hT
          have g_13 := zeqF (rfl : ((p1 - p1 / v7 * v7)).toInt = _) (by decide : ((0 : Int32)).toInt = 0) c_5
          obtain ⟨v9, ev9⟩ : ∃ y : Int32, (b1 + (1 : Int32)) = y := ⟨_, rfl⟩
          replace hT := cut_n ev9 hT
          try have fv9 := zaddE (rfl : (b1).toInt = _) (by decide : ((1 : Int32)).toInt = 1) ev9 (by omega) (by omega)
          refine lv_iinc (v := v9) (lv' := [(2, .int v9), (3, .int v7), (0, .ref o), (1, .int p1)]) hx hb dX4_drinkersOf_34 hl (k := 1) rfl (by rw [← ev9]; rfl) (by decide) rfl (fun ls hl => ?_)
          refine lv_goto (tgt := 2) hx hb dX4_drinkersOf_37 (by decide) ?_
          exact ih2 (v9, b2, b3) _ _ _ ⟨(by omega : 0 ≤ v9.toInt), (by omega : v9.toInt ≤ 9), (by omega : 9 - v9.toInt < ((k2 : Nat) : Int)), hT, hP.sub [0, 1, 2, 3, 4] rfl, hD.sub [0, 1, 2, 3, 4] rfl rfl, hS, lv_sub hl [0, 2, 3] rfl⟩
        · replace hT := cutT c_5 hT
          have g_14 := zeqT (rfl : ((p1 - p1 / v7 * v7)).toInt = _) (by decide : ((0 : Int32)).toInt = 0) c_5
          refine lv_aload_n hx hb dX4_drinkersOf_28 rfl (lv_at hl 2 rfl) ?_
          refine lv_iload_n hx hb dX4_drinkersOf_29 rfl (lv_at hl 1 rfl) ?_
          obtain ⟨r10, u11, u12, ev_6⟩ : ∃ x0 x1 x2, (m_X4_drinkFrom b2 b3 b1) = (x0, x1, x2) := ⟨_, _, _, rfl⟩
          replace hT := cut3_n ev_6 hT
          refine zz_cl [0, 1, 2, 3] [4] (wr := [(o_turns, .inl (cI, 9, .inl vo_turns))]) (w1 := [(o, .inr (4, [.ref o_fill, .ref o_drunkFrom, .ref o_turns, .int vo_poured])), (o_fill, .inr (0, [.ref o_fill_inside, .long vo_fill_spilt])), (o_fill_inside, .inl (cJ, 9, .inr (.inl u11))), (o_drunkFrom, .inl (cJ, 9, .inr (.inl u12)))]) (va_runV (As := [.int b1]) (rest := []) ⟨hx, hb, hml, hown, hts⟩ (k_X4_drinkFrom l dC dI cI cJ cC H.size o o_fill o_drunkFrom o_turns o_fill_inside vo_poured vo_fill_spilt b2 b3 b1 r10 u11 u12 ev_6) (cwV 1 hts gX4_drinkersOf_X4_drinkFrom rfl rfl rfl (by decide +kernel) ⟨Nat.le_of_ble_eq_true rfl, Nat.le_of_ble_eq_true rfl⟩) (zz_preV [0, 1, 2, 3] hK hP hD rfl rfl (va_recv hK hP (ci := 4) (q0 := 0) rfl rfl)) rfl rfl hl.1 rfl (lv_room (Nat.le_of_ble_eq_true rfl)) dX4_drinkersOf_30 ⟨Nat.zero_le _, Nat.zero_le _⟩) hP hD hS hA rfl rfl rfl (by decide) (fun ok_7 H locs hP hD hS => ?_)
          have hP : va_P (dC, dI) vwCl [(o_turns, .inl (cI, 9, .inl vo_turns)), (o, .inr (4, [.ref o_fill, .ref o_drunkFrom, .ref o_turns, .int vo_poured])), (o_fill, .inr (0, [.ref o_fill_inside, .long vo_fill_spilt])), (o_fill_inside, .inl (cJ, 9, .inr (.inl u11))), (o_drunkFrom, .inl (cJ, 9, .inr (.inl u12)))] H := hP
          have hD : va_D A [(o_turns, .inl (cI, 9, .inl vo_turns)), (o, .inr (4, [.ref o_fill, .ref o_drunkFrom, .ref o_turns, .int vo_poured])), (o_fill, .inr (0, [.ref o_fill_inside, .long vo_fill_spilt])), (o_fill_inside, .inl (cJ, 9, .inr (.inl u11))), (o_drunkFrom, .inl (cJ, 9, .inr (.inl u12)))] := hD
          refine lv_pop2_2 hx hb dX4_drinkersOf_33 rfl ?_
          obtain ⟨v13, ev13⟩ : ∃ y : Int32, (b1 + (1 : Int32)) = y := ⟨_, rfl⟩
          replace hT := cut_n ev13 hT
          try have fv13 := zaddE (rfl : (b1).toInt = _) (by decide : ((1 : Int32)).toInt = 1) ev13 (by omega) (by omega)
          refine lv_iinc (v := v13) (lv' := [(2, .int v13), (3, .int v7), (0, .ref o), (1, .int p1)]) hx hb dX4_drinkersOf_34 hl (k := 1) rfl (by rw [← ev13]; rfl) (by decide) rfl (fun ls hl => ?_)
          refine lv_goto (tgt := 2) hx hb dX4_drinkersOf_37 (by decide) ?_
          exact ih2 (v13, u11, u12) _ _ _ ⟨(by omega : 0 ≤ v13.toInt), (by omega : v13.toInt ≤ 9), (by omega : 9 - v13.toInt < ((k2 : Nat) : Int)), hT, hP.sub [1, 2, 3, 4, 0] rfl, hD.sub [1, 2, 3, 4, 0] rfl rfl, hS, lv_sub hl [0, 2, 3] rfl⟩

def m_X5_isFromOneTo (p1 : Int32) (p2 : Int32) : Int32 :=
 if p2 < (1 : Int32) then
  (0 : Int32)
 else
  if p1 < p2 then
   (0 : Int32)
  else
   (1 : Int32)
set_option maxHeartbeats 4000000 in
set_option maxRecDepth 100000 in
theorem k_X5_isFromOneTo (l : Launch) (dC : Nat → ClassId) (dI : Nat → Nat → Nat) (cI cJ cC : ClassId) (sz : Nat) (p1 : Int32) (p2 : Int32) (r : Int32) (hT : m_X5_isFromOneTo p1 p2 = r) : Met l yX5_isFromOneTo wsX5_isFromOneTo ({ frames := 0, cells := 0, slots := 0, locals := 0 }) (zPc [.int p1, .int p2] (dC, dI) (zTy cI cJ cC) [] sz) (zQi r ((zB01 r) ∧ (r.toInt = 0 ∨ (1 ≤ p2.toInt ∧ p2.toInt ≤ p1.toInt))) (dC, dI) (zTy cI cJ cC) [] (va_A [] sz)) 0 0 (va_A [] sz) := by
  refine Met.ofW (cc := cX5_isFromOneTo) (maxL := 2) (ret := (some .boolean)) (by decide) rfl ?_
  intro p e s m args below meth c s₁ B hml hv
  obtain ⟨rfl, hsz, hP, hK, hD0⟩ := hv
  have hx := B.exec
  have hb := B.bytes
  have hr := B.returns
  have hts := atoms_spec (ws := wsX5_isFromOneTo) B.pre
  have hown : s.vm.findClass RX5 = some m.cls := findClass_of_methodNamed B.named
  have hlocks := B.notSynchronized
  subst hsz
  have hD := hD0.self (sz := s.heap.size)
  generalize hAe : va_A [] s.heap.size = A at hD ⊢
  have hA : ∀ q : Nat, s.heap.size ≤ q → A q := fun q h => by rw [← hAe]; exact Or.inr h
  have hS : va_S A s.heap s.heap [] := va_S.rf
  have hP : va_P (dC, dI) vwCl [] s.heap := hP
  have hK : va_K (dC, dI) vwCl (zTy cI cJ cC) s := hK
  have hl := lv_entry ([.int p1, .int p2]) (n := 2) (Nat.le_of_ble_eq_true rfl)
  rw [lg_entry_eq]
  generalize (lg_sl ([.int p1, .int p2]) ++ List.replicate (2 - (lg_sl ([.int p1, .int p2])).length) Slot.unset).toArray = ls at hl ⊢
  have hl : lv_has ls 2 [(0, .int p1), (1, .int p2)] := hl
  refine zz_start hP hS (fun Q hQ H locs hP hS => ?_)
  refine lv_iload_n hx hb dX5_isFromOneTo_0 rfl (lv_at hl 1 rfl) ?_
  refine lv_iconst (v := (1 : Int32)) hx hb dX5_isFromOneTo_1 (by decide) ?_
  refine lv_icmp_lt (tgt := 14) hx hb dX5_isFromOneTo_2 (by decide) (fun c_1 => ?_) (fun c_1 => ?_)
  · replace hT := cutT c_1 hT
    have g_3 := zltT (rfl : (p2).toInt = _) (by decide : ((1 : Int32)).toInt = 1) c_1
    refine lv_iconst (v := (0 : Int32)) hx hb dX5_isFromOneTo_14 (by decide) ?_
    have hP9 := hP
    have hD9 := hD
    have hS9 := hS
    have hT : (0 : Int32) = r := hT
    subst hT
    subst hQ
    exact zz_zret hx hb hr rfl [] hK hP9 hD9 hS9 rfl rfl ⟨(Or.inl rfl), (by first | (left; decide) | (right; omega))⟩ hlocks dX5_isFromOneTo_15
  · replace hT := cutF c_1 hT
    have g_4 := zltF (rfl : (p2).toInt = _) (by decide : ((1 : Int32)).toInt = 1) c_1
    refine lv_iload_n hx hb dX5_isFromOneTo_5 rfl (lv_at hl 1 rfl) ?_
    refine lv_iload_n hx hb dX5_isFromOneTo_6 rfl (lv_at hl 0 rfl) ?_
    refine lv_icmp_gt (tgt := 14) hx hb dX5_isFromOneTo_7 (by decide) (fun c_2 => ?_) (fun c_2 => ?_)
    · replace hT := cutT c_2 hT
      have g_5 := zltT (rfl : (p1).toInt = _) (rfl : (p2).toInt = _) c_2
      refine lv_iconst (v := (0 : Int32)) hx hb dX5_isFromOneTo_14 (by decide) ?_
      have hP9 := hP
      have hD9 := hD
      have hS9 := hS
      have hT : (0 : Int32) = r := hT
      subst hT
      subst hQ
      exact zz_zret hx hb hr rfl [] hK hP9 hD9 hS9 rfl rfl ⟨(Or.inl rfl), (by first | (left; decide) | (right; omega))⟩ hlocks dX5_isFromOneTo_15
    · replace hT := cutF c_2 hT
      have g_6 := zltF (rfl : (p1).toInt = _) (rfl : (p2).toInt = _) c_2
      refine lv_iconst (v := (1 : Int32)) hx hb dX5_isFromOneTo_10 (by decide) ?_
      refine lv_goto (tgt := 15) hx hb dX5_isFromOneTo_11 (by decide) ?_
      have hP9 := hP
      have hD9 := hD
      have hS9 := hS
      have hT : (1 : Int32) = r := hT
      subst hT
      subst hQ
      exact zz_zret hx hb hr rfl [] hK hP9 hD9 hS9 rfl rfl ⟨(Or.inr rfl), (by first | (left; decide) | (right; omega))⟩ hlocks dX5_isFromOneTo_15

def m_X5_isPart (p1 : Int32) : Int32 :=
 if p1 = (0 : Int32) then
  (1 : Int32)
 else
  if p1 = (1 : Int32) then
   (1 : Int32)
  else
   (0 : Int32)
set_option maxHeartbeats 4000000 in
set_option maxRecDepth 100000 in
theorem k_X5_isPart (l : Launch) (dC : Nat → ClassId) (dI : Nat → Nat → Nat) (cI cJ cC : ClassId) (sz : Nat) (p1 : Int32) (r : Int32) (hT : m_X5_isPart p1 = r) : Met l yX5_isPart wsX5_isPart ({ frames := 0, cells := 0, slots := 0, locals := 0 }) (zPc [.int p1] (dC, dI) (zTy cI cJ cC) [] sz) (zQi r ((zB01 r)) (dC, dI) (zTy cI cJ cC) [] (va_A [] sz)) 0 0 (va_A [] sz) := by
  refine Met.ofW (cc := cX5_isPart) (maxL := 1) (ret := (some .boolean)) (by decide) rfl ?_
  intro p e s m args below meth c s₁ B hml hv
  obtain ⟨rfl, hsz, hP, hK, hD0⟩ := hv
  have hx := B.exec
  have hb := B.bytes
  have hr := B.returns
  have hts := atoms_spec (ws := wsX5_isPart) B.pre
  have hown : s.vm.findClass RX5 = some m.cls := findClass_of_methodNamed B.named
  have hlocks := B.notSynchronized
  subst hsz
  have hD := hD0.self (sz := s.heap.size)
  generalize hAe : va_A [] s.heap.size = A at hD ⊢
  have hA : ∀ q : Nat, s.heap.size ≤ q → A q := fun q h => by rw [← hAe]; exact Or.inr h
  have hS : va_S A s.heap s.heap [] := va_S.rf
  have hP : va_P (dC, dI) vwCl [] s.heap := hP
  have hK : va_K (dC, dI) vwCl (zTy cI cJ cC) s := hK
  have hl := lv_entry ([.int p1]) (n := 1) (Nat.le_of_ble_eq_true rfl)
  rw [lg_entry_eq]
  generalize (lg_sl ([.int p1]) ++ List.replicate (1 - (lg_sl ([.int p1])).length) Slot.unset).toArray = ls at hl ⊢
  have hl : lv_has ls 1 [(0, .int p1)] := hl
  refine zz_start hP hS (fun Q hQ H locs hP hS => ?_)
  refine lv_iload_n hx hb dX5_isPart_0 rfl (lv_at hl 0 rfl) ?_
  refine lv_if_eq (tgt := 9) hx hb dX5_isPart_1 (by decide) (fun c_1 => ?_) (fun c_1 => ?_)
  · replace hT := cutT c_1 hT
    have g_3 := zeqT (rfl : (p1).toInt = _) (by decide : ((0 : Int32)).toInt = 0) c_1
    refine lv_iconst (v := (1 : Int32)) hx hb dX5_isPart_9 (by decide) ?_
    refine lv_goto (tgt := 14) hx hb dX5_isPart_10 (by decide) ?_
    have hP9 := hP
    have hD9 := hD
    have hS9 := hS
    have hT : (1 : Int32) = r := hT
    subst hT
    subst hQ
    exact zz_zret hx hb hr rfl [] hK hP9 hD9 hS9 rfl rfl (Or.inr rfl) hlocks dX5_isPart_14
  · replace hT := cutF c_1 hT
    have g_4 := zeqF (rfl : (p1).toInt = _) (by decide : ((0 : Int32)).toInt = 0) c_1
    refine lv_iload_n hx hb dX5_isPart_4 rfl (lv_at hl 0 rfl) ?_
    refine lv_iconst (v := (1 : Int32)) hx hb dX5_isPart_5 (by decide) ?_
    refine lv_icmp_ne (tgt := 13) hx hb dX5_isPart_6 (by decide) (fun c_2 => ?_) (fun c_2 => ?_)
    · replace hT := cutF c_2 hT
      have g_5 := zeqF (rfl : (p1).toInt = _) (by decide : ((1 : Int32)).toInt = 1) c_2
      refine lv_iconst (v := (0 : Int32)) hx hb dX5_isPart_13 (by decide) ?_
      have hP9 := hP
      have hD9 := hD
      have hS9 := hS
      have hT : (0 : Int32) = r := hT
      subst hT
      subst hQ
      exact zz_zret hx hb hr rfl [] hK hP9 hD9 hS9 rfl rfl (Or.inl rfl) hlocks dX5_isPart_14
    · replace hT := cutT c_2 hT
      have g_6 := zeqT (rfl : (p1).toInt = _) (by decide : ((1 : Int32)).toInt = 1) c_2
      refine lv_iconst (v := (1 : Int32)) hx hb dX5_isPart_9 (by decide) ?_
      refine lv_goto (tgt := 14) hx hb dX5_isPart_10 (by decide) ?_
      have hP9 := hP
      have hD9 := hD
      have hS9 := hS
      have hT : (1 : Int32) = r := hT
      subst hT
      subst hQ
      exact zz_zret hx hb hr rfl [] hK hP9 hD9 hS9 rfl rfl (Or.inr rfl) hlocks dX5_isPart_14

def m_X5_codeAt (p1 : Int64) (p2 : Int32) : Int32 :=
 ((((p1.toUInt64 >>> (((8 : Int32) * p2).toInt64.toUInt64 &&& Int64.toUInt64 63)).toInt64) &&& (255 : Int64)).toInt32)
set_option maxHeartbeats 4000000 in
set_option maxRecDepth 100000 in
theorem k_X5_codeAt (l : Launch) (dC : Nat → ClassId) (dI : Nat → Nat → Nat) (cI cJ cC : ClassId) (sz : Nat) (p1 : Int64) (p2 : Int32) (r : Int32) (hT : m_X5_codeAt p1 p2 = r) : Met l yX5_codeAt wsX5_codeAt ({ frames := 0, cells := 0, slots := 0, locals := 0 }) (zPc [.long p1, .int p2] (dC, dI) (zTy cI cJ cC) [] sz) (zQi r (True) (dC, dI) (zTy cI cJ cC) [] (va_A [] sz)) 0 0 (va_A [] sz) := by
  refine Met.ofW (cc := cX5_codeAt) (maxL := 3) (ret := (some .int)) (by decide) rfl ?_
  intro p e s m args below meth c s₁ B hml hv
  obtain ⟨rfl, hsz, hP, hK, hD0⟩ := hv
  have hx := B.exec
  have hb := B.bytes
  have hr := B.returns
  have hts := atoms_spec (ws := wsX5_codeAt) B.pre
  have hown : s.vm.findClass RX5 = some m.cls := findClass_of_methodNamed B.named
  have hlocks := B.notSynchronized
  subst hsz
  have hD := hD0.self (sz := s.heap.size)
  generalize hAe : va_A [] s.heap.size = A at hD ⊢
  have hA : ∀ q : Nat, s.heap.size ≤ q → A q := fun q h => by rw [← hAe]; exact Or.inr h
  have hS : va_S A s.heap s.heap [] := va_S.rf
  have hP : va_P (dC, dI) vwCl [] s.heap := hP
  have hK : va_K (dC, dI) vwCl (zTy cI cJ cC) s := hK
  have hl := lv_entry ([.long p1, .int p2]) (n := 3) (Nat.le_of_ble_eq_true rfl)
  rw [lg_entry_eq]
  generalize (lg_sl ([.long p1, .int p2]) ++ List.replicate (3 - (lg_sl ([.long p1, .int p2])).length) Slot.unset).toArray = ls at hl ⊢
  have hl : lv_has ls 3 [(0, .long p1), (2, .int p2)] := hl
  refine zz_start hP hS (fun Q hQ H locs hP hS => ?_)
  have hc_248 := (hts (.constantLong RX5 248 (255)) (by decide +kernel))
  refine lv_lload_n hx hb dX5_codeAt_0 rfl (lv_at hl 0 rfl) ?_
  refine lv_bipush (v := (8 : Int32)) hx hb dX5_codeAt_1 (by decide) ?_
  refine lv_iload_n hx hb dX5_codeAt_3 rfl (lv_at hl 1 rfl) ?_
  refine lv_imul hx hb dX5_codeAt_4 ?_
  refine lv_lushr (v := ((p1.toUInt64 >>> (((8 : Int32) * p2).toInt64.toUInt64 &&& Int64.toUInt64 63)).toInt64)) hx hb dX5_codeAt_5 rfl ?_
  refine lv_ldc2 (v := (255 : Int64)) hx hb hown hc_248 dX5_codeAt_6 ?_
  refine lv_land hx hb dX5_codeAt_9 ?_
  refine lv_l2i (v := ((((p1.toUInt64 >>> (((8 : Int32) * p2).toInt64.toUInt64 &&& Int64.toUInt64 63)).toInt64) &&& (255 : Int64)).toInt32)) hx hb dX5_codeAt_10 rfl ?_
  have hP9 := hP
  have hD9 := hD
  have hS9 := hS
  have hT : ((((p1.toUInt64 >>> (((8 : Int32) * p2).toInt64.toUInt64 &&& Int64.toUInt64 63)).toInt64) &&& (255 : Int64)).toInt32) = r := hT
  subst hT
  subst hQ
  exact zz_iret hx hb hr [] hK hP9 hD9 hS9 rfl rfl trivial hlocks dX5_codeAt_11

def rs_X5_lettersIn_2  (x3 : Int32) (x4 : Int32) : Int32 :=
 x4
def lp_X5_lettersIn_2 (ct2 : Int32 → Int32 → (Int32)) (p1 : Int64) : Nat → Int32 → Int32 → (Int32)
  | 0, _, _ => default
  | k + 1, b1, b2 =>
  if (8 : Int32) ≤ b1 then
   (ct2 b1 b2)
  else
   cut (m_X5_codeAt p1 b1) (fun (r5 : Int32) =>
   cut (
    if b1 ≤ b2 then
     (0 : Int32)
    else
     (1 : Int32)) (fun (j6 : Int32) =>
   if (126 : Int32) < r5 then
    (-1 : Int32)
   else
    if r5 = (0 : Int32) then
     if r5 = (0 : Int32) then
      cut (b1 + (1 : Int32)) (fun (v7 : Int32) =>
      (lp_X5_lettersIn_2 ct2 p1 k v7 b2))
     else
      cut (b2 + (1 : Int32)) (fun (v8 : Int32) =>
      cut (b1 + (1 : Int32)) (fun (v9 : Int32) =>
      (lp_X5_lettersIn_2 ct2 p1 k v9 v8)))
    else
     if j6 = (0 : Int32) then
      if r5 = (0 : Int32) then
       cut (b1 + (1 : Int32)) (fun (v10 : Int32) =>
       (lp_X5_lettersIn_2 ct2 p1 k v10 b2))
      else
       cut (b2 + (1 : Int32)) (fun (v11 : Int32) =>
       cut (b1 + (1 : Int32)) (fun (v12 : Int32) =>
       (lp_X5_lettersIn_2 ct2 p1 k v12 v11)))
     else
      (-1 : Int32)))
def m_X5_lettersIn (p1 : Int64) : Int32 :=
 (lp_X5_lettersIn_2 rs_X5_lettersIn_2 p1 10 (0 : Int32) (0 : Int32))
set_option maxHeartbeats 4000000 in
set_option maxRecDepth 100000 in
theorem k_X5_lettersIn (l : Launch) (dC : Nat → ClassId) (dI : Nat → Nat → Nat) (cI cJ cC : ClassId) (sz : Nat) (p1 : Int64) (r : Int32) (hT : m_X5_lettersIn p1 = r) : Met l yX5_lettersIn wsX5_lettersIn ({ frames := 1, cells := 0, slots := 0, locals := 22 }) (zPc [.long p1] (dC, dI) (zTy cI cJ cC) [] sz) (zQi r ((r.toInt = -1 ∨ (0 ≤ r.toInt ∧ r.toInt ≤ 8))) (dC, dI) (zTy cI cJ cC) [] (va_A [] sz)) 0 0 (va_A [] sz) := by
  refine Met.ofW (cc := cX5_lettersIn) (maxL := 6) (ret := (some .int)) (by decide) rfl ?_
  intro p e s m args below meth c s₁ B hml hv
  obtain ⟨rfl, hsz, hP, hK, hD0⟩ := hv
  have hx := B.exec
  have hb := B.bytes
  have hr := B.returns
  have hts := atoms_spec (ws := wsX5_lettersIn) B.pre
  have hown : s.vm.findClass RX5 = some m.cls := findClass_of_methodNamed B.named
  have hlocks := B.notSynchronized
  subst hsz
  have hD := hD0.self (sz := s.heap.size)
  generalize hAe : va_A [] s.heap.size = A at hD ⊢
  have hA : ∀ q : Nat, s.heap.size ≤ q → A q := fun q h => by rw [← hAe]; exact Or.inr h
  have hS : va_S A s.heap s.heap [] := va_S.rf
  have hP : va_P (dC, dI) vwCl [] s.heap := hP
  have hK : va_K (dC, dI) vwCl (zTy cI cJ cC) s := hK
  have hl := lv_entry ([.long p1]) (n := 6) (Nat.le_of_ble_eq_true rfl)
  rw [lg_entry_eq]
  generalize (lg_sl ([.long p1]) ++ List.replicate (6 - (lg_sl ([.long p1])).length) Slot.unset).toArray = ls at hl ⊢
  have hl : lv_has ls 6 [(0, .long p1)] := hl
  refine zz_start hP hS (fun Q hQ H locs hP hS => ?_)
  refine lv_iconst (v := (0 : Int32)) hx hb dX5_lettersIn_0 (by decide) ?_
  refine lv_istore_n (lv' := [(2, .int (0 : Int32)), (0, .long p1)]) hx hb dX5_lettersIn_1 rfl hl (by decide) rfl (fun ls hl => ?_)
  refine lv_iconst (v := (0 : Int32)) hx hb dX5_lettersIn_2 (by decide) ?_
  refine lv_istore_n (lv' := [(3, .int (0 : Int32)), (2, .int (0 : Int32)), (0, .long p1)]) hx hb dX5_lettersIn_3 rfl hl (by decide) rfl (fun ls hl => ?_)
  have hz_10 : ((0 : Int32)).toInt = 0 := by decide
  have hz_11 : ((0 : Int32)).toInt = 0 := by decide
  refine zz_loop (α := Int32 × Int32) 62 (fun k a H locs ls => (0 ≤ a.1.toInt) ∧ (a.1.toInt ≤ 8) ∧ (0 ≤ a.2.toInt) ∧ (a.2.toInt ≤ a.1.toInt) ∧ (8 - a.1.toInt < ((k : Nat) : Int)) ∧ lp_X5_lettersIn_2 rs_X5_lettersIn_2 p1 k a.1 a.2 = r ∧ va_P (dC, dI) vwCl [] H ∧ va_D A [] ∧ va_S A s.heap H locs ∧ lv_has ls 6 [(3, .int a.1), (2, .int a.2), (0, .long p1)]) (fun a H locs ls => (0 ≤ a.1.toInt) ∧ (a.1.toInt ≤ 8) ∧ (0 ≤ a.2.toInt) ∧ (a.2.toInt ≤ a.1.toInt) ∧ rs_X5_lettersIn_2 a.1 a.2 = r ∧ va_P (dC, dI) vwCl [] H ∧ va_D A [] ∧ va_S A s.heap H locs ∧ lv_has ls 6 [(2, .int a.2)]) ?_ ?_ ?_ 10 ((0 : Int32), (0 : Int32)) ⟨(by omega : 0 ≤ (0 : Int32).toInt), (by omega : (0 : Int32).toInt ≤ 8), (by omega : 0 ≤ (0 : Int32).toInt), (by omega : (0 : Int32).toInt ≤ (0 : Int32).toInt), (by omega : 8 - (0 : Int32).toInt < ((10 : Nat) : Int)), hT, hP.sub [] rfl, hD.sub [] rfl rfl, hS, lv_sub hl [0, 1, 2] rfl⟩
  · rintro ⟨x3, x4⟩ H locs ls ⟨i1, j1, y1, y2, hT, hP, hD, hS, hl⟩
    have hP : va_P (dC, dI) vwCl [] H := hP
    have hD : va_D A [] := hD
    have hl : lv_has ls 6 [(2, .int x4)] := hl
    have hT : rs_X5_lettersIn_2 x3 x4 = r := hT
    have i1 : 0 ≤ x3.toInt := i1
    have j1 : x3.toInt ≤ 8 := j1
    have y1 : 0 ≤ x4.toInt := y1
    have y2 : x4.toInt ≤ x3.toInt := y2
    refine lv_iload_n hx hb dX5_lettersIn_62 rfl (lv_at hl 0 rfl) ?_
    have hP9 := hP
    have hD9 := hD
    have hS9 := hS
    have hT : x4 = r := hT
    subst hT
    subst hQ
    exact zz_iret hx hb hr [] hK hP9 hD9 hS9 rfl rfl (by first | (left; decide) | (right; omega)) hlocks dX5_lettersIn_63
  · rintro ⟨b1, b2⟩ H locs ls ⟨i1, j1, y1, y2, hm, -⟩
    try dsimp only at *
    omega
  · intro k2 hex2 ih2
    rintro ⟨b1, b2⟩ H locs ls ⟨i1, j1, y1, y2, hm2, hT, hP, hD, hS, hl⟩
    have hP : va_P (dC, dI) vwCl [] H := hP
    have hD : va_D A [] := hD
    have hl : lv_has ls 6 [(3, .int b1), (2, .int b2), (0, .long p1)] := hl
    have hT : lp_X5_lettersIn_2 rs_X5_lettersIn_2 p1 (k2 + 1) b1 b2 = r := hT
    have i1 : 0 ≤ b1.toInt := i1
    have j1 : b1.toInt ≤ 8 := j1
    have y1 : 0 ≤ b2.toInt := y1
    have y2 : b2.toInt ≤ b1.toInt := y2
    have hm2 : 8 - b1.toInt < (((k2 + 1) : Nat) : Int) := hm2
    try simp only [Int.natCast_add, Int.natCast_one, Nat.cast_add, Nat.cast_one] at hm2
    refine lv_iload_n hx hb dX5_lettersIn_4 rfl (lv_at hl 0 rfl) ?_
    refine lv_bipush (v := (8 : Int32)) hx hb dX5_lettersIn_5 (by decide) ?_
    refine lv_icmp_ge (tgt := 62) hx hb dX5_lettersIn_7 (by decide) (fun c_1 => ?_) (fun c_1 => ?_)
    · replace hT := cutT c_1 hT
      have g_12 := zleT (by decide : ((8 : Int32)).toInt = 8) (rfl : (b1).toInt = _) c_1
      exact hex2 (b1, b2) _ _ _ ⟨(by omega : 0 ≤ b1.toInt), (by omega : b1.toInt ≤ 8), (by omega : 0 ≤ b2.toInt), (by omega : b2.toInt ≤ b1.toInt), hT, hP.sub [] rfl, hD.sub [] rfl rfl, hS, lv_sub hl [1] rfl⟩
    · replace hT := cutF c_1 hT
      have g_13 := zleF (by decide : ((8 : Int32)).toInt = 8) (rfl : (b1).toInt = _) c_1
      refine lv_lload_n hx hb dX5_lettersIn_10 rfl (lv_at hl 2 rfl) ?_
      refine lv_iload_n hx hb dX5_lettersIn_11 rfl (lv_at hl 0 rfl) ?_
      obtain ⟨r5, ev_2⟩ : ∃ x0, (m_X5_codeAt p1 b1) = x0 := ⟨_, rfl⟩
      replace hT := cut_n ev_2 hT
      refine zz_ci [] [] (wr := []) (w1 := []) (va_runS (As := [.long p1, .int b1]) (rest := []) ⟨hx, hb, hml, hown, hts⟩ (k_X5_codeAt l dC dI cI cJ cC H.size p1 b1 r5 ev_2) (va_cwS 2 hts gX5_lettersIn_X5_codeAt rfl rfl rfl (by decide +kernel) ⟨Nat.le_of_ble_eq_true rfl, Nat.le_of_ble_eq_true rfl⟩) (zz_preS [] hK hP hD rfl rfl) rfl rfl hl.1 rfl (lv_room (Nat.le_of_ble_eq_true rfl)) dX5_lettersIn_12 ⟨Nat.zero_le _, Nat.zero_le _⟩) hP hD hS hA rfl rfl rfl (by decide) (fun ok_3 H locs hP hD hS => ?_)
      have hP : va_P (dC, dI) vwCl [] H := hP
      have hD : va_D A [] := hD
      refine lv_istore (lv' := [(4, .int r5), (3, .int b1), (2, .int b2), (0, .long p1)]) hx hb dX5_lettersIn_15 hl (by decide) rfl (fun ls hl => ?_)
      refine lv_iload_n hx hb dX5_lettersIn_17 rfl (lv_at hl 2 rfl) ?_
      refine lv_iload_n hx hb dX5_lettersIn_18 rfl (lv_at hl 1 rfl) ?_
      refine zz_join1 hT 27 (fun v => [.int v]) (fun v H locs ls => va_P (dC, dI) vwCl [] H ∧ va_D A [] ∧ va_S A s.heap H locs ∧ lv_has ls 6 [(0, .long p1), (2, .int b2), (3, .int b1), (4, .int r5)]) ?_ ?_
      · rintro j6 ej_14 H locs ls ⟨hP, hD, hS, hl⟩
        replace hT := cut_n ej_14 hT
        have hP : va_P (dC, dI) vwCl [] H := hP
        have hD : va_D A [] := hD
        have hl : lv_has ls 6 [(0, .long p1), (2, .int b2), (3, .int b1), (4, .int r5)] := hl
        refine lv_istore (lv' := [(5, .int j6), (0, .long p1), (2, .int b2), (3, .int b1), (4, .int r5)]) hx hb dX5_lettersIn_27 hl (by decide) rfl (fun ls hl => ?_)
        refine lv_iload hx hb dX5_lettersIn_29 (lv_at hl 4 rfl) ?_
        refine lv_bipush (v := (126 : Int32)) hx hb dX5_lettersIn_31 (by decide) ?_
        refine lv_icmp_gt (tgt := 46) hx hb dX5_lettersIn_33 (by decide) (fun c_5 => ?_) (fun c_5 => ?_)
        · replace hT := cutT c_5 hT
          have g_15 := zltT (by decide : ((126 : Int32)).toInt = 126) (rfl : (r5).toInt = _) c_5
          refine lv_iconst (v := (-1 : Int32)) hx hb dX5_lettersIn_46 (by decide) ?_
          have hP9 := hP
          have hD9 := hD
          have hS9 := hS
          have hT : (-1 : Int32) = r := hT
          subst hT
          subst hQ
          exact zz_iret hx hb hr [] hK hP9 hD9 hS9 rfl rfl (by first | (left; decide) | (right; omega)) hlocks dX5_lettersIn_47
        · replace hT := cutF c_5 hT
          have g_16 := zltF (by decide : ((126 : Int32)).toInt = 126) (rfl : (r5).toInt = _) c_5
          refine lv_iload hx hb dX5_lettersIn_36 (lv_at hl 4 rfl) ?_
          refine lv_if_eq (tgt := 48) hx hb dX5_lettersIn_38 (by decide) (fun c_6 => ?_) (fun c_6 => ?_)
          · replace hT := cutT c_6 hT
            have g_17 := zeqT (rfl : (r5).toInt = _) (by decide : ((0 : Int32)).toInt = 0) c_6
            refine lv_iload hx hb dX5_lettersIn_48 (lv_at hl 4 rfl) ?_
            refine lv_if_eq (tgt := 56) hx hb dX5_lettersIn_50 (by decide) (fun c_7 => ?_) (fun c_7 => ?_)
            · replace hT := cutT c_7 hT
              have g_18 := zeqT (rfl : (r5).toInt = _) (by decide : ((0 : Int32)).toInt = 0) c_7
              obtain ⟨v7, ev7⟩ : ∃ y : Int32, (b1 + (1 : Int32)) = y := ⟨_, rfl⟩
              replace hT := cut_n ev7 hT
              try have fv7 := zaddE (rfl : (b1).toInt = _) (by decide : ((1 : Int32)).toInt = 1) ev7 (by omega) (by omega)
              refine lv_iinc (v := v7) (lv' := [(3, .int v7), (5, .int j6), (0, .long p1), (2, .int b2), (4, .int r5)]) hx hb dX5_lettersIn_56 hl (k := 3) rfl (by rw [← ev7]; rfl) (by decide) rfl (fun ls hl => ?_)
              refine lv_goto (tgt := 4) hx hb dX5_lettersIn_59 (by decide) ?_
              exact ih2 (v7, b2) _ _ _ ⟨(by omega : 0 ≤ v7.toInt), (by omega : v7.toInt ≤ 8), (by omega : 0 ≤ b2.toInt), (by omega : b2.toInt ≤ v7.toInt), (by omega : 8 - v7.toInt < ((k2 : Nat) : Int)), hT, hP.sub [] rfl, hD.sub [] rfl rfl, hS, lv_sub hl [0, 3, 2] rfl⟩
            · replace hT := cutF c_7 hT
              have g_19 := zeqF (rfl : (r5).toInt = _) (by decide : ((0 : Int32)).toInt = 0) c_7
              obtain ⟨v8, ev8⟩ : ∃ y : Int32, (b2 + (1 : Int32)) = y := ⟨_, rfl⟩
              replace hT := cut_n ev8 hT
              try have fv8 := zaddE (rfl : (b2).toInt = _) (by decide : ((1 : Int32)).toInt = 1) ev8 (by omega) (by omega)
              refine lv_iinc (v := v8) (lv' := [(2, .int v8), (5, .int j6), (0, .long p1), (3, .int b1), (4, .int r5)]) hx hb dX5_lettersIn_53 hl (k := 2) rfl (by rw [← ev8]; rfl) (by decide) rfl (fun ls hl => ?_)
              obtain ⟨v9, ev9⟩ : ∃ y : Int32, (b1 + (1 : Int32)) = y := ⟨_, rfl⟩
              replace hT := cut_n ev9 hT
              try have fv9 := zaddE (rfl : (b1).toInt = _) (by decide : ((1 : Int32)).toInt = 1) ev9 (by omega) (by omega)
              refine lv_iinc (v := v9) (lv' := [(3, .int v9), (2, .int v8), (5, .int j6), (0, .long p1), (4, .int r5)]) hx hb dX5_lettersIn_56 hl (k := 3) rfl (by rw [← ev9]; rfl) (by decide) rfl (fun ls hl => ?_)
              refine lv_goto (tgt := 4) hx hb dX5_lettersIn_59 (by decide) ?_
              exact ih2 (v9, v8) _ _ _ ⟨(by omega : 0 ≤ v9.toInt), (by omega : v9.toInt ≤ 8), (by omega : 0 ≤ v8.toInt), (by omega : v8.toInt ≤ v9.toInt), (by omega : 8 - v9.toInt < ((k2 : Nat) : Int)), hT, hP.sub [] rfl, hD.sub [] rfl rfl, hS, lv_sub hl [0, 1, 3] rfl⟩
          · replace hT := cutF c_6 hT
            have g_20 := zeqF (rfl : (r5).toInt = _) (by decide : ((0 : Int32)).toInt = 0) c_6
            refine lv_iload hx hb dX5_lettersIn_41 (lv_at hl 0 rfl) ?_
            refine lv_if_eq (tgt := 48) hx hb dX5_lettersIn_43 (by decide) (fun c_8 => ?_) (fun c_8 => ?_)
            · replace hT := cutT c_8 hT
              have g_21 := zeqT (rfl : (j6).toInt = _) (by decide : ((0 : Int32)).toInt = 0) c_8
              refine lv_iload hx hb dX5_lettersIn_48 (lv_at hl 4 rfl) ?_
              refine lv_if_eq (tgt := 56) hx hb dX5_lettersIn_50 (by decide) (fun c_9 => ?_) (fun c_9 => ?_)
              · replace hT := cutT c_9 hT
                have g_22 := zeqT (rfl : (r5).toInt = _) (by decide : ((0 : Int32)).toInt = 0) c_9
                obtain ⟨v10, ev10⟩ : ∃ y : Int32, (b1 + (1 : Int32)) = y := ⟨_, rfl⟩
                replace hT := cut_n ev10 hT
                try have fv10 := zaddE (rfl : (b1).toInt = _) (by decide : ((1 : Int32)).toInt = 1) ev10 (by omega) (by omega)
                refine lv_iinc (v := v10) (lv' := [(3, .int v10), (5, .int j6), (0, .long p1), (2, .int b2), (4, .int r5)]) hx hb dX5_lettersIn_56 hl (k := 3) rfl (by rw [← ev10]; rfl) (by decide) rfl (fun ls hl => ?_)
                refine lv_goto (tgt := 4) hx hb dX5_lettersIn_59 (by decide) ?_
                exact ih2 (v10, b2) _ _ _ ⟨(by omega : 0 ≤ v10.toInt), (by omega : v10.toInt ≤ 8), (by omega : 0 ≤ b2.toInt), (by omega : b2.toInt ≤ v10.toInt), (by omega : 8 - v10.toInt < ((k2 : Nat) : Int)), hT, hP.sub [] rfl, hD.sub [] rfl rfl, hS, lv_sub hl [0, 3, 2] rfl⟩
              · replace hT := cutF c_9 hT
                have g_23 := zeqF (rfl : (r5).toInt = _) (by decide : ((0 : Int32)).toInt = 0) c_9
                obtain ⟨v11, ev11⟩ : ∃ y : Int32, (b2 + (1 : Int32)) = y := ⟨_, rfl⟩
                replace hT := cut_n ev11 hT
                try have fv11 := zaddE (rfl : (b2).toInt = _) (by decide : ((1 : Int32)).toInt = 1) ev11 (by omega) (by omega)
                refine lv_iinc (v := v11) (lv' := [(2, .int v11), (5, .int j6), (0, .long p1), (3, .int b1), (4, .int r5)]) hx hb dX5_lettersIn_53 hl (k := 2) rfl (by rw [← ev11]; rfl) (by decide) rfl (fun ls hl => ?_)
                obtain ⟨v12, ev12⟩ : ∃ y : Int32, (b1 + (1 : Int32)) = y := ⟨_, rfl⟩
                replace hT := cut_n ev12 hT
                try have fv12 := zaddE (rfl : (b1).toInt = _) (by decide : ((1 : Int32)).toInt = 1) ev12 (by omega) (by omega)
                refine lv_iinc (v := v12) (lv' := [(3, .int v12), (2, .int v11), (5, .int j6), (0, .long p1), (4, .int r5)]) hx hb dX5_lettersIn_56 hl (k := 3) rfl (by rw [← ev12]; rfl) (by decide) rfl (fun ls hl => ?_)
                refine lv_goto (tgt := 4) hx hb dX5_lettersIn_59 (by decide) ?_
                exact ih2 (v12, v11) _ _ _ ⟨(by omega : 0 ≤ v12.toInt), (by omega : v12.toInt ≤ 8), (by omega : 0 ≤ v11.toInt), (by omega : v11.toInt ≤ v12.toInt), (by omega : 8 - v12.toInt < ((k2 : Nat) : Int)), hT, hP.sub [] rfl, hD.sub [] rfl rfl, hS, lv_sub hl [0, 1, 3] rfl⟩
            · replace hT := cutF c_8 hT
              have g_24 := zeqF (rfl : (j6).toInt = _) (by decide : ((0 : Int32)).toInt = 0) c_8
              refine lv_iconst (v := (-1 : Int32)) hx hb dX5_lettersIn_46 (by decide) ?_
              have hP9 := hP
              have hD9 := hD
              have hS9 := hS
              have hT : (-1 : Int32) = r := hT
              subst hT
              subst hQ
              exact zz_iret hx hb hr [] hK hP9 hD9 hS9 rfl rfl (by first | (left; decide) | (right; omega)) hlocks dX5_lettersIn_47
      · intro xv hT hM
        refine lv_icmp_ge (tgt := 26) hx hb dX5_lettersIn_19 (by decide) (fun c_4 => ?_) (fun c_4 => ?_)
        · replace hT := cutT c_4 hT
          have g_25 := zleT (rfl : (b1).toInt = _) (rfl : (b2).toInt = _) c_4
          refine lv_iconst (v := (0 : Int32)) hx hb dX5_lettersIn_26 (by decide) ?_
          have hP9 := hP
          have hD9 := hD
          have hS9 := hS
          have hl9 := hl
          have hM9 := hM
          have hT : (0 : Int32) = xv := hT
          subst hT
          exact hM9 _ _ _ ⟨hP9.sub [] rfl, hD9.sub [] rfl rfl, hS9, lv_sub hl9 [3, 2, 1, 0] rfl⟩
        · replace hT := cutF c_4 hT
          have g_26 := zleF (rfl : (b1).toInt = _) (rfl : (b2).toInt = _) c_4
          refine lv_iconst (v := (1 : Int32)) hx hb dX5_lettersIn_22 (by decide) ?_
          refine lv_goto (tgt := 27) hx hb dX5_lettersIn_23 (by decide) ?_
          have hP9 := hP
          have hD9 := hD
          have hS9 := hS
          have hl9 := hl
          have hM9 := hM
          have hT : (1 : Int32) = xv := hT
          subst hT
          exact hM9 _ _ _ ⟨hP9.sub [] rfl, hD9.sub [] rfl rfl, hS9, lv_sub hl9 [3, 2, 1, 0] rfl⟩

def m_X5_takenBy (p1 : Int32) (p2 : Int32) : Int32 :=
 if p1 = (1 : Int32) then
  (p2 - (1 : Int32))
 else
 if p1 = (2 : Int32) then
  (0 : Int32)
 else
 if p1 = (3 : Int32) then
  p2
 else
 if p1 = (4 : Int32) then
  (0 : Int32)
 else
 p2
set_option maxHeartbeats 4000000 in
set_option maxRecDepth 100000 in
theorem k_X5_takenBy (l : Launch) (dC : Nat → ClassId) (dI : Nat → Nat → Nat) (cI cJ cC : ClassId) (sz : Nat) (p1 : Int32) (p2 : Int32) (r : Int32) (hT : m_X5_takenBy p1 p2 = r) : Met l yX5_takenBy wsX5_takenBy ({ frames := 0, cells := 0, slots := 0, locals := 0 }) (zPc [.int p1, .int p2] (dC, dI) (zTy cI cJ cC) [] sz) (zQi r (True) (dC, dI) (zTy cI cJ cC) [] (va_A [] sz)) 0 0 (va_A [] sz) := by
  refine Met.ofW (cc := cX5_takenBy) (maxL := 2) (ret := (some .int)) (by decide) rfl ?_
  intro p e s m args below meth c s₁ B hml hv
  obtain ⟨rfl, hsz, hP, hK, hD0⟩ := hv
  have hx := B.exec
  have hb := B.bytes
  have hr := B.returns
  have hts := atoms_spec (ws := wsX5_takenBy) B.pre
  have hown : s.vm.findClass RX5 = some m.cls := findClass_of_methodNamed B.named
  have hlocks := B.notSynchronized
  subst hsz
  have hD := hD0.self (sz := s.heap.size)
  generalize hAe : va_A [] s.heap.size = A at hD ⊢
  have hA : ∀ q : Nat, s.heap.size ≤ q → A q := fun q h => by rw [← hAe]; exact Or.inr h
  have hS : va_S A s.heap s.heap [] := va_S.rf
  have hP : va_P (dC, dI) vwCl [] s.heap := hP
  have hK : va_K (dC, dI) vwCl (zTy cI cJ cC) s := hK
  have hl := lv_entry ([.int p1, .int p2]) (n := 2) (Nat.le_of_ble_eq_true rfl)
  rw [lg_entry_eq]
  generalize (lg_sl ([.int p1, .int p2]) ++ List.replicate (2 - (lg_sl ([.int p1, .int p2])).length) Slot.unset).toArray = ls at hl ⊢
  have hl : lv_has ls 2 [(0, .int p1), (1, .int p2)] := hl
  refine zz_start hP hS (fun Q hQ H locs hP hS => ?_)
  refine lv_iload_n hx hb dX5_takenBy_0 rfl (lv_at hl 0 rfl) ?_
  by_cases c_1 : p1 = (1 : Int32)
  · replace hT := cutT c_1 hT
    have g_5 := zeqT (rfl : (p1).toInt = _) (by decide : ((1 : Int32)).toInt = 1) c_1
    refine lv_tableIn (off := 31) (tgt := 32) hx hb dX5_takenBy_1 (by rw [c_1]; decide) (by rw [c_1]; decide) (by rw [c_1]; rfl) (by decide) ?_
    refine lv_iload_n hx hb dX5_takenBy_32 rfl (lv_at hl 1 rfl) ?_
    refine lv_iconst (v := (1 : Int32)) hx hb dX5_takenBy_33 (by decide) ?_
    refine lv_isub hx hb dX5_takenBy_34 ?_
    have hP9 := hP
    have hD9 := hD
    have hS9 := hS
    have hT : (p2 - (1 : Int32)) = r := hT
    subst hT
    subst hQ
    exact zz_iret hx hb hr [] hK hP9 hD9 hS9 rfl rfl trivial hlocks dX5_takenBy_35
  replace hT := cutF c_1 hT
  have g_6 := zeqF (rfl : (p1).toInt = _) (by decide : ((1 : Int32)).toInt = 1) c_1
  by_cases c_2 : p1 = (2 : Int32)
  · replace hT := cutT c_2 hT
    have g_7 := zeqT (rfl : (p1).toInt = _) (by decide : ((2 : Int32)).toInt = 2) c_2
    refine lv_tableIn (off := 35) (tgt := 36) hx hb dX5_takenBy_1 (by rw [c_2]; decide) (by rw [c_2]; decide) (by rw [c_2]; rfl) (by decide) ?_
    refine lv_iconst (v := (0 : Int32)) hx hb dX5_takenBy_36 (by decide) ?_
    have hP9 := hP
    have hD9 := hD
    have hS9 := hS
    have hT : (0 : Int32) = r := hT
    subst hT
    subst hQ
    exact zz_iret hx hb hr [] hK hP9 hD9 hS9 rfl rfl trivial hlocks dX5_takenBy_37
  replace hT := cutF c_2 hT
  have g_8 := zeqF (rfl : (p1).toInt = _) (by decide : ((2 : Int32)).toInt = 2) c_2
  by_cases c_3 : p1 = (3 : Int32)
  · replace hT := cutT c_3 hT
    have g_9 := zeqT (rfl : (p1).toInt = _) (by decide : ((3 : Int32)).toInt = 3) c_3
    refine lv_tableIn (off := 37) (tgt := 38) hx hb dX5_takenBy_1 (by rw [c_3]; decide) (by rw [c_3]; decide) (by rw [c_3]; rfl) (by decide) ?_
    refine lv_iload_n hx hb dX5_takenBy_38 rfl (lv_at hl 1 rfl) ?_
    have hP9 := hP
    have hD9 := hD
    have hS9 := hS
    have hT : p2 = r := hT
    subst hT
    subst hQ
    exact zz_iret hx hb hr [] hK hP9 hD9 hS9 rfl rfl trivial hlocks dX5_takenBy_39
  replace hT := cutF c_3 hT
  have g_10 := zeqF (rfl : (p1).toInt = _) (by decide : ((3 : Int32)).toInt = 3) c_3
  by_cases c_4 : p1 = (4 : Int32)
  · replace hT := cutT c_4 hT
    have g_11 := zeqT (rfl : (p1).toInt = _) (by decide : ((4 : Int32)).toInt = 4) c_4
    refine lv_tableIn (off := 35) (tgt := 36) hx hb dX5_takenBy_1 (by rw [c_4]; decide) (by rw [c_4]; decide) (by rw [c_4]; rfl) (by decide) ?_
    refine lv_iconst (v := (0 : Int32)) hx hb dX5_takenBy_36 (by decide) ?_
    have hP9 := hP
    have hD9 := hD
    have hS9 := hS
    have hT : (0 : Int32) = r := hT
    subst hT
    subst hQ
    exact zz_iret hx hb hr [] hK hP9 hD9 hS9 rfl rfl trivial hlocks dX5_takenBy_37
  replace hT := cutF c_4 hT
  have g_12 := zeqF (rfl : (p1).toInt = _) (by decide : ((4 : Int32)).toInt = 4) c_4
  refine lv_tableOut (tgt := 38) hx hb dX5_takenBy_1 (by omega) (by decide) ?_
  refine lv_iload_n hx hb dX5_takenBy_38 rfl (lv_at hl 1 rfl) ?_
  have hP9 := hP
  have hD9 := hD
  have hS9 := hS
  have hT : p2 = r := hT
  subst hT
  subst hQ
  exact zz_iret hx hb hr [] hK hP9 hD9 hS9 rfl rfl trivial hlocks dX5_takenBy_39

def rs_X5_commonDivisor_2  (x4 : Int32) (x5 : Int64) (x6 : Int64) : Int64 :=
 x6
def lp_X5_commonDivisor_2 (ct2 : Int32 → Int64 → Int64 → (Int64)) : Nat → Int32 → Int64 → Int64 → (Int64)
  | 0, _, _, _ => default
  | k + 1, b1, b2, b3 =>
  if (100 : Int32) ≤ b1 then
   (ct2 b1 b2 b3)
  else
   if (lg_cmp b2 (0 : Int64)) = (0 : Int32) then
    (ct2 b1 b2 b3)
   else
    cut (b3 - b3 / b2 * b2) (fun (v7 : Int64) =>
    cut (b1 + (1 : Int32)) (fun (v8 : Int32) =>
    (lp_X5_commonDivisor_2 ct2 k v8 v7 b2)))
def m_X5_commonDivisor (p1 : Int64) (p2 : Int64) : Int64 :=
 (lp_X5_commonDivisor_2 rs_X5_commonDivisor_2 102 (0 : Int32) p1 p2)
set_option maxHeartbeats 4000000 in
set_option maxRecDepth 100000 in
theorem k_X5_commonDivisor (l : Launch) (dC : Nat → ClassId) (dI : Nat → Nat → Nat) (cI cJ cC : ClassId) (sz : Nat) (p1 : Int64) (p2 : Int64) (r : Int64) (hT : m_X5_commonDivisor p1 p2 = r) : Met l yX5_commonDivisor wsX5_commonDivisor ({ frames := 0, cells := 0, slots := 0, locals := 0 }) (zPc [.long p1, .long p2] (dC, dI) (zTy cI cJ cC) [] sz) (zQl r (True) (dC, dI) (zTy cI cJ cC) [] (va_A [] sz)) 0 0 (va_A [] sz) := by
  refine Met.ofW (cc := cX5_commonDivisor) (maxL := 11) (ret := (some .long)) (by decide) rfl ?_
  intro p e s m args below meth c s₁ B hml hv
  obtain ⟨rfl, hsz, hP, hK, hD0⟩ := hv
  have hx := B.exec
  have hb := B.bytes
  have hr := B.returns
  have hts := atoms_spec (ws := wsX5_commonDivisor) B.pre
  have hown : s.vm.findClass RX5 = some m.cls := findClass_of_methodNamed B.named
  have hlocks := B.notSynchronized
  subst hsz
  have hD := hD0.self (sz := s.heap.size)
  generalize hAe : va_A [] s.heap.size = A at hD ⊢
  have hA : ∀ q : Nat, s.heap.size ≤ q → A q := fun q h => by rw [← hAe]; exact Or.inr h
  have hS : va_S A s.heap s.heap [] := va_S.rf
  have hP : va_P (dC, dI) vwCl [] s.heap := hP
  have hK : va_K (dC, dI) vwCl (zTy cI cJ cC) s := hK
  have hl := lv_entry ([.long p1, .long p2]) (n := 11) (Nat.le_of_ble_eq_true rfl)
  rw [lg_entry_eq]
  generalize (lg_sl ([.long p1, .long p2]) ++ List.replicate (11 - (lg_sl ([.long p1, .long p2])).length) Slot.unset).toArray = ls at hl ⊢
  have hl : lv_has ls 11 [(0, .long p1), (2, .long p2)] := hl
  refine zz_start hP hS (fun Q hQ H locs hP hS => ?_)
  refine lv_lload_n hx hb dX5_commonDivisor_0 rfl (lv_at hl 1 rfl) ?_
  refine lv_lstore (lv' := [(4, .long p2), (0, .long p1), (2, .long p2)]) hx hb dX5_commonDivisor_1 hl (by decide) rfl (fun ls hl => ?_)
  refine lv_lload_n hx hb dX5_commonDivisor_3 rfl (lv_at hl 1 rfl) ?_
  refine lv_lstore (lv' := [(6, .long p1), (4, .long p2), (0, .long p1), (2, .long p2)]) hx hb dX5_commonDivisor_4 hl (by decide) rfl (fun ls hl => ?_)
  refine lv_iconst (v := (0 : Int32)) hx hb dX5_commonDivisor_6 (by decide) ?_
  refine lv_istore (lv' := [(8, .int (0 : Int32)), (6, .long p1), (4, .long p2), (0, .long p1), (2, .long p2)]) hx hb dX5_commonDivisor_7 hl (by decide) rfl (fun ls hl => ?_)
  have hz_4 : ((0 : Int32)).toInt = 0 := by decide
  refine zz_loop (α := Int32 × Int64 × Int64) 44 (fun k a H locs ls => (0 ≤ a.1.toInt) ∧ (a.1.toInt ≤ 100) ∧ (100 - a.1.toInt < ((k : Nat) : Int)) ∧ lp_X5_commonDivisor_2 rs_X5_commonDivisor_2 k a.1 a.2.1 a.2.2 = r ∧ va_P (dC, dI) vwCl [] H ∧ va_D A [] ∧ va_S A s.heap H locs ∧ lv_has ls 11 [(8, .int a.1), (6, .long a.2.1), (4, .long a.2.2)]) (fun a H locs ls => (0 ≤ a.1.toInt) ∧ (a.1.toInt ≤ 100) ∧ rs_X5_commonDivisor_2 a.1 a.2.1 a.2.2 = r ∧ va_P (dC, dI) vwCl [] H ∧ va_D A [] ∧ va_S A s.heap H locs ∧ lv_has ls 11 [(4, .long a.2.2)]) ?_ ?_ ?_ 102 ((0 : Int32), p1, p2) ⟨(by omega : 0 ≤ (0 : Int32).toInt), (by omega : (0 : Int32).toInt ≤ 100), (by omega : 100 - (0 : Int32).toInt < ((102 : Nat) : Int)), hT, hP.sub [] rfl, hD.sub [] rfl rfl, hS, lv_sub hl [0, 1, 2] rfl⟩
  · rintro ⟨x4, x5, x6⟩ H locs ls ⟨i1, j1, hT, hP, hD, hS, hl⟩
    have hP : va_P (dC, dI) vwCl [] H := hP
    have hD : va_D A [] := hD
    have hl : lv_has ls 11 [(4, .long x6)] := hl
    have hT : rs_X5_commonDivisor_2 x4 x5 x6 = r := hT
    have i1 : 0 ≤ x4.toInt := i1
    have j1 : x4.toInt ≤ 100 := j1
    refine lv_lload hx hb dX5_commonDivisor_44 (lv_at hl 0 rfl) ?_
    have hP9 := hP
    have hD9 := hD
    have hS9 := hS
    have hT : x6 = r := hT
    subst hT
    subst hQ
    exact zz_lret hx hb hr [] hK hP9 hD9 hS9 rfl rfl trivial hlocks dX5_commonDivisor_46
  · rintro ⟨b1, b2, b3⟩ H locs ls ⟨i1, j1, hm, -⟩
    try dsimp only at *
    omega
  · intro k2 hex2 ih2
    rintro ⟨b1, b2, b3⟩ H locs ls ⟨i1, j1, hm2, hT, hP, hD, hS, hl⟩
    have hP : va_P (dC, dI) vwCl [] H := hP
    have hD : va_D A [] := hD
    have hl : lv_has ls 11 [(8, .int b1), (6, .long b2), (4, .long b3)] := hl
    have hT : lp_X5_commonDivisor_2 rs_X5_commonDivisor_2 (k2 + 1) b1 b2 b3 = r := hT
    have i1 : 0 ≤ b1.toInt := i1
    have j1 : b1.toInt ≤ 100 := j1
    have hm2 : 100 - b1.toInt < (((k2 + 1) : Nat) : Int) := hm2
    try simp only [Int.natCast_add, Int.natCast_one, Nat.cast_add, Nat.cast_one] at hm2
    refine lv_iload hx hb dX5_commonDivisor_9 (lv_at hl 0 rfl) ?_
    refine lv_bipush (v := (100 : Int32)) hx hb dX5_commonDivisor_11 (by decide) ?_
    refine lv_icmp_ge (tgt := 44) hx hb dX5_commonDivisor_13 (by decide) (fun c_1 => ?_) (fun c_1 => ?_)
    · replace hT := cutT c_1 hT
      have g_5 := zleT (by decide : ((100 : Int32)).toInt = 100) (rfl : (b1).toInt = _) c_1
      exact hex2 (b1, b2, b3) _ _ _ ⟨(by omega : 0 ≤ b1.toInt), (by omega : b1.toInt ≤ 100), hT, hP.sub [] rfl, hD.sub [] rfl rfl, hS, lv_sub hl [2] rfl⟩
    · replace hT := cutF c_1 hT
      have g_6 := zleF (by decide : ((100 : Int32)).toInt = 100) (rfl : (b1).toInt = _) c_1
      refine lv_lload hx hb dX5_commonDivisor_16 (lv_at hl 1 rfl) ?_
      refine lv_lconst (v := (0 : Int64)) hx hb dX5_commonDivisor_18 (by decide) ?_
      refine W.lcmp hx hb dX5_commonDivisor_19 ?_
      have hz_7 : ((0 : Int64)).toInt = 0 := by decide
      refine lv_if_eq (tgt := 44) hx hb dX5_commonDivisor_20 (by decide) (fun c_2 => ?_) (fun c_2 => ?_)
      · replace hT := cutT c_2 hT
        have g_8 := zlc_eq.mp c_2
        exact hex2 (b1, b2, b3) _ _ _ ⟨(by omega : 0 ≤ b1.toInt), (by omega : b1.toInt ≤ 100), hT, hP.sub [] rfl, hD.sub [] rfl rfl, hS, lv_sub hl [2] rfl⟩
      · replace hT := cutF c_2 hT
        have g_9 := mt zlc_eq.mpr c_2
        refine lv_lload hx hb dX5_commonDivisor_23 (lv_at hl 2 rfl) ?_
        refine lv_lload hx hb dX5_commonDivisor_25 (lv_at hl 1 rfl) ?_
        have h_3 : ¬ b2 = 0 := zlc (by assumption)
        refine lv_lrem hx hb dX5_commonDivisor_27 h_3 ?_
        refine lv_topl (fun v7 ev7 => ?_)
        replace hT := cut_n ev7.symm hT
        refine lv_lstore (lv' := [(9, .long v7), (8, .int b1), (6, .long b2), (4, .long b3)]) hx hb dX5_commonDivisor_28 hl (by decide) rfl (fun ls hl => ?_)
        refine lv_lload hx hb dX5_commonDivisor_30 (lv_at hl 2 rfl) ?_
        refine lv_lstore (lv' := [(4, .long b2), (9, .long v7), (8, .int b1), (6, .long b2)]) hx hb dX5_commonDivisor_32 hl (by decide) rfl (fun ls hl => ?_)
        refine lv_lload hx hb dX5_commonDivisor_34 (lv_at hl 1 rfl) ?_
        refine lv_lstore (lv' := [(6, .long v7), (4, .long b2), (9, .long v7), (8, .int b1)]) hx hb dX5_commonDivisor_36 hl (by decide) rfl (fun ls hl => ?_)
        obtain ⟨v8, ev8⟩ : ∃ y : Int32, (b1 + (1 : Int32)) = y := ⟨_, rfl⟩
        replace hT := cut_n ev8 hT
        try have fv8 := zaddE (rfl : (b1).toInt = _) (by decide : ((1 : Int32)).toInt = 1) ev8 (by omega) (by omega)
        refine lv_iinc (v := v8) (lv' := [(8, .int v8), (6, .long v7), (4, .long b2), (9, .long v7)]) hx hb dX5_commonDivisor_38 hl (k := 3) rfl (by rw [← ev8]; rfl) (by decide) rfl (fun ls hl => ?_)
        refine lv_goto (tgt := 9) hx hb dX5_commonDivisor_41 (by decide) ?_
        exact ih2 (v8, v7, b2) _ _ _ ⟨(by omega : 0 ≤ v8.toInt), (by omega : v8.toInt ≤ 100), (by omega : 100 - v8.toInt < ((k2 : Nat) : Int)), hT, hP.sub [] rfl, hD.sub [] rfl rfl, hS, lv_sub hl [0, 1, 2] rfl⟩

def m_X5_partOf (p1 : Int64) (p2 : Int32) : Int64 :=
 cut (m_X5_commonDivisor p1 (5159780352 : Int64)) (fun (r1 : Int64) =>
 cut (if r1 < (1 : Int64) then (1 : Int64) else r1) (fun (v2 : Int64) =>
 if p2 = (0 : Int32) then
  (p1 / v2)
 else
  ((5159780352 : Int64) / v2)))
set_option maxHeartbeats 4000000 in
set_option maxRecDepth 100000 in
theorem k_X5_partOf (l : Launch) (dC : Nat → ClassId) (dI : Nat → Nat → Nat) (cI cJ cC : ClassId) (sz : Nat) (p1 : Int64) (p2 : Int32) (r : Int64) (hT : m_X5_partOf p1 p2 = r) : Met l yX5_partOf wsX5_partOf ({ frames := 1, cells := 0, slots := 0, locals := 40 }) (zPc [.long p1, .int p2] (dC, dI) (zTy cI cJ cC) [] sz) (zQl r (True) (dC, dI) (zTy cI cJ cC) [] (va_A [] sz)) 0 0 (va_A [] sz) := by
  refine Met.ofW (cc := cX5_partOf) (maxL := 5) (ret := (some .long)) (by decide) rfl ?_
  intro p e s m args below meth c s₁ B hml hv
  obtain ⟨rfl, hsz, hP, hK, hD0⟩ := hv
  have hx := B.exec
  have hb := B.bytes
  have hr := B.returns
  have hts := atoms_spec (ws := wsX5_partOf) B.pre
  have hown : s.vm.findClass RX5 = some m.cls := findClass_of_methodNamed B.named
  have hlocks := B.notSynchronized
  subst hsz
  have hD := hD0.self (sz := s.heap.size)
  generalize hAe : va_A [] s.heap.size = A at hD ⊢
  have hA : ∀ q : Nat, s.heap.size ≤ q → A q := fun q h => by rw [← hAe]; exact Or.inr h
  have hS : va_S A s.heap s.heap [] := va_S.rf
  have hP : va_P (dC, dI) vwCl [] s.heap := hP
  have hK : va_K (dC, dI) vwCl (zTy cI cJ cC) s := hK
  have hl := lv_entry ([.long p1, .int p2]) (n := 5) (Nat.le_of_ble_eq_true rfl)
  rw [lg_entry_eq]
  generalize (lg_sl ([.long p1, .int p2]) ++ List.replicate (5 - (lg_sl ([.long p1, .int p2])).length) Slot.unset).toArray = ls at hl ⊢
  have hl : lv_has ls 5 [(0, .long p1), (2, .int p2)] := hl
  refine zz_start hP hS (fun Q hQ H locs hP hS => ?_)
  have hc_213 := (hts (.constantLong RX5 213 (5159780352)) (by decide +kernel))
  refine lv_lconst (v := (1 : Int64)) hx hb dX5_partOf_0 (by decide) ?_
  refine lv_lload_n hx hb dX5_partOf_1 rfl (lv_at hl 0 rfl) ?_
  refine lv_ldc2 (v := (5159780352 : Int64)) hx hb hown hc_213 dX5_partOf_2 ?_
  obtain ⟨r1, ev_1⟩ : ∃ x0, (m_X5_commonDivisor p1 (5159780352 : Int64)) = x0 := ⟨_, rfl⟩
  replace hT := cut_n ev_1 hT
  refine zz_cl [] [] (wr := []) (w1 := []) (va_runS (As := [.long p1, .long (5159780352 : Int64)]) (rest := [.long (1 : Int64)]) ⟨hx, hb, hml, hown, hts⟩ (k_X5_commonDivisor l dC dI cI cJ cC H.size p1 (5159780352 : Int64) r1 ev_1) (va_cwS 2 hts gX5_partOf_X5_commonDivisor rfl rfl rfl (by decide +kernel) ⟨Nat.le_of_ble_eq_true rfl, Nat.le_of_ble_eq_true rfl⟩) (zz_preS [] hK hP hD rfl rfl) rfl rfl hl.1 rfl (lv_room (Nat.le_of_ble_eq_true rfl)) dX5_partOf_5 ⟨Nat.zero_le _, Nat.zero_le _⟩) hP hD hS hA rfl rfl rfl (by decide) (fun ok_2 H locs hP hD hS => ?_)
  have hP : va_P (dC, dI) vwCl [] H := hP
  have hD : va_D A [] := hD
  refine va_mmax_long hx hb (by rw [hml]; exact hl.1.symm) hown (hts (.methodLink RX5 253 Lib.MathLoose.max_long.x) (by decide +kernel)) (hts (.static Lib.MathLoose.max_long.x) (by decide +kernel)) (hts (.initialized "java/lang/Math") (by decide +kernel)) (hts (.code Lib.MathLoose.max_long.x Lib.MathLoose.max_long.code 4 (some .long)) (by decide +kernel)) (Nat.le_of_ble_eq_true rfl) (Nat.le_of_ble_eq_true rfl) (Nat.zero_le _) (Nat.zero_le _) dX5_partOf_8 ?_
  refine lv_topl (fun v2 ev2 => ?_)
  replace hT := cut_n ev2.symm hT
  refine lv_lstore_n (lv' := [(3, .long v2), (0, .long p1), (2, .int p2)]) hx hb dX5_partOf_11 rfl hl (by decide) rfl (fun ls hl => ?_)
  refine lv_iload_n hx hb dX5_partOf_12 rfl (lv_at hl 2 rfl) ?_
  refine lv_if_ne (tgt := 20) hx hb dX5_partOf_13 (by decide) (fun c_3 => ?_) (fun c_3 => ?_)
  · replace hT := cutF c_3 hT
    have g_6 := zeqF (rfl : (p2).toInt = _) (by decide : ((0 : Int32)).toInt = 0) c_3
    refine lv_ldc2 (v := (5159780352 : Int64)) hx hb hown hc_213 dX5_partOf_20 ?_
    refine lv_lload_n hx hb dX5_partOf_23 rfl (lv_at hl 0 rfl) ?_
    have h_4 : ¬ v2 = 0 := zmx (by assumption)
    refine lv_ldiv hx hb dX5_partOf_24 h_4 ?_
    have hP9 := hP
    have hD9 := hD
    have hS9 := hS
    have hT : ((5159780352 : Int64) / v2) = r := hT
    subst hT
    subst hQ
    exact zz_lret hx hb hr [] hK hP9 hD9 hS9 rfl rfl trivial hlocks dX5_partOf_25
  · replace hT := cutT c_3 hT
    have g_7 := zeqT (rfl : (p2).toInt = _) (by decide : ((0 : Int32)).toInt = 0) c_3
    refine lv_lload_n hx hb dX5_partOf_16 rfl (lv_at hl 1 rfl) ?_
    refine lv_goto (tgt := 23) hx hb dX5_partOf_17 (by decide) ?_
    refine lv_lload_n hx hb dX5_partOf_23 rfl (lv_at hl 0 rfl) ?_
    have h_5 : ¬ v2 = 0 := zmx (by assumption)
    refine lv_ldiv hx hb dX5_partOf_24 h_5 ?_
    have hP9 := hP
    have hD9 := hD
    have hS9 := hS
    have hT : (p1 / v2) = r := hT
    subst hT
    subst hQ
    exact zz_lret hx hb hr [] hK hP9 hD9 hS9 rfl rfl trivial hlocks dX5_partOf_25

def m_X5_nextSeed (p1 : Int32) : Int32 :=
 (((((1103515245 : Int64) * (p1.toInt64)) + (12345 : Int64)) &&& (2147483647 : Int64)).toInt32)
set_option maxHeartbeats 4000000 in
set_option maxRecDepth 100000 in
theorem k_X5_nextSeed (l : Launch) (dC : Nat → ClassId) (dI : Nat → Nat → Nat) (cI cJ cC : ClassId) (sz : Nat) (p1 : Int32) (r : Int32) (hT : m_X5_nextSeed p1 = r) : Met l yX5_nextSeed wsX5_nextSeed ({ frames := 0, cells := 0, slots := 0, locals := 0 }) (zPc [.int p1] (dC, dI) (zTy cI cJ cC) [] sz) (zQi r (True) (dC, dI) (zTy cI cJ cC) [] (va_A [] sz)) 0 0 (va_A [] sz) := by
  refine Met.ofW (cc := cX5_nextSeed) (maxL := 1) (ret := (some .int)) (by decide) rfl ?_
  intro p e s m args below meth c s₁ B hml hv
  obtain ⟨rfl, hsz, hP, hK, hD0⟩ := hv
  have hx := B.exec
  have hb := B.bytes
  have hr := B.returns
  have hts := atoms_spec (ws := wsX5_nextSeed) B.pre
  have hown : s.vm.findClass RX5 = some m.cls := findClass_of_methodNamed B.named
  have hlocks := B.notSynchronized
  subst hsz
  have hD := hD0.self (sz := s.heap.size)
  generalize hAe : va_A [] s.heap.size = A at hD ⊢
  have hA : ∀ q : Nat, s.heap.size ≤ q → A q := fun q h => by rw [← hAe]; exact Or.inr h
  have hS : va_S A s.heap s.heap [] := va_S.rf
  have hP : va_P (dC, dI) vwCl [] s.heap := hP
  have hK : va_K (dC, dI) vwCl (zTy cI cJ cC) s := hK
  have hl := lv_entry ([.int p1]) (n := 1) (Nat.le_of_ble_eq_true rfl)
  rw [lg_entry_eq]
  generalize (lg_sl ([.int p1]) ++ List.replicate (1 - (lg_sl ([.int p1])).length) Slot.unset).toArray = ls at hl ⊢
  have hl : lv_has ls 1 [(0, .int p1)] := hl
  refine zz_start hP hS (fun Q hQ H locs hP hS => ?_)
  have hc_295 := (hts (.constantLong RX5 295 (1103515245)) (by decide +kernel))
  have hc_297 := (hts (.constantLong RX5 297 (12345)) (by decide +kernel))
  have hc_299 := (hts (.constantLong RX5 299 (2147483647)) (by decide +kernel))
  refine lv_ldc2 (v := (1103515245 : Int64)) hx hb hown hc_295 dX5_nextSeed_0 ?_
  refine lv_iload_n hx hb dX5_nextSeed_3 rfl (lv_at hl 0 rfl) ?_
  refine lv_i2l (v := (p1.toInt64)) hx hb dX5_nextSeed_4 rfl ?_
  refine lv_lmul hx hb dX5_nextSeed_5 ?_
  refine lv_ldc2 (v := (12345 : Int64)) hx hb hown hc_297 dX5_nextSeed_6 ?_
  refine lv_ladd hx hb dX5_nextSeed_9 ?_
  refine lv_ldc2 (v := (2147483647 : Int64)) hx hb hown hc_299 dX5_nextSeed_10 ?_
  refine lv_land hx hb dX5_nextSeed_13 ?_
  refine lv_l2i (v := (((((1103515245 : Int64) * (p1.toInt64)) + (12345 : Int64)) &&& (2147483647 : Int64)).toInt32)) hx hb dX5_nextSeed_14 rfl ?_
  have hP9 := hP
  have hD9 := hD
  have hS9 := hS
  have hT : (((((1103515245 : Int64) * (p1.toInt64)) + (12345 : Int64)) &&& (2147483647 : Int64)).toInt32) = r := hT
  subst hT
  subst hQ
  exact zz_iret hx hb hr [] hK hP9 hD9 hS9 rfl rfl trivial hlocks dX5_nextSeed_15

def m_X5_drawn (p1 : Int32) (p2 : Int32) : Int32 :=
 if p2 ≤ (0 : Int32) then
  (0 : Int32)
 else
  ((p1 / (65536 : Int32)) - (p1 / (65536 : Int32)) / p2 * p2)
set_option maxHeartbeats 4000000 in
set_option maxRecDepth 100000 in
theorem k_X5_drawn (l : Launch) (dC : Nat → ClassId) (dI : Nat → Nat → Nat) (cI cJ cC : ClassId) (sz : Nat) (p1 : Int32) (p2 : Int32) (r : Int32) (hT : m_X5_drawn p1 p2 = r) : Met l yX5_drawn wsX5_drawn ({ frames := 0, cells := 0, slots := 0, locals := 0 }) (zPc [.int p1, .int p2] (dC, dI) (zTy cI cJ cC) [] sz) (zQi r (True) (dC, dI) (zTy cI cJ cC) [] (va_A [] sz)) 0 0 (va_A [] sz) := by
  refine Met.ofW (cc := cX5_drawn) (maxL := 2) (ret := (some .int)) (by decide) rfl ?_
  intro p e s m args below meth c s₁ B hml hv
  obtain ⟨rfl, hsz, hP, hK, hD0⟩ := hv
  have hx := B.exec
  have hb := B.bytes
  have hr := B.returns
  have hts := atoms_spec (ws := wsX5_drawn) B.pre
  have hown : s.vm.findClass RX5 = some m.cls := findClass_of_methodNamed B.named
  have hlocks := B.notSynchronized
  subst hsz
  have hD := hD0.self (sz := s.heap.size)
  generalize hAe : va_A [] s.heap.size = A at hD ⊢
  have hA : ∀ q : Nat, s.heap.size ≤ q → A q := fun q h => by rw [← hAe]; exact Or.inr h
  have hS : va_S A s.heap s.heap [] := va_S.rf
  have hP : va_P (dC, dI) vwCl [] s.heap := hP
  have hK : va_K (dC, dI) vwCl (zTy cI cJ cC) s := hK
  have hl := lv_entry ([.int p1, .int p2]) (n := 2) (Nat.le_of_ble_eq_true rfl)
  rw [lg_entry_eq]
  generalize (lg_sl ([.int p1, .int p2]) ++ List.replicate (2 - (lg_sl ([.int p1, .int p2])).length) Slot.unset).toArray = ls at hl ⊢
  have hl : lv_has ls 2 [(0, .int p1), (1, .int p2)] := hl
  refine zz_start hP hS (fun Q hQ H locs hP hS => ?_)
  have hc_301 := (hts (.constant RX5 301 (65536)) (by decide +kernel))
  refine lv_iload_n hx hb dX5_drawn_0 rfl (lv_at hl 1 rfl) ?_
  refine lv_if_le (tgt := 14) hx hb dX5_drawn_1 (by decide) (fun c_1 => ?_) (fun c_1 => ?_)
  · replace hT := cutT c_1 hT
    have g_4 := zleT (rfl : (p2).toInt = _) (by decide : ((0 : Int32)).toInt = 0) c_1
    refine lv_iconst (v := (0 : Int32)) hx hb dX5_drawn_14 (by decide) ?_
    have hP9 := hP
    have hD9 := hD
    have hS9 := hS
    have hT : (0 : Int32) = r := hT
    subst hT
    subst hQ
    exact zz_iret hx hb hr [] hK hP9 hD9 hS9 rfl rfl trivial hlocks dX5_drawn_15
  · replace hT := cutF c_1 hT
    have g_5 := zleF (rfl : (p2).toInt = _) (by decide : ((0 : Int32)).toInt = 0) c_1
    refine lv_iload_n hx hb dX5_drawn_4 rfl (lv_at hl 0 rfl) ?_
    refine lv_ldcw (v := (65536 : Int32)) hx hb hown hc_301 dX5_drawn_5 ?_
    have h_2 : ¬ (65536 : Int32) = 0 := by decide
    refine lv_idiv hx hb dX5_drawn_8 h_2 ?_
    refine lv_iload_n hx hb dX5_drawn_9 rfl (lv_at hl 1 rfl) ?_
    have h_3 : ¬ p2 = 0 := z0ne (by omega)
    refine lv_irem hx hb dX5_drawn_10 h_3 ?_
    refine lv_goto (tgt := 15) hx hb dX5_drawn_11 (by decide) ?_
    have hP9 := hP
    have hD9 := hD
    have hS9 := hS
    have hT : ((p1 / (65536 : Int32)) - (p1 / (65536 : Int32)) / p2 * p2) = r := hT
    subst hT
    subst hQ
    exact zz_iret hx hb hr [] hK hP9 hD9 hS9 rfl rfl trivial hlocks dX5_drawn_15

def m_X5_into (p1 : Int64) (p2 : Int64) : Int64 :=
 (((31 : Int64) * p1) + p2)
set_option maxHeartbeats 4000000 in
set_option maxRecDepth 100000 in
theorem k_X5_into (l : Launch) (dC : Nat → ClassId) (dI : Nat → Nat → Nat) (cI cJ cC : ClassId) (sz : Nat) (p1 : Int64) (p2 : Int64) (r : Int64) (hT : m_X5_into p1 p2 = r) : Met l yX5_into wsX5_into ({ frames := 0, cells := 0, slots := 0, locals := 0 }) (zPc [.long p1, .long p2] (dC, dI) (zTy cI cJ cC) [] sz) (zQl r (True) (dC, dI) (zTy cI cJ cC) [] (va_A [] sz)) 0 0 (va_A [] sz) := by
  refine Met.ofW (cc := cX5_into) (maxL := 4) (ret := (some .long)) (by decide) rfl ?_
  intro p e s m args below meth c s₁ B hml hv
  obtain ⟨rfl, hsz, hP, hK, hD0⟩ := hv
  have hx := B.exec
  have hb := B.bytes
  have hr := B.returns
  have hts := atoms_spec (ws := wsX5_into) B.pre
  have hown : s.vm.findClass RX5 = some m.cls := findClass_of_methodNamed B.named
  have hlocks := B.notSynchronized
  subst hsz
  have hD := hD0.self (sz := s.heap.size)
  generalize hAe : va_A [] s.heap.size = A at hD ⊢
  have hA : ∀ q : Nat, s.heap.size ≤ q → A q := fun q h => by rw [← hAe]; exact Or.inr h
  have hS : va_S A s.heap s.heap [] := va_S.rf
  have hP : va_P (dC, dI) vwCl [] s.heap := hP
  have hK : va_K (dC, dI) vwCl (zTy cI cJ cC) s := hK
  have hl := lv_entry ([.long p1, .long p2]) (n := 4) (Nat.le_of_ble_eq_true rfl)
  rw [lg_entry_eq]
  generalize (lg_sl ([.long p1, .long p2]) ++ List.replicate (4 - (lg_sl ([.long p1, .long p2])).length) Slot.unset).toArray = ls at hl ⊢
  have hl : lv_has ls 4 [(0, .long p1), (2, .long p2)] := hl
  refine zz_start hP hS (fun Q hQ H locs hP hS => ?_)
  have hc_302 := (hts (.constantLong RX5 302 (31)) (by decide +kernel))
  refine lv_ldc2 (v := (31 : Int64)) hx hb hown hc_302 dX5_into_0 ?_
  refine lv_lload_n hx hb dX5_into_3 rfl (lv_at hl 0 rfl) ?_
  refine lv_lmul hx hb dX5_into_4 ?_
  refine lv_lload_n hx hb dX5_into_5 rfl (lv_at hl 1 rfl) ?_
  refine lv_ladd hx hb dX5_into_6 ?_
  have hP9 := hP
  have hD9 := hD
  have hS9 := hS
  have hT : (((31 : Int64) * p1) + p2) = r := hT
  subst hT
  subst hQ
  exact zz_lret hx hb hr [] hK hP9 hD9 hS9 rfl rfl trivial hlocks dX5_into_7
