def rs_X5_letters_2  (x5 : Int32) (x6 : Int32) (x7 : Nat → Int32) : Int32 × Int32 × (Nat → Int32) :=
 (x6, x6, x7)
def lp_X5_letters_2 (r1 : Int32) (ct2 : Int32 → Int32 → (Nat → Int32) → (Int32 × Int32 × (Nat → Int32))) (p1 : Int64) : Nat → Int32 → Int32 → (Nat → Int32) → (Int32 × Int32 × (Nat → Int32))
  | 0, _, _, _ => default
  | k + 1, b2, b3, b4 =>
  if r1 ≤ b2 then
   (ct2 b2 b3 b4)
  else
   cut (m_X5_codeAt p1 b2) (fun (r8 : Int32) =>
   cut2 (m_X1_write b3 b4 r8) (fun (u9 : Int32) (u10 : Nat → Int32) =>
   cut (b2 + (1 : Int32)) (fun (v11 : Int32) =>
   (lp_X5_letters_2 r1 ct2 p1 k v11 u9 u10))))
def m_X5_letters (vo_page_size : Int32) (vo_page_codes : Nat → Int32) (p1 : Int64) : Int32 × Int32 × (Nat → Int32) :=
 cut (m_X5_lettersIn p1) (fun (r1 : Int32) =>
 if (0 : Int32) ≤ r1 then
  if (vo_page_size + r1) ≤ (70 : Int32) then
   (lp_X5_letters_2 r1 rs_X5_letters_2 p1 10 (0 : Int32) vo_page_size vo_page_codes)
  else
   ((-104 : Int32), vo_page_size, vo_page_codes)
 else
  ((-102 : Int32), vo_page_size, vo_page_codes))
set_option maxHeartbeats 4000000 in
set_option maxRecDepth 100000 in
theorem k_X5_letters (l : Launch) (dC : Nat → ClassId) (dI : Nat → Nat → Nat) (cI cJ cC : ClassId) (sz : Nat) (o o_page o_reader o_stand o_trialStand o_table o_kept o_trial o_page_codes : Nat) (vo_imageKept : Int32) (vo_towersRead : Int32) (vo_changesDone : Int32) (vo_page_size : Int32) (vo_page_codes : Nat → Int32) (p1 : Int64) (r : Int32) (qo_page_size : Int32) (qo_page_codes : Nat → Int32) (hT : m_X5_letters vo_page_size vo_page_codes p1 = (r, qo_page_size, qo_page_codes)) (hp0 : 0 ≤ vo_page_size.toInt) (hp70 : vo_page_size.toInt ≤ 70) (hpc : ∀ j, narrow .char (.int (vo_page_codes j)) = .int (vo_page_codes j)) : Met l yX5_letters wsX5_letters ({ frames := 2, cells := 0, slots := 0, locals := 47 }) (zPc [.ref o, .long p1] (dC, dI) (zTy cI cJ cC) [(o, .inr (5, [.ref o_page, .ref o_reader, .ref o_stand, .ref o_trialStand, .ref o_table, .ref o_kept, .ref o_trial, .int vo_imageKept, .int vo_towersRead, .int vo_changesDone])), (o_page, .inr (1, [.ref o_page_codes, .int vo_page_size])), (o_page_codes, .inl (cC, 70, .inl vo_page_codes))] sz) (zQi r ((0 ≤ qo_page_size.toInt) ∧ (qo_page_size.toInt ≤ 70) ∧ (∀ j, narrow .char (.int (qo_page_codes j)) = .int (qo_page_codes j))) (dC, dI) (zTy cI cJ cC) [(o, .inr (5, [.ref o_page, .ref o_reader, .ref o_stand, .ref o_trialStand, .ref o_table, .ref o_kept, .ref o_trial, .int vo_imageKept, .int vo_towersRead, .int vo_changesDone])), (o_page, .inr (1, [.ref o_page_codes, .int qo_page_size])), (o_page_codes, .inl (cC, 70, .inl qo_page_codes))] (va_A [(o, .inr (5, [.ref o_page, .ref o_reader, .ref o_stand, .ref o_trialStand, .ref o_table, .ref o_kept, .ref o_trial, .int vo_imageKept, .int vo_towersRead, .int vo_changesDone])), (o_page, .inr (1, [.ref o_page_codes, .int vo_page_size])), (o_page_codes, .inl (cC, 70, .inl vo_page_codes))] sz)) 0 0 (va_A [(o, .inr (5, [.ref o_page, .ref o_reader, .ref o_stand, .ref o_trialStand, .ref o_table, .ref o_kept, .ref o_trial, .int vo_imageKept, .int vo_towersRead, .int vo_changesDone])), (o_page, .inr (1, [.ref o_page_codes, .int vo_page_size])), (o_page_codes, .inl (cC, 70, .inl vo_page_codes))] sz) := by
  refine Met.ofW (cc := cX5_letters) (maxL := 5) (ret := (some .int)) (by decide) rfl ?_
  intro p e s m args below meth c s₁ B hml hv
  obtain ⟨rfl, hsz, hP, hK, hD0⟩ := hv
  have hx := B.exec
  have hb := B.bytes
  have hr := B.returns
  have hts := atoms_spec (ws := wsX5_letters) B.pre
  have hown : s.vm.findClass RX5 = some m.cls := findClass_of_methodNamed B.named
  have hlocks := B.notSynchronized
  subst hsz
  have hD := hD0.self (sz := s.heap.size)
  generalize hAe : va_A [(o, .inr (5, [.ref o_page, .ref o_reader, .ref o_stand, .ref o_trialStand, .ref o_table, .ref o_kept, .ref o_trial, .int vo_imageKept, .int vo_towersRead, .int vo_changesDone])), (o_page, .inr (1, [.ref o_page_codes, .int vo_page_size])), (o_page_codes, .inl (cC, 70, .inl vo_page_codes))] s.heap.size = A at hD ⊢
  have hA : ∀ q : Nat, s.heap.size ≤ q → A q := fun q h => by rw [← hAe]; exact Or.inr h
  have hS : va_S A s.heap s.heap [] := va_S.rf
  have hP : va_P (dC, dI) vwCl [(o, .inr (5, [.ref o_page, .ref o_reader, .ref o_stand, .ref o_trialStand, .ref o_table, .ref o_kept, .ref o_trial, .int vo_imageKept, .int vo_towersRead, .int vo_changesDone])), (o_page, .inr (1, [.ref o_page_codes, .int vo_page_size])), (o_page_codes, .inl (cC, 70, .inl vo_page_codes))] s.heap := hP
  have hK : va_K (dC, dI) vwCl (zTy cI cJ cC) s := hK
  have hl := lv_entry ([.ref o, .long p1]) (n := 5) (Nat.le_of_ble_eq_true rfl)
  rw [lg_entry_eq]
  generalize (lg_sl ([.ref o, .long p1]) ++ List.replicate (5 - (lg_sl ([.ref o, .long p1])).length) Slot.unset).toArray = ls at hl ⊢
  have hl : lv_has ls 5 [(0, .ref o), (1, .long p1)] := hl
  refine zz_start hP hS (fun Q hQ H locs hP hS => ?_)
  have hwX1 : ∀ w ∈ u_ws RX1 TX1 2, w ∈ wsX5_letters := by decide +kernel
  have hwX5 : ∀ w ∈ u_ws RX5 TX5 10, w ∈ wsX5_letters := by decide +kernel
  have hf_12 := (hts (.fieldLink RX5 12 "PouredTopmost" "page" "LPouredTopmost$Page;") (by decide +kernel))
  have hf_54 := (hts (.fieldLink RX5 54 "PouredTopmost$Page" "size" "I") (by decide +kernel))
  refine lv_lload_n hx hb dX5_letters_0 rfl (lv_at hl 1 rfl) ?_
  obtain ⟨r1, ev_1⟩ : ∃ x0, (m_X5_lettersIn p1) = x0 := ⟨_, rfl⟩
  replace hT := cut_n ev_1 hT
  refine zz_ci [] [0, 1, 2] (wr := [(o, .inr (5, [.ref o_page, .ref o_reader, .ref o_stand, .ref o_trialStand, .ref o_table, .ref o_kept, .ref o_trial, .int vo_imageKept, .int vo_towersRead, .int vo_changesDone])), (o_page, .inr (1, [.ref o_page_codes, .int vo_page_size])), (o_page_codes, .inl (cC, 70, .inl vo_page_codes))]) (w1 := []) (va_runS (As := [.long p1]) (rest := []) ⟨hx, hb, hml, hown, hts⟩ (k_X5_lettersIn l dC dI cI cJ cC H.size p1 r1 ev_1) (va_cwS 1 hts gX5_letters_X5_lettersIn rfl rfl rfl (by decide +kernel) ⟨Nat.le_of_ble_eq_true rfl, Nat.le_of_ble_eq_true rfl⟩) (zz_preS [] hK hP hD rfl rfl) rfl rfl hl.1 rfl (lv_room (Nat.le_of_ble_eq_true rfl)) dX5_letters_1 ⟨Nat.zero_le _, Nat.zero_le _⟩) hP hD hS hA rfl rfl rfl (by decide) (fun ok_2 H locs hP hD hS => ?_)
  have hP : va_P (dC, dI) vwCl [(o, .inr (5, [.ref o_page, .ref o_reader, .ref o_stand, .ref o_trialStand, .ref o_table, .ref o_kept, .ref o_trial, .int vo_imageKept, .int vo_towersRead, .int vo_changesDone])), (o_page, .inr (1, [.ref o_page_codes, .int vo_page_size])), (o_page_codes, .inl (cC, 70, .inl vo_page_codes))] H := hP
  have hD : va_D A [(o, .inr (5, [.ref o_page, .ref o_reader, .ref o_stand, .ref o_trialStand, .ref o_table, .ref o_kept, .ref o_trial, .int vo_imageKept, .int vo_towersRead, .int vo_changesDone])), (o_page, .inr (1, [.ref o_page_codes, .int vo_page_size])), (o_page_codes, .inl (cC, 70, .inl vo_page_codes))] := hD
  refine lv_istore_n (lv' := [(3, .int r1), (0, .ref o), (1, .long p1)]) hx hb dX5_letters_4 rfl hl (by decide) rfl (fun ls hl => ?_)
  refine lv_iload_n hx hb dX5_letters_5 rfl (lv_at hl 0 rfl) ?_
  refine lv_if_ge (tgt := 12) hx hb dX5_letters_6 (by decide) (fun c_3 => ?_) (fun c_3 => ?_)
  · replace hT := cutT c_3 hT
    have g_13 := zleT (by decide : ((0 : Int32)).toInt = 0) (rfl : (r1).toInt = _) c_3
    refine lv_aload_n hx hb dX5_letters_12 rfl (lv_at hl 1 rfl) ?_
    refine va_get (D := (dC, dI)) (ci := 5) (v := .ref o_page) (C := RX5) (T := TX5) (N := 10) hx hb hts hwX5 hown hK hP 0 rfl rfl 0 (by decide) hf_12 (fun _ h9 => h9) rfl dX5_letters_13 ?_
    refine va_get (D := (dC, dI)) (ci := 1) (v := .int vo_page_size) (C := RX1) (T := TX1) (N := 2) hx hb hts hwX1 hown hK hP 1 rfl rfl 1 (by decide) hf_54 (fun _ h9 => h9) rfl dX5_letters_16 ?_
    refine lv_iload_n hx hb dX5_letters_19 rfl (lv_at hl 0 rfl) ?_
    refine lv_iadd hx hb dX5_letters_20 ?_
    refine lv_bipush (v := (70 : Int32)) hx hb dX5_letters_21 (by decide) ?_
    try have e_14 := zaddE (v := (vo_page_size + r1)) (rfl : (vo_page_size).toInt = _) (rfl : (r1).toInt = _) rfl (by omega) (by omega)
    refine lv_icmp_le (tgt := 29) hx hb dX5_letters_23 (by decide) (fun c_4 => ?_) (fun c_4 => ?_)
    · replace hT := cutT c_4 hT
      have g_15 := zleT (rfl : ((vo_page_size + r1)).toInt = _) (by decide : ((70 : Int32)).toInt = 70) c_4
      refine lv_iconst (v := (0 : Int32)) hx hb dX5_letters_29 (by decide) ?_
      refine lv_istore (lv' := [(4, .int (0 : Int32)), (3, .int r1), (0, .ref o), (1, .long p1)]) hx hb dX5_letters_30 hl (by decide) rfl (fun ls hl => ?_)
      have hz_16 : ((0 : Int32)).toInt = 0 := by decide
      refine zz_loop (α := Int32 × Int32 × (Nat → Int32)) 57 (fun k a H locs ls => (0 ≤ a.1.toInt) ∧ (a.1.toInt ≤ 8) ∧ (0 ≤ a.2.1.toInt) ∧ (a.2.1.toInt ≤ 70) ∧ (∀ j, narrow .char (.int (a.2.2 j)) = .int (a.2.2 j)) ∧ (8 - a.1.toInt < ((k : Nat) : Int)) ∧ lp_X5_letters_2 r1 rs_X5_letters_2 p1 k a.1 a.2.1 a.2.2 = (r, qo_page_size, qo_page_codes) ∧ va_P (dC, dI) vwCl [(o, .inr (5, [.ref o_page, .ref o_reader, .ref o_stand, .ref o_trialStand, .ref o_table, .ref o_kept, .ref o_trial, .int vo_imageKept, .int vo_towersRead, .int vo_changesDone])), (o_page, .inr (1, [.ref o_page_codes, .int a.2.1])), (o_page_codes, .inl (cC, 70, .inl a.2.2))] H ∧ va_D A [(o, .inr (5, [.ref o_page, .ref o_reader, .ref o_stand, .ref o_trialStand, .ref o_table, .ref o_kept, .ref o_trial, .int vo_imageKept, .int vo_towersRead, .int vo_changesDone])), (o_page, .inr (1, [.ref o_page_codes, .int a.2.1])), (o_page_codes, .inl (cC, 70, .inl a.2.2))] ∧ va_S A s.heap H locs ∧ lv_has ls 5 [(4, .int a.1), (3, .int r1), (0, .ref o), (1, .long p1)]) (fun a H locs ls => (0 ≤ a.1.toInt) ∧ (a.1.toInt ≤ 8) ∧ (0 ≤ a.2.1.toInt) ∧ (a.2.1.toInt ≤ 70) ∧ (∀ j, narrow .char (.int (a.2.2 j)) = .int (a.2.2 j)) ∧ rs_X5_letters_2 a.1 a.2.1 a.2.2 = (r, qo_page_size, qo_page_codes) ∧ va_P (dC, dI) vwCl [(o, .inr (5, [.ref o_page, .ref o_reader, .ref o_stand, .ref o_trialStand, .ref o_table, .ref o_kept, .ref o_trial, .int vo_imageKept, .int vo_towersRead, .int vo_changesDone])), (o_page, .inr (1, [.ref o_page_codes, .int a.2.1])), (o_page_codes, .inl (cC, 70, .inl a.2.2))] H ∧ va_D A [(o, .inr (5, [.ref o_page, .ref o_reader, .ref o_stand, .ref o_trialStand, .ref o_table, .ref o_kept, .ref o_trial, .int vo_imageKept, .int vo_towersRead, .int vo_changesDone])), (o_page, .inr (1, [.ref o_page_codes, .int a.2.1])), (o_page_codes, .inl (cC, 70, .inl a.2.2))] ∧ va_S A s.heap H locs ∧ lv_has ls 5 [(0, .ref o)]) ?_ ?_ ?_ 10 ((0 : Int32), vo_page_size, vo_page_codes) ⟨(by omega : 0 ≤ (0 : Int32).toInt), (by omega : (0 : Int32).toInt ≤ 8), (by omega : 0 ≤ vo_page_size.toInt), (by omega : vo_page_size.toInt ≤ 70), (by assumption : ∀ j, narrow .char (.int (vo_page_codes j)) = .int (vo_page_codes j)), (by omega : 8 - (0 : Int32).toInt < ((10 : Nat) : Int)), hT, hP.sub [0, 1, 2] rfl, hD.sub [0, 1, 2] rfl rfl, hS, lv_sub hl [0, 1, 2, 3] rfl⟩
      · rintro ⟨x5, x6, x7⟩ H locs ls ⟨i1, j1, y1, y2, y3, hT, hP, hD, hS, hl⟩
        have hP : va_P (dC, dI) vwCl [(o, .inr (5, [.ref o_page, .ref o_reader, .ref o_stand, .ref o_trialStand, .ref o_table, .ref o_kept, .ref o_trial, .int vo_imageKept, .int vo_towersRead, .int vo_changesDone])), (o_page, .inr (1, [.ref o_page_codes, .int x6])), (o_page_codes, .inl (cC, 70, .inl x7))] H := hP
        have hD : va_D A [(o, .inr (5, [.ref o_page, .ref o_reader, .ref o_stand, .ref o_trialStand, .ref o_table, .ref o_kept, .ref o_trial, .int vo_imageKept, .int vo_towersRead, .int vo_changesDone])), (o_page, .inr (1, [.ref o_page_codes, .int x6])), (o_page_codes, .inl (cC, 70, .inl x7))] := hD
        have hl : lv_has ls 5 [(0, .ref o)] := hl
        have hT : rs_X5_letters_2 x5 x6 x7 = (r, qo_page_size, qo_page_codes) := hT
        have i1 : 0 ≤ x5.toInt := i1
        have j1 : x5.toInt ≤ 8 := j1
        have y1 : 0 ≤ x6.toInt := y1
        have y2 : x6.toInt ≤ 70 := y2
        have y3 : ∀ j, narrow .char (.int (x7 j)) = .int (x7 j) := y3
        refine lv_aload_n hx hb dX5_letters_57 rfl (lv_at hl 0 rfl) ?_
        refine va_get (D := (dC, dI)) (ci := 5) (v := .ref o_page) (C := RX5) (T := TX5) (N := 10) hx hb hts hwX5 hown hK hP 0 rfl rfl 0 (by decide) hf_12 (fun _ h9 => h9) rfl dX5_letters_58 ?_
        refine va_get (D := (dC, dI)) (ci := 1) (v := .int x6) (C := RX1) (T := TX1) (N := 2) hx hb hts hwX1 hown hK hP 1 rfl rfl 1 (by decide) hf_54 (fun _ h9 => h9) rfl dX5_letters_61 ?_
        have hP9 := hP
        have hD9 := hD
        have hS9 := hS
        have hT : (x6, x6, x7) = (r, qo_page_size, qo_page_codes) := hT
        cases hT
        subst hQ
        exact zz_iret hx hb hr [0, 1, 2] hK hP9 hD9 hS9 rfl rfl ⟨(by omega), (by omega), (by assumption)⟩ hlocks dX5_letters_64
      · rintro ⟨b2, b3, b4⟩ H locs ls ⟨i1, j1, y1, y2, y3, hm, -⟩
        try dsimp only at *
        omega
      · intro k2 hex2 ih2
        rintro ⟨b2, b3, b4⟩ H locs ls ⟨i1, j1, y1, y2, y3, hm2, hT, hP, hD, hS, hl⟩
        have hP : va_P (dC, dI) vwCl [(o, .inr (5, [.ref o_page, .ref o_reader, .ref o_stand, .ref o_trialStand, .ref o_table, .ref o_kept, .ref o_trial, .int vo_imageKept, .int vo_towersRead, .int vo_changesDone])), (o_page, .inr (1, [.ref o_page_codes, .int b3])), (o_page_codes, .inl (cC, 70, .inl b4))] H := hP
        have hD : va_D A [(o, .inr (5, [.ref o_page, .ref o_reader, .ref o_stand, .ref o_trialStand, .ref o_table, .ref o_kept, .ref o_trial, .int vo_imageKept, .int vo_towersRead, .int vo_changesDone])), (o_page, .inr (1, [.ref o_page_codes, .int b3])), (o_page_codes, .inl (cC, 70, .inl b4))] := hD
        have hl : lv_has ls 5 [(4, .int b2), (3, .int r1), (0, .ref o), (1, .long p1)] := hl
        have hT : lp_X5_letters_2 r1 rs_X5_letters_2 p1 (k2 + 1) b2 b3 b4 = (r, qo_page_size, qo_page_codes) := hT
        have i1 : 0 ≤ b2.toInt := i1
        have j1 : b2.toInt ≤ 8 := j1
        have y1 : 0 ≤ b3.toInt := y1
        have y2 : b3.toInt ≤ 70 := y2
        have y3 : ∀ j, narrow .char (.int (b4 j)) = .int (b4 j) := y3
        have hm2 : 8 - b2.toInt < (((k2 + 1) : Nat) : Int) := hm2
        try simp only [Int.natCast_add, Int.natCast_one, Nat.cast_add, Nat.cast_one] at hm2
        refine lv_iload hx hb dX5_letters_32 (lv_at hl 0 rfl) ?_
        refine lv_iload_n hx hb dX5_letters_34 rfl (lv_at hl 1 rfl) ?_
        refine lv_icmp_ge (tgt := 57) hx hb dX5_letters_35 (by decide) (fun c_5 => ?_) (fun c_5 => ?_)
        · replace hT := cutT c_5 hT
          have g_17 := zleT (rfl : (r1).toInt = _) (rfl : (b2).toInt = _) c_5
          exact hex2 (b2, b3, b4) _ _ _ ⟨(by omega : 0 ≤ b2.toInt), (by omega : b2.toInt ≤ 8), (by omega : 0 ≤ b3.toInt), (by omega : b3.toInt ≤ 70), (by assumption : ∀ j, narrow .char (.int (b4 j)) = .int (b4 j)), hT, hP.sub [0, 1, 2] rfl, hD.sub [0, 1, 2] rfl rfl, hS, lv_sub hl [2] rfl⟩
        · replace hT := cutF c_5 hT
          have g_18 := zleF (rfl : (r1).toInt = _) (rfl : (b2).toInt = _) c_5
          refine lv_aload_n hx hb dX5_letters_38 rfl (lv_at hl 2 rfl) ?_
          refine va_get (D := (dC, dI)) (ci := 5) (v := .ref o_page) (C := RX5) (T := TX5) (N := 10) hx hb hts hwX5 hown hK hP 0 rfl rfl 0 (by decide) hf_12 (fun _ h9 => h9) rfl dX5_letters_39 ?_
          refine lv_lload_n hx hb dX5_letters_42 rfl (lv_at hl 3 rfl) ?_
          refine lv_iload hx hb dX5_letters_43 (lv_at hl 0 rfl) ?_
          obtain ⟨r8, ev_6⟩ : ∃ x0, (m_X5_codeAt p1 b2) = x0 := ⟨_, rfl⟩
          replace hT := cut_n ev_6 hT
          refine zz_ci [] [0, 1, 2] (wr := [(o, .inr (5, [.ref o_page, .ref o_reader, .ref o_stand, .ref o_trialStand, .ref o_table, .ref o_kept, .ref o_trial, .int vo_imageKept, .int vo_towersRead, .int vo_changesDone])), (o_page, .inr (1, [.ref o_page_codes, .int b3])), (o_page_codes, .inl (cC, 70, .inl b4))]) (w1 := []) (va_runS (As := [.long p1, .int b2]) (rest := [.ref o_page]) ⟨hx, hb, hml, hown, hts⟩ (k_X5_codeAt l dC dI cI cJ cC H.size p1 b2 r8 ev_6) (va_cwS 2 hts gX5_letters_X5_codeAt rfl rfl rfl (by decide +kernel) ⟨Nat.le_of_ble_eq_true rfl, Nat.le_of_ble_eq_true rfl⟩) (zz_preS [] hK hP hD rfl rfl) rfl rfl hl.1 rfl (lv_room (Nat.le_of_ble_eq_true rfl)) dX5_letters_45 ⟨Nat.zero_le _, Nat.zero_le _⟩) hP hD hS hA rfl rfl rfl (by decide) (fun ok_7 H locs hP hD hS => ?_)
          have hP : va_P (dC, dI) vwCl [(o, .inr (5, [.ref o_page, .ref o_reader, .ref o_stand, .ref o_trialStand, .ref o_table, .ref o_kept, .ref o_trial, .int vo_imageKept, .int vo_towersRead, .int vo_changesDone])), (o_page, .inr (1, [.ref o_page_codes, .int b3])), (o_page_codes, .inl (cC, 70, .inl b4))] H := hP
          have hD : va_D A [(o, .inr (5, [.ref o_page, .ref o_reader, .ref o_stand, .ref o_trialStand, .ref o_table, .ref o_kept, .ref o_trial, .int vo_imageKept, .int vo_towersRead, .int vo_changesDone])), (o_page, .inr (1, [.ref o_page_codes, .int b3])), (o_page_codes, .inl (cC, 70, .inl b4))] := hD
          obtain ⟨u9, u10, ev_8⟩ : ∃ x0 x1, (m_X1_write b3 b4 r8) = (x0, x1) := ⟨_, _, rfl⟩
          replace hT := cut2_n ev_8 hT
          refine zz_cv [1, 2] [0] (wr := [(o, .inr (5, [.ref o_page, .ref o_reader, .ref o_stand, .ref o_trialStand, .ref o_table, .ref o_kept, .ref o_trial, .int vo_imageKept, .int vo_towersRead, .int vo_changesDone]))]) (w1 := [(o_page, .inr (1, [.ref o_page_codes, .int u9])), (o_page_codes, .inl (cC, 70, .inl u10))]) (va_runV (As := [.int r8]) (rest := []) ⟨hx, hb, hml, hown, hts⟩ (k_X1_write l dC dI cI cJ cC H.size o_page o_page_codes b3 b4 r8 u9 u10 ev_8 (by first | omega | decide) (by first | omega | decide) (by assumption)) (cwV 1 hts gX5_letters_X1_write rfl rfl rfl (by decide +kernel) ⟨Nat.le_of_ble_eq_true rfl, Nat.le_of_ble_eq_true rfl⟩) (zz_preV [1, 2] hK hP hD rfl rfl (va_recv hK hP (ci := 1) (q0 := 1) rfl rfl)) rfl rfl hl.1 rfl (lv_room (Nat.le_of_ble_eq_true rfl)) dX5_letters_48 ⟨Nat.zero_le _, Nat.zero_le _⟩) hP hD hS hA rfl rfl rfl (by decide) (fun ok_9 H locs hP hD hS => ?_)
          have hP : va_P (dC, dI) vwCl [(o, .inr (5, [.ref o_page, .ref o_reader, .ref o_stand, .ref o_trialStand, .ref o_table, .ref o_kept, .ref o_trial, .int vo_imageKept, .int vo_towersRead, .int vo_changesDone])), (o_page, .inr (1, [.ref o_page_codes, .int u9])), (o_page_codes, .inl (cC, 70, .inl u10))] H := hP
          have hD : va_D A [(o, .inr (5, [.ref o_page, .ref o_reader, .ref o_stand, .ref o_trialStand, .ref o_table, .ref o_kept, .ref o_trial, .int vo_imageKept, .int vo_towersRead, .int vo_changesDone])), (o_page, .inr (1, [.ref o_page_codes, .int u9])), (o_page_codes, .inl (cC, 70, .inl u10))] := hD
          obtain ⟨k_10, k_11, k_12⟩ := ok_9
          obtain ⟨v11, ev11⟩ : ∃ y : Int32, (b2 + (1 : Int32)) = y := ⟨_, rfl⟩
          replace hT := cut_n ev11 hT
          try have fv11 := zaddE (rfl : (b2).toInt = _) (by decide : ((1 : Int32)).toInt = 1) ev11 (by omega) (by omega)
          refine lv_iinc (v := v11) (lv' := [(4, .int v11), (3, .int r1), (0, .ref o), (1, .long p1)]) hx hb dX5_letters_51 hl (k := 0) rfl (by rw [← ev11]; rfl) (by decide) rfl (fun ls hl => ?_)
          refine lv_goto (tgt := 32) hx hb dX5_letters_54 (by decide) ?_
          exact ih2 (v11, u9, u10) _ _ _ ⟨(by omega : 0 ≤ v11.toInt), (by omega : v11.toInt ≤ 8), (by omega : 0 ≤ u9.toInt), (by omega : u9.toInt ≤ 70), (by assumption : ∀ j, narrow .char (.int (u10 j)) = .int (u10 j)), (by omega : 8 - v11.toInt < ((k2 : Nat) : Int)), hT, hP.sub [0, 1, 2] rfl, hD.sub [0, 1, 2] rfl rfl, hS, lv_sub hl [0, 1, 2, 3] rfl⟩
    · replace hT := cutF c_4 hT
      have g_19 := zleF (rfl : ((vo_page_size + r1)).toInt = _) (by decide : ((70 : Int32)).toInt = 70) c_4
      refine lv_bipush (v := (-104 : Int32)) hx hb dX5_letters_26 (by decide) ?_
      have hP9 := hP
      have hD9 := hD
      have hS9 := hS
      have hT : ((-104 : Int32), vo_page_size, vo_page_codes) = (r, qo_page_size, qo_page_codes) := hT
      cases hT
      subst hQ
      exact zz_iret hx hb hr [0, 1, 2] hK hP9 hD9 hS9 rfl rfl ⟨(by omega), (by omega), (by assumption)⟩ hlocks dX5_letters_28
  · replace hT := cutF c_3 hT
    have g_20 := zleF (by decide : ((0 : Int32)).toInt = 0) (rfl : (r1).toInt = _) c_3
    refine lv_bipush (v := (-102 : Int32)) hx hb dX5_letters_9 (by decide) ?_
    have hP9 := hP
    have hD9 := hD
    have hS9 := hS
    have hT : ((-102 : Int32), vo_page_size, vo_page_codes) = (r, qo_page_size, qo_page_codes) := hT
    cases hT
    subst hQ
    exact zz_iret hx hb hr [0, 1, 2] hK hP9 hD9 hS9 rfl rfl ⟨(by omega), (by omega), (by assumption)⟩ hlocks dX5_letters_11

def m_X5_blank (vo_page_size : Int32) : Int32 × Int32 :=
 (vo_page_size, (0 : Int32))
set_option maxHeartbeats 4000000 in
set_option maxRecDepth 100000 in
theorem k_X5_blank (l : Launch) (dC : Nat → ClassId) (dI : Nat → Nat → Nat) (cI cJ cC : ClassId) (sz : Nat) (o o_page o_reader o_stand o_trialStand o_table o_kept o_trial o_page_codes : Nat) (vo_imageKept : Int32) (vo_towersRead : Int32) (vo_changesDone : Int32) (vo_page_size : Int32) (r : Int32) (qo_page_size : Int32) (hT : m_X5_blank vo_page_size = (r, qo_page_size)) : Met l yX5_blank wsX5_blank ({ frames := 0, cells := 0, slots := 0, locals := 0 }) (zPc [.ref o] (dC, dI) (zTy cI cJ cC) [(o, .inr (5, [.ref o_page, .ref o_reader, .ref o_stand, .ref o_trialStand, .ref o_table, .ref o_kept, .ref o_trial, .int vo_imageKept, .int vo_towersRead, .int vo_changesDone])), (o_page, .inr (1, [.ref o_page_codes, .int vo_page_size]))] sz) (zQi r (True) (dC, dI) (zTy cI cJ cC) [(o, .inr (5, [.ref o_page, .ref o_reader, .ref o_stand, .ref o_trialStand, .ref o_table, .ref o_kept, .ref o_trial, .int vo_imageKept, .int vo_towersRead, .int vo_changesDone])), (o_page, .inr (1, [.ref o_page_codes, .int qo_page_size]))] (va_A [(o, .inr (5, [.ref o_page, .ref o_reader, .ref o_stand, .ref o_trialStand, .ref o_table, .ref o_kept, .ref o_trial, .int vo_imageKept, .int vo_towersRead, .int vo_changesDone])), (o_page, .inr (1, [.ref o_page_codes, .int vo_page_size]))] sz)) 0 0 (va_A [(o, .inr (5, [.ref o_page, .ref o_reader, .ref o_stand, .ref o_trialStand, .ref o_table, .ref o_kept, .ref o_trial, .int vo_imageKept, .int vo_towersRead, .int vo_changesDone])), (o_page, .inr (1, [.ref o_page_codes, .int vo_page_size]))] sz) := by
  refine Met.ofW (cc := cX5_blank) (maxL := 2) (ret := (some .int)) (by decide) rfl ?_
  intro p e s m args below meth c s₁ B hml hv
  obtain ⟨rfl, hsz, hP, hK, hD0⟩ := hv
  have hx := B.exec
  have hb := B.bytes
  have hr := B.returns
  have hts := atoms_spec (ws := wsX5_blank) B.pre
  have hown : s.vm.findClass RX5 = some m.cls := findClass_of_methodNamed B.named
  have hlocks := B.notSynchronized
  subst hsz
  have hD := hD0.self (sz := s.heap.size)
  generalize hAe : va_A [(o, .inr (5, [.ref o_page, .ref o_reader, .ref o_stand, .ref o_trialStand, .ref o_table, .ref o_kept, .ref o_trial, .int vo_imageKept, .int vo_towersRead, .int vo_changesDone])), (o_page, .inr (1, [.ref o_page_codes, .int vo_page_size]))] s.heap.size = A at hD ⊢
  have hA : ∀ q : Nat, s.heap.size ≤ q → A q := fun q h => by rw [← hAe]; exact Or.inr h
  have hS : va_S A s.heap s.heap [] := va_S.rf
  have hP : va_P (dC, dI) vwCl [(o, .inr (5, [.ref o_page, .ref o_reader, .ref o_stand, .ref o_trialStand, .ref o_table, .ref o_kept, .ref o_trial, .int vo_imageKept, .int vo_towersRead, .int vo_changesDone])), (o_page, .inr (1, [.ref o_page_codes, .int vo_page_size]))] s.heap := hP
  have hK : va_K (dC, dI) vwCl (zTy cI cJ cC) s := hK
  have hl := lv_entry ([.ref o]) (n := 2) (Nat.le_of_ble_eq_true rfl)
  rw [lg_entry_eq]
  generalize (lg_sl ([.ref o]) ++ List.replicate (2 - (lg_sl ([.ref o])).length) Slot.unset).toArray = ls at hl ⊢
  have hl : lv_has ls 2 [(0, .ref o)] := hl
  refine zz_start hP hS (fun Q hQ H locs hP hS => ?_)
  have hwX1 : ∀ w ∈ u_ws RX1 TX1 2, w ∈ wsX5_blank := by decide +kernel
  have hwX5 : ∀ w ∈ u_ws RX5 TX5 10, w ∈ wsX5_blank := by decide +kernel
  have hf_12 := (hts (.fieldLink RX5 12 "PouredTopmost" "page" "LPouredTopmost$Page;") (by decide +kernel))
  have hf_54 := (hts (.fieldLink RX5 54 "PouredTopmost$Page" "size" "I") (by decide +kernel))
  refine lv_aload_n hx hb dX5_blank_0 rfl (lv_at hl 0 rfl) ?_
  refine va_get (D := (dC, dI)) (ci := 5) (v := .ref o_page) (C := RX5) (T := TX5) (N := 10) hx hb hts hwX5 hown hK hP 0 rfl rfl 0 (by decide) hf_12 (fun _ h9 => h9) rfl dX5_blank_1 ?_
  refine va_get (D := (dC, dI)) (ci := 1) (v := .int vo_page_size) (C := RX1) (T := TX1) (N := 2) hx hb hts hwX1 hown hK hP 1 rfl rfl 1 (by decide) hf_54 (fun _ h9 => h9) rfl dX5_blank_4 ?_
  refine lv_istore_n (lv' := [(1, .int vo_page_size), (0, .ref o)]) hx hb dX5_blank_7 rfl hl (by decide) rfl (fun ls hl => ?_)
  refine lv_aload_n hx hb dX5_blank_8 rfl (lv_at hl 1 rfl) ?_
  refine va_get (D := (dC, dI)) (ci := 5) (v := .ref o_page) (C := RX5) (T := TX5) (N := 10) hx hb hts hwX5 hown hK hP 0 rfl rfl 0 (by decide) hf_12 (fun _ h9 => h9) rfl dX5_blank_9 ?_
  refine lv_iconst (v := (0 : Int32)) hx hb dX5_blank_12 (by decide) ?_
  refine va_put (D := (dC, dI)) (ci := 1) (v := .int (0 : Int32)) (ty := .int) (C := RX1) (T := TX1) (N := 2) hx hb hts hwX1 tyX1 tyX1_ok nmX1 hown hK hP hD hS 1 rfl rfl 1 (by decide) hf_54 (fun _ h9 => h9) rfl (by decide +kernel) rfl rfl (Nat.le_of_ble_eq_true rfl) dX5_blank_13 (fun H locs hP hD hS => ?_)
  have hP : va_P (dC, dI) vwCl [(o, .inr (5, [.ref o_page, .ref o_reader, .ref o_stand, .ref o_trialStand, .ref o_table, .ref o_kept, .ref o_trial, .int vo_imageKept, .int vo_towersRead, .int vo_changesDone])), (o_page, .inr (1, [.ref o_page_codes, .int (0 : Int32)]))] H := hP
  have hD : va_D A [(o, .inr (5, [.ref o_page, .ref o_reader, .ref o_stand, .ref o_trialStand, .ref o_table, .ref o_kept, .ref o_trial, .int vo_imageKept, .int vo_towersRead, .int vo_changesDone])), (o_page, .inr (1, [.ref o_page_codes, .int (0 : Int32)]))] := hD
  refine lv_iload_n hx hb dX5_blank_16 rfl (lv_at hl 0 rfl) ?_
  have hP9 := hP
  have hD9 := hD
  have hS9 := hS
  have hT : (vo_page_size, (0 : Int32)) = (r, qo_page_size) := hT
  cases hT
  subst hQ
  exact zz_iret hx hb hr [0, 1] hK hP9 hD9 hS9 rfl rfl trivial hlocks dX5_blank_17

def m_X5_about (vo_stand_size : Int32) (vo_stand_kinds : Nat → Int32) (vo_stand_holds : Nat → Int32) (vo_stand_takes : Nat → Int32) (vo_stand_shareCounts : Nat → Int32) (vo_stand_shares : Nat → Int32) (vo_table_fill_inside : Nat → Int64) (vo_table_turns : Nat → Int32) (p1 : Int32) (p2 : Int32) : Int32 :=
 cut (m_X3_has vo_stand_size p1) (fun (r1 : Int32) =>
 if r1 = (0 : Int32) then
  (-101 : Int32)
 else
  if p2 = (0 : Int32) then
   (vo_stand_kinds p1.toNatClampNeg)
  else
  if p2 = (1 : Int32) then
   (vo_stand_holds p1.toNatClampNeg)
  else
  if p2 = (2 : Int32) then
   (vo_stand_takes p1.toNatClampNeg)
  else
  if p2 = (3 : Int32) then
   (vo_stand_shareCounts p1.toNatClampNeg)
  else
  if p2 = (4 : Int32) then
   cut (m_X3_shareOf vo_stand_size vo_stand_shareCounts vo_stand_shares p1 (p2 - (4 : Int32))) (fun (r2 : Int32) =>
   r2)
  else
  if p2 = (5 : Int32) then
   cut (m_X3_shareOf vo_stand_size vo_stand_shareCounts vo_stand_shares p1 (p2 - (4 : Int32))) (fun (r3 : Int32) =>
   r3)
  else
  if p2 = (6 : Int32) then
   cut (m_X3_shareOf vo_stand_size vo_stand_shareCounts vo_stand_shares p1 (p2 - (4 : Int32))) (fun (r4 : Int32) =>
   r4)
  else
  if p2 = (7 : Int32) then
   (vo_table_turns p1.toNatClampNeg)
  else
  if p2 = (8 : Int32) then
   cut (m_X0_isFull vo_table_fill_inside vo_stand_size vo_stand_takes p1) (fun (r5 : Int32) =>
   if r5 = (0 : Int32) then
    (0 : Int32)
   else
    (1 : Int32))
  else
  (-102 : Int32))
set_option maxHeartbeats 4000000 in
set_option maxRecDepth 100000 in
theorem k_X5_about (l : Launch) (dC : Nat → ClassId) (dI : Nat → Nat → Nat) (cI cJ cC : ClassId) (sz : Nat) (o o_page o_reader o_stand o_trialStand o_table o_kept o_trial o_stand_kinds o_stand_holds o_stand_takes o_stand_shareCounts o_stand_shares o_table_fill o_table_drunkFrom o_table_turns o_table_fill_inside : Nat) (vo_imageKept : Int32) (vo_towersRead : Int32) (vo_changesDone : Int32) (vo_stand_size : Int32) (vo_stand_kinds : Nat → Int32) (vo_stand_holds : Nat → Int32) (vo_stand_takes : Nat → Int32) (vo_stand_shareCounts : Nat → Int32) (vo_stand_shares : Nat → Int32) (vo_table_poured : Int32) (vo_table_fill_spilt : Int64) (vo_table_fill_inside : Nat → Int64) (vo_table_turns : Nat → Int32) (p1 : Int32) (p2 : Int32) (r : Int32) (hT : m_X5_about vo_stand_size vo_stand_kinds vo_stand_holds vo_stand_takes vo_stand_shareCounts vo_stand_shares vo_table_fill_inside vo_table_turns p1 p2 = r) (hs9 : vo_stand_size.toInt ≤ 9) (hsc : zSc vo_stand_shareCounts) : Met l yX5_about wsX5_about ({ frames := 2, cells := 0, slots := 0, locals := 43 }) (zPc [.ref o, .int p1, .int p2] (dC, dI) (zTy cI cJ cC) [(o, .inr (5, [.ref o_page, .ref o_reader, .ref o_stand, .ref o_trialStand, .ref o_table, .ref o_kept, .ref o_trial, .int vo_imageKept, .int vo_towersRead, .int vo_changesDone])), (o_stand, .inr (3, [.ref o_stand_kinds, .ref o_stand_holds, .ref o_stand_takes, .ref o_stand_shareCounts, .ref o_stand_shares, .int vo_stand_size])), (o_stand_kinds, .inl (cI, 9, .inl vo_stand_kinds)), (o_stand_holds, .inl (cI, 9, .inl vo_stand_holds)), (o_stand_takes, .inl (cI, 9, .inl vo_stand_takes)), (o_stand_shareCounts, .inl (cI, 9, .inl vo_stand_shareCounts)), (o_stand_shares, .inl (cI, 27, .inl vo_stand_shares)), (o_table, .inr (4, [.ref o_table_fill, .ref o_table_drunkFrom, .ref o_table_turns, .int vo_table_poured])), (o_table_fill, .inr (0, [.ref o_table_fill_inside, .long vo_table_fill_spilt])), (o_table_fill_inside, .inl (cJ, 9, .inr (.inl vo_table_fill_inside))), (o_table_turns, .inl (cI, 9, .inl vo_table_turns))] sz) (zQi r (True) (dC, dI) (zTy cI cJ cC) [(o, .inr (5, [.ref o_page, .ref o_reader, .ref o_stand, .ref o_trialStand, .ref o_table, .ref o_kept, .ref o_trial, .int vo_imageKept, .int vo_towersRead, .int vo_changesDone])), (o_stand, .inr (3, [.ref o_stand_kinds, .ref o_stand_holds, .ref o_stand_takes, .ref o_stand_shareCounts, .ref o_stand_shares, .int vo_stand_size])), (o_stand_kinds, .inl (cI, 9, .inl vo_stand_kinds)), (o_stand_holds, .inl (cI, 9, .inl vo_stand_holds)), (o_stand_takes, .inl (cI, 9, .inl vo_stand_takes)), (o_stand_shareCounts, .inl (cI, 9, .inl vo_stand_shareCounts)), (o_stand_shares, .inl (cI, 27, .inl vo_stand_shares)), (o_table, .inr (4, [.ref o_table_fill, .ref o_table_drunkFrom, .ref o_table_turns, .int vo_table_poured])), (o_table_fill, .inr (0, [.ref o_table_fill_inside, .long vo_table_fill_spilt])), (o_table_fill_inside, .inl (cJ, 9, .inr (.inl vo_table_fill_inside))), (o_table_turns, .inl (cI, 9, .inl vo_table_turns))] (va_A [(o, .inr (5, [.ref o_page, .ref o_reader, .ref o_stand, .ref o_trialStand, .ref o_table, .ref o_kept, .ref o_trial, .int vo_imageKept, .int vo_towersRead, .int vo_changesDone])), (o_stand, .inr (3, [.ref o_stand_kinds, .ref o_stand_holds, .ref o_stand_takes, .ref o_stand_shareCounts, .ref o_stand_shares, .int vo_stand_size])), (o_stand_kinds, .inl (cI, 9, .inl vo_stand_kinds)), (o_stand_holds, .inl (cI, 9, .inl vo_stand_holds)), (o_stand_takes, .inl (cI, 9, .inl vo_stand_takes)), (o_stand_shareCounts, .inl (cI, 9, .inl vo_stand_shareCounts)), (o_stand_shares, .inl (cI, 27, .inl vo_stand_shares)), (o_table, .inr (4, [.ref o_table_fill, .ref o_table_drunkFrom, .ref o_table_turns, .int vo_table_poured])), (o_table_fill, .inr (0, [.ref o_table_fill_inside, .long vo_table_fill_spilt])), (o_table_fill_inside, .inl (cJ, 9, .inr (.inl vo_table_fill_inside))), (o_table_turns, .inl (cI, 9, .inl vo_table_turns))] sz)) 0 0 (va_A [(o, .inr (5, [.ref o_page, .ref o_reader, .ref o_stand, .ref o_trialStand, .ref o_table, .ref o_kept, .ref o_trial, .int vo_imageKept, .int vo_towersRead, .int vo_changesDone])), (o_stand, .inr (3, [.ref o_stand_kinds, .ref o_stand_holds, .ref o_stand_takes, .ref o_stand_shareCounts, .ref o_stand_shares, .int vo_stand_size])), (o_stand_kinds, .inl (cI, 9, .inl vo_stand_kinds)), (o_stand_holds, .inl (cI, 9, .inl vo_stand_holds)), (o_stand_takes, .inl (cI, 9, .inl vo_stand_takes)), (o_stand_shareCounts, .inl (cI, 9, .inl vo_stand_shareCounts)), (o_stand_shares, .inl (cI, 27, .inl vo_stand_shares)), (o_table, .inr (4, [.ref o_table_fill, .ref o_table_drunkFrom, .ref o_table_turns, .int vo_table_poured])), (o_table_fill, .inr (0, [.ref o_table_fill_inside, .long vo_table_fill_spilt])), (o_table_fill_inside, .inl (cJ, 9, .inr (.inl vo_table_fill_inside))), (o_table_turns, .inl (cI, 9, .inl vo_table_turns))] sz) := by
  refine Met.ofW (cc := cX5_about) (maxL := 3) (ret := (some .int)) (by decide) rfl ?_
  intro p e s m args below meth c s₁ B hml hv
  obtain ⟨rfl, hsz, hP, hK, hD0⟩ := hv
  have hx := B.exec
  have hb := B.bytes
  have hr := B.returns
  have hts := atoms_spec (ws := wsX5_about) B.pre
  have hown : s.vm.findClass RX5 = some m.cls := findClass_of_methodNamed B.named
  have hlocks := B.notSynchronized
  subst hsz
  have hD := hD0.self (sz := s.heap.size)
  generalize hAe : va_A [(o, .inr (5, [.ref o_page, .ref o_reader, .ref o_stand, .ref o_trialStand, .ref o_table, .ref o_kept, .ref o_trial, .int vo_imageKept, .int vo_towersRead, .int vo_changesDone])), (o_stand, .inr (3, [.ref o_stand_kinds, .ref o_stand_holds, .ref o_stand_takes, .ref o_stand_shareCounts, .ref o_stand_shares, .int vo_stand_size])), (o_stand_kinds, .inl (cI, 9, .inl vo_stand_kinds)), (o_stand_holds, .inl (cI, 9, .inl vo_stand_holds)), (o_stand_takes, .inl (cI, 9, .inl vo_stand_takes)), (o_stand_shareCounts, .inl (cI, 9, .inl vo_stand_shareCounts)), (o_stand_shares, .inl (cI, 27, .inl vo_stand_shares)), (o_table, .inr (4, [.ref o_table_fill, .ref o_table_drunkFrom, .ref o_table_turns, .int vo_table_poured])), (o_table_fill, .inr (0, [.ref o_table_fill_inside, .long vo_table_fill_spilt])), (o_table_fill_inside, .inl (cJ, 9, .inr (.inl vo_table_fill_inside))), (o_table_turns, .inl (cI, 9, .inl vo_table_turns))] s.heap.size = A at hD ⊢
  have hA : ∀ q : Nat, s.heap.size ≤ q → A q := fun q h => by rw [← hAe]; exact Or.inr h
  have hS : va_S A s.heap s.heap [] := va_S.rf
  have hP : va_P (dC, dI) vwCl [(o, .inr (5, [.ref o_page, .ref o_reader, .ref o_stand, .ref o_trialStand, .ref o_table, .ref o_kept, .ref o_trial, .int vo_imageKept, .int vo_towersRead, .int vo_changesDone])), (o_stand, .inr (3, [.ref o_stand_kinds, .ref o_stand_holds, .ref o_stand_takes, .ref o_stand_shareCounts, .ref o_stand_shares, .int vo_stand_size])), (o_stand_kinds, .inl (cI, 9, .inl vo_stand_kinds)), (o_stand_holds, .inl (cI, 9, .inl vo_stand_holds)), (o_stand_takes, .inl (cI, 9, .inl vo_stand_takes)), (o_stand_shareCounts, .inl (cI, 9, .inl vo_stand_shareCounts)), (o_stand_shares, .inl (cI, 27, .inl vo_stand_shares)), (o_table, .inr (4, [.ref o_table_fill, .ref o_table_drunkFrom, .ref o_table_turns, .int vo_table_poured])), (o_table_fill, .inr (0, [.ref o_table_fill_inside, .long vo_table_fill_spilt])), (o_table_fill_inside, .inl (cJ, 9, .inr (.inl vo_table_fill_inside))), (o_table_turns, .inl (cI, 9, .inl vo_table_turns))] s.heap := hP
  have hK : va_K (dC, dI) vwCl (zTy cI cJ cC) s := hK
  have hl := lv_entry ([.ref o, .int p1, .int p2]) (n := 3) (Nat.le_of_ble_eq_true rfl)
  rw [lg_entry_eq]
  generalize (lg_sl ([.ref o, .int p1, .int p2]) ++ List.replicate (3 - (lg_sl ([.ref o, .int p1, .int p2])).length) Slot.unset).toArray = ls at hl ⊢
  have hl : lv_has ls 3 [(0, .ref o), (1, .int p1), (2, .int p2)] := hl
  refine zz_start hP hS (fun Q hQ H locs hP hS => ?_)
  have hwX3 : ∀ w ∈ u_ws RX3 TX3 6, w ∈ wsX5_about := by decide +kernel
  have hwX4 : ∀ w ∈ u_ws RX4 TX4 4, w ∈ wsX5_about := by decide +kernel
  have hwX5 : ∀ w ∈ u_ws RX5 TX5 10, w ∈ wsX5_about := by decide +kernel
  have hf_106 := (hts (.fieldLink RX5 106 "PouredTopmost$Stand" "kinds" "[I") (by decide +kernel))
  have hf_110 := (hts (.fieldLink RX5 110 "PouredTopmost$Stand" "holds" "[I") (by decide +kernel))
  have hf_113 := (hts (.fieldLink RX5 113 "PouredTopmost$Stand" "takes" "[I") (by decide +kernel))
  have hf_116 := (hts (.fieldLink RX5 116 "PouredTopmost$Stand" "shareCounts" "[I") (by decide +kernel))
  have hf_123 := (hts (.fieldLink RX5 123 "PouredTopmost$Table" "turns" "[I") (by decide +kernel))
  have hf_126 := (hts (.fieldLink RX5 126 "PouredTopmost$Table" "fill" "LPouredTopmost$Fill;") (by decide +kernel))
  have hf_26 := (hts (.fieldLink RX5 26 "PouredTopmost" "stand" "LPouredTopmost$Stand;") (by decide +kernel))
  have hf_36 := (hts (.fieldLink RX5 36 "PouredTopmost" "table" "LPouredTopmost$Table;") (by decide +kernel))
  refine lv_aload_n hx hb dX5_about_0 rfl (lv_at hl 0 rfl) ?_
  refine va_get (D := (dC, dI)) (ci := 5) (v := .ref o_stand) (C := RX5) (T := TX5) (N := 10) hx hb hts hwX5 hown hK hP 0 rfl rfl 2 (by decide) hf_26 (fun _ h9 => h9) rfl dX5_about_1 ?_
  refine lv_iload_n hx hb dX5_about_4 rfl (lv_at hl 1 rfl) ?_
  obtain ⟨r1, ev_1⟩ : ∃ x0, (m_X3_has vo_stand_size p1) = x0 := ⟨_, rfl⟩
  replace hT := cut_n ev_1 hT
  refine zz_ci [1] [0, 2, 3, 4, 5, 6, 7, 8, 9, 10] (wr := [(o, .inr (5, [.ref o_page, .ref o_reader, .ref o_stand, .ref o_trialStand, .ref o_table, .ref o_kept, .ref o_trial, .int vo_imageKept, .int vo_towersRead, .int vo_changesDone])), (o_stand_kinds, .inl (cI, 9, .inl vo_stand_kinds)), (o_stand_holds, .inl (cI, 9, .inl vo_stand_holds)), (o_stand_takes, .inl (cI, 9, .inl vo_stand_takes)), (o_stand_shareCounts, .inl (cI, 9, .inl vo_stand_shareCounts)), (o_stand_shares, .inl (cI, 27, .inl vo_stand_shares)), (o_table, .inr (4, [.ref o_table_fill, .ref o_table_drunkFrom, .ref o_table_turns, .int vo_table_poured])), (o_table_fill, .inr (0, [.ref o_table_fill_inside, .long vo_table_fill_spilt])), (o_table_fill_inside, .inl (cJ, 9, .inr (.inl vo_table_fill_inside))), (o_table_turns, .inl (cI, 9, .inl vo_table_turns))]) (w1 := [(o_stand, .inr (3, [.ref o_stand_kinds, .ref o_stand_holds, .ref o_stand_takes, .ref o_stand_shareCounts, .ref o_stand_shares, .int vo_stand_size]))]) (va_runV (As := [.int p1]) (rest := []) ⟨hx, hb, hml, hown, hts⟩ (k_X3_has l dC dI cI cJ cC H.size o_stand o_stand_kinds o_stand_holds o_stand_takes o_stand_shareCounts o_stand_shares vo_stand_size p1 r1 ev_1) (cwV 1 hts gX5_about_X3_has rfl rfl rfl (by decide +kernel) ⟨Nat.le_of_ble_eq_true rfl, Nat.le_of_ble_eq_true rfl⟩) (zz_preV [1] hK hP hD rfl rfl (va_recv hK hP (ci := 3) (q0 := 1) rfl rfl)) rfl rfl hl.1 rfl (lv_room (Nat.le_of_ble_eq_true rfl)) dX5_about_5 ⟨Nat.zero_le _, Nat.zero_le _⟩) hP hD hS hA rfl rfl rfl (by decide) (fun ok_2 H locs hP hD hS => ?_)
  have hP : va_P (dC, dI) vwCl [(o, .inr (5, [.ref o_page, .ref o_reader, .ref o_stand, .ref o_trialStand, .ref o_table, .ref o_kept, .ref o_trial, .int vo_imageKept, .int vo_towersRead, .int vo_changesDone])), (o_stand_kinds, .inl (cI, 9, .inl vo_stand_kinds)), (o_stand_holds, .inl (cI, 9, .inl vo_stand_holds)), (o_stand_takes, .inl (cI, 9, .inl vo_stand_takes)), (o_stand_shareCounts, .inl (cI, 9, .inl vo_stand_shareCounts)), (o_stand_shares, .inl (cI, 27, .inl vo_stand_shares)), (o_table, .inr (4, [.ref o_table_fill, .ref o_table_drunkFrom, .ref o_table_turns, .int vo_table_poured])), (o_table_fill, .inr (0, [.ref o_table_fill_inside, .long vo_table_fill_spilt])), (o_table_fill_inside, .inl (cJ, 9, .inr (.inl vo_table_fill_inside))), (o_table_turns, .inl (cI, 9, .inl vo_table_turns)), (o_stand, .inr (3, [.ref o_stand_kinds, .ref o_stand_holds, .ref o_stand_takes, .ref o_stand_shareCounts, .ref o_stand_shares, .int vo_stand_size]))] H := hP
  have hD : va_D A [(o, .inr (5, [.ref o_page, .ref o_reader, .ref o_stand, .ref o_trialStand, .ref o_table, .ref o_kept, .ref o_trial, .int vo_imageKept, .int vo_towersRead, .int vo_changesDone])), (o_stand_kinds, .inl (cI, 9, .inl vo_stand_kinds)), (o_stand_holds, .inl (cI, 9, .inl vo_stand_holds)), (o_stand_takes, .inl (cI, 9, .inl vo_stand_takes)), (o_stand_shareCounts, .inl (cI, 9, .inl vo_stand_shareCounts)), (o_stand_shares, .inl (cI, 27, .inl vo_stand_shares)), (o_table, .inr (4, [.ref o_table_fill, .ref o_table_drunkFrom, .ref o_table_turns, .int vo_table_poured])), (o_table_fill, .inr (0, [.ref o_table_fill_inside, .long vo_table_fill_spilt])), (o_table_fill_inside, .inl (cJ, 9, .inr (.inl vo_table_fill_inside))), (o_table_turns, .inl (cI, 9, .inl vo_table_turns)), (o_stand, .inr (3, [.ref o_stand_kinds, .ref o_stand_holds, .ref o_stand_takes, .ref o_stand_shareCounts, .ref o_stand_shares, .int vo_stand_size]))] := hD
  obtain ⟨k_3, k_4⟩ := ok_2
  refine lv_if_ne (tgt := 14) hx hb dX5_about_8 (by decide) (fun c_5 => ?_) (fun c_5 => ?_)
  · replace hT := cutF c_5 hT
    have g_30 := zeqF (rfl : (r1).toInt = _) (by decide : ((0 : Int32)).toInt = 0) c_5
    refine lv_iload_n hx hb dX5_about_14 rfl (lv_at hl 2 rfl) ?_
    by_cases c_6 : p2 = (0 : Int32)
    · replace hT := cutT c_6 hT
      have g_31 := zeqT (rfl : (p2).toInt = _) (by decide : ((0 : Int32)).toInt = 0) c_6
      refine lv_tableIn (off := 49) (tgt := 64) hx hb dX5_about_15 (by rw [c_6]; decide) (by rw [c_6]; decide) (by rw [c_6]; rfl) (by decide) ?_
      refine lv_aload_n hx hb dX5_about_64 rfl (lv_at hl 0 rfl) ?_
      refine va_get (D := (dC, dI)) (ci := 5) (v := .ref o_stand) (C := RX5) (T := TX5) (N := 10) hx hb hts hwX5 hown hK hP 0 rfl rfl 2 (by decide) hf_26 (fun _ h9 => h9) rfl dX5_about_65 ?_
      refine va_get (D := (dC, dI)) (ci := 3) (v := .ref o_stand_kinds) (C := RX3) (T := TX3) (N := 6) hx hb hts hwX3 hown hK hP 10 rfl rfl 0 (by decide) hf_106 (fun _ h9 => h9) rfl dX5_about_68 ?_
      refine lv_iload_n hx hb dX5_about_71 rfl (lv_at hl 1 rfl) ?_
      have h_7 : vp_in p1 9 := zin (by omega) (by omega)
      refine va_iald hx hb hK hP 1 0 rfl rfl h_7 dX5_about_72 ?_
      have hP9 := hP
      have hD9 := hD
      have hS9 := hS
      have hT : (vo_stand_kinds p1.toNatClampNeg) = r := hT
      subst hT
      subst hQ
      exact zz_iret hx hb hr [0, 10, 1, 2, 3, 4, 5, 6, 7, 8, 9] hK hP9 hD9 hS9 rfl rfl trivial hlocks dX5_about_73
    replace hT := cutF c_6 hT
    have g_32 := zeqF (rfl : (p2).toInt = _) (by decide : ((0 : Int32)).toInt = 0) c_6
    by_cases c_8 : p2 = (1 : Int32)
    · replace hT := cutT c_8 hT
      have g_33 := zeqT (rfl : (p2).toInt = _) (by decide : ((1 : Int32)).toInt = 1) c_8
      refine lv_tableIn (off := 59) (tgt := 74) hx hb dX5_about_15 (by rw [c_8]; decide) (by rw [c_8]; decide) (by rw [c_8]; rfl) (by decide) ?_
      refine lv_aload_n hx hb dX5_about_74 rfl (lv_at hl 0 rfl) ?_
      refine va_get (D := (dC, dI)) (ci := 5) (v := .ref o_stand) (C := RX5) (T := TX5) (N := 10) hx hb hts hwX5 hown hK hP 0 rfl rfl 2 (by decide) hf_26 (fun _ h9 => h9) rfl dX5_about_75 ?_
      refine va_get (D := (dC, dI)) (ci := 3) (v := .ref o_stand_holds) (C := RX3) (T := TX3) (N := 6) hx hb hts hwX3 hown hK hP 10 rfl rfl 1 (by decide) hf_110 (fun _ h9 => h9) rfl dX5_about_78 ?_
      refine lv_iload_n hx hb dX5_about_81 rfl (lv_at hl 1 rfl) ?_
      have h_9 : vp_in p1 9 := zin (by omega) (by omega)
      refine va_iald hx hb hK hP 2 0 rfl rfl h_9 dX5_about_82 ?_
      have hP9 := hP
      have hD9 := hD
      have hS9 := hS
      have hT : (vo_stand_holds p1.toNatClampNeg) = r := hT
      subst hT
      subst hQ
      exact zz_iret hx hb hr [0, 10, 1, 2, 3, 4, 5, 6, 7, 8, 9] hK hP9 hD9 hS9 rfl rfl trivial hlocks dX5_about_83
    replace hT := cutF c_8 hT
    have g_34 := zeqF (rfl : (p2).toInt = _) (by decide : ((1 : Int32)).toInt = 1) c_8
    by_cases c_10 : p2 = (2 : Int32)
    · replace hT := cutT c_10 hT
      have g_35 := zeqT (rfl : (p2).toInt = _) (by decide : ((2 : Int32)).toInt = 2) c_10
      refine lv_tableIn (off := 69) (tgt := 84) hx hb dX5_about_15 (by rw [c_10]; decide) (by rw [c_10]; decide) (by rw [c_10]; rfl) (by decide) ?_
      refine lv_aload_n hx hb dX5_about_84 rfl (lv_at hl 0 rfl) ?_
      refine va_get (D := (dC, dI)) (ci := 5) (v := .ref o_stand) (C := RX5) (T := TX5) (N := 10) hx hb hts hwX5 hown hK hP 0 rfl rfl 2 (by decide) hf_26 (fun _ h9 => h9) rfl dX5_about_85 ?_
      refine va_get (D := (dC, dI)) (ci := 3) (v := .ref o_stand_takes) (C := RX3) (T := TX3) (N := 6) hx hb hts hwX3 hown hK hP 10 rfl rfl 2 (by decide) hf_113 (fun _ h9 => h9) rfl dX5_about_88 ?_
      refine lv_iload_n hx hb dX5_about_91 rfl (lv_at hl 1 rfl) ?_
      have h_11 : vp_in p1 9 := zin (by omega) (by omega)
      refine va_iald hx hb hK hP 3 0 rfl rfl h_11 dX5_about_92 ?_
      have hP9 := hP
      have hD9 := hD
      have hS9 := hS
      have hT : (vo_stand_takes p1.toNatClampNeg) = r := hT
      subst hT
      subst hQ
      exact zz_iret hx hb hr [0, 10, 1, 2, 3, 4, 5, 6, 7, 8, 9] hK hP9 hD9 hS9 rfl rfl trivial hlocks dX5_about_93
    replace hT := cutF c_10 hT
    have g_36 := zeqF (rfl : (p2).toInt = _) (by decide : ((2 : Int32)).toInt = 2) c_10
    by_cases c_12 : p2 = (3 : Int32)
    · replace hT := cutT c_12 hT
      have g_37 := zeqT (rfl : (p2).toInt = _) (by decide : ((3 : Int32)).toInt = 3) c_12
      refine lv_tableIn (off := 79) (tgt := 94) hx hb dX5_about_15 (by rw [c_12]; decide) (by rw [c_12]; decide) (by rw [c_12]; rfl) (by decide) ?_
      refine lv_aload_n hx hb dX5_about_94 rfl (lv_at hl 0 rfl) ?_
      refine va_get (D := (dC, dI)) (ci := 5) (v := .ref o_stand) (C := RX5) (T := TX5) (N := 10) hx hb hts hwX5 hown hK hP 0 rfl rfl 2 (by decide) hf_26 (fun _ h9 => h9) rfl dX5_about_95 ?_
      refine va_get (D := (dC, dI)) (ci := 3) (v := .ref o_stand_shareCounts) (C := RX3) (T := TX3) (N := 6) hx hb hts hwX3 hown hK hP 10 rfl rfl 3 (by decide) hf_116 (fun _ h9 => h9) rfl dX5_about_98 ?_
      refine lv_iload_n hx hb dX5_about_101 rfl (lv_at hl 1 rfl) ?_
      have h_13 : vp_in p1 9 := zin (by omega) (by omega)
      refine va_iald hx hb hK hP 4 0 rfl rfl h_13 dX5_about_102 ?_
      have g_14 := hsc p1.toNatClampNeg
      have hP9 := hP
      have hD9 := hD
      have hS9 := hS
      have hT : (vo_stand_shareCounts p1.toNatClampNeg) = r := hT
      subst hT
      subst hQ
      exact zz_iret hx hb hr [0, 10, 1, 2, 3, 4, 5, 6, 7, 8, 9] hK hP9 hD9 hS9 rfl rfl trivial hlocks dX5_about_103
    replace hT := cutF c_12 hT
    have g_38 := zeqF (rfl : (p2).toInt = _) (by decide : ((3 : Int32)).toInt = 3) c_12
    by_cases c_15 : p2 = (4 : Int32)
    · replace hT := cutT c_15 hT
      have g_39 := zeqT (rfl : (p2).toInt = _) (by decide : ((4 : Int32)).toInt = 4) c_15
      refine lv_tableIn (off := 89) (tgt := 104) hx hb dX5_about_15 (by rw [c_15]; decide) (by rw [c_15]; decide) (by rw [c_15]; rfl) (by decide) ?_
      refine lv_aload_n hx hb dX5_about_104 rfl (lv_at hl 0 rfl) ?_
      refine va_get (D := (dC, dI)) (ci := 5) (v := .ref o_stand) (C := RX5) (T := TX5) (N := 10) hx hb hts hwX5 hown hK hP 0 rfl rfl 2 (by decide) hf_26 (fun _ h9 => h9) rfl dX5_about_105 ?_
      refine lv_iload_n hx hb dX5_about_108 rfl (lv_at hl 1 rfl) ?_
      refine lv_iload_n hx hb dX5_about_109 rfl (lv_at hl 2 rfl) ?_
      refine lv_iconst (v := (4 : Int32)) hx hb dX5_about_110 (by decide) ?_
      refine lv_isub hx hb dX5_about_111 ?_
      obtain ⟨r2, ev_16⟩ : ∃ x0, (m_X3_shareOf vo_stand_size vo_stand_shareCounts vo_stand_shares p1 (p2 - (4 : Int32))) = x0 := ⟨_, rfl⟩
      replace hT := cut_n ev_16 hT
      refine zz_ci [10, 4, 5] [0, 1, 2, 3, 6, 7, 8, 9] (wr := [(o, .inr (5, [.ref o_page, .ref o_reader, .ref o_stand, .ref o_trialStand, .ref o_table, .ref o_kept, .ref o_trial, .int vo_imageKept, .int vo_towersRead, .int vo_changesDone])), (o_stand_kinds, .inl (cI, 9, .inl vo_stand_kinds)), (o_stand_holds, .inl (cI, 9, .inl vo_stand_holds)), (o_stand_takes, .inl (cI, 9, .inl vo_stand_takes)), (o_table, .inr (4, [.ref o_table_fill, .ref o_table_drunkFrom, .ref o_table_turns, .int vo_table_poured])), (o_table_fill, .inr (0, [.ref o_table_fill_inside, .long vo_table_fill_spilt])), (o_table_fill_inside, .inl (cJ, 9, .inr (.inl vo_table_fill_inside))), (o_table_turns, .inl (cI, 9, .inl vo_table_turns))]) (w1 := [(o_stand, .inr (3, [.ref o_stand_kinds, .ref o_stand_holds, .ref o_stand_takes, .ref o_stand_shareCounts, .ref o_stand_shares, .int vo_stand_size])), (o_stand_shareCounts, .inl (cI, 9, .inl vo_stand_shareCounts)), (o_stand_shares, .inl (cI, 27, .inl vo_stand_shares))]) (va_runV (As := [.int p1, .int (p2 - (4 : Int32))]) (rest := []) ⟨hx, hb, hml, hown, hts⟩ (k_X3_shareOf l dC dI cI cJ cC H.size o_stand o_stand_kinds o_stand_holds o_stand_takes o_stand_shareCounts o_stand_shares vo_stand_size vo_stand_shareCounts vo_stand_shares p1 (p2 - (4 : Int32)) r2 ev_16 hs9 hsc) (cwV 2 hts gX5_about_X3_shareOf rfl rfl rfl (by decide +kernel) ⟨Nat.le_of_ble_eq_true rfl, Nat.le_of_ble_eq_true rfl⟩) (zz_preV [10, 4, 5] hK hP hD rfl rfl (va_recv hK hP (ci := 3) (q0 := 10) rfl rfl)) rfl rfl hl.1 rfl (lv_room (Nat.le_of_ble_eq_true rfl)) dX5_about_112 ⟨Nat.zero_le _, Nat.zero_le _⟩) hP hD hS hA rfl rfl rfl (by decide) (fun ok_17 H locs hP hD hS => ?_)
      have hP : va_P (dC, dI) vwCl [(o, .inr (5, [.ref o_page, .ref o_reader, .ref o_stand, .ref o_trialStand, .ref o_table, .ref o_kept, .ref o_trial, .int vo_imageKept, .int vo_towersRead, .int vo_changesDone])), (o_stand_kinds, .inl (cI, 9, .inl vo_stand_kinds)), (o_stand_holds, .inl (cI, 9, .inl vo_stand_holds)), (o_stand_takes, .inl (cI, 9, .inl vo_stand_takes)), (o_table, .inr (4, [.ref o_table_fill, .ref o_table_drunkFrom, .ref o_table_turns, .int vo_table_poured])), (o_table_fill, .inr (0, [.ref o_table_fill_inside, .long vo_table_fill_spilt])), (o_table_fill_inside, .inl (cJ, 9, .inr (.inl vo_table_fill_inside))), (o_table_turns, .inl (cI, 9, .inl vo_table_turns)), (o_stand, .inr (3, [.ref o_stand_kinds, .ref o_stand_holds, .ref o_stand_takes, .ref o_stand_shareCounts, .ref o_stand_shares, .int vo_stand_size])), (o_stand_shareCounts, .inl (cI, 9, .inl vo_stand_shareCounts)), (o_stand_shares, .inl (cI, 27, .inl vo_stand_shares))] H := hP
      have hD : va_D A [(o, .inr (5, [.ref o_page, .ref o_reader, .ref o_stand, .ref o_trialStand, .ref o_table, .ref o_kept, .ref o_trial, .int vo_imageKept, .int vo_towersRead, .int vo_changesDone])), (o_stand_kinds, .inl (cI, 9, .inl vo_stand_kinds)), (o_stand_holds, .inl (cI, 9, .inl vo_stand_holds)), (o_stand_takes, .inl (cI, 9, .inl vo_stand_takes)), (o_table, .inr (4, [.ref o_table_fill, .ref o_table_drunkFrom, .ref o_table_turns, .int vo_table_poured])), (o_table_fill, .inr (0, [.ref o_table_fill_inside, .long vo_table_fill_spilt])), (o_table_fill_inside, .inl (cJ, 9, .inr (.inl vo_table_fill_inside))), (o_table_turns, .inl (cI, 9, .inl vo_table_turns)), (o_stand, .inr (3, [.ref o_stand_kinds, .ref o_stand_holds, .ref o_stand_takes, .ref o_stand_shareCounts, .ref o_stand_shares, .int vo_stand_size])), (o_stand_shareCounts, .inl (cI, 9, .inl vo_stand_shareCounts)), (o_stand_shares, .inl (cI, 27, .inl vo_stand_shares))] := hD
      have hP9 := hP
      have hD9 := hD
      have hS9 := hS
      have hT : r2 = r := hT
      subst hT
      subst hQ
      exact zz_iret hx hb hr [0, 8, 1, 2, 3, 9, 10, 4, 5, 6, 7] hK hP9 hD9 hS9 rfl rfl trivial hlocks dX5_about_115
    replace hT := cutF c_15 hT
    have g_40 := zeqF (rfl : (p2).toInt = _) (by decide : ((4 : Int32)).toInt = 4) c_15
    by_cases c_18 : p2 = (5 : Int32)
    · replace hT := cutT c_18 hT
      have g_41 := zeqT (rfl : (p2).toInt = _) (by decide : ((5 : Int32)).toInt = 5) c_18
      refine lv_tableIn (off := 89) (tgt := 104) hx hb dX5_about_15 (by rw [c_18]; decide) (by rw [c_18]; decide) (by rw [c_18]; rfl) (by decide) ?_
      refine lv_aload_n hx hb dX5_about_104 rfl (lv_at hl 0 rfl) ?_
      refine va_get (D := (dC, dI)) (ci := 5) (v := .ref o_stand) (C := RX5) (T := TX5) (N := 10) hx hb hts hwX5 hown hK hP 0 rfl rfl 2 (by decide) hf_26 (fun _ h9 => h9) rfl dX5_about_105 ?_
      refine lv_iload_n hx hb dX5_about_108 rfl (lv_at hl 1 rfl) ?_
      refine lv_iload_n hx hb dX5_about_109 rfl (lv_at hl 2 rfl) ?_
      refine lv_iconst (v := (4 : Int32)) hx hb dX5_about_110 (by decide) ?_
      refine lv_isub hx hb dX5_about_111 ?_
      obtain ⟨r3, ev_19⟩ : ∃ x0, (m_X3_shareOf vo_stand_size vo_stand_shareCounts vo_stand_shares p1 (p2 - (4 : Int32))) = x0 := ⟨_, rfl⟩
      replace hT := cut_n ev_19 hT
      refine zz_ci [10, 4, 5] [0, 1, 2, 3, 6, 7, 8, 9] (wr := [(o, .inr (5, [.ref o_page, .ref o_reader, .ref o_stand, .ref o_trialStand, .ref o_table, .ref o_kept, .ref o_trial, .int vo_imageKept, .int vo_towersRead, .int vo_changesDone])), (o_stand_kinds, .inl (cI, 9, .inl vo_stand_kinds)), (o_stand_holds, .inl (cI, 9, .inl vo_stand_holds)), (o_stand_takes, .inl (cI, 9, .inl vo_stand_takes)), (o_table, .inr (4, [.ref o_table_fill, .ref o_table_drunkFrom, .ref o_table_turns, .int vo_table_poured])), (o_table_fill, .inr (0, [.ref o_table_fill_inside, .long vo_table_fill_spilt])), (o_table_fill_inside, .inl (cJ, 9, .inr (.inl vo_table_fill_inside))), (o_table_turns, .inl (cI, 9, .inl vo_table_turns))]) (w1 := [(o_stand, .inr (3, [.ref o_stand_kinds, .ref o_stand_holds, .ref o_stand_takes, .ref o_stand_shareCounts, .ref o_stand_shares, .int vo_stand_size])), (o_stand_shareCounts, .inl (cI, 9, .inl vo_stand_shareCounts)), (o_stand_shares, .inl (cI, 27, .inl vo_stand_shares))]) (va_runV (As := [.int p1, .int (p2 - (4 : Int32))]) (rest := []) ⟨hx, hb, hml, hown, hts⟩ (k_X3_shareOf l dC dI cI cJ cC H.size o_stand o_stand_kinds o_stand_holds o_stand_takes o_stand_shareCounts o_stand_shares vo_stand_size vo_stand_shareCounts vo_stand_shares p1 (p2 - (4 : Int32)) r3 ev_19 hs9 hsc) (cwV 2 hts gX5_about_X3_shareOf rfl rfl rfl (by decide +kernel) ⟨Nat.le_of_ble_eq_true rfl, Nat.le_of_ble_eq_true rfl⟩) (zz_preV [10, 4, 5] hK hP hD rfl rfl (va_recv hK hP (ci := 3) (q0 := 10) rfl rfl)) rfl rfl hl.1 rfl (lv_room (Nat.le_of_ble_eq_true rfl)) dX5_about_112 ⟨Nat.zero_le _, Nat.zero_le _⟩) hP hD hS hA rfl rfl rfl (by decide) (fun ok_20 H locs hP hD hS => ?_)
      have hP : va_P (dC, dI) vwCl [(o, .inr (5, [.ref o_page, .ref o_reader, .ref o_stand, .ref o_trialStand, .ref o_table, .ref o_kept, .ref o_trial, .int vo_imageKept, .int vo_towersRead, .int vo_changesDone])), (o_stand_kinds, .inl (cI, 9, .inl vo_stand_kinds)), (o_stand_holds, .inl (cI, 9, .inl vo_stand_holds)), (o_stand_takes, .inl (cI, 9, .inl vo_stand_takes)), (o_table, .inr (4, [.ref o_table_fill, .ref o_table_drunkFrom, .ref o_table_turns, .int vo_table_poured])), (o_table_fill, .inr (0, [.ref o_table_fill_inside, .long vo_table_fill_spilt])), (o_table_fill_inside, .inl (cJ, 9, .inr (.inl vo_table_fill_inside))), (o_table_turns, .inl (cI, 9, .inl vo_table_turns)), (o_stand, .inr (3, [.ref o_stand_kinds, .ref o_stand_holds, .ref o_stand_takes, .ref o_stand_shareCounts, .ref o_stand_shares, .int vo_stand_size])), (o_stand_shareCounts, .inl (cI, 9, .inl vo_stand_shareCounts)), (o_stand_shares, .inl (cI, 27, .inl vo_stand_shares))] H := hP
      have hD : va_D A [(o, .inr (5, [.ref o_page, .ref o_reader, .ref o_stand, .ref o_trialStand, .ref o_table, .ref o_kept, .ref o_trial, .int vo_imageKept, .int vo_towersRead, .int vo_changesDone])), (o_stand_kinds, .inl (cI, 9, .inl vo_stand_kinds)), (o_stand_holds, .inl (cI, 9, .inl vo_stand_holds)), (o_stand_takes, .inl (cI, 9, .inl vo_stand_takes)), (o_table, .inr (4, [.ref o_table_fill, .ref o_table_drunkFrom, .ref o_table_turns, .int vo_table_poured])), (o_table_fill, .inr (0, [.ref o_table_fill_inside, .long vo_table_fill_spilt])), (o_table_fill_inside, .inl (cJ, 9, .inr (.inl vo_table_fill_inside))), (o_table_turns, .inl (cI, 9, .inl vo_table_turns)), (o_stand, .inr (3, [.ref o_stand_kinds, .ref o_stand_holds, .ref o_stand_takes, .ref o_stand_shareCounts, .ref o_stand_shares, .int vo_stand_size])), (o_stand_shareCounts, .inl (cI, 9, .inl vo_stand_shareCounts)), (o_stand_shares, .inl (cI, 27, .inl vo_stand_shares))] := hD
      have hP9 := hP
      have hD9 := hD
      have hS9 := hS
      have hT : r3 = r := hT
      subst hT
      subst hQ
      exact zz_iret hx hb hr [0, 8, 1, 2, 3, 9, 10, 4, 5, 6, 7] hK hP9 hD9 hS9 rfl rfl trivial hlocks dX5_about_115
    replace hT := cutF c_18 hT
    have g_42 := zeqF (rfl : (p2).toInt = _) (by decide : ((5 : Int32)).toInt = 5) c_18
    by_cases c_21 : p2 = (6 : Int32)
    · replace hT := cutT c_21 hT
      have g_43 := zeqT (rfl : (p2).toInt = _) (by decide : ((6 : Int32)).toInt = 6) c_21
      refine lv_tableIn (off := 89) (tgt := 104) hx hb dX5_about_15 (by rw [c_21]; decide) (by rw [c_21]; decide) (by rw [c_21]; rfl) (by decide) ?_
      refine lv_aload_n hx hb dX5_about_104 rfl (lv_at hl 0 rfl) ?_
      refine va_get (D := (dC, dI)) (ci := 5) (v := .ref o_stand) (C := RX5) (T := TX5) (N := 10) hx hb hts hwX5 hown hK hP 0 rfl rfl 2 (by decide) hf_26 (fun _ h9 => h9) rfl dX5_about_105 ?_
      refine lv_iload_n hx hb dX5_about_108 rfl (lv_at hl 1 rfl) ?_
      refine lv_iload_n hx hb dX5_about_109 rfl (lv_at hl 2 rfl) ?_
      refine lv_iconst (v := (4 : Int32)) hx hb dX5_about_110 (by decide) ?_
      refine lv_isub hx hb dX5_about_111 ?_
      obtain ⟨r4, ev_22⟩ : ∃ x0, (m_X3_shareOf vo_stand_size vo_stand_shareCounts vo_stand_shares p1 (p2 - (4 : Int32))) = x0 := ⟨_, rfl⟩
      replace hT := cut_n ev_22 hT
      refine zz_ci [10, 4, 5] [0, 1, 2, 3, 6, 7, 8, 9] (wr := [(o, .inr (5, [.ref o_page, .ref o_reader, .ref o_stand, .ref o_trialStand, .ref o_table, .ref o_kept, .ref o_trial, .int vo_imageKept, .int vo_towersRead, .int vo_changesDone])), (o_stand_kinds, .inl (cI, 9, .inl vo_stand_kinds)), (o_stand_holds, .inl (cI, 9, .inl vo_stand_holds)), (o_stand_takes, .inl (cI, 9, .inl vo_stand_takes)), (o_table, .inr (4, [.ref o_table_fill, .ref o_table_drunkFrom, .ref o_table_turns, .int vo_table_poured])), (o_table_fill, .inr (0, [.ref o_table_fill_inside, .long vo_table_fill_spilt])), (o_table_fill_inside, .inl (cJ, 9, .inr (.inl vo_table_fill_inside))), (o_table_turns, .inl (cI, 9, .inl vo_table_turns))]) (w1 := [(o_stand, .inr (3, [.ref o_stand_kinds, .ref o_stand_holds, .ref o_stand_takes, .ref o_stand_shareCounts, .ref o_stand_shares, .int vo_stand_size])), (o_stand_shareCounts, .inl (cI, 9, .inl vo_stand_shareCounts)), (o_stand_shares, .inl (cI, 27, .inl vo_stand_shares))]) (va_runV (As := [.int p1, .int (p2 - (4 : Int32))]) (rest := []) ⟨hx, hb, hml, hown, hts⟩ (k_X3_shareOf l dC dI cI cJ cC H.size o_stand o_stand_kinds o_stand_holds o_stand_takes o_stand_shareCounts o_stand_shares vo_stand_size vo_stand_shareCounts vo_stand_shares p1 (p2 - (4 : Int32)) r4 ev_22 hs9 hsc) (cwV 2 hts gX5_about_X3_shareOf rfl rfl rfl (by decide +kernel) ⟨Nat.le_of_ble_eq_true rfl, Nat.le_of_ble_eq_true rfl⟩) (zz_preV [10, 4, 5] hK hP hD rfl rfl (va_recv hK hP (ci := 3) (q0 := 10) rfl rfl)) rfl rfl hl.1 rfl (lv_room (Nat.le_of_ble_eq_true rfl)) dX5_about_112 ⟨Nat.zero_le _, Nat.zero_le _⟩) hP hD hS hA rfl rfl rfl (by decide) (fun ok_23 H locs hP hD hS => ?_)
      have hP : va_P (dC, dI) vwCl [(o, .inr (5, [.ref o_page, .ref o_reader, .ref o_stand, .ref o_trialStand, .ref o_table, .ref o_kept, .ref o_trial, .int vo_imageKept, .int vo_towersRead, .int vo_changesDone])), (o_stand_kinds, .inl (cI, 9, .inl vo_stand_kinds)), (o_stand_holds, .inl (cI, 9, .inl vo_stand_holds)), (o_stand_takes, .inl (cI, 9, .inl vo_stand_takes)), (o_table, .inr (4, [.ref o_table_fill, .ref o_table_drunkFrom, .ref o_table_turns, .int vo_table_poured])), (o_table_fill, .inr (0, [.ref o_table_fill_inside, .long vo_table_fill_spilt])), (o_table_fill_inside, .inl (cJ, 9, .inr (.inl vo_table_fill_inside))), (o_table_turns, .inl (cI, 9, .inl vo_table_turns)), (o_stand, .inr (3, [.ref o_stand_kinds, .ref o_stand_holds, .ref o_stand_takes, .ref o_stand_shareCounts, .ref o_stand_shares, .int vo_stand_size])), (o_stand_shareCounts, .inl (cI, 9, .inl vo_stand_shareCounts)), (o_stand_shares, .inl (cI, 27, .inl vo_stand_shares))] H := hP
      have hD : va_D A [(o, .inr (5, [.ref o_page, .ref o_reader, .ref o_stand, .ref o_trialStand, .ref o_table, .ref o_kept, .ref o_trial, .int vo_imageKept, .int vo_towersRead, .int vo_changesDone])), (o_stand_kinds, .inl (cI, 9, .inl vo_stand_kinds)), (o_stand_holds, .inl (cI, 9, .inl vo_stand_holds)), (o_stand_takes, .inl (cI, 9, .inl vo_stand_takes)), (o_table, .inr (4, [.ref o_table_fill, .ref o_table_drunkFrom, .ref o_table_turns, .int vo_table_poured])), (o_table_fill, .inr (0, [.ref o_table_fill_inside, .long vo_table_fill_spilt])), (o_table_fill_inside, .inl (cJ, 9, .inr (.inl vo_table_fill_inside))), (o_table_turns, .inl (cI, 9, .inl vo_table_turns)), (o_stand, .inr (3, [.ref o_stand_kinds, .ref o_stand_holds, .ref o_stand_takes, .ref o_stand_shareCounts, .ref o_stand_shares, .int vo_stand_size])), (o_stand_shareCounts, .inl (cI, 9, .inl vo_stand_shareCounts)), (o_stand_shares, .inl (cI, 27, .inl vo_stand_shares))] := hD
      have hP9 := hP
      have hD9 := hD
      have hS9 := hS
      have hT : r4 = r := hT
      subst hT
      subst hQ
      exact zz_iret hx hb hr [0, 8, 1, 2, 3, 9, 10, 4, 5, 6, 7] hK hP9 hD9 hS9 rfl rfl trivial hlocks dX5_about_115
    replace hT := cutF c_21 hT
    have g_44 := zeqF (rfl : (p2).toInt = _) (by decide : ((6 : Int32)).toInt = 6) c_21
    by_cases c_24 : p2 = (7 : Int32)
    · replace hT := cutT c_24 hT
      have g_45 := zeqT (rfl : (p2).toInt = _) (by decide : ((7 : Int32)).toInt = 7) c_24
      refine lv_tableIn (off := 101) (tgt := 116) hx hb dX5_about_15 (by rw [c_24]; decide) (by rw [c_24]; decide) (by rw [c_24]; rfl) (by decide) ?_
      refine lv_aload_n hx hb dX5_about_116 rfl (lv_at hl 0 rfl) ?_
      refine va_get (D := (dC, dI)) (ci := 5) (v := .ref o_table) (C := RX5) (T := TX5) (N := 10) hx hb hts hwX5 hown hK hP 0 rfl rfl 4 (by decide) hf_36 (fun _ h9 => h9) rfl dX5_about_117 ?_
      refine va_get (D := (dC, dI)) (ci := 4) (v := .ref o_table_turns) (C := RX4) (T := TX4) (N := 4) hx hb hts hwX4 hown hK hP 6 rfl rfl 2 (by decide) hf_123 (fun _ h9 => h9) rfl dX5_about_120 ?_
      refine lv_iload_n hx hb dX5_about_123 rfl (lv_at hl 1 rfl) ?_
      have h_25 : vp_in p1 9 := zin (by omega) (by omega)
      refine va_iald hx hb hK hP 9 0 rfl rfl h_25 dX5_about_124 ?_
      have hP9 := hP
      have hD9 := hD
      have hS9 := hS
      have hT : (vo_table_turns p1.toNatClampNeg) = r := hT
      subst hT
      subst hQ
      exact zz_iret hx hb hr [0, 10, 1, 2, 3, 4, 5, 6, 7, 8, 9] hK hP9 hD9 hS9 rfl rfl trivial hlocks dX5_about_125
    replace hT := cutF c_24 hT
    have g_46 := zeqF (rfl : (p2).toInt = _) (by decide : ((7 : Int32)).toInt = 7) c_24
    by_cases c_26 : p2 = (8 : Int32)
    · replace hT := cutT c_26 hT
      have g_47 := zeqT (rfl : (p2).toInt = _) (by decide : ((8 : Int32)).toInt = 8) c_26
      refine lv_tableIn (off := 111) (tgt := 126) hx hb dX5_about_15 (by rw [c_26]; decide) (by rw [c_26]; decide) (by rw [c_26]; rfl) (by decide) ?_
      refine lv_aload_n hx hb dX5_about_126 rfl (lv_at hl 0 rfl) ?_
      refine va_get (D := (dC, dI)) (ci := 5) (v := .ref o_table) (C := RX5) (T := TX5) (N := 10) hx hb hts hwX5 hown hK hP 0 rfl rfl 4 (by decide) hf_36 (fun _ h9 => h9) rfl dX5_about_127 ?_
      refine va_get (D := (dC, dI)) (ci := 4) (v := .ref o_table_fill) (C := RX4) (T := TX4) (N := 4) hx hb hts hwX4 hown hK hP 6 rfl rfl 0 (by decide) hf_126 (fun _ h9 => h9) rfl dX5_about_130 ?_
      refine lv_aload_n hx hb dX5_about_133 rfl (lv_at hl 0 rfl) ?_
      refine va_get (D := (dC, dI)) (ci := 5) (v := .ref o_stand) (C := RX5) (T := TX5) (N := 10) hx hb hts hwX5 hown hK hP 0 rfl rfl 2 (by decide) hf_26 (fun _ h9 => h9) rfl dX5_about_134 ?_
      refine lv_iload_n hx hb dX5_about_137 rfl (lv_at hl 1 rfl) ?_
      obtain ⟨r5, ev_27⟩ : ∃ x0, (m_X0_isFull vo_table_fill_inside vo_stand_size vo_stand_takes p1) = x0 := ⟨_, rfl⟩
      replace hT := cut_n ev_27 hT
      refine zz_ci [7, 8, 10, 3] [0, 1, 2, 4, 5, 6, 9] (wr := [(o, .inr (5, [.ref o_page, .ref o_reader, .ref o_stand, .ref o_trialStand, .ref o_table, .ref o_kept, .ref o_trial, .int vo_imageKept, .int vo_towersRead, .int vo_changesDone])), (o_stand_kinds, .inl (cI, 9, .inl vo_stand_kinds)), (o_stand_holds, .inl (cI, 9, .inl vo_stand_holds)), (o_stand_shareCounts, .inl (cI, 9, .inl vo_stand_shareCounts)), (o_stand_shares, .inl (cI, 27, .inl vo_stand_shares)), (o_table, .inr (4, [.ref o_table_fill, .ref o_table_drunkFrom, .ref o_table_turns, .int vo_table_poured])), (o_table_turns, .inl (cI, 9, .inl vo_table_turns))]) (w1 := [(o_table_fill, .inr (0, [.ref o_table_fill_inside, .long vo_table_fill_spilt])), (o_table_fill_inside, .inl (cJ, 9, .inr (.inl vo_table_fill_inside))), (o_stand, .inr (3, [.ref o_stand_kinds, .ref o_stand_holds, .ref o_stand_takes, .ref o_stand_shareCounts, .ref o_stand_shares, .int vo_stand_size])), (o_stand_takes, .inl (cI, 9, .inl vo_stand_takes))]) (va_runV (As := [.ref o_stand, .int p1]) (rest := []) ⟨hx, hb, hml, hown, hts⟩ (k_X0_isFull l dC dI cI cJ cC H.size o_table_fill o_table_fill_inside o_stand o_stand_kinds o_stand_holds o_stand_takes o_stand_shareCounts o_stand_shares vo_table_fill_spilt vo_table_fill_inside vo_stand_size vo_stand_takes p1 r5 ev_27 hs9) (cwV 2 hts gX5_about_X0_isFull rfl rfl rfl (by decide +kernel) ⟨Nat.le_of_ble_eq_true rfl, Nat.le_of_ble_eq_true rfl⟩) (zz_preV [7, 8, 10, 3] hK hP hD rfl rfl (va_recv hK hP (ci := 0) (q0 := 7) rfl rfl)) rfl rfl hl.1 rfl (lv_room (Nat.le_of_ble_eq_true rfl)) dX5_about_138 ⟨Nat.zero_le _, Nat.zero_le _⟩) hP hD hS hA rfl rfl rfl (by decide) (fun ok_28 H locs hP hD hS => ?_)
      have hP : va_P (dC, dI) vwCl [(o, .inr (5, [.ref o_page, .ref o_reader, .ref o_stand, .ref o_trialStand, .ref o_table, .ref o_kept, .ref o_trial, .int vo_imageKept, .int vo_towersRead, .int vo_changesDone])), (o_stand_kinds, .inl (cI, 9, .inl vo_stand_kinds)), (o_stand_holds, .inl (cI, 9, .inl vo_stand_holds)), (o_stand_shareCounts, .inl (cI, 9, .inl vo_stand_shareCounts)), (o_stand_shares, .inl (cI, 27, .inl vo_stand_shares)), (o_table, .inr (4, [.ref o_table_fill, .ref o_table_drunkFrom, .ref o_table_turns, .int vo_table_poured])), (o_table_turns, .inl (cI, 9, .inl vo_table_turns)), (o_table_fill, .inr (0, [.ref o_table_fill_inside, .long vo_table_fill_spilt])), (o_table_fill_inside, .inl (cJ, 9, .inr (.inl vo_table_fill_inside))), (o_stand, .inr (3, [.ref o_stand_kinds, .ref o_stand_holds, .ref o_stand_takes, .ref o_stand_shareCounts, .ref o_stand_shares, .int vo_stand_size])), (o_stand_takes, .inl (cI, 9, .inl vo_stand_takes))] H := hP
      have hD : va_D A [(o, .inr (5, [.ref o_page, .ref o_reader, .ref o_stand, .ref o_trialStand, .ref o_table, .ref o_kept, .ref o_trial, .int vo_imageKept, .int vo_towersRead, .int vo_changesDone])), (o_stand_kinds, .inl (cI, 9, .inl vo_stand_kinds)), (o_stand_holds, .inl (cI, 9, .inl vo_stand_holds)), (o_stand_shareCounts, .inl (cI, 9, .inl vo_stand_shareCounts)), (o_stand_shares, .inl (cI, 27, .inl vo_stand_shares)), (o_table, .inr (4, [.ref o_table_fill, .ref o_table_drunkFrom, .ref o_table_turns, .int vo_table_poured])), (o_table_turns, .inl (cI, 9, .inl vo_table_turns)), (o_table_fill, .inr (0, [.ref o_table_fill_inside, .long vo_table_fill_spilt])), (o_table_fill_inside, .inl (cJ, 9, .inr (.inl vo_table_fill_inside))), (o_stand, .inr (3, [.ref o_stand_kinds, .ref o_stand_holds, .ref o_stand_takes, .ref o_stand_shareCounts, .ref o_stand_shares, .int vo_stand_size])), (o_stand_takes, .inl (cI, 9, .inl vo_stand_takes))] := hD
      refine lv_if_eq (tgt := 148) hx hb dX5_about_141 (by decide) (fun c_29 => ?_) (fun c_29 => ?_)
      · replace hT := cutT c_29 hT
        have g_48 := zeqT (rfl : (r5).toInt = _) (by decide : ((0 : Int32)).toInt = 0) c_29
        refine lv_iconst (v := (0 : Int32)) hx hb dX5_about_148 (by decide) ?_
        have hP9 := hP
        have hD9 := hD
        have hS9 := hS
        have hT : (0 : Int32) = r := hT
        subst hT
        subst hQ
        exact zz_iret hx hb hr [0, 9, 1, 2, 10, 3, 4, 5, 7, 8, 6] hK hP9 hD9 hS9 rfl rfl trivial hlocks dX5_about_149
      · replace hT := cutF c_29 hT
        have g_49 := zeqF (rfl : (r5).toInt = _) (by decide : ((0 : Int32)).toInt = 0) c_29
        refine lv_iconst (v := (1 : Int32)) hx hb dX5_about_144 (by decide) ?_
        refine lv_goto (tgt := 149) hx hb dX5_about_145 (by decide) ?_
        have hP9 := hP
        have hD9 := hD
        have hS9 := hS
        have hT : (1 : Int32) = r := hT
        subst hT
        subst hQ
        exact zz_iret hx hb hr [0, 9, 1, 2, 10, 3, 4, 5, 7, 8, 6] hK hP9 hD9 hS9 rfl rfl trivial hlocks dX5_about_149
    replace hT := cutF c_26 hT
    have g_50 := zeqF (rfl : (p2).toInt = _) (by decide : ((8 : Int32)).toInt = 8) c_26
    refine lv_tableOut (tgt := 150) hx hb dX5_about_15 (by omega) (by decide) ?_
    refine lv_bipush (v := (-102 : Int32)) hx hb dX5_about_150 (by decide) ?_
    have hP9 := hP
    have hD9 := hD
    have hS9 := hS
    have hT : (-102 : Int32) = r := hT
    subst hT
    subst hQ
    exact zz_iret hx hb hr [0, 10, 1, 2, 3, 4, 5, 6, 7, 8, 9] hK hP9 hD9 hS9 rfl rfl trivial hlocks dX5_about_152
  · replace hT := cutT c_5 hT
    have g_51 := zeqT (rfl : (r1).toInt = _) (by decide : ((0 : Int32)).toInt = 0) c_5
    refine lv_bipush (v := (-101 : Int32)) hx hb dX5_about_11 (by decide) ?_
    have hP9 := hP
    have hD9 := hD
    have hS9 := hS
    have hT : (-101 : Int32) = r := hT
    subst hT
    subst hQ
    exact zz_iret hx hb hr [0, 10, 1, 2, 3, 4, 5, 6, 7, 8, 9] hK hP9 hD9 hS9 rfl rfl trivial hlocks dX5_about_13

def m_X5_as (vo_stand_size : Int32) (vo_stand_kinds : Nat → Int32) (p1 : Int32) (p2 : Int32) : Int32 :=
 cut (m_X3_has vo_stand_size p1) (fun (r1 : Int32) =>
 if r1 = (0 : Int32) then
  (-101 : Int32)
 else
  if p2 < (0 : Int32) then
   (-102 : Int32)
  else
   if p2 ≤ (4 : Int32) then
    cut (m_X3_isOfKind vo_stand_size vo_stand_kinds p1 p2) (fun (r2 : Int32) =>
    if r2 = (0 : Int32) then
     (-1 : Int32)
    else
     p1)
   else
    (-102 : Int32))
set_option maxHeartbeats 4000000 in
set_option maxRecDepth 100000 in
theorem k_X5_as (l : Launch) (dC : Nat → ClassId) (dI : Nat → Nat → Nat) (cI cJ cC : ClassId) (sz : Nat) (o o_page o_reader o_stand o_trialStand o_table o_kept o_trial o_stand_kinds o_stand_holds o_stand_takes o_stand_shareCounts o_stand_shares : Nat) (vo_imageKept : Int32) (vo_towersRead : Int32) (vo_changesDone : Int32) (vo_stand_size : Int32) (vo_stand_kinds : Nat → Int32) (p1 : Int32) (p2 : Int32) (r : Int32) (hT : m_X5_as vo_stand_size vo_stand_kinds p1 p2 = r) (hs9 : vo_stand_size.toInt ≤ 9) : Met l yX5_as wsX5_as ({ frames := 2, cells := 0, slots := 0, locals := 44 }) (zPc [.ref o, .int p1, .int p2] (dC, dI) (zTy cI cJ cC) [(o, .inr (5, [.ref o_page, .ref o_reader, .ref o_stand, .ref o_trialStand, .ref o_table, .ref o_kept, .ref o_trial, .int vo_imageKept, .int vo_towersRead, .int vo_changesDone])), (o_stand, .inr (3, [.ref o_stand_kinds, .ref o_stand_holds, .ref o_stand_takes, .ref o_stand_shareCounts, .ref o_stand_shares, .int vo_stand_size])), (o_stand_kinds, .inl (cI, 9, .inl vo_stand_kinds))] sz) (zQi r (True) (dC, dI) (zTy cI cJ cC) [(o, .inr (5, [.ref o_page, .ref o_reader, .ref o_stand, .ref o_trialStand, .ref o_table, .ref o_kept, .ref o_trial, .int vo_imageKept, .int vo_towersRead, .int vo_changesDone])), (o_stand, .inr (3, [.ref o_stand_kinds, .ref o_stand_holds, .ref o_stand_takes, .ref o_stand_shareCounts, .ref o_stand_shares, .int vo_stand_size])), (o_stand_kinds, .inl (cI, 9, .inl vo_stand_kinds))] (va_A [(o, .inr (5, [.ref o_page, .ref o_reader, .ref o_stand, .ref o_trialStand, .ref o_table, .ref o_kept, .ref o_trial, .int vo_imageKept, .int vo_towersRead, .int vo_changesDone])), (o_stand, .inr (3, [.ref o_stand_kinds, .ref o_stand_holds, .ref o_stand_takes, .ref o_stand_shareCounts, .ref o_stand_shares, .int vo_stand_size])), (o_stand_kinds, .inl (cI, 9, .inl vo_stand_kinds))] sz)) 0 0 (va_A [(o, .inr (5, [.ref o_page, .ref o_reader, .ref o_stand, .ref o_trialStand, .ref o_table, .ref o_kept, .ref o_trial, .int vo_imageKept, .int vo_towersRead, .int vo_changesDone])), (o_stand, .inr (3, [.ref o_stand_kinds, .ref o_stand_holds, .ref o_stand_takes, .ref o_stand_shareCounts, .ref o_stand_shares, .int vo_stand_size])), (o_stand_kinds, .inl (cI, 9, .inl vo_stand_kinds))] sz) := by
  refine Met.ofW (cc := cX5_as) (maxL := 3) (ret := (some .int)) (by decide) rfl ?_
  intro p e s m args below meth c s₁ B hml hv
  obtain ⟨rfl, hsz, hP, hK, hD0⟩ := hv
  have hx := B.exec
  have hb := B.bytes
  have hr := B.returns
  have hts := atoms_spec (ws := wsX5_as) B.pre
  have hown : s.vm.findClass RX5 = some m.cls := findClass_of_methodNamed B.named
  have hlocks := B.notSynchronized
  subst hsz
  have hD := hD0.self (sz := s.heap.size)
  generalize hAe : va_A [(o, .inr (5, [.ref o_page, .ref o_reader, .ref o_stand, .ref o_trialStand, .ref o_table, .ref o_kept, .ref o_trial, .int vo_imageKept, .int vo_towersRead, .int vo_changesDone])), (o_stand, .inr (3, [.ref o_stand_kinds, .ref o_stand_holds, .ref o_stand_takes, .ref o_stand_shareCounts, .ref o_stand_shares, .int vo_stand_size])), (o_stand_kinds, .inl (cI, 9, .inl vo_stand_kinds))] s.heap.size = A at hD ⊢
  have hA : ∀ q : Nat, s.heap.size ≤ q → A q := fun q h => by rw [← hAe]; exact Or.inr h
  have hS : va_S A s.heap s.heap [] := va_S.rf
  have hP : va_P (dC, dI) vwCl [(o, .inr (5, [.ref o_page, .ref o_reader, .ref o_stand, .ref o_trialStand, .ref o_table, .ref o_kept, .ref o_trial, .int vo_imageKept, .int vo_towersRead, .int vo_changesDone])), (o_stand, .inr (3, [.ref o_stand_kinds, .ref o_stand_holds, .ref o_stand_takes, .ref o_stand_shareCounts, .ref o_stand_shares, .int vo_stand_size])), (o_stand_kinds, .inl (cI, 9, .inl vo_stand_kinds))] s.heap := hP
  have hK : va_K (dC, dI) vwCl (zTy cI cJ cC) s := hK
  have hl := lv_entry ([.ref o, .int p1, .int p2]) (n := 3) (Nat.le_of_ble_eq_true rfl)
  rw [lg_entry_eq]
  generalize (lg_sl ([.ref o, .int p1, .int p2]) ++ List.replicate (3 - (lg_sl ([.ref o, .int p1, .int p2])).length) Slot.unset).toArray = ls at hl ⊢
  have hl : lv_has ls 3 [(0, .ref o), (1, .int p1), (2, .int p2)] := hl
  refine zz_start hP hS (fun Q hQ H locs hP hS => ?_)
  have hwX5 : ∀ w ∈ u_ws RX5 TX5 10, w ∈ wsX5_as := by decide +kernel
  have hf_26 := (hts (.fieldLink RX5 26 "PouredTopmost" "stand" "LPouredTopmost$Stand;") (by decide +kernel))
  refine lv_aload_n hx hb dX5_as_0 rfl (lv_at hl 0 rfl) ?_
  refine va_get (D := (dC, dI)) (ci := 5) (v := .ref o_stand) (C := RX5) (T := TX5) (N := 10) hx hb hts hwX5 hown hK hP 0 rfl rfl 2 (by decide) hf_26 (fun _ h9 => h9) rfl dX5_as_1 ?_
  refine lv_iload_n hx hb dX5_as_4 rfl (lv_at hl 1 rfl) ?_
  obtain ⟨r1, ev_1⟩ : ∃ x0, (m_X3_has vo_stand_size p1) = x0 := ⟨_, rfl⟩
  replace hT := cut_n ev_1 hT
  refine zz_ci [1] [0, 2] (wr := [(o, .inr (5, [.ref o_page, .ref o_reader, .ref o_stand, .ref o_trialStand, .ref o_table, .ref o_kept, .ref o_trial, .int vo_imageKept, .int vo_towersRead, .int vo_changesDone])), (o_stand_kinds, .inl (cI, 9, .inl vo_stand_kinds))]) (w1 := [(o_stand, .inr (3, [.ref o_stand_kinds, .ref o_stand_holds, .ref o_stand_takes, .ref o_stand_shareCounts, .ref o_stand_shares, .int vo_stand_size]))]) (va_runV (As := [.int p1]) (rest := []) ⟨hx, hb, hml, hown, hts⟩ (k_X3_has l dC dI cI cJ cC H.size o_stand o_stand_kinds o_stand_holds o_stand_takes o_stand_shareCounts o_stand_shares vo_stand_size p1 r1 ev_1) (cwV 1 hts gX5_as_X3_has rfl rfl rfl (by decide +kernel) ⟨Nat.le_of_ble_eq_true rfl, Nat.le_of_ble_eq_true rfl⟩) (zz_preV [1] hK hP hD rfl rfl (va_recv hK hP (ci := 3) (q0 := 1) rfl rfl)) rfl rfl hl.1 rfl (lv_room (Nat.le_of_ble_eq_true rfl)) dX5_as_5 ⟨Nat.zero_le _, Nat.zero_le _⟩) hP hD hS hA rfl rfl rfl (by decide) (fun ok_2 H locs hP hD hS => ?_)
  have hP : va_P (dC, dI) vwCl [(o, .inr (5, [.ref o_page, .ref o_reader, .ref o_stand, .ref o_trialStand, .ref o_table, .ref o_kept, .ref o_trial, .int vo_imageKept, .int vo_towersRead, .int vo_changesDone])), (o_stand_kinds, .inl (cI, 9, .inl vo_stand_kinds)), (o_stand, .inr (3, [.ref o_stand_kinds, .ref o_stand_holds, .ref o_stand_takes, .ref o_stand_shareCounts, .ref o_stand_shares, .int vo_stand_size]))] H := hP
  have hD : va_D A [(o, .inr (5, [.ref o_page, .ref o_reader, .ref o_stand, .ref o_trialStand, .ref o_table, .ref o_kept, .ref o_trial, .int vo_imageKept, .int vo_towersRead, .int vo_changesDone])), (o_stand_kinds, .inl (cI, 9, .inl vo_stand_kinds)), (o_stand, .inr (3, [.ref o_stand_kinds, .ref o_stand_holds, .ref o_stand_takes, .ref o_stand_shareCounts, .ref o_stand_shares, .int vo_stand_size]))] := hD
  obtain ⟨k_3, k_4⟩ := ok_2
  refine lv_if_ne (tgt := 14) hx hb dX5_as_8 (by decide) (fun c_5 => ?_) (fun c_5 => ?_)
  · replace hT := cutF c_5 hT
    have g_11 := zeqF (rfl : (r1).toInt = _) (by decide : ((0 : Int32)).toInt = 0) c_5
    refine lv_iload_n hx hb dX5_as_14 rfl (lv_at hl 2 rfl) ?_
    refine lv_if_lt (tgt := 23) hx hb dX5_as_15 (by decide) (fun c_6 => ?_) (fun c_6 => ?_)
    · replace hT := cutT c_6 hT
      have g_12 := zltT (rfl : (p2).toInt = _) (by decide : ((0 : Int32)).toInt = 0) c_6
      refine lv_bipush (v := (-102 : Int32)) hx hb dX5_as_23 (by decide) ?_
      have hP9 := hP
      have hD9 := hD
      have hS9 := hS
      have hT : (-102 : Int32) = r := hT
      subst hT
      subst hQ
      exact zz_iret hx hb hr [0, 2, 1] hK hP9 hD9 hS9 rfl rfl trivial hlocks dX5_as_25
    · replace hT := cutF c_6 hT
      have g_13 := zltF (rfl : (p2).toInt = _) (by decide : ((0 : Int32)).toInt = 0) c_6
      refine lv_iload_n hx hb dX5_as_18 rfl (lv_at hl 2 rfl) ?_
      refine lv_iconst (v := (4 : Int32)) hx hb dX5_as_19 (by decide) ?_
      refine lv_icmp_le (tgt := 26) hx hb dX5_as_20 (by decide) (fun c_7 => ?_) (fun c_7 => ?_)
      · replace hT := cutT c_7 hT
        have g_14 := zleT (rfl : (p2).toInt = _) (by decide : ((4 : Int32)).toInt = 4) c_7
        refine lv_aload_n hx hb dX5_as_26 rfl (lv_at hl 0 rfl) ?_
        refine va_get (D := (dC, dI)) (ci := 5) (v := .ref o_stand) (C := RX5) (T := TX5) (N := 10) hx hb hts hwX5 hown hK hP 0 rfl rfl 2 (by decide) hf_26 (fun _ h9 => h9) rfl dX5_as_27 ?_
        refine lv_iload_n hx hb dX5_as_30 rfl (lv_at hl 1 rfl) ?_
        refine lv_iload_n hx hb dX5_as_31 rfl (lv_at hl 2 rfl) ?_
        obtain ⟨r2, ev_8⟩ : ∃ x0, (m_X3_isOfKind vo_stand_size vo_stand_kinds p1 p2) = x0 := ⟨_, rfl⟩
        replace hT := cut_n ev_8 hT
        refine zz_ci [2, 1] [0] (wr := [(o, .inr (5, [.ref o_page, .ref o_reader, .ref o_stand, .ref o_trialStand, .ref o_table, .ref o_kept, .ref o_trial, .int vo_imageKept, .int vo_towersRead, .int vo_changesDone]))]) (w1 := [(o_stand, .inr (3, [.ref o_stand_kinds, .ref o_stand_holds, .ref o_stand_takes, .ref o_stand_shareCounts, .ref o_stand_shares, .int vo_stand_size])), (o_stand_kinds, .inl (cI, 9, .inl vo_stand_kinds))]) (va_runV (As := [.int p1, .int p2]) (rest := []) ⟨hx, hb, hml, hown, hts⟩ (k_X3_isOfKind l dC dI cI cJ cC H.size o_stand o_stand_kinds o_stand_holds o_stand_takes o_stand_shareCounts o_stand_shares vo_stand_size vo_stand_kinds p1 p2 r2 ev_8 hs9) (cwV 2 hts gX5_as_X3_isOfKind rfl rfl rfl (by decide +kernel) ⟨Nat.le_of_ble_eq_true rfl, Nat.le_of_ble_eq_true rfl⟩) (zz_preV [2, 1] hK hP hD rfl rfl (va_recv hK hP (ci := 3) (q0 := 2) rfl rfl)) rfl rfl hl.1 rfl (lv_room (Nat.le_of_ble_eq_true rfl)) dX5_as_32 ⟨Nat.zero_le _, Nat.zero_le _⟩) hP hD hS hA rfl rfl rfl (by decide) (fun ok_9 H locs hP hD hS => ?_)
        have hP : va_P (dC, dI) vwCl [(o, .inr (5, [.ref o_page, .ref o_reader, .ref o_stand, .ref o_trialStand, .ref o_table, .ref o_kept, .ref o_trial, .int vo_imageKept, .int vo_towersRead, .int vo_changesDone])), (o_stand, .inr (3, [.ref o_stand_kinds, .ref o_stand_holds, .ref o_stand_takes, .ref o_stand_shareCounts, .ref o_stand_shares, .int vo_stand_size])), (o_stand_kinds, .inl (cI, 9, .inl vo_stand_kinds))] H := hP
        have hD : va_D A [(o, .inr (5, [.ref o_page, .ref o_reader, .ref o_stand, .ref o_trialStand, .ref o_table, .ref o_kept, .ref o_trial, .int vo_imageKept, .int vo_towersRead, .int vo_changesDone])), (o_stand, .inr (3, [.ref o_stand_kinds, .ref o_stand_holds, .ref o_stand_takes, .ref o_stand_shareCounts, .ref o_stand_shares, .int vo_stand_size])), (o_stand_kinds, .inl (cI, 9, .inl vo_stand_kinds))] := hD
        refine lv_if_eq (tgt := 42) hx hb dX5_as_35 (by decide) (fun c_10 => ?_) (fun c_10 => ?_)
        · replace hT := cutT c_10 hT
          have g_15 := zeqT (rfl : (r2).toInt = _) (by decide : ((0 : Int32)).toInt = 0) c_10
          refine lv_iconst (v := (-1 : Int32)) hx hb dX5_as_42 (by decide) ?_
          have hP9 := hP
          have hD9 := hD
          have hS9 := hS
          have hT : (-1 : Int32) = r := hT
          subst hT
          subst hQ
          exact zz_iret hx hb hr [0, 1, 2] hK hP9 hD9 hS9 rfl rfl trivial hlocks dX5_as_43
        · replace hT := cutF c_10 hT
          have g_16 := zeqF (rfl : (r2).toInt = _) (by decide : ((0 : Int32)).toInt = 0) c_10
          refine lv_iload_n hx hb dX5_as_38 rfl (lv_at hl 1 rfl) ?_
          refine lv_goto (tgt := 43) hx hb dX5_as_39 (by decide) ?_
          have hP9 := hP
          have hD9 := hD
          have hS9 := hS
          have hT : p1 = r := hT
          subst hT
          subst hQ
          exact zz_iret hx hb hr [0, 1, 2] hK hP9 hD9 hS9 rfl rfl trivial hlocks dX5_as_43
      · replace hT := cutF c_7 hT
        have g_17 := zleF (rfl : (p2).toInt = _) (by decide : ((4 : Int32)).toInt = 4) c_7
        refine lv_bipush (v := (-102 : Int32)) hx hb dX5_as_23 (by decide) ?_
        have hP9 := hP
        have hD9 := hD
        have hS9 := hS
        have hT : (-102 : Int32) = r := hT
        subst hT
        subst hQ
        exact zz_iret hx hb hr [0, 2, 1] hK hP9 hD9 hS9 rfl rfl trivial hlocks dX5_as_25
  · replace hT := cutT c_5 hT
    have g_18 := zeqT (rfl : (r1).toInt = _) (by decide : ((0 : Int32)).toInt = 0) c_5
    refine lv_bipush (v := (-101 : Int32)) hx hb dX5_as_11 (by decide) ?_
    have hP9 := hP
    have hD9 := hD
    have hS9 := hS
    have hT : (-101 : Int32) = r := hT
    subst hT
    subst hQ
    exact zz_iret hx hb hr [0, 2, 1] hK hP9 hD9 hS9 rfl rfl trivial hlocks dX5_as_13

def m_X5_pour (vo_stand_size : Int32) (vo_stand_kinds : Nat → Int32) (vo_stand_takes : Nat → Int32) (vo_stand_shareCounts : Nat → Int32) (vo_stand_shares : Nat → Int32) (vo_table_poured : Int32) (vo_table_fill_spilt : Int64) (vo_table_fill_inside : Nat → Int64) (p1 : Int32) (p2 : Int32) : Int32 × Int32 × Int64 × (Nat → Int64) :=
 cut (m_X3_has vo_stand_size p1) (fun (r1 : Int32) =>
 if r1 = (0 : Int32) then
  ((-101 : Int32), vo_table_poured, vo_table_fill_spilt, vo_table_fill_inside)
 else
  cut (m_X5_isFromOneTo (99 : Int32) p2) (fun (r2 : Int32) =>
  if r2 = (0 : Int32) then
   ((-102 : Int32), vo_table_poured, vo_table_fill_spilt, vo_table_fill_inside)
  else
   if (vo_table_poured + p2) ≤ (9999 : Int32) then
    cut3 (m_X4_addTo vo_table_poured vo_table_fill_spilt vo_table_fill_inside vo_stand_size vo_stand_kinds vo_stand_takes vo_stand_shareCounts vo_stand_shares p1 p2) (fun (u3 : Int32) (u4 : Int64) (u5 : Nat → Int64) =>
    (u3, u3, u4, u5))
   else
    ((-103 : Int32), vo_table_poured, vo_table_fill_spilt, vo_table_fill_inside)))
set_option maxHeartbeats 4000000 in
set_option maxRecDepth 100000 in
theorem k_X5_pour (l : Launch) (dC : Nat → ClassId) (dI : Nat → Nat → Nat) (cI cJ cC : ClassId) (sz : Nat) (o o_page o_reader o_stand o_trialStand o_table o_kept o_trial o_stand_kinds o_stand_holds o_stand_takes o_stand_shareCounts o_stand_shares o_table_fill o_table_drunkFrom o_table_turns o_table_fill_inside : Nat) (vo_imageKept : Int32) (vo_towersRead : Int32) (vo_changesDone : Int32) (vo_stand_size : Int32) (vo_stand_kinds : Nat → Int32) (vo_stand_takes : Nat → Int32) (vo_stand_shareCounts : Nat → Int32) (vo_stand_shares : Nat → Int32) (vo_table_poured : Int32) (vo_table_fill_spilt : Int64) (vo_table_fill_inside : Nat → Int64) (p1 : Int32) (p2 : Int32) (r : Int32) (qo_table_poured : Int32) (qo_table_fill_spilt : Int64) (qo_table_fill_inside : Nat → Int64) (hT : m_X5_pour vo_stand_size vo_stand_kinds vo_stand_takes vo_stand_shareCounts vo_stand_shares vo_table_poured vo_table_fill_spilt vo_table_fill_inside p1 p2 = (r, qo_table_poured, qo_table_fill_spilt, qo_table_fill_inside)) (hs0 : 0 ≤ vo_stand_size.toInt) (hs9 : vo_stand_size.toInt ≤ 9) (hsc : zSc vo_stand_shareCounts) : Met l yX5_pour wsX5_pour ({ frames := 6, cells := 0, slots := 0, locals := 144 }) (zPc [.ref o, .int p1, .int p2] (dC, dI) (zTy cI cJ cC) [(o, .inr (5, [.ref o_page, .ref o_reader, .ref o_stand, .ref o_trialStand, .ref o_table, .ref o_kept, .ref o_trial, .int vo_imageKept, .int vo_towersRead, .int vo_changesDone])), (o_stand, .inr (3, [.ref o_stand_kinds, .ref o_stand_holds, .ref o_stand_takes, .ref o_stand_shareCounts, .ref o_stand_shares, .int vo_stand_size])), (o_stand_kinds, .inl (cI, 9, .inl vo_stand_kinds)), (o_stand_takes, .inl (cI, 9, .inl vo_stand_takes)), (o_stand_shareCounts, .inl (cI, 9, .inl vo_stand_shareCounts)), (o_stand_shares, .inl (cI, 27, .inl vo_stand_shares)), (o_table, .inr (4, [.ref o_table_fill, .ref o_table_drunkFrom, .ref o_table_turns, .int vo_table_poured])), (o_table_fill, .inr (0, [.ref o_table_fill_inside, .long vo_table_fill_spilt])), (o_table_fill_inside, .inl (cJ, 9, .inr (.inl vo_table_fill_inside)))] sz) (zQi r (True) (dC, dI) (zTy cI cJ cC) [(o, .inr (5, [.ref o_page, .ref o_reader, .ref o_stand, .ref o_trialStand, .ref o_table, .ref o_kept, .ref o_trial, .int vo_imageKept, .int vo_towersRead, .int vo_changesDone])), (o_stand, .inr (3, [.ref o_stand_kinds, .ref o_stand_holds, .ref o_stand_takes, .ref o_stand_shareCounts, .ref o_stand_shares, .int vo_stand_size])), (o_stand_kinds, .inl (cI, 9, .inl vo_stand_kinds)), (o_stand_takes, .inl (cI, 9, .inl vo_stand_takes)), (o_stand_shareCounts, .inl (cI, 9, .inl vo_stand_shareCounts)), (o_stand_shares, .inl (cI, 27, .inl vo_stand_shares)), (o_table, .inr (4, [.ref o_table_fill, .ref o_table_drunkFrom, .ref o_table_turns, .int qo_table_poured])), (o_table_fill, .inr (0, [.ref o_table_fill_inside, .long qo_table_fill_spilt])), (o_table_fill_inside, .inl (cJ, 9, .inr (.inl qo_table_fill_inside)))] (va_A [(o, .inr (5, [.ref o_page, .ref o_reader, .ref o_stand, .ref o_trialStand, .ref o_table, .ref o_kept, .ref o_trial, .int vo_imageKept, .int vo_towersRead, .int vo_changesDone])), (o_stand, .inr (3, [.ref o_stand_kinds, .ref o_stand_holds, .ref o_stand_takes, .ref o_stand_shareCounts, .ref o_stand_shares, .int vo_stand_size])), (o_stand_kinds, .inl (cI, 9, .inl vo_stand_kinds)), (o_stand_takes, .inl (cI, 9, .inl vo_stand_takes)), (o_stand_shareCounts, .inl (cI, 9, .inl vo_stand_shareCounts)), (o_stand_shares, .inl (cI, 27, .inl vo_stand_shares)), (o_table, .inr (4, [.ref o_table_fill, .ref o_table_drunkFrom, .ref o_table_turns, .int vo_table_poured])), (o_table_fill, .inr (0, [.ref o_table_fill_inside, .long vo_table_fill_spilt])), (o_table_fill_inside, .inl (cJ, 9, .inr (.inl vo_table_fill_inside)))] sz)) 0 0 (va_A [(o, .inr (5, [.ref o_page, .ref o_reader, .ref o_stand, .ref o_trialStand, .ref o_table, .ref o_kept, .ref o_trial, .int vo_imageKept, .int vo_towersRead, .int vo_changesDone])), (o_stand, .inr (3, [.ref o_stand_kinds, .ref o_stand_holds, .ref o_stand_takes, .ref o_stand_shareCounts, .ref o_stand_shares, .int vo_stand_size])), (o_stand_kinds, .inl (cI, 9, .inl vo_stand_kinds)), (o_stand_takes, .inl (cI, 9, .inl vo_stand_takes)), (o_stand_shareCounts, .inl (cI, 9, .inl vo_stand_shareCounts)), (o_stand_shares, .inl (cI, 27, .inl vo_stand_shares)), (o_table, .inr (4, [.ref o_table_fill, .ref o_table_drunkFrom, .ref o_table_turns, .int vo_table_poured])), (o_table_fill, .inr (0, [.ref o_table_fill_inside, .long vo_table_fill_spilt])), (o_table_fill_inside, .inl (cJ, 9, .inr (.inl vo_table_fill_inside)))] sz) := by
  refine Met.ofW (cc := cX5_pour) (maxL := 3) (ret := (some .int)) (by decide) rfl ?_
  intro p e s m args below meth c s₁ B hml hv
  obtain ⟨rfl, hsz, hP, hK, hD0⟩ := hv
  have hx := B.exec
  have hb := B.bytes
  have hr := B.returns
  have hts := atoms_spec (ws := wsX5_pour) B.pre
  have hown : s.vm.findClass RX5 = some m.cls := findClass_of_methodNamed B.named
  have hlocks := B.notSynchronized
  subst hsz
  have hD := hD0.self (sz := s.heap.size)
  generalize hAe : va_A [(o, .inr (5, [.ref o_page, .ref o_reader, .ref o_stand, .ref o_trialStand, .ref o_table, .ref o_kept, .ref o_trial, .int vo_imageKept, .int vo_towersRead, .int vo_changesDone])), (o_stand, .inr (3, [.ref o_stand_kinds, .ref o_stand_holds, .ref o_stand_takes, .ref o_stand_shareCounts, .ref o_stand_shares, .int vo_stand_size])), (o_stand_kinds, .inl (cI, 9, .inl vo_stand_kinds)), (o_stand_takes, .inl (cI, 9, .inl vo_stand_takes)), (o_stand_shareCounts, .inl (cI, 9, .inl vo_stand_shareCounts)), (o_stand_shares, .inl (cI, 27, .inl vo_stand_shares)), (o_table, .inr (4, [.ref o_table_fill, .ref o_table_drunkFrom, .ref o_table_turns, .int vo_table_poured])), (o_table_fill, .inr (0, [.ref o_table_fill_inside, .long vo_table_fill_spilt])), (o_table_fill_inside, .inl (cJ, 9, .inr (.inl vo_table_fill_inside)))] s.heap.size = A at hD ⊢
  have hA : ∀ q : Nat, s.heap.size ≤ q → A q := fun q h => by rw [← hAe]; exact Or.inr h
  have hS : va_S A s.heap s.heap [] := va_S.rf
  have hP : va_P (dC, dI) vwCl [(o, .inr (5, [.ref o_page, .ref o_reader, .ref o_stand, .ref o_trialStand, .ref o_table, .ref o_kept, .ref o_trial, .int vo_imageKept, .int vo_towersRead, .int vo_changesDone])), (o_stand, .inr (3, [.ref o_stand_kinds, .ref o_stand_holds, .ref o_stand_takes, .ref o_stand_shareCounts, .ref o_stand_shares, .int vo_stand_size])), (o_stand_kinds, .inl (cI, 9, .inl vo_stand_kinds)), (o_stand_takes, .inl (cI, 9, .inl vo_stand_takes)), (o_stand_shareCounts, .inl (cI, 9, .inl vo_stand_shareCounts)), (o_stand_shares, .inl (cI, 27, .inl vo_stand_shares)), (o_table, .inr (4, [.ref o_table_fill, .ref o_table_drunkFrom, .ref o_table_turns, .int vo_table_poured])), (o_table_fill, .inr (0, [.ref o_table_fill_inside, .long vo_table_fill_spilt])), (o_table_fill_inside, .inl (cJ, 9, .inr (.inl vo_table_fill_inside)))] s.heap := hP
  have hK : va_K (dC, dI) vwCl (zTy cI cJ cC) s := hK
  have hl := lv_entry ([.ref o, .int p1, .int p2]) (n := 3) (Nat.le_of_ble_eq_true rfl)
  rw [lg_entry_eq]
  generalize (lg_sl ([.ref o, .int p1, .int p2]) ++ List.replicate (3 - (lg_sl ([.ref o, .int p1, .int p2])).length) Slot.unset).toArray = ls at hl ⊢
  have hl : lv_has ls 3 [(0, .ref o), (1, .int p1), (2, .int p2)] := hl
  refine zz_start hP hS (fun Q hQ H locs hP hS => ?_)
  have hwX4 : ∀ w ∈ u_ws RX4 TX4 4, w ∈ wsX5_pour := by decide +kernel
  have hwX5 : ∀ w ∈ u_ws RX5 TX5 10, w ∈ wsX5_pour := by decide +kernel
  have hf_140 := (hts (.fieldLink RX5 140 "PouredTopmost$Table" "poured" "I") (by decide +kernel))
  have hf_26 := (hts (.fieldLink RX5 26 "PouredTopmost" "stand" "LPouredTopmost$Stand;") (by decide +kernel))
  have hf_36 := (hts (.fieldLink RX5 36 "PouredTopmost" "table" "LPouredTopmost$Table;") (by decide +kernel))
  refine lv_aload_n hx hb dX5_pour_0 rfl (lv_at hl 0 rfl) ?_
  refine va_get (D := (dC, dI)) (ci := 5) (v := .ref o_stand) (C := RX5) (T := TX5) (N := 10) hx hb hts hwX5 hown hK hP 0 rfl rfl 2 (by decide) hf_26 (fun _ h9 => h9) rfl dX5_pour_1 ?_
  refine lv_iload_n hx hb dX5_pour_4 rfl (lv_at hl 1 rfl) ?_
  obtain ⟨r1, ev_1⟩ : ∃ x0, (m_X3_has vo_stand_size p1) = x0 := ⟨_, rfl⟩
  replace hT := cut_n ev_1 hT
  refine zz_ci [1] [0, 2, 3, 4, 5, 6, 7, 8] (wr := [(o, .inr (5, [.ref o_page, .ref o_reader, .ref o_stand, .ref o_trialStand, .ref o_table, .ref o_kept, .ref o_trial, .int vo_imageKept, .int vo_towersRead, .int vo_changesDone])), (o_stand_kinds, .inl (cI, 9, .inl vo_stand_kinds)), (o_stand_takes, .inl (cI, 9, .inl vo_stand_takes)), (o_stand_shareCounts, .inl (cI, 9, .inl vo_stand_shareCounts)), (o_stand_shares, .inl (cI, 27, .inl vo_stand_shares)), (o_table, .inr (4, [.ref o_table_fill, .ref o_table_drunkFrom, .ref o_table_turns, .int vo_table_poured])), (o_table_fill, .inr (0, [.ref o_table_fill_inside, .long vo_table_fill_spilt])), (o_table_fill_inside, .inl (cJ, 9, .inr (.inl vo_table_fill_inside)))]) (w1 := [(o_stand, .inr (3, [.ref o_stand_kinds, .ref o_stand_holds, .ref o_stand_takes, .ref o_stand_shareCounts, .ref o_stand_shares, .int vo_stand_size]))]) (va_runV (As := [.int p1]) (rest := []) ⟨hx, hb, hml, hown, hts⟩ (k_X3_has l dC dI cI cJ cC H.size o_stand o_stand_kinds o_stand_holds o_stand_takes o_stand_shareCounts o_stand_shares vo_stand_size p1 r1 ev_1) (cwV 1 hts gX5_pour_X3_has rfl rfl rfl (by decide +kernel) ⟨Nat.le_of_ble_eq_true rfl, Nat.le_of_ble_eq_true rfl⟩) (zz_preV [1] hK hP hD rfl rfl (va_recv hK hP (ci := 3) (q0 := 1) rfl rfl)) rfl rfl hl.1 rfl (lv_room (Nat.le_of_ble_eq_true rfl)) dX5_pour_5 ⟨Nat.zero_le _, Nat.zero_le _⟩) hP hD hS hA rfl rfl rfl (by decide) (fun ok_2 H locs hP hD hS => ?_)
  have hP : va_P (dC, dI) vwCl [(o, .inr (5, [.ref o_page, .ref o_reader, .ref o_stand, .ref o_trialStand, .ref o_table, .ref o_kept, .ref o_trial, .int vo_imageKept, .int vo_towersRead, .int vo_changesDone])), (o_stand_kinds, .inl (cI, 9, .inl vo_stand_kinds)), (o_stand_takes, .inl (cI, 9, .inl vo_stand_takes)), (o_stand_shareCounts, .inl (cI, 9, .inl vo_stand_shareCounts)), (o_stand_shares, .inl (cI, 27, .inl vo_stand_shares)), (o_table, .inr (4, [.ref o_table_fill, .ref o_table_drunkFrom, .ref o_table_turns, .int vo_table_poured])), (o_table_fill, .inr (0, [.ref o_table_fill_inside, .long vo_table_fill_spilt])), (o_table_fill_inside, .inl (cJ, 9, .inr (.inl vo_table_fill_inside))), (o_stand, .inr (3, [.ref o_stand_kinds, .ref o_stand_holds, .ref o_stand_takes, .ref o_stand_shareCounts, .ref o_stand_shares, .int vo_stand_size]))] H := hP
  have hD : va_D A [(o, .inr (5, [.ref o_page, .ref o_reader, .ref o_stand, .ref o_trialStand, .ref o_table, .ref o_kept, .ref o_trial, .int vo_imageKept, .int vo_towersRead, .int vo_changesDone])), (o_stand_kinds, .inl (cI, 9, .inl vo_stand_kinds)), (o_stand_takes, .inl (cI, 9, .inl vo_stand_takes)), (o_stand_shareCounts, .inl (cI, 9, .inl vo_stand_shareCounts)), (o_stand_shares, .inl (cI, 27, .inl vo_stand_shares)), (o_table, .inr (4, [.ref o_table_fill, .ref o_table_drunkFrom, .ref o_table_turns, .int vo_table_poured])), (o_table_fill, .inr (0, [.ref o_table_fill_inside, .long vo_table_fill_spilt])), (o_table_fill_inside, .inl (cJ, 9, .inr (.inl vo_table_fill_inside))), (o_stand, .inr (3, [.ref o_stand_kinds, .ref o_stand_holds, .ref o_stand_takes, .ref o_stand_shareCounts, .ref o_stand_shares, .int vo_stand_size]))] := hD
  obtain ⟨k_3, k_4⟩ := ok_2
  refine lv_if_ne (tgt := 14) hx hb dX5_pour_8 (by decide) (fun c_5 => ?_) (fun c_5 => ?_)
  · replace hT := cutF c_5 hT
    have g_15 := zeqF (rfl : (r1).toInt = _) (by decide : ((0 : Int32)).toInt = 0) c_5
    refine lv_bipush (v := (99 : Int32)) hx hb dX5_pour_14 (by decide) ?_
    refine lv_iload_n hx hb dX5_pour_16 rfl (lv_at hl 2 rfl) ?_
    obtain ⟨r2, ev_6⟩ : ∃ x0, (m_X5_isFromOneTo (99 : Int32) p2) = x0 := ⟨_, rfl⟩
    replace hT := cut_n ev_6 hT
    refine zz_ci [] [0, 1, 2, 3, 4, 5, 6, 7, 8] (wr := [(o, .inr (5, [.ref o_page, .ref o_reader, .ref o_stand, .ref o_trialStand, .ref o_table, .ref o_kept, .ref o_trial, .int vo_imageKept, .int vo_towersRead, .int vo_changesDone])), (o_stand_kinds, .inl (cI, 9, .inl vo_stand_kinds)), (o_stand_takes, .inl (cI, 9, .inl vo_stand_takes)), (o_stand_shareCounts, .inl (cI, 9, .inl vo_stand_shareCounts)), (o_stand_shares, .inl (cI, 27, .inl vo_stand_shares)), (o_table, .inr (4, [.ref o_table_fill, .ref o_table_drunkFrom, .ref o_table_turns, .int vo_table_poured])), (o_table_fill, .inr (0, [.ref o_table_fill_inside, .long vo_table_fill_spilt])), (o_table_fill_inside, .inl (cJ, 9, .inr (.inl vo_table_fill_inside))), (o_stand, .inr (3, [.ref o_stand_kinds, .ref o_stand_holds, .ref o_stand_takes, .ref o_stand_shareCounts, .ref o_stand_shares, .int vo_stand_size]))]) (w1 := []) (va_runS (As := [.int (99 : Int32), .int p2]) (rest := []) ⟨hx, hb, hml, hown, hts⟩ (k_X5_isFromOneTo l dC dI cI cJ cC H.size (99 : Int32) p2 r2 ev_6) (va_cwS 2 hts gX5_pour_X5_isFromOneTo rfl rfl rfl (by decide +kernel) ⟨Nat.le_of_ble_eq_true rfl, Nat.le_of_ble_eq_true rfl⟩) (zz_preS [] hK hP hD rfl rfl) rfl rfl hl.1 rfl (lv_room (Nat.le_of_ble_eq_true rfl)) dX5_pour_17 ⟨Nat.zero_le _, Nat.zero_le _⟩) hP hD hS hA rfl rfl rfl (by decide) (fun ok_7 H locs hP hD hS => ?_)
    have hP : va_P (dC, dI) vwCl [(o, .inr (5, [.ref o_page, .ref o_reader, .ref o_stand, .ref o_trialStand, .ref o_table, .ref o_kept, .ref o_trial, .int vo_imageKept, .int vo_towersRead, .int vo_changesDone])), (o_stand_kinds, .inl (cI, 9, .inl vo_stand_kinds)), (o_stand_takes, .inl (cI, 9, .inl vo_stand_takes)), (o_stand_shareCounts, .inl (cI, 9, .inl vo_stand_shareCounts)), (o_stand_shares, .inl (cI, 27, .inl vo_stand_shares)), (o_table, .inr (4, [.ref o_table_fill, .ref o_table_drunkFrom, .ref o_table_turns, .int vo_table_poured])), (o_table_fill, .inr (0, [.ref o_table_fill_inside, .long vo_table_fill_spilt])), (o_table_fill_inside, .inl (cJ, 9, .inr (.inl vo_table_fill_inside))), (o_stand, .inr (3, [.ref o_stand_kinds, .ref o_stand_holds, .ref o_stand_takes, .ref o_stand_shareCounts, .ref o_stand_shares, .int vo_stand_size]))] H := hP
    have hD : va_D A [(o, .inr (5, [.ref o_page, .ref o_reader, .ref o_stand, .ref o_trialStand, .ref o_table, .ref o_kept, .ref o_trial, .int vo_imageKept, .int vo_towersRead, .int vo_changesDone])), (o_stand_kinds, .inl (cI, 9, .inl vo_stand_kinds)), (o_stand_takes, .inl (cI, 9, .inl vo_stand_takes)), (o_stand_shareCounts, .inl (cI, 9, .inl vo_stand_shareCounts)), (o_stand_shares, .inl (cI, 27, .inl vo_stand_shares)), (o_table, .inr (4, [.ref o_table_fill, .ref o_table_drunkFrom, .ref o_table_turns, .int vo_table_poured])), (o_table_fill, .inr (0, [.ref o_table_fill_inside, .long vo_table_fill_spilt])), (o_table_fill_inside, .inl (cJ, 9, .inr (.inl vo_table_fill_inside))), (o_stand, .inr (3, [.ref o_stand_kinds, .ref o_stand_holds, .ref o_stand_takes, .ref o_stand_shareCounts, .ref o_stand_shares, .int vo_stand_size]))] := hD
    have hz_8 : ((99 : Int32)).toInt = 99 := by decide
    obtain ⟨k_9, k_10⟩ := ok_7
    refine lv_if_ne (tgt := 26) hx hb dX5_pour_20 (by decide) (fun c_11 => ?_) (fun c_11 => ?_)
    · replace hT := cutF c_11 hT
      have g_16 := zeqF (rfl : (r2).toInt = _) (by decide : ((0 : Int32)).toInt = 0) c_11
      refine lv_aload_n hx hb dX5_pour_26 rfl (lv_at hl 0 rfl) ?_
      refine va_get (D := (dC, dI)) (ci := 5) (v := .ref o_table) (C := RX5) (T := TX5) (N := 10) hx hb hts hwX5 hown hK hP 0 rfl rfl 4 (by decide) hf_36 (fun _ h9 => h9) rfl dX5_pour_27 ?_
      refine va_get (D := (dC, dI)) (ci := 4) (v := .int vo_table_poured) (C := RX4) (T := TX4) (N := 4) hx hb hts hwX4 hown hK hP 5 rfl rfl 3 (by decide) hf_140 (fun _ h9 => h9) rfl dX5_pour_30 ?_
      refine lv_iload_n hx hb dX5_pour_33 rfl (lv_at hl 2 rfl) ?_
      refine lv_iadd hx hb dX5_pour_34 ?_
      refine lv_sipush (v := (9999 : Int32)) hx hb dX5_pour_35 (by decide) ?_
      try have e_17 := zaddE (v := (vo_table_poured + p2)) (rfl : (vo_table_poured).toInt = _) (rfl : (p2).toInt = _) rfl (by omega) (by omega)
      refine lv_icmp_le (tgt := 44) hx hb dX5_pour_38 (by decide) (fun c_12 => ?_) (fun c_12 => ?_)
      · replace hT := cutT c_12 hT
        have g_18 := zleT (rfl : ((vo_table_poured + p2)).toInt = _) (by decide : ((9999 : Int32)).toInt = 9999) c_12
        refine lv_aload_n hx hb dX5_pour_44 rfl (lv_at hl 0 rfl) ?_
        refine va_get (D := (dC, dI)) (ci := 5) (v := .ref o_table) (C := RX5) (T := TX5) (N := 10) hx hb hts hwX5 hown hK hP 0 rfl rfl 4 (by decide) hf_36 (fun _ h9 => h9) rfl dX5_pour_45 ?_
        refine lv_aload_n hx hb dX5_pour_48 rfl (lv_at hl 0 rfl) ?_
        refine va_get (D := (dC, dI)) (ci := 5) (v := .ref o_stand) (C := RX5) (T := TX5) (N := 10) hx hb hts hwX5 hown hK hP 0 rfl rfl 2 (by decide) hf_26 (fun _ h9 => h9) rfl dX5_pour_49 ?_
        refine lv_iload_n hx hb dX5_pour_52 rfl (lv_at hl 1 rfl) ?_
        refine lv_iload_n hx hb dX5_pour_53 rfl (lv_at hl 2 rfl) ?_
        obtain ⟨u3, u4, u5, ev_13⟩ : ∃ x0 x1 x2, (m_X4_addTo vo_table_poured vo_table_fill_spilt vo_table_fill_inside vo_stand_size vo_stand_kinds vo_stand_takes vo_stand_shareCounts vo_stand_shares p1 p2) = (x0, x1, x2) := ⟨_, _, _, rfl⟩
        replace hT := cut3_n ev_13 hT
        refine zz_cv [5, 6, 7, 8, 1, 2, 3, 4] [0] (wr := [(o, .inr (5, [.ref o_page, .ref o_reader, .ref o_stand, .ref o_trialStand, .ref o_table, .ref o_kept, .ref o_trial, .int vo_imageKept, .int vo_towersRead, .int vo_changesDone]))]) (w1 := [(o_table, .inr (4, [.ref o_table_fill, .ref o_table_drunkFrom, .ref o_table_turns, .int u3])), (o_table_fill, .inr (0, [.ref o_table_fill_inside, .long u4])), (o_table_fill_inside, .inl (cJ, 9, .inr (.inl u5))), (o_stand, .inr (3, [.ref o_stand_kinds, .ref o_stand_holds, .ref o_stand_takes, .ref o_stand_shareCounts, .ref o_stand_shares, .int vo_stand_size])), (o_stand_kinds, .inl (cI, 9, .inl vo_stand_kinds)), (o_stand_takes, .inl (cI, 9, .inl vo_stand_takes)), (o_stand_shareCounts, .inl (cI, 9, .inl vo_stand_shareCounts)), (o_stand_shares, .inl (cI, 27, .inl vo_stand_shares))]) (va_runV (As := [.ref o_stand, .int p1, .int p2]) (rest := []) ⟨hx, hb, hml, hown, hts⟩ (k_X4_addTo l dC dI cI cJ cC H.size o_table o_table_fill o_table_drunkFrom o_table_turns o_table_fill_inside o_stand o_stand_kinds o_stand_holds o_stand_takes o_stand_shareCounts o_stand_shares vo_table_poured vo_table_fill_spilt vo_table_fill_inside vo_stand_size vo_stand_kinds vo_stand_takes vo_stand_shareCounts vo_stand_shares p1 p2 u3 u4 u5 ev_13 hs0 hs9 hsc) (cwV 3 hts gX5_pour_X4_addTo rfl rfl rfl (by decide +kernel) ⟨Nat.le_of_ble_eq_true rfl, Nat.le_of_ble_eq_true rfl⟩) (zz_preV [5, 6, 7, 8, 1, 2, 3, 4] hK hP hD rfl rfl (va_recv hK hP (ci := 4) (q0 := 5) rfl rfl)) rfl rfl hl.1 rfl (lv_room (Nat.le_of_ble_eq_true rfl)) dX5_pour_54 ⟨Nat.zero_le _, Nat.zero_le _⟩) hP hD hS hA rfl rfl rfl (by decide) (fun ok_14 H locs hP hD hS => ?_)
        have hP : va_P (dC, dI) vwCl [(o, .inr (5, [.ref o_page, .ref o_reader, .ref o_stand, .ref o_trialStand, .ref o_table, .ref o_kept, .ref o_trial, .int vo_imageKept, .int vo_towersRead, .int vo_changesDone])), (o_table, .inr (4, [.ref o_table_fill, .ref o_table_drunkFrom, .ref o_table_turns, .int u3])), (o_table_fill, .inr (0, [.ref o_table_fill_inside, .long u4])), (o_table_fill_inside, .inl (cJ, 9, .inr (.inl u5))), (o_stand, .inr (3, [.ref o_stand_kinds, .ref o_stand_holds, .ref o_stand_takes, .ref o_stand_shareCounts, .ref o_stand_shares, .int vo_stand_size])), (o_stand_kinds, .inl (cI, 9, .inl vo_stand_kinds)), (o_stand_takes, .inl (cI, 9, .inl vo_stand_takes)), (o_stand_shareCounts, .inl (cI, 9, .inl vo_stand_shareCounts)), (o_stand_shares, .inl (cI, 27, .inl vo_stand_shares))] H := hP
        have hD : va_D A [(o, .inr (5, [.ref o_page, .ref o_reader, .ref o_stand, .ref o_trialStand, .ref o_table, .ref o_kept, .ref o_trial, .int vo_imageKept, .int vo_towersRead, .int vo_changesDone])), (o_table, .inr (4, [.ref o_table_fill, .ref o_table_drunkFrom, .ref o_table_turns, .int u3])), (o_table_fill, .inr (0, [.ref o_table_fill_inside, .long u4])), (o_table_fill_inside, .inl (cJ, 9, .inr (.inl u5))), (o_stand, .inr (3, [.ref o_stand_kinds, .ref o_stand_holds, .ref o_stand_takes, .ref o_stand_shareCounts, .ref o_stand_shares, .int vo_stand_size])), (o_stand_kinds, .inl (cI, 9, .inl vo_stand_kinds)), (o_stand_takes, .inl (cI, 9, .inl vo_stand_takes)), (o_stand_shareCounts, .inl (cI, 9, .inl vo_stand_shareCounts)), (o_stand_shares, .inl (cI, 27, .inl vo_stand_shares))] := hD
        refine lv_aload_n hx hb dX5_pour_57 rfl (lv_at hl 0 rfl) ?_
        refine va_get (D := (dC, dI)) (ci := 5) (v := .ref o_table) (C := RX5) (T := TX5) (N := 10) hx hb hts hwX5 hown hK hP 0 rfl rfl 4 (by decide) hf_36 (fun _ h9 => h9) rfl dX5_pour_58 ?_
        refine va_get (D := (dC, dI)) (ci := 4) (v := .int u3) (C := RX4) (T := TX4) (N := 4) hx hb hts hwX4 hown hK hP 1 rfl rfl 3 (by decide) hf_140 (fun _ h9 => h9) rfl dX5_pour_61 ?_
        have hP9 := hP
        have hD9 := hD
        have hS9 := hS
        have hT : (u3, u3, u4, u5) = (r, qo_table_poured, qo_table_fill_spilt, qo_table_fill_inside) := hT
        cases hT
        subst hQ
        exact zz_iret hx hb hr [0, 4, 5, 6, 7, 8, 1, 2, 3] hK hP9 hD9 hS9 rfl rfl trivial hlocks dX5_pour_64
      · replace hT := cutF c_12 hT
        have g_19 := zleF (rfl : ((vo_table_poured + p2)).toInt = _) (by decide : ((9999 : Int32)).toInt = 9999) c_12
        refine lv_bipush (v := (-103 : Int32)) hx hb dX5_pour_41 (by decide) ?_
        have hP9 := hP
        have hD9 := hD
        have hS9 := hS
        have hT : ((-103 : Int32), vo_table_poured, vo_table_fill_spilt, vo_table_fill_inside) = (r, qo_table_poured, qo_table_fill_spilt, qo_table_fill_inside) := hT
        cases hT
        subst hQ
        exact zz_iret hx hb hr [0, 8, 1, 2, 3, 4, 5, 6, 7] hK hP9 hD9 hS9 rfl rfl trivial hlocks dX5_pour_43
    · replace hT := cutT c_11 hT
      have g_20 := zeqT (rfl : (r2).toInt = _) (by decide : ((0 : Int32)).toInt = 0) c_11
      refine lv_bipush (v := (-102 : Int32)) hx hb dX5_pour_23 (by decide) ?_
      have hP9 := hP
      have hD9 := hD
      have hS9 := hS
      have hT : ((-102 : Int32), vo_table_poured, vo_table_fill_spilt, vo_table_fill_inside) = (r, qo_table_poured, qo_table_fill_spilt, qo_table_fill_inside) := hT
      cases hT
      subst hQ
      exact zz_iret hx hb hr [0, 8, 1, 2, 3, 4, 5, 6, 7] hK hP9 hD9 hS9 rfl rfl trivial hlocks dX5_pour_25
  · replace hT := cutT c_5 hT
    have g_21 := zeqT (rfl : (r1).toInt = _) (by decide : ((0 : Int32)).toInt = 0) c_5
    refine lv_bipush (v := (-101 : Int32)) hx hb dX5_pour_11 (by decide) ?_
    have hP9 := hP
    have hD9 := hD
    have hS9 := hS
    have hT : ((-101 : Int32), vo_table_poured, vo_table_fill_spilt, vo_table_fill_inside) = (r, qo_table_poured, qo_table_fill_spilt, qo_table_fill_inside) := hT
    cases hT
    subst hQ
    exact zz_iret hx hb hr [0, 8, 1, 2, 3, 4, 5, 6, 7] hK hP9 hD9 hS9 rfl rfl trivial hlocks dX5_pour_13

def m_X5_in (vo_stand_size : Int32) (vo_table_fill_inside : Nat → Int64) (p1 : Int32) (p2 : Int32) : Int64 :=
 cut (m_X3_has vo_stand_size p1) (fun (r1 : Int32) =>
 if r1 = (0 : Int32) then
  (-101 : Int64)
 else
  cut (m_X5_isPart p2) (fun (r2 : Int32) =>
  if r2 = (0 : Int32) then
   (-102 : Int64)
  else
   cut (m_X5_partOf (vo_table_fill_inside p1.toNatClampNeg) p2) (fun (r3 : Int64) =>
   r3)))
set_option maxHeartbeats 4000000 in
set_option maxRecDepth 100000 in
theorem k_X5_in (l : Launch) (dC : Nat → ClassId) (dI : Nat → Nat → Nat) (cI cJ cC : ClassId) (sz : Nat) (o o_page o_reader o_stand o_trialStand o_table o_kept o_trial o_stand_kinds o_stand_holds o_stand_takes o_stand_shareCounts o_stand_shares o_table_fill o_table_drunkFrom o_table_turns o_table_fill_inside : Nat) (vo_imageKept : Int32) (vo_towersRead : Int32) (vo_changesDone : Int32) (vo_stand_size : Int32) (vo_table_poured : Int32) (vo_table_fill_spilt : Int64) (vo_table_fill_inside : Nat → Int64) (p1 : Int32) (p2 : Int32) (r : Int64) (hT : m_X5_in vo_stand_size vo_table_fill_inside p1 p2 = r) (hs9 : vo_stand_size.toInt ≤ 9) : Met l yX5_in wsX5_in ({ frames := 2, cells := 0, slots := 0, locals := 64 }) (zPc [.ref o, .int p1, .int p2] (dC, dI) (zTy cI cJ cC) [(o, .inr (5, [.ref o_page, .ref o_reader, .ref o_stand, .ref o_trialStand, .ref o_table, .ref o_kept, .ref o_trial, .int vo_imageKept, .int vo_towersRead, .int vo_changesDone])), (o_stand, .inr (3, [.ref o_stand_kinds, .ref o_stand_holds, .ref o_stand_takes, .ref o_stand_shareCounts, .ref o_stand_shares, .int vo_stand_size])), (o_table, .inr (4, [.ref o_table_fill, .ref o_table_drunkFrom, .ref o_table_turns, .int vo_table_poured])), (o_table_fill, .inr (0, [.ref o_table_fill_inside, .long vo_table_fill_spilt])), (o_table_fill_inside, .inl (cJ, 9, .inr (.inl vo_table_fill_inside)))] sz) (zQl r (True) (dC, dI) (zTy cI cJ cC) [(o, .inr (5, [.ref o_page, .ref o_reader, .ref o_stand, .ref o_trialStand, .ref o_table, .ref o_kept, .ref o_trial, .int vo_imageKept, .int vo_towersRead, .int vo_changesDone])), (o_stand, .inr (3, [.ref o_stand_kinds, .ref o_stand_holds, .ref o_stand_takes, .ref o_stand_shareCounts, .ref o_stand_shares, .int vo_stand_size])), (o_table, .inr (4, [.ref o_table_fill, .ref o_table_drunkFrom, .ref o_table_turns, .int vo_table_poured])), (o_table_fill, .inr (0, [.ref o_table_fill_inside, .long vo_table_fill_spilt])), (o_table_fill_inside, .inl (cJ, 9, .inr (.inl vo_table_fill_inside)))] (va_A [(o, .inr (5, [.ref o_page, .ref o_reader, .ref o_stand, .ref o_trialStand, .ref o_table, .ref o_kept, .ref o_trial, .int vo_imageKept, .int vo_towersRead, .int vo_changesDone])), (o_stand, .inr (3, [.ref o_stand_kinds, .ref o_stand_holds, .ref o_stand_takes, .ref o_stand_shareCounts, .ref o_stand_shares, .int vo_stand_size])), (o_table, .inr (4, [.ref o_table_fill, .ref o_table_drunkFrom, .ref o_table_turns, .int vo_table_poured])), (o_table_fill, .inr (0, [.ref o_table_fill_inside, .long vo_table_fill_spilt])), (o_table_fill_inside, .inl (cJ, 9, .inr (.inl vo_table_fill_inside)))] sz)) 0 0 (va_A [(o, .inr (5, [.ref o_page, .ref o_reader, .ref o_stand, .ref o_trialStand, .ref o_table, .ref o_kept, .ref o_trial, .int vo_imageKept, .int vo_towersRead, .int vo_changesDone])), (o_stand, .inr (3, [.ref o_stand_kinds, .ref o_stand_holds, .ref o_stand_takes, .ref o_stand_shareCounts, .ref o_stand_shares, .int vo_stand_size])), (o_table, .inr (4, [.ref o_table_fill, .ref o_table_drunkFrom, .ref o_table_turns, .int vo_table_poured])), (o_table_fill, .inr (0, [.ref o_table_fill_inside, .long vo_table_fill_spilt])), (o_table_fill_inside, .inl (cJ, 9, .inr (.inl vo_table_fill_inside)))] sz) := by
  refine Met.ofW (cc := cX5_in) (maxL := 3) (ret := (some .long)) (by decide) rfl ?_
  intro p e s m args below meth c s₁ B hml hv
  obtain ⟨rfl, hsz, hP, hK, hD0⟩ := hv
  have hx := B.exec
  have hb := B.bytes
  have hr := B.returns
  have hts := atoms_spec (ws := wsX5_in) B.pre
  have hown : s.vm.findClass RX5 = some m.cls := findClass_of_methodNamed B.named
  have hlocks := B.notSynchronized
  subst hsz
  have hD := hD0.self (sz := s.heap.size)
  generalize hAe : va_A [(o, .inr (5, [.ref o_page, .ref o_reader, .ref o_stand, .ref o_trialStand, .ref o_table, .ref o_kept, .ref o_trial, .int vo_imageKept, .int vo_towersRead, .int vo_changesDone])), (o_stand, .inr (3, [.ref o_stand_kinds, .ref o_stand_holds, .ref o_stand_takes, .ref o_stand_shareCounts, .ref o_stand_shares, .int vo_stand_size])), (o_table, .inr (4, [.ref o_table_fill, .ref o_table_drunkFrom, .ref o_table_turns, .int vo_table_poured])), (o_table_fill, .inr (0, [.ref o_table_fill_inside, .long vo_table_fill_spilt])), (o_table_fill_inside, .inl (cJ, 9, .inr (.inl vo_table_fill_inside)))] s.heap.size = A at hD ⊢
  have hA : ∀ q : Nat, s.heap.size ≤ q → A q := fun q h => by rw [← hAe]; exact Or.inr h
  have hS : va_S A s.heap s.heap [] := va_S.rf
  have hP : va_P (dC, dI) vwCl [(o, .inr (5, [.ref o_page, .ref o_reader, .ref o_stand, .ref o_trialStand, .ref o_table, .ref o_kept, .ref o_trial, .int vo_imageKept, .int vo_towersRead, .int vo_changesDone])), (o_stand, .inr (3, [.ref o_stand_kinds, .ref o_stand_holds, .ref o_stand_takes, .ref o_stand_shareCounts, .ref o_stand_shares, .int vo_stand_size])), (o_table, .inr (4, [.ref o_table_fill, .ref o_table_drunkFrom, .ref o_table_turns, .int vo_table_poured])), (o_table_fill, .inr (0, [.ref o_table_fill_inside, .long vo_table_fill_spilt])), (o_table_fill_inside, .inl (cJ, 9, .inr (.inl vo_table_fill_inside)))] s.heap := hP
  have hK : va_K (dC, dI) vwCl (zTy cI cJ cC) s := hK
  have hl := lv_entry ([.ref o, .int p1, .int p2]) (n := 3) (Nat.le_of_ble_eq_true rfl)
  rw [lg_entry_eq]
  generalize (lg_sl ([.ref o, .int p1, .int p2]) ++ List.replicate (3 - (lg_sl ([.ref o, .int p1, .int p2])).length) Slot.unset).toArray = ls at hl ⊢
  have hl : lv_has ls 3 [(0, .ref o), (1, .int p1), (2, .int p2)] := hl
  refine zz_start hP hS (fun Q hQ H locs hP hS => ?_)
  have hwX0 : ∀ w ∈ u_ws RX0 TX0 2, w ∈ wsX5_in := by decide +kernel
  have hwX4 : ∀ w ∈ u_ws RX4 TX4 4, w ∈ wsX5_in := by decide +kernel
  have hwX5 : ∀ w ∈ u_ws RX5 TX5 10, w ∈ wsX5_in := by decide +kernel
  have hc_147 := (hts (.constantLong RX5 147 (-101)) (by decide +kernel))
  have hc_152 := (hts (.constantLong RX5 152 (-102)) (by decide +kernel))
  have hf_126 := (hts (.fieldLink RX5 126 "PouredTopmost$Table" "fill" "LPouredTopmost$Fill;") (by decide +kernel))
  have hf_154 := (hts (.fieldLink RX5 154 "PouredTopmost$Fill" "inside" "[J") (by decide +kernel))
  have hf_26 := (hts (.fieldLink RX5 26 "PouredTopmost" "stand" "LPouredTopmost$Stand;") (by decide +kernel))
  have hf_36 := (hts (.fieldLink RX5 36 "PouredTopmost" "table" "LPouredTopmost$Table;") (by decide +kernel))
  refine lv_aload_n hx hb dX5_in_0 rfl (lv_at hl 0 rfl) ?_
  refine va_get (D := (dC, dI)) (ci := 5) (v := .ref o_stand) (C := RX5) (T := TX5) (N := 10) hx hb hts hwX5 hown hK hP 0 rfl rfl 2 (by decide) hf_26 (fun _ h9 => h9) rfl dX5_in_1 ?_
  refine lv_iload_n hx hb dX5_in_4 rfl (lv_at hl 1 rfl) ?_
  obtain ⟨r1, ev_1⟩ : ∃ x0, (m_X3_has vo_stand_size p1) = x0 := ⟨_, rfl⟩
  replace hT := cut_n ev_1 hT
  refine zz_ci [1] [0, 2, 3, 4] (wr := [(o, .inr (5, [.ref o_page, .ref o_reader, .ref o_stand, .ref o_trialStand, .ref o_table, .ref o_kept, .ref o_trial, .int vo_imageKept, .int vo_towersRead, .int vo_changesDone])), (o_table, .inr (4, [.ref o_table_fill, .ref o_table_drunkFrom, .ref o_table_turns, .int vo_table_poured])), (o_table_fill, .inr (0, [.ref o_table_fill_inside, .long vo_table_fill_spilt])), (o_table_fill_inside, .inl (cJ, 9, .inr (.inl vo_table_fill_inside)))]) (w1 := [(o_stand, .inr (3, [.ref o_stand_kinds, .ref o_stand_holds, .ref o_stand_takes, .ref o_stand_shareCounts, .ref o_stand_shares, .int vo_stand_size]))]) (va_runV (As := [.int p1]) (rest := []) ⟨hx, hb, hml, hown, hts⟩ (k_X3_has l dC dI cI cJ cC H.size o_stand o_stand_kinds o_stand_holds o_stand_takes o_stand_shareCounts o_stand_shares vo_stand_size p1 r1 ev_1) (cwV 1 hts gX5_in_X3_has rfl rfl rfl (by decide +kernel) ⟨Nat.le_of_ble_eq_true rfl, Nat.le_of_ble_eq_true rfl⟩) (zz_preV [1] hK hP hD rfl rfl (va_recv hK hP (ci := 3) (q0 := 1) rfl rfl)) rfl rfl hl.1 rfl (lv_room (Nat.le_of_ble_eq_true rfl)) dX5_in_5 ⟨Nat.zero_le _, Nat.zero_le _⟩) hP hD hS hA rfl rfl rfl (by decide) (fun ok_2 H locs hP hD hS => ?_)
  have hP : va_P (dC, dI) vwCl [(o, .inr (5, [.ref o_page, .ref o_reader, .ref o_stand, .ref o_trialStand, .ref o_table, .ref o_kept, .ref o_trial, .int vo_imageKept, .int vo_towersRead, .int vo_changesDone])), (o_table, .inr (4, [.ref o_table_fill, .ref o_table_drunkFrom, .ref o_table_turns, .int vo_table_poured])), (o_table_fill, .inr (0, [.ref o_table_fill_inside, .long vo_table_fill_spilt])), (o_table_fill_inside, .inl (cJ, 9, .inr (.inl vo_table_fill_inside))), (o_stand, .inr (3, [.ref o_stand_kinds, .ref o_stand_holds, .ref o_stand_takes, .ref o_stand_shareCounts, .ref o_stand_shares, .int vo_stand_size]))] H := hP
  have hD : va_D A [(o, .inr (5, [.ref o_page, .ref o_reader, .ref o_stand, .ref o_trialStand, .ref o_table, .ref o_kept, .ref o_trial, .int vo_imageKept, .int vo_towersRead, .int vo_changesDone])), (o_table, .inr (4, [.ref o_table_fill, .ref o_table_drunkFrom, .ref o_table_turns, .int vo_table_poured])), (o_table_fill, .inr (0, [.ref o_table_fill_inside, .long vo_table_fill_spilt])), (o_table_fill_inside, .inl (cJ, 9, .inr (.inl vo_table_fill_inside))), (o_stand, .inr (3, [.ref o_stand_kinds, .ref o_stand_holds, .ref o_stand_takes, .ref o_stand_shareCounts, .ref o_stand_shares, .int vo_stand_size]))] := hD
  obtain ⟨k_3, k_4⟩ := ok_2
  refine lv_if_ne (tgt := 15) hx hb dX5_in_8 (by decide) (fun c_5 => ?_) (fun c_5 => ?_)
  · replace hT := cutF c_5 hT
    have g_12 := zeqF (rfl : (r1).toInt = _) (by decide : ((0 : Int32)).toInt = 0) c_5
    refine lv_iload_n hx hb dX5_in_15 rfl (lv_at hl 2 rfl) ?_
    obtain ⟨r2, ev_6⟩ : ∃ x0, (m_X5_isPart p2) = x0 := ⟨_, rfl⟩
    replace hT := cut_n ev_6 hT
    refine zz_ci [] [0, 1, 2, 3, 4] (wr := [(o, .inr (5, [.ref o_page, .ref o_reader, .ref o_stand, .ref o_trialStand, .ref o_table, .ref o_kept, .ref o_trial, .int vo_imageKept, .int vo_towersRead, .int vo_changesDone])), (o_table, .inr (4, [.ref o_table_fill, .ref o_table_drunkFrom, .ref o_table_turns, .int vo_table_poured])), (o_table_fill, .inr (0, [.ref o_table_fill_inside, .long vo_table_fill_spilt])), (o_table_fill_inside, .inl (cJ, 9, .inr (.inl vo_table_fill_inside))), (o_stand, .inr (3, [.ref o_stand_kinds, .ref o_stand_holds, .ref o_stand_takes, .ref o_stand_shareCounts, .ref o_stand_shares, .int vo_stand_size]))]) (w1 := []) (va_runS (As := [.int p2]) (rest := []) ⟨hx, hb, hml, hown, hts⟩ (k_X5_isPart l dC dI cI cJ cC H.size p2 r2 ev_6) (va_cwS 1 hts gX5_in_X5_isPart rfl rfl rfl (by decide +kernel) ⟨Nat.le_of_ble_eq_true rfl, Nat.le_of_ble_eq_true rfl⟩) (zz_preS [] hK hP hD rfl rfl) rfl rfl hl.1 rfl (lv_room (Nat.le_of_ble_eq_true rfl)) dX5_in_16 ⟨Nat.zero_le _, Nat.zero_le _⟩) hP hD hS hA rfl rfl rfl (by decide) (fun ok_7 H locs hP hD hS => ?_)
    have hP : va_P (dC, dI) vwCl [(o, .inr (5, [.ref o_page, .ref o_reader, .ref o_stand, .ref o_trialStand, .ref o_table, .ref o_kept, .ref o_trial, .int vo_imageKept, .int vo_towersRead, .int vo_changesDone])), (o_table, .inr (4, [.ref o_table_fill, .ref o_table_drunkFrom, .ref o_table_turns, .int vo_table_poured])), (o_table_fill, .inr (0, [.ref o_table_fill_inside, .long vo_table_fill_spilt])), (o_table_fill_inside, .inl (cJ, 9, .inr (.inl vo_table_fill_inside))), (o_stand, .inr (3, [.ref o_stand_kinds, .ref o_stand_holds, .ref o_stand_takes, .ref o_stand_shareCounts, .ref o_stand_shares, .int vo_stand_size]))] H := hP
    have hD : va_D A [(o, .inr (5, [.ref o_page, .ref o_reader, .ref o_stand, .ref o_trialStand, .ref o_table, .ref o_kept, .ref o_trial, .int vo_imageKept, .int vo_towersRead, .int vo_changesDone])), (o_table, .inr (4, [.ref o_table_fill, .ref o_table_drunkFrom, .ref o_table_turns, .int vo_table_poured])), (o_table_fill, .inr (0, [.ref o_table_fill_inside, .long vo_table_fill_spilt])), (o_table_fill_inside, .inl (cJ, 9, .inr (.inl vo_table_fill_inside))), (o_stand, .inr (3, [.ref o_stand_kinds, .ref o_stand_holds, .ref o_stand_takes, .ref o_stand_shareCounts, .ref o_stand_shares, .int vo_stand_size]))] := hD
    refine lv_if_ne (tgt := 26) hx hb dX5_in_19 (by decide) (fun c_8 => ?_) (fun c_8 => ?_)
    · replace hT := cutF c_8 hT
      have g_13 := zeqF (rfl : (r2).toInt = _) (by decide : ((0 : Int32)).toInt = 0) c_8
      refine lv_aload_n hx hb dX5_in_26 rfl (lv_at hl 0 rfl) ?_
      refine va_get (D := (dC, dI)) (ci := 5) (v := .ref o_table) (C := RX5) (T := TX5) (N := 10) hx hb hts hwX5 hown hK hP 0 rfl rfl 4 (by decide) hf_36 (fun _ h9 => h9) rfl dX5_in_27 ?_
      refine va_get (D := (dC, dI)) (ci := 4) (v := .ref o_table_fill) (C := RX4) (T := TX4) (N := 4) hx hb hts hwX4 hown hK hP 1 rfl rfl 0 (by decide) hf_126 (fun _ h9 => h9) rfl dX5_in_30 ?_
      refine va_get (D := (dC, dI)) (ci := 0) (v := .ref o_table_fill_inside) (C := RX0) (T := TX0) (N := 2) hx hb hts hwX0 hown hK hP 2 rfl rfl 0 (by decide) hf_154 (fun _ h9 => h9) rfl dX5_in_33 ?_
      refine lv_iload_n hx hb dX5_in_36 rfl (lv_at hl 1 rfl) ?_
      have h_9 : vp_in p1 9 := zin (by omega) (by omega)
      refine va_lald hx hb hK hP 3 1 rfl rfl h_9 dX5_in_37 ?_
      refine lv_iload_n hx hb dX5_in_38 rfl (lv_at hl 2 rfl) ?_
      obtain ⟨r3, ev_10⟩ : ∃ x0, (m_X5_partOf (vo_table_fill_inside p1.toNatClampNeg) p2) = x0 := ⟨_, rfl⟩
      replace hT := cut_n ev_10 hT
      refine zz_cl [] [0, 1, 2, 3, 4] (wr := [(o, .inr (5, [.ref o_page, .ref o_reader, .ref o_stand, .ref o_trialStand, .ref o_table, .ref o_kept, .ref o_trial, .int vo_imageKept, .int vo_towersRead, .int vo_changesDone])), (o_table, .inr (4, [.ref o_table_fill, .ref o_table_drunkFrom, .ref o_table_turns, .int vo_table_poured])), (o_table_fill, .inr (0, [.ref o_table_fill_inside, .long vo_table_fill_spilt])), (o_table_fill_inside, .inl (cJ, 9, .inr (.inl vo_table_fill_inside))), (o_stand, .inr (3, [.ref o_stand_kinds, .ref o_stand_holds, .ref o_stand_takes, .ref o_stand_shareCounts, .ref o_stand_shares, .int vo_stand_size]))]) (w1 := []) (va_runS (As := [.long (vo_table_fill_inside p1.toNatClampNeg), .int p2]) (rest := []) ⟨hx, hb, hml, hown, hts⟩ (k_X5_partOf l dC dI cI cJ cC H.size (vo_table_fill_inside p1.toNatClampNeg) p2 r3 ev_10) (va_cwS 2 hts gX5_in_X5_partOf rfl rfl rfl (by decide +kernel) ⟨Nat.le_of_ble_eq_true rfl, Nat.le_of_ble_eq_true rfl⟩) (zz_preS [] hK hP hD rfl rfl) rfl rfl hl.1 rfl (lv_room (Nat.le_of_ble_eq_true rfl)) dX5_in_39 ⟨Nat.zero_le _, Nat.zero_le _⟩) hP hD hS hA rfl rfl rfl (by decide) (fun ok_11 H locs hP hD hS => ?_)
      have hP : va_P (dC, dI) vwCl [(o, .inr (5, [.ref o_page, .ref o_reader, .ref o_stand, .ref o_trialStand, .ref o_table, .ref o_kept, .ref o_trial, .int vo_imageKept, .int vo_towersRead, .int vo_changesDone])), (o_table, .inr (4, [.ref o_table_fill, .ref o_table_drunkFrom, .ref o_table_turns, .int vo_table_poured])), (o_table_fill, .inr (0, [.ref o_table_fill_inside, .long vo_table_fill_spilt])), (o_table_fill_inside, .inl (cJ, 9, .inr (.inl vo_table_fill_inside))), (o_stand, .inr (3, [.ref o_stand_kinds, .ref o_stand_holds, .ref o_stand_takes, .ref o_stand_shareCounts, .ref o_stand_shares, .int vo_stand_size]))] H := hP
      have hD : va_D A [(o, .inr (5, [.ref o_page, .ref o_reader, .ref o_stand, .ref o_trialStand, .ref o_table, .ref o_kept, .ref o_trial, .int vo_imageKept, .int vo_towersRead, .int vo_changesDone])), (o_table, .inr (4, [.ref o_table_fill, .ref o_table_drunkFrom, .ref o_table_turns, .int vo_table_poured])), (o_table_fill, .inr (0, [.ref o_table_fill_inside, .long vo_table_fill_spilt])), (o_table_fill_inside, .inl (cJ, 9, .inr (.inl vo_table_fill_inside))), (o_stand, .inr (3, [.ref o_stand_kinds, .ref o_stand_holds, .ref o_stand_takes, .ref o_stand_shareCounts, .ref o_stand_shares, .int vo_stand_size]))] := hD
      have hP9 := hP
      have hD9 := hD
      have hS9 := hS
      have hT : r3 = r := hT
      subst hT
      subst hQ
      exact zz_lret hx hb hr [0, 4, 1, 2, 3] hK hP9 hD9 hS9 rfl rfl trivial hlocks dX5_in_42
    · replace hT := cutT c_8 hT
      have g_14 := zeqT (rfl : (r2).toInt = _) (by decide : ((0 : Int32)).toInt = 0) c_8
      refine lv_ldc2 (v := (-102 : Int64)) hx hb hown hc_152 dX5_in_22 ?_
      have hP9 := hP
      have hD9 := hD
      have hS9 := hS
      have hT : (-102 : Int64) = r := hT
      subst hT
      subst hQ
      exact zz_lret hx hb hr [0, 4, 1, 2, 3] hK hP9 hD9 hS9 rfl rfl trivial hlocks dX5_in_25
  · replace hT := cutT c_5 hT
    have g_15 := zeqT (rfl : (r1).toInt = _) (by decide : ((0 : Int32)).toInt = 0) c_5
    refine lv_ldc2 (v := (-101 : Int64)) hx hb hown hc_147 dX5_in_11 ?_
    have hP9 := hP
    have hD9 := hD
    have hS9 := hS
    have hT : (-101 : Int64) = r := hT
    subst hT
    subst hQ
    exact zz_lret hx hb hr [0, 4, 1, 2, 3] hK hP9 hD9 hS9 rfl rfl trivial hlocks dX5_in_14

def m_X5_all (vo_table_fill_spilt : Int64) (vo_table_fill_inside : Nat → Int64) (p1 : Int32) (p2 : Int32) : Int64 :=
 if p1 < (0 : Int32) then
  (-102 : Int64)
 else
  if (1 : Int32) < p1 then
   (-102 : Int64)
  else
   cut (m_X5_isPart p2) (fun (r1 : Int32) =>
   if r1 = (0 : Int32) then
    (-102 : Int64)
   else
    cut (
     if p1 = (0 : Int32) then
      vo_table_fill_spilt
     else
      cut (m_X0_together vo_table_fill_inside) (fun (r3 : Int64) =>
      r3)) (fun (j2 : Int64) =>
    cut (m_X5_partOf j2 p2) (fun (r4 : Int64) =>
    r4)))
set_option maxHeartbeats 4000000 in
set_option maxRecDepth 100000 in
theorem k_X5_all (l : Launch) (dC : Nat → ClassId) (dI : Nat → Nat → Nat) (cI cJ cC : ClassId) (sz : Nat) (o o_page o_reader o_stand o_trialStand o_table o_kept o_trial o_table_fill o_table_drunkFrom o_table_turns o_table_fill_inside : Nat) (vo_imageKept : Int32) (vo_towersRead : Int32) (vo_changesDone : Int32) (vo_table_poured : Int32) (vo_table_fill_spilt : Int64) (vo_table_fill_inside : Nat → Int64) (p1 : Int32) (p2 : Int32) (r : Int64) (hT : m_X5_all vo_table_fill_spilt vo_table_fill_inside p1 p2 = r) : Met l yX5_all wsX5_all ({ frames := 2, cells := 0, slots := 0, locals := 64 }) (zPc [.ref o, .int p1, .int p2] (dC, dI) (zTy cI cJ cC) [(o, .inr (5, [.ref o_page, .ref o_reader, .ref o_stand, .ref o_trialStand, .ref o_table, .ref o_kept, .ref o_trial, .int vo_imageKept, .int vo_towersRead, .int vo_changesDone])), (o_table, .inr (4, [.ref o_table_fill, .ref o_table_drunkFrom, .ref o_table_turns, .int vo_table_poured])), (o_table_fill, .inr (0, [.ref o_table_fill_inside, .long vo_table_fill_spilt])), (o_table_fill_inside, .inl (cJ, 9, .inr (.inl vo_table_fill_inside)))] sz) (zQl r (True) (dC, dI) (zTy cI cJ cC) [(o, .inr (5, [.ref o_page, .ref o_reader, .ref o_stand, .ref o_trialStand, .ref o_table, .ref o_kept, .ref o_trial, .int vo_imageKept, .int vo_towersRead, .int vo_changesDone])), (o_table, .inr (4, [.ref o_table_fill, .ref o_table_drunkFrom, .ref o_table_turns, .int vo_table_poured])), (o_table_fill, .inr (0, [.ref o_table_fill_inside, .long vo_table_fill_spilt])), (o_table_fill_inside, .inl (cJ, 9, .inr (.inl vo_table_fill_inside)))] (va_A [(o, .inr (5, [.ref o_page, .ref o_reader, .ref o_stand, .ref o_trialStand, .ref o_table, .ref o_kept, .ref o_trial, .int vo_imageKept, .int vo_towersRead, .int vo_changesDone])), (o_table, .inr (4, [.ref o_table_fill, .ref o_table_drunkFrom, .ref o_table_turns, .int vo_table_poured])), (o_table_fill, .inr (0, [.ref o_table_fill_inside, .long vo_table_fill_spilt])), (o_table_fill_inside, .inl (cJ, 9, .inr (.inl vo_table_fill_inside)))] sz)) 0 0 (va_A [(o, .inr (5, [.ref o_page, .ref o_reader, .ref o_stand, .ref o_trialStand, .ref o_table, .ref o_kept, .ref o_trial, .int vo_imageKept, .int vo_towersRead, .int vo_changesDone])), (o_table, .inr (4, [.ref o_table_fill, .ref o_table_drunkFrom, .ref o_table_turns, .int vo_table_poured])), (o_table_fill, .inr (0, [.ref o_table_fill_inside, .long vo_table_fill_spilt])), (o_table_fill_inside, .inl (cJ, 9, .inr (.inl vo_table_fill_inside)))] sz) := by
  refine Met.ofW (cc := cX5_all) (maxL := 3) (ret := (some .long)) (by decide) rfl ?_
  intro p e s m args below meth c s₁ B hml hv
  obtain ⟨rfl, hsz, hP, hK, hD0⟩ := hv
  have hx := B.exec
  have hb := B.bytes
  have hr := B.returns
  have hts := atoms_spec (ws := wsX5_all) B.pre
  have hown : s.vm.findClass RX5 = some m.cls := findClass_of_methodNamed B.named
  have hlocks := B.notSynchronized
  subst hsz
  have hD := hD0.self (sz := s.heap.size)
  generalize hAe : va_A [(o, .inr (5, [.ref o_page, .ref o_reader, .ref o_stand, .ref o_trialStand, .ref o_table, .ref o_kept, .ref o_trial, .int vo_imageKept, .int vo_towersRead, .int vo_changesDone])), (o_table, .inr (4, [.ref o_table_fill, .ref o_table_drunkFrom, .ref o_table_turns, .int vo_table_poured])), (o_table_fill, .inr (0, [.ref o_table_fill_inside, .long vo_table_fill_spilt])), (o_table_fill_inside, .inl (cJ, 9, .inr (.inl vo_table_fill_inside)))] s.heap.size = A at hD ⊢
  have hA : ∀ q : Nat, s.heap.size ≤ q → A q := fun q h => by rw [← hAe]; exact Or.inr h
  have hS : va_S A s.heap s.heap [] := va_S.rf
  have hP : va_P (dC, dI) vwCl [(o, .inr (5, [.ref o_page, .ref o_reader, .ref o_stand, .ref o_trialStand, .ref o_table, .ref o_kept, .ref o_trial, .int vo_imageKept, .int vo_towersRead, .int vo_changesDone])), (o_table, .inr (4, [.ref o_table_fill, .ref o_table_drunkFrom, .ref o_table_turns, .int vo_table_poured])), (o_table_fill, .inr (0, [.ref o_table_fill_inside, .long vo_table_fill_spilt])), (o_table_fill_inside, .inl (cJ, 9, .inr (.inl vo_table_fill_inside)))] s.heap := hP
  have hK : va_K (dC, dI) vwCl (zTy cI cJ cC) s := hK
  have hl := lv_entry ([.ref o, .int p1, .int p2]) (n := 3) (Nat.le_of_ble_eq_true rfl)
  rw [lg_entry_eq]
  generalize (lg_sl ([.ref o, .int p1, .int p2]) ++ List.replicate (3 - (lg_sl ([.ref o, .int p1, .int p2])).length) Slot.unset).toArray = ls at hl ⊢
  have hl : lv_has ls 3 [(0, .ref o), (1, .int p1), (2, .int p2)] := hl
  refine zz_start hP hS (fun Q hQ H locs hP hS => ?_)
  have hwX0 : ∀ w ∈ u_ws RX0 TX0 2, w ∈ wsX5_all := by decide +kernel
  have hwX4 : ∀ w ∈ u_ws RX4 TX4 4, w ∈ wsX5_all := by decide +kernel
  have hwX5 : ∀ w ∈ u_ws RX5 TX5 10, w ∈ wsX5_all := by decide +kernel
  have hc_152 := (hts (.constantLong RX5 152 (-102)) (by decide +kernel))
  have hf_126 := (hts (.fieldLink RX5 126 "PouredTopmost$Table" "fill" "LPouredTopmost$Fill;") (by decide +kernel))
  have hf_162 := (hts (.fieldLink RX5 162 "PouredTopmost$Fill" "spilt" "J") (by decide +kernel))
  have hf_36 := (hts (.fieldLink RX5 36 "PouredTopmost" "table" "LPouredTopmost$Table;") (by decide +kernel))
  refine lv_iload_n hx hb dX5_all_0 rfl (lv_at hl 1 rfl) ?_
  refine lv_if_lt (tgt := 16) hx hb dX5_all_1 (by decide) (fun c_1 => ?_) (fun c_1 => ?_)
  · replace hT := cutT c_1 hT
    have g_11 := zltT (rfl : (p1).toInt = _) (by decide : ((0 : Int32)).toInt = 0) c_1
    refine lv_ldc2 (v := (-102 : Int64)) hx hb hown hc_152 dX5_all_16 ?_
    have hP9 := hP
    have hD9 := hD
    have hS9 := hS
    have hT : (-102 : Int64) = r := hT
    subst hT
    subst hQ
    exact zz_lret hx hb hr [0, 1, 2, 3] hK hP9 hD9 hS9 rfl rfl trivial hlocks dX5_all_19
  · replace hT := cutF c_1 hT
    have g_12 := zltF (rfl : (p1).toInt = _) (by decide : ((0 : Int32)).toInt = 0) c_1
    refine lv_iload_n hx hb dX5_all_4 rfl (lv_at hl 1 rfl) ?_
    refine lv_iconst (v := (1 : Int32)) hx hb dX5_all_5 (by decide) ?_
    refine lv_icmp_gt (tgt := 16) hx hb dX5_all_6 (by decide) (fun c_2 => ?_) (fun c_2 => ?_)
    · replace hT := cutT c_2 hT
      have g_13 := zltT (by decide : ((1 : Int32)).toInt = 1) (rfl : (p1).toInt = _) c_2
      refine lv_ldc2 (v := (-102 : Int64)) hx hb hown hc_152 dX5_all_16 ?_
      have hP9 := hP
      have hD9 := hD
      have hS9 := hS
      have hT : (-102 : Int64) = r := hT
      subst hT
      subst hQ
      exact zz_lret hx hb hr [0, 1, 2, 3] hK hP9 hD9 hS9 rfl rfl trivial hlocks dX5_all_19
    · replace hT := cutF c_2 hT
      have g_14 := zltF (by decide : ((1 : Int32)).toInt = 1) (rfl : (p1).toInt = _) c_2
      refine lv_iload_n hx hb dX5_all_9 rfl (lv_at hl 2 rfl) ?_
      obtain ⟨r1, ev_3⟩ : ∃ x0, (m_X5_isPart p2) = x0 := ⟨_, rfl⟩
      replace hT := cut_n ev_3 hT
      refine zz_ci [] [0, 1, 2, 3] (wr := [(o, .inr (5, [.ref o_page, .ref o_reader, .ref o_stand, .ref o_trialStand, .ref o_table, .ref o_kept, .ref o_trial, .int vo_imageKept, .int vo_towersRead, .int vo_changesDone])), (o_table, .inr (4, [.ref o_table_fill, .ref o_table_drunkFrom, .ref o_table_turns, .int vo_table_poured])), (o_table_fill, .inr (0, [.ref o_table_fill_inside, .long vo_table_fill_spilt])), (o_table_fill_inside, .inl (cJ, 9, .inr (.inl vo_table_fill_inside)))]) (w1 := []) (va_runS (As := [.int p2]) (rest := []) ⟨hx, hb, hml, hown, hts⟩ (k_X5_isPart l dC dI cI cJ cC H.size p2 r1 ev_3) (va_cwS 1 hts gX5_all_X5_isPart rfl rfl rfl (by decide +kernel) ⟨Nat.le_of_ble_eq_true rfl, Nat.le_of_ble_eq_true rfl⟩) (zz_preS [] hK hP hD rfl rfl) rfl rfl hl.1 rfl (lv_room (Nat.le_of_ble_eq_true rfl)) dX5_all_10 ⟨Nat.zero_le _, Nat.zero_le _⟩) hP hD hS hA rfl rfl rfl (by decide) (fun ok_4 H locs hP hD hS => ?_)
      have hP : va_P (dC, dI) vwCl [(o, .inr (5, [.ref o_page, .ref o_reader, .ref o_stand, .ref o_trialStand, .ref o_table, .ref o_kept, .ref o_trial, .int vo_imageKept, .int vo_towersRead, .int vo_changesDone])), (o_table, .inr (4, [.ref o_table_fill, .ref o_table_drunkFrom, .ref o_table_turns, .int vo_table_poured])), (o_table_fill, .inr (0, [.ref o_table_fill_inside, .long vo_table_fill_spilt])), (o_table_fill_inside, .inl (cJ, 9, .inr (.inl vo_table_fill_inside)))] H := hP
      have hD : va_D A [(o, .inr (5, [.ref o_page, .ref o_reader, .ref o_stand, .ref o_trialStand, .ref o_table, .ref o_kept, .ref o_trial, .int vo_imageKept, .int vo_towersRead, .int vo_changesDone])), (o_table, .inr (4, [.ref o_table_fill, .ref o_table_drunkFrom, .ref o_table_turns, .int vo_table_poured])), (o_table_fill, .inr (0, [.ref o_table_fill_inside, .long vo_table_fill_spilt])), (o_table_fill_inside, .inl (cJ, 9, .inr (.inl vo_table_fill_inside)))] := hD
      refine lv_if_ne (tgt := 20) hx hb dX5_all_13 (by decide) (fun c_5 => ?_) (fun c_5 => ?_)
      · replace hT := cutF c_5 hT
        have g_15 := zeqF (rfl : (r1).toInt = _) (by decide : ((0 : Int32)).toInt = 0) c_5
        refine lv_iload_n hx hb dX5_all_20 rfl (lv_at hl 1 rfl) ?_
        refine zz_join1 hT 47 (fun v => [.long v]) (fun v H locs ls => va_P (dC, dI) vwCl [(o, .inr (5, [.ref o_page, .ref o_reader, .ref o_stand, .ref o_trialStand, .ref o_table, .ref o_kept, .ref o_trial, .int vo_imageKept, .int vo_towersRead, .int vo_changesDone])), (o_table, .inr (4, [.ref o_table_fill, .ref o_table_drunkFrom, .ref o_table_turns, .int vo_table_poured])), (o_table_fill, .inr (0, [.ref o_table_fill_inside, .long vo_table_fill_spilt])), (o_table_fill_inside, .inl (cJ, 9, .inr (.inl vo_table_fill_inside)))] H ∧ va_D A [(o, .inr (5, [.ref o_page, .ref o_reader, .ref o_stand, .ref o_trialStand, .ref o_table, .ref o_kept, .ref o_trial, .int vo_imageKept, .int vo_towersRead, .int vo_changesDone])), (o_table, .inr (4, [.ref o_table_fill, .ref o_table_drunkFrom, .ref o_table_turns, .int vo_table_poured])), (o_table_fill, .inr (0, [.ref o_table_fill_inside, .long vo_table_fill_spilt])), (o_table_fill_inside, .inl (cJ, 9, .inr (.inl vo_table_fill_inside)))] ∧ va_S A s.heap H locs ∧ lv_has ls 3 [(2, .int p2)]) ?_ ?_
        · rintro j2 ej_16 H locs ls ⟨hP, hD, hS, hl⟩
          replace hT := cut_n ej_16 hT
          have hP : va_P (dC, dI) vwCl [(o, .inr (5, [.ref o_page, .ref o_reader, .ref o_stand, .ref o_trialStand, .ref o_table, .ref o_kept, .ref o_trial, .int vo_imageKept, .int vo_towersRead, .int vo_changesDone])), (o_table, .inr (4, [.ref o_table_fill, .ref o_table_drunkFrom, .ref o_table_turns, .int vo_table_poured])), (o_table_fill, .inr (0, [.ref o_table_fill_inside, .long vo_table_fill_spilt])), (o_table_fill_inside, .inl (cJ, 9, .inr (.inl vo_table_fill_inside)))] H := hP
          have hD : va_D A [(o, .inr (5, [.ref o_page, .ref o_reader, .ref o_stand, .ref o_trialStand, .ref o_table, .ref o_kept, .ref o_trial, .int vo_imageKept, .int vo_towersRead, .int vo_changesDone])), (o_table, .inr (4, [.ref o_table_fill, .ref o_table_drunkFrom, .ref o_table_turns, .int vo_table_poured])), (o_table_fill, .inr (0, [.ref o_table_fill_inside, .long vo_table_fill_spilt])), (o_table_fill_inside, .inl (cJ, 9, .inr (.inl vo_table_fill_inside)))] := hD
          have hl : lv_has ls 3 [(2, .int p2)] := hl
          refine lv_iload_n hx hb dX5_all_47 rfl (lv_at hl 0 rfl) ?_
          obtain ⟨r4, ev_9⟩ : ∃ x0, (m_X5_partOf j2 p2) = x0 := ⟨_, rfl⟩
          replace hT := cut_n ev_9 hT
          refine zz_cl [] [0, 1, 2, 3] (wr := [(o, .inr (5, [.ref o_page, .ref o_reader, .ref o_stand, .ref o_trialStand, .ref o_table, .ref o_kept, .ref o_trial, .int vo_imageKept, .int vo_towersRead, .int vo_changesDone])), (o_table, .inr (4, [.ref o_table_fill, .ref o_table_drunkFrom, .ref o_table_turns, .int vo_table_poured])), (o_table_fill, .inr (0, [.ref o_table_fill_inside, .long vo_table_fill_spilt])), (o_table_fill_inside, .inl (cJ, 9, .inr (.inl vo_table_fill_inside)))]) (w1 := []) (va_runS (As := [.long j2, .int p2]) (rest := []) ⟨hx, hb, hml, hown, hts⟩ (k_X5_partOf l dC dI cI cJ cC H.size j2 p2 r4 ev_9) (va_cwS 2 hts gX5_all_X5_partOf rfl rfl rfl (by decide +kernel) ⟨Nat.le_of_ble_eq_true rfl, Nat.le_of_ble_eq_true rfl⟩) (zz_preS [] hK hP hD rfl rfl) rfl rfl hl.1 rfl (lv_room (Nat.le_of_ble_eq_true rfl)) dX5_all_48 ⟨Nat.zero_le _, Nat.zero_le _⟩) hP hD hS hA rfl rfl rfl (by decide) (fun ok_10 H locs hP hD hS => ?_)
          have hP : va_P (dC, dI) vwCl [(o, .inr (5, [.ref o_page, .ref o_reader, .ref o_stand, .ref o_trialStand, .ref o_table, .ref o_kept, .ref o_trial, .int vo_imageKept, .int vo_towersRead, .int vo_changesDone])), (o_table, .inr (4, [.ref o_table_fill, .ref o_table_drunkFrom, .ref o_table_turns, .int vo_table_poured])), (o_table_fill, .inr (0, [.ref o_table_fill_inside, .long vo_table_fill_spilt])), (o_table_fill_inside, .inl (cJ, 9, .inr (.inl vo_table_fill_inside)))] H := hP
          have hD : va_D A [(o, .inr (5, [.ref o_page, .ref o_reader, .ref o_stand, .ref o_trialStand, .ref o_table, .ref o_kept, .ref o_trial, .int vo_imageKept, .int vo_towersRead, .int vo_changesDone])), (o_table, .inr (4, [.ref o_table_fill, .ref o_table_drunkFrom, .ref o_table_turns, .int vo_table_poured])), (o_table_fill, .inr (0, [.ref o_table_fill_inside, .long vo_table_fill_spilt])), (o_table_fill_inside, .inl (cJ, 9, .inr (.inl vo_table_fill_inside)))] := hD
          have hP9 := hP
          have hD9 := hD
          have hS9 := hS
          have hT : r4 = r := hT
          subst hT
          subst hQ
          exact zz_lret hx hb hr [0, 1, 2, 3] hK hP9 hD9 hS9 rfl rfl trivial hlocks dX5_all_51
        · intro xv hT hM
          refine lv_if_ne (tgt := 37) hx hb dX5_all_21 (by decide) (fun c_6 => ?_) (fun c_6 => ?_)
          · replace hT := cutF c_6 hT
            have g_17 := zeqF (rfl : (p1).toInt = _) (by decide : ((0 : Int32)).toInt = 0) c_6
            refine lv_aload_n hx hb dX5_all_37 rfl (lv_at hl 0 rfl) ?_
            refine va_get (D := (dC, dI)) (ci := 5) (v := .ref o_table) (C := RX5) (T := TX5) (N := 10) hx hb hts hwX5 hown hK hP 0 rfl rfl 4 (by decide) hf_36 (fun _ h9 => h9) rfl dX5_all_38 ?_
            refine va_get (D := (dC, dI)) (ci := 4) (v := .ref o_table_fill) (C := RX4) (T := TX4) (N := 4) hx hb hts hwX4 hown hK hP 1 rfl rfl 0 (by decide) hf_126 (fun _ h9 => h9) rfl dX5_all_41 ?_
            obtain ⟨r3, ev_7⟩ : ∃ x0, (m_X0_together vo_table_fill_inside) = x0 := ⟨_, rfl⟩
            replace hT := cut_n ev_7 hT
            refine zz_cl [2, 3] [0, 1] (wr := [(o, .inr (5, [.ref o_page, .ref o_reader, .ref o_stand, .ref o_trialStand, .ref o_table, .ref o_kept, .ref o_trial, .int vo_imageKept, .int vo_towersRead, .int vo_changesDone])), (o_table, .inr (4, [.ref o_table_fill, .ref o_table_drunkFrom, .ref o_table_turns, .int vo_table_poured]))]) (w1 := [(o_table_fill, .inr (0, [.ref o_table_fill_inside, .long vo_table_fill_spilt])), (o_table_fill_inside, .inl (cJ, 9, .inr (.inl vo_table_fill_inside)))]) (va_runV (As := []) (rest := []) ⟨hx, hb, hml, hown, hts⟩ (k_X0_together l dC dI cI cJ cC H.size o_table_fill o_table_fill_inside vo_table_fill_spilt vo_table_fill_inside r3 ev_7) (cwV 0 hts gX5_all_X0_together rfl rfl rfl (by decide +kernel) ⟨Nat.le_of_ble_eq_true rfl, Nat.le_of_ble_eq_true rfl⟩) (zz_preV [2, 3] hK hP hD rfl rfl (va_recv hK hP (ci := 0) (q0 := 2) rfl rfl)) rfl rfl hl.1 rfl (lv_room (Nat.le_of_ble_eq_true rfl)) dX5_all_44 ⟨Nat.zero_le _, Nat.zero_le _⟩) hP hD hS hA rfl rfl rfl (by decide) (fun ok_8 H locs hP hD hS => ?_)
            have hP : va_P (dC, dI) vwCl [(o, .inr (5, [.ref o_page, .ref o_reader, .ref o_stand, .ref o_trialStand, .ref o_table, .ref o_kept, .ref o_trial, .int vo_imageKept, .int vo_towersRead, .int vo_changesDone])), (o_table, .inr (4, [.ref o_table_fill, .ref o_table_drunkFrom, .ref o_table_turns, .int vo_table_poured])), (o_table_fill, .inr (0, [.ref o_table_fill_inside, .long vo_table_fill_spilt])), (o_table_fill_inside, .inl (cJ, 9, .inr (.inl vo_table_fill_inside)))] H := hP
            have hD : va_D A [(o, .inr (5, [.ref o_page, .ref o_reader, .ref o_stand, .ref o_trialStand, .ref o_table, .ref o_kept, .ref o_trial, .int vo_imageKept, .int vo_towersRead, .int vo_changesDone])), (o_table, .inr (4, [.ref o_table_fill, .ref o_table_drunkFrom, .ref o_table_turns, .int vo_table_poured])), (o_table_fill, .inr (0, [.ref o_table_fill_inside, .long vo_table_fill_spilt])), (o_table_fill_inside, .inl (cJ, 9, .inr (.inl vo_table_fill_inside)))] := hD
            have hP9 := hP
            have hD9 := hD
            have hS9 := hS
            have hl9 := hl
            have hM9 := hM
            have hT : r3 = xv := hT
            subst hT
            exact hM9 _ _ _ ⟨hP9.sub [0, 1, 2, 3] rfl, hD9.sub [0, 1, 2, 3] rfl rfl, hS9, lv_sub hl9 [2] rfl⟩
          · replace hT := cutT c_6 hT
            have g_18 := zeqT (rfl : (p1).toInt = _) (by decide : ((0 : Int32)).toInt = 0) c_6
            refine lv_aload_n hx hb dX5_all_24 rfl (lv_at hl 0 rfl) ?_
            refine va_get (D := (dC, dI)) (ci := 5) (v := .ref o_table) (C := RX5) (T := TX5) (N := 10) hx hb hts hwX5 hown hK hP 0 rfl rfl 4 (by decide) hf_36 (fun _ h9 => h9) rfl dX5_all_25 ?_
            refine va_get (D := (dC, dI)) (ci := 4) (v := .ref o_table_fill) (C := RX4) (T := TX4) (N := 4) hx hb hts hwX4 hown hK hP 1 rfl rfl 0 (by decide) hf_126 (fun _ h9 => h9) rfl dX5_all_28 ?_
            refine va_get (D := (dC, dI)) (ci := 0) (v := .long vo_table_fill_spilt) (C := RX0) (T := TX0) (N := 2) hx hb hts hwX0 hown hK hP 2 rfl rfl 1 (by decide) hf_162 (fun _ h9 => h9) rfl dX5_all_31 ?_
            refine lv_goto (tgt := 47) hx hb dX5_all_34 (by decide) ?_
            have hP9 := hP
            have hD9 := hD
            have hS9 := hS
            have hl9 := hl
            have hM9 := hM
            have hT : vo_table_fill_spilt = xv := hT
            subst hT
            exact hM9 _ _ _ ⟨hP9.sub [0, 1, 2, 3] rfl, hD9.sub [0, 1, 2, 3] rfl rfl, hS9, lv_sub hl9 [2] rfl⟩
      · replace hT := cutT c_5 hT
        have g_19 := zeqT (rfl : (r1).toInt = _) (by decide : ((0 : Int32)).toInt = 0) c_5
        refine lv_ldc2 (v := (-102 : Int64)) hx hb hown hc_152 dX5_all_16 ?_
        have hP9 := hP
        have hD9 := hD
        have hS9 := hS
        have hT : (-102 : Int64) = r := hT
        subst hT
        subst hQ
        exact zz_lret hx hb hr [0, 1, 2, 3] hK hP9 hD9 hS9 rfl rfl trivial hlocks dX5_all_19

def m_X5_drink (vo_stand_size : Int32) (vo_stand_kinds : Nat → Int32) (vo_table_fill_inside : Nat → Int64) (vo_table_drunkFrom : Nat → Int64) (p1 : Int32) : Int32 × (Nat → Int64) × (Nat → Int64) :=
 cut (m_X3_has vo_stand_size p1) (fun (r1 : Int32) =>
 if r1 = (0 : Int32) then
  ((-101 : Int32), vo_table_fill_inside, vo_table_drunkFrom)
 else
  if (vo_stand_kinds p1.toNatClampNeg) = (4 : Int32) then
   ((-103 : Int32), vo_table_fill_inside, vo_table_drunkFrom)
  else
   cut3 (m_X4_drinkFrom vo_table_fill_inside vo_table_drunkFrom p1) (fun (r2 : Int64) (u3 : Nat → Int64) (u4 : Nat → Int64) =>
   if (lg_cmp r2 (0 : Int64)) ≤ (0 : Int32) then
    ((0 : Int32), u3, u4)
   else
    ((1 : Int32), u3, u4)))
set_option maxHeartbeats 4000000 in
set_option maxRecDepth 100000 in
theorem k_X5_drink (l : Launch) (dC : Nat → ClassId) (dI : Nat → Nat → Nat) (cI cJ cC : ClassId) (sz : Nat) (o o_page o_reader o_stand o_trialStand o_table o_kept o_trial o_stand_kinds o_stand_holds o_stand_takes o_stand_shareCounts o_stand_shares o_table_fill o_table_drunkFrom o_table_turns o_table_fill_inside : Nat) (vo_imageKept : Int32) (vo_towersRead : Int32) (vo_changesDone : Int32) (vo_stand_size : Int32) (vo_stand_kinds : Nat → Int32) (vo_table_poured : Int32) (vo_table_fill_spilt : Int64) (vo_table_fill_inside : Nat → Int64) (vo_table_drunkFrom : Nat → Int64) (p1 : Int32) (r : Int32) (qo_table_fill_inside : Nat → Int64) (qo_table_drunkFrom : Nat → Int64) (hT : m_X5_drink vo_stand_size vo_stand_kinds vo_table_fill_inside vo_table_drunkFrom p1 = (r, qo_table_fill_inside, qo_table_drunkFrom)) (hs9 : vo_stand_size.toInt ≤ 9) : Met l yX5_drink wsX5_drink ({ frames := 2, cells := 0, slots := 0, locals := 46 }) (zPc [.ref o, .int p1] (dC, dI) (zTy cI cJ cC) [(o, .inr (5, [.ref o_page, .ref o_reader, .ref o_stand, .ref o_trialStand, .ref o_table, .ref o_kept, .ref o_trial, .int vo_imageKept, .int vo_towersRead, .int vo_changesDone])), (o_stand, .inr (3, [.ref o_stand_kinds, .ref o_stand_holds, .ref o_stand_takes, .ref o_stand_shareCounts, .ref o_stand_shares, .int vo_stand_size])), (o_stand_kinds, .inl (cI, 9, .inl vo_stand_kinds)), (o_table, .inr (4, [.ref o_table_fill, .ref o_table_drunkFrom, .ref o_table_turns, .int vo_table_poured])), (o_table_fill, .inr (0, [.ref o_table_fill_inside, .long vo_table_fill_spilt])), (o_table_fill_inside, .inl (cJ, 9, .inr (.inl vo_table_fill_inside))), (o_table_drunkFrom, .inl (cJ, 9, .inr (.inl vo_table_drunkFrom)))] sz) (zQi r (True) (dC, dI) (zTy cI cJ cC) [(o, .inr (5, [.ref o_page, .ref o_reader, .ref o_stand, .ref o_trialStand, .ref o_table, .ref o_kept, .ref o_trial, .int vo_imageKept, .int vo_towersRead, .int vo_changesDone])), (o_stand, .inr (3, [.ref o_stand_kinds, .ref o_stand_holds, .ref o_stand_takes, .ref o_stand_shareCounts, .ref o_stand_shares, .int vo_stand_size])), (o_stand_kinds, .inl (cI, 9, .inl vo_stand_kinds)), (o_table, .inr (4, [.ref o_table_fill, .ref o_table_drunkFrom, .ref o_table_turns, .int vo_table_poured])), (o_table_fill, .inr (0, [.ref o_table_fill_inside, .long vo_table_fill_spilt])), (o_table_fill_inside, .inl (cJ, 9, .inr (.inl qo_table_fill_inside))), (o_table_drunkFrom, .inl (cJ, 9, .inr (.inl qo_table_drunkFrom)))] (va_A [(o, .inr (5, [.ref o_page, .ref o_reader, .ref o_stand, .ref o_trialStand, .ref o_table, .ref o_kept, .ref o_trial, .int vo_imageKept, .int vo_towersRead, .int vo_changesDone])), (o_stand, .inr (3, [.ref o_stand_kinds, .ref o_stand_holds, .ref o_stand_takes, .ref o_stand_shareCounts, .ref o_stand_shares, .int vo_stand_size])), (o_stand_kinds, .inl (cI, 9, .inl vo_stand_kinds)), (o_table, .inr (4, [.ref o_table_fill, .ref o_table_drunkFrom, .ref o_table_turns, .int vo_table_poured])), (o_table_fill, .inr (0, [.ref o_table_fill_inside, .long vo_table_fill_spilt])), (o_table_fill_inside, .inl (cJ, 9, .inr (.inl vo_table_fill_inside))), (o_table_drunkFrom, .inl (cJ, 9, .inr (.inl vo_table_drunkFrom)))] sz)) 0 0 (va_A [(o, .inr (5, [.ref o_page, .ref o_reader, .ref o_stand, .ref o_trialStand, .ref o_table, .ref o_kept, .ref o_trial, .int vo_imageKept, .int vo_towersRead, .int vo_changesDone])), (o_stand, .inr (3, [.ref o_stand_kinds, .ref o_stand_holds, .ref o_stand_takes, .ref o_stand_shareCounts, .ref o_stand_shares, .int vo_stand_size])), (o_stand_kinds, .inl (cI, 9, .inl vo_stand_kinds)), (o_table, .inr (4, [.ref o_table_fill, .ref o_table_drunkFrom, .ref o_table_turns, .int vo_table_poured])), (o_table_fill, .inr (0, [.ref o_table_fill_inside, .long vo_table_fill_spilt])), (o_table_fill_inside, .inl (cJ, 9, .inr (.inl vo_table_fill_inside))), (o_table_drunkFrom, .inl (cJ, 9, .inr (.inl vo_table_drunkFrom)))] sz) := by
  refine Met.ofW (cc := cX5_drink) (maxL := 2) (ret := (some .int)) (by decide) rfl ?_
  intro p e s m args below meth c s₁ B hml hv
  obtain ⟨rfl, hsz, hP, hK, hD0⟩ := hv
  have hx := B.exec
  have hb := B.bytes
  have hr := B.returns
  have hts := atoms_spec (ws := wsX5_drink) B.pre
  have hown : s.vm.findClass RX5 = some m.cls := findClass_of_methodNamed B.named
  have hlocks := B.notSynchronized
  subst hsz
  have hD := hD0.self (sz := s.heap.size)
  generalize hAe : va_A [(o, .inr (5, [.ref o_page, .ref o_reader, .ref o_stand, .ref o_trialStand, .ref o_table, .ref o_kept, .ref o_trial, .int vo_imageKept, .int vo_towersRead, .int vo_changesDone])), (o_stand, .inr (3, [.ref o_stand_kinds, .ref o_stand_holds, .ref o_stand_takes, .ref o_stand_shareCounts, .ref o_stand_shares, .int vo_stand_size])), (o_stand_kinds, .inl (cI, 9, .inl vo_stand_kinds)), (o_table, .inr (4, [.ref o_table_fill, .ref o_table_drunkFrom, .ref o_table_turns, .int vo_table_poured])), (o_table_fill, .inr (0, [.ref o_table_fill_inside, .long vo_table_fill_spilt])), (o_table_fill_inside, .inl (cJ, 9, .inr (.inl vo_table_fill_inside))), (o_table_drunkFrom, .inl (cJ, 9, .inr (.inl vo_table_drunkFrom)))] s.heap.size = A at hD ⊢
  have hA : ∀ q : Nat, s.heap.size ≤ q → A q := fun q h => by rw [← hAe]; exact Or.inr h
  have hS : va_S A s.heap s.heap [] := va_S.rf
  have hP : va_P (dC, dI) vwCl [(o, .inr (5, [.ref o_page, .ref o_reader, .ref o_stand, .ref o_trialStand, .ref o_table, .ref o_kept, .ref o_trial, .int vo_imageKept, .int vo_towersRead, .int vo_changesDone])), (o_stand, .inr (3, [.ref o_stand_kinds, .ref o_stand_holds, .ref o_stand_takes, .ref o_stand_shareCounts, .ref o_stand_shares, .int vo_stand_size])), (o_stand_kinds, .inl (cI, 9, .inl vo_stand_kinds)), (o_table, .inr (4, [.ref o_table_fill, .ref o_table_drunkFrom, .ref o_table_turns, .int vo_table_poured])), (o_table_fill, .inr (0, [.ref o_table_fill_inside, .long vo_table_fill_spilt])), (o_table_fill_inside, .inl (cJ, 9, .inr (.inl vo_table_fill_inside))), (o_table_drunkFrom, .inl (cJ, 9, .inr (.inl vo_table_drunkFrom)))] s.heap := hP
  have hK : va_K (dC, dI) vwCl (zTy cI cJ cC) s := hK
  have hl := lv_entry ([.ref o, .int p1]) (n := 2) (Nat.le_of_ble_eq_true rfl)
  rw [lg_entry_eq]
  generalize (lg_sl ([.ref o, .int p1]) ++ List.replicate (2 - (lg_sl ([.ref o, .int p1])).length) Slot.unset).toArray = ls at hl ⊢
  have hl : lv_has ls 2 [(0, .ref o), (1, .int p1)] := hl
  refine zz_start hP hS (fun Q hQ H locs hP hS => ?_)
  have hwX3 : ∀ w ∈ u_ws RX3 TX3 6, w ∈ wsX5_drink := by decide +kernel
  have hwX5 : ∀ w ∈ u_ws RX5 TX5 10, w ∈ wsX5_drink := by decide +kernel
  have hf_106 := (hts (.fieldLink RX5 106 "PouredTopmost$Stand" "kinds" "[I") (by decide +kernel))
  have hf_26 := (hts (.fieldLink RX5 26 "PouredTopmost" "stand" "LPouredTopmost$Stand;") (by decide +kernel))
  have hf_36 := (hts (.fieldLink RX5 36 "PouredTopmost" "table" "LPouredTopmost$Table;") (by decide +kernel))
  refine lv_aload_n hx hb dX5_drink_0 rfl (lv_at hl 0 rfl) ?_
  refine va_get (D := (dC, dI)) (ci := 5) (v := .ref o_stand) (C := RX5) (T := TX5) (N := 10) hx hb hts hwX5 hown hK hP 0 rfl rfl 2 (by decide) hf_26 (fun _ h9 => h9) rfl dX5_drink_1 ?_
  refine lv_iload_n hx hb dX5_drink_4 rfl (lv_at hl 1 rfl) ?_
  obtain ⟨r1, ev_1⟩ : ∃ x0, (m_X3_has vo_stand_size p1) = x0 := ⟨_, rfl⟩
  replace hT := cut_n ev_1 hT
  refine zz_ci [1] [0, 2, 3, 4, 5, 6] (wr := [(o, .inr (5, [.ref o_page, .ref o_reader, .ref o_stand, .ref o_trialStand, .ref o_table, .ref o_kept, .ref o_trial, .int vo_imageKept, .int vo_towersRead, .int vo_changesDone])), (o_stand_kinds, .inl (cI, 9, .inl vo_stand_kinds)), (o_table, .inr (4, [.ref o_table_fill, .ref o_table_drunkFrom, .ref o_table_turns, .int vo_table_poured])), (o_table_fill, .inr (0, [.ref o_table_fill_inside, .long vo_table_fill_spilt])), (o_table_fill_inside, .inl (cJ, 9, .inr (.inl vo_table_fill_inside))), (o_table_drunkFrom, .inl (cJ, 9, .inr (.inl vo_table_drunkFrom)))]) (w1 := [(o_stand, .inr (3, [.ref o_stand_kinds, .ref o_stand_holds, .ref o_stand_takes, .ref o_stand_shareCounts, .ref o_stand_shares, .int vo_stand_size]))]) (va_runV (As := [.int p1]) (rest := []) ⟨hx, hb, hml, hown, hts⟩ (k_X3_has l dC dI cI cJ cC H.size o_stand o_stand_kinds o_stand_holds o_stand_takes o_stand_shareCounts o_stand_shares vo_stand_size p1 r1 ev_1) (cwV 1 hts gX5_drink_X3_has rfl rfl rfl (by decide +kernel) ⟨Nat.le_of_ble_eq_true rfl, Nat.le_of_ble_eq_true rfl⟩) (zz_preV [1] hK hP hD rfl rfl (va_recv hK hP (ci := 3) (q0 := 1) rfl rfl)) rfl rfl hl.1 rfl (lv_room (Nat.le_of_ble_eq_true rfl)) dX5_drink_5 ⟨Nat.zero_le _, Nat.zero_le _⟩) hP hD hS hA rfl rfl rfl (by decide) (fun ok_2 H locs hP hD hS => ?_)
  have hP : va_P (dC, dI) vwCl [(o, .inr (5, [.ref o_page, .ref o_reader, .ref o_stand, .ref o_trialStand, .ref o_table, .ref o_kept, .ref o_trial, .int vo_imageKept, .int vo_towersRead, .int vo_changesDone])), (o_stand_kinds, .inl (cI, 9, .inl vo_stand_kinds)), (o_table, .inr (4, [.ref o_table_fill, .ref o_table_drunkFrom, .ref o_table_turns, .int vo_table_poured])), (o_table_fill, .inr (0, [.ref o_table_fill_inside, .long vo_table_fill_spilt])), (o_table_fill_inside, .inl (cJ, 9, .inr (.inl vo_table_fill_inside))), (o_table_drunkFrom, .inl (cJ, 9, .inr (.inl vo_table_drunkFrom))), (o_stand, .inr (3, [.ref o_stand_kinds, .ref o_stand_holds, .ref o_stand_takes, .ref o_stand_shareCounts, .ref o_stand_shares, .int vo_stand_size]))] H := hP
  have hD : va_D A [(o, .inr (5, [.ref o_page, .ref o_reader, .ref o_stand, .ref o_trialStand, .ref o_table, .ref o_kept, .ref o_trial, .int vo_imageKept, .int vo_towersRead, .int vo_changesDone])), (o_stand_kinds, .inl (cI, 9, .inl vo_stand_kinds)), (o_table, .inr (4, [.ref o_table_fill, .ref o_table_drunkFrom, .ref o_table_turns, .int vo_table_poured])), (o_table_fill, .inr (0, [.ref o_table_fill_inside, .long vo_table_fill_spilt])), (o_table_fill_inside, .inl (cJ, 9, .inr (.inl vo_table_fill_inside))), (o_table_drunkFrom, .inl (cJ, 9, .inr (.inl vo_table_drunkFrom))), (o_stand, .inr (3, [.ref o_stand_kinds, .ref o_stand_holds, .ref o_stand_takes, .ref o_stand_shareCounts, .ref o_stand_shares, .int vo_stand_size]))] := hD
  obtain ⟨k_3, k_4⟩ := ok_2
  refine lv_if_ne (tgt := 14) hx hb dX5_drink_8 (by decide) (fun c_5 => ?_) (fun c_5 => ?_)
  · replace hT := cutF c_5 hT
    have g_11 := zeqF (rfl : (r1).toInt = _) (by decide : ((0 : Int32)).toInt = 0) c_5
    refine lv_aload_n hx hb dX5_drink_14 rfl (lv_at hl 0 rfl) ?_
    refine va_get (D := (dC, dI)) (ci := 5) (v := .ref o_stand) (C := RX5) (T := TX5) (N := 10) hx hb hts hwX5 hown hK hP 0 rfl rfl 2 (by decide) hf_26 (fun _ h9 => h9) rfl dX5_drink_15 ?_
    refine va_get (D := (dC, dI)) (ci := 3) (v := .ref o_stand_kinds) (C := RX3) (T := TX3) (N := 6) hx hb hts hwX3 hown hK hP 6 rfl rfl 0 (by decide) hf_106 (fun _ h9 => h9) rfl dX5_drink_18 ?_
    refine lv_iload_n hx hb dX5_drink_21 rfl (lv_at hl 1 rfl) ?_
    have h_6 : vp_in p1 9 := zin (by omega) (by omega)
    refine va_iald hx hb hK hP 1 0 rfl rfl h_6 dX5_drink_22 ?_
    refine lv_iconst (v := (4 : Int32)) hx hb dX5_drink_23 (by decide) ?_
    refine lv_icmp_ne (tgt := 30) hx hb dX5_drink_24 (by decide) (fun c_7 => ?_) (fun c_7 => ?_)
    · replace hT := cutF c_7 hT
      have g_12 := zeqF (rfl : ((vo_stand_kinds p1.toNatClampNeg)).toInt = _) (by decide : ((4 : Int32)).toInt = 4) c_7
      refine lv_aload_n hx hb dX5_drink_30 rfl (lv_at hl 0 rfl) ?_
      refine va_get (D := (dC, dI)) (ci := 5) (v := .ref o_table) (C := RX5) (T := TX5) (N := 10) hx hb hts hwX5 hown hK hP 0 rfl rfl 4 (by decide) hf_36 (fun _ h9 => h9) rfl dX5_drink_31 ?_
      refine lv_iload_n hx hb dX5_drink_34 rfl (lv_at hl 1 rfl) ?_
      obtain ⟨r2, u3, u4, ev_8⟩ : ∃ x0 x1 x2, (m_X4_drinkFrom vo_table_fill_inside vo_table_drunkFrom p1) = (x0, x1, x2) := ⟨_, _, _, rfl⟩
      replace hT := cut3_n ev_8 hT
      refine zz_cl [2, 3, 4, 5] [0, 1, 6] (wr := [(o, .inr (5, [.ref o_page, .ref o_reader, .ref o_stand, .ref o_trialStand, .ref o_table, .ref o_kept, .ref o_trial, .int vo_imageKept, .int vo_towersRead, .int vo_changesDone])), (o_stand_kinds, .inl (cI, 9, .inl vo_stand_kinds)), (o_stand, .inr (3, [.ref o_stand_kinds, .ref o_stand_holds, .ref o_stand_takes, .ref o_stand_shareCounts, .ref o_stand_shares, .int vo_stand_size]))]) (w1 := [(o_table, .inr (4, [.ref o_table_fill, .ref o_table_drunkFrom, .ref o_table_turns, .int vo_table_poured])), (o_table_fill, .inr (0, [.ref o_table_fill_inside, .long vo_table_fill_spilt])), (o_table_fill_inside, .inl (cJ, 9, .inr (.inl u3))), (o_table_drunkFrom, .inl (cJ, 9, .inr (.inl u4)))]) (va_runV (As := [.int p1]) (rest := []) ⟨hx, hb, hml, hown, hts⟩ (k_X4_drinkFrom l dC dI cI cJ cC H.size o_table o_table_fill o_table_drunkFrom o_table_turns o_table_fill_inside vo_table_poured vo_table_fill_spilt vo_table_fill_inside vo_table_drunkFrom p1 r2 u3 u4 ev_8) (cwV 1 hts gX5_drink_X4_drinkFrom rfl rfl rfl (by decide +kernel) ⟨Nat.le_of_ble_eq_true rfl, Nat.le_of_ble_eq_true rfl⟩) (zz_preV [2, 3, 4, 5] hK hP hD rfl rfl (va_recv hK hP (ci := 4) (q0 := 2) rfl rfl)) rfl rfl hl.1 rfl (lv_room (Nat.le_of_ble_eq_true rfl)) dX5_drink_35 ⟨Nat.zero_le _, Nat.zero_le _⟩) hP hD hS hA rfl rfl rfl (by decide) (fun ok_9 H locs hP hD hS => ?_)
      have hP : va_P (dC, dI) vwCl [(o, .inr (5, [.ref o_page, .ref o_reader, .ref o_stand, .ref o_trialStand, .ref o_table, .ref o_kept, .ref o_trial, .int vo_imageKept, .int vo_towersRead, .int vo_changesDone])), (o_stand_kinds, .inl (cI, 9, .inl vo_stand_kinds)), (o_stand, .inr (3, [.ref o_stand_kinds, .ref o_stand_holds, .ref o_stand_takes, .ref o_stand_shareCounts, .ref o_stand_shares, .int vo_stand_size])), (o_table, .inr (4, [.ref o_table_fill, .ref o_table_drunkFrom, .ref o_table_turns, .int vo_table_poured])), (o_table_fill, .inr (0, [.ref o_table_fill_inside, .long vo_table_fill_spilt])), (o_table_fill_inside, .inl (cJ, 9, .inr (.inl u3))), (o_table_drunkFrom, .inl (cJ, 9, .inr (.inl u4)))] H := hP
      have hD : va_D A [(o, .inr (5, [.ref o_page, .ref o_reader, .ref o_stand, .ref o_trialStand, .ref o_table, .ref o_kept, .ref o_trial, .int vo_imageKept, .int vo_towersRead, .int vo_changesDone])), (o_stand_kinds, .inl (cI, 9, .inl vo_stand_kinds)), (o_stand, .inr (3, [.ref o_stand_kinds, .ref o_stand_holds, .ref o_stand_takes, .ref o_stand_shareCounts, .ref o_stand_shares, .int vo_stand_size])), (o_table, .inr (4, [.ref o_table_fill, .ref o_table_drunkFrom, .ref o_table_turns, .int vo_table_poured])), (o_table_fill, .inr (0, [.ref o_table_fill_inside, .long vo_table_fill_spilt])), (o_table_fill_inside, .inl (cJ, 9, .inr (.inl u3))), (o_table_drunkFrom, .inl (cJ, 9, .inr (.inl u4)))] := hD
      refine lv_lconst (v := (0 : Int64)) hx hb dX5_drink_38 (by decide) ?_
      refine W.lcmp hx hb dX5_drink_39 ?_
      have hz_13 : ((0 : Int64)).toInt = 0 := by decide
      refine lv_if_le (tgt := 47) hx hb dX5_drink_40 (by decide) (fun c_10 => ?_) (fun c_10 => ?_)
      · replace hT := cutT c_10 hT
        have g_14 := zlc_le.mp c_10
        refine lv_iconst (v := (0 : Int32)) hx hb dX5_drink_47 (by decide) ?_
        have hP9 := hP
        have hD9 := hD
        have hS9 := hS
        have hT : ((0 : Int32), u3, u4) = (r, qo_table_fill_inside, qo_table_drunkFrom) := hT
        cases hT
        subst hQ
        exact zz_iret hx hb hr [0, 2, 1, 3, 4, 5, 6] hK hP9 hD9 hS9 rfl rfl trivial hlocks dX5_drink_48
      · replace hT := cutF c_10 hT
        have g_15 := mt zlc_le.mpr c_10
        refine lv_iconst (v := (1 : Int32)) hx hb dX5_drink_43 (by decide) ?_
        refine lv_goto (tgt := 48) hx hb dX5_drink_44 (by decide) ?_
        have hP9 := hP
        have hD9 := hD
        have hS9 := hS
        have hT : ((1 : Int32), u3, u4) = (r, qo_table_fill_inside, qo_table_drunkFrom) := hT
        cases hT
        subst hQ
        exact zz_iret hx hb hr [0, 2, 1, 3, 4, 5, 6] hK hP9 hD9 hS9 rfl rfl trivial hlocks dX5_drink_48
    · replace hT := cutT c_7 hT
      have g_16 := zeqT (rfl : ((vo_stand_kinds p1.toNatClampNeg)).toInt = _) (by decide : ((4 : Int32)).toInt = 4) c_7
      refine lv_bipush (v := (-103 : Int32)) hx hb dX5_drink_27 (by decide) ?_
      have hP9 := hP
      have hD9 := hD
      have hS9 := hS
      have hT : ((-103 : Int32), vo_table_fill_inside, vo_table_drunkFrom) = (r, qo_table_fill_inside, qo_table_drunkFrom) := hT
      cases hT
      subst hQ
      exact zz_iret hx hb hr [0, 6, 1, 2, 3, 4, 5] hK hP9 hD9 hS9 rfl rfl trivial hlocks dX5_drink_29
  · replace hT := cutT c_5 hT
    have g_17 := zeqT (rfl : (r1).toInt = _) (by decide : ((0 : Int32)).toInt = 0) c_5
    refine lv_bipush (v := (-101 : Int32)) hx hb dX5_drink_11 (by decide) ?_
    have hP9 := hP
    have hD9 := hD
    have hS9 := hS
    have hT : ((-101 : Int32), vo_table_fill_inside, vo_table_drunkFrom) = (r, qo_table_fill_inside, qo_table_drunkFrom) := hT
    cases hT
    subst hQ
    exact zz_iret hx hb hr [0, 6, 1, 2, 3, 4, 5] hK hP9 hD9 hS9 rfl rfl trivial hlocks dX5_drink_13

def m_X5_drunk (vo_stand_size : Int32) (vo_table_drunkFrom : Nat → Int64) (p1 : Int32) (p2 : Int32) : Int64 :=
 cut (m_X3_has vo_stand_size p1) (fun (r1 : Int32) =>
 if r1 = (0 : Int32) then
  (-101 : Int64)
 else
  cut (m_X5_isPart p2) (fun (r2 : Int32) =>
  if r2 = (0 : Int32) then
   (-102 : Int64)
  else
   cut (m_X5_partOf (vo_table_drunkFrom p1.toNatClampNeg) p2) (fun (r3 : Int64) =>
   r3)))
set_option maxHeartbeats 4000000 in
set_option maxRecDepth 100000 in
theorem k_X5_drunk (l : Launch) (dC : Nat → ClassId) (dI : Nat → Nat → Nat) (cI cJ cC : ClassId) (sz : Nat) (o o_page o_reader o_stand o_trialStand o_table o_kept o_trial o_stand_kinds o_stand_holds o_stand_takes o_stand_shareCounts o_stand_shares o_table_fill o_table_drunkFrom o_table_turns : Nat) (vo_imageKept : Int32) (vo_towersRead : Int32) (vo_changesDone : Int32) (vo_stand_size : Int32) (vo_table_poured : Int32) (vo_table_drunkFrom : Nat → Int64) (p1 : Int32) (p2 : Int32) (r : Int64) (hT : m_X5_drunk vo_stand_size vo_table_drunkFrom p1 p2 = r) (hs9 : vo_stand_size.toInt ≤ 9) : Met l yX5_drunk wsX5_drunk ({ frames := 2, cells := 0, slots := 0, locals := 64 }) (zPc [.ref o, .int p1, .int p2] (dC, dI) (zTy cI cJ cC) [(o, .inr (5, [.ref o_page, .ref o_reader, .ref o_stand, .ref o_trialStand, .ref o_table, .ref o_kept, .ref o_trial, .int vo_imageKept, .int vo_towersRead, .int vo_changesDone])), (o_stand, .inr (3, [.ref o_stand_kinds, .ref o_stand_holds, .ref o_stand_takes, .ref o_stand_shareCounts, .ref o_stand_shares, .int vo_stand_size])), (o_table, .inr (4, [.ref o_table_fill, .ref o_table_drunkFrom, .ref o_table_turns, .int vo_table_poured])), (o_table_drunkFrom, .inl (cJ, 9, .inr (.inl vo_table_drunkFrom)))] sz) (zQl r (True) (dC, dI) (zTy cI cJ cC) [(o, .inr (5, [.ref o_page, .ref o_reader, .ref o_stand, .ref o_trialStand, .ref o_table, .ref o_kept, .ref o_trial, .int vo_imageKept, .int vo_towersRead, .int vo_changesDone])), (o_stand, .inr (3, [.ref o_stand_kinds, .ref o_stand_holds, .ref o_stand_takes, .ref o_stand_shareCounts, .ref o_stand_shares, .int vo_stand_size])), (o_table, .inr (4, [.ref o_table_fill, .ref o_table_drunkFrom, .ref o_table_turns, .int vo_table_poured])), (o_table_drunkFrom, .inl (cJ, 9, .inr (.inl vo_table_drunkFrom)))] (va_A [(o, .inr (5, [.ref o_page, .ref o_reader, .ref o_stand, .ref o_trialStand, .ref o_table, .ref o_kept, .ref o_trial, .int vo_imageKept, .int vo_towersRead, .int vo_changesDone])), (o_stand, .inr (3, [.ref o_stand_kinds, .ref o_stand_holds, .ref o_stand_takes, .ref o_stand_shareCounts, .ref o_stand_shares, .int vo_stand_size])), (o_table, .inr (4, [.ref o_table_fill, .ref o_table_drunkFrom, .ref o_table_turns, .int vo_table_poured])), (o_table_drunkFrom, .inl (cJ, 9, .inr (.inl vo_table_drunkFrom)))] sz)) 0 0 (va_A [(o, .inr (5, [.ref o_page, .ref o_reader, .ref o_stand, .ref o_trialStand, .ref o_table, .ref o_kept, .ref o_trial, .int vo_imageKept, .int vo_towersRead, .int vo_changesDone])), (o_stand, .inr (3, [.ref o_stand_kinds, .ref o_stand_holds, .ref o_stand_takes, .ref o_stand_shareCounts, .ref o_stand_shares, .int vo_stand_size])), (o_table, .inr (4, [.ref o_table_fill, .ref o_table_drunkFrom, .ref o_table_turns, .int vo_table_poured])), (o_table_drunkFrom, .inl (cJ, 9, .inr (.inl vo_table_drunkFrom)))] sz) := by
  refine Met.ofW (cc := cX5_drunk) (maxL := 3) (ret := (some .long)) (by decide) rfl ?_
  intro p e s m args below meth c s₁ B hml hv
  obtain ⟨rfl, hsz, hP, hK, hD0⟩ := hv
  have hx := B.exec
  have hb := B.bytes
  have hr := B.returns
  have hts := atoms_spec (ws := wsX5_drunk) B.pre
  have hown : s.vm.findClass RX5 = some m.cls := findClass_of_methodNamed B.named
  have hlocks := B.notSynchronized
  subst hsz
  have hD := hD0.self (sz := s.heap.size)
  generalize hAe : va_A [(o, .inr (5, [.ref o_page, .ref o_reader, .ref o_stand, .ref o_trialStand, .ref o_table, .ref o_kept, .ref o_trial, .int vo_imageKept, .int vo_towersRead, .int vo_changesDone])), (o_stand, .inr (3, [.ref o_stand_kinds, .ref o_stand_holds, .ref o_stand_takes, .ref o_stand_shareCounts, .ref o_stand_shares, .int vo_stand_size])), (o_table, .inr (4, [.ref o_table_fill, .ref o_table_drunkFrom, .ref o_table_turns, .int vo_table_poured])), (o_table_drunkFrom, .inl (cJ, 9, .inr (.inl vo_table_drunkFrom)))] s.heap.size = A at hD ⊢
  have hA : ∀ q : Nat, s.heap.size ≤ q → A q := fun q h => by rw [← hAe]; exact Or.inr h
  have hS : va_S A s.heap s.heap [] := va_S.rf
  have hP : va_P (dC, dI) vwCl [(o, .inr (5, [.ref o_page, .ref o_reader, .ref o_stand, .ref o_trialStand, .ref o_table, .ref o_kept, .ref o_trial, .int vo_imageKept, .int vo_towersRead, .int vo_changesDone])), (o_stand, .inr (3, [.ref o_stand_kinds, .ref o_stand_holds, .ref o_stand_takes, .ref o_stand_shareCounts, .ref o_stand_shares, .int vo_stand_size])), (o_table, .inr (4, [.ref o_table_fill, .ref o_table_drunkFrom, .ref o_table_turns, .int vo_table_poured])), (o_table_drunkFrom, .inl (cJ, 9, .inr (.inl vo_table_drunkFrom)))] s.heap := hP
  have hK : va_K (dC, dI) vwCl (zTy cI cJ cC) s := hK
  have hl := lv_entry ([.ref o, .int p1, .int p2]) (n := 3) (Nat.le_of_ble_eq_true rfl)
  rw [lg_entry_eq]
  generalize (lg_sl ([.ref o, .int p1, .int p2]) ++ List.replicate (3 - (lg_sl ([.ref o, .int p1, .int p2])).length) Slot.unset).toArray = ls at hl ⊢
  have hl : lv_has ls 3 [(0, .ref o), (1, .int p1), (2, .int p2)] := hl
  refine zz_start hP hS (fun Q hQ H locs hP hS => ?_)
  have hwX4 : ∀ w ∈ u_ws RX4 TX4 4, w ∈ wsX5_drunk := by decide +kernel
  have hwX5 : ∀ w ∈ u_ws RX5 TX5 10, w ∈ wsX5_drunk := by decide +kernel
  have hc_147 := (hts (.constantLong RX5 147 (-101)) (by decide +kernel))
  have hc_152 := (hts (.constantLong RX5 152 (-102)) (by decide +kernel))
  have hf_174 := (hts (.fieldLink RX5 174 "PouredTopmost$Table" "drunkFrom" "[J") (by decide +kernel))
  have hf_26 := (hts (.fieldLink RX5 26 "PouredTopmost" "stand" "LPouredTopmost$Stand;") (by decide +kernel))
  have hf_36 := (hts (.fieldLink RX5 36 "PouredTopmost" "table" "LPouredTopmost$Table;") (by decide +kernel))
  refine lv_aload_n hx hb dX5_drunk_0 rfl (lv_at hl 0 rfl) ?_
  refine va_get (D := (dC, dI)) (ci := 5) (v := .ref o_stand) (C := RX5) (T := TX5) (N := 10) hx hb hts hwX5 hown hK hP 0 rfl rfl 2 (by decide) hf_26 (fun _ h9 => h9) rfl dX5_drunk_1 ?_
  refine lv_iload_n hx hb dX5_drunk_4 rfl (lv_at hl 1 rfl) ?_
  obtain ⟨r1, ev_1⟩ : ∃ x0, (m_X3_has vo_stand_size p1) = x0 := ⟨_, rfl⟩
  replace hT := cut_n ev_1 hT
  refine zz_ci [1] [0, 2, 3] (wr := [(o, .inr (5, [.ref o_page, .ref o_reader, .ref o_stand, .ref o_trialStand, .ref o_table, .ref o_kept, .ref o_trial, .int vo_imageKept, .int vo_towersRead, .int vo_changesDone])), (o_table, .inr (4, [.ref o_table_fill, .ref o_table_drunkFrom, .ref o_table_turns, .int vo_table_poured])), (o_table_drunkFrom, .inl (cJ, 9, .inr (.inl vo_table_drunkFrom)))]) (w1 := [(o_stand, .inr (3, [.ref o_stand_kinds, .ref o_stand_holds, .ref o_stand_takes, .ref o_stand_shareCounts, .ref o_stand_shares, .int vo_stand_size]))]) (va_runV (As := [.int p1]) (rest := []) ⟨hx, hb, hml, hown, hts⟩ (k_X3_has l dC dI cI cJ cC H.size o_stand o_stand_kinds o_stand_holds o_stand_takes o_stand_shareCounts o_stand_shares vo_stand_size p1 r1 ev_1) (cwV 1 hts gX5_drunk_X3_has rfl rfl rfl (by decide +kernel) ⟨Nat.le_of_ble_eq_true rfl, Nat.le_of_ble_eq_true rfl⟩) (zz_preV [1] hK hP hD rfl rfl (va_recv hK hP (ci := 3) (q0 := 1) rfl rfl)) rfl rfl hl.1 rfl (lv_room (Nat.le_of_ble_eq_true rfl)) dX5_drunk_5 ⟨Nat.zero_le _, Nat.zero_le _⟩) hP hD hS hA rfl rfl rfl (by decide) (fun ok_2 H locs hP hD hS => ?_)
  have hP : va_P (dC, dI) vwCl [(o, .inr (5, [.ref o_page, .ref o_reader, .ref o_stand, .ref o_trialStand, .ref o_table, .ref o_kept, .ref o_trial, .int vo_imageKept, .int vo_towersRead, .int vo_changesDone])), (o_table, .inr (4, [.ref o_table_fill, .ref o_table_drunkFrom, .ref o_table_turns, .int vo_table_poured])), (o_table_drunkFrom, .inl (cJ, 9, .inr (.inl vo_table_drunkFrom))), (o_stand, .inr (3, [.ref o_stand_kinds, .ref o_stand_holds, .ref o_stand_takes, .ref o_stand_shareCounts, .ref o_stand_shares, .int vo_stand_size]))] H := hP
  have hD : va_D A [(o, .inr (5, [.ref o_page, .ref o_reader, .ref o_stand, .ref o_trialStand, .ref o_table, .ref o_kept, .ref o_trial, .int vo_imageKept, .int vo_towersRead, .int vo_changesDone])), (o_table, .inr (4, [.ref o_table_fill, .ref o_table_drunkFrom, .ref o_table_turns, .int vo_table_poured])), (o_table_drunkFrom, .inl (cJ, 9, .inr (.inl vo_table_drunkFrom))), (o_stand, .inr (3, [.ref o_stand_kinds, .ref o_stand_holds, .ref o_stand_takes, .ref o_stand_shareCounts, .ref o_stand_shares, .int vo_stand_size]))] := hD
  obtain ⟨k_3, k_4⟩ := ok_2
  refine lv_if_ne (tgt := 15) hx hb dX5_drunk_8 (by decide) (fun c_5 => ?_) (fun c_5 => ?_)
  · replace hT := cutF c_5 hT
    have g_12 := zeqF (rfl : (r1).toInt = _) (by decide : ((0 : Int32)).toInt = 0) c_5
    refine lv_iload_n hx hb dX5_drunk_15 rfl (lv_at hl 2 rfl) ?_
    obtain ⟨r2, ev_6⟩ : ∃ x0, (m_X5_isPart p2) = x0 := ⟨_, rfl⟩
    replace hT := cut_n ev_6 hT
    refine zz_ci [] [0, 1, 2, 3] (wr := [(o, .inr (5, [.ref o_page, .ref o_reader, .ref o_stand, .ref o_trialStand, .ref o_table, .ref o_kept, .ref o_trial, .int vo_imageKept, .int vo_towersRead, .int vo_changesDone])), (o_table, .inr (4, [.ref o_table_fill, .ref o_table_drunkFrom, .ref o_table_turns, .int vo_table_poured])), (o_table_drunkFrom, .inl (cJ, 9, .inr (.inl vo_table_drunkFrom))), (o_stand, .inr (3, [.ref o_stand_kinds, .ref o_stand_holds, .ref o_stand_takes, .ref o_stand_shareCounts, .ref o_stand_shares, .int vo_stand_size]))]) (w1 := []) (va_runS (As := [.int p2]) (rest := []) ⟨hx, hb, hml, hown, hts⟩ (k_X5_isPart l dC dI cI cJ cC H.size p2 r2 ev_6) (va_cwS 1 hts gX5_drunk_X5_isPart rfl rfl rfl (by decide +kernel) ⟨Nat.le_of_ble_eq_true rfl, Nat.le_of_ble_eq_true rfl⟩) (zz_preS [] hK hP hD rfl rfl) rfl rfl hl.1 rfl (lv_room (Nat.le_of_ble_eq_true rfl)) dX5_drunk_16 ⟨Nat.zero_le _, Nat.zero_le _⟩) hP hD hS hA rfl rfl rfl (by decide) (fun ok_7 H locs hP hD hS => ?_)
    have hP : va_P (dC, dI) vwCl [(o, .inr (5, [.ref o_page, .ref o_reader, .ref o_stand, .ref o_trialStand, .ref o_table, .ref o_kept, .ref o_trial, .int vo_imageKept, .int vo_towersRead, .int vo_changesDone])), (o_table, .inr (4, [.ref o_table_fill, .ref o_table_drunkFrom, .ref o_table_turns, .int vo_table_poured])), (o_table_drunkFrom, .inl (cJ, 9, .inr (.inl vo_table_drunkFrom))), (o_stand, .inr (3, [.ref o_stand_kinds, .ref o_stand_holds, .ref o_stand_takes, .ref o_stand_shareCounts, .ref o_stand_shares, .int vo_stand_size]))] H := hP
    have hD : va_D A [(o, .inr (5, [.ref o_page, .ref o_reader, .ref o_stand, .ref o_trialStand, .ref o_table, .ref o_kept, .ref o_trial, .int vo_imageKept, .int vo_towersRead, .int vo_changesDone])), (o_table, .inr (4, [.ref o_table_fill, .ref o_table_drunkFrom, .ref o_table_turns, .int vo_table_poured])), (o_table_drunkFrom, .inl (cJ, 9, .inr (.inl vo_table_drunkFrom))), (o_stand, .inr (3, [.ref o_stand_kinds, .ref o_stand_holds, .ref o_stand_takes, .ref o_stand_shareCounts, .ref o_stand_shares, .int vo_stand_size]))] := hD
    refine lv_if_ne (tgt := 26) hx hb dX5_drunk_19 (by decide) (fun c_8 => ?_) (fun c_8 => ?_)
    · replace hT := cutF c_8 hT
      have g_13 := zeqF (rfl : (r2).toInt = _) (by decide : ((0 : Int32)).toInt = 0) c_8
      refine lv_aload_n hx hb dX5_drunk_26 rfl (lv_at hl 0 rfl) ?_
      refine va_get (D := (dC, dI)) (ci := 5) (v := .ref o_table) (C := RX5) (T := TX5) (N := 10) hx hb hts hwX5 hown hK hP 0 rfl rfl 4 (by decide) hf_36 (fun _ h9 => h9) rfl dX5_drunk_27 ?_
      refine va_get (D := (dC, dI)) (ci := 4) (v := .ref o_table_drunkFrom) (C := RX4) (T := TX4) (N := 4) hx hb hts hwX4 hown hK hP 1 rfl rfl 1 (by decide) hf_174 (fun _ h9 => h9) rfl dX5_drunk_30 ?_
      refine lv_iload_n hx hb dX5_drunk_33 rfl (lv_at hl 1 rfl) ?_
      have h_9 : vp_in p1 9 := zin (by omega) (by omega)
      refine va_lald hx hb hK hP 2 1 rfl rfl h_9 dX5_drunk_34 ?_
      refine lv_iload_n hx hb dX5_drunk_35 rfl (lv_at hl 2 rfl) ?_
      obtain ⟨r3, ev_10⟩ : ∃ x0, (m_X5_partOf (vo_table_drunkFrom p1.toNatClampNeg) p2) = x0 := ⟨_, rfl⟩
      replace hT := cut_n ev_10 hT
      refine zz_cl [] [0, 1, 2, 3] (wr := [(o, .inr (5, [.ref o_page, .ref o_reader, .ref o_stand, .ref o_trialStand, .ref o_table, .ref o_kept, .ref o_trial, .int vo_imageKept, .int vo_towersRead, .int vo_changesDone])), (o_table, .inr (4, [.ref o_table_fill, .ref o_table_drunkFrom, .ref o_table_turns, .int vo_table_poured])), (o_table_drunkFrom, .inl (cJ, 9, .inr (.inl vo_table_drunkFrom))), (o_stand, .inr (3, [.ref o_stand_kinds, .ref o_stand_holds, .ref o_stand_takes, .ref o_stand_shareCounts, .ref o_stand_shares, .int vo_stand_size]))]) (w1 := []) (va_runS (As := [.long (vo_table_drunkFrom p1.toNatClampNeg), .int p2]) (rest := []) ⟨hx, hb, hml, hown, hts⟩ (k_X5_partOf l dC dI cI cJ cC H.size (vo_table_drunkFrom p1.toNatClampNeg) p2 r3 ev_10) (va_cwS 2 hts gX5_drunk_X5_partOf rfl rfl rfl (by decide +kernel) ⟨Nat.le_of_ble_eq_true rfl, Nat.le_of_ble_eq_true rfl⟩) (zz_preS [] hK hP hD rfl rfl) rfl rfl hl.1 rfl (lv_room (Nat.le_of_ble_eq_true rfl)) dX5_drunk_36 ⟨Nat.zero_le _, Nat.zero_le _⟩) hP hD hS hA rfl rfl rfl (by decide) (fun ok_11 H locs hP hD hS => ?_)
      have hP : va_P (dC, dI) vwCl [(o, .inr (5, [.ref o_page, .ref o_reader, .ref o_stand, .ref o_trialStand, .ref o_table, .ref o_kept, .ref o_trial, .int vo_imageKept, .int vo_towersRead, .int vo_changesDone])), (o_table, .inr (4, [.ref o_table_fill, .ref o_table_drunkFrom, .ref o_table_turns, .int vo_table_poured])), (o_table_drunkFrom, .inl (cJ, 9, .inr (.inl vo_table_drunkFrom))), (o_stand, .inr (3, [.ref o_stand_kinds, .ref o_stand_holds, .ref o_stand_takes, .ref o_stand_shareCounts, .ref o_stand_shares, .int vo_stand_size]))] H := hP
      have hD : va_D A [(o, .inr (5, [.ref o_page, .ref o_reader, .ref o_stand, .ref o_trialStand, .ref o_table, .ref o_kept, .ref o_trial, .int vo_imageKept, .int vo_towersRead, .int vo_changesDone])), (o_table, .inr (4, [.ref o_table_fill, .ref o_table_drunkFrom, .ref o_table_turns, .int vo_table_poured])), (o_table_drunkFrom, .inl (cJ, 9, .inr (.inl vo_table_drunkFrom))), (o_stand, .inr (3, [.ref o_stand_kinds, .ref o_stand_holds, .ref o_stand_takes, .ref o_stand_shareCounts, .ref o_stand_shares, .int vo_stand_size]))] := hD
      have hP9 := hP
      have hD9 := hD
      have hS9 := hS
      have hT : r3 = r := hT
      subst hT
      subst hQ
      exact zz_lret hx hb hr [0, 3, 1, 2] hK hP9 hD9 hS9 rfl rfl trivial hlocks dX5_drunk_39
    · replace hT := cutT c_8 hT
      have g_14 := zeqT (rfl : (r2).toInt = _) (by decide : ((0 : Int32)).toInt = 0) c_8
      refine lv_ldc2 (v := (-102 : Int64)) hx hb hown hc_152 dX5_drunk_22 ?_
      have hP9 := hP
      have hD9 := hD
      have hS9 := hS
      have hT : (-102 : Int64) = r := hT
      subst hT
      subst hQ
      exact zz_lret hx hb hr [0, 3, 1, 2] hK hP9 hD9 hS9 rfl rfl trivial hlocks dX5_drunk_25
  · replace hT := cutT c_5 hT
    have g_15 := zeqT (rfl : (r1).toInt = _) (by decide : ((0 : Int32)).toInt = 0) c_5
    refine lv_ldc2 (v := (-101 : Int64)) hx hb hown hc_147 dX5_drunk_11 ?_
    have hP9 := hP
    have hD9 := hD
    have hS9 := hS
    have hT : (-101 : Int64) = r := hT
    subst hT
    subst hQ
    exact zz_lret hx hb hr [0, 3, 1, 2] hK hP9 hD9 hS9 rfl rfl trivial hlocks dX5_drunk_14

def m_X5_clear (vo_table_poured : Int32) (vo_table_fill_inside : Nat → Int64) (vo_table_drunkFrom : Nat → Int64) : Int32 × Int32 × Int64 × (Nat → Int64) × (Nat → Int64) :=
 cut4 (m_X4_makeEmpty vo_table_fill_inside vo_table_drunkFrom) (fun (u1 : Int32) (u2 : Int64) (u3 : Nat → Int64) (u4 : Nat → Int64) =>
 (vo_table_poured, u1, u2, u3, u4))
set_option maxHeartbeats 4000000 in
set_option maxRecDepth 100000 in
theorem k_X5_clear (l : Launch) (dC : Nat → ClassId) (dI : Nat → Nat → Nat) (cI cJ cC : ClassId) (sz : Nat) (o o_page o_reader o_stand o_trialStand o_table o_kept o_trial o_table_fill o_table_drunkFrom o_table_turns o_table_fill_inside : Nat) (vo_imageKept : Int32) (vo_towersRead : Int32) (vo_changesDone : Int32) (vo_table_poured : Int32) (vo_table_fill_spilt : Int64) (vo_table_fill_inside : Nat → Int64) (vo_table_drunkFrom : Nat → Int64) (r : Int32) (qo_table_poured : Int32) (qo_table_fill_spilt : Int64) (qo_table_fill_inside : Nat → Int64) (qo_table_drunkFrom : Nat → Int64) (hT : m_X5_clear vo_table_poured vo_table_fill_inside vo_table_drunkFrom = (r, qo_table_poured, qo_table_fill_spilt, qo_table_fill_inside, qo_table_drunkFrom)) : Met l yX5_clear wsX5_clear ({ frames := 3, cells := 0, slots := 0, locals := 64 }) (zPc [.ref o] (dC, dI) (zTy cI cJ cC) [(o, .inr (5, [.ref o_page, .ref o_reader, .ref o_stand, .ref o_trialStand, .ref o_table, .ref o_kept, .ref o_trial, .int vo_imageKept, .int vo_towersRead, .int vo_changesDone])), (o_table, .inr (4, [.ref o_table_fill, .ref o_table_drunkFrom, .ref o_table_turns, .int vo_table_poured])), (o_table_fill, .inr (0, [.ref o_table_fill_inside, .long vo_table_fill_spilt])), (o_table_fill_inside, .inl (cJ, 9, .inr (.inl vo_table_fill_inside))), (o_table_drunkFrom, .inl (cJ, 9, .inr (.inl vo_table_drunkFrom)))] sz) (zQi r (True) (dC, dI) (zTy cI cJ cC) [(o, .inr (5, [.ref o_page, .ref o_reader, .ref o_stand, .ref o_trialStand, .ref o_table, .ref o_kept, .ref o_trial, .int vo_imageKept, .int vo_towersRead, .int vo_changesDone])), (o_table, .inr (4, [.ref o_table_fill, .ref o_table_drunkFrom, .ref o_table_turns, .int qo_table_poured])), (o_table_fill, .inr (0, [.ref o_table_fill_inside, .long qo_table_fill_spilt])), (o_table_fill_inside, .inl (cJ, 9, .inr (.inl qo_table_fill_inside))), (o_table_drunkFrom, .inl (cJ, 9, .inr (.inl qo_table_drunkFrom)))] (va_A [(o, .inr (5, [.ref o_page, .ref o_reader, .ref o_stand, .ref o_trialStand, .ref o_table, .ref o_kept, .ref o_trial, .int vo_imageKept, .int vo_towersRead, .int vo_changesDone])), (o_table, .inr (4, [.ref o_table_fill, .ref o_table_drunkFrom, .ref o_table_turns, .int vo_table_poured])), (o_table_fill, .inr (0, [.ref o_table_fill_inside, .long vo_table_fill_spilt])), (o_table_fill_inside, .inl (cJ, 9, .inr (.inl vo_table_fill_inside))), (o_table_drunkFrom, .inl (cJ, 9, .inr (.inl vo_table_drunkFrom)))] sz)) 0 0 (va_A [(o, .inr (5, [.ref o_page, .ref o_reader, .ref o_stand, .ref o_trialStand, .ref o_table, .ref o_kept, .ref o_trial, .int vo_imageKept, .int vo_towersRead, .int vo_changesDone])), (o_table, .inr (4, [.ref o_table_fill, .ref o_table_drunkFrom, .ref o_table_turns, .int vo_table_poured])), (o_table_fill, .inr (0, [.ref o_table_fill_inside, .long vo_table_fill_spilt])), (o_table_fill_inside, .inl (cJ, 9, .inr (.inl vo_table_fill_inside))), (o_table_drunkFrom, .inl (cJ, 9, .inr (.inl vo_table_drunkFrom)))] sz) := by
  refine Met.ofW (cc := cX5_clear) (maxL := 2) (ret := (some .int)) (by decide) rfl ?_
  intro p e s m args below meth c s₁ B hml hv
  obtain ⟨rfl, hsz, hP, hK, hD0⟩ := hv
  have hx := B.exec
  have hb := B.bytes
  have hr := B.returns
  have hts := atoms_spec (ws := wsX5_clear) B.pre
  have hown : s.vm.findClass RX5 = some m.cls := findClass_of_methodNamed B.named
  have hlocks := B.notSynchronized
  subst hsz
  have hD := hD0.self (sz := s.heap.size)
  generalize hAe : va_A [(o, .inr (5, [.ref o_page, .ref o_reader, .ref o_stand, .ref o_trialStand, .ref o_table, .ref o_kept, .ref o_trial, .int vo_imageKept, .int vo_towersRead, .int vo_changesDone])), (o_table, .inr (4, [.ref o_table_fill, .ref o_table_drunkFrom, .ref o_table_turns, .int vo_table_poured])), (o_table_fill, .inr (0, [.ref o_table_fill_inside, .long vo_table_fill_spilt])), (o_table_fill_inside, .inl (cJ, 9, .inr (.inl vo_table_fill_inside))), (o_table_drunkFrom, .inl (cJ, 9, .inr (.inl vo_table_drunkFrom)))] s.heap.size = A at hD ⊢
  have hA : ∀ q : Nat, s.heap.size ≤ q → A q := fun q h => by rw [← hAe]; exact Or.inr h
  have hS : va_S A s.heap s.heap [] := va_S.rf
  have hP : va_P (dC, dI) vwCl [(o, .inr (5, [.ref o_page, .ref o_reader, .ref o_stand, .ref o_trialStand, .ref o_table, .ref o_kept, .ref o_trial, .int vo_imageKept, .int vo_towersRead, .int vo_changesDone])), (o_table, .inr (4, [.ref o_table_fill, .ref o_table_drunkFrom, .ref o_table_turns, .int vo_table_poured])), (o_table_fill, .inr (0, [.ref o_table_fill_inside, .long vo_table_fill_spilt])), (o_table_fill_inside, .inl (cJ, 9, .inr (.inl vo_table_fill_inside))), (o_table_drunkFrom, .inl (cJ, 9, .inr (.inl vo_table_drunkFrom)))] s.heap := hP
  have hK : va_K (dC, dI) vwCl (zTy cI cJ cC) s := hK
  have hl := lv_entry ([.ref o]) (n := 2) (Nat.le_of_ble_eq_true rfl)
  rw [lg_entry_eq]
  generalize (lg_sl ([.ref o]) ++ List.replicate (2 - (lg_sl ([.ref o])).length) Slot.unset).toArray = ls at hl ⊢
  have hl : lv_has ls 2 [(0, .ref o)] := hl
  refine zz_start hP hS (fun Q hQ H locs hP hS => ?_)
  have hwX4 : ∀ w ∈ u_ws RX4 TX4 4, w ∈ wsX5_clear := by decide +kernel
  have hwX5 : ∀ w ∈ u_ws RX5 TX5 10, w ∈ wsX5_clear := by decide +kernel
  have hf_140 := (hts (.fieldLink RX5 140 "PouredTopmost$Table" "poured" "I") (by decide +kernel))
  have hf_36 := (hts (.fieldLink RX5 36 "PouredTopmost" "table" "LPouredTopmost$Table;") (by decide +kernel))
  refine lv_aload_n hx hb dX5_clear_0 rfl (lv_at hl 0 rfl) ?_
  refine va_get (D := (dC, dI)) (ci := 5) (v := .ref o_table) (C := RX5) (T := TX5) (N := 10) hx hb hts hwX5 hown hK hP 0 rfl rfl 4 (by decide) hf_36 (fun _ h9 => h9) rfl dX5_clear_1 ?_
  refine va_get (D := (dC, dI)) (ci := 4) (v := .int vo_table_poured) (C := RX4) (T := TX4) (N := 4) hx hb hts hwX4 hown hK hP 1 rfl rfl 3 (by decide) hf_140 (fun _ h9 => h9) rfl dX5_clear_4 ?_
  refine lv_istore_n (lv' := [(1, .int vo_table_poured), (0, .ref o)]) hx hb dX5_clear_7 rfl hl (by decide) rfl (fun ls hl => ?_)
  refine lv_aload_n hx hb dX5_clear_8 rfl (lv_at hl 1 rfl) ?_
  refine va_get (D := (dC, dI)) (ci := 5) (v := .ref o_table) (C := RX5) (T := TX5) (N := 10) hx hb hts hwX5 hown hK hP 0 rfl rfl 4 (by decide) hf_36 (fun _ h9 => h9) rfl dX5_clear_9 ?_
  obtain ⟨u1, u2, u3, u4, ev_1⟩ : ∃ x0 x1 x2 x3, (m_X4_makeEmpty vo_table_fill_inside vo_table_drunkFrom) = (x0, x1, x2, x3) := ⟨_, _, _, _, rfl⟩
  replace hT := cut4_n ev_1 hT
  refine zz_cv [1, 2, 3, 4] [0] (wr := [(o, .inr (5, [.ref o_page, .ref o_reader, .ref o_stand, .ref o_trialStand, .ref o_table, .ref o_kept, .ref o_trial, .int vo_imageKept, .int vo_towersRead, .int vo_changesDone]))]) (w1 := [(o_table, .inr (4, [.ref o_table_fill, .ref o_table_drunkFrom, .ref o_table_turns, .int u1])), (o_table_fill, .inr (0, [.ref o_table_fill_inside, .long u2])), (o_table_fill_inside, .inl (cJ, 9, .inr (.inl u3))), (o_table_drunkFrom, .inl (cJ, 9, .inr (.inl u4)))]) (va_runV (As := []) (rest := []) ⟨hx, hb, hml, hown, hts⟩ (k_X4_makeEmpty l dC dI cI cJ cC H.size o_table o_table_fill o_table_drunkFrom o_table_turns o_table_fill_inside vo_table_poured vo_table_fill_spilt vo_table_fill_inside vo_table_drunkFrom u1 u2 u3 u4 ev_1) (cwV 0 hts gX5_clear_X4_makeEmpty rfl rfl rfl (by decide +kernel) ⟨Nat.le_of_ble_eq_true rfl, Nat.le_of_ble_eq_true rfl⟩) (zz_preV [1, 2, 3, 4] hK hP hD rfl rfl (va_recv hK hP (ci := 4) (q0 := 1) rfl rfl)) rfl rfl hl.1 rfl (lv_room (Nat.le_of_ble_eq_true rfl)) dX5_clear_12 ⟨Nat.zero_le _, Nat.zero_le _⟩) hP hD hS hA rfl rfl rfl (by decide) (fun ok_2 H locs hP hD hS => ?_)
  have hP : va_P (dC, dI) vwCl [(o, .inr (5, [.ref o_page, .ref o_reader, .ref o_stand, .ref o_trialStand, .ref o_table, .ref o_kept, .ref o_trial, .int vo_imageKept, .int vo_towersRead, .int vo_changesDone])), (o_table, .inr (4, [.ref o_table_fill, .ref o_table_drunkFrom, .ref o_table_turns, .int u1])), (o_table_fill, .inr (0, [.ref o_table_fill_inside, .long u2])), (o_table_fill_inside, .inl (cJ, 9, .inr (.inl u3))), (o_table_drunkFrom, .inl (cJ, 9, .inr (.inl u4)))] H := hP
  have hD : va_D A [(o, .inr (5, [.ref o_page, .ref o_reader, .ref o_stand, .ref o_trialStand, .ref o_table, .ref o_kept, .ref o_trial, .int vo_imageKept, .int vo_towersRead, .int vo_changesDone])), (o_table, .inr (4, [.ref o_table_fill, .ref o_table_drunkFrom, .ref o_table_turns, .int u1])), (o_table_fill, .inr (0, [.ref o_table_fill_inside, .long u2])), (o_table_fill_inside, .inl (cJ, 9, .inr (.inl u3))), (o_table_drunkFrom, .inl (cJ, 9, .inr (.inl u4)))] := hD
  refine lv_iload_n hx hb dX5_clear_15 rfl (lv_at hl 0 rfl) ?_
  have hP9 := hP
  have hD9 := hD
  have hS9 := hS
  have hT : (vo_table_poured, u1, u2, u3, u4) = (r, qo_table_poured, qo_table_fill_spilt, qo_table_fill_inside, qo_table_drunkFrom) := hT
  cases hT
  subst hQ
  exact zz_iret hx hb hr [0, 1, 2, 3, 4] hK hP9 hD9 hS9 rfl rfl trivial hlocks dX5_clear_16

def m_X5_wouldFill (vo_stand_size : Int32) (vo_stand_kinds : Nat → Int32) (vo_stand_takes : Nat → Int32) (vo_stand_shareCounts : Nat → Int32) (vo_stand_shares : Nat → Int32) (vo_table_fill_spilt : Int64) (vo_table_fill_inside : Nat → Int64) (vo_trial_inside : Nat → Int64) (p1 : Int32) (p2 : Int32) (p3 : Int32) : Int32 × Int64 × (Nat → Int64) :=
 cut2 (m_X0_copyFrom vo_trial_inside vo_table_fill_spilt vo_table_fill_inside) (fun (u1 : Int64) (u2 : Nat → Int64) =>
 cut2 (m_X0_addTo u1 u2 vo_stand_size vo_stand_kinds vo_stand_takes vo_stand_shareCounts vo_stand_shares p2 p3) (fun (u3 : Int64) (u4 : Nat → Int64) =>
 cut (m_X0_areFull u4 vo_stand_size vo_stand_takes p1) (fun (r5 : Int32) =>
 (r5, u3, u4))))
set_option maxHeartbeats 4000000 in
set_option maxRecDepth 100000 in
theorem k_X5_wouldFill (l : Launch) (dC : Nat → ClassId) (dI : Nat → Nat → Nat) (cI cJ cC : ClassId) (sz : Nat) (o o_page o_reader o_stand o_trialStand o_table o_kept o_trial o_stand_kinds o_stand_holds o_stand_takes o_stand_shareCounts o_stand_shares o_table_fill o_table_drunkFrom o_table_turns o_table_fill_inside o_trial_inside : Nat) (vo_imageKept : Int32) (vo_towersRead : Int32) (vo_changesDone : Int32) (vo_stand_size : Int32) (vo_stand_kinds : Nat → Int32) (vo_stand_takes : Nat → Int32) (vo_stand_shareCounts : Nat → Int32) (vo_stand_shares : Nat → Int32) (vo_table_poured : Int32) (vo_table_fill_spilt : Int64) (vo_table_fill_inside : Nat → Int64) (vo_trial_spilt : Int64) (vo_trial_inside : Nat → Int64) (p1 : Int32) (p2 : Int32) (p3 : Int32) (r : Int32) (qo_trial_spilt : Int64) (qo_trial_inside : Nat → Int64) (hT : m_X5_wouldFill vo_stand_size vo_stand_kinds vo_stand_takes vo_stand_shareCounts vo_stand_shares vo_table_fill_spilt vo_table_fill_inside vo_trial_inside p1 p2 p3 = (r, qo_trial_spilt, qo_trial_inside)) (hs0 : 0 ≤ vo_stand_size.toInt) (hs9 : vo_stand_size.toInt ≤ 9) (hsc : zSc vo_stand_shareCounts) : Met l yX5_wouldFill wsX5_wouldFill ({ frames := 5, cells := 0, slots := 0, locals := 121 }) (zPc [.ref o, .int p1, .int p2, .int p3] (dC, dI) (zTy cI cJ cC) [(o, .inr (5, [.ref o_page, .ref o_reader, .ref o_stand, .ref o_trialStand, .ref o_table, .ref o_kept, .ref o_trial, .int vo_imageKept, .int vo_towersRead, .int vo_changesDone])), (o_stand, .inr (3, [.ref o_stand_kinds, .ref o_stand_holds, .ref o_stand_takes, .ref o_stand_shareCounts, .ref o_stand_shares, .int vo_stand_size])), (o_stand_kinds, .inl (cI, 9, .inl vo_stand_kinds)), (o_stand_takes, .inl (cI, 9, .inl vo_stand_takes)), (o_stand_shareCounts, .inl (cI, 9, .inl vo_stand_shareCounts)), (o_stand_shares, .inl (cI, 27, .inl vo_stand_shares)), (o_table, .inr (4, [.ref o_table_fill, .ref o_table_drunkFrom, .ref o_table_turns, .int vo_table_poured])), (o_table_fill, .inr (0, [.ref o_table_fill_inside, .long vo_table_fill_spilt])), (o_table_fill_inside, .inl (cJ, 9, .inr (.inl vo_table_fill_inside))), (o_trial, .inr (0, [.ref o_trial_inside, .long vo_trial_spilt])), (o_trial_inside, .inl (cJ, 9, .inr (.inl vo_trial_inside)))] sz) (zQi r ((zB01 r)) (dC, dI) (zTy cI cJ cC) [(o, .inr (5, [.ref o_page, .ref o_reader, .ref o_stand, .ref o_trialStand, .ref o_table, .ref o_kept, .ref o_trial, .int vo_imageKept, .int vo_towersRead, .int vo_changesDone])), (o_stand, .inr (3, [.ref o_stand_kinds, .ref o_stand_holds, .ref o_stand_takes, .ref o_stand_shareCounts, .ref o_stand_shares, .int vo_stand_size])), (o_stand_kinds, .inl (cI, 9, .inl vo_stand_kinds)), (o_stand_takes, .inl (cI, 9, .inl vo_stand_takes)), (o_stand_shareCounts, .inl (cI, 9, .inl vo_stand_shareCounts)), (o_stand_shares, .inl (cI, 27, .inl vo_stand_shares)), (o_table, .inr (4, [.ref o_table_fill, .ref o_table_drunkFrom, .ref o_table_turns, .int vo_table_poured])), (o_table_fill, .inr (0, [.ref o_table_fill_inside, .long vo_table_fill_spilt])), (o_table_fill_inside, .inl (cJ, 9, .inr (.inl vo_table_fill_inside))), (o_trial, .inr (0, [.ref o_trial_inside, .long qo_trial_spilt])), (o_trial_inside, .inl (cJ, 9, .inr (.inl qo_trial_inside)))] (va_A [(o, .inr (5, [.ref o_page, .ref o_reader, .ref o_stand, .ref o_trialStand, .ref o_table, .ref o_kept, .ref o_trial, .int vo_imageKept, .int vo_towersRead, .int vo_changesDone])), (o_stand, .inr (3, [.ref o_stand_kinds, .ref o_stand_holds, .ref o_stand_takes, .ref o_stand_shareCounts, .ref o_stand_shares, .int vo_stand_size])), (o_stand_kinds, .inl (cI, 9, .inl vo_stand_kinds)), (o_stand_takes, .inl (cI, 9, .inl vo_stand_takes)), (o_stand_shareCounts, .inl (cI, 9, .inl vo_stand_shareCounts)), (o_stand_shares, .inl (cI, 27, .inl vo_stand_shares)), (o_table, .inr (4, [.ref o_table_fill, .ref o_table_drunkFrom, .ref o_table_turns, .int vo_table_poured])), (o_table_fill, .inr (0, [.ref o_table_fill_inside, .long vo_table_fill_spilt])), (o_table_fill_inside, .inl (cJ, 9, .inr (.inl vo_table_fill_inside))), (o_trial, .inr (0, [.ref o_trial_inside, .long vo_trial_spilt])), (o_trial_inside, .inl (cJ, 9, .inr (.inl vo_trial_inside)))] sz)) 0 0 (va_A [(o, .inr (5, [.ref o_page, .ref o_reader, .ref o_stand, .ref o_trialStand, .ref o_table, .ref o_kept, .ref o_trial, .int vo_imageKept, .int vo_towersRead, .int vo_changesDone])), (o_stand, .inr (3, [.ref o_stand_kinds, .ref o_stand_holds, .ref o_stand_takes, .ref o_stand_shareCounts, .ref o_stand_shares, .int vo_stand_size])), (o_stand_kinds, .inl (cI, 9, .inl vo_stand_kinds)), (o_stand_takes, .inl (cI, 9, .inl vo_stand_takes)), (o_stand_shareCounts, .inl (cI, 9, .inl vo_stand_shareCounts)), (o_stand_shares, .inl (cI, 27, .inl vo_stand_shares)), (o_table, .inr (4, [.ref o_table_fill, .ref o_table_drunkFrom, .ref o_table_turns, .int vo_table_poured])), (o_table_fill, .inr (0, [.ref o_table_fill_inside, .long vo_table_fill_spilt])), (o_table_fill_inside, .inl (cJ, 9, .inr (.inl vo_table_fill_inside))), (o_trial, .inr (0, [.ref o_trial_inside, .long vo_trial_spilt])), (o_trial_inside, .inl (cJ, 9, .inr (.inl vo_trial_inside)))] sz) := by
  refine Met.ofW (cc := cX5_wouldFill) (maxL := 4) (ret := (some .boolean)) (by decide) rfl ?_
  intro p e s m args below meth c s₁ B hml hv
  obtain ⟨rfl, hsz, hP, hK, hD0⟩ := hv
  have hx := B.exec
  have hb := B.bytes
  have hr := B.returns
  have hts := atoms_spec (ws := wsX5_wouldFill) B.pre
  have hown : s.vm.findClass RX5 = some m.cls := findClass_of_methodNamed B.named
  have hlocks := B.notSynchronized
  subst hsz
  have hD := hD0.self (sz := s.heap.size)
  generalize hAe : va_A [(o, .inr (5, [.ref o_page, .ref o_reader, .ref o_stand, .ref o_trialStand, .ref o_table, .ref o_kept, .ref o_trial, .int vo_imageKept, .int vo_towersRead, .int vo_changesDone])), (o_stand, .inr (3, [.ref o_stand_kinds, .ref o_stand_holds, .ref o_stand_takes, .ref o_stand_shareCounts, .ref o_stand_shares, .int vo_stand_size])), (o_stand_kinds, .inl (cI, 9, .inl vo_stand_kinds)), (o_stand_takes, .inl (cI, 9, .inl vo_stand_takes)), (o_stand_shareCounts, .inl (cI, 9, .inl vo_stand_shareCounts)), (o_stand_shares, .inl (cI, 27, .inl vo_stand_shares)), (o_table, .inr (4, [.ref o_table_fill, .ref o_table_drunkFrom, .ref o_table_turns, .int vo_table_poured])), (o_table_fill, .inr (0, [.ref o_table_fill_inside, .long vo_table_fill_spilt])), (o_table_fill_inside, .inl (cJ, 9, .inr (.inl vo_table_fill_inside))), (o_trial, .inr (0, [.ref o_trial_inside, .long vo_trial_spilt])), (o_trial_inside, .inl (cJ, 9, .inr (.inl vo_trial_inside)))] s.heap.size = A at hD ⊢
  have hA : ∀ q : Nat, s.heap.size ≤ q → A q := fun q h => by rw [← hAe]; exact Or.inr h
  have hS : va_S A s.heap s.heap [] := va_S.rf
  have hP : va_P (dC, dI) vwCl [(o, .inr (5, [.ref o_page, .ref o_reader, .ref o_stand, .ref o_trialStand, .ref o_table, .ref o_kept, .ref o_trial, .int vo_imageKept, .int vo_towersRead, .int vo_changesDone])), (o_stand, .inr (3, [.ref o_stand_kinds, .ref o_stand_holds, .ref o_stand_takes, .ref o_stand_shareCounts, .ref o_stand_shares, .int vo_stand_size])), (o_stand_kinds, .inl (cI, 9, .inl vo_stand_kinds)), (o_stand_takes, .inl (cI, 9, .inl vo_stand_takes)), (o_stand_shareCounts, .inl (cI, 9, .inl vo_stand_shareCounts)), (o_stand_shares, .inl (cI, 27, .inl vo_stand_shares)), (o_table, .inr (4, [.ref o_table_fill, .ref o_table_drunkFrom, .ref o_table_turns, .int vo_table_poured])), (o_table_fill, .inr (0, [.ref o_table_fill_inside, .long vo_table_fill_spilt])), (o_table_fill_inside, .inl (cJ, 9, .inr (.inl vo_table_fill_inside))), (o_trial, .inr (0, [.ref o_trial_inside, .long vo_trial_spilt])), (o_trial_inside, .inl (cJ, 9, .inr (.inl vo_trial_inside)))] s.heap := hP
  have hK : va_K (dC, dI) vwCl (zTy cI cJ cC) s := hK
  have hl := lv_entry ([.ref o, .int p1, .int p2, .int p3]) (n := 4) (Nat.le_of_ble_eq_true rfl)
  rw [lg_entry_eq]
  generalize (lg_sl ([.ref o, .int p1, .int p2, .int p3]) ++ List.replicate (4 - (lg_sl ([.ref o, .int p1, .int p2, .int p3])).length) Slot.unset).toArray = ls at hl ⊢
  have hl : lv_has ls 4 [(0, .ref o), (1, .int p1), (2, .int p2), (3, .int p3)] := hl
  refine zz_start hP hS (fun Q hQ H locs hP hS => ?_)
  have hwX4 : ∀ w ∈ u_ws RX4 TX4 4, w ∈ wsX5_wouldFill := by decide +kernel
  have hwX5 : ∀ w ∈ u_ws RX5 TX5 10, w ∈ wsX5_wouldFill := by decide +kernel
  have hf_126 := (hts (.fieldLink RX5 126 "PouredTopmost$Table" "fill" "LPouredTopmost$Fill;") (by decide +kernel))
  have hf_26 := (hts (.fieldLink RX5 26 "PouredTopmost" "stand" "LPouredTopmost$Stand;") (by decide +kernel))
  have hf_36 := (hts (.fieldLink RX5 36 "PouredTopmost" "table" "LPouredTopmost$Table;") (by decide +kernel))
  have hf_46 := (hts (.fieldLink RX5 46 "PouredTopmost" "trial" "LPouredTopmost$Fill;") (by decide +kernel))
  refine lv_aload_n hx hb dX5_wouldFill_0 rfl (lv_at hl 0 rfl) ?_
  refine va_get (D := (dC, dI)) (ci := 5) (v := .ref o_trial) (C := RX5) (T := TX5) (N := 10) hx hb hts hwX5 hown hK hP 0 rfl rfl 6 (by decide) hf_46 (fun _ h9 => h9) rfl dX5_wouldFill_1 ?_
  refine lv_aload_n hx hb dX5_wouldFill_4 rfl (lv_at hl 0 rfl) ?_
  refine va_get (D := (dC, dI)) (ci := 5) (v := .ref o_table) (C := RX5) (T := TX5) (N := 10) hx hb hts hwX5 hown hK hP 0 rfl rfl 4 (by decide) hf_36 (fun _ h9 => h9) rfl dX5_wouldFill_5 ?_
  refine va_get (D := (dC, dI)) (ci := 4) (v := .ref o_table_fill) (C := RX4) (T := TX4) (N := 4) hx hb hts hwX4 hown hK hP 6 rfl rfl 0 (by decide) hf_126 (fun _ h9 => h9) rfl dX5_wouldFill_8 ?_
  obtain ⟨u1, u2, ev_1⟩ : ∃ x0 x1, (m_X0_copyFrom vo_trial_inside vo_table_fill_spilt vo_table_fill_inside) = (x0, x1) := ⟨_, _, rfl⟩
  replace hT := cut2_n ev_1 hT
  refine zz_cv [9, 10, 7, 8] [0, 1, 2, 3, 4, 5, 6] (wr := [(o, .inr (5, [.ref o_page, .ref o_reader, .ref o_stand, .ref o_trialStand, .ref o_table, .ref o_kept, .ref o_trial, .int vo_imageKept, .int vo_towersRead, .int vo_changesDone])), (o_stand, .inr (3, [.ref o_stand_kinds, .ref o_stand_holds, .ref o_stand_takes, .ref o_stand_shareCounts, .ref o_stand_shares, .int vo_stand_size])), (o_stand_kinds, .inl (cI, 9, .inl vo_stand_kinds)), (o_stand_takes, .inl (cI, 9, .inl vo_stand_takes)), (o_stand_shareCounts, .inl (cI, 9, .inl vo_stand_shareCounts)), (o_stand_shares, .inl (cI, 27, .inl vo_stand_shares)), (o_table, .inr (4, [.ref o_table_fill, .ref o_table_drunkFrom, .ref o_table_turns, .int vo_table_poured]))]) (w1 := [(o_trial, .inr (0, [.ref o_trial_inside, .long u1])), (o_trial_inside, .inl (cJ, 9, .inr (.inl u2))), (o_table_fill, .inr (0, [.ref o_table_fill_inside, .long vo_table_fill_spilt])), (o_table_fill_inside, .inl (cJ, 9, .inr (.inl vo_table_fill_inside)))]) (va_runV (As := [.ref o_table_fill]) (rest := []) ⟨hx, hb, hml, hown, hts⟩ (k_X0_copyFrom l dC dI cI cJ cC H.size o_trial o_trial_inside o_table_fill o_table_fill_inside vo_trial_spilt vo_trial_inside vo_table_fill_spilt vo_table_fill_inside u1 u2 ev_1) (cwV 1 hts gX5_wouldFill_X0_copyFrom rfl rfl rfl (by decide +kernel) ⟨Nat.le_of_ble_eq_true rfl, Nat.le_of_ble_eq_true rfl⟩) (zz_preV [9, 10, 7, 8] hK hP hD rfl rfl (va_recv hK hP (ci := 0) (q0 := 9) rfl rfl)) rfl rfl hl.1 rfl (lv_room (Nat.le_of_ble_eq_true rfl)) dX5_wouldFill_11 ⟨Nat.zero_le _, Nat.zero_le _⟩) hP hD hS hA rfl rfl rfl (by decide) (fun ok_2 H locs hP hD hS => ?_)
  have hP : va_P (dC, dI) vwCl [(o, .inr (5, [.ref o_page, .ref o_reader, .ref o_stand, .ref o_trialStand, .ref o_table, .ref o_kept, .ref o_trial, .int vo_imageKept, .int vo_towersRead, .int vo_changesDone])), (o_stand, .inr (3, [.ref o_stand_kinds, .ref o_stand_holds, .ref o_stand_takes, .ref o_stand_shareCounts, .ref o_stand_shares, .int vo_stand_size])), (o_stand_kinds, .inl (cI, 9, .inl vo_stand_kinds)), (o_stand_takes, .inl (cI, 9, .inl vo_stand_takes)), (o_stand_shareCounts, .inl (cI, 9, .inl vo_stand_shareCounts)), (o_stand_shares, .inl (cI, 27, .inl vo_stand_shares)), (o_table, .inr (4, [.ref o_table_fill, .ref o_table_drunkFrom, .ref o_table_turns, .int vo_table_poured])), (o_trial, .inr (0, [.ref o_trial_inside, .long u1])), (o_trial_inside, .inl (cJ, 9, .inr (.inl u2))), (o_table_fill, .inr (0, [.ref o_table_fill_inside, .long vo_table_fill_spilt])), (o_table_fill_inside, .inl (cJ, 9, .inr (.inl vo_table_fill_inside)))] H := hP
  have hD : va_D A [(o, .inr (5, [.ref o_page, .ref o_reader, .ref o_stand, .ref o_trialStand, .ref o_table, .ref o_kept, .ref o_trial, .int vo_imageKept, .int vo_towersRead, .int vo_changesDone])), (o_stand, .inr (3, [.ref o_stand_kinds, .ref o_stand_holds, .ref o_stand_takes, .ref o_stand_shareCounts, .ref o_stand_shares, .int vo_stand_size])), (o_stand_kinds, .inl (cI, 9, .inl vo_stand_kinds)), (o_stand_takes, .inl (cI, 9, .inl vo_stand_takes)), (o_stand_shareCounts, .inl (cI, 9, .inl vo_stand_shareCounts)), (o_stand_shares, .inl (cI, 27, .inl vo_stand_shares)), (o_table, .inr (4, [.ref o_table_fill, .ref o_table_drunkFrom, .ref o_table_turns, .int vo_table_poured])), (o_trial, .inr (0, [.ref o_trial_inside, .long u1])), (o_trial_inside, .inl (cJ, 9, .inr (.inl u2))), (o_table_fill, .inr (0, [.ref o_table_fill_inside, .long vo_table_fill_spilt])), (o_table_fill_inside, .inl (cJ, 9, .inr (.inl vo_table_fill_inside)))] := hD
  refine lv_aload_n hx hb dX5_wouldFill_14 rfl (lv_at hl 0 rfl) ?_
  refine va_get (D := (dC, dI)) (ci := 5) (v := .ref o_trial) (C := RX5) (T := TX5) (N := 10) hx hb hts hwX5 hown hK hP 0 rfl rfl 6 (by decide) hf_46 (fun _ h9 => h9) rfl dX5_wouldFill_15 ?_
  refine lv_aload_n hx hb dX5_wouldFill_18 rfl (lv_at hl 0 rfl) ?_
  refine va_get (D := (dC, dI)) (ci := 5) (v := .ref o_stand) (C := RX5) (T := TX5) (N := 10) hx hb hts hwX5 hown hK hP 0 rfl rfl 2 (by decide) hf_26 (fun _ h9 => h9) rfl dX5_wouldFill_19 ?_
  refine lv_iload_n hx hb dX5_wouldFill_22 rfl (lv_at hl 2 rfl) ?_
  refine lv_iload_n hx hb dX5_wouldFill_23 rfl (lv_at hl 3 rfl) ?_
  obtain ⟨u3, u4, ev_3⟩ : ∃ x0 x1, (m_X0_addTo u1 u2 vo_stand_size vo_stand_kinds vo_stand_takes vo_stand_shareCounts vo_stand_shares p2 p3) = (x0, x1) := ⟨_, _, rfl⟩
  replace hT := cut2_n ev_3 hT
  refine zz_cv [7, 8, 1, 2, 3, 4, 5] [0, 6, 9, 10] (wr := [(o, .inr (5, [.ref o_page, .ref o_reader, .ref o_stand, .ref o_trialStand, .ref o_table, .ref o_kept, .ref o_trial, .int vo_imageKept, .int vo_towersRead, .int vo_changesDone])), (o_table, .inr (4, [.ref o_table_fill, .ref o_table_drunkFrom, .ref o_table_turns, .int vo_table_poured])), (o_table_fill, .inr (0, [.ref o_table_fill_inside, .long vo_table_fill_spilt])), (o_table_fill_inside, .inl (cJ, 9, .inr (.inl vo_table_fill_inside)))]) (w1 := [(o_trial, .inr (0, [.ref o_trial_inside, .long u3])), (o_trial_inside, .inl (cJ, 9, .inr (.inl u4))), (o_stand, .inr (3, [.ref o_stand_kinds, .ref o_stand_holds, .ref o_stand_takes, .ref o_stand_shareCounts, .ref o_stand_shares, .int vo_stand_size])), (o_stand_kinds, .inl (cI, 9, .inl vo_stand_kinds)), (o_stand_takes, .inl (cI, 9, .inl vo_stand_takes)), (o_stand_shareCounts, .inl (cI, 9, .inl vo_stand_shareCounts)), (o_stand_shares, .inl (cI, 27, .inl vo_stand_shares))]) (va_runV (As := [.ref o_stand, .int p2, .int p3]) (rest := []) ⟨hx, hb, hml, hown, hts⟩ (k_X0_addTo l dC dI cI cJ cC H.size o_trial o_trial_inside o_stand o_stand_kinds o_stand_holds o_stand_takes o_stand_shareCounts o_stand_shares u1 u2 vo_stand_size vo_stand_kinds vo_stand_takes vo_stand_shareCounts vo_stand_shares p2 p3 u3 u4 ev_3 hs0 hs9 hsc) (cwV 3 hts gX5_wouldFill_X0_addTo rfl rfl rfl (by decide +kernel) ⟨Nat.le_of_ble_eq_true rfl, Nat.le_of_ble_eq_true rfl⟩) (zz_preV [7, 8, 1, 2, 3, 4, 5] hK hP hD rfl rfl (va_recv hK hP (ci := 0) (q0 := 7) rfl rfl)) rfl rfl hl.1 rfl (lv_room (Nat.le_of_ble_eq_true rfl)) dX5_wouldFill_24 ⟨Nat.zero_le _, Nat.zero_le _⟩) hP hD hS hA rfl rfl rfl (by decide) (fun ok_4 H locs hP hD hS => ?_)
  have hP : va_P (dC, dI) vwCl [(o, .inr (5, [.ref o_page, .ref o_reader, .ref o_stand, .ref o_trialStand, .ref o_table, .ref o_kept, .ref o_trial, .int vo_imageKept, .int vo_towersRead, .int vo_changesDone])), (o_table, .inr (4, [.ref o_table_fill, .ref o_table_drunkFrom, .ref o_table_turns, .int vo_table_poured])), (o_table_fill, .inr (0, [.ref o_table_fill_inside, .long vo_table_fill_spilt])), (o_table_fill_inside, .inl (cJ, 9, .inr (.inl vo_table_fill_inside))), (o_trial, .inr (0, [.ref o_trial_inside, .long u3])), (o_trial_inside, .inl (cJ, 9, .inr (.inl u4))), (o_stand, .inr (3, [.ref o_stand_kinds, .ref o_stand_holds, .ref o_stand_takes, .ref o_stand_shareCounts, .ref o_stand_shares, .int vo_stand_size])), (o_stand_kinds, .inl (cI, 9, .inl vo_stand_kinds)), (o_stand_takes, .inl (cI, 9, .inl vo_stand_takes)), (o_stand_shareCounts, .inl (cI, 9, .inl vo_stand_shareCounts)), (o_stand_shares, .inl (cI, 27, .inl vo_stand_shares))] H := hP
  have hD : va_D A [(o, .inr (5, [.ref o_page, .ref o_reader, .ref o_stand, .ref o_trialStand, .ref o_table, .ref o_kept, .ref o_trial, .int vo_imageKept, .int vo_towersRead, .int vo_changesDone])), (o_table, .inr (4, [.ref o_table_fill, .ref o_table_drunkFrom, .ref o_table_turns, .int vo_table_poured])), (o_table_fill, .inr (0, [.ref o_table_fill_inside, .long vo_table_fill_spilt])), (o_table_fill_inside, .inl (cJ, 9, .inr (.inl vo_table_fill_inside))), (o_trial, .inr (0, [.ref o_trial_inside, .long u3])), (o_trial_inside, .inl (cJ, 9, .inr (.inl u4))), (o_stand, .inr (3, [.ref o_stand_kinds, .ref o_stand_holds, .ref o_stand_takes, .ref o_stand_shareCounts, .ref o_stand_shares, .int vo_stand_size])), (o_stand_kinds, .inl (cI, 9, .inl vo_stand_kinds)), (o_stand_takes, .inl (cI, 9, .inl vo_stand_takes)), (o_stand_shareCounts, .inl (cI, 9, .inl vo_stand_shareCounts)), (o_stand_shares, .inl (cI, 27, .inl vo_stand_shares))] := hD
  refine lv_aload_n hx hb dX5_wouldFill_27 rfl (lv_at hl 0 rfl) ?_
  refine va_get (D := (dC, dI)) (ci := 5) (v := .ref o_trial) (C := RX5) (T := TX5) (N := 10) hx hb hts hwX5 hown hK hP 0 rfl rfl 6 (by decide) hf_46 (fun _ h9 => h9) rfl dX5_wouldFill_28 ?_
  refine lv_aload_n hx hb dX5_wouldFill_31 rfl (lv_at hl 0 rfl) ?_
  refine va_get (D := (dC, dI)) (ci := 5) (v := .ref o_stand) (C := RX5) (T := TX5) (N := 10) hx hb hts hwX5 hown hK hP 0 rfl rfl 2 (by decide) hf_26 (fun _ h9 => h9) rfl dX5_wouldFill_32 ?_
  refine lv_iload_n hx hb dX5_wouldFill_35 rfl (lv_at hl 1 rfl) ?_
  obtain ⟨r5, ev_5⟩ : ∃ x0, (m_X0_areFull u4 vo_stand_size vo_stand_takes p1) = x0 := ⟨_, rfl⟩
  replace hT := cut_n ev_5 hT
  refine zz_ci [4, 5, 6, 8] [0, 1, 2, 3, 7, 9, 10] (wr := [(o, .inr (5, [.ref o_page, .ref o_reader, .ref o_stand, .ref o_trialStand, .ref o_table, .ref o_kept, .ref o_trial, .int vo_imageKept, .int vo_towersRead, .int vo_changesDone])), (o_table, .inr (4, [.ref o_table_fill, .ref o_table_drunkFrom, .ref o_table_turns, .int vo_table_poured])), (o_table_fill, .inr (0, [.ref o_table_fill_inside, .long vo_table_fill_spilt])), (o_table_fill_inside, .inl (cJ, 9, .inr (.inl vo_table_fill_inside))), (o_stand_kinds, .inl (cI, 9, .inl vo_stand_kinds)), (o_stand_shareCounts, .inl (cI, 9, .inl vo_stand_shareCounts)), (o_stand_shares, .inl (cI, 27, .inl vo_stand_shares))]) (w1 := [(o_trial, .inr (0, [.ref o_trial_inside, .long u3])), (o_trial_inside, .inl (cJ, 9, .inr (.inl u4))), (o_stand, .inr (3, [.ref o_stand_kinds, .ref o_stand_holds, .ref o_stand_takes, .ref o_stand_shareCounts, .ref o_stand_shares, .int vo_stand_size])), (o_stand_takes, .inl (cI, 9, .inl vo_stand_takes))]) (va_runV (As := [.ref o_stand, .int p1]) (rest := []) ⟨hx, hb, hml, hown, hts⟩ (k_X0_areFull l dC dI cI cJ cC H.size o_trial o_trial_inside o_stand o_stand_kinds o_stand_holds o_stand_takes o_stand_shareCounts o_stand_shares u3 u4 vo_stand_size vo_stand_takes p1 r5 ev_5 hs0 hs9) (cwV 2 hts gX5_wouldFill_X0_areFull rfl rfl rfl (by decide +kernel) ⟨Nat.le_of_ble_eq_true rfl, Nat.le_of_ble_eq_true rfl⟩) (zz_preV [4, 5, 6, 8] hK hP hD rfl rfl (va_recv hK hP (ci := 0) (q0 := 4) rfl rfl)) rfl rfl hl.1 rfl (lv_room (Nat.le_of_ble_eq_true rfl)) dX5_wouldFill_36 ⟨Nat.zero_le _, Nat.zero_le _⟩) hP hD hS hA rfl rfl rfl (by decide) (fun ok_6 H locs hP hD hS => ?_)
  have hP : va_P (dC, dI) vwCl [(o, .inr (5, [.ref o_page, .ref o_reader, .ref o_stand, .ref o_trialStand, .ref o_table, .ref o_kept, .ref o_trial, .int vo_imageKept, .int vo_towersRead, .int vo_changesDone])), (o_table, .inr (4, [.ref o_table_fill, .ref o_table_drunkFrom, .ref o_table_turns, .int vo_table_poured])), (o_table_fill, .inr (0, [.ref o_table_fill_inside, .long vo_table_fill_spilt])), (o_table_fill_inside, .inl (cJ, 9, .inr (.inl vo_table_fill_inside))), (o_stand_kinds, .inl (cI, 9, .inl vo_stand_kinds)), (o_stand_shareCounts, .inl (cI, 9, .inl vo_stand_shareCounts)), (o_stand_shares, .inl (cI, 27, .inl vo_stand_shares)), (o_trial, .inr (0, [.ref o_trial_inside, .long u3])), (o_trial_inside, .inl (cJ, 9, .inr (.inl u4))), (o_stand, .inr (3, [.ref o_stand_kinds, .ref o_stand_holds, .ref o_stand_takes, .ref o_stand_shareCounts, .ref o_stand_shares, .int vo_stand_size])), (o_stand_takes, .inl (cI, 9, .inl vo_stand_takes))] H := hP
  have hD : va_D A [(o, .inr (5, [.ref o_page, .ref o_reader, .ref o_stand, .ref o_trialStand, .ref o_table, .ref o_kept, .ref o_trial, .int vo_imageKept, .int vo_towersRead, .int vo_changesDone])), (o_table, .inr (4, [.ref o_table_fill, .ref o_table_drunkFrom, .ref o_table_turns, .int vo_table_poured])), (o_table_fill, .inr (0, [.ref o_table_fill_inside, .long vo_table_fill_spilt])), (o_table_fill_inside, .inl (cJ, 9, .inr (.inl vo_table_fill_inside))), (o_stand_kinds, .inl (cI, 9, .inl vo_stand_kinds)), (o_stand_shareCounts, .inl (cI, 9, .inl vo_stand_shareCounts)), (o_stand_shares, .inl (cI, 27, .inl vo_stand_shares)), (o_trial, .inr (0, [.ref o_trial_inside, .long u3])), (o_trial_inside, .inl (cJ, 9, .inr (.inl u4))), (o_stand, .inr (3, [.ref o_stand_kinds, .ref o_stand_holds, .ref o_stand_takes, .ref o_stand_shareCounts, .ref o_stand_shares, .int vo_stand_size])), (o_stand_takes, .inl (cI, 9, .inl vo_stand_takes))] := hD
  have hP9 := hP
  have hD9 := hD
  have hS9 := hS
  have hT : (r5, u3, u4) = (r, qo_trial_spilt, qo_trial_inside) := hT
  cases hT
  subst hQ
  exact zz_zret hx hb hr (zB01.nar ok_6) [0, 9, 4, 10, 5, 6, 1, 2, 3, 7, 8] hK hP9 hD9 hS9 rfl rfl ok_6 hlocks dX5_wouldFill_39

def rs_X5_leastToFill_2  (x9 : Int32) (x10 : Int32) (x11 : Int32) (x12 : Int64) (x13 : Nat → Int64) : Int32 × Int64 × (Nat → Int64) :=
 (x10, x12, x13)
def lp_X5_leastToFill_2 (ct2 : Int32 → Int32 → Int32 → Int64 → (Nat → Int64) → (Int32 × Int64 × (Nat → Int64))) (vo_stand_size : Int32) (vo_stand_kinds : Nat → Int32) (vo_stand_takes : Nat → Int32) (vo_stand_shareCounts : Nat → Int32) (vo_stand_shares : Nat → Int32) (vo_table_fill_spilt : Int64) (vo_table_fill_inside : Nat → Int64) (p1 : Int32) (p2 : Int32) : Nat → Int32 → Int32 → Int32 → Int64 → (Nat → Int64) → (Int32 × Int64 × (Nat → Int64))
  | 0, _, _, _, _, _ => default
  | k + 1, b4, b5, b6, b7, b8 =>
  if (10 : Int32) ≤ b4 then
   (ct2 b4 b5 b6 b7 b8)
  else
   if b5 ≤ b6 then
    (ct2 b4 b5 b6 b7 b8)
   else
    cut ((b6 + b5) / (2 : Int32)) (fun (v14 : Int32) =>
    cut3 (m_X5_wouldFill vo_stand_size vo_stand_kinds vo_stand_takes vo_stand_shareCounts vo_stand_shares vo_table_fill_spilt vo_table_fill_inside b8 p1 p2 v14) (fun (r15 : Int32) (u16 : Int64) (u17 : Nat → Int64) =>
    if r15 = (0 : Int32) then
     cut (v14 + (1 : Int32)) (fun (v18 : Int32) =>
     cut (b4 + (1 : Int32)) (fun (v19 : Int32) =>
     (lp_X5_leastToFill_2 ct2 vo_stand_size vo_stand_kinds vo_stand_takes vo_stand_shareCounts vo_stand_shares vo_table_fill_spilt vo_table_fill_inside p1 p2 k v19 b5 v18 u16 u17)))
    else
     cut (b4 + (1 : Int32)) (fun (v20 : Int32) =>
     (lp_X5_leastToFill_2 ct2 vo_stand_size vo_stand_kinds vo_stand_takes vo_stand_shareCounts vo_stand_shares vo_table_fill_spilt vo_table_fill_inside p1 p2 k v20 v14 b6 u16 u17))))
def m_X5_leastToFill (vo_stand_size : Int32) (vo_stand_kinds : Nat → Int32) (vo_stand_takes : Nat → Int32) (vo_stand_shareCounts : Nat → Int32) (vo_stand_shares : Nat → Int32) (vo_table_fill_spilt : Int64) (vo_table_fill_inside : Nat → Int64) (vo_trial_inside : Nat → Int64) (p1 : Int32) (p2 : Int32) : Int32 × Int64 × (Nat → Int64) :=
 cut3 (m_X5_wouldFill vo_stand_size vo_stand_kinds vo_stand_takes vo_stand_shareCounts vo_stand_shares vo_table_fill_spilt vo_table_fill_inside vo_trial_inside p1 p2 (999 : Int32)) (fun (r1 : Int32) (u2 : Int64) (u3 : Nat → Int64) =>
 if r1 = (0 : Int32) then
  ((-1 : Int32), u2, u3)
 else
  (lp_X5_leastToFill_2 rs_X5_leastToFill_2 vo_stand_size vo_stand_kinds vo_stand_takes vo_stand_shareCounts vo_stand_shares vo_table_fill_spilt vo_table_fill_inside p1 p2 12 (0 : Int32) (999 : Int32) (0 : Int32) u2 u3))
set_option maxHeartbeats 4000000 in
set_option maxRecDepth 100000 in
theorem k_X5_leastToFill (l : Launch) (dC : Nat → ClassId) (dI : Nat → Nat → Nat) (cI cJ cC : ClassId) (sz : Nat) (o o_page o_reader o_stand o_trialStand o_table o_kept o_trial o_stand_kinds o_stand_holds o_stand_takes o_stand_shareCounts o_stand_shares o_table_fill o_table_drunkFrom o_table_turns o_table_fill_inside o_trial_inside : Nat) (vo_imageKept : Int32) (vo_towersRead : Int32) (vo_changesDone : Int32) (vo_stand_size : Int32) (vo_stand_kinds : Nat → Int32) (vo_stand_takes : Nat → Int32) (vo_stand_shareCounts : Nat → Int32) (vo_stand_shares : Nat → Int32) (vo_table_poured : Int32) (vo_table_fill_spilt : Int64) (vo_table_fill_inside : Nat → Int64) (vo_trial_spilt : Int64) (vo_trial_inside : Nat → Int64) (p1 : Int32) (p2 : Int32) (r : Int32) (qo_trial_spilt : Int64) (qo_trial_inside : Nat → Int64) (hT : m_X5_leastToFill vo_stand_size vo_stand_kinds vo_stand_takes vo_stand_shareCounts vo_stand_shares vo_table_fill_spilt vo_table_fill_inside vo_trial_inside p1 p2 = (r, qo_trial_spilt, qo_trial_inside)) (hs0 : 0 ≤ vo_stand_size.toInt) (hs9 : vo_stand_size.toInt ≤ 9) (hsc : zSc vo_stand_shareCounts) : Met l yX5_leastToFill wsX5_leastToFill ({ frames := 6, cells := 0, slots := 0, locals := 144 }) (zPc [.ref o, .int p1, .int p2] (dC, dI) (zTy cI cJ cC) [(o, .inr (5, [.ref o_page, .ref o_reader, .ref o_stand, .ref o_trialStand, .ref o_table, .ref o_kept, .ref o_trial, .int vo_imageKept, .int vo_towersRead, .int vo_changesDone])), (o_stand, .inr (3, [.ref o_stand_kinds, .ref o_stand_holds, .ref o_stand_takes, .ref o_stand_shareCounts, .ref o_stand_shares, .int vo_stand_size])), (o_stand_kinds, .inl (cI, 9, .inl vo_stand_kinds)), (o_stand_takes, .inl (cI, 9, .inl vo_stand_takes)), (o_stand_shareCounts, .inl (cI, 9, .inl vo_stand_shareCounts)), (o_stand_shares, .inl (cI, 27, .inl vo_stand_shares)), (o_table, .inr (4, [.ref o_table_fill, .ref o_table_drunkFrom, .ref o_table_turns, .int vo_table_poured])), (o_table_fill, .inr (0, [.ref o_table_fill_inside, .long vo_table_fill_spilt])), (o_table_fill_inside, .inl (cJ, 9, .inr (.inl vo_table_fill_inside))), (o_trial, .inr (0, [.ref o_trial_inside, .long vo_trial_spilt])), (o_trial_inside, .inl (cJ, 9, .inr (.inl vo_trial_inside)))] sz) (zQi r (True) (dC, dI) (zTy cI cJ cC) [(o, .inr (5, [.ref o_page, .ref o_reader, .ref o_stand, .ref o_trialStand, .ref o_table, .ref o_kept, .ref o_trial, .int vo_imageKept, .int vo_towersRead, .int vo_changesDone])), (o_stand, .inr (3, [.ref o_stand_kinds, .ref o_stand_holds, .ref o_stand_takes, .ref o_stand_shareCounts, .ref o_stand_shares, .int vo_stand_size])), (o_stand_kinds, .inl (cI, 9, .inl vo_stand_kinds)), (o_stand_takes, .inl (cI, 9, .inl vo_stand_takes)), (o_stand_shareCounts, .inl (cI, 9, .inl vo_stand_shareCounts)), (o_stand_shares, .inl (cI, 27, .inl vo_stand_shares)), (o_table, .inr (4, [.ref o_table_fill, .ref o_table_drunkFrom, .ref o_table_turns, .int vo_table_poured])), (o_table_fill, .inr (0, [.ref o_table_fill_inside, .long vo_table_fill_spilt])), (o_table_fill_inside, .inl (cJ, 9, .inr (.inl vo_table_fill_inside))), (o_trial, .inr (0, [.ref o_trial_inside, .long qo_trial_spilt])), (o_trial_inside, .inl (cJ, 9, .inr (.inl qo_trial_inside)))] (va_A [(o, .inr (5, [.ref o_page, .ref o_reader, .ref o_stand, .ref o_trialStand, .ref o_table, .ref o_kept, .ref o_trial, .int vo_imageKept, .int vo_towersRead, .int vo_changesDone])), (o_stand, .inr (3, [.ref o_stand_kinds, .ref o_stand_holds, .ref o_stand_takes, .ref o_stand_shareCounts, .ref o_stand_shares, .int vo_stand_size])), (o_stand_kinds, .inl (cI, 9, .inl vo_stand_kinds)), (o_stand_takes, .inl (cI, 9, .inl vo_stand_takes)), (o_stand_shareCounts, .inl (cI, 9, .inl vo_stand_shareCounts)), (o_stand_shares, .inl (cI, 27, .inl vo_stand_shares)), (o_table, .inr (4, [.ref o_table_fill, .ref o_table_drunkFrom, .ref o_table_turns, .int vo_table_poured])), (o_table_fill, .inr (0, [.ref o_table_fill_inside, .long vo_table_fill_spilt])), (o_table_fill_inside, .inl (cJ, 9, .inr (.inl vo_table_fill_inside))), (o_trial, .inr (0, [.ref o_trial_inside, .long vo_trial_spilt])), (o_trial_inside, .inl (cJ, 9, .inr (.inl vo_trial_inside)))] sz)) 0 0 (va_A [(o, .inr (5, [.ref o_page, .ref o_reader, .ref o_stand, .ref o_trialStand, .ref o_table, .ref o_kept, .ref o_trial, .int vo_imageKept, .int vo_towersRead, .int vo_changesDone])), (o_stand, .inr (3, [.ref o_stand_kinds, .ref o_stand_holds, .ref o_stand_takes, .ref o_stand_shareCounts, .ref o_stand_shares, .int vo_stand_size])), (o_stand_kinds, .inl (cI, 9, .inl vo_stand_kinds)), (o_stand_takes, .inl (cI, 9, .inl vo_stand_takes)), (o_stand_shareCounts, .inl (cI, 9, .inl vo_stand_shareCounts)), (o_stand_shares, .inl (cI, 27, .inl vo_stand_shares)), (o_table, .inr (4, [.ref o_table_fill, .ref o_table_drunkFrom, .ref o_table_turns, .int vo_table_poured])), (o_table_fill, .inr (0, [.ref o_table_fill_inside, .long vo_table_fill_spilt])), (o_table_fill_inside, .inl (cJ, 9, .inr (.inl vo_table_fill_inside))), (o_trial, .inr (0, [.ref o_trial_inside, .long vo_trial_spilt])), (o_trial_inside, .inl (cJ, 9, .inr (.inl vo_trial_inside)))] sz) := by
  refine Met.ofW (cc := cX5_leastToFill) (maxL := 7) (ret := (some .int)) (by decide) rfl ?_
  intro p e s m args below meth c s₁ B hml hv
  obtain ⟨rfl, hsz, hP, hK, hD0⟩ := hv
  have hx := B.exec
  have hb := B.bytes
  have hr := B.returns
  have hts := atoms_spec (ws := wsX5_leastToFill) B.pre
  have hown : s.vm.findClass RX5 = some m.cls := findClass_of_methodNamed B.named
  have hlocks := B.notSynchronized
  subst hsz
  have hD := hD0.self (sz := s.heap.size)
  generalize hAe : va_A [(o, .inr (5, [.ref o_page, .ref o_reader, .ref o_stand, .ref o_trialStand, .ref o_table, .ref o_kept, .ref o_trial, .int vo_imageKept, .int vo_towersRead, .int vo_changesDone])), (o_stand, .inr (3, [.ref o_stand_kinds, .ref o_stand_holds, .ref o_stand_takes, .ref o_stand_shareCounts, .ref o_stand_shares, .int vo_stand_size])), (o_stand_kinds, .inl (cI, 9, .inl vo_stand_kinds)), (o_stand_takes, .inl (cI, 9, .inl vo_stand_takes)), (o_stand_shareCounts, .inl (cI, 9, .inl vo_stand_shareCounts)), (o_stand_shares, .inl (cI, 27, .inl vo_stand_shares)), (o_table, .inr (4, [.ref o_table_fill, .ref o_table_drunkFrom, .ref o_table_turns, .int vo_table_poured])), (o_table_fill, .inr (0, [.ref o_table_fill_inside, .long vo_table_fill_spilt])), (o_table_fill_inside, .inl (cJ, 9, .inr (.inl vo_table_fill_inside))), (o_trial, .inr (0, [.ref o_trial_inside, .long vo_trial_spilt])), (o_trial_inside, .inl (cJ, 9, .inr (.inl vo_trial_inside)))] s.heap.size = A at hD ⊢
  have hA : ∀ q : Nat, s.heap.size ≤ q → A q := fun q h => by rw [← hAe]; exact Or.inr h
  have hS : va_S A s.heap s.heap [] := va_S.rf
  have hP : va_P (dC, dI) vwCl [(o, .inr (5, [.ref o_page, .ref o_reader, .ref o_stand, .ref o_trialStand, .ref o_table, .ref o_kept, .ref o_trial, .int vo_imageKept, .int vo_towersRead, .int vo_changesDone])), (o_stand, .inr (3, [.ref o_stand_kinds, .ref o_stand_holds, .ref o_stand_takes, .ref o_stand_shareCounts, .ref o_stand_shares, .int vo_stand_size])), (o_stand_kinds, .inl (cI, 9, .inl vo_stand_kinds)), (o_stand_takes, .inl (cI, 9, .inl vo_stand_takes)), (o_stand_shareCounts, .inl (cI, 9, .inl vo_stand_shareCounts)), (o_stand_shares, .inl (cI, 27, .inl vo_stand_shares)), (o_table, .inr (4, [.ref o_table_fill, .ref o_table_drunkFrom, .ref o_table_turns, .int vo_table_poured])), (o_table_fill, .inr (0, [.ref o_table_fill_inside, .long vo_table_fill_spilt])), (o_table_fill_inside, .inl (cJ, 9, .inr (.inl vo_table_fill_inside))), (o_trial, .inr (0, [.ref o_trial_inside, .long vo_trial_spilt])), (o_trial_inside, .inl (cJ, 9, .inr (.inl vo_trial_inside)))] s.heap := hP
  have hK : va_K (dC, dI) vwCl (zTy cI cJ cC) s := hK
  have hl := lv_entry ([.ref o, .int p1, .int p2]) (n := 7) (Nat.le_of_ble_eq_true rfl)
  rw [lg_entry_eq]
  generalize (lg_sl ([.ref o, .int p1, .int p2]) ++ List.replicate (7 - (lg_sl ([.ref o, .int p1, .int p2])).length) Slot.unset).toArray = ls at hl ⊢
  have hl : lv_has ls 7 [(0, .ref o), (1, .int p1), (2, .int p2)] := hl
  refine zz_start hP hS (fun Q hQ H locs hP hS => ?_)
  refine lv_aload_n hx hb dX5_leastToFill_0 rfl (lv_at hl 0 rfl) ?_
  refine lv_iload_n hx hb dX5_leastToFill_1 rfl (lv_at hl 1 rfl) ?_
  refine lv_iload_n hx hb dX5_leastToFill_2 rfl (lv_at hl 2 rfl) ?_
  refine lv_sipush (v := (999 : Int32)) hx hb dX5_leastToFill_3 (by decide) ?_
  obtain ⟨r1, u2, u3, ev_1⟩ : ∃ x0 x1 x2, (m_X5_wouldFill vo_stand_size vo_stand_kinds vo_stand_takes vo_stand_shareCounts vo_stand_shares vo_table_fill_spilt vo_table_fill_inside vo_trial_inside p1 p2 (999 : Int32)) = (x0, x1, x2) := ⟨_, _, _, rfl⟩
  replace hT := cut3_n ev_1 hT
  refine zz_ci [0, 1, 2, 3, 4, 5, 6, 7, 8, 9, 10] [] (wr := []) (w1 := [(o, .inr (5, [.ref o_page, .ref o_reader, .ref o_stand, .ref o_trialStand, .ref o_table, .ref o_kept, .ref o_trial, .int vo_imageKept, .int vo_towersRead, .int vo_changesDone])), (o_stand, .inr (3, [.ref o_stand_kinds, .ref o_stand_holds, .ref o_stand_takes, .ref o_stand_shareCounts, .ref o_stand_shares, .int vo_stand_size])), (o_stand_kinds, .inl (cI, 9, .inl vo_stand_kinds)), (o_stand_takes, .inl (cI, 9, .inl vo_stand_takes)), (o_stand_shareCounts, .inl (cI, 9, .inl vo_stand_shareCounts)), (o_stand_shares, .inl (cI, 27, .inl vo_stand_shares)), (o_table, .inr (4, [.ref o_table_fill, .ref o_table_drunkFrom, .ref o_table_turns, .int vo_table_poured])), (o_table_fill, .inr (0, [.ref o_table_fill_inside, .long vo_table_fill_spilt])), (o_table_fill_inside, .inl (cJ, 9, .inr (.inl vo_table_fill_inside))), (o_trial, .inr (0, [.ref o_trial_inside, .long u2])), (o_trial_inside, .inl (cJ, 9, .inr (.inl u3)))]) (va_runV (As := [.int p1, .int p2, .int (999 : Int32)]) (rest := []) ⟨hx, hb, hml, hown, hts⟩ (k_X5_wouldFill l dC dI cI cJ cC H.size o o_page o_reader o_stand o_trialStand o_table o_kept o_trial o_stand_kinds o_stand_holds o_stand_takes o_stand_shareCounts o_stand_shares o_table_fill o_table_drunkFrom o_table_turns o_table_fill_inside o_trial_inside vo_imageKept vo_towersRead vo_changesDone vo_stand_size vo_stand_kinds vo_stand_takes vo_stand_shareCounts vo_stand_shares vo_table_poured vo_table_fill_spilt vo_table_fill_inside vo_trial_spilt vo_trial_inside p1 p2 (999 : Int32) r1 u2 u3 ev_1 hs0 hs9 hsc) (cwV 3 hts gX5_leastToFill_X5_wouldFill rfl rfl rfl (by decide +kernel) ⟨Nat.le_of_ble_eq_true rfl, Nat.le_of_ble_eq_true rfl⟩) (zz_preV [0, 1, 2, 3, 4, 5, 6, 7, 8, 9, 10] hK hP hD rfl rfl (va_recv hK hP (ci := 5) (q0 := 0) rfl rfl)) rfl rfl hl.1 rfl (lv_room (Nat.le_of_ble_eq_true rfl)) dX5_leastToFill_6 ⟨Nat.zero_le _, Nat.zero_le _⟩) hP hD hS hA rfl rfl rfl (by decide) (fun ok_2 H locs hP hD hS => ?_)
  have hP : va_P (dC, dI) vwCl [(o, .inr (5, [.ref o_page, .ref o_reader, .ref o_stand, .ref o_trialStand, .ref o_table, .ref o_kept, .ref o_trial, .int vo_imageKept, .int vo_towersRead, .int vo_changesDone])), (o_stand, .inr (3, [.ref o_stand_kinds, .ref o_stand_holds, .ref o_stand_takes, .ref o_stand_shareCounts, .ref o_stand_shares, .int vo_stand_size])), (o_stand_kinds, .inl (cI, 9, .inl vo_stand_kinds)), (o_stand_takes, .inl (cI, 9, .inl vo_stand_takes)), (o_stand_shareCounts, .inl (cI, 9, .inl vo_stand_shareCounts)), (o_stand_shares, .inl (cI, 27, .inl vo_stand_shares)), (o_table, .inr (4, [.ref o_table_fill, .ref o_table_drunkFrom, .ref o_table_turns, .int vo_table_poured])), (o_table_fill, .inr (0, [.ref o_table_fill_inside, .long vo_table_fill_spilt])), (o_table_fill_inside, .inl (cJ, 9, .inr (.inl vo_table_fill_inside))), (o_trial, .inr (0, [.ref o_trial_inside, .long u2])), (o_trial_inside, .inl (cJ, 9, .inr (.inl u3)))] H := hP
  have hD : va_D A [(o, .inr (5, [.ref o_page, .ref o_reader, .ref o_stand, .ref o_trialStand, .ref o_table, .ref o_kept, .ref o_trial, .int vo_imageKept, .int vo_towersRead, .int vo_changesDone])), (o_stand, .inr (3, [.ref o_stand_kinds, .ref o_stand_holds, .ref o_stand_takes, .ref o_stand_shareCounts, .ref o_stand_shares, .int vo_stand_size])), (o_stand_kinds, .inl (cI, 9, .inl vo_stand_kinds)), (o_stand_takes, .inl (cI, 9, .inl vo_stand_takes)), (o_stand_shareCounts, .inl (cI, 9, .inl vo_stand_shareCounts)), (o_stand_shares, .inl (cI, 27, .inl vo_stand_shares)), (o_table, .inr (4, [.ref o_table_fill, .ref o_table_drunkFrom, .ref o_table_turns, .int vo_table_poured])), (o_table_fill, .inr (0, [.ref o_table_fill_inside, .long vo_table_fill_spilt])), (o_table_fill_inside, .inl (cJ, 9, .inr (.inl vo_table_fill_inside))), (o_trial, .inr (0, [.ref o_trial_inside, .long u2])), (o_trial_inside, .inl (cJ, 9, .inr (.inl u3)))] := hD
  refine lv_if_ne (tgt := 14) hx hb dX5_leastToFill_9 (by decide) (fun c_3 => ?_) (fun c_3 => ?_)
  · replace hT := cutF c_3 hT
    have g_10 := zeqF (rfl : (r1).toInt = _) (by decide : ((0 : Int32)).toInt = 0) c_3
    refine lv_iconst (v := (0 : Int32)) hx hb dX5_leastToFill_14 (by decide) ?_
    refine lv_istore_n (lv' := [(3, .int (0 : Int32)), (0, .ref o), (1, .int p1), (2, .int p2)]) hx hb dX5_leastToFill_15 rfl hl (by decide) rfl (fun ls hl => ?_)
    refine lv_sipush (v := (999 : Int32)) hx hb dX5_leastToFill_16 (by decide) ?_
    refine lv_istore (lv' := [(4, .int (999 : Int32)), (3, .int (0 : Int32)), (0, .ref o), (1, .int p1), (2, .int p2)]) hx hb dX5_leastToFill_19 hl (by decide) rfl (fun ls hl => ?_)
    refine lv_iconst (v := (0 : Int32)) hx hb dX5_leastToFill_21 (by decide) ?_
    refine lv_istore (lv' := [(5, .int (0 : Int32)), (4, .int (999 : Int32)), (3, .int (0 : Int32)), (0, .ref o), (1, .int p1), (2, .int p2)]) hx hb dX5_leastToFill_22 hl (by decide) rfl (fun ls hl => ?_)
    have hz_11 : ((0 : Int32)).toInt = 0 := by decide
    have hz_12 : ((999 : Int32)).toInt = 999 := by decide
    have hz_13 : ((0 : Int32)).toInt = 0 := by decide
    refine zz_loop (α := Int32 × Int32 × Int32 × Int64 × (Nat → Int64)) 74 (fun k a H locs ls => (0 ≤ a.1.toInt) ∧ (a.1.toInt ≤ 10) ∧ (10 - a.1.toInt < ((k : Nat) : Int)) ∧ lp_X5_leastToFill_2 rs_X5_leastToFill_2 vo_stand_size vo_stand_kinds vo_stand_takes vo_stand_shareCounts vo_stand_shares vo_table_fill_spilt vo_table_fill_inside p1 p2 k a.1 a.2.1 a.2.2.1 a.2.2.2.1 a.2.2.2.2 = (r, qo_trial_spilt, qo_trial_inside) ∧ va_P (dC, dI) vwCl [(o, .inr (5, [.ref o_page, .ref o_reader, .ref o_stand, .ref o_trialStand, .ref o_table, .ref o_kept, .ref o_trial, .int vo_imageKept, .int vo_towersRead, .int vo_changesDone])), (o_stand, .inr (3, [.ref o_stand_kinds, .ref o_stand_holds, .ref o_stand_takes, .ref o_stand_shareCounts, .ref o_stand_shares, .int vo_stand_size])), (o_stand_kinds, .inl (cI, 9, .inl vo_stand_kinds)), (o_stand_takes, .inl (cI, 9, .inl vo_stand_takes)), (o_stand_shareCounts, .inl (cI, 9, .inl vo_stand_shareCounts)), (o_stand_shares, .inl (cI, 27, .inl vo_stand_shares)), (o_table, .inr (4, [.ref o_table_fill, .ref o_table_drunkFrom, .ref o_table_turns, .int vo_table_poured])), (o_table_fill, .inr (0, [.ref o_table_fill_inside, .long vo_table_fill_spilt])), (o_table_fill_inside, .inl (cJ, 9, .inr (.inl vo_table_fill_inside))), (o_trial, .inr (0, [.ref o_trial_inside, .long a.2.2.2.1])), (o_trial_inside, .inl (cJ, 9, .inr (.inl a.2.2.2.2)))] H ∧ va_D A [(o, .inr (5, [.ref o_page, .ref o_reader, .ref o_stand, .ref o_trialStand, .ref o_table, .ref o_kept, .ref o_trial, .int vo_imageKept, .int vo_towersRead, .int vo_changesDone])), (o_stand, .inr (3, [.ref o_stand_kinds, .ref o_stand_holds, .ref o_stand_takes, .ref o_stand_shareCounts, .ref o_stand_shares, .int vo_stand_size])), (o_stand_kinds, .inl (cI, 9, .inl vo_stand_kinds)), (o_stand_takes, .inl (cI, 9, .inl vo_stand_takes)), (o_stand_shareCounts, .inl (cI, 9, .inl vo_stand_shareCounts)), (o_stand_shares, .inl (cI, 27, .inl vo_stand_shares)), (o_table, .inr (4, [.ref o_table_fill, .ref o_table_drunkFrom, .ref o_table_turns, .int vo_table_poured])), (o_table_fill, .inr (0, [.ref o_table_fill_inside, .long vo_table_fill_spilt])), (o_table_fill_inside, .inl (cJ, 9, .inr (.inl vo_table_fill_inside))), (o_trial, .inr (0, [.ref o_trial_inside, .long a.2.2.2.1])), (o_trial_inside, .inl (cJ, 9, .inr (.inl a.2.2.2.2)))] ∧ va_S A s.heap H locs ∧ lv_has ls 7 [(5, .int a.1), (4, .int a.2.1), (3, .int a.2.2.1), (0, .ref o), (1, .int p1), (2, .int p2)]) (fun a H locs ls => (0 ≤ a.1.toInt) ∧ (a.1.toInt ≤ 10) ∧ rs_X5_leastToFill_2 a.1 a.2.1 a.2.2.1 a.2.2.2.1 a.2.2.2.2 = (r, qo_trial_spilt, qo_trial_inside) ∧ va_P (dC, dI) vwCl [(o, .inr (5, [.ref o_page, .ref o_reader, .ref o_stand, .ref o_trialStand, .ref o_table, .ref o_kept, .ref o_trial, .int vo_imageKept, .int vo_towersRead, .int vo_changesDone])), (o_stand, .inr (3, [.ref o_stand_kinds, .ref o_stand_holds, .ref o_stand_takes, .ref o_stand_shareCounts, .ref o_stand_shares, .int vo_stand_size])), (o_stand_kinds, .inl (cI, 9, .inl vo_stand_kinds)), (o_stand_takes, .inl (cI, 9, .inl vo_stand_takes)), (o_stand_shareCounts, .inl (cI, 9, .inl vo_stand_shareCounts)), (o_stand_shares, .inl (cI, 27, .inl vo_stand_shares)), (o_table, .inr (4, [.ref o_table_fill, .ref o_table_drunkFrom, .ref o_table_turns, .int vo_table_poured])), (o_table_fill, .inr (0, [.ref o_table_fill_inside, .long vo_table_fill_spilt])), (o_table_fill_inside, .inl (cJ, 9, .inr (.inl vo_table_fill_inside))), (o_trial, .inr (0, [.ref o_trial_inside, .long a.2.2.2.1])), (o_trial_inside, .inl (cJ, 9, .inr (.inl a.2.2.2.2)))] H ∧ va_D A [(o, .inr (5, [.ref o_page, .ref o_reader, .ref o_stand, .ref o_trialStand, .ref o_table, .ref o_kept, .ref o_trial, .int vo_imageKept, .int vo_towersRead, .int vo_changesDone])), (o_stand, .inr (3, [.ref o_stand_kinds, .ref o_stand_holds, .ref o_stand_takes, .ref o_stand_shareCounts, .ref o_stand_shares, .int vo_stand_size])), (o_stand_kinds, .inl (cI, 9, .inl vo_stand_kinds)), (o_stand_takes, .inl (cI, 9, .inl vo_stand_takes)), (o_stand_shareCounts, .inl (cI, 9, .inl vo_stand_shareCounts)), (o_stand_shares, .inl (cI, 27, .inl vo_stand_shares)), (o_table, .inr (4, [.ref o_table_fill, .ref o_table_drunkFrom, .ref o_table_turns, .int vo_table_poured])), (o_table_fill, .inr (0, [.ref o_table_fill_inside, .long vo_table_fill_spilt])), (o_table_fill_inside, .inl (cJ, 9, .inr (.inl vo_table_fill_inside))), (o_trial, .inr (0, [.ref o_trial_inside, .long a.2.2.2.1])), (o_trial_inside, .inl (cJ, 9, .inr (.inl a.2.2.2.2)))] ∧ va_S A s.heap H locs ∧ lv_has ls 7 [(4, .int a.2.1)]) ?_ ?_ ?_ 12 ((0 : Int32), (999 : Int32), (0 : Int32), u2, u3) ⟨(by omega : 0 ≤ (0 : Int32).toInt), (by omega : (0 : Int32).toInt ≤ 10), (by omega : 10 - (0 : Int32).toInt < ((12 : Nat) : Int)), hT, hP.sub [0, 1, 2, 3, 4, 5, 6, 7, 8, 9, 10] rfl, hD.sub [0, 1, 2, 3, 4, 5, 6, 7, 8, 9, 10] rfl rfl, hS, lv_sub hl [0, 1, 2, 3, 4, 5] rfl⟩
    · rintro ⟨x9, x10, x11, x12, x13⟩ H locs ls ⟨i1, j1, hT, hP, hD, hS, hl⟩
      have hP : va_P (dC, dI) vwCl [(o, .inr (5, [.ref o_page, .ref o_reader, .ref o_stand, .ref o_trialStand, .ref o_table, .ref o_kept, .ref o_trial, .int vo_imageKept, .int vo_towersRead, .int vo_changesDone])), (o_stand, .inr (3, [.ref o_stand_kinds, .ref o_stand_holds, .ref o_stand_takes, .ref o_stand_shareCounts, .ref o_stand_shares, .int vo_stand_size])), (o_stand_kinds, .inl (cI, 9, .inl vo_stand_kinds)), (o_stand_takes, .inl (cI, 9, .inl vo_stand_takes)), (o_stand_shareCounts, .inl (cI, 9, .inl vo_stand_shareCounts)), (o_stand_shares, .inl (cI, 27, .inl vo_stand_shares)), (o_table, .inr (4, [.ref o_table_fill, .ref o_table_drunkFrom, .ref o_table_turns, .int vo_table_poured])), (o_table_fill, .inr (0, [.ref o_table_fill_inside, .long vo_table_fill_spilt])), (o_table_fill_inside, .inl (cJ, 9, .inr (.inl vo_table_fill_inside))), (o_trial, .inr (0, [.ref o_trial_inside, .long x12])), (o_trial_inside, .inl (cJ, 9, .inr (.inl x13)))] H := hP
      have hD : va_D A [(o, .inr (5, [.ref o_page, .ref o_reader, .ref o_stand, .ref o_trialStand, .ref o_table, .ref o_kept, .ref o_trial, .int vo_imageKept, .int vo_towersRead, .int vo_changesDone])), (o_stand, .inr (3, [.ref o_stand_kinds, .ref o_stand_holds, .ref o_stand_takes, .ref o_stand_shareCounts, .ref o_stand_shares, .int vo_stand_size])), (o_stand_kinds, .inl (cI, 9, .inl vo_stand_kinds)), (o_stand_takes, .inl (cI, 9, .inl vo_stand_takes)), (o_stand_shareCounts, .inl (cI, 9, .inl vo_stand_shareCounts)), (o_stand_shares, .inl (cI, 27, .inl vo_stand_shares)), (o_table, .inr (4, [.ref o_table_fill, .ref o_table_drunkFrom, .ref o_table_turns, .int vo_table_poured])), (o_table_fill, .inr (0, [.ref o_table_fill_inside, .long vo_table_fill_spilt])), (o_table_fill_inside, .inl (cJ, 9, .inr (.inl vo_table_fill_inside))), (o_trial, .inr (0, [.ref o_trial_inside, .long x12])), (o_trial_inside, .inl (cJ, 9, .inr (.inl x13)))] := hD
      have hl : lv_has ls 7 [(4, .int x10)] := hl
      have hT : rs_X5_leastToFill_2 x9 x10 x11 x12 x13 = (r, qo_trial_spilt, qo_trial_inside) := hT
      have i1 : 0 ≤ x9.toInt := i1
      have j1 : x9.toInt ≤ 10 := j1
      refine lv_iload hx hb dX5_leastToFill_74 (lv_at hl 0 rfl) ?_
      have hP9 := hP
      have hD9 := hD
      have hS9 := hS
      have hT : (x10, x12, x13) = (r, qo_trial_spilt, qo_trial_inside) := hT
      cases hT
      subst hQ
      exact zz_iret hx hb hr [0, 1, 2, 3, 4, 5, 6, 7, 8, 9, 10] hK hP9 hD9 hS9 rfl rfl trivial hlocks dX5_leastToFill_76
    · rintro ⟨b4, b5, b6, b7, b8⟩ H locs ls ⟨i1, j1, hm, -⟩
      try dsimp only at *
      omega
    · intro k2 hex2 ih2
      rintro ⟨b4, b5, b6, b7, b8⟩ H locs ls ⟨i1, j1, hm2, hT, hP, hD, hS, hl⟩
      have hP : va_P (dC, dI) vwCl [(o, .inr (5, [.ref o_page, .ref o_reader, .ref o_stand, .ref o_trialStand, .ref o_table, .ref o_kept, .ref o_trial, .int vo_imageKept, .int vo_towersRead, .int vo_changesDone])), (o_stand, .inr (3, [.ref o_stand_kinds, .ref o_stand_holds, .ref o_stand_takes, .ref o_stand_shareCounts, .ref o_stand_shares, .int vo_stand_size])), (o_stand_kinds, .inl (cI, 9, .inl vo_stand_kinds)), (o_stand_takes, .inl (cI, 9, .inl vo_stand_takes)), (o_stand_shareCounts, .inl (cI, 9, .inl vo_stand_shareCounts)), (o_stand_shares, .inl (cI, 27, .inl vo_stand_shares)), (o_table, .inr (4, [.ref o_table_fill, .ref o_table_drunkFrom, .ref o_table_turns, .int vo_table_poured])), (o_table_fill, .inr (0, [.ref o_table_fill_inside, .long vo_table_fill_spilt])), (o_table_fill_inside, .inl (cJ, 9, .inr (.inl vo_table_fill_inside))), (o_trial, .inr (0, [.ref o_trial_inside, .long b7])), (o_trial_inside, .inl (cJ, 9, .inr (.inl b8)))] H := hP
      have hD : va_D A [(o, .inr (5, [.ref o_page, .ref o_reader, .ref o_stand, .ref o_trialStand, .ref o_table, .ref o_kept, .ref o_trial, .int vo_imageKept, .int vo_towersRead, .int vo_changesDone])), (o_stand, .inr (3, [.ref o_stand_kinds, .ref o_stand_holds, .ref o_stand_takes, .ref o_stand_shareCounts, .ref o_stand_shares, .int vo_stand_size])), (o_stand_kinds, .inl (cI, 9, .inl vo_stand_kinds)), (o_stand_takes, .inl (cI, 9, .inl vo_stand_takes)), (o_stand_shareCounts, .inl (cI, 9, .inl vo_stand_shareCounts)), (o_stand_shares, .inl (cI, 27, .inl vo_stand_shares)), (o_table, .inr (4, [.ref o_table_fill, .ref o_table_drunkFrom, .ref o_table_turns, .int vo_table_poured])), (o_table_fill, .inr (0, [.ref o_table_fill_inside, .long vo_table_fill_spilt])), (o_table_fill_inside, .inl (cJ, 9, .inr (.inl vo_table_fill_inside))), (o_trial, .inr (0, [.ref o_trial_inside, .long b7])), (o_trial_inside, .inl (cJ, 9, .inr (.inl b8)))] := hD
      have hl : lv_has ls 7 [(5, .int b4), (4, .int b5), (3, .int b6), (0, .ref o), (1, .int p1), (2, .int p2)] := hl
      have hT : lp_X5_leastToFill_2 rs_X5_leastToFill_2 vo_stand_size vo_stand_kinds vo_stand_takes vo_stand_shareCounts vo_stand_shares vo_table_fill_spilt vo_table_fill_inside p1 p2 (k2 + 1) b4 b5 b6 b7 b8 = (r, qo_trial_spilt, qo_trial_inside) := hT
      have i1 : 0 ≤ b4.toInt := i1
      have j1 : b4.toInt ≤ 10 := j1
      have hm2 : 10 - b4.toInt < (((k2 + 1) : Nat) : Int) := hm2
      try simp only [Int.natCast_add, Int.natCast_one, Nat.cast_add, Nat.cast_one] at hm2
      refine lv_iload hx hb dX5_leastToFill_24 (lv_at hl 0 rfl) ?_
      refine lv_bipush (v := (10 : Int32)) hx hb dX5_leastToFill_26 (by decide) ?_
      refine lv_icmp_ge (tgt := 74) hx hb dX5_leastToFill_28 (by decide) (fun c_4 => ?_) (fun c_4 => ?_)
      · replace hT := cutT c_4 hT
        have g_14 := zleT (by decide : ((10 : Int32)).toInt = 10) (rfl : (b4).toInt = _) c_4
        exact hex2 (b4, b5, b6, b7, b8) _ _ _ ⟨(by omega : 0 ≤ b4.toInt), (by omega : b4.toInt ≤ 10), hT, hP.sub [0, 1, 2, 3, 4, 5, 6, 7, 8, 9, 10] rfl, hD.sub [0, 1, 2, 3, 4, 5, 6, 7, 8, 9, 10] rfl rfl, hS, lv_sub hl [1] rfl⟩
      · replace hT := cutF c_4 hT
        have g_15 := zleF (by decide : ((10 : Int32)).toInt = 10) (rfl : (b4).toInt = _) c_4
        refine lv_iload_n hx hb dX5_leastToFill_31 rfl (lv_at hl 2 rfl) ?_
        refine lv_iload hx hb dX5_leastToFill_32 (lv_at hl 1 rfl) ?_
        refine lv_icmp_ge (tgt := 74) hx hb dX5_leastToFill_34 (by decide) (fun c_5 => ?_) (fun c_5 => ?_)
        · replace hT := cutT c_5 hT
          have g_16 := zleT (rfl : (b5).toInt = _) (rfl : (b6).toInt = _) c_5
          exact hex2 (b4, b5, b6, b7, b8) _ _ _ ⟨(by omega : 0 ≤ b4.toInt), (by omega : b4.toInt ≤ 10), hT, hP.sub [0, 1, 2, 3, 4, 5, 6, 7, 8, 9, 10] rfl, hD.sub [0, 1, 2, 3, 4, 5, 6, 7, 8, 9, 10] rfl rfl, hS, lv_sub hl [1] rfl⟩
        · replace hT := cutF c_5 hT
          have g_17 := zleF (rfl : (b5).toInt = _) (rfl : (b6).toInt = _) c_5
          refine lv_iload_n hx hb dX5_leastToFill_37 rfl (lv_at hl 2 rfl) ?_
          refine lv_iload hx hb dX5_leastToFill_38 (lv_at hl 1 rfl) ?_
          refine lv_iadd hx hb dX5_leastToFill_40 ?_
          refine lv_iconst (v := (2 : Int32)) hx hb dX5_leastToFill_41 (by decide) ?_
          have h_6 : ¬ (2 : Int32) = 0 := by decide
          refine lv_idiv hx hb dX5_leastToFill_42 h_6 ?_
          refine lv_topi (fun v14 ev14 => ?_)
          replace hT := cut_n ev14.symm hT
          refine lv_istore (lv' := [(6, .int v14), (5, .int b4), (4, .int b5), (3, .int b6), (0, .ref o), (1, .int p1), (2, .int p2)]) hx hb dX5_leastToFill_43 hl (by decide) rfl (fun ls hl => ?_)
          refine lv_aload_n hx hb dX5_leastToFill_45 rfl (lv_at hl 4 rfl) ?_
          refine lv_iload_n hx hb dX5_leastToFill_46 rfl (lv_at hl 5 rfl) ?_
          refine lv_iload_n hx hb dX5_leastToFill_47 rfl (lv_at hl 6 rfl) ?_
          refine lv_iload hx hb dX5_leastToFill_48 (lv_at hl 0 rfl) ?_
          obtain ⟨r15, u16, u17, ev_7⟩ : ∃ x0 x1 x2, (m_X5_wouldFill vo_stand_size vo_stand_kinds vo_stand_takes vo_stand_shareCounts vo_stand_shares vo_table_fill_spilt vo_table_fill_inside b8 p1 p2 v14) = (x0, x1, x2) := ⟨_, _, _, rfl⟩
          replace hT := cut3_n ev_7 hT
          refine zz_ci [0, 1, 2, 3, 4, 5, 6, 7, 8, 9, 10] [] (wr := []) (w1 := [(o, .inr (5, [.ref o_page, .ref o_reader, .ref o_stand, .ref o_trialStand, .ref o_table, .ref o_kept, .ref o_trial, .int vo_imageKept, .int vo_towersRead, .int vo_changesDone])), (o_stand, .inr (3, [.ref o_stand_kinds, .ref o_stand_holds, .ref o_stand_takes, .ref o_stand_shareCounts, .ref o_stand_shares, .int vo_stand_size])), (o_stand_kinds, .inl (cI, 9, .inl vo_stand_kinds)), (o_stand_takes, .inl (cI, 9, .inl vo_stand_takes)), (o_stand_shareCounts, .inl (cI, 9, .inl vo_stand_shareCounts)), (o_stand_shares, .inl (cI, 27, .inl vo_stand_shares)), (o_table, .inr (4, [.ref o_table_fill, .ref o_table_drunkFrom, .ref o_table_turns, .int vo_table_poured])), (o_table_fill, .inr (0, [.ref o_table_fill_inside, .long vo_table_fill_spilt])), (o_table_fill_inside, .inl (cJ, 9, .inr (.inl vo_table_fill_inside))), (o_trial, .inr (0, [.ref o_trial_inside, .long u16])), (o_trial_inside, .inl (cJ, 9, .inr (.inl u17)))]) (va_runV (As := [.int p1, .int p2, .int v14]) (rest := []) ⟨hx, hb, hml, hown, hts⟩ (k_X5_wouldFill l dC dI cI cJ cC H.size o o_page o_reader o_stand o_trialStand o_table o_kept o_trial o_stand_kinds o_stand_holds o_stand_takes o_stand_shareCounts o_stand_shares o_table_fill o_table_drunkFrom o_table_turns o_table_fill_inside o_trial_inside vo_imageKept vo_towersRead vo_changesDone vo_stand_size vo_stand_kinds vo_stand_takes vo_stand_shareCounts vo_stand_shares vo_table_poured vo_table_fill_spilt vo_table_fill_inside b7 b8 p1 p2 v14 r15 u16 u17 ev_7 hs0 hs9 hsc) (cwV 3 hts gX5_leastToFill_X5_wouldFill rfl rfl rfl (by decide +kernel) ⟨Nat.le_of_ble_eq_true rfl, Nat.le_of_ble_eq_true rfl⟩) (zz_preV [0, 1, 2, 3, 4, 5, 6, 7, 8, 9, 10] hK hP hD rfl rfl (va_recv hK hP (ci := 5) (q0 := 0) rfl rfl)) rfl rfl hl.1 rfl (lv_room (Nat.le_of_ble_eq_true rfl)) dX5_leastToFill_50 ⟨Nat.zero_le _, Nat.zero_le _⟩) hP hD hS hA rfl rfl rfl (by decide) (fun ok_8 H locs hP hD hS => ?_)
          have hP : va_P (dC, dI) vwCl [(o, .inr (5, [.ref o_page, .ref o_reader, .ref o_stand, .ref o_trialStand, .ref o_table, .ref o_kept, .ref o_trial, .int vo_imageKept, .int vo_towersRead, .int vo_changesDone])), (o_stand, .inr (3, [.ref o_stand_kinds, .ref o_stand_holds, .ref o_stand_takes, .ref o_stand_shareCounts, .ref o_stand_shares, .int vo_stand_size])), (o_stand_kinds, .inl (cI, 9, .inl vo_stand_kinds)), (o_stand_takes, .inl (cI, 9, .inl vo_stand_takes)), (o_stand_shareCounts, .inl (cI, 9, .inl vo_stand_shareCounts)), (o_stand_shares, .inl (cI, 27, .inl vo_stand_shares)), (o_table, .inr (4, [.ref o_table_fill, .ref o_table_drunkFrom, .ref o_table_turns, .int vo_table_poured])), (o_table_fill, .inr (0, [.ref o_table_fill_inside, .long vo_table_fill_spilt])), (o_table_fill_inside, .inl (cJ, 9, .inr (.inl vo_table_fill_inside))), (o_trial, .inr (0, [.ref o_trial_inside, .long u16])), (o_trial_inside, .inl (cJ, 9, .inr (.inl u17)))] H := hP
          have hD : va_D A [(o, .inr (5, [.ref o_page, .ref o_reader, .ref o_stand, .ref o_trialStand, .ref o_table, .ref o_kept, .ref o_trial, .int vo_imageKept, .int vo_towersRead, .int vo_changesDone])), (o_stand, .inr (3, [.ref o_stand_kinds, .ref o_stand_holds, .ref o_stand_takes, .ref o_stand_shareCounts, .ref o_stand_shares, .int vo_stand_size])), (o_stand_kinds, .inl (cI, 9, .inl vo_stand_kinds)), (o_stand_takes, .inl (cI, 9, .inl vo_stand_takes)), (o_stand_shareCounts, .inl (cI, 9, .inl vo_stand_shareCounts)), (o_stand_shares, .inl (cI, 27, .inl vo_stand_shares)), (o_table, .inr (4, [.ref o_table_fill, .ref o_table_drunkFrom, .ref o_table_turns, .int vo_table_poured])), (o_table_fill, .inr (0, [.ref o_table_fill_inside, .long vo_table_fill_spilt])), (o_table_fill_inside, .inl (cJ, 9, .inr (.inl vo_table_fill_inside))), (o_trial, .inr (0, [.ref o_trial_inside, .long u16])), (o_trial_inside, .inl (cJ, 9, .inr (.inl u17)))] := hD
          refine lv_if_eq (tgt := 63) hx hb dX5_leastToFill_53 (by decide) (fun c_9 => ?_) (fun c_9 => ?_)
          · replace hT := cutT c_9 hT
            have g_18 := zeqT (rfl : (r15).toInt = _) (by decide : ((0 : Int32)).toInt = 0) c_9
            refine lv_iload hx hb dX5_leastToFill_63 (lv_at hl 0 rfl) ?_
            refine lv_iconst (v := (1 : Int32)) hx hb dX5_leastToFill_65 (by decide) ?_
            refine lv_iadd hx hb dX5_leastToFill_66 ?_
            refine lv_topi (fun v18 ev18 => ?_)
            replace hT := cut_n ev18.symm hT
            try have fv18 := zaddE (rfl : (v14).toInt = _) (by decide : ((1 : Int32)).toInt = 1) ev18.symm (by omega) (by omega)
            refine lv_istore_n (lv' := [(3, .int v18), (6, .int v14), (5, .int b4), (4, .int b5), (0, .ref o), (1, .int p1), (2, .int p2)]) hx hb dX5_leastToFill_67 rfl hl (by decide) rfl (fun ls hl => ?_)
            obtain ⟨v19, ev19⟩ : ∃ y : Int32, (b4 + (1 : Int32)) = y := ⟨_, rfl⟩
            replace hT := cut_n ev19 hT
            try have fv19 := zaddE (rfl : (b4).toInt = _) (by decide : ((1 : Int32)).toInt = 1) ev19 (by omega) (by omega)
            refine lv_iinc (v := v19) (lv' := [(5, .int v19), (3, .int v18), (6, .int v14), (4, .int b5), (0, .ref o), (1, .int p1), (2, .int p2)]) hx hb dX5_leastToFill_68 hl (k := 2) rfl (by rw [← ev19]; rfl) (by decide) rfl (fun ls hl => ?_)
            refine lv_goto (tgt := 24) hx hb dX5_leastToFill_71 (by decide) ?_
            exact ih2 (v19, b5, v18, u16, u17) _ _ _ ⟨(by omega : 0 ≤ v19.toInt), (by omega : v19.toInt ≤ 10), (by omega : 10 - v19.toInt < ((k2 : Nat) : Int)), hT, hP.sub [0, 1, 2, 3, 4, 5, 6, 7, 8, 9, 10] rfl, hD.sub [0, 1, 2, 3, 4, 5, 6, 7, 8, 9, 10] rfl rfl, hS, lv_sub hl [0, 3, 1, 4, 5, 6] rfl⟩
          · replace hT := cutF c_9 hT
            have g_19 := zeqF (rfl : (r15).toInt = _) (by decide : ((0 : Int32)).toInt = 0) c_9
            refine lv_iload hx hb dX5_leastToFill_56 (lv_at hl 0 rfl) ?_
            refine lv_istore (lv' := [(4, .int v14), (6, .int v14), (5, .int b4), (3, .int b6), (0, .ref o), (1, .int p1), (2, .int p2)]) hx hb dX5_leastToFill_58 hl (by decide) rfl (fun ls hl => ?_)
            refine lv_goto (tgt := 68) hx hb dX5_leastToFill_60 (by decide) ?_
            obtain ⟨v20, ev20⟩ : ∃ y : Int32, (b4 + (1 : Int32)) = y := ⟨_, rfl⟩
            replace hT := cut_n ev20 hT
            try have fv20 := zaddE (rfl : (b4).toInt = _) (by decide : ((1 : Int32)).toInt = 1) ev20 (by omega) (by omega)
            refine lv_iinc (v := v20) (lv' := [(5, .int v20), (4, .int v14), (6, .int v14), (3, .int b6), (0, .ref o), (1, .int p1), (2, .int p2)]) hx hb dX5_leastToFill_68 hl (k := 2) rfl (by rw [← ev20]; rfl) (by decide) rfl (fun ls hl => ?_)
            refine lv_goto (tgt := 24) hx hb dX5_leastToFill_71 (by decide) ?_
            exact ih2 (v20, v14, b6, u16, u17) _ _ _ ⟨(by omega : 0 ≤ v20.toInt), (by omega : v20.toInt ≤ 10), (by omega : 10 - v20.toInt < ((k2 : Nat) : Int)), hT, hP.sub [0, 1, 2, 3, 4, 5, 6, 7, 8, 9, 10] rfl, hD.sub [0, 1, 2, 3, 4, 5, 6, 7, 8, 9, 10] rfl rfl, hS, lv_sub hl [0, 1, 3, 4, 5, 6] rfl⟩
  · replace hT := cutT c_3 hT
    have g_20 := zeqT (rfl : (r1).toInt = _) (by decide : ((0 : Int32)).toInt = 0) c_3
    refine lv_iconst (v := (-1 : Int32)) hx hb dX5_leastToFill_12 (by decide) ?_
    have hP9 := hP
    have hD9 := hD
    have hS9 := hS
    have hT : ((-1 : Int32), u2, u3) = (r, qo_trial_spilt, qo_trial_inside) := hT
    cases hT
    subst hQ
    exact zz_iret hx hb hr [0, 1, 2, 3, 4, 5, 6, 7, 8, 9, 10] hK hP9 hD9 hS9 rfl rfl trivial hlocks dX5_leastToFill_13

def m_X5_need (vo_stand_size : Int32) (vo_stand_kinds : Nat → Int32) (vo_stand_takes : Nat → Int32) (vo_stand_shareCounts : Nat → Int32) (vo_stand_shares : Nat → Int32) (vo_table_fill_spilt : Int64) (vo_table_fill_inside : Nat → Int64) (vo_trial_spilt : Int64) (vo_trial_inside : Nat → Int64) (p1 : Int32) (p2 : Int32) : Int32 × Int64 × (Nat → Int64) :=
 cut (m_X3_has vo_stand_size p1) (fun (r1 : Int32) =>
 if r1 = (0 : Int32) then
  ((-101 : Int32), vo_trial_spilt, vo_trial_inside)
 else
  cut (m_X3_has vo_stand_size p2) (fun (r2 : Int32) =>
  if r2 = (0 : Int32) then
   ((-101 : Int32), vo_trial_spilt, vo_trial_inside)
  else
   cut3 (m_X5_leastToFill vo_stand_size vo_stand_kinds vo_stand_takes vo_stand_shareCounts vo_stand_shares vo_table_fill_spilt vo_table_fill_inside vo_trial_inside ((1 : Int32) <<< (p1 &&& 31)) p2) (fun (r3 : Int32) (u4 : Int64) (u5 : Nat → Int64) =>
   (r3, u4, u5))))
set_option maxHeartbeats 4000000 in
set_option maxRecDepth 100000 in
theorem k_X5_need (l : Launch) (dC : Nat → ClassId) (dI : Nat → Nat → Nat) (cI cJ cC : ClassId) (sz : Nat) (o o_page o_reader o_stand o_trialStand o_table o_kept o_trial o_stand_kinds o_stand_holds o_stand_takes o_stand_shareCounts o_stand_shares o_table_fill o_table_drunkFrom o_table_turns o_table_fill_inside o_trial_inside : Nat) (vo_imageKept : Int32) (vo_towersRead : Int32) (vo_changesDone : Int32) (vo_stand_size : Int32) (vo_stand_kinds : Nat → Int32) (vo_stand_takes : Nat → Int32) (vo_stand_shareCounts : Nat → Int32) (vo_stand_shares : Nat → Int32) (vo_table_poured : Int32) (vo_table_fill_spilt : Int64) (vo_table_fill_inside : Nat → Int64) (vo_trial_spilt : Int64) (vo_trial_inside : Nat → Int64) (p1 : Int32) (p2 : Int32) (r : Int32) (qo_trial_spilt : Int64) (qo_trial_inside : Nat → Int64) (hT : m_X5_need vo_stand_size vo_stand_kinds vo_stand_takes vo_stand_shareCounts vo_stand_shares vo_table_fill_spilt vo_table_fill_inside vo_trial_spilt vo_trial_inside p1 p2 = (r, qo_trial_spilt, qo_trial_inside)) (hs0 : 0 ≤ vo_stand_size.toInt) (hs9 : vo_stand_size.toInt ≤ 9) (hsc : zSc vo_stand_shareCounts) : Met l yX5_need wsX5_need ({ frames := 7, cells := 0, slots := 0, locals := 170 }) (zPc [.ref o, .int p1, .int p2] (dC, dI) (zTy cI cJ cC) [(o, .inr (5, [.ref o_page, .ref o_reader, .ref o_stand, .ref o_trialStand, .ref o_table, .ref o_kept, .ref o_trial, .int vo_imageKept, .int vo_towersRead, .int vo_changesDone])), (o_stand, .inr (3, [.ref o_stand_kinds, .ref o_stand_holds, .ref o_stand_takes, .ref o_stand_shareCounts, .ref o_stand_shares, .int vo_stand_size])), (o_stand_kinds, .inl (cI, 9, .inl vo_stand_kinds)), (o_stand_takes, .inl (cI, 9, .inl vo_stand_takes)), (o_stand_shareCounts, .inl (cI, 9, .inl vo_stand_shareCounts)), (o_stand_shares, .inl (cI, 27, .inl vo_stand_shares)), (o_table, .inr (4, [.ref o_table_fill, .ref o_table_drunkFrom, .ref o_table_turns, .int vo_table_poured])), (o_table_fill, .inr (0, [.ref o_table_fill_inside, .long vo_table_fill_spilt])), (o_table_fill_inside, .inl (cJ, 9, .inr (.inl vo_table_fill_inside))), (o_trial, .inr (0, [.ref o_trial_inside, .long vo_trial_spilt])), (o_trial_inside, .inl (cJ, 9, .inr (.inl vo_trial_inside)))] sz) (zQi r (True) (dC, dI) (zTy cI cJ cC) [(o, .inr (5, [.ref o_page, .ref o_reader, .ref o_stand, .ref o_trialStand, .ref o_table, .ref o_kept, .ref o_trial, .int vo_imageKept, .int vo_towersRead, .int vo_changesDone])), (o_stand, .inr (3, [.ref o_stand_kinds, .ref o_stand_holds, .ref o_stand_takes, .ref o_stand_shareCounts, .ref o_stand_shares, .int vo_stand_size])), (o_stand_kinds, .inl (cI, 9, .inl vo_stand_kinds)), (o_stand_takes, .inl (cI, 9, .inl vo_stand_takes)), (o_stand_shareCounts, .inl (cI, 9, .inl vo_stand_shareCounts)), (o_stand_shares, .inl (cI, 27, .inl vo_stand_shares)), (o_table, .inr (4, [.ref o_table_fill, .ref o_table_drunkFrom, .ref o_table_turns, .int vo_table_poured])), (o_table_fill, .inr (0, [.ref o_table_fill_inside, .long vo_table_fill_spilt])), (o_table_fill_inside, .inl (cJ, 9, .inr (.inl vo_table_fill_inside))), (o_trial, .inr (0, [.ref o_trial_inside, .long qo_trial_spilt])), (o_trial_inside, .inl (cJ, 9, .inr (.inl qo_trial_inside)))] (va_A [(o, .inr (5, [.ref o_page, .ref o_reader, .ref o_stand, .ref o_trialStand, .ref o_table, .ref o_kept, .ref o_trial, .int vo_imageKept, .int vo_towersRead, .int vo_changesDone])), (o_stand, .inr (3, [.ref o_stand_kinds, .ref o_stand_holds, .ref o_stand_takes, .ref o_stand_shareCounts, .ref o_stand_shares, .int vo_stand_size])), (o_stand_kinds, .inl (cI, 9, .inl vo_stand_kinds)), (o_stand_takes, .inl (cI, 9, .inl vo_stand_takes)), (o_stand_shareCounts, .inl (cI, 9, .inl vo_stand_shareCounts)), (o_stand_shares, .inl (cI, 27, .inl vo_stand_shares)), (o_table, .inr (4, [.ref o_table_fill, .ref o_table_drunkFrom, .ref o_table_turns, .int vo_table_poured])), (o_table_fill, .inr (0, [.ref o_table_fill_inside, .long vo_table_fill_spilt])), (o_table_fill_inside, .inl (cJ, 9, .inr (.inl vo_table_fill_inside))), (o_trial, .inr (0, [.ref o_trial_inside, .long vo_trial_spilt])), (o_trial_inside, .inl (cJ, 9, .inr (.inl vo_trial_inside)))] sz)) 0 0 (va_A [(o, .inr (5, [.ref o_page, .ref o_reader, .ref o_stand, .ref o_trialStand, .ref o_table, .ref o_kept, .ref o_trial, .int vo_imageKept, .int vo_towersRead, .int vo_changesDone])), (o_stand, .inr (3, [.ref o_stand_kinds, .ref o_stand_holds, .ref o_stand_takes, .ref o_stand_shareCounts, .ref o_stand_shares, .int vo_stand_size])), (o_stand_kinds, .inl (cI, 9, .inl vo_stand_kinds)), (o_stand_takes, .inl (cI, 9, .inl vo_stand_takes)), (o_stand_shareCounts, .inl (cI, 9, .inl vo_stand_shareCounts)), (o_stand_shares, .inl (cI, 27, .inl vo_stand_shares)), (o_table, .inr (4, [.ref o_table_fill, .ref o_table_drunkFrom, .ref o_table_turns, .int vo_table_poured])), (o_table_fill, .inr (0, [.ref o_table_fill_inside, .long vo_table_fill_spilt])), (o_table_fill_inside, .inl (cJ, 9, .inr (.inl vo_table_fill_inside))), (o_trial, .inr (0, [.ref o_trial_inside, .long vo_trial_spilt])), (o_trial_inside, .inl (cJ, 9, .inr (.inl vo_trial_inside)))] sz) := by
  refine Met.ofW (cc := cX5_need) (maxL := 3) (ret := (some .int)) (by decide) rfl ?_
  intro p e s m args below meth c s₁ B hml hv
  obtain ⟨rfl, hsz, hP, hK, hD0⟩ := hv
  have hx := B.exec
  have hb := B.bytes
  have hr := B.returns
  have hts := atoms_spec (ws := wsX5_need) B.pre
  have hown : s.vm.findClass RX5 = some m.cls := findClass_of_methodNamed B.named
  have hlocks := B.notSynchronized
  subst hsz
  have hD := hD0.self (sz := s.heap.size)
  generalize hAe : va_A [(o, .inr (5, [.ref o_page, .ref o_reader, .ref o_stand, .ref o_trialStand, .ref o_table, .ref o_kept, .ref o_trial, .int vo_imageKept, .int vo_towersRead, .int vo_changesDone])), (o_stand, .inr (3, [.ref o_stand_kinds, .ref o_stand_holds, .ref o_stand_takes, .ref o_stand_shareCounts, .ref o_stand_shares, .int vo_stand_size])), (o_stand_kinds, .inl (cI, 9, .inl vo_stand_kinds)), (o_stand_takes, .inl (cI, 9, .inl vo_stand_takes)), (o_stand_shareCounts, .inl (cI, 9, .inl vo_stand_shareCounts)), (o_stand_shares, .inl (cI, 27, .inl vo_stand_shares)), (o_table, .inr (4, [.ref o_table_fill, .ref o_table_drunkFrom, .ref o_table_turns, .int vo_table_poured])), (o_table_fill, .inr (0, [.ref o_table_fill_inside, .long vo_table_fill_spilt])), (o_table_fill_inside, .inl (cJ, 9, .inr (.inl vo_table_fill_inside))), (o_trial, .inr (0, [.ref o_trial_inside, .long vo_trial_spilt])), (o_trial_inside, .inl (cJ, 9, .inr (.inl vo_trial_inside)))] s.heap.size = A at hD ⊢
  have hA : ∀ q : Nat, s.heap.size ≤ q → A q := fun q h => by rw [← hAe]; exact Or.inr h
  have hS : va_S A s.heap s.heap [] := va_S.rf
  have hP : va_P (dC, dI) vwCl [(o, .inr (5, [.ref o_page, .ref o_reader, .ref o_stand, .ref o_trialStand, .ref o_table, .ref o_kept, .ref o_trial, .int vo_imageKept, .int vo_towersRead, .int vo_changesDone])), (o_stand, .inr (3, [.ref o_stand_kinds, .ref o_stand_holds, .ref o_stand_takes, .ref o_stand_shareCounts, .ref o_stand_shares, .int vo_stand_size])), (o_stand_kinds, .inl (cI, 9, .inl vo_stand_kinds)), (o_stand_takes, .inl (cI, 9, .inl vo_stand_takes)), (o_stand_shareCounts, .inl (cI, 9, .inl vo_stand_shareCounts)), (o_stand_shares, .inl (cI, 27, .inl vo_stand_shares)), (o_table, .inr (4, [.ref o_table_fill, .ref o_table_drunkFrom, .ref o_table_turns, .int vo_table_poured])), (o_table_fill, .inr (0, [.ref o_table_fill_inside, .long vo_table_fill_spilt])), (o_table_fill_inside, .inl (cJ, 9, .inr (.inl vo_table_fill_inside))), (o_trial, .inr (0, [.ref o_trial_inside, .long vo_trial_spilt])), (o_trial_inside, .inl (cJ, 9, .inr (.inl vo_trial_inside)))] s.heap := hP
  have hK : va_K (dC, dI) vwCl (zTy cI cJ cC) s := hK
  have hl := lv_entry ([.ref o, .int p1, .int p2]) (n := 3) (Nat.le_of_ble_eq_true rfl)
  rw [lg_entry_eq]
  generalize (lg_sl ([.ref o, .int p1, .int p2]) ++ List.replicate (3 - (lg_sl ([.ref o, .int p1, .int p2])).length) Slot.unset).toArray = ls at hl ⊢
  have hl : lv_has ls 3 [(0, .ref o), (1, .int p1), (2, .int p2)] := hl
  refine zz_start hP hS (fun Q hQ H locs hP hS => ?_)
  have hwX5 : ∀ w ∈ u_ws RX5 TX5 10, w ∈ wsX5_need := by decide +kernel
  have hf_26 := (hts (.fieldLink RX5 26 "PouredTopmost" "stand" "LPouredTopmost$Stand;") (by decide +kernel))
  refine lv_aload_n hx hb dX5_need_0 rfl (lv_at hl 0 rfl) ?_
  refine va_get (D := (dC, dI)) (ci := 5) (v := .ref o_stand) (C := RX5) (T := TX5) (N := 10) hx hb hts hwX5 hown hK hP 0 rfl rfl 2 (by decide) hf_26 (fun _ h9 => h9) rfl dX5_need_1 ?_
  refine lv_iload_n hx hb dX5_need_4 rfl (lv_at hl 1 rfl) ?_
  obtain ⟨r1, ev_1⟩ : ∃ x0, (m_X3_has vo_stand_size p1) = x0 := ⟨_, rfl⟩
  replace hT := cut_n ev_1 hT
  refine zz_ci [1] [0, 2, 3, 4, 5, 6, 7, 8, 9, 10] (wr := [(o, .inr (5, [.ref o_page, .ref o_reader, .ref o_stand, .ref o_trialStand, .ref o_table, .ref o_kept, .ref o_trial, .int vo_imageKept, .int vo_towersRead, .int vo_changesDone])), (o_stand_kinds, .inl (cI, 9, .inl vo_stand_kinds)), (o_stand_takes, .inl (cI, 9, .inl vo_stand_takes)), (o_stand_shareCounts, .inl (cI, 9, .inl vo_stand_shareCounts)), (o_stand_shares, .inl (cI, 27, .inl vo_stand_shares)), (o_table, .inr (4, [.ref o_table_fill, .ref o_table_drunkFrom, .ref o_table_turns, .int vo_table_poured])), (o_table_fill, .inr (0, [.ref o_table_fill_inside, .long vo_table_fill_spilt])), (o_table_fill_inside, .inl (cJ, 9, .inr (.inl vo_table_fill_inside))), (o_trial, .inr (0, [.ref o_trial_inside, .long vo_trial_spilt])), (o_trial_inside, .inl (cJ, 9, .inr (.inl vo_trial_inside)))]) (w1 := [(o_stand, .inr (3, [.ref o_stand_kinds, .ref o_stand_holds, .ref o_stand_takes, .ref o_stand_shareCounts, .ref o_stand_shares, .int vo_stand_size]))]) (va_runV (As := [.int p1]) (rest := []) ⟨hx, hb, hml, hown, hts⟩ (k_X3_has l dC dI cI cJ cC H.size o_stand o_stand_kinds o_stand_holds o_stand_takes o_stand_shareCounts o_stand_shares vo_stand_size p1 r1 ev_1) (cwV 1 hts gX5_need_X3_has rfl rfl rfl (by decide +kernel) ⟨Nat.le_of_ble_eq_true rfl, Nat.le_of_ble_eq_true rfl⟩) (zz_preV [1] hK hP hD rfl rfl (va_recv hK hP (ci := 3) (q0 := 1) rfl rfl)) rfl rfl hl.1 rfl (lv_room (Nat.le_of_ble_eq_true rfl)) dX5_need_5 ⟨Nat.zero_le _, Nat.zero_le _⟩) hP hD hS hA rfl rfl rfl (by decide) (fun ok_2 H locs hP hD hS => ?_)
  have hP : va_P (dC, dI) vwCl [(o, .inr (5, [.ref o_page, .ref o_reader, .ref o_stand, .ref o_trialStand, .ref o_table, .ref o_kept, .ref o_trial, .int vo_imageKept, .int vo_towersRead, .int vo_changesDone])), (o_stand_kinds, .inl (cI, 9, .inl vo_stand_kinds)), (o_stand_takes, .inl (cI, 9, .inl vo_stand_takes)), (o_stand_shareCounts, .inl (cI, 9, .inl vo_stand_shareCounts)), (o_stand_shares, .inl (cI, 27, .inl vo_stand_shares)), (o_table, .inr (4, [.ref o_table_fill, .ref o_table_drunkFrom, .ref o_table_turns, .int vo_table_poured])), (o_table_fill, .inr (0, [.ref o_table_fill_inside, .long vo_table_fill_spilt])), (o_table_fill_inside, .inl (cJ, 9, .inr (.inl vo_table_fill_inside))), (o_trial, .inr (0, [.ref o_trial_inside, .long vo_trial_spilt])), (o_trial_inside, .inl (cJ, 9, .inr (.inl vo_trial_inside))), (o_stand, .inr (3, [.ref o_stand_kinds, .ref o_stand_holds, .ref o_stand_takes, .ref o_stand_shareCounts, .ref o_stand_shares, .int vo_stand_size]))] H := hP
  have hD : va_D A [(o, .inr (5, [.ref o_page, .ref o_reader, .ref o_stand, .ref o_trialStand, .ref o_table, .ref o_kept, .ref o_trial, .int vo_imageKept, .int vo_towersRead, .int vo_changesDone])), (o_stand_kinds, .inl (cI, 9, .inl vo_stand_kinds)), (o_stand_takes, .inl (cI, 9, .inl vo_stand_takes)), (o_stand_shareCounts, .inl (cI, 9, .inl vo_stand_shareCounts)), (o_stand_shares, .inl (cI, 27, .inl vo_stand_shares)), (o_table, .inr (4, [.ref o_table_fill, .ref o_table_drunkFrom, .ref o_table_turns, .int vo_table_poured])), (o_table_fill, .inr (0, [.ref o_table_fill_inside, .long vo_table_fill_spilt])), (o_table_fill_inside, .inl (cJ, 9, .inr (.inl vo_table_fill_inside))), (o_trial, .inr (0, [.ref o_trial_inside, .long vo_trial_spilt])), (o_trial_inside, .inl (cJ, 9, .inr (.inl vo_trial_inside))), (o_stand, .inr (3, [.ref o_stand_kinds, .ref o_stand_holds, .ref o_stand_takes, .ref o_stand_shareCounts, .ref o_stand_shares, .int vo_stand_size]))] := hD
  obtain ⟨k_3, k_4⟩ := ok_2
  refine lv_if_eq (tgt := 22) hx hb dX5_need_8 (by decide) (fun c_5 => ?_) (fun c_5 => ?_)
  · replace hT := cutT c_5 hT
    have g_13 := zeqT (rfl : (r1).toInt = _) (by decide : ((0 : Int32)).toInt = 0) c_5
    refine lv_bipush (v := (-101 : Int32)) hx hb dX5_need_22 (by decide) ?_
    have hP9 := hP
    have hD9 := hD
    have hS9 := hS
    have hT : ((-101 : Int32), vo_trial_spilt, vo_trial_inside) = (r, qo_trial_spilt, qo_trial_inside) := hT
    cases hT
    subst hQ
    exact zz_iret hx hb hr [0, 10, 1, 2, 3, 4, 5, 6, 7, 8, 9] hK hP9 hD9 hS9 rfl rfl trivial hlocks dX5_need_24
  · replace hT := cutF c_5 hT
    have g_14 := zeqF (rfl : (r1).toInt = _) (by decide : ((0 : Int32)).toInt = 0) c_5
    refine lv_aload_n hx hb dX5_need_11 rfl (lv_at hl 0 rfl) ?_
    refine va_get (D := (dC, dI)) (ci := 5) (v := .ref o_stand) (C := RX5) (T := TX5) (N := 10) hx hb hts hwX5 hown hK hP 0 rfl rfl 2 (by decide) hf_26 (fun _ h9 => h9) rfl dX5_need_12 ?_
    refine lv_iload_n hx hb dX5_need_15 rfl (lv_at hl 2 rfl) ?_
    obtain ⟨r2, ev_6⟩ : ∃ x0, (m_X3_has vo_stand_size p2) = x0 := ⟨_, rfl⟩
    replace hT := cut_n ev_6 hT
    refine zz_ci [10] [0, 1, 2, 3, 4, 5, 6, 7, 8, 9] (wr := [(o, .inr (5, [.ref o_page, .ref o_reader, .ref o_stand, .ref o_trialStand, .ref o_table, .ref o_kept, .ref o_trial, .int vo_imageKept, .int vo_towersRead, .int vo_changesDone])), (o_stand_kinds, .inl (cI, 9, .inl vo_stand_kinds)), (o_stand_takes, .inl (cI, 9, .inl vo_stand_takes)), (o_stand_shareCounts, .inl (cI, 9, .inl vo_stand_shareCounts)), (o_stand_shares, .inl (cI, 27, .inl vo_stand_shares)), (o_table, .inr (4, [.ref o_table_fill, .ref o_table_drunkFrom, .ref o_table_turns, .int vo_table_poured])), (o_table_fill, .inr (0, [.ref o_table_fill_inside, .long vo_table_fill_spilt])), (o_table_fill_inside, .inl (cJ, 9, .inr (.inl vo_table_fill_inside))), (o_trial, .inr (0, [.ref o_trial_inside, .long vo_trial_spilt])), (o_trial_inside, .inl (cJ, 9, .inr (.inl vo_trial_inside)))]) (w1 := [(o_stand, .inr (3, [.ref o_stand_kinds, .ref o_stand_holds, .ref o_stand_takes, .ref o_stand_shareCounts, .ref o_stand_shares, .int vo_stand_size]))]) (va_runV (As := [.int p2]) (rest := []) ⟨hx, hb, hml, hown, hts⟩ (k_X3_has l dC dI cI cJ cC H.size o_stand o_stand_kinds o_stand_holds o_stand_takes o_stand_shareCounts o_stand_shares vo_stand_size p2 r2 ev_6) (cwV 1 hts gX5_need_X3_has rfl rfl rfl (by decide +kernel) ⟨Nat.le_of_ble_eq_true rfl, Nat.le_of_ble_eq_true rfl⟩) (zz_preV [10] hK hP hD rfl rfl (va_recv hK hP (ci := 3) (q0 := 10) rfl rfl)) rfl rfl hl.1 rfl (lv_room (Nat.le_of_ble_eq_true rfl)) dX5_need_16 ⟨Nat.zero_le _, Nat.zero_le _⟩) hP hD hS hA rfl rfl rfl (by decide) (fun ok_7 H locs hP hD hS => ?_)
    have hP : va_P (dC, dI) vwCl [(o, .inr (5, [.ref o_page, .ref o_reader, .ref o_stand, .ref o_trialStand, .ref o_table, .ref o_kept, .ref o_trial, .int vo_imageKept, .int vo_towersRead, .int vo_changesDone])), (o_stand_kinds, .inl (cI, 9, .inl vo_stand_kinds)), (o_stand_takes, .inl (cI, 9, .inl vo_stand_takes)), (o_stand_shareCounts, .inl (cI, 9, .inl vo_stand_shareCounts)), (o_stand_shares, .inl (cI, 27, .inl vo_stand_shares)), (o_table, .inr (4, [.ref o_table_fill, .ref o_table_drunkFrom, .ref o_table_turns, .int vo_table_poured])), (o_table_fill, .inr (0, [.ref o_table_fill_inside, .long vo_table_fill_spilt])), (o_table_fill_inside, .inl (cJ, 9, .inr (.inl vo_table_fill_inside))), (o_trial, .inr (0, [.ref o_trial_inside, .long vo_trial_spilt])), (o_trial_inside, .inl (cJ, 9, .inr (.inl vo_trial_inside))), (o_stand, .inr (3, [.ref o_stand_kinds, .ref o_stand_holds, .ref o_stand_takes, .ref o_stand_shareCounts, .ref o_stand_shares, .int vo_stand_size]))] H := hP
    have hD : va_D A [(o, .inr (5, [.ref o_page, .ref o_reader, .ref o_stand, .ref o_trialStand, .ref o_table, .ref o_kept, .ref o_trial, .int vo_imageKept, .int vo_towersRead, .int vo_changesDone])), (o_stand_kinds, .inl (cI, 9, .inl vo_stand_kinds)), (o_stand_takes, .inl (cI, 9, .inl vo_stand_takes)), (o_stand_shareCounts, .inl (cI, 9, .inl vo_stand_shareCounts)), (o_stand_shares, .inl (cI, 27, .inl vo_stand_shares)), (o_table, .inr (4, [.ref o_table_fill, .ref o_table_drunkFrom, .ref o_table_turns, .int vo_table_poured])), (o_table_fill, .inr (0, [.ref o_table_fill_inside, .long vo_table_fill_spilt])), (o_table_fill_inside, .inl (cJ, 9, .inr (.inl vo_table_fill_inside))), (o_trial, .inr (0, [.ref o_trial_inside, .long vo_trial_spilt])), (o_trial_inside, .inl (cJ, 9, .inr (.inl vo_trial_inside))), (o_stand, .inr (3, [.ref o_stand_kinds, .ref o_stand_holds, .ref o_stand_takes, .ref o_stand_shareCounts, .ref o_stand_shares, .int vo_stand_size]))] := hD
    obtain ⟨k_8, k_9⟩ := ok_7
    refine lv_if_ne (tgt := 25) hx hb dX5_need_19 (by decide) (fun c_10 => ?_) (fun c_10 => ?_)
    · replace hT := cutF c_10 hT
      have g_15 := zeqF (rfl : (r2).toInt = _) (by decide : ((0 : Int32)).toInt = 0) c_10
      refine lv_aload_n hx hb dX5_need_25 rfl (lv_at hl 0 rfl) ?_
      refine lv_iconst (v := (1 : Int32)) hx hb dX5_need_26 (by decide) ?_
      refine lv_iload_n hx hb dX5_need_27 rfl (lv_at hl 1 rfl) ?_
      refine lv_ishl hx hb dX5_need_28 ?_
      refine lv_iload_n hx hb dX5_need_29 rfl (lv_at hl 2 rfl) ?_
      obtain ⟨r3, u4, u5, ev_11⟩ : ∃ x0 x1 x2, (m_X5_leastToFill vo_stand_size vo_stand_kinds vo_stand_takes vo_stand_shareCounts vo_stand_shares vo_table_fill_spilt vo_table_fill_inside vo_trial_inside ((1 : Int32) <<< (p1 &&& 31)) p2) = (x0, x1, x2) := ⟨_, _, _, rfl⟩
      replace hT := cut3_n ev_11 hT
      refine zz_ci [0, 10, 1, 2, 3, 4, 5, 6, 7, 8, 9] [] (wr := []) (w1 := [(o, .inr (5, [.ref o_page, .ref o_reader, .ref o_stand, .ref o_trialStand, .ref o_table, .ref o_kept, .ref o_trial, .int vo_imageKept, .int vo_towersRead, .int vo_changesDone])), (o_stand, .inr (3, [.ref o_stand_kinds, .ref o_stand_holds, .ref o_stand_takes, .ref o_stand_shareCounts, .ref o_stand_shares, .int vo_stand_size])), (o_stand_kinds, .inl (cI, 9, .inl vo_stand_kinds)), (o_stand_takes, .inl (cI, 9, .inl vo_stand_takes)), (o_stand_shareCounts, .inl (cI, 9, .inl vo_stand_shareCounts)), (o_stand_shares, .inl (cI, 27, .inl vo_stand_shares)), (o_table, .inr (4, [.ref o_table_fill, .ref o_table_drunkFrom, .ref o_table_turns, .int vo_table_poured])), (o_table_fill, .inr (0, [.ref o_table_fill_inside, .long vo_table_fill_spilt])), (o_table_fill_inside, .inl (cJ, 9, .inr (.inl vo_table_fill_inside))), (o_trial, .inr (0, [.ref o_trial_inside, .long u4])), (o_trial_inside, .inl (cJ, 9, .inr (.inl u5)))]) (va_runV (As := [.int ((1 : Int32) <<< (p1 &&& 31)), .int p2]) (rest := []) ⟨hx, hb, hml, hown, hts⟩ (k_X5_leastToFill l dC dI cI cJ cC H.size o o_page o_reader o_stand o_trialStand o_table o_kept o_trial o_stand_kinds o_stand_holds o_stand_takes o_stand_shareCounts o_stand_shares o_table_fill o_table_drunkFrom o_table_turns o_table_fill_inside o_trial_inside vo_imageKept vo_towersRead vo_changesDone vo_stand_size vo_stand_kinds vo_stand_takes vo_stand_shareCounts vo_stand_shares vo_table_poured vo_table_fill_spilt vo_table_fill_inside vo_trial_spilt vo_trial_inside ((1 : Int32) <<< (p1 &&& 31)) p2 r3 u4 u5 ev_11 hs0 hs9 hsc) (cwV 2 hts gX5_need_X5_leastToFill rfl rfl rfl (by decide +kernel) ⟨Nat.le_of_ble_eq_true rfl, Nat.le_of_ble_eq_true rfl⟩) (zz_preV [0, 10, 1, 2, 3, 4, 5, 6, 7, 8, 9] hK hP hD rfl rfl (va_recv hK hP (ci := 5) (q0 := 0) rfl rfl)) rfl rfl hl.1 rfl (lv_room (Nat.le_of_ble_eq_true rfl)) dX5_need_30 ⟨Nat.zero_le _, Nat.zero_le _⟩) hP hD hS hA rfl rfl rfl (by decide) (fun ok_12 H locs hP hD hS => ?_)
      have hP : va_P (dC, dI) vwCl [(o, .inr (5, [.ref o_page, .ref o_reader, .ref o_stand, .ref o_trialStand, .ref o_table, .ref o_kept, .ref o_trial, .int vo_imageKept, .int vo_towersRead, .int vo_changesDone])), (o_stand, .inr (3, [.ref o_stand_kinds, .ref o_stand_holds, .ref o_stand_takes, .ref o_stand_shareCounts, .ref o_stand_shares, .int vo_stand_size])), (o_stand_kinds, .inl (cI, 9, .inl vo_stand_kinds)), (o_stand_takes, .inl (cI, 9, .inl vo_stand_takes)), (o_stand_shareCounts, .inl (cI, 9, .inl vo_stand_shareCounts)), (o_stand_shares, .inl (cI, 27, .inl vo_stand_shares)), (o_table, .inr (4, [.ref o_table_fill, .ref o_table_drunkFrom, .ref o_table_turns, .int vo_table_poured])), (o_table_fill, .inr (0, [.ref o_table_fill_inside, .long vo_table_fill_spilt])), (o_table_fill_inside, .inl (cJ, 9, .inr (.inl vo_table_fill_inside))), (o_trial, .inr (0, [.ref o_trial_inside, .long u4])), (o_trial_inside, .inl (cJ, 9, .inr (.inl u5)))] H := hP
      have hD : va_D A [(o, .inr (5, [.ref o_page, .ref o_reader, .ref o_stand, .ref o_trialStand, .ref o_table, .ref o_kept, .ref o_trial, .int vo_imageKept, .int vo_towersRead, .int vo_changesDone])), (o_stand, .inr (3, [.ref o_stand_kinds, .ref o_stand_holds, .ref o_stand_takes, .ref o_stand_shareCounts, .ref o_stand_shares, .int vo_stand_size])), (o_stand_kinds, .inl (cI, 9, .inl vo_stand_kinds)), (o_stand_takes, .inl (cI, 9, .inl vo_stand_takes)), (o_stand_shareCounts, .inl (cI, 9, .inl vo_stand_shareCounts)), (o_stand_shares, .inl (cI, 27, .inl vo_stand_shares)), (o_table, .inr (4, [.ref o_table_fill, .ref o_table_drunkFrom, .ref o_table_turns, .int vo_table_poured])), (o_table_fill, .inr (0, [.ref o_table_fill_inside, .long vo_table_fill_spilt])), (o_table_fill_inside, .inl (cJ, 9, .inr (.inl vo_table_fill_inside))), (o_trial, .inr (0, [.ref o_trial_inside, .long u4])), (o_trial_inside, .inl (cJ, 9, .inr (.inl u5)))] := hD
      have hP9 := hP
      have hD9 := hD
      have hS9 := hS
      have hT : (r3, u4, u5) = (r, qo_trial_spilt, qo_trial_inside) := hT
      cases hT
      subst hQ
      exact zz_iret hx hb hr [0, 1, 2, 3, 4, 5, 6, 7, 8, 9, 10] hK hP9 hD9 hS9 rfl rfl trivial hlocks dX5_need_33
    · replace hT := cutT c_10 hT
      have g_16 := zeqT (rfl : (r2).toInt = _) (by decide : ((0 : Int32)).toInt = 0) c_10
      refine lv_bipush (v := (-101 : Int32)) hx hb dX5_need_22 (by decide) ?_
      have hP9 := hP
      have hD9 := hD
      have hS9 := hS
      have hT : ((-101 : Int32), vo_trial_spilt, vo_trial_inside) = (r, qo_trial_spilt, qo_trial_inside) := hT
      cases hT
      subst hQ
      exact zz_iret hx hb hr [0, 10, 1, 2, 3, 4, 5, 6, 7, 8, 9] hK hP9 hD9 hS9 rfl rfl trivial hlocks dX5_need_24
