def rs_X6_needOf_6 (b5 : Nat → Int64) (p2 : Int32) (vo_glasses : Int32) (vo_rows : Nat → Int32) (u1 : Nat → Int64) (u2 : Nat → Int32) (b4 : Int32) (bk5 : Int32 → (Nat → Int64) → (Int32 × (Nat → Int64) × (Nat → Int32) × (Nat → Int64))) (x10 : Int32) (x11 : Int32) : Int32 × (Nat → Int64) × (Nat → Int32) × (Nat → Int64) :=
 if x11 = (0 : Int32) then
  cut (vp_updL b5 p2.toNatClampNeg ((b5 p2.toNatClampNeg) + (429981696 : Int64))) (fun (a16 : Nat → Int64) =>
  cut2 (m_X6_runOver_w vo_glasses vo_rows u1 u2 a16) (fun (r17 : Int64) (u18 : Nat → Int64) =>
  cut (b4 + (1 : Int32)) (fun (v19 : Int32) =>
  (bk5 v19 u18))))
 else
  (b4, u1, u2, b5)
def lp_X6_needOf_6 (vo_glasses : Int32) (ct6 : Int32 → Int32 → (Int32 × (Nat → Int64) × (Nat → Int32) × (Nat → Int64))) (p1 : Int32) (b5 : Nat → Int64) (u1 : Nat → Int64) : Nat → Int32 → Int32 → (Int32 × (Nat → Int64) × (Nat → Int32) × (Nat → Int64))
  | 0, _, _ => default
  | k + 1, b8, b9 =>
  if vo_glasses ≤ b8 then
   (ct6 b8 b9)
  else
   if b9 = (0 : Int32) then
    cut (b8 + (1 : Int32)) (fun (v12 : Int32) =>
    (lp_X6_needOf_6 vo_glasses ct6 p1 b5 u1 k v12 (0 : Int32)))
   else
    if ((p1 >>> (b8 &&& 31)) &&& (1 : Int32)) = (0 : Int32) then
     cut (b8 + (1 : Int32)) (fun (v13 : Int32) =>
     (lp_X6_needOf_6 vo_glasses ct6 p1 b5 u1 k v13 (1 : Int32)))
    else
     if (lg_cmp (b5 b8.toNatClampNeg) (u1 b8.toNatClampNeg)) = (0 : Int32) then
      cut (b8 + (1 : Int32)) (fun (v15 : Int32) =>
      (lp_X6_needOf_6 vo_glasses ct6 p1 b5 u1 k v15 (1 : Int32)))
     else
      cut (b8 + (1 : Int32)) (fun (v14 : Int32) =>
      (lp_X6_needOf_6 vo_glasses ct6 p1 b5 u1 k v14 (0 : Int32)))
def rs_X6_needOf_5 (u1 : Nat → Int64) (u2 : Nat → Int32) (x6 : Int32) (x7 : Nat → Int64) : Int32 × (Nat → Int64) × (Nat → Int32) × (Nat → Int64) :=
 ((-1 : Int32), u1, u2, x7)
def lp_X6_needOf_5 (ct5 : Int32 → (Nat → Int64) → (Int32 × (Nat → Int64) × (Nat → Int32) × (Nat → Int64))) (vo_glasses : Int32) (p2 : Int32) (vo_rows : Nat → Int32) (u1 : Nat → Int64) (u2 : Nat → Int32) (p1 : Int32) : Nat → Int32 → (Nat → Int64) → (Int32 × (Nat → Int64) × (Nat → Int32) × (Nat → Int64))
  | 0, _, _ => default
  | k + 1, b4, b5 =>
  if (1000 : Int32) ≤ b4 then
   (ct5 b4 b5)
  else
   (lp_X6_needOf_6 vo_glasses (rs_X6_needOf_6 b5 p2 vo_glasses vo_rows u1 u2 b4 (fun c0 c1 => lp_X6_needOf_5 ct5 vo_glasses p2 vo_rows u1 u2 p1 k c0 c1)) p1 b5 u1 11 (0 : Int32) (1 : Int32))
def m_X6_needOf (vo_glasses : Int32) (vo_rows : Nat → Int32) (vo_amounts : Nat → Int64) (vo_takes : Nat → Int64) (vo_leans : Nat → Int32) (vo_would : Nat → Int64) (p1 : Int32) (p2 : Int32) : Int32 × (Nat → Int64) × (Nat → Int32) × (Nat → Int64) :=
 cut3 (m_X6_beginWould vo_glasses vo_rows vo_amounts vo_takes vo_leans vo_would (1 : Int32)) (fun (u1 : Nat → Int64) (u2 : Nat → Int32) (u3 : Nat → Int64) =>
 (lp_X6_needOf_5 (rs_X6_needOf_5 u1 u2) vo_glasses p2 vo_rows u1 u2 p1 1002 (0 : Int32) u3))
set_option maxHeartbeats 4000000 in
set_option maxRecDepth 100000 in
theorem k_X6_needOf (l : Launch) (dC : Nat → ClassId) (dI : Nat → Nat → Nat) (cI cJ cC : ClassId) (sz : Nat) (o o_page o_readRows o_rows o_turns o_amounts o_drank o_takes o_leans o_would o_keptAmounts o_keptDrank o_keptTurns : Nat) (vo_pageMany : Int32) (vo_readMany : Int32) (vo_state : Int32) (vo_readMost : Int32) (vo_glasses : Int32) (vo_towersRead : Int32) (vo_poured : Int32) (vo_spilt : Int64) (vo_done : Int32) (vo_seedNow : Int32) (vo_keptTower : Int32) (vo_keptPoured : Int32) (vo_keptSpilt : Int64) (vo_hash : Int64) (vo_rows : Nat → Int32) (vo_amounts : Nat → Int64) (vo_takes : Nat → Int64) (vo_leans : Nat → Int32) (vo_would : Nat → Int64) (p1 : Int32) (p2 : Int32) (r : Int32) (qo_takes : Nat → Int64) (qo_leans : Nat → Int32) (qo_would : Nat → Int64) (hT : m_X6_needOf vo_glasses vo_rows vo_amounts vo_takes vo_leans vo_would p1 p2 = (r, qo_takes, qo_leans, qo_would)) (hg0 : 0 ≤ vo_glasses.toInt) (hg9 : vo_glasses.toInt ≤ 9) (hrw : zRw vo_rows) (hln : zLn vo_leans) (h20 : 0 ≤ p2.toInt) (h29 : p2.toInt < 9) : Met l yX6_needOf wsX6_needOf ({ frames := 3, cells := 0, slots := 0, locals := 66 }) (zPc [.ref o, .int p1, .int p2] (dC, dI) (zTy cI cJ cC) [(o, .inr (6, [.ref o_page, .int vo_pageMany, .int vo_readMany, .int vo_state, .int vo_readMost, .ref o_readRows, .int vo_glasses, .int vo_towersRead, .int vo_poured, .ref o_rows, .ref o_turns, .ref o_amounts, .ref o_drank, .long vo_spilt, .ref o_takes, .ref o_leans, .ref o_would, .int vo_done, .int vo_seedNow, .int vo_keptTower, .int vo_keptPoured, .long vo_keptSpilt, .ref o_keptAmounts, .ref o_keptDrank, .ref o_keptTurns, .long vo_hash])), (o_rows, .inl (cI, 54, .inl vo_rows)), (o_amounts, .inl (cJ, 9, .inr (.inl vo_amounts))), (o_takes, .inl (cJ, 9, .inr (.inl vo_takes))), (o_leans, .inl (cI, 9, .inl vo_leans)), (o_would, .inl (cJ, 9, .inr (.inl vo_would)))] sz) (zQi r ((zLn qo_leans)) (dC, dI) (zTy cI cJ cC) [(o, .inr (6, [.ref o_page, .int vo_pageMany, .int vo_readMany, .int vo_state, .int vo_readMost, .ref o_readRows, .int vo_glasses, .int vo_towersRead, .int vo_poured, .ref o_rows, .ref o_turns, .ref o_amounts, .ref o_drank, .long vo_spilt, .ref o_takes, .ref o_leans, .ref o_would, .int vo_done, .int vo_seedNow, .int vo_keptTower, .int vo_keptPoured, .long vo_keptSpilt, .ref o_keptAmounts, .ref o_keptDrank, .ref o_keptTurns, .long vo_hash])), (o_rows, .inl (cI, 54, .inl vo_rows)), (o_amounts, .inl (cJ, 9, .inr (.inl vo_amounts))), (o_takes, .inl (cJ, 9, .inr (.inl qo_takes))), (o_leans, .inl (cI, 9, .inl qo_leans)), (o_would, .inl (cJ, 9, .inr (.inl qo_would)))] (va_A [(o, .inr (6, [.ref o_page, .int vo_pageMany, .int vo_readMany, .int vo_state, .int vo_readMost, .ref o_readRows, .int vo_glasses, .int vo_towersRead, .int vo_poured, .ref o_rows, .ref o_turns, .ref o_amounts, .ref o_drank, .long vo_spilt, .ref o_takes, .ref o_leans, .ref o_would, .int vo_done, .int vo_seedNow, .int vo_keptTower, .int vo_keptPoured, .long vo_keptSpilt, .ref o_keptAmounts, .ref o_keptDrank, .ref o_keptTurns, .long vo_hash])), (o_rows, .inl (cI, 54, .inl vo_rows)), (o_amounts, .inl (cJ, 9, .inr (.inl vo_amounts))), (o_takes, .inl (cJ, 9, .inr (.inl vo_takes))), (o_leans, .inl (cI, 9, .inl vo_leans)), (o_would, .inl (cJ, 9, .inr (.inl vo_would)))] sz)) 0 0 (va_A [(o, .inr (6, [.ref o_page, .int vo_pageMany, .int vo_readMany, .int vo_state, .int vo_readMost, .ref o_readRows, .int vo_glasses, .int vo_towersRead, .int vo_poured, .ref o_rows, .ref o_turns, .ref o_amounts, .ref o_drank, .long vo_spilt, .ref o_takes, .ref o_leans, .ref o_would, .int vo_done, .int vo_seedNow, .int vo_keptTower, .int vo_keptPoured, .long vo_keptSpilt, .ref o_keptAmounts, .ref o_keptDrank, .ref o_keptTurns, .long vo_hash])), (o_rows, .inl (cI, 54, .inl vo_rows)), (o_amounts, .inl (cJ, 9, .inr (.inl vo_amounts))), (o_takes, .inl (cJ, 9, .inr (.inl vo_takes))), (o_leans, .inl (cI, 9, .inl vo_leans)), (o_would, .inl (cJ, 9, .inr (.inl vo_would)))] sz) := by
  refine Met.ofW (cc := cX6_needOf) (maxL := 7) (ret := (some .int)) (by decide) rfl ?_
  intro p e s m args below meth c s₁ B hml hv
  obtain ⟨rfl, hsz, hP, hK, hD0⟩ := hv
  have hx := B.exec
  have hb := B.bytes
  have hr := B.returns
  have hts := atoms_spec (ws := wsX6_needOf) B.pre
  have hown : s.vm.findClass RX6 = some m.cls := findClass_of_methodNamed B.named
  have hlocks := B.notSynchronized
  subst hsz
  have hD := hD0.self (sz := s.heap.size)
  generalize hAe : va_A [(o, .inr (6, [.ref o_page, .int vo_pageMany, .int vo_readMany, .int vo_state, .int vo_readMost, .ref o_readRows, .int vo_glasses, .int vo_towersRead, .int vo_poured, .ref o_rows, .ref o_turns, .ref o_amounts, .ref o_drank, .long vo_spilt, .ref o_takes, .ref o_leans, .ref o_would, .int vo_done, .int vo_seedNow, .int vo_keptTower, .int vo_keptPoured, .long vo_keptSpilt, .ref o_keptAmounts, .ref o_keptDrank, .ref o_keptTurns, .long vo_hash])), (o_rows, .inl (cI, 54, .inl vo_rows)), (o_amounts, .inl (cJ, 9, .inr (.inl vo_amounts))), (o_takes, .inl (cJ, 9, .inr (.inl vo_takes))), (o_leans, .inl (cI, 9, .inl vo_leans)), (o_would, .inl (cJ, 9, .inr (.inl vo_would)))] s.heap.size = A at hD ⊢
  have hA : ∀ q : Nat, s.heap.size ≤ q → A q := fun q h => by rw [← hAe]; exact Or.inr h
  have hS : va_S A s.heap s.heap [] := va_S.rf
  have hP : va_P (dC, dI) vwCl [(o, .inr (6, [.ref o_page, .int vo_pageMany, .int vo_readMany, .int vo_state, .int vo_readMost, .ref o_readRows, .int vo_glasses, .int vo_towersRead, .int vo_poured, .ref o_rows, .ref o_turns, .ref o_amounts, .ref o_drank, .long vo_spilt, .ref o_takes, .ref o_leans, .ref o_would, .int vo_done, .int vo_seedNow, .int vo_keptTower, .int vo_keptPoured, .long vo_keptSpilt, .ref o_keptAmounts, .ref o_keptDrank, .ref o_keptTurns, .long vo_hash])), (o_rows, .inl (cI, 54, .inl vo_rows)), (o_amounts, .inl (cJ, 9, .inr (.inl vo_amounts))), (o_takes, .inl (cJ, 9, .inr (.inl vo_takes))), (o_leans, .inl (cI, 9, .inl vo_leans)), (o_would, .inl (cJ, 9, .inr (.inl vo_would)))] s.heap := hP
  have hK : va_K (dC, dI) vwCl (zTy cI cJ cC) s := hK
  have hl := lv_entry ([.ref o, .int p1, .int p2]) (n := 7) (Nat.le_of_ble_eq_true rfl)
  rw [lg_entry_eq]
  generalize (lg_sl ([.ref o, .int p1, .int p2]) ++ List.replicate (7 - (lg_sl ([.ref o, .int p1, .int p2])).length) Slot.unset).toArray = ls at hl ⊢
  have hl : lv_has ls 7 [(0, .ref o), (1, .int p1), (2, .int p2)] := hl
  refine zz_start hP hS (fun Q hQ H locs hP hS => ?_)
  have hwX6 : ∀ w ∈ u_ws RX6 TX6 26, w ∈ wsX6_needOf := by decide +kernel
  have hc_113 := (hts (.constantLong RX6 113 (429981696)) (by decide +kernel))
  have hf_29 := (hts (.fieldLink RX6 29 "PouredTopmostModel" "takes" "[J") (by decide +kernel))
  have hf_35 := (hts (.fieldLink RX6 35 "PouredTopmostModel" "would" "[J") (by decide +kernel))
  have hf_97 := (hts (.fieldLink RX6 97 "PouredTopmostModel" "glasses" "I") (by decide +kernel))
  refine lv_aload_n hx hb dX6_needOf_0 rfl (lv_at hl 0 rfl) ?_
  refine lv_iconst (v := (1 : Int32)) hx hb dX6_needOf_1 (by decide) ?_
  obtain ⟨u1, u2, u3, ev_1⟩ : ∃ x0 x1 x2, (m_X6_beginWould vo_glasses vo_rows vo_amounts vo_takes vo_leans vo_would (1 : Int32)) = (x0, x1, x2) := ⟨_, _, _, rfl⟩
  replace hT := cut3_n ev_1 hT
  refine zz_cv [0, 1, 2, 3, 4, 5] [] (wr := []) (w1 := [(o, .inr (6, [.ref o_page, .int vo_pageMany, .int vo_readMany, .int vo_state, .int vo_readMost, .ref o_readRows, .int vo_glasses, .int vo_towersRead, .int vo_poured, .ref o_rows, .ref o_turns, .ref o_amounts, .ref o_drank, .long vo_spilt, .ref o_takes, .ref o_leans, .ref o_would, .int vo_done, .int vo_seedNow, .int vo_keptTower, .int vo_keptPoured, .long vo_keptSpilt, .ref o_keptAmounts, .ref o_keptDrank, .ref o_keptTurns, .long vo_hash])), (o_rows, .inl (cI, 54, .inl vo_rows)), (o_amounts, .inl (cJ, 9, .inr (.inl vo_amounts))), (o_takes, .inl (cJ, 9, .inr (.inl u1))), (o_leans, .inl (cI, 9, .inl u2)), (o_would, .inl (cJ, 9, .inr (.inl u3)))]) (va_runV (As := [.int (1 : Int32)]) (rest := []) ⟨hx, hb, hml, hown, hts⟩ (k_X6_beginWould l dC dI cI cJ cC H.size o o_page o_readRows o_rows o_turns o_amounts o_drank o_takes o_leans o_would o_keptAmounts o_keptDrank o_keptTurns vo_pageMany vo_readMany vo_state vo_readMost vo_glasses vo_towersRead vo_poured vo_spilt vo_done vo_seedNow vo_keptTower vo_keptPoured vo_keptSpilt vo_hash vo_rows vo_amounts vo_takes vo_leans vo_would (1 : Int32) u1 u2 u3 ev_1 hg0 hg9 hln) (cwV 1 hts gX6_needOf_X6_beginWould rfl rfl rfl (by decide +kernel) ⟨Nat.le_of_ble_eq_true rfl, Nat.le_of_ble_eq_true rfl⟩) (zz_preV [0, 1, 2, 3, 4, 5] hK hP hD rfl rfl (va_recv hK hP (ci := 6) (q0 := 0) rfl rfl)) rfl rfl hl.1 rfl (lv_room (Nat.le_of_ble_eq_true rfl)) dX6_needOf_2 ⟨Nat.zero_le _, Nat.zero_le _⟩) hP hD hS hA rfl rfl rfl (by decide) (fun ok_2 H locs hP hD hS => ?_)
  have hP : va_P (dC, dI) vwCl [(o, .inr (6, [.ref o_page, .int vo_pageMany, .int vo_readMany, .int vo_state, .int vo_readMost, .ref o_readRows, .int vo_glasses, .int vo_towersRead, .int vo_poured, .ref o_rows, .ref o_turns, .ref o_amounts, .ref o_drank, .long vo_spilt, .ref o_takes, .ref o_leans, .ref o_would, .int vo_done, .int vo_seedNow, .int vo_keptTower, .int vo_keptPoured, .long vo_keptSpilt, .ref o_keptAmounts, .ref o_keptDrank, .ref o_keptTurns, .long vo_hash])), (o_rows, .inl (cI, 54, .inl vo_rows)), (o_amounts, .inl (cJ, 9, .inr (.inl vo_amounts))), (o_takes, .inl (cJ, 9, .inr (.inl u1))), (o_leans, .inl (cI, 9, .inl u2)), (o_would, .inl (cJ, 9, .inr (.inl u3)))] H := hP
  have hD : va_D A [(o, .inr (6, [.ref o_page, .int vo_pageMany, .int vo_readMany, .int vo_state, .int vo_readMost, .ref o_readRows, .int vo_glasses, .int vo_towersRead, .int vo_poured, .ref o_rows, .ref o_turns, .ref o_amounts, .ref o_drank, .long vo_spilt, .ref o_takes, .ref o_leans, .ref o_would, .int vo_done, .int vo_seedNow, .int vo_keptTower, .int vo_keptPoured, .long vo_keptSpilt, .ref o_keptAmounts, .ref o_keptDrank, .ref o_keptTurns, .long vo_hash])), (o_rows, .inl (cI, 54, .inl vo_rows)), (o_amounts, .inl (cJ, 9, .inr (.inl vo_amounts))), (o_takes, .inl (cJ, 9, .inr (.inl u1))), (o_leans, .inl (cI, 9, .inl u2)), (o_would, .inl (cJ, 9, .inr (.inl u3)))] := hD
  refine lv_iconst (v := (0 : Int32)) hx hb dX6_needOf_5 (by decide) ?_
  refine lv_istore_n (lv' := [(3, .int (0 : Int32)), (0, .ref o), (1, .int p1), (2, .int p2)]) hx hb dX6_needOf_6 rfl hl (by decide) rfl (fun ls hl => ?_)
  have hz_15 : ((0 : Int32)).toInt = 0 := by decide
  refine zz_loop (α := Int32 × (Nat → Int64)) 109 (fun k a H locs ls => (0 ≤ a.1.toInt) ∧ (a.1.toInt ≤ 1000) ∧ (1000 - a.1.toInt < ((k : Nat) : Int)) ∧ lp_X6_needOf_5 (rs_X6_needOf_5 u1 u2) vo_glasses p2 vo_rows u1 u2 p1 k a.1 a.2 = (r, qo_takes, qo_leans, qo_would) ∧ va_P (dC, dI) vwCl [(o, .inr (6, [.ref o_page, .int vo_pageMany, .int vo_readMany, .int vo_state, .int vo_readMost, .ref o_readRows, .int vo_glasses, .int vo_towersRead, .int vo_poured, .ref o_rows, .ref o_turns, .ref o_amounts, .ref o_drank, .long vo_spilt, .ref o_takes, .ref o_leans, .ref o_would, .int vo_done, .int vo_seedNow, .int vo_keptTower, .int vo_keptPoured, .long vo_keptSpilt, .ref o_keptAmounts, .ref o_keptDrank, .ref o_keptTurns, .long vo_hash])), (o_rows, .inl (cI, 54, .inl vo_rows)), (o_amounts, .inl (cJ, 9, .inr (.inl vo_amounts))), (o_takes, .inl (cJ, 9, .inr (.inl u1))), (o_leans, .inl (cI, 9, .inl u2)), (o_would, .inl (cJ, 9, .inr (.inl a.2)))] H ∧ va_D A [(o, .inr (6, [.ref o_page, .int vo_pageMany, .int vo_readMany, .int vo_state, .int vo_readMost, .ref o_readRows, .int vo_glasses, .int vo_towersRead, .int vo_poured, .ref o_rows, .ref o_turns, .ref o_amounts, .ref o_drank, .long vo_spilt, .ref o_takes, .ref o_leans, .ref o_would, .int vo_done, .int vo_seedNow, .int vo_keptTower, .int vo_keptPoured, .long vo_keptSpilt, .ref o_keptAmounts, .ref o_keptDrank, .ref o_keptTurns, .long vo_hash])), (o_rows, .inl (cI, 54, .inl vo_rows)), (o_amounts, .inl (cJ, 9, .inr (.inl vo_amounts))), (o_takes, .inl (cJ, 9, .inr (.inl u1))), (o_leans, .inl (cI, 9, .inl u2)), (o_would, .inl (cJ, 9, .inr (.inl a.2)))] ∧ va_S A s.heap H locs ∧ lv_has ls 7 [(3, .int a.1), (0, .ref o), (1, .int p1), (2, .int p2)]) (fun a H locs ls => (0 ≤ a.1.toInt) ∧ (a.1.toInt ≤ 1000) ∧ (rs_X6_needOf_5 u1 u2) a.1 a.2 = (r, qo_takes, qo_leans, qo_would) ∧ va_P (dC, dI) vwCl [(o, .inr (6, [.ref o_page, .int vo_pageMany, .int vo_readMany, .int vo_state, .int vo_readMost, .ref o_readRows, .int vo_glasses, .int vo_towersRead, .int vo_poured, .ref o_rows, .ref o_turns, .ref o_amounts, .ref o_drank, .long vo_spilt, .ref o_takes, .ref o_leans, .ref o_would, .int vo_done, .int vo_seedNow, .int vo_keptTower, .int vo_keptPoured, .long vo_keptSpilt, .ref o_keptAmounts, .ref o_keptDrank, .ref o_keptTurns, .long vo_hash])), (o_rows, .inl (cI, 54, .inl vo_rows)), (o_amounts, .inl (cJ, 9, .inr (.inl vo_amounts))), (o_takes, .inl (cJ, 9, .inr (.inl u1))), (o_leans, .inl (cI, 9, .inl u2)), (o_would, .inl (cJ, 9, .inr (.inl a.2)))] H ∧ va_D A [(o, .inr (6, [.ref o_page, .int vo_pageMany, .int vo_readMany, .int vo_state, .int vo_readMost, .ref o_readRows, .int vo_glasses, .int vo_towersRead, .int vo_poured, .ref o_rows, .ref o_turns, .ref o_amounts, .ref o_drank, .long vo_spilt, .ref o_takes, .ref o_leans, .ref o_would, .int vo_done, .int vo_seedNow, .int vo_keptTower, .int vo_keptPoured, .long vo_keptSpilt, .ref o_keptAmounts, .ref o_keptDrank, .ref o_keptTurns, .long vo_hash])), (o_rows, .inl (cI, 54, .inl vo_rows)), (o_amounts, .inl (cJ, 9, .inr (.inl vo_amounts))), (o_takes, .inl (cJ, 9, .inr (.inl u1))), (o_leans, .inl (cI, 9, .inl u2)), (o_would, .inl (cJ, 9, .inr (.inl a.2)))] ∧ va_S A s.heap H locs ∧ lv_has ls 7 []) ?_ ?_ ?_ 1002 ((0 : Int32), u3) ⟨(by omega : 0 ≤ (0 : Int32).toInt), (by omega : (0 : Int32).toInt ≤ 1000), (by omega : 1000 - (0 : Int32).toInt < ((1002 : Nat) : Int)), hT, hP.sub [0, 1, 2, 3, 4, 5] rfl, hD.sub [0, 1, 2, 3, 4, 5] rfl rfl, hS, lv_sub hl [0, 1, 2, 3] rfl⟩
  · rintro ⟨x6, x7⟩ H locs ls ⟨i1, j1, hT, hP, hD, hS, hl⟩
    have hP : va_P (dC, dI) vwCl [(o, .inr (6, [.ref o_page, .int vo_pageMany, .int vo_readMany, .int vo_state, .int vo_readMost, .ref o_readRows, .int vo_glasses, .int vo_towersRead, .int vo_poured, .ref o_rows, .ref o_turns, .ref o_amounts, .ref o_drank, .long vo_spilt, .ref o_takes, .ref o_leans, .ref o_would, .int vo_done, .int vo_seedNow, .int vo_keptTower, .int vo_keptPoured, .long vo_keptSpilt, .ref o_keptAmounts, .ref o_keptDrank, .ref o_keptTurns, .long vo_hash])), (o_rows, .inl (cI, 54, .inl vo_rows)), (o_amounts, .inl (cJ, 9, .inr (.inl vo_amounts))), (o_takes, .inl (cJ, 9, .inr (.inl u1))), (o_leans, .inl (cI, 9, .inl u2)), (o_would, .inl (cJ, 9, .inr (.inl x7)))] H := hP
    have hD : va_D A [(o, .inr (6, [.ref o_page, .int vo_pageMany, .int vo_readMany, .int vo_state, .int vo_readMost, .ref o_readRows, .int vo_glasses, .int vo_towersRead, .int vo_poured, .ref o_rows, .ref o_turns, .ref o_amounts, .ref o_drank, .long vo_spilt, .ref o_takes, .ref o_leans, .ref o_would, .int vo_done, .int vo_seedNow, .int vo_keptTower, .int vo_keptPoured, .long vo_keptSpilt, .ref o_keptAmounts, .ref o_keptDrank, .ref o_keptTurns, .long vo_hash])), (o_rows, .inl (cI, 54, .inl vo_rows)), (o_amounts, .inl (cJ, 9, .inr (.inl vo_amounts))), (o_takes, .inl (cJ, 9, .inr (.inl u1))), (o_leans, .inl (cI, 9, .inl u2)), (o_would, .inl (cJ, 9, .inr (.inl x7)))] := hD
    have hl : lv_has ls 7 [] := hl
    have hT : (rs_X6_needOf_5 u1 u2) x6 x7 = (r, qo_takes, qo_leans, qo_would) := hT
    have i1 : 0 ≤ x6.toInt := i1
    have j1 : x6.toInt ≤ 1000 := j1
    refine lv_iconst (v := (-1 : Int32)) hx hb dX6_needOf_109 (by decide) ?_
    have hP9 := hP
    have hD9 := hD
    have hS9 := hS
    have hT : ((-1 : Int32), u1, u2, x7) = (r, qo_takes, qo_leans, qo_would) := hT
    cases hT
    subst hQ
    exact zz_iret hx hb hr [0, 1, 2, 3, 4, 5] hK hP9 hD9 hS9 rfl rfl (by assumption) hlocks dX6_needOf_110
  · rintro ⟨b4, b5⟩ H locs ls ⟨i1, j1, hm, -⟩
    try dsimp only at *
    omega
  · intro k5 hex5 ih5
    rintro ⟨b4, b5⟩ H locs ls ⟨i1, j1, hm5, hT, hP, hD, hS, hl⟩
    have hP : va_P (dC, dI) vwCl [(o, .inr (6, [.ref o_page, .int vo_pageMany, .int vo_readMany, .int vo_state, .int vo_readMost, .ref o_readRows, .int vo_glasses, .int vo_towersRead, .int vo_poured, .ref o_rows, .ref o_turns, .ref o_amounts, .ref o_drank, .long vo_spilt, .ref o_takes, .ref o_leans, .ref o_would, .int vo_done, .int vo_seedNow, .int vo_keptTower, .int vo_keptPoured, .long vo_keptSpilt, .ref o_keptAmounts, .ref o_keptDrank, .ref o_keptTurns, .long vo_hash])), (o_rows, .inl (cI, 54, .inl vo_rows)), (o_amounts, .inl (cJ, 9, .inr (.inl vo_amounts))), (o_takes, .inl (cJ, 9, .inr (.inl u1))), (o_leans, .inl (cI, 9, .inl u2)), (o_would, .inl (cJ, 9, .inr (.inl b5)))] H := hP
    have hD : va_D A [(o, .inr (6, [.ref o_page, .int vo_pageMany, .int vo_readMany, .int vo_state, .int vo_readMost, .ref o_readRows, .int vo_glasses, .int vo_towersRead, .int vo_poured, .ref o_rows, .ref o_turns, .ref o_amounts, .ref o_drank, .long vo_spilt, .ref o_takes, .ref o_leans, .ref o_would, .int vo_done, .int vo_seedNow, .int vo_keptTower, .int vo_keptPoured, .long vo_keptSpilt, .ref o_keptAmounts, .ref o_keptDrank, .ref o_keptTurns, .long vo_hash])), (o_rows, .inl (cI, 54, .inl vo_rows)), (o_amounts, .inl (cJ, 9, .inr (.inl vo_amounts))), (o_takes, .inl (cJ, 9, .inr (.inl u1))), (o_leans, .inl (cI, 9, .inl u2)), (o_would, .inl (cJ, 9, .inr (.inl b5)))] := hD
    have hl : lv_has ls 7 [(3, .int b4), (0, .ref o), (1, .int p1), (2, .int p2)] := hl
    have hT : lp_X6_needOf_5 (rs_X6_needOf_5 u1 u2) vo_glasses p2 vo_rows u1 u2 p1 (k5 + 1) b4 b5 = (r, qo_takes, qo_leans, qo_would) := hT
    have i1 : 0 ≤ b4.toInt := i1
    have j1 : b4.toInt ≤ 1000 := j1
    have hm5 : 1000 - b4.toInt < (((k5 + 1) : Nat) : Int) := hm5
    try simp only [Int.natCast_add, Int.natCast_one, Nat.cast_add, Nat.cast_one] at hm5
    refine lv_iload_n hx hb dX6_needOf_7 rfl (lv_at hl 0 rfl) ?_
    refine lv_sipush (v := (1000 : Int32)) hx hb dX6_needOf_8 (by decide) ?_
    refine lv_icmp_ge (tgt := 109) hx hb dX6_needOf_11 (by decide) (fun c_3 => ?_) (fun c_3 => ?_)
    · replace hT := cutT c_3 hT
      have g_16 := zleT (by decide : ((1000 : Int32)).toInt = 1000) (rfl : (b4).toInt = _) c_3
      exact hex5 (b4, b5) _ _ _ ⟨(by omega : 0 ≤ b4.toInt), (by omega : b4.toInt ≤ 1000), hT, hP.sub [0, 1, 2, 3, 4, 5] rfl, hD.sub [0, 1, 2, 3, 4, 5] rfl rfl, hS, lv_sub hl [] rfl⟩
    · replace hT := cutF c_3 hT
      have g_17 := zleF (by decide : ((1000 : Int32)).toInt = 1000) (rfl : (b4).toInt = _) c_3
      refine lv_iconst (v := (1 : Int32)) hx hb dX6_needOf_14 (by decide) ?_
      refine lv_istore (lv' := [(4, .int (1 : Int32)), (3, .int b4), (0, .ref o), (1, .int p1), (2, .int p2)]) hx hb dX6_needOf_15 hl (by decide) rfl (fun ls hl => ?_)
      refine lv_iconst (v := (0 : Int32)) hx hb dX6_needOf_17 (by decide) ?_
      refine lv_istore (lv' := [(5, .int (0 : Int32)), (4, .int (1 : Int32)), (3, .int b4), (0, .ref o), (1, .int p1), (2, .int p2)]) hx hb dX6_needOf_18 hl (by decide) rfl (fun ls hl => ?_)
      have hz_18 : ((0 : Int32)).toInt = 0 := by decide
      have hz_19 : ((1 : Int32)).toInt = 1 := by decide
      refine zz_loop (α := Int32 × Int32) 74 (fun k a H locs ls => (0 ≤ a.1.toInt) ∧ (a.1.toInt ≤ vo_glasses.toInt) ∧ (vo_glasses.toInt - a.1.toInt < ((k : Nat) : Int)) ∧ lp_X6_needOf_6 vo_glasses (rs_X6_needOf_6 b5 p2 vo_glasses vo_rows u1 u2 b4 (fun c0 c1 => lp_X6_needOf_5 (rs_X6_needOf_5 u1 u2) vo_glasses p2 vo_rows u1 u2 p1 k5 c0 c1)) p1 b5 u1 k a.1 a.2 = (r, qo_takes, qo_leans, qo_would) ∧ va_P (dC, dI) vwCl [(o, .inr (6, [.ref o_page, .int vo_pageMany, .int vo_readMany, .int vo_state, .int vo_readMost, .ref o_readRows, .int vo_glasses, .int vo_towersRead, .int vo_poured, .ref o_rows, .ref o_turns, .ref o_amounts, .ref o_drank, .long vo_spilt, .ref o_takes, .ref o_leans, .ref o_would, .int vo_done, .int vo_seedNow, .int vo_keptTower, .int vo_keptPoured, .long vo_keptSpilt, .ref o_keptAmounts, .ref o_keptDrank, .ref o_keptTurns, .long vo_hash])), (o_rows, .inl (cI, 54, .inl vo_rows)), (o_amounts, .inl (cJ, 9, .inr (.inl vo_amounts))), (o_takes, .inl (cJ, 9, .inr (.inl u1))), (o_leans, .inl (cI, 9, .inl u2)), (o_would, .inl (cJ, 9, .inr (.inl b5)))] H ∧ va_D A [(o, .inr (6, [.ref o_page, .int vo_pageMany, .int vo_readMany, .int vo_state, .int vo_readMost, .ref o_readRows, .int vo_glasses, .int vo_towersRead, .int vo_poured, .ref o_rows, .ref o_turns, .ref o_amounts, .ref o_drank, .long vo_spilt, .ref o_takes, .ref o_leans, .ref o_would, .int vo_done, .int vo_seedNow, .int vo_keptTower, .int vo_keptPoured, .long vo_keptSpilt, .ref o_keptAmounts, .ref o_keptDrank, .ref o_keptTurns, .long vo_hash])), (o_rows, .inl (cI, 54, .inl vo_rows)), (o_amounts, .inl (cJ, 9, .inr (.inl vo_amounts))), (o_takes, .inl (cJ, 9, .inr (.inl u1))), (o_leans, .inl (cI, 9, .inl u2)), (o_would, .inl (cJ, 9, .inr (.inl b5)))] ∧ va_S A s.heap H locs ∧ lv_has ls 7 [(5, .int a.1), (4, .int a.2), (3, .int b4), (0, .ref o), (1, .int p1), (2, .int p2)]) (fun a H locs ls => (0 ≤ a.1.toInt) ∧ (a.1.toInt ≤ vo_glasses.toInt) ∧ (rs_X6_needOf_6 b5 p2 vo_glasses vo_rows u1 u2 b4 (fun c0 c1 => lp_X6_needOf_5 (rs_X6_needOf_5 u1 u2) vo_glasses p2 vo_rows u1 u2 p1 k5 c0 c1)) a.1 a.2 = (r, qo_takes, qo_leans, qo_would) ∧ va_P (dC, dI) vwCl [(o, .inr (6, [.ref o_page, .int vo_pageMany, .int vo_readMany, .int vo_state, .int vo_readMost, .ref o_readRows, .int vo_glasses, .int vo_towersRead, .int vo_poured, .ref o_rows, .ref o_turns, .ref o_amounts, .ref o_drank, .long vo_spilt, .ref o_takes, .ref o_leans, .ref o_would, .int vo_done, .int vo_seedNow, .int vo_keptTower, .int vo_keptPoured, .long vo_keptSpilt, .ref o_keptAmounts, .ref o_keptDrank, .ref o_keptTurns, .long vo_hash])), (o_rows, .inl (cI, 54, .inl vo_rows)), (o_amounts, .inl (cJ, 9, .inr (.inl vo_amounts))), (o_takes, .inl (cJ, 9, .inr (.inl u1))), (o_leans, .inl (cI, 9, .inl u2)), (o_would, .inl (cJ, 9, .inr (.inl b5)))] H ∧ va_D A [(o, .inr (6, [.ref o_page, .int vo_pageMany, .int vo_readMany, .int vo_state, .int vo_readMost, .ref o_readRows, .int vo_glasses, .int vo_towersRead, .int vo_poured, .ref o_rows, .ref o_turns, .ref o_amounts, .ref o_drank, .long vo_spilt, .ref o_takes, .ref o_leans, .ref o_would, .int vo_done, .int vo_seedNow, .int vo_keptTower, .int vo_keptPoured, .long vo_keptSpilt, .ref o_keptAmounts, .ref o_keptDrank, .ref o_keptTurns, .long vo_hash])), (o_rows, .inl (cI, 54, .inl vo_rows)), (o_amounts, .inl (cJ, 9, .inr (.inl vo_amounts))), (o_takes, .inl (cJ, 9, .inr (.inl u1))), (o_leans, .inl (cI, 9, .inl u2)), (o_would, .inl (cJ, 9, .inr (.inl b5)))] ∧ va_S A s.heap H locs ∧ lv_has ls 7 [(4, .int a.2), (3, .int b4), (0, .ref o), (1, .int p1), (2, .int p2)]) ?_ ?_ ?_ 11 ((0 : Int32), (1 : Int32)) ⟨(by omega : 0 ≤ (0 : Int32).toInt), (by omega : (0 : Int32).toInt ≤ vo_glasses.toInt), (by omega : vo_glasses.toInt - (0 : Int32).toInt < ((11 : Nat) : Int)), hT, hP.sub [0, 1, 2, 3, 4, 5] rfl, hD.sub [0, 1, 2, 3, 4, 5] rfl rfl, hS, lv_sub hl [0, 1, 2, 3, 4, 5] rfl⟩
      · rintro ⟨x10, x11⟩ H locs ls ⟨i2, j2, hT, hP, hD, hS, hl⟩
        have hP : va_P (dC, dI) vwCl [(o, .inr (6, [.ref o_page, .int vo_pageMany, .int vo_readMany, .int vo_state, .int vo_readMost, .ref o_readRows, .int vo_glasses, .int vo_towersRead, .int vo_poured, .ref o_rows, .ref o_turns, .ref o_amounts, .ref o_drank, .long vo_spilt, .ref o_takes, .ref o_leans, .ref o_would, .int vo_done, .int vo_seedNow, .int vo_keptTower, .int vo_keptPoured, .long vo_keptSpilt, .ref o_keptAmounts, .ref o_keptDrank, .ref o_keptTurns, .long vo_hash])), (o_rows, .inl (cI, 54, .inl vo_rows)), (o_amounts, .inl (cJ, 9, .inr (.inl vo_amounts))), (o_takes, .inl (cJ, 9, .inr (.inl u1))), (o_leans, .inl (cI, 9, .inl u2)), (o_would, .inl (cJ, 9, .inr (.inl b5)))] H := hP
        have hD : va_D A [(o, .inr (6, [.ref o_page, .int vo_pageMany, .int vo_readMany, .int vo_state, .int vo_readMost, .ref o_readRows, .int vo_glasses, .int vo_towersRead, .int vo_poured, .ref o_rows, .ref o_turns, .ref o_amounts, .ref o_drank, .long vo_spilt, .ref o_takes, .ref o_leans, .ref o_would, .int vo_done, .int vo_seedNow, .int vo_keptTower, .int vo_keptPoured, .long vo_keptSpilt, .ref o_keptAmounts, .ref o_keptDrank, .ref o_keptTurns, .long vo_hash])), (o_rows, .inl (cI, 54, .inl vo_rows)), (o_amounts, .inl (cJ, 9, .inr (.inl vo_amounts))), (o_takes, .inl (cJ, 9, .inr (.inl u1))), (o_leans, .inl (cI, 9, .inl u2)), (o_would, .inl (cJ, 9, .inr (.inl b5)))] := hD
        have hl : lv_has ls 7 [(4, .int x11), (3, .int b4), (0, .ref o), (1, .int p1), (2, .int p2)] := hl
        have hT : (rs_X6_needOf_6 b5 p2 vo_glasses vo_rows u1 u2 b4 (fun c0 c1 => lp_X6_needOf_5 (rs_X6_needOf_5 u1 u2) vo_glasses p2 vo_rows u1 u2 p1 k5 c0 c1)) x10 x11 = (r, qo_takes, qo_leans, qo_would) := hT
        have i2 : 0 ≤ x10.toInt := i2
        have j2 : x10.toInt ≤ vo_glasses.toInt := j2
        refine lv_iload hx hb dX6_needOf_74 (lv_at hl 0 rfl) ?_
        refine lv_if_eq (tgt := 81) hx hb dX6_needOf_76 (by decide) (fun c_10 => ?_) (fun c_10 => ?_)
        · replace hT := cutT c_10 hT
          have g_20 := zeqT (rfl : (x11).toInt = _) (by decide : ((0 : Int32)).toInt = 0) c_10
          refine lv_aload_n hx hb dX6_needOf_81 rfl (lv_at hl 2 rfl) ?_
          refine va_get (D := (dC, dI)) (ci := 6) (v := .ref o_would) (C := RX6) (T := TX6) (N := 26) hx hb hts hwX6 hown hK hP 0 rfl rfl 16 (by decide) hf_35 (fun _ h9 => h9) rfl dX6_needOf_82 ?_
          refine lv_iload_n hx hb dX6_needOf_85 rfl (lv_at hl 4 rfl) ?_
          refine lv_dup2_11 hx hb dX6_needOf_86 rfl rfl ?_
          have h_11 : vp_in p2 9 := zin (by omega) (by omega)
          refine va_lald hx hb hK hP 5 1 rfl rfl h_11 dX6_needOf_87 ?_
          refine lv_ldc2 (v := (429981696 : Int64)) hx hb hown hc_113 dX6_needOf_88 ?_
          refine lv_ladd hx hb dX6_needOf_91 ?_
          have h_12 : vp_in p2 9 := zin (by omega) (by omega)
          refine va_last hx hb hK hP hD hS 5 1 rfl rfl h_12 dX6_needOf_92 (fun H locs hP hD hS => ?_)
          obtain ⟨a16, ea16⟩ : ∃ z, (vp_updL b5 p2.toNatClampNeg ((b5 p2.toNatClampNeg) + (429981696 : Int64))) = z := ⟨_, rfl⟩
          replace hT := cut_n ea16 hT
          have hP : va_P (dC, dI) vwCl [(o, .inr (6, [.ref o_page, .int vo_pageMany, .int vo_readMany, .int vo_state, .int vo_readMost, .ref o_readRows, .int vo_glasses, .int vo_towersRead, .int vo_poured, .ref o_rows, .ref o_turns, .ref o_amounts, .ref o_drank, .long vo_spilt, .ref o_takes, .ref o_leans, .ref o_would, .int vo_done, .int vo_seedNow, .int vo_keptTower, .int vo_keptPoured, .long vo_keptSpilt, .ref o_keptAmounts, .ref o_keptDrank, .ref o_keptTurns, .long vo_hash])), (o_rows, .inl (cI, 54, .inl vo_rows)), (o_amounts, .inl (cJ, 9, .inr (.inl vo_amounts))), (o_takes, .inl (cJ, 9, .inr (.inl u1))), (o_leans, .inl (cI, 9, .inl u2)), (o_would, .inl (cJ, 9, .inr (.inl a16)))] H := by rw [← ea16]; exact hP
          have hD : va_D A [(o, .inr (6, [.ref o_page, .int vo_pageMany, .int vo_readMany, .int vo_state, .int vo_readMost, .ref o_readRows, .int vo_glasses, .int vo_towersRead, .int vo_poured, .ref o_rows, .ref o_turns, .ref o_amounts, .ref o_drank, .long vo_spilt, .ref o_takes, .ref o_leans, .ref o_would, .int vo_done, .int vo_seedNow, .int vo_keptTower, .int vo_keptPoured, .long vo_keptSpilt, .ref o_keptAmounts, .ref o_keptDrank, .ref o_keptTurns, .long vo_hash])), (o_rows, .inl (cI, 54, .inl vo_rows)), (o_amounts, .inl (cJ, 9, .inr (.inl vo_amounts))), (o_takes, .inl (cJ, 9, .inr (.inl u1))), (o_leans, .inl (cI, 9, .inl u2)), (o_would, .inl (cJ, 9, .inr (.inl a16)))] := by rw [← ea16]; exact hD
          refine lv_aload_n hx hb dX6_needOf_93 rfl (lv_at hl 2 rfl) ?_
          refine lv_aload_n hx hb dX6_needOf_94 rfl (lv_at hl 2 rfl) ?_
          refine va_get (D := (dC, dI)) (ci := 6) (v := .ref o_would) (C := RX6) (T := TX6) (N := 26) hx hb hts hwX6 hown hK hP 0 rfl rfl 16 (by decide) hf_35 (fun _ h9 => h9) rfl dX6_needOf_95 ?_
          obtain ⟨r17, u18, ev_13⟩ : ∃ x0 x1, (m_X6_runOver_w vo_glasses vo_rows u1 u2 a16) = (x0, x1) := ⟨_, _, rfl⟩
          replace hT := cut2_n ev_13 hT
          refine zz_cl [0, 1, 3, 4, 5] [2] (wr := [(o_amounts, .inl (cJ, 9, .inr (.inl vo_amounts)))]) (w1 := [(o, .inr (6, [.ref o_page, .int vo_pageMany, .int vo_readMany, .int vo_state, .int vo_readMost, .ref o_readRows, .int vo_glasses, .int vo_towersRead, .int vo_poured, .ref o_rows, .ref o_turns, .ref o_amounts, .ref o_drank, .long vo_spilt, .ref o_takes, .ref o_leans, .ref o_would, .int vo_done, .int vo_seedNow, .int vo_keptTower, .int vo_keptPoured, .long vo_keptSpilt, .ref o_keptAmounts, .ref o_keptDrank, .ref o_keptTurns, .long vo_hash])), (o_rows, .inl (cI, 54, .inl vo_rows)), (o_takes, .inl (cJ, 9, .inr (.inl u1))), (o_leans, .inl (cI, 9, .inl u2)), (o_would, .inl (cJ, 9, .inr (.inl u18)))]) (va_runV (As := [.ref o_would]) (rest := []) ⟨hx, hb, hml, hown, hts⟩ (k_X6_runOver_w l dC dI cI cJ cC H.size o o_page o_readRows o_rows o_turns o_amounts o_drank o_takes o_leans o_would o_keptAmounts o_keptDrank o_keptTurns vo_pageMany vo_readMany vo_state vo_readMost vo_glasses vo_towersRead vo_poured vo_spilt vo_done vo_seedNow vo_keptTower vo_keptPoured vo_keptSpilt vo_hash vo_rows u1 u2 a16 r17 u18 ev_13 hg0 hg9 hrw ok_2) (cwV 1 hts gX6_needOf_X6_runOver rfl rfl rfl (by decide +kernel) ⟨Nat.le_of_ble_eq_true rfl, Nat.le_of_ble_eq_true rfl⟩) (zz_preV [0, 1, 3, 4, 5] hK hP hD rfl rfl (va_recv hK hP (ci := 6) (q0 := 0) rfl rfl)) rfl rfl hl.1 rfl (lv_room (Nat.le_of_ble_eq_true rfl)) dX6_needOf_98 ⟨Nat.zero_le _, Nat.zero_le _⟩) hP hD hS hA rfl rfl rfl (by decide) (fun ok_14 H locs hP hD hS => ?_)
          have hP : va_P (dC, dI) vwCl [(o_amounts, .inl (cJ, 9, .inr (.inl vo_amounts))), (o, .inr (6, [.ref o_page, .int vo_pageMany, .int vo_readMany, .int vo_state, .int vo_readMost, .ref o_readRows, .int vo_glasses, .int vo_towersRead, .int vo_poured, .ref o_rows, .ref o_turns, .ref o_amounts, .ref o_drank, .long vo_spilt, .ref o_takes, .ref o_leans, .ref o_would, .int vo_done, .int vo_seedNow, .int vo_keptTower, .int vo_keptPoured, .long vo_keptSpilt, .ref o_keptAmounts, .ref o_keptDrank, .ref o_keptTurns, .long vo_hash])), (o_rows, .inl (cI, 54, .inl vo_rows)), (o_takes, .inl (cJ, 9, .inr (.inl u1))), (o_leans, .inl (cI, 9, .inl u2)), (o_would, .inl (cJ, 9, .inr (.inl u18)))] H := hP
          have hD : va_D A [(o_amounts, .inl (cJ, 9, .inr (.inl vo_amounts))), (o, .inr (6, [.ref o_page, .int vo_pageMany, .int vo_readMany, .int vo_state, .int vo_readMost, .ref o_readRows, .int vo_glasses, .int vo_towersRead, .int vo_poured, .ref o_rows, .ref o_turns, .ref o_amounts, .ref o_drank, .long vo_spilt, .ref o_takes, .ref o_leans, .ref o_would, .int vo_done, .int vo_seedNow, .int vo_keptTower, .int vo_keptPoured, .long vo_keptSpilt, .ref o_keptAmounts, .ref o_keptDrank, .ref o_keptTurns, .long vo_hash])), (o_rows, .inl (cI, 54, .inl vo_rows)), (o_takes, .inl (cJ, 9, .inr (.inl u1))), (o_leans, .inl (cI, 9, .inl u2)), (o_would, .inl (cJ, 9, .inr (.inl u18)))] := hD
          refine lv_lstore (lv' := [(5, .long r17), (4, .int x11), (3, .int b4), (0, .ref o), (1, .int p1), (2, .int p2)]) hx hb dX6_needOf_101 hl (by decide) rfl (fun ls hl => ?_)
          obtain ⟨v19, ev19⟩ : ∃ y : Int32, (b4 + (1 : Int32)) = y := ⟨_, rfl⟩
          replace hT := cut_n ev19 hT
          try have fv19 := zaddE (rfl : (b4).toInt = _) (by decide : ((1 : Int32)).toInt = 1) ev19 (by omega) (by omega)
          refine lv_iinc (v := v19) (lv' := [(3, .int v19), (5, .long r17), (4, .int x11), (0, .ref o), (1, .int p1), (2, .int p2)]) hx hb dX6_needOf_103 hl (k := 2) rfl (by rw [← ev19]; rfl) (by decide) rfl (fun ls hl => ?_)
          refine lv_goto (tgt := 7) hx hb dX6_needOf_106 (by decide) ?_
          exact ih5 (v19, u18) _ _ _ ⟨(by omega : 0 ≤ v19.toInt), (by omega : v19.toInt ≤ 1000), (by omega : 1000 - v19.toInt < ((k5 : Nat) : Int)), hT, hP.sub [1, 2, 0, 3, 4, 5] rfl, hD.sub [1, 2, 0, 3, 4, 5] rfl rfl, hS, lv_sub hl [0, 3, 4, 5] rfl⟩
        · replace hT := cutF c_10 hT
          have g_21 := zeqF (rfl : (x11).toInt = _) (by decide : ((0 : Int32)).toInt = 0) c_10
          refine lv_iload_n hx hb dX6_needOf_79 rfl (lv_at hl 1 rfl) ?_
          have hP9 := hP
          have hD9 := hD
          have hS9 := hS
          have hT : (b4, u1, u2, b5) = (r, qo_takes, qo_leans, qo_would) := hT
          cases hT
          subst hQ
          exact zz_iret hx hb hr [0, 1, 2, 3, 4, 5] hK hP9 hD9 hS9 rfl rfl (by assumption) hlocks dX6_needOf_80
      · rintro ⟨b8, b9⟩ H locs ls ⟨i2, j2, hm, -⟩
        try dsimp only at *
        omega
      · intro k6 hex6 ih6
        rintro ⟨b8, b9⟩ H locs ls ⟨i2, j2, hm6, hT, hP, hD, hS, hl⟩
        have hP : va_P (dC, dI) vwCl [(o, .inr (6, [.ref o_page, .int vo_pageMany, .int vo_readMany, .int vo_state, .int vo_readMost, .ref o_readRows, .int vo_glasses, .int vo_towersRead, .int vo_poured, .ref o_rows, .ref o_turns, .ref o_amounts, .ref o_drank, .long vo_spilt, .ref o_takes, .ref o_leans, .ref o_would, .int vo_done, .int vo_seedNow, .int vo_keptTower, .int vo_keptPoured, .long vo_keptSpilt, .ref o_keptAmounts, .ref o_keptDrank, .ref o_keptTurns, .long vo_hash])), (o_rows, .inl (cI, 54, .inl vo_rows)), (o_amounts, .inl (cJ, 9, .inr (.inl vo_amounts))), (o_takes, .inl (cJ, 9, .inr (.inl u1))), (o_leans, .inl (cI, 9, .inl u2)), (o_would, .inl (cJ, 9, .inr (.inl b5)))] H := hP
        have hD : va_D A [(o, .inr (6, [.ref o_page, .int vo_pageMany, .int vo_readMany, .int vo_state, .int vo_readMost, .ref o_readRows, .int vo_glasses, .int vo_towersRead, .int vo_poured, .ref o_rows, .ref o_turns, .ref o_amounts, .ref o_drank, .long vo_spilt, .ref o_takes, .ref o_leans, .ref o_would, .int vo_done, .int vo_seedNow, .int vo_keptTower, .int vo_keptPoured, .long vo_keptSpilt, .ref o_keptAmounts, .ref o_keptDrank, .ref o_keptTurns, .long vo_hash])), (o_rows, .inl (cI, 54, .inl vo_rows)), (o_amounts, .inl (cJ, 9, .inr (.inl vo_amounts))), (o_takes, .inl (cJ, 9, .inr (.inl u1))), (o_leans, .inl (cI, 9, .inl u2)), (o_would, .inl (cJ, 9, .inr (.inl b5)))] := hD
        have hl : lv_has ls 7 [(5, .int b8), (4, .int b9), (3, .int b4), (0, .ref o), (1, .int p1), (2, .int p2)] := hl
        have hT : lp_X6_needOf_6 vo_glasses (rs_X6_needOf_6 b5 p2 vo_glasses vo_rows u1 u2 b4 (fun c0 c1 => lp_X6_needOf_5 (rs_X6_needOf_5 u1 u2) vo_glasses p2 vo_rows u1 u2 p1 k5 c0 c1)) p1 b5 u1 (k6 + 1) b8 b9 = (r, qo_takes, qo_leans, qo_would) := hT
        have i2 : 0 ≤ b8.toInt := i2
        have j2 : b8.toInt ≤ vo_glasses.toInt := j2
        have hm6 : vo_glasses.toInt - b8.toInt < (((k6 + 1) : Nat) : Int) := hm6
        try simp only [Int.natCast_add, Int.natCast_one, Nat.cast_add, Nat.cast_one] at hm6
        refine lv_iload hx hb dX6_needOf_20 (lv_at hl 0 rfl) ?_
        refine lv_aload_n hx hb dX6_needOf_22 rfl (lv_at hl 3 rfl) ?_
        refine va_get (D := (dC, dI)) (ci := 6) (v := .int vo_glasses) (C := RX6) (T := TX6) (N := 26) hx hb hts hwX6 hown hK hP 0 rfl rfl 6 (by decide) hf_97 (fun _ h9 => h9) rfl dX6_needOf_23 ?_
        refine lv_icmp_ge (tgt := 74) hx hb dX6_needOf_26 (by decide) (fun c_4 => ?_) (fun c_4 => ?_)
        · replace hT := cutT c_4 hT
          have g_22 := zleT (rfl : (vo_glasses).toInt = _) (rfl : (b8).toInt = _) c_4
          exact hex6 (b8, b9) _ _ _ ⟨(by omega : 0 ≤ b8.toInt), (by omega : b8.toInt ≤ vo_glasses.toInt), hT, hP.sub [0, 1, 2, 3, 4, 5] rfl, hD.sub [0, 1, 2, 3, 4, 5] rfl rfl, hS, lv_sub hl [1, 2, 3, 4, 5] rfl⟩
        · replace hT := cutF c_4 hT
          have g_23 := zleF (rfl : (vo_glasses).toInt = _) (rfl : (b8).toInt = _) c_4
          refine lv_iload hx hb dX6_needOf_29 (lv_at hl 1 rfl) ?_
          refine lv_if_eq (tgt := 65) hx hb dX6_needOf_31 (by decide) (fun c_5 => ?_) (fun c_5 => ?_)
          · replace hT := cutT c_5 hT
            have g_24 := zeqT (rfl : (b9).toInt = _) (by decide : ((0 : Int32)).toInt = 0) c_5
            refine lv_iconst (v := (0 : Int32)) hx hb dX6_needOf_65 (by decide) ?_
            refine lv_istore (lv' := [(4, .int (0 : Int32)), (5, .int b8), (3, .int b4), (0, .ref o), (1, .int p1), (2, .int p2)]) hx hb dX6_needOf_66 hl (by decide) rfl (fun ls hl => ?_)
            obtain ⟨v12, ev12⟩ : ∃ y : Int32, (b8 + (1 : Int32)) = y := ⟨_, rfl⟩
            replace hT := cut_n ev12 hT
            try have fv12 := zaddE (rfl : (b8).toInt = _) (by decide : ((1 : Int32)).toInt = 1) ev12 (by omega) (by omega)
            refine lv_iinc (v := v12) (lv' := [(5, .int v12), (4, .int (0 : Int32)), (3, .int b4), (0, .ref o), (1, .int p1), (2, .int p2)]) hx hb dX6_needOf_68 hl (k := 1) rfl (by rw [← ev12]; rfl) (by decide) rfl (fun ls hl => ?_)
            refine lv_goto (tgt := 20) hx hb dX6_needOf_71 (by decide) ?_
            exact ih6 (v12, (0 : Int32)) _ _ _ ⟨(by omega : 0 ≤ v12.toInt), (by omega : v12.toInt ≤ vo_glasses.toInt), (by omega : vo_glasses.toInt - v12.toInt < ((k6 : Nat) : Int)), hT, hP.sub [0, 1, 2, 3, 4, 5] rfl, hD.sub [0, 1, 2, 3, 4, 5] rfl rfl, hS, lv_sub hl [0, 1, 2, 3, 4, 5] rfl⟩
          · replace hT := cutF c_5 hT
            have g_25 := zeqF (rfl : (b9).toInt = _) (by decide : ((0 : Int32)).toInt = 0) c_5
            refine lv_iload_n hx hb dX6_needOf_34 rfl (lv_at hl 4 rfl) ?_
            refine lv_iload hx hb dX6_needOf_35 (lv_at hl 0 rfl) ?_
            refine lv_ishr hx hb dX6_needOf_37 ?_
            refine lv_iconst (v := (1 : Int32)) hx hb dX6_needOf_38 (by decide) ?_
            refine lv_iand hx hb dX6_needOf_39 ?_
            refine lv_if_eq (tgt := 61) hx hb dX6_needOf_40 (by decide) (fun c_6 => ?_) (fun c_6 => ?_)
            · replace hT := cutT c_6 hT
              have g_26 := zeqT (rfl : (((p1 >>> (b8 &&& 31)) &&& (1 : Int32))).toInt = _) (by decide : ((0 : Int32)).toInt = 0) c_6
              refine lv_iconst (v := (1 : Int32)) hx hb dX6_needOf_61 (by decide) ?_
              refine lv_goto (tgt := 66) hx hb dX6_needOf_62 (by decide) ?_
              refine lv_istore (lv' := [(4, .int (1 : Int32)), (5, .int b8), (3, .int b4), (0, .ref o), (1, .int p1), (2, .int p2)]) hx hb dX6_needOf_66 hl (by decide) rfl (fun ls hl => ?_)
              obtain ⟨v13, ev13⟩ : ∃ y : Int32, (b8 + (1 : Int32)) = y := ⟨_, rfl⟩
              replace hT := cut_n ev13 hT
              try have fv13 := zaddE (rfl : (b8).toInt = _) (by decide : ((1 : Int32)).toInt = 1) ev13 (by omega) (by omega)
              refine lv_iinc (v := v13) (lv' := [(5, .int v13), (4, .int (1 : Int32)), (3, .int b4), (0, .ref o), (1, .int p1), (2, .int p2)]) hx hb dX6_needOf_68 hl (k := 1) rfl (by rw [← ev13]; rfl) (by decide) rfl (fun ls hl => ?_)
              refine lv_goto (tgt := 20) hx hb dX6_needOf_71 (by decide) ?_
              exact ih6 (v13, (1 : Int32)) _ _ _ ⟨(by omega : 0 ≤ v13.toInt), (by omega : v13.toInt ≤ vo_glasses.toInt), (by omega : vo_glasses.toInt - v13.toInt < ((k6 : Nat) : Int)), hT, hP.sub [0, 1, 2, 3, 4, 5] rfl, hD.sub [0, 1, 2, 3, 4, 5] rfl rfl, hS, lv_sub hl [0, 1, 2, 3, 4, 5] rfl⟩
            · replace hT := cutF c_6 hT
              have g_27 := zeqF (rfl : (((p1 >>> (b8 &&& 31)) &&& (1 : Int32))).toInt = _) (by decide : ((0 : Int32)).toInt = 0) c_6
              refine lv_aload_n hx hb dX6_needOf_43 rfl (lv_at hl 3 rfl) ?_
              refine va_get (D := (dC, dI)) (ci := 6) (v := .ref o_would) (C := RX6) (T := TX6) (N := 26) hx hb hts hwX6 hown hK hP 0 rfl rfl 16 (by decide) hf_35 (fun _ h9 => h9) rfl dX6_needOf_44 ?_
              refine lv_iload hx hb dX6_needOf_47 (lv_at hl 0 rfl) ?_
              have h_7 : vp_in b8 9 := zin (by omega) (by omega)
              refine va_lald hx hb hK hP 5 1 rfl rfl h_7 dX6_needOf_49 ?_
              refine lv_aload_n hx hb dX6_needOf_50 rfl (lv_at hl 3 rfl) ?_
              refine va_get (D := (dC, dI)) (ci := 6) (v := .ref o_takes) (C := RX6) (T := TX6) (N := 26) hx hb hts hwX6 hown hK hP 0 rfl rfl 14 (by decide) hf_29 (fun _ h9 => h9) rfl dX6_needOf_51 ?_
              refine lv_iload hx hb dX6_needOf_54 (lv_at hl 0 rfl) ?_
              have h_8 : vp_in b8 9 := zin (by omega) (by omega)
              refine va_lald hx hb hK hP 3 1 rfl rfl h_8 dX6_needOf_56 ?_
              refine W.lcmp hx hb dX6_needOf_57 ?_
              refine lv_if_ne (tgt := 65) hx hb dX6_needOf_58 (by decide) (fun c_9 => ?_) (fun c_9 => ?_)
              · replace hT := cutF c_9 hT
                have g_28 := mt zlc_eq.mpr c_9
                refine lv_iconst (v := (0 : Int32)) hx hb dX6_needOf_65 (by decide) ?_
                refine lv_istore (lv' := [(4, .int (0 : Int32)), (5, .int b8), (3, .int b4), (0, .ref o), (1, .int p1), (2, .int p2)]) hx hb dX6_needOf_66 hl (by decide) rfl (fun ls hl => ?_)
                obtain ⟨v14, ev14⟩ : ∃ y : Int32, (b8 + (1 : Int32)) = y := ⟨_, rfl⟩
                replace hT := cut_n ev14 hT
                try have fv14 := zaddE (rfl : (b8).toInt = _) (by decide : ((1 : Int32)).toInt = 1) ev14 (by omega) (by omega)
                refine lv_iinc (v := v14) (lv' := [(5, .int v14), (4, .int (0 : Int32)), (3, .int b4), (0, .ref o), (1, .int p1), (2, .int p2)]) hx hb dX6_needOf_68 hl (k := 1) rfl (by rw [← ev14]; rfl) (by decide) rfl (fun ls hl => ?_)
                refine lv_goto (tgt := 20) hx hb dX6_needOf_71 (by decide) ?_
                exact ih6 (v14, (0 : Int32)) _ _ _ ⟨(by omega : 0 ≤ v14.toInt), (by omega : v14.toInt ≤ vo_glasses.toInt), (by omega : vo_glasses.toInt - v14.toInt < ((k6 : Nat) : Int)), hT, hP.sub [0, 1, 2, 3, 4, 5] rfl, hD.sub [0, 1, 2, 3, 4, 5] rfl rfl, hS, lv_sub hl [0, 1, 2, 3, 4, 5] rfl⟩
              · replace hT := cutT c_9 hT
                have g_29 := zlc_eq.mp c_9
                refine lv_iconst (v := (1 : Int32)) hx hb dX6_needOf_61 (by decide) ?_
                refine lv_goto (tgt := 66) hx hb dX6_needOf_62 (by decide) ?_
                refine lv_istore (lv' := [(4, .int (1 : Int32)), (5, .int b8), (3, .int b4), (0, .ref o), (1, .int p1), (2, .int p2)]) hx hb dX6_needOf_66 hl (by decide) rfl (fun ls hl => ?_)
                obtain ⟨v15, ev15⟩ : ∃ y : Int32, (b8 + (1 : Int32)) = y := ⟨_, rfl⟩
                replace hT := cut_n ev15 hT
                try have fv15 := zaddE (rfl : (b8).toInt = _) (by decide : ((1 : Int32)).toInt = 1) ev15 (by omega) (by omega)
                refine lv_iinc (v := v15) (lv' := [(5, .int v15), (4, .int (1 : Int32)), (3, .int b4), (0, .ref o), (1, .int p1), (2, .int p2)]) hx hb dX6_needOf_68 hl (k := 1) rfl (by rw [← ev15]; rfl) (by decide) rfl (fun ls hl => ?_)
                refine lv_goto (tgt := 20) hx hb dX6_needOf_71 (by decide) ?_
                exact ih6 (v15, (1 : Int32)) _ _ _ ⟨(by omega : 0 ≤ v15.toInt), (by omega : v15.toInt ≤ vo_glasses.toInt), (by omega : vo_glasses.toInt - v15.toInt < ((k6 : Nat) : Int)), hT, hP.sub [0, 1, 2, 3, 4, 5] rfl, hD.sub [0, 1, 2, 3, 4, 5] rfl rfl, hS, lv_sub hl [0, 1, 2, 3, 4, 5] rfl⟩

def m_X6_need (vo_glasses : Int32) (vo_rows : Nat → Int32) (vo_amounts : Nat → Int64) (vo_takes : Nat → Int64) (vo_leans : Nat → Int32) (vo_would : Nat → Int64) (p1 : Int32) (p2 : Int32) : Int32 × (Nat → Int64) × (Nat → Int32) × (Nat → Int64) :=
 cut (m_X6_isGlass vo_glasses p1) (fun (r1 : Int32) =>
 if r1 = (0 : Int32) then
  ((-101 : Int32), vo_takes, vo_leans, vo_would)
 else
  cut (m_X6_isGlass vo_glasses p2) (fun (r2 : Int32) =>
  if r2 = (0 : Int32) then
   ((-101 : Int32), vo_takes, vo_leans, vo_would)
  else
   cut4 (m_X6_needOf vo_glasses vo_rows vo_amounts vo_takes vo_leans vo_would ((1 : Int32) <<< (p1 &&& 31)) p2) (fun (r3 : Int32) (u4 : Nat → Int64) (u5 : Nat → Int32) (u6 : Nat → Int64) =>
   (r3, u4, u5, u6))))
set_option maxHeartbeats 4000000 in
set_option maxRecDepth 100000 in
theorem k_X6_need (l : Launch) (dC : Nat → ClassId) (dI : Nat → Nat → Nat) (cI cJ cC : ClassId) (sz : Nat) (o o_page o_readRows o_rows o_turns o_amounts o_drank o_takes o_leans o_would o_keptAmounts o_keptDrank o_keptTurns : Nat) (vo_pageMany : Int32) (vo_readMany : Int32) (vo_state : Int32) (vo_readMost : Int32) (vo_glasses : Int32) (vo_towersRead : Int32) (vo_poured : Int32) (vo_spilt : Int64) (vo_done : Int32) (vo_seedNow : Int32) (vo_keptTower : Int32) (vo_keptPoured : Int32) (vo_keptSpilt : Int64) (vo_hash : Int64) (vo_rows : Nat → Int32) (vo_amounts : Nat → Int64) (vo_takes : Nat → Int64) (vo_leans : Nat → Int32) (vo_would : Nat → Int64) (p1 : Int32) (p2 : Int32) (r : Int32) (qo_takes : Nat → Int64) (qo_leans : Nat → Int32) (qo_would : Nat → Int64) (hT : m_X6_need vo_glasses vo_rows vo_amounts vo_takes vo_leans vo_would p1 p2 = (r, qo_takes, qo_leans, qo_would)) (hg0 : 0 ≤ vo_glasses.toInt) (hg9 : vo_glasses.toInt ≤ 9) (hrw : zRw vo_rows) (hln : zLn vo_leans) : Met l yX6_need wsX6_need ({ frames := 4, cells := 0, slots := 0, locals := 92 }) (zPc [.ref o, .int p1, .int p2] (dC, dI) (zTy cI cJ cC) [(o, .inr (6, [.ref o_page, .int vo_pageMany, .int vo_readMany, .int vo_state, .int vo_readMost, .ref o_readRows, .int vo_glasses, .int vo_towersRead, .int vo_poured, .ref o_rows, .ref o_turns, .ref o_amounts, .ref o_drank, .long vo_spilt, .ref o_takes, .ref o_leans, .ref o_would, .int vo_done, .int vo_seedNow, .int vo_keptTower, .int vo_keptPoured, .long vo_keptSpilt, .ref o_keptAmounts, .ref o_keptDrank, .ref o_keptTurns, .long vo_hash])), (o_rows, .inl (cI, 54, .inl vo_rows)), (o_amounts, .inl (cJ, 9, .inr (.inl vo_amounts))), (o_takes, .inl (cJ, 9, .inr (.inl vo_takes))), (o_leans, .inl (cI, 9, .inl vo_leans)), (o_would, .inl (cJ, 9, .inr (.inl vo_would)))] sz) (zQi r ((zLn qo_leans)) (dC, dI) (zTy cI cJ cC) [(o, .inr (6, [.ref o_page, .int vo_pageMany, .int vo_readMany, .int vo_state, .int vo_readMost, .ref o_readRows, .int vo_glasses, .int vo_towersRead, .int vo_poured, .ref o_rows, .ref o_turns, .ref o_amounts, .ref o_drank, .long vo_spilt, .ref o_takes, .ref o_leans, .ref o_would, .int vo_done, .int vo_seedNow, .int vo_keptTower, .int vo_keptPoured, .long vo_keptSpilt, .ref o_keptAmounts, .ref o_keptDrank, .ref o_keptTurns, .long vo_hash])), (o_rows, .inl (cI, 54, .inl vo_rows)), (o_amounts, .inl (cJ, 9, .inr (.inl vo_amounts))), (o_takes, .inl (cJ, 9, .inr (.inl qo_takes))), (o_leans, .inl (cI, 9, .inl qo_leans)), (o_would, .inl (cJ, 9, .inr (.inl qo_would)))] (va_A [(o, .inr (6, [.ref o_page, .int vo_pageMany, .int vo_readMany, .int vo_state, .int vo_readMost, .ref o_readRows, .int vo_glasses, .int vo_towersRead, .int vo_poured, .ref o_rows, .ref o_turns, .ref o_amounts, .ref o_drank, .long vo_spilt, .ref o_takes, .ref o_leans, .ref o_would, .int vo_done, .int vo_seedNow, .int vo_keptTower, .int vo_keptPoured, .long vo_keptSpilt, .ref o_keptAmounts, .ref o_keptDrank, .ref o_keptTurns, .long vo_hash])), (o_rows, .inl (cI, 54, .inl vo_rows)), (o_amounts, .inl (cJ, 9, .inr (.inl vo_amounts))), (o_takes, .inl (cJ, 9, .inr (.inl vo_takes))), (o_leans, .inl (cI, 9, .inl vo_leans)), (o_would, .inl (cJ, 9, .inr (.inl vo_would)))] sz)) 0 0 (va_A [(o, .inr (6, [.ref o_page, .int vo_pageMany, .int vo_readMany, .int vo_state, .int vo_readMost, .ref o_readRows, .int vo_glasses, .int vo_towersRead, .int vo_poured, .ref o_rows, .ref o_turns, .ref o_amounts, .ref o_drank, .long vo_spilt, .ref o_takes, .ref o_leans, .ref o_would, .int vo_done, .int vo_seedNow, .int vo_keptTower, .int vo_keptPoured, .long vo_keptSpilt, .ref o_keptAmounts, .ref o_keptDrank, .ref o_keptTurns, .long vo_hash])), (o_rows, .inl (cI, 54, .inl vo_rows)), (o_amounts, .inl (cJ, 9, .inr (.inl vo_amounts))), (o_takes, .inl (cJ, 9, .inr (.inl vo_takes))), (o_leans, .inl (cI, 9, .inl vo_leans)), (o_would, .inl (cJ, 9, .inr (.inl vo_would)))] sz) := by
  refine Met.ofW (cc := cX6_need) (maxL := 3) (ret := (some .int)) (by decide) rfl ?_
  intro p e s m args below meth c s₁ B hml hv
  obtain ⟨rfl, hsz, hP, hK, hD0⟩ := hv
  have hx := B.exec
  have hb := B.bytes
  have hr := B.returns
  have hts := atoms_spec (ws := wsX6_need) B.pre
  have hown : s.vm.findClass RX6 = some m.cls := findClass_of_methodNamed B.named
  have hlocks := B.notSynchronized
  subst hsz
  have hD := hD0.self (sz := s.heap.size)
  generalize hAe : va_A [(o, .inr (6, [.ref o_page, .int vo_pageMany, .int vo_readMany, .int vo_state, .int vo_readMost, .ref o_readRows, .int vo_glasses, .int vo_towersRead, .int vo_poured, .ref o_rows, .ref o_turns, .ref o_amounts, .ref o_drank, .long vo_spilt, .ref o_takes, .ref o_leans, .ref o_would, .int vo_done, .int vo_seedNow, .int vo_keptTower, .int vo_keptPoured, .long vo_keptSpilt, .ref o_keptAmounts, .ref o_keptDrank, .ref o_keptTurns, .long vo_hash])), (o_rows, .inl (cI, 54, .inl vo_rows)), (o_amounts, .inl (cJ, 9, .inr (.inl vo_amounts))), (o_takes, .inl (cJ, 9, .inr (.inl vo_takes))), (o_leans, .inl (cI, 9, .inl vo_leans)), (o_would, .inl (cJ, 9, .inr (.inl vo_would)))] s.heap.size = A at hD ⊢
  have hA : ∀ q : Nat, s.heap.size ≤ q → A q := fun q h => by rw [← hAe]; exact Or.inr h
  have hS : va_S A s.heap s.heap [] := va_S.rf
  have hP : va_P (dC, dI) vwCl [(o, .inr (6, [.ref o_page, .int vo_pageMany, .int vo_readMany, .int vo_state, .int vo_readMost, .ref o_readRows, .int vo_glasses, .int vo_towersRead, .int vo_poured, .ref o_rows, .ref o_turns, .ref o_amounts, .ref o_drank, .long vo_spilt, .ref o_takes, .ref o_leans, .ref o_would, .int vo_done, .int vo_seedNow, .int vo_keptTower, .int vo_keptPoured, .long vo_keptSpilt, .ref o_keptAmounts, .ref o_keptDrank, .ref o_keptTurns, .long vo_hash])), (o_rows, .inl (cI, 54, .inl vo_rows)), (o_amounts, .inl (cJ, 9, .inr (.inl vo_amounts))), (o_takes, .inl (cJ, 9, .inr (.inl vo_takes))), (o_leans, .inl (cI, 9, .inl vo_leans)), (o_would, .inl (cJ, 9, .inr (.inl vo_would)))] s.heap := hP
  have hK : va_K (dC, dI) vwCl (zTy cI cJ cC) s := hK
  have hl := lv_entry ([.ref o, .int p1, .int p2]) (n := 3) (Nat.le_of_ble_eq_true rfl)
  rw [lg_entry_eq]
  generalize (lg_sl ([.ref o, .int p1, .int p2]) ++ List.replicate (3 - (lg_sl ([.ref o, .int p1, .int p2])).length) Slot.unset).toArray = ls at hl ⊢
  have hl : lv_has ls 3 [(0, .ref o), (1, .int p1), (2, .int p2)] := hl
  refine zz_start hP hS (fun Q hQ H locs hP hS => ?_)
  refine lv_aload_n hx hb dX6_need_0 rfl (lv_at hl 0 rfl) ?_
  refine lv_iload_n hx hb dX6_need_1 rfl (lv_at hl 1 rfl) ?_
  obtain ⟨r1, ev_1⟩ : ∃ x0, (m_X6_isGlass vo_glasses p1) = x0 := ⟨_, rfl⟩
  replace hT := cut_n ev_1 hT
  refine zz_ci [0] [1, 2, 3, 4, 5] (wr := [(o_rows, .inl (cI, 54, .inl vo_rows)), (o_amounts, .inl (cJ, 9, .inr (.inl vo_amounts))), (o_takes, .inl (cJ, 9, .inr (.inl vo_takes))), (o_leans, .inl (cI, 9, .inl vo_leans)), (o_would, .inl (cJ, 9, .inr (.inl vo_would)))]) (w1 := [(o, .inr (6, [.ref o_page, .int vo_pageMany, .int vo_readMany, .int vo_state, .int vo_readMost, .ref o_readRows, .int vo_glasses, .int vo_towersRead, .int vo_poured, .ref o_rows, .ref o_turns, .ref o_amounts, .ref o_drank, .long vo_spilt, .ref o_takes, .ref o_leans, .ref o_would, .int vo_done, .int vo_seedNow, .int vo_keptTower, .int vo_keptPoured, .long vo_keptSpilt, .ref o_keptAmounts, .ref o_keptDrank, .ref o_keptTurns, .long vo_hash]))]) (va_runV (As := [.int p1]) (rest := []) ⟨hx, hb, hml, hown, hts⟩ (k_X6_isGlass l dC dI cI cJ cC H.size o o_page o_readRows o_rows o_turns o_amounts o_drank o_takes o_leans o_would o_keptAmounts o_keptDrank o_keptTurns vo_pageMany vo_readMany vo_state vo_readMost vo_glasses vo_towersRead vo_poured vo_spilt vo_done vo_seedNow vo_keptTower vo_keptPoured vo_keptSpilt vo_hash p1 r1 ev_1 hg0 hg9) (cwV 1 hts gX6_need_X6_isGlass rfl rfl rfl (by decide +kernel) ⟨Nat.le_of_ble_eq_true rfl, Nat.le_of_ble_eq_true rfl⟩) (zz_preV [0] hK hP hD rfl rfl (va_recv hK hP (ci := 6) (q0 := 0) rfl rfl)) rfl rfl hl.1 rfl (lv_room (Nat.le_of_ble_eq_true rfl)) dX6_need_2 ⟨Nat.zero_le _, Nat.zero_le _⟩) hP hD hS hA rfl rfl rfl (by decide) (fun ok_2 H locs hP hD hS => ?_)
  have hP : va_P (dC, dI) vwCl [(o_rows, .inl (cI, 54, .inl vo_rows)), (o_amounts, .inl (cJ, 9, .inr (.inl vo_amounts))), (o_takes, .inl (cJ, 9, .inr (.inl vo_takes))), (o_leans, .inl (cI, 9, .inl vo_leans)), (o_would, .inl (cJ, 9, .inr (.inl vo_would))), (o, .inr (6, [.ref o_page, .int vo_pageMany, .int vo_readMany, .int vo_state, .int vo_readMost, .ref o_readRows, .int vo_glasses, .int vo_towersRead, .int vo_poured, .ref o_rows, .ref o_turns, .ref o_amounts, .ref o_drank, .long vo_spilt, .ref o_takes, .ref o_leans, .ref o_would, .int vo_done, .int vo_seedNow, .int vo_keptTower, .int vo_keptPoured, .long vo_keptSpilt, .ref o_keptAmounts, .ref o_keptDrank, .ref o_keptTurns, .long vo_hash]))] H := hP
  have hD : va_D A [(o_rows, .inl (cI, 54, .inl vo_rows)), (o_amounts, .inl (cJ, 9, .inr (.inl vo_amounts))), (o_takes, .inl (cJ, 9, .inr (.inl vo_takes))), (o_leans, .inl (cI, 9, .inl vo_leans)), (o_would, .inl (cJ, 9, .inr (.inl vo_would))), (o, .inr (6, [.ref o_page, .int vo_pageMany, .int vo_readMany, .int vo_state, .int vo_readMost, .ref o_readRows, .int vo_glasses, .int vo_towersRead, .int vo_poured, .ref o_rows, .ref o_turns, .ref o_amounts, .ref o_drank, .long vo_spilt, .ref o_takes, .ref o_leans, .ref o_would, .int vo_done, .int vo_seedNow, .int vo_keptTower, .int vo_keptPoured, .long vo_keptSpilt, .ref o_keptAmounts, .ref o_keptDrank, .ref o_keptTurns, .long vo_hash]))] := hD
  obtain ⟨k_3, k_4⟩ := ok_2
  refine lv_if_eq (tgt := 27) hx hb dX6_need_5 (by decide) (fun c_5 => ?_) (fun c_5 => ?_)
  · replace hT := cutT c_5 hT
    have g_13 := zeqT (rfl : (r1).toInt = _) (by decide : ((0 : Int32)).toInt = 0) c_5
    refine lv_bipush (v := (-101 : Int32)) hx hb dX6_need_27 (by decide) ?_
    have hP9 := hP
    have hD9 := hD
    have hS9 := hS
    have hT : ((-101 : Int32), vo_takes, vo_leans, vo_would) = (r, qo_takes, qo_leans, qo_would) := hT
    cases hT
    subst hQ
    exact zz_iret hx hb hr [5, 0, 1, 2, 3, 4] hK hP9 hD9 hS9 rfl rfl (by assumption) hlocks dX6_need_29
  · replace hT := cutF c_5 hT
    have g_14 := zeqF (rfl : (r1).toInt = _) (by decide : ((0 : Int32)).toInt = 0) c_5
    refine lv_aload_n hx hb dX6_need_8 rfl (lv_at hl 0 rfl) ?_
    refine lv_iload_n hx hb dX6_need_9 rfl (lv_at hl 2 rfl) ?_
    obtain ⟨r2, ev_6⟩ : ∃ x0, (m_X6_isGlass vo_glasses p2) = x0 := ⟨_, rfl⟩
    replace hT := cut_n ev_6 hT
    refine zz_ci [5] [0, 1, 2, 3, 4] (wr := [(o_rows, .inl (cI, 54, .inl vo_rows)), (o_amounts, .inl (cJ, 9, .inr (.inl vo_amounts))), (o_takes, .inl (cJ, 9, .inr (.inl vo_takes))), (o_leans, .inl (cI, 9, .inl vo_leans)), (o_would, .inl (cJ, 9, .inr (.inl vo_would)))]) (w1 := [(o, .inr (6, [.ref o_page, .int vo_pageMany, .int vo_readMany, .int vo_state, .int vo_readMost, .ref o_readRows, .int vo_glasses, .int vo_towersRead, .int vo_poured, .ref o_rows, .ref o_turns, .ref o_amounts, .ref o_drank, .long vo_spilt, .ref o_takes, .ref o_leans, .ref o_would, .int vo_done, .int vo_seedNow, .int vo_keptTower, .int vo_keptPoured, .long vo_keptSpilt, .ref o_keptAmounts, .ref o_keptDrank, .ref o_keptTurns, .long vo_hash]))]) (va_runV (As := [.int p2]) (rest := []) ⟨hx, hb, hml, hown, hts⟩ (k_X6_isGlass l dC dI cI cJ cC H.size o o_page o_readRows o_rows o_turns o_amounts o_drank o_takes o_leans o_would o_keptAmounts o_keptDrank o_keptTurns vo_pageMany vo_readMany vo_state vo_readMost vo_glasses vo_towersRead vo_poured vo_spilt vo_done vo_seedNow vo_keptTower vo_keptPoured vo_keptSpilt vo_hash p2 r2 ev_6 hg0 hg9) (cwV 1 hts gX6_need_X6_isGlass rfl rfl rfl (by decide +kernel) ⟨Nat.le_of_ble_eq_true rfl, Nat.le_of_ble_eq_true rfl⟩) (zz_preV [5] hK hP hD rfl rfl (va_recv hK hP (ci := 6) (q0 := 5) rfl rfl)) rfl rfl hl.1 rfl (lv_room (Nat.le_of_ble_eq_true rfl)) dX6_need_10 ⟨Nat.zero_le _, Nat.zero_le _⟩) hP hD hS hA rfl rfl rfl (by decide) (fun ok_7 H locs hP hD hS => ?_)
    have hP : va_P (dC, dI) vwCl [(o_rows, .inl (cI, 54, .inl vo_rows)), (o_amounts, .inl (cJ, 9, .inr (.inl vo_amounts))), (o_takes, .inl (cJ, 9, .inr (.inl vo_takes))), (o_leans, .inl (cI, 9, .inl vo_leans)), (o_would, .inl (cJ, 9, .inr (.inl vo_would))), (o, .inr (6, [.ref o_page, .int vo_pageMany, .int vo_readMany, .int vo_state, .int vo_readMost, .ref o_readRows, .int vo_glasses, .int vo_towersRead, .int vo_poured, .ref o_rows, .ref o_turns, .ref o_amounts, .ref o_drank, .long vo_spilt, .ref o_takes, .ref o_leans, .ref o_would, .int vo_done, .int vo_seedNow, .int vo_keptTower, .int vo_keptPoured, .long vo_keptSpilt, .ref o_keptAmounts, .ref o_keptDrank, .ref o_keptTurns, .long vo_hash]))] H := hP
    have hD : va_D A [(o_rows, .inl (cI, 54, .inl vo_rows)), (o_amounts, .inl (cJ, 9, .inr (.inl vo_amounts))), (o_takes, .inl (cJ, 9, .inr (.inl vo_takes))), (o_leans, .inl (cI, 9, .inl vo_leans)), (o_would, .inl (cJ, 9, .inr (.inl vo_would))), (o, .inr (6, [.ref o_page, .int vo_pageMany, .int vo_readMany, .int vo_state, .int vo_readMost, .ref o_readRows, .int vo_glasses, .int vo_towersRead, .int vo_poured, .ref o_rows, .ref o_turns, .ref o_amounts, .ref o_drank, .long vo_spilt, .ref o_takes, .ref o_leans, .ref o_would, .int vo_done, .int vo_seedNow, .int vo_keptTower, .int vo_keptPoured, .long vo_keptSpilt, .ref o_keptAmounts, .ref o_keptDrank, .ref o_keptTurns, .long vo_hash]))] := hD
    obtain ⟨k_8, k_9⟩ := ok_7
    refine lv_if_eq (tgt := 27) hx hb dX6_need_13 (by decide) (fun c_10 => ?_) (fun c_10 => ?_)
    · replace hT := cutT c_10 hT
      have g_15 := zeqT (rfl : (r2).toInt = _) (by decide : ((0 : Int32)).toInt = 0) c_10
      refine lv_bipush (v := (-101 : Int32)) hx hb dX6_need_27 (by decide) ?_
      have hP9 := hP
      have hD9 := hD
      have hS9 := hS
      have hT : ((-101 : Int32), vo_takes, vo_leans, vo_would) = (r, qo_takes, qo_leans, qo_would) := hT
      cases hT
      subst hQ
      exact zz_iret hx hb hr [5, 0, 1, 2, 3, 4] hK hP9 hD9 hS9 rfl rfl (by assumption) hlocks dX6_need_29
    · replace hT := cutF c_10 hT
      have g_16 := zeqF (rfl : (r2).toInt = _) (by decide : ((0 : Int32)).toInt = 0) c_10
      refine lv_aload_n hx hb dX6_need_16 rfl (lv_at hl 0 rfl) ?_
      refine lv_iconst (v := (1 : Int32)) hx hb dX6_need_17 (by decide) ?_
      refine lv_iload_n hx hb dX6_need_18 rfl (lv_at hl 1 rfl) ?_
      refine lv_ishl hx hb dX6_need_19 ?_
      refine lv_iload_n hx hb dX6_need_20 rfl (lv_at hl 2 rfl) ?_
      obtain ⟨r3, u4, u5, u6, ev_11⟩ : ∃ x0 x1 x2 x3, (m_X6_needOf vo_glasses vo_rows vo_amounts vo_takes vo_leans vo_would ((1 : Int32) <<< (p1 &&& 31)) p2) = (x0, x1, x2, x3) := ⟨_, _, _, _, rfl⟩
      replace hT := cut4_n ev_11 hT
      refine zz_ci [5, 0, 1, 2, 3, 4] [] (wr := []) (w1 := [(o, .inr (6, [.ref o_page, .int vo_pageMany, .int vo_readMany, .int vo_state, .int vo_readMost, .ref o_readRows, .int vo_glasses, .int vo_towersRead, .int vo_poured, .ref o_rows, .ref o_turns, .ref o_amounts, .ref o_drank, .long vo_spilt, .ref o_takes, .ref o_leans, .ref o_would, .int vo_done, .int vo_seedNow, .int vo_keptTower, .int vo_keptPoured, .long vo_keptSpilt, .ref o_keptAmounts, .ref o_keptDrank, .ref o_keptTurns, .long vo_hash])), (o_rows, .inl (cI, 54, .inl vo_rows)), (o_amounts, .inl (cJ, 9, .inr (.inl vo_amounts))), (o_takes, .inl (cJ, 9, .inr (.inl u4))), (o_leans, .inl (cI, 9, .inl u5)), (o_would, .inl (cJ, 9, .inr (.inl u6)))]) (va_runV (As := [.int ((1 : Int32) <<< (p1 &&& 31)), .int p2]) (rest := []) ⟨hx, hb, hml, hown, hts⟩ (k_X6_needOf l dC dI cI cJ cC H.size o o_page o_readRows o_rows o_turns o_amounts o_drank o_takes o_leans o_would o_keptAmounts o_keptDrank o_keptTurns vo_pageMany vo_readMany vo_state vo_readMost vo_glasses vo_towersRead vo_poured vo_spilt vo_done vo_seedNow vo_keptTower vo_keptPoured vo_keptSpilt vo_hash vo_rows vo_amounts vo_takes vo_leans vo_would ((1 : Int32) <<< (p1 &&& 31)) p2 r3 u4 u5 u6 ev_11 hg0 hg9 hrw hln (by first | omega | decide) (by first | omega | decide)) (cwV 2 hts gX6_need_X6_needOf rfl rfl rfl (by decide +kernel) ⟨Nat.le_of_ble_eq_true rfl, Nat.le_of_ble_eq_true rfl⟩) (zz_preV [5, 0, 1, 2, 3, 4] hK hP hD rfl rfl (va_recv hK hP (ci := 6) (q0 := 5) rfl rfl)) rfl rfl hl.1 rfl (lv_room (Nat.le_of_ble_eq_true rfl)) dX6_need_21 ⟨Nat.zero_le _, Nat.zero_le _⟩) hP hD hS hA rfl rfl rfl (by decide) (fun ok_12 H locs hP hD hS => ?_)
      have hP : va_P (dC, dI) vwCl [(o, .inr (6, [.ref o_page, .int vo_pageMany, .int vo_readMany, .int vo_state, .int vo_readMost, .ref o_readRows, .int vo_glasses, .int vo_towersRead, .int vo_poured, .ref o_rows, .ref o_turns, .ref o_amounts, .ref o_drank, .long vo_spilt, .ref o_takes, .ref o_leans, .ref o_would, .int vo_done, .int vo_seedNow, .int vo_keptTower, .int vo_keptPoured, .long vo_keptSpilt, .ref o_keptAmounts, .ref o_keptDrank, .ref o_keptTurns, .long vo_hash])), (o_rows, .inl (cI, 54, .inl vo_rows)), (o_amounts, .inl (cJ, 9, .inr (.inl vo_amounts))), (o_takes, .inl (cJ, 9, .inr (.inl u4))), (o_leans, .inl (cI, 9, .inl u5)), (o_would, .inl (cJ, 9, .inr (.inl u6)))] H := hP
      have hD : va_D A [(o, .inr (6, [.ref o_page, .int vo_pageMany, .int vo_readMany, .int vo_state, .int vo_readMost, .ref o_readRows, .int vo_glasses, .int vo_towersRead, .int vo_poured, .ref o_rows, .ref o_turns, .ref o_amounts, .ref o_drank, .long vo_spilt, .ref o_takes, .ref o_leans, .ref o_would, .int vo_done, .int vo_seedNow, .int vo_keptTower, .int vo_keptPoured, .long vo_keptSpilt, .ref o_keptAmounts, .ref o_keptDrank, .ref o_keptTurns, .long vo_hash])), (o_rows, .inl (cI, 54, .inl vo_rows)), (o_amounts, .inl (cJ, 9, .inr (.inl vo_amounts))), (o_takes, .inl (cJ, 9, .inr (.inl u4))), (o_leans, .inl (cI, 9, .inl u5)), (o_would, .inl (cJ, 9, .inr (.inl u6)))] := hD
      refine lv_goto (tgt := 29) hx hb dX6_need_24 (by decide) ?_
      have hP9 := hP
      have hD9 := hD
      have hS9 := hS
      have hT : (r3, u4, u5, u6) = (r, qo_takes, qo_leans, qo_would) := hT
      cases hT
      subst hQ
      exact zz_iret hx hb hr [0, 1, 2, 3, 4, 5] hK hP9 hD9 hS9 rfl rfl (by assumption) hlocks dX6_need_29

def m_X6_needAll (vo_glasses : Int32) (vo_rows : Nat → Int32) (vo_amounts : Nat → Int64) (vo_takes : Nat → Int64) (vo_leans : Nat → Int32) (vo_would : Nat → Int64) (p1 : Int32) : Int32 × (Nat → Int64) × (Nat → Int32) × (Nat → Int64) :=
 cut (m_X6_lacks vo_glasses) (fun (r1 : Int32) =>
 if r1 = (0 : Int32) then
  cut (m_X6_isIn (p1.toInt64) (0 : Int64) ((((1 : Int32) <<< (vo_glasses &&& 31)) - (1 : Int32)).toInt64)) (fun (r2 : Int32) =>
  if r2 = (0 : Int32) then
   ((-102 : Int32), vo_takes, vo_leans, vo_would)
  else
   cut4 (m_X6_needOf vo_glasses vo_rows vo_amounts vo_takes vo_leans vo_would p1 (0 : Int32)) (fun (r3 : Int32) (u4 : Nat → Int64) (u5 : Nat → Int32) (u6 : Nat → Int64) =>
   (r3, u4, u5, u6)))
 else
  ((-103 : Int32), vo_takes, vo_leans, vo_would))
set_option maxHeartbeats 4000000 in
set_option maxRecDepth 100000 in
theorem k_X6_needAll (l : Launch) (dC : Nat → ClassId) (dI : Nat → Nat → Nat) (cI cJ cC : ClassId) (sz : Nat) (o o_page o_readRows o_rows o_turns o_amounts o_drank o_takes o_leans o_would o_keptAmounts o_keptDrank o_keptTurns : Nat) (vo_pageMany : Int32) (vo_readMany : Int32) (vo_state : Int32) (vo_readMost : Int32) (vo_glasses : Int32) (vo_towersRead : Int32) (vo_poured : Int32) (vo_spilt : Int64) (vo_done : Int32) (vo_seedNow : Int32) (vo_keptTower : Int32) (vo_keptPoured : Int32) (vo_keptSpilt : Int64) (vo_hash : Int64) (vo_rows : Nat → Int32) (vo_amounts : Nat → Int64) (vo_takes : Nat → Int64) (vo_leans : Nat → Int32) (vo_would : Nat → Int64) (p1 : Int32) (r : Int32) (qo_takes : Nat → Int64) (qo_leans : Nat → Int32) (qo_would : Nat → Int64) (hT : m_X6_needAll vo_glasses vo_rows vo_amounts vo_takes vo_leans vo_would p1 = (r, qo_takes, qo_leans, qo_would)) (hg0 : 0 ≤ vo_glasses.toInt) (hg9 : vo_glasses.toInt ≤ 9) (hrw : zRw vo_rows) (hln : zLn vo_leans) : Met l yX6_needAll wsX6_needAll ({ frames := 4, cells := 0, slots := 0, locals := 92 }) (zPc [.ref o, .int p1] (dC, dI) (zTy cI cJ cC) [(o, .inr (6, [.ref o_page, .int vo_pageMany, .int vo_readMany, .int vo_state, .int vo_readMost, .ref o_readRows, .int vo_glasses, .int vo_towersRead, .int vo_poured, .ref o_rows, .ref o_turns, .ref o_amounts, .ref o_drank, .long vo_spilt, .ref o_takes, .ref o_leans, .ref o_would, .int vo_done, .int vo_seedNow, .int vo_keptTower, .int vo_keptPoured, .long vo_keptSpilt, .ref o_keptAmounts, .ref o_keptDrank, .ref o_keptTurns, .long vo_hash])), (o_rows, .inl (cI, 54, .inl vo_rows)), (o_amounts, .inl (cJ, 9, .inr (.inl vo_amounts))), (o_takes, .inl (cJ, 9, .inr (.inl vo_takes))), (o_leans, .inl (cI, 9, .inl vo_leans)), (o_would, .inl (cJ, 9, .inr (.inl vo_would)))] sz) (zQi r ((zLn qo_leans)) (dC, dI) (zTy cI cJ cC) [(o, .inr (6, [.ref o_page, .int vo_pageMany, .int vo_readMany, .int vo_state, .int vo_readMost, .ref o_readRows, .int vo_glasses, .int vo_towersRead, .int vo_poured, .ref o_rows, .ref o_turns, .ref o_amounts, .ref o_drank, .long vo_spilt, .ref o_takes, .ref o_leans, .ref o_would, .int vo_done, .int vo_seedNow, .int vo_keptTower, .int vo_keptPoured, .long vo_keptSpilt, .ref o_keptAmounts, .ref o_keptDrank, .ref o_keptTurns, .long vo_hash])), (o_rows, .inl (cI, 54, .inl vo_rows)), (o_amounts, .inl (cJ, 9, .inr (.inl vo_amounts))), (o_takes, .inl (cJ, 9, .inr (.inl qo_takes))), (o_leans, .inl (cI, 9, .inl qo_leans)), (o_would, .inl (cJ, 9, .inr (.inl qo_would)))] (va_A [(o, .inr (6, [.ref o_page, .int vo_pageMany, .int vo_readMany, .int vo_state, .int vo_readMost, .ref o_readRows, .int vo_glasses, .int vo_towersRead, .int vo_poured, .ref o_rows, .ref o_turns, .ref o_amounts, .ref o_drank, .long vo_spilt, .ref o_takes, .ref o_leans, .ref o_would, .int vo_done, .int vo_seedNow, .int vo_keptTower, .int vo_keptPoured, .long vo_keptSpilt, .ref o_keptAmounts, .ref o_keptDrank, .ref o_keptTurns, .long vo_hash])), (o_rows, .inl (cI, 54, .inl vo_rows)), (o_amounts, .inl (cJ, 9, .inr (.inl vo_amounts))), (o_takes, .inl (cJ, 9, .inr (.inl vo_takes))), (o_leans, .inl (cI, 9, .inl vo_leans)), (o_would, .inl (cJ, 9, .inr (.inl vo_would)))] sz)) 0 0 (va_A [(o, .inr (6, [.ref o_page, .int vo_pageMany, .int vo_readMany, .int vo_state, .int vo_readMost, .ref o_readRows, .int vo_glasses, .int vo_towersRead, .int vo_poured, .ref o_rows, .ref o_turns, .ref o_amounts, .ref o_drank, .long vo_spilt, .ref o_takes, .ref o_leans, .ref o_would, .int vo_done, .int vo_seedNow, .int vo_keptTower, .int vo_keptPoured, .long vo_keptSpilt, .ref o_keptAmounts, .ref o_keptDrank, .ref o_keptTurns, .long vo_hash])), (o_rows, .inl (cI, 54, .inl vo_rows)), (o_amounts, .inl (cJ, 9, .inr (.inl vo_amounts))), (o_takes, .inl (cJ, 9, .inr (.inl vo_takes))), (o_leans, .inl (cI, 9, .inl vo_leans)), (o_would, .inl (cJ, 9, .inr (.inl vo_would)))] sz) := by
  refine Met.ofW (cc := cX6_needAll) (maxL := 2) (ret := (some .int)) (by decide) rfl ?_
  intro p e s m args below meth c s₁ B hml hv
  obtain ⟨rfl, hsz, hP, hK, hD0⟩ := hv
  have hx := B.exec
  have hb := B.bytes
  have hr := B.returns
  have hts := atoms_spec (ws := wsX6_needAll) B.pre
  have hown : s.vm.findClass RX6 = some m.cls := findClass_of_methodNamed B.named
  have hlocks := B.notSynchronized
  subst hsz
  have hD := hD0.self (sz := s.heap.size)
  generalize hAe : va_A [(o, .inr (6, [.ref o_page, .int vo_pageMany, .int vo_readMany, .int vo_state, .int vo_readMost, .ref o_readRows, .int vo_glasses, .int vo_towersRead, .int vo_poured, .ref o_rows, .ref o_turns, .ref o_amounts, .ref o_drank, .long vo_spilt, .ref o_takes, .ref o_leans, .ref o_would, .int vo_done, .int vo_seedNow, .int vo_keptTower, .int vo_keptPoured, .long vo_keptSpilt, .ref o_keptAmounts, .ref o_keptDrank, .ref o_keptTurns, .long vo_hash])), (o_rows, .inl (cI, 54, .inl vo_rows)), (o_amounts, .inl (cJ, 9, .inr (.inl vo_amounts))), (o_takes, .inl (cJ, 9, .inr (.inl vo_takes))), (o_leans, .inl (cI, 9, .inl vo_leans)), (o_would, .inl (cJ, 9, .inr (.inl vo_would)))] s.heap.size = A at hD ⊢
  have hA : ∀ q : Nat, s.heap.size ≤ q → A q := fun q h => by rw [← hAe]; exact Or.inr h
  have hS : va_S A s.heap s.heap [] := va_S.rf
  have hP : va_P (dC, dI) vwCl [(o, .inr (6, [.ref o_page, .int vo_pageMany, .int vo_readMany, .int vo_state, .int vo_readMost, .ref o_readRows, .int vo_glasses, .int vo_towersRead, .int vo_poured, .ref o_rows, .ref o_turns, .ref o_amounts, .ref o_drank, .long vo_spilt, .ref o_takes, .ref o_leans, .ref o_would, .int vo_done, .int vo_seedNow, .int vo_keptTower, .int vo_keptPoured, .long vo_keptSpilt, .ref o_keptAmounts, .ref o_keptDrank, .ref o_keptTurns, .long vo_hash])), (o_rows, .inl (cI, 54, .inl vo_rows)), (o_amounts, .inl (cJ, 9, .inr (.inl vo_amounts))), (o_takes, .inl (cJ, 9, .inr (.inl vo_takes))), (o_leans, .inl (cI, 9, .inl vo_leans)), (o_would, .inl (cJ, 9, .inr (.inl vo_would)))] s.heap := hP
  have hK : va_K (dC, dI) vwCl (zTy cI cJ cC) s := hK
  have hl := lv_entry ([.ref o, .int p1]) (n := 2) (Nat.le_of_ble_eq_true rfl)
  rw [lg_entry_eq]
  generalize (lg_sl ([.ref o, .int p1]) ++ List.replicate (2 - (lg_sl ([.ref o, .int p1])).length) Slot.unset).toArray = ls at hl ⊢
  have hl : lv_has ls 2 [(0, .ref o), (1, .int p1)] := hl
  refine zz_start hP hS (fun Q hQ H locs hP hS => ?_)
  have hwX6 : ∀ w ∈ u_ws RX6 TX6 26, w ∈ wsX6_needAll := by decide +kernel
  have hf_97 := (hts (.fieldLink RX6 97 "PouredTopmostModel" "glasses" "I") (by decide +kernel))
  refine lv_aload_n hx hb dX6_needAll_0 rfl (lv_at hl 0 rfl) ?_
  obtain ⟨r1, ev_1⟩ : ∃ x0, (m_X6_lacks vo_glasses) = x0 := ⟨_, rfl⟩
  replace hT := cut_n ev_1 hT
  refine zz_ci [0] [1, 2, 3, 4, 5] (wr := [(o_rows, .inl (cI, 54, .inl vo_rows)), (o_amounts, .inl (cJ, 9, .inr (.inl vo_amounts))), (o_takes, .inl (cJ, 9, .inr (.inl vo_takes))), (o_leans, .inl (cI, 9, .inl vo_leans)), (o_would, .inl (cJ, 9, .inr (.inl vo_would)))]) (w1 := [(o, .inr (6, [.ref o_page, .int vo_pageMany, .int vo_readMany, .int vo_state, .int vo_readMost, .ref o_readRows, .int vo_glasses, .int vo_towersRead, .int vo_poured, .ref o_rows, .ref o_turns, .ref o_amounts, .ref o_drank, .long vo_spilt, .ref o_takes, .ref o_leans, .ref o_would, .int vo_done, .int vo_seedNow, .int vo_keptTower, .int vo_keptPoured, .long vo_keptSpilt, .ref o_keptAmounts, .ref o_keptDrank, .ref o_keptTurns, .long vo_hash]))]) (va_runV (As := []) (rest := []) ⟨hx, hb, hml, hown, hts⟩ (k_X6_lacks l dC dI cI cJ cC H.size o o_page o_readRows o_rows o_turns o_amounts o_drank o_takes o_leans o_would o_keptAmounts o_keptDrank o_keptTurns vo_pageMany vo_readMany vo_state vo_readMost vo_glasses vo_towersRead vo_poured vo_spilt vo_done vo_seedNow vo_keptTower vo_keptPoured vo_keptSpilt vo_hash r1 ev_1) (cwV 0 hts gX6_needAll_X6_lacks rfl rfl rfl (by decide +kernel) ⟨Nat.le_of_ble_eq_true rfl, Nat.le_of_ble_eq_true rfl⟩) (zz_preV [0] hK hP hD rfl rfl (va_recv hK hP (ci := 6) (q0 := 0) rfl rfl)) rfl rfl hl.1 rfl (lv_room (Nat.le_of_ble_eq_true rfl)) dX6_needAll_1 ⟨Nat.zero_le _, Nat.zero_le _⟩) hP hD hS hA rfl rfl rfl (by decide) (fun ok_2 H locs hP hD hS => ?_)
  have hP : va_P (dC, dI) vwCl [(o_rows, .inl (cI, 54, .inl vo_rows)), (o_amounts, .inl (cJ, 9, .inr (.inl vo_amounts))), (o_takes, .inl (cJ, 9, .inr (.inl vo_takes))), (o_leans, .inl (cI, 9, .inl vo_leans)), (o_would, .inl (cJ, 9, .inr (.inl vo_would))), (o, .inr (6, [.ref o_page, .int vo_pageMany, .int vo_readMany, .int vo_state, .int vo_readMost, .ref o_readRows, .int vo_glasses, .int vo_towersRead, .int vo_poured, .ref o_rows, .ref o_turns, .ref o_amounts, .ref o_drank, .long vo_spilt, .ref o_takes, .ref o_leans, .ref o_would, .int vo_done, .int vo_seedNow, .int vo_keptTower, .int vo_keptPoured, .long vo_keptSpilt, .ref o_keptAmounts, .ref o_keptDrank, .ref o_keptTurns, .long vo_hash]))] H := hP
  have hD : va_D A [(o_rows, .inl (cI, 54, .inl vo_rows)), (o_amounts, .inl (cJ, 9, .inr (.inl vo_amounts))), (o_takes, .inl (cJ, 9, .inr (.inl vo_takes))), (o_leans, .inl (cI, 9, .inl vo_leans)), (o_would, .inl (cJ, 9, .inr (.inl vo_would))), (o, .inr (6, [.ref o_page, .int vo_pageMany, .int vo_readMany, .int vo_state, .int vo_readMost, .ref o_readRows, .int vo_glasses, .int vo_towersRead, .int vo_poured, .ref o_rows, .ref o_turns, .ref o_amounts, .ref o_drank, .long vo_spilt, .ref o_takes, .ref o_leans, .ref o_would, .int vo_done, .int vo_seedNow, .int vo_keptTower, .int vo_keptPoured, .long vo_keptSpilt, .ref o_keptAmounts, .ref o_keptDrank, .ref o_keptTurns, .long vo_hash]))] := hD
  obtain ⟨k_3, k_4, k_5⟩ := ok_2
  refine lv_if_eq (tgt := 10) hx hb dX6_needAll_4 (by decide) (fun c_6 => ?_) (fun c_6 => ?_)
  · replace hT := cutT c_6 hT
    have g_18 := zeqT (rfl : (r1).toInt = _) (by decide : ((0 : Int32)).toInt = 0) c_6
    refine lv_iload_n hx hb dX6_needAll_10 rfl (lv_at hl 1 rfl) ?_
    refine lv_i2l (v := (p1.toInt64)) hx hb dX6_needAll_11 rfl ?_
    refine lv_lconst (v := (0 : Int64)) hx hb dX6_needAll_12 (by decide) ?_
    refine lv_iconst (v := (1 : Int32)) hx hb dX6_needAll_13 (by decide) ?_
    refine lv_aload_n hx hb dX6_needAll_14 rfl (lv_at hl 0 rfl) ?_
    refine va_get (D := (dC, dI)) (ci := 6) (v := .int vo_glasses) (C := RX6) (T := TX6) (N := 26) hx hb hts hwX6 hown hK hP 5 rfl rfl 6 (by decide) hf_97 (fun _ h9 => h9) rfl dX6_needAll_15 ?_
    refine lv_ishl hx hb dX6_needAll_18 ?_
    refine lv_iconst (v := (1 : Int32)) hx hb dX6_needAll_19 (by decide) ?_
    refine lv_isub hx hb dX6_needAll_20 ?_
    refine lv_i2l (v := ((((1 : Int32) <<< (vo_glasses &&& 31)) - (1 : Int32)).toInt64)) hx hb dX6_needAll_21 rfl ?_
    obtain ⟨r2, ev_7⟩ : ∃ x0, (m_X6_isIn (p1.toInt64) (0 : Int64) ((((1 : Int32) <<< (vo_glasses &&& 31)) - (1 : Int32)).toInt64)) = x0 := ⟨_, rfl⟩
    replace hT := cut_n ev_7 hT
    refine zz_ci [] [0, 1, 2, 3, 4, 5] (wr := [(o_rows, .inl (cI, 54, .inl vo_rows)), (o_amounts, .inl (cJ, 9, .inr (.inl vo_amounts))), (o_takes, .inl (cJ, 9, .inr (.inl vo_takes))), (o_leans, .inl (cI, 9, .inl vo_leans)), (o_would, .inl (cJ, 9, .inr (.inl vo_would))), (o, .inr (6, [.ref o_page, .int vo_pageMany, .int vo_readMany, .int vo_state, .int vo_readMost, .ref o_readRows, .int vo_glasses, .int vo_towersRead, .int vo_poured, .ref o_rows, .ref o_turns, .ref o_amounts, .ref o_drank, .long vo_spilt, .ref o_takes, .ref o_leans, .ref o_would, .int vo_done, .int vo_seedNow, .int vo_keptTower, .int vo_keptPoured, .long vo_keptSpilt, .ref o_keptAmounts, .ref o_keptDrank, .ref o_keptTurns, .long vo_hash]))]) (w1 := []) (va_runS (As := [.long (p1.toInt64), .long (0 : Int64), .long ((((1 : Int32) <<< (vo_glasses &&& 31)) - (1 : Int32)).toInt64)]) (rest := []) ⟨hx, hb, hml, hown, hts⟩ (k_X6_isIn l dC dI cI cJ cC H.size (p1.toInt64) (0 : Int64) ((((1 : Int32) <<< (vo_glasses &&& 31)) - (1 : Int32)).toInt64) r2 ev_7) (va_cwS 3 hts gX6_needAll_X6_isIn rfl rfl rfl (by decide +kernel) ⟨Nat.le_of_ble_eq_true rfl, Nat.le_of_ble_eq_true rfl⟩) (zz_preS [] hK hP hD rfl rfl) rfl rfl hl.1 rfl (lv_room (Nat.le_of_ble_eq_true rfl)) dX6_needAll_22 ⟨Nat.zero_le _, Nat.zero_le _⟩) hP hD hS hA rfl rfl rfl (by decide) (fun ok_8 H locs hP hD hS => ?_)
    have hP : va_P (dC, dI) vwCl [(o_rows, .inl (cI, 54, .inl vo_rows)), (o_amounts, .inl (cJ, 9, .inr (.inl vo_amounts))), (o_takes, .inl (cJ, 9, .inr (.inl vo_takes))), (o_leans, .inl (cI, 9, .inl vo_leans)), (o_would, .inl (cJ, 9, .inr (.inl vo_would))), (o, .inr (6, [.ref o_page, .int vo_pageMany, .int vo_readMany, .int vo_state, .int vo_readMost, .ref o_readRows, .int vo_glasses, .int vo_towersRead, .int vo_poured, .ref o_rows, .ref o_turns, .ref o_amounts, .ref o_drank, .long vo_spilt, .ref o_takes, .ref o_leans, .ref o_would, .int vo_done, .int vo_seedNow, .int vo_keptTower, .int vo_keptPoured, .long vo_keptSpilt, .ref o_keptAmounts, .ref o_keptDrank, .ref o_keptTurns, .long vo_hash]))] H := hP
    have hD : va_D A [(o_rows, .inl (cI, 54, .inl vo_rows)), (o_amounts, .inl (cJ, 9, .inr (.inl vo_amounts))), (o_takes, .inl (cJ, 9, .inr (.inl vo_takes))), (o_leans, .inl (cI, 9, .inl vo_leans)), (o_would, .inl (cJ, 9, .inr (.inl vo_would))), (o, .inr (6, [.ref o_page, .int vo_pageMany, .int vo_readMany, .int vo_state, .int vo_readMost, .ref o_readRows, .int vo_glasses, .int vo_towersRead, .int vo_poured, .ref o_rows, .ref o_turns, .ref o_amounts, .ref o_drank, .long vo_spilt, .ref o_takes, .ref o_leans, .ref o_would, .int vo_done, .int vo_seedNow, .int vo_keptTower, .int vo_keptPoured, .long vo_keptSpilt, .ref o_keptAmounts, .ref o_keptDrank, .ref o_keptTurns, .long vo_hash]))] := hD
    have hz_9 : ((p1.toInt64)).toInt = (p1).toInt := Int32.toInt_toInt64 _
    have hz_10 : ((0 : Int64)).toInt = 0 := by decide
    try have e_11 := zsubE (v := (((1 : Int32) <<< (vo_glasses &&& 31)) - (1 : Int32))) (rfl : (((1 : Int32) <<< (vo_glasses &&& 31))).toInt = _) (by decide : ((1 : Int32)).toInt = 1) rfl (by omega) (by omega)
    have hz_12 : (((((1 : Int32) <<< (vo_glasses &&& 31)) - (1 : Int32)).toInt64)).toInt = ((((1 : Int32) <<< (vo_glasses &&& 31)) - (1 : Int32))).toInt := Int32.toInt_toInt64 _
    obtain ⟨k_13, k_14⟩ := ok_8
    refine lv_if_eq (tgt := 37) hx hb dX6_needAll_25 (by decide) (fun c_15 => ?_) (fun c_15 => ?_)
    · replace hT := cutT c_15 hT
      have g_19 := zeqT (rfl : (r2).toInt = _) (by decide : ((0 : Int32)).toInt = 0) c_15
      refine lv_bipush (v := (-102 : Int32)) hx hb dX6_needAll_37 (by decide) ?_
      have hP9 := hP
      have hD9 := hD
      have hS9 := hS
      have hT : ((-102 : Int32), vo_takes, vo_leans, vo_would) = (r, qo_takes, qo_leans, qo_would) := hT
      cases hT
      subst hQ
      exact zz_iret hx hb hr [5, 0, 1, 2, 3, 4] hK hP9 hD9 hS9 rfl rfl (by assumption) hlocks dX6_needAll_39
    · replace hT := cutF c_15 hT
      have g_20 := zeqF (rfl : (r2).toInt = _) (by decide : ((0 : Int32)).toInt = 0) c_15
      refine lv_aload_n hx hb dX6_needAll_28 rfl (lv_at hl 0 rfl) ?_
      refine lv_iload_n hx hb dX6_needAll_29 rfl (lv_at hl 1 rfl) ?_
      refine lv_iconst (v := (0 : Int32)) hx hb dX6_needAll_30 (by decide) ?_
      obtain ⟨r3, u4, u5, u6, ev_16⟩ : ∃ x0 x1 x2 x3, (m_X6_needOf vo_glasses vo_rows vo_amounts vo_takes vo_leans vo_would p1 (0 : Int32)) = (x0, x1, x2, x3) := ⟨_, _, _, _, rfl⟩
      replace hT := cut4_n ev_16 hT
      refine zz_ci [5, 0, 1, 2, 3, 4] [] (wr := []) (w1 := [(o, .inr (6, [.ref o_page, .int vo_pageMany, .int vo_readMany, .int vo_state, .int vo_readMost, .ref o_readRows, .int vo_glasses, .int vo_towersRead, .int vo_poured, .ref o_rows, .ref o_turns, .ref o_amounts, .ref o_drank, .long vo_spilt, .ref o_takes, .ref o_leans, .ref o_would, .int vo_done, .int vo_seedNow, .int vo_keptTower, .int vo_keptPoured, .long vo_keptSpilt, .ref o_keptAmounts, .ref o_keptDrank, .ref o_keptTurns, .long vo_hash])), (o_rows, .inl (cI, 54, .inl vo_rows)), (o_amounts, .inl (cJ, 9, .inr (.inl vo_amounts))), (o_takes, .inl (cJ, 9, .inr (.inl u4))), (o_leans, .inl (cI, 9, .inl u5)), (o_would, .inl (cJ, 9, .inr (.inl u6)))]) (va_runV (As := [.int p1, .int (0 : Int32)]) (rest := []) ⟨hx, hb, hml, hown, hts⟩ (k_X6_needOf l dC dI cI cJ cC H.size o o_page o_readRows o_rows o_turns o_amounts o_drank o_takes o_leans o_would o_keptAmounts o_keptDrank o_keptTurns vo_pageMany vo_readMany vo_state vo_readMost vo_glasses vo_towersRead vo_poured vo_spilt vo_done vo_seedNow vo_keptTower vo_keptPoured vo_keptSpilt vo_hash vo_rows vo_amounts vo_takes vo_leans vo_would p1 (0 : Int32) r3 u4 u5 u6 ev_16 hg0 hg9 hrw hln (by first | omega | decide) (by first | omega | decide)) (cwV 2 hts gX6_needAll_X6_needOf rfl rfl rfl (by decide +kernel) ⟨Nat.le_of_ble_eq_true rfl, Nat.le_of_ble_eq_true rfl⟩) (zz_preV [5, 0, 1, 2, 3, 4] hK hP hD rfl rfl (va_recv hK hP (ci := 6) (q0 := 5) rfl rfl)) rfl rfl hl.1 rfl (lv_room (Nat.le_of_ble_eq_true rfl)) dX6_needAll_31 ⟨Nat.zero_le _, Nat.zero_le _⟩) hP hD hS hA rfl rfl rfl (by decide) (fun ok_17 H locs hP hD hS => ?_)
      have hP : va_P (dC, dI) vwCl [(o, .inr (6, [.ref o_page, .int vo_pageMany, .int vo_readMany, .int vo_state, .int vo_readMost, .ref o_readRows, .int vo_glasses, .int vo_towersRead, .int vo_poured, .ref o_rows, .ref o_turns, .ref o_amounts, .ref o_drank, .long vo_spilt, .ref o_takes, .ref o_leans, .ref o_would, .int vo_done, .int vo_seedNow, .int vo_keptTower, .int vo_keptPoured, .long vo_keptSpilt, .ref o_keptAmounts, .ref o_keptDrank, .ref o_keptTurns, .long vo_hash])), (o_rows, .inl (cI, 54, .inl vo_rows)), (o_amounts, .inl (cJ, 9, .inr (.inl vo_amounts))), (o_takes, .inl (cJ, 9, .inr (.inl u4))), (o_leans, .inl (cI, 9, .inl u5)), (o_would, .inl (cJ, 9, .inr (.inl u6)))] H := hP
      have hD : va_D A [(o, .inr (6, [.ref o_page, .int vo_pageMany, .int vo_readMany, .int vo_state, .int vo_readMost, .ref o_readRows, .int vo_glasses, .int vo_towersRead, .int vo_poured, .ref o_rows, .ref o_turns, .ref o_amounts, .ref o_drank, .long vo_spilt, .ref o_takes, .ref o_leans, .ref o_would, .int vo_done, .int vo_seedNow, .int vo_keptTower, .int vo_keptPoured, .long vo_keptSpilt, .ref o_keptAmounts, .ref o_keptDrank, .ref o_keptTurns, .long vo_hash])), (o_rows, .inl (cI, 54, .inl vo_rows)), (o_amounts, .inl (cJ, 9, .inr (.inl vo_amounts))), (o_takes, .inl (cJ, 9, .inr (.inl u4))), (o_leans, .inl (cI, 9, .inl u5)), (o_would, .inl (cJ, 9, .inr (.inl u6)))] := hD
      refine lv_goto (tgt := 39) hx hb dX6_needAll_34 (by decide) ?_
      have hP9 := hP
      have hD9 := hD
      have hS9 := hS
      have hT : (r3, u4, u5, u6) = (r, qo_takes, qo_leans, qo_would) := hT
      cases hT
      subst hQ
      exact zz_iret hx hb hr [0, 1, 2, 3, 4, 5] hK hP9 hD9 hS9 rfl rfl (by assumption) hlocks dX6_needAll_39
  · replace hT := cutF c_6 hT
    have g_21 := zeqF (rfl : (r1).toInt = _) (by decide : ((0 : Int32)).toInt = 0) c_6
    refine lv_bipush (v := (-103 : Int32)) hx hb dX6_needAll_7 (by decide) ?_
    have hP9 := hP
    have hD9 := hD
    have hS9 := hS
    have hT : ((-103 : Int32), vo_takes, vo_leans, vo_would) = (r, qo_takes, qo_leans, qo_would) := hT
    cases hT
    subst hQ
    exact zz_iret hx hb hr [5, 0, 1, 2, 3, 4] hK hP9 hD9 hS9 rfl rfl (by assumption) hlocks dX6_needAll_9

def m_X6_spiltBy (vo_glasses : Int32) (vo_rows : Nat → Int32) (vo_amounts : Nat → Int64) (vo_takes : Nat → Int64) (vo_leans : Nat → Int32) (vo_would : Nat → Int64) (p1 : Int32) (p2 : Int32) (p3 : Int32) : Int64 × (Nat → Int64) × (Nat → Int32) × (Nat → Int64) :=
 cut3 (m_X6_beginWould vo_glasses vo_rows vo_amounts vo_takes vo_leans vo_would (1 : Int32)) (fun (u1 : Nat → Int64) (u2 : Nat → Int32) (u3 : Nat → Int64) =>
 cut (u1 p1.toNatClampNeg) (fun (v4 : Int64) =>
 cut (vp_updL u1 p1.toNatClampNeg (u1 p2.toNatClampNeg)) (fun (a5 : Nat → Int64) =>
 cut (vp_updL a5 p2.toNatClampNeg v4) (fun (a6 : Nat → Int64) =>
 cut (u2 p1.toNatClampNeg) (fun (v7 : Int32) =>
 cut (upd u2 p1.toNatClampNeg (u2 p2.toNatClampNeg)) (fun (a8 : Nat → Int32) =>
 cut (upd a8 p2.toNatClampNeg v7) (fun (a9 : Nat → Int32) =>
 cut2 (m_X6_runOver_w vo_glasses vo_rows a6 a9 u3) (fun (r10 : Int64) (u11 : Nat → Int64) =>
 cut (vp_updL u11 (0 : Int32).toNatClampNeg ((u11 (0 : Int32).toNatClampNeg) + ((429981696 : Int64) * (p3.toInt64)))) (fun (a12 : Nat → Int64) =>
 cut2 (m_X6_runOver_w vo_glasses vo_rows a6 a9 a12) (fun (r13 : Int64) (u14 : Nat → Int64) =>
 ((r10 + r13), a6, a9, u14)))))))))))
set_option maxHeartbeats 4000000 in
set_option maxRecDepth 100000 in
theorem k_X6_spiltBy (l : Launch) (dC : Nat → ClassId) (dI : Nat → Nat → Nat) (cI cJ cC : ClassId) (sz : Nat) (o o_page o_readRows o_rows o_turns o_amounts o_drank o_takes o_leans o_would o_keptAmounts o_keptDrank o_keptTurns : Nat) (vo_pageMany : Int32) (vo_readMany : Int32) (vo_state : Int32) (vo_readMost : Int32) (vo_glasses : Int32) (vo_towersRead : Int32) (vo_poured : Int32) (vo_spilt : Int64) (vo_done : Int32) (vo_seedNow : Int32) (vo_keptTower : Int32) (vo_keptPoured : Int32) (vo_keptSpilt : Int64) (vo_hash : Int64) (vo_rows : Nat → Int32) (vo_amounts : Nat → Int64) (vo_takes : Nat → Int64) (vo_leans : Nat → Int32) (vo_would : Nat → Int64) (p1 : Int32) (p2 : Int32) (p3 : Int32) (r : Int64) (qo_takes : Nat → Int64) (qo_leans : Nat → Int32) (qo_would : Nat → Int64) (hT : m_X6_spiltBy vo_glasses vo_rows vo_amounts vo_takes vo_leans vo_would p1 p2 p3 = (r, qo_takes, qo_leans, qo_would)) (hg0 : 0 ≤ vo_glasses.toInt) (hg9 : vo_glasses.toInt ≤ 9) (hrw : zRw vo_rows) (hln : zLn vo_leans) (h10 : 0 ≤ p1.toInt) (h19 : p1.toInt < 9) (h20 : 0 ≤ p2.toInt) (h29 : p2.toInt < 9) : Met l yX6_spiltBy wsX6_spiltBy ({ frames := 3, cells := 0, slots := 0, locals := 66 }) (zPc [.ref o, .int p1, .int p2, .int p3] (dC, dI) (zTy cI cJ cC) [(o, .inr (6, [.ref o_page, .int vo_pageMany, .int vo_readMany, .int vo_state, .int vo_readMost, .ref o_readRows, .int vo_glasses, .int vo_towersRead, .int vo_poured, .ref o_rows, .ref o_turns, .ref o_amounts, .ref o_drank, .long vo_spilt, .ref o_takes, .ref o_leans, .ref o_would, .int vo_done, .int vo_seedNow, .int vo_keptTower, .int vo_keptPoured, .long vo_keptSpilt, .ref o_keptAmounts, .ref o_keptDrank, .ref o_keptTurns, .long vo_hash])), (o_rows, .inl (cI, 54, .inl vo_rows)), (o_amounts, .inl (cJ, 9, .inr (.inl vo_amounts))), (o_takes, .inl (cJ, 9, .inr (.inl vo_takes))), (o_leans, .inl (cI, 9, .inl vo_leans)), (o_would, .inl (cJ, 9, .inr (.inl vo_would)))] sz) (zQl r ((zLn qo_leans)) (dC, dI) (zTy cI cJ cC) [(o, .inr (6, [.ref o_page, .int vo_pageMany, .int vo_readMany, .int vo_state, .int vo_readMost, .ref o_readRows, .int vo_glasses, .int vo_towersRead, .int vo_poured, .ref o_rows, .ref o_turns, .ref o_amounts, .ref o_drank, .long vo_spilt, .ref o_takes, .ref o_leans, .ref o_would, .int vo_done, .int vo_seedNow, .int vo_keptTower, .int vo_keptPoured, .long vo_keptSpilt, .ref o_keptAmounts, .ref o_keptDrank, .ref o_keptTurns, .long vo_hash])), (o_rows, .inl (cI, 54, .inl vo_rows)), (o_amounts, .inl (cJ, 9, .inr (.inl vo_amounts))), (o_takes, .inl (cJ, 9, .inr (.inl qo_takes))), (o_leans, .inl (cI, 9, .inl qo_leans)), (o_would, .inl (cJ, 9, .inr (.inl qo_would)))] (va_A [(o, .inr (6, [.ref o_page, .int vo_pageMany, .int vo_readMany, .int vo_state, .int vo_readMost, .ref o_readRows, .int vo_glasses, .int vo_towersRead, .int vo_poured, .ref o_rows, .ref o_turns, .ref o_amounts, .ref o_drank, .long vo_spilt, .ref o_takes, .ref o_leans, .ref o_would, .int vo_done, .int vo_seedNow, .int vo_keptTower, .int vo_keptPoured, .long vo_keptSpilt, .ref o_keptAmounts, .ref o_keptDrank, .ref o_keptTurns, .long vo_hash])), (o_rows, .inl (cI, 54, .inl vo_rows)), (o_amounts, .inl (cJ, 9, .inr (.inl vo_amounts))), (o_takes, .inl (cJ, 9, .inr (.inl vo_takes))), (o_leans, .inl (cI, 9, .inl vo_leans)), (o_would, .inl (cJ, 9, .inr (.inl vo_would)))] sz)) 0 0 (va_A [(o, .inr (6, [.ref o_page, .int vo_pageMany, .int vo_readMany, .int vo_state, .int vo_readMost, .ref o_readRows, .int vo_glasses, .int vo_towersRead, .int vo_poured, .ref o_rows, .ref o_turns, .ref o_amounts, .ref o_drank, .long vo_spilt, .ref o_takes, .ref o_leans, .ref o_would, .int vo_done, .int vo_seedNow, .int vo_keptTower, .int vo_keptPoured, .long vo_keptSpilt, .ref o_keptAmounts, .ref o_keptDrank, .ref o_keptTurns, .long vo_hash])), (o_rows, .inl (cI, 54, .inl vo_rows)), (o_amounts, .inl (cJ, 9, .inr (.inl vo_amounts))), (o_takes, .inl (cJ, 9, .inr (.inl vo_takes))), (o_leans, .inl (cI, 9, .inl vo_leans)), (o_would, .inl (cJ, 9, .inr (.inl vo_would)))] sz) := by
  refine Met.ofW (cc := cX6_spiltBy) (maxL := 9) (ret := (some .long)) (by decide) rfl ?_
  intro p e s m args below meth c s₁ B hml hv
  obtain ⟨rfl, hsz, hP, hK, hD0⟩ := hv
  have hx := B.exec
  have hb := B.bytes
  have hr := B.returns
  have hts := atoms_spec (ws := wsX6_spiltBy) B.pre
  have hown : s.vm.findClass RX6 = some m.cls := findClass_of_methodNamed B.named
  have hlocks := B.notSynchronized
  subst hsz
  have hD := hD0.self (sz := s.heap.size)
  generalize hAe : va_A [(o, .inr (6, [.ref o_page, .int vo_pageMany, .int vo_readMany, .int vo_state, .int vo_readMost, .ref o_readRows, .int vo_glasses, .int vo_towersRead, .int vo_poured, .ref o_rows, .ref o_turns, .ref o_amounts, .ref o_drank, .long vo_spilt, .ref o_takes, .ref o_leans, .ref o_would, .int vo_done, .int vo_seedNow, .int vo_keptTower, .int vo_keptPoured, .long vo_keptSpilt, .ref o_keptAmounts, .ref o_keptDrank, .ref o_keptTurns, .long vo_hash])), (o_rows, .inl (cI, 54, .inl vo_rows)), (o_amounts, .inl (cJ, 9, .inr (.inl vo_amounts))), (o_takes, .inl (cJ, 9, .inr (.inl vo_takes))), (o_leans, .inl (cI, 9, .inl vo_leans)), (o_would, .inl (cJ, 9, .inr (.inl vo_would)))] s.heap.size = A at hD ⊢
  have hA : ∀ q : Nat, s.heap.size ≤ q → A q := fun q h => by rw [← hAe]; exact Or.inr h
  have hS : va_S A s.heap s.heap [] := va_S.rf
  have hP : va_P (dC, dI) vwCl [(o, .inr (6, [.ref o_page, .int vo_pageMany, .int vo_readMany, .int vo_state, .int vo_readMost, .ref o_readRows, .int vo_glasses, .int vo_towersRead, .int vo_poured, .ref o_rows, .ref o_turns, .ref o_amounts, .ref o_drank, .long vo_spilt, .ref o_takes, .ref o_leans, .ref o_would, .int vo_done, .int vo_seedNow, .int vo_keptTower, .int vo_keptPoured, .long vo_keptSpilt, .ref o_keptAmounts, .ref o_keptDrank, .ref o_keptTurns, .long vo_hash])), (o_rows, .inl (cI, 54, .inl vo_rows)), (o_amounts, .inl (cJ, 9, .inr (.inl vo_amounts))), (o_takes, .inl (cJ, 9, .inr (.inl vo_takes))), (o_leans, .inl (cI, 9, .inl vo_leans)), (o_would, .inl (cJ, 9, .inr (.inl vo_would)))] s.heap := hP
  have hK : va_K (dC, dI) vwCl (zTy cI cJ cC) s := hK
  have hl := lv_entry ([.ref o, .int p1, .int p2, .int p3]) (n := 9) (Nat.le_of_ble_eq_true rfl)
  rw [lg_entry_eq]
  generalize (lg_sl ([.ref o, .int p1, .int p2, .int p3]) ++ List.replicate (9 - (lg_sl ([.ref o, .int p1, .int p2, .int p3])).length) Slot.unset).toArray = ls at hl ⊢
  have hl : lv_has ls 9 [(0, .ref o), (1, .int p1), (2, .int p2), (3, .int p3)] := hl
  refine zz_start hP hS (fun Q hQ H locs hP hS => ?_)
  have hwX6 : ∀ w ∈ u_ws RX6 TX6 26, w ∈ wsX6_spiltBy := by decide +kernel
  have hc_113 := (hts (.constantLong RX6 113 (429981696)) (by decide +kernel))
  have hf_29 := (hts (.fieldLink RX6 29 "PouredTopmostModel" "takes" "[J") (by decide +kernel))
  have hf_32 := (hts (.fieldLink RX6 32 "PouredTopmostModel" "leans" "[I") (by decide +kernel))
  have hf_35 := (hts (.fieldLink RX6 35 "PouredTopmostModel" "would" "[J") (by decide +kernel))
  refine lv_aload_n hx hb dX6_spiltBy_0 rfl (lv_at hl 0 rfl) ?_
  refine lv_iconst (v := (1 : Int32)) hx hb dX6_spiltBy_1 (by decide) ?_
  obtain ⟨u1, u2, u3, ev_1⟩ : ∃ x0 x1 x2, (m_X6_beginWould vo_glasses vo_rows vo_amounts vo_takes vo_leans vo_would (1 : Int32)) = (x0, x1, x2) := ⟨_, _, _, rfl⟩
  replace hT := cut3_n ev_1 hT
  refine zz_cv [0, 1, 2, 3, 4, 5] [] (wr := []) (w1 := [(o, .inr (6, [.ref o_page, .int vo_pageMany, .int vo_readMany, .int vo_state, .int vo_readMost, .ref o_readRows, .int vo_glasses, .int vo_towersRead, .int vo_poured, .ref o_rows, .ref o_turns, .ref o_amounts, .ref o_drank, .long vo_spilt, .ref o_takes, .ref o_leans, .ref o_would, .int vo_done, .int vo_seedNow, .int vo_keptTower, .int vo_keptPoured, .long vo_keptSpilt, .ref o_keptAmounts, .ref o_keptDrank, .ref o_keptTurns, .long vo_hash])), (o_rows, .inl (cI, 54, .inl vo_rows)), (o_amounts, .inl (cJ, 9, .inr (.inl vo_amounts))), (o_takes, .inl (cJ, 9, .inr (.inl u1))), (o_leans, .inl (cI, 9, .inl u2)), (o_would, .inl (cJ, 9, .inr (.inl u3)))]) (va_runV (As := [.int (1 : Int32)]) (rest := []) ⟨hx, hb, hml, hown, hts⟩ (k_X6_beginWould l dC dI cI cJ cC H.size o o_page o_readRows o_rows o_turns o_amounts o_drank o_takes o_leans o_would o_keptAmounts o_keptDrank o_keptTurns vo_pageMany vo_readMany vo_state vo_readMost vo_glasses vo_towersRead vo_poured vo_spilt vo_done vo_seedNow vo_keptTower vo_keptPoured vo_keptSpilt vo_hash vo_rows vo_amounts vo_takes vo_leans vo_would (1 : Int32) u1 u2 u3 ev_1 hg0 hg9 hln) (cwV 1 hts gX6_spiltBy_X6_beginWould rfl rfl rfl (by decide +kernel) ⟨Nat.le_of_ble_eq_true rfl, Nat.le_of_ble_eq_true rfl⟩) (zz_preV [0, 1, 2, 3, 4, 5] hK hP hD rfl rfl (va_recv hK hP (ci := 6) (q0 := 0) rfl rfl)) rfl rfl hl.1 rfl (lv_room (Nat.le_of_ble_eq_true rfl)) dX6_spiltBy_2 ⟨Nat.zero_le _, Nat.zero_le _⟩) hP hD hS hA rfl rfl rfl (by decide) (fun ok_2 H locs hP hD hS => ?_)
  have hP : va_P (dC, dI) vwCl [(o, .inr (6, [.ref o_page, .int vo_pageMany, .int vo_readMany, .int vo_state, .int vo_readMost, .ref o_readRows, .int vo_glasses, .int vo_towersRead, .int vo_poured, .ref o_rows, .ref o_turns, .ref o_amounts, .ref o_drank, .long vo_spilt, .ref o_takes, .ref o_leans, .ref o_would, .int vo_done, .int vo_seedNow, .int vo_keptTower, .int vo_keptPoured, .long vo_keptSpilt, .ref o_keptAmounts, .ref o_keptDrank, .ref o_keptTurns, .long vo_hash])), (o_rows, .inl (cI, 54, .inl vo_rows)), (o_amounts, .inl (cJ, 9, .inr (.inl vo_amounts))), (o_takes, .inl (cJ, 9, .inr (.inl u1))), (o_leans, .inl (cI, 9, .inl u2)), (o_would, .inl (cJ, 9, .inr (.inl u3)))] H := hP
  have hD : va_D A [(o, .inr (6, [.ref o_page, .int vo_pageMany, .int vo_readMany, .int vo_state, .int vo_readMost, .ref o_readRows, .int vo_glasses, .int vo_towersRead, .int vo_poured, .ref o_rows, .ref o_turns, .ref o_amounts, .ref o_drank, .long vo_spilt, .ref o_takes, .ref o_leans, .ref o_would, .int vo_done, .int vo_seedNow, .int vo_keptTower, .int vo_keptPoured, .long vo_keptSpilt, .ref o_keptAmounts, .ref o_keptDrank, .ref o_keptTurns, .long vo_hash])), (o_rows, .inl (cI, 54, .inl vo_rows)), (o_amounts, .inl (cJ, 9, .inr (.inl vo_amounts))), (o_takes, .inl (cJ, 9, .inr (.inl u1))), (o_leans, .inl (cI, 9, .inl u2)), (o_would, .inl (cJ, 9, .inr (.inl u3)))] := hD
  refine lv_aload_n hx hb dX6_spiltBy_5 rfl (lv_at hl 0 rfl) ?_
  refine va_get (D := (dC, dI)) (ci := 6) (v := .ref o_takes) (C := RX6) (T := TX6) (N := 26) hx hb hts hwX6 hown hK hP 0 rfl rfl 14 (by decide) hf_29 (fun _ h9 => h9) rfl dX6_spiltBy_6 ?_
  refine lv_iload_n hx hb dX6_spiltBy_9 rfl (lv_at hl 1 rfl) ?_
  have h_3 : vp_in p1 9 := zin (by omega) (by omega)
  refine va_lald hx hb hK hP 3 1 rfl rfl h_3 dX6_spiltBy_10 ?_
  refine lv_topl (fun v4 ev4 => ?_)
  replace hT := cut_n ev4.symm hT
  refine lv_lstore (lv' := [(4, .long v4), (0, .ref o), (1, .int p1), (2, .int p2), (3, .int p3)]) hx hb dX6_spiltBy_11 hl (by decide) rfl (fun ls hl => ?_)
  refine lv_aload_n hx hb dX6_spiltBy_13 rfl (lv_at hl 1 rfl) ?_
  refine va_get (D := (dC, dI)) (ci := 6) (v := .ref o_takes) (C := RX6) (T := TX6) (N := 26) hx hb hts hwX6 hown hK hP 0 rfl rfl 14 (by decide) hf_29 (fun _ h9 => h9) rfl dX6_spiltBy_14 ?_
  refine lv_iload_n hx hb dX6_spiltBy_17 rfl (lv_at hl 2 rfl) ?_
  refine lv_aload_n hx hb dX6_spiltBy_18 rfl (lv_at hl 1 rfl) ?_
  refine va_get (D := (dC, dI)) (ci := 6) (v := .ref o_takes) (C := RX6) (T := TX6) (N := 26) hx hb hts hwX6 hown hK hP 0 rfl rfl 14 (by decide) hf_29 (fun _ h9 => h9) rfl dX6_spiltBy_19 ?_
  refine lv_iload_n hx hb dX6_spiltBy_22 rfl (lv_at hl 3 rfl) ?_
  have h_4 : vp_in p2 9 := zin (by omega) (by omega)
  refine va_lald hx hb hK hP 3 1 rfl rfl h_4 dX6_spiltBy_23 ?_
  have h_5 : vp_in p1 9 := zin (by omega) (by omega)
  refine va_last hx hb hK hP hD hS 3 1 rfl rfl h_5 dX6_spiltBy_24 (fun H locs hP hD hS => ?_)
  obtain ⟨a5, ea5⟩ : ∃ z, (vp_updL u1 p1.toNatClampNeg (u1 p2.toNatClampNeg)) = z := ⟨_, rfl⟩
  replace hT := cut_n ea5 hT
  have hP : va_P (dC, dI) vwCl [(o, .inr (6, [.ref o_page, .int vo_pageMany, .int vo_readMany, .int vo_state, .int vo_readMost, .ref o_readRows, .int vo_glasses, .int vo_towersRead, .int vo_poured, .ref o_rows, .ref o_turns, .ref o_amounts, .ref o_drank, .long vo_spilt, .ref o_takes, .ref o_leans, .ref o_would, .int vo_done, .int vo_seedNow, .int vo_keptTower, .int vo_keptPoured, .long vo_keptSpilt, .ref o_keptAmounts, .ref o_keptDrank, .ref o_keptTurns, .long vo_hash])), (o_rows, .inl (cI, 54, .inl vo_rows)), (o_amounts, .inl (cJ, 9, .inr (.inl vo_amounts))), (o_takes, .inl (cJ, 9, .inr (.inl a5))), (o_leans, .inl (cI, 9, .inl u2)), (o_would, .inl (cJ, 9, .inr (.inl u3)))] H := by rw [← ea5]; exact hP
  have hD : va_D A [(o, .inr (6, [.ref o_page, .int vo_pageMany, .int vo_readMany, .int vo_state, .int vo_readMost, .ref o_readRows, .int vo_glasses, .int vo_towersRead, .int vo_poured, .ref o_rows, .ref o_turns, .ref o_amounts, .ref o_drank, .long vo_spilt, .ref o_takes, .ref o_leans, .ref o_would, .int vo_done, .int vo_seedNow, .int vo_keptTower, .int vo_keptPoured, .long vo_keptSpilt, .ref o_keptAmounts, .ref o_keptDrank, .ref o_keptTurns, .long vo_hash])), (o_rows, .inl (cI, 54, .inl vo_rows)), (o_amounts, .inl (cJ, 9, .inr (.inl vo_amounts))), (o_takes, .inl (cJ, 9, .inr (.inl a5))), (o_leans, .inl (cI, 9, .inl u2)), (o_would, .inl (cJ, 9, .inr (.inl u3)))] := by rw [← ea5]; exact hD
  refine lv_aload_n hx hb dX6_spiltBy_25 rfl (lv_at hl 1 rfl) ?_
  refine va_get (D := (dC, dI)) (ci := 6) (v := .ref o_takes) (C := RX6) (T := TX6) (N := 26) hx hb hts hwX6 hown hK hP 0 rfl rfl 14 (by decide) hf_29 (fun _ h9 => h9) rfl dX6_spiltBy_26 ?_
  refine lv_iload_n hx hb dX6_spiltBy_29 rfl (lv_at hl 3 rfl) ?_
  refine lv_lload hx hb dX6_spiltBy_30 (lv_at hl 0 rfl) ?_
  have h_6 : vp_in p2 9 := zin (by omega) (by omega)
  refine va_last hx hb hK hP hD hS 3 1 rfl rfl h_6 dX6_spiltBy_32 (fun H locs hP hD hS => ?_)
  obtain ⟨a6, ea6⟩ : ∃ z, (vp_updL a5 p2.toNatClampNeg v4) = z := ⟨_, rfl⟩
  replace hT := cut_n ea6 hT
  have hP : va_P (dC, dI) vwCl [(o, .inr (6, [.ref o_page, .int vo_pageMany, .int vo_readMany, .int vo_state, .int vo_readMost, .ref o_readRows, .int vo_glasses, .int vo_towersRead, .int vo_poured, .ref o_rows, .ref o_turns, .ref o_amounts, .ref o_drank, .long vo_spilt, .ref o_takes, .ref o_leans, .ref o_would, .int vo_done, .int vo_seedNow, .int vo_keptTower, .int vo_keptPoured, .long vo_keptSpilt, .ref o_keptAmounts, .ref o_keptDrank, .ref o_keptTurns, .long vo_hash])), (o_rows, .inl (cI, 54, .inl vo_rows)), (o_amounts, .inl (cJ, 9, .inr (.inl vo_amounts))), (o_takes, .inl (cJ, 9, .inr (.inl a6))), (o_leans, .inl (cI, 9, .inl u2)), (o_would, .inl (cJ, 9, .inr (.inl u3)))] H := by rw [← ea6]; exact hP
  have hD : va_D A [(o, .inr (6, [.ref o_page, .int vo_pageMany, .int vo_readMany, .int vo_state, .int vo_readMost, .ref o_readRows, .int vo_glasses, .int vo_towersRead, .int vo_poured, .ref o_rows, .ref o_turns, .ref o_amounts, .ref o_drank, .long vo_spilt, .ref o_takes, .ref o_leans, .ref o_would, .int vo_done, .int vo_seedNow, .int vo_keptTower, .int vo_keptPoured, .long vo_keptSpilt, .ref o_keptAmounts, .ref o_keptDrank, .ref o_keptTurns, .long vo_hash])), (o_rows, .inl (cI, 54, .inl vo_rows)), (o_amounts, .inl (cJ, 9, .inr (.inl vo_amounts))), (o_takes, .inl (cJ, 9, .inr (.inl a6))), (o_leans, .inl (cI, 9, .inl u2)), (o_would, .inl (cJ, 9, .inr (.inl u3)))] := by rw [← ea6]; exact hD
  refine lv_aload_n hx hb dX6_spiltBy_33 rfl (lv_at hl 1 rfl) ?_
  refine va_get (D := (dC, dI)) (ci := 6) (v := .ref o_leans) (C := RX6) (T := TX6) (N := 26) hx hb hts hwX6 hown hK hP 0 rfl rfl 15 (by decide) hf_32 (fun _ h9 => h9) rfl dX6_spiltBy_34 ?_
  refine lv_iload_n hx hb dX6_spiltBy_37 rfl (lv_at hl 2 rfl) ?_
  have h_7 : vp_in p1 9 := zin (by omega) (by omega)
  refine va_iald hx hb hK hP 4 0 rfl rfl h_7 dX6_spiltBy_38 ?_
  have g_8 := ok_2 p1.toNatClampNeg
  refine lv_topi (fun v7 ev7 => ?_)
  replace hT := cut_n ev7.symm hT
  have fv7 : (v7).toInt = (u2 p1.toNatClampNeg).toInt := by rw [ev7]
  refine lv_istore (lv' := [(6, .int v7), (4, .long v4), (0, .ref o), (1, .int p1), (2, .int p2), (3, .int p3)]) hx hb dX6_spiltBy_39 hl (by decide) rfl (fun ls hl => ?_)
  refine lv_aload_n hx hb dX6_spiltBy_41 rfl (lv_at hl 2 rfl) ?_
  refine va_get (D := (dC, dI)) (ci := 6) (v := .ref o_leans) (C := RX6) (T := TX6) (N := 26) hx hb hts hwX6 hown hK hP 0 rfl rfl 15 (by decide) hf_32 (fun _ h9 => h9) rfl dX6_spiltBy_42 ?_
  refine lv_iload_n hx hb dX6_spiltBy_45 rfl (lv_at hl 3 rfl) ?_
  refine lv_aload_n hx hb dX6_spiltBy_46 rfl (lv_at hl 2 rfl) ?_
  refine va_get (D := (dC, dI)) (ci := 6) (v := .ref o_leans) (C := RX6) (T := TX6) (N := 26) hx hb hts hwX6 hown hK hP 0 rfl rfl 15 (by decide) hf_32 (fun _ h9 => h9) rfl dX6_spiltBy_47 ?_
  refine lv_iload_n hx hb dX6_spiltBy_50 rfl (lv_at hl 4 rfl) ?_
  have h_9 : vp_in p2 9 := zin (by omega) (by omega)
  refine va_iald hx hb hK hP 4 0 rfl rfl h_9 dX6_spiltBy_51 ?_
  have g_10 := ok_2 p2.toNatClampNeg
  have h_11 : vp_in p1 9 := zin (by omega) (by omega)
  refine va_iast hx hb hK hP hD hS 4 0 rfl rfl h_11 dX6_spiltBy_52 (fun H locs hP hD hS => ?_)
  obtain ⟨a8, ea8⟩ : ∃ z, (upd u2 p1.toNatClampNeg (u2 p2.toNatClampNeg)) = z := ⟨_, rfl⟩
  replace hT := cut_n ea8 hT
  have hP : va_P (dC, dI) vwCl [(o, .inr (6, [.ref o_page, .int vo_pageMany, .int vo_readMany, .int vo_state, .int vo_readMost, .ref o_readRows, .int vo_glasses, .int vo_towersRead, .int vo_poured, .ref o_rows, .ref o_turns, .ref o_amounts, .ref o_drank, .long vo_spilt, .ref o_takes, .ref o_leans, .ref o_would, .int vo_done, .int vo_seedNow, .int vo_keptTower, .int vo_keptPoured, .long vo_keptSpilt, .ref o_keptAmounts, .ref o_keptDrank, .ref o_keptTurns, .long vo_hash])), (o_rows, .inl (cI, 54, .inl vo_rows)), (o_amounts, .inl (cJ, 9, .inr (.inl vo_amounts))), (o_takes, .inl (cJ, 9, .inr (.inl a6))), (o_leans, .inl (cI, 9, .inl a8)), (o_would, .inl (cJ, 9, .inr (.inl u3)))] H := by rw [← ea8]; exact hP
  have hD : va_D A [(o, .inr (6, [.ref o_page, .int vo_pageMany, .int vo_readMany, .int vo_state, .int vo_readMost, .ref o_readRows, .int vo_glasses, .int vo_towersRead, .int vo_poured, .ref o_rows, .ref o_turns, .ref o_amounts, .ref o_drank, .long vo_spilt, .ref o_takes, .ref o_leans, .ref o_would, .int vo_done, .int vo_seedNow, .int vo_keptTower, .int vo_keptPoured, .long vo_keptSpilt, .ref o_keptAmounts, .ref o_keptDrank, .ref o_keptTurns, .long vo_hash])), (o_rows, .inl (cI, 54, .inl vo_rows)), (o_amounts, .inl (cJ, 9, .inr (.inl vo_amounts))), (o_takes, .inl (cJ, 9, .inr (.inl a6))), (o_leans, .inl (cI, 9, .inl a8)), (o_would, .inl (cJ, 9, .inr (.inl u3)))] := by rw [← ea8]; exact hD
  have sc_12 : zLn a8 := by rw [← ea8]; exact zLn_upd ok_2 (by omega) (by omega)
  refine lv_aload_n hx hb dX6_spiltBy_53 rfl (lv_at hl 2 rfl) ?_
  refine va_get (D := (dC, dI)) (ci := 6) (v := .ref o_leans) (C := RX6) (T := TX6) (N := 26) hx hb hts hwX6 hown hK hP 0 rfl rfl 15 (by decide) hf_32 (fun _ h9 => h9) rfl dX6_spiltBy_54 ?_
  refine lv_iload_n hx hb dX6_spiltBy_57 rfl (lv_at hl 4 rfl) ?_
  refine lv_iload hx hb dX6_spiltBy_58 (lv_at hl 0 rfl) ?_
  have h_13 : vp_in p2 9 := zin (by omega) (by omega)
  refine va_iast hx hb hK hP hD hS 4 0 rfl rfl h_13 dX6_spiltBy_60 (fun H locs hP hD hS => ?_)
  obtain ⟨a9, ea9⟩ : ∃ z, (upd a8 p2.toNatClampNeg v7) = z := ⟨_, rfl⟩
  replace hT := cut_n ea9 hT
  have hP : va_P (dC, dI) vwCl [(o, .inr (6, [.ref o_page, .int vo_pageMany, .int vo_readMany, .int vo_state, .int vo_readMost, .ref o_readRows, .int vo_glasses, .int vo_towersRead, .int vo_poured, .ref o_rows, .ref o_turns, .ref o_amounts, .ref o_drank, .long vo_spilt, .ref o_takes, .ref o_leans, .ref o_would, .int vo_done, .int vo_seedNow, .int vo_keptTower, .int vo_keptPoured, .long vo_keptSpilt, .ref o_keptAmounts, .ref o_keptDrank, .ref o_keptTurns, .long vo_hash])), (o_rows, .inl (cI, 54, .inl vo_rows)), (o_amounts, .inl (cJ, 9, .inr (.inl vo_amounts))), (o_takes, .inl (cJ, 9, .inr (.inl a6))), (o_leans, .inl (cI, 9, .inl a9)), (o_would, .inl (cJ, 9, .inr (.inl u3)))] H := by rw [← ea9]; exact hP
  have hD : va_D A [(o, .inr (6, [.ref o_page, .int vo_pageMany, .int vo_readMany, .int vo_state, .int vo_readMost, .ref o_readRows, .int vo_glasses, .int vo_towersRead, .int vo_poured, .ref o_rows, .ref o_turns, .ref o_amounts, .ref o_drank, .long vo_spilt, .ref o_takes, .ref o_leans, .ref o_would, .int vo_done, .int vo_seedNow, .int vo_keptTower, .int vo_keptPoured, .long vo_keptSpilt, .ref o_keptAmounts, .ref o_keptDrank, .ref o_keptTurns, .long vo_hash])), (o_rows, .inl (cI, 54, .inl vo_rows)), (o_amounts, .inl (cJ, 9, .inr (.inl vo_amounts))), (o_takes, .inl (cJ, 9, .inr (.inl a6))), (o_leans, .inl (cI, 9, .inl a9)), (o_would, .inl (cJ, 9, .inr (.inl u3)))] := by rw [← ea9]; exact hD
  have sc_14 : zLn a9 := by rw [← ea9]; exact zLn_upd sc_12 (by omega) (by omega)
  refine lv_aload_n hx hb dX6_spiltBy_61 rfl (lv_at hl 2 rfl) ?_
  refine lv_aload_n hx hb dX6_spiltBy_62 rfl (lv_at hl 2 rfl) ?_
  refine va_get (D := (dC, dI)) (ci := 6) (v := .ref o_would) (C := RX6) (T := TX6) (N := 26) hx hb hts hwX6 hown hK hP 0 rfl rfl 16 (by decide) hf_35 (fun _ h9 => h9) rfl dX6_spiltBy_63 ?_
  obtain ⟨r10, u11, ev_15⟩ : ∃ x0 x1, (m_X6_runOver_w vo_glasses vo_rows a6 a9 u3) = (x0, x1) := ⟨_, _, rfl⟩
  replace hT := cut2_n ev_15 hT
  refine zz_cl [0, 1, 3, 4, 5] [2] (wr := [(o_amounts, .inl (cJ, 9, .inr (.inl vo_amounts)))]) (w1 := [(o, .inr (6, [.ref o_page, .int vo_pageMany, .int vo_readMany, .int vo_state, .int vo_readMost, .ref o_readRows, .int vo_glasses, .int vo_towersRead, .int vo_poured, .ref o_rows, .ref o_turns, .ref o_amounts, .ref o_drank, .long vo_spilt, .ref o_takes, .ref o_leans, .ref o_would, .int vo_done, .int vo_seedNow, .int vo_keptTower, .int vo_keptPoured, .long vo_keptSpilt, .ref o_keptAmounts, .ref o_keptDrank, .ref o_keptTurns, .long vo_hash])), (o_rows, .inl (cI, 54, .inl vo_rows)), (o_takes, .inl (cJ, 9, .inr (.inl a6))), (o_leans, .inl (cI, 9, .inl a9)), (o_would, .inl (cJ, 9, .inr (.inl u11)))]) (va_runV (As := [.ref o_would]) (rest := []) ⟨hx, hb, hml, hown, hts⟩ (k_X6_runOver_w l dC dI cI cJ cC H.size o o_page o_readRows o_rows o_turns o_amounts o_drank o_takes o_leans o_would o_keptAmounts o_keptDrank o_keptTurns vo_pageMany vo_readMany vo_state vo_readMost vo_glasses vo_towersRead vo_poured vo_spilt vo_done vo_seedNow vo_keptTower vo_keptPoured vo_keptSpilt vo_hash vo_rows a6 a9 u3 r10 u11 ev_15 hg0 hg9 hrw sc_14) (cwV 1 hts gX6_spiltBy_X6_runOver rfl rfl rfl (by decide +kernel) ⟨Nat.le_of_ble_eq_true rfl, Nat.le_of_ble_eq_true rfl⟩) (zz_preV [0, 1, 3, 4, 5] hK hP hD rfl rfl (va_recv hK hP (ci := 6) (q0 := 0) rfl rfl)) rfl rfl hl.1 rfl (lv_room (Nat.le_of_ble_eq_true rfl)) dX6_spiltBy_66 ⟨Nat.zero_le _, Nat.zero_le _⟩) hP hD hS hA rfl rfl rfl (by decide) (fun ok_16 H locs hP hD hS => ?_)
  have hP : va_P (dC, dI) vwCl [(o_amounts, .inl (cJ, 9, .inr (.inl vo_amounts))), (o, .inr (6, [.ref o_page, .int vo_pageMany, .int vo_readMany, .int vo_state, .int vo_readMost, .ref o_readRows, .int vo_glasses, .int vo_towersRead, .int vo_poured, .ref o_rows, .ref o_turns, .ref o_amounts, .ref o_drank, .long vo_spilt, .ref o_takes, .ref o_leans, .ref o_would, .int vo_done, .int vo_seedNow, .int vo_keptTower, .int vo_keptPoured, .long vo_keptSpilt, .ref o_keptAmounts, .ref o_keptDrank, .ref o_keptTurns, .long vo_hash])), (o_rows, .inl (cI, 54, .inl vo_rows)), (o_takes, .inl (cJ, 9, .inr (.inl a6))), (o_leans, .inl (cI, 9, .inl a9)), (o_would, .inl (cJ, 9, .inr (.inl u11)))] H := hP
  have hD : va_D A [(o_amounts, .inl (cJ, 9, .inr (.inl vo_amounts))), (o, .inr (6, [.ref o_page, .int vo_pageMany, .int vo_readMany, .int vo_state, .int vo_readMost, .ref o_readRows, .int vo_glasses, .int vo_towersRead, .int vo_poured, .ref o_rows, .ref o_turns, .ref o_amounts, .ref o_drank, .long vo_spilt, .ref o_takes, .ref o_leans, .ref o_would, .int vo_done, .int vo_seedNow, .int vo_keptTower, .int vo_keptPoured, .long vo_keptSpilt, .ref o_keptAmounts, .ref o_keptDrank, .ref o_keptTurns, .long vo_hash])), (o_rows, .inl (cI, 54, .inl vo_rows)), (o_takes, .inl (cJ, 9, .inr (.inl a6))), (o_leans, .inl (cI, 9, .inl a9)), (o_would, .inl (cJ, 9, .inr (.inl u11)))] := hD
  refine lv_lstore (lv' := [(7, .long r10), (6, .int v7), (4, .long v4), (0, .ref o), (1, .int p1), (2, .int p2), (3, .int p3)]) hx hb dX6_spiltBy_69 hl (by decide) rfl (fun ls hl => ?_)
  refine lv_aload_n hx hb dX6_spiltBy_71 rfl (lv_at hl 3 rfl) ?_
  refine va_get (D := (dC, dI)) (ci := 6) (v := .ref o_would) (C := RX6) (T := TX6) (N := 26) hx hb hts hwX6 hown hK hP 1 rfl rfl 16 (by decide) hf_35 (fun _ h9 => h9) rfl dX6_spiltBy_72 ?_
  refine lv_iconst (v := (0 : Int32)) hx hb dX6_spiltBy_75 (by decide) ?_
  refine lv_dup2_11 hx hb dX6_spiltBy_76 rfl rfl ?_
  have h_17 : vp_in (0 : Int32) 9 := zin (by decide) (by decide)
  refine va_lald hx hb hK hP 5 1 rfl rfl h_17 dX6_spiltBy_77 ?_
  refine lv_ldc2 (v := (429981696 : Int64)) hx hb hown hc_113 dX6_spiltBy_78 ?_
  refine lv_iload_n hx hb dX6_spiltBy_81 rfl (lv_at hl 6 rfl) ?_
  refine lv_i2l (v := (p3.toInt64)) hx hb dX6_spiltBy_82 rfl ?_
  refine lv_lmul hx hb dX6_spiltBy_83 ?_
  refine lv_ladd hx hb dX6_spiltBy_84 ?_
  have h_18 : vp_in (0 : Int32) 9 := zin (by decide) (by decide)
  refine va_last hx hb hK hP hD hS 5 1 rfl rfl h_18 dX6_spiltBy_85 (fun H locs hP hD hS => ?_)
  obtain ⟨a12, ea12⟩ : ∃ z, (vp_updL u11 (0 : Int32).toNatClampNeg ((u11 (0 : Int32).toNatClampNeg) + ((429981696 : Int64) * (p3.toInt64)))) = z := ⟨_, rfl⟩
  replace hT := cut_n ea12 hT
  have hP : va_P (dC, dI) vwCl [(o_amounts, .inl (cJ, 9, .inr (.inl vo_amounts))), (o, .inr (6, [.ref o_page, .int vo_pageMany, .int vo_readMany, .int vo_state, .int vo_readMost, .ref o_readRows, .int vo_glasses, .int vo_towersRead, .int vo_poured, .ref o_rows, .ref o_turns, .ref o_amounts, .ref o_drank, .long vo_spilt, .ref o_takes, .ref o_leans, .ref o_would, .int vo_done, .int vo_seedNow, .int vo_keptTower, .int vo_keptPoured, .long vo_keptSpilt, .ref o_keptAmounts, .ref o_keptDrank, .ref o_keptTurns, .long vo_hash])), (o_rows, .inl (cI, 54, .inl vo_rows)), (o_takes, .inl (cJ, 9, .inr (.inl a6))), (o_leans, .inl (cI, 9, .inl a9)), (o_would, .inl (cJ, 9, .inr (.inl a12)))] H := by rw [← ea12]; exact hP
  have hD : va_D A [(o_amounts, .inl (cJ, 9, .inr (.inl vo_amounts))), (o, .inr (6, [.ref o_page, .int vo_pageMany, .int vo_readMany, .int vo_state, .int vo_readMost, .ref o_readRows, .int vo_glasses, .int vo_towersRead, .int vo_poured, .ref o_rows, .ref o_turns, .ref o_amounts, .ref o_drank, .long vo_spilt, .ref o_takes, .ref o_leans, .ref o_would, .int vo_done, .int vo_seedNow, .int vo_keptTower, .int vo_keptPoured, .long vo_keptSpilt, .ref o_keptAmounts, .ref o_keptDrank, .ref o_keptTurns, .long vo_hash])), (o_rows, .inl (cI, 54, .inl vo_rows)), (o_takes, .inl (cJ, 9, .inr (.inl a6))), (o_leans, .inl (cI, 9, .inl a9)), (o_would, .inl (cJ, 9, .inr (.inl a12)))] := by rw [← ea12]; exact hD
  refine lv_lload hx hb dX6_spiltBy_86 (lv_at hl 0 rfl) ?_
  refine lv_aload_n hx hb dX6_spiltBy_88 rfl (lv_at hl 3 rfl) ?_
  refine lv_aload_n hx hb dX6_spiltBy_89 rfl (lv_at hl 3 rfl) ?_
  refine va_get (D := (dC, dI)) (ci := 6) (v := .ref o_would) (C := RX6) (T := TX6) (N := 26) hx hb hts hwX6 hown hK hP 1 rfl rfl 16 (by decide) hf_35 (fun _ h9 => h9) rfl dX6_spiltBy_90 ?_
  obtain ⟨r13, u14, ev_19⟩ : ∃ x0 x1, (m_X6_runOver_w vo_glasses vo_rows a6 a9 a12) = (x0, x1) := ⟨_, _, rfl⟩
  replace hT := cut2_n ev_19 hT
  refine zz_cl [1, 2, 3, 4, 5] [0] (wr := [(o_amounts, .inl (cJ, 9, .inr (.inl vo_amounts)))]) (w1 := [(o, .inr (6, [.ref o_page, .int vo_pageMany, .int vo_readMany, .int vo_state, .int vo_readMost, .ref o_readRows, .int vo_glasses, .int vo_towersRead, .int vo_poured, .ref o_rows, .ref o_turns, .ref o_amounts, .ref o_drank, .long vo_spilt, .ref o_takes, .ref o_leans, .ref o_would, .int vo_done, .int vo_seedNow, .int vo_keptTower, .int vo_keptPoured, .long vo_keptSpilt, .ref o_keptAmounts, .ref o_keptDrank, .ref o_keptTurns, .long vo_hash])), (o_rows, .inl (cI, 54, .inl vo_rows)), (o_takes, .inl (cJ, 9, .inr (.inl a6))), (o_leans, .inl (cI, 9, .inl a9)), (o_would, .inl (cJ, 9, .inr (.inl u14)))]) (va_runV (As := [.ref o_would]) (rest := [.long r10]) ⟨hx, hb, hml, hown, hts⟩ (k_X6_runOver_w l dC dI cI cJ cC H.size o o_page o_readRows o_rows o_turns o_amounts o_drank o_takes o_leans o_would o_keptAmounts o_keptDrank o_keptTurns vo_pageMany vo_readMany vo_state vo_readMost vo_glasses vo_towersRead vo_poured vo_spilt vo_done vo_seedNow vo_keptTower vo_keptPoured vo_keptSpilt vo_hash vo_rows a6 a9 a12 r13 u14 ev_19 hg0 hg9 hrw sc_14) (cwV 1 hts gX6_spiltBy_X6_runOver rfl rfl rfl (by decide +kernel) ⟨Nat.le_of_ble_eq_true rfl, Nat.le_of_ble_eq_true rfl⟩) (zz_preV [1, 2, 3, 4, 5] hK hP hD rfl rfl (va_recv hK hP (ci := 6) (q0 := 1) rfl rfl)) rfl rfl hl.1 rfl (lv_room (Nat.le_of_ble_eq_true rfl)) dX6_spiltBy_93 ⟨Nat.zero_le _, Nat.zero_le _⟩) hP hD hS hA rfl rfl rfl (by decide) (fun ok_20 H locs hP hD hS => ?_)
  have hP : va_P (dC, dI) vwCl [(o_amounts, .inl (cJ, 9, .inr (.inl vo_amounts))), (o, .inr (6, [.ref o_page, .int vo_pageMany, .int vo_readMany, .int vo_state, .int vo_readMost, .ref o_readRows, .int vo_glasses, .int vo_towersRead, .int vo_poured, .ref o_rows, .ref o_turns, .ref o_amounts, .ref o_drank, .long vo_spilt, .ref o_takes, .ref o_leans, .ref o_would, .int vo_done, .int vo_seedNow, .int vo_keptTower, .int vo_keptPoured, .long vo_keptSpilt, .ref o_keptAmounts, .ref o_keptDrank, .ref o_keptTurns, .long vo_hash])), (o_rows, .inl (cI, 54, .inl vo_rows)), (o_takes, .inl (cJ, 9, .inr (.inl a6))), (o_leans, .inl (cI, 9, .inl a9)), (o_would, .inl (cJ, 9, .inr (.inl u14)))] H := hP
  have hD : va_D A [(o_amounts, .inl (cJ, 9, .inr (.inl vo_amounts))), (o, .inr (6, [.ref o_page, .int vo_pageMany, .int vo_readMany, .int vo_state, .int vo_readMost, .ref o_readRows, .int vo_glasses, .int vo_towersRead, .int vo_poured, .ref o_rows, .ref o_turns, .ref o_amounts, .ref o_drank, .long vo_spilt, .ref o_takes, .ref o_leans, .ref o_would, .int vo_done, .int vo_seedNow, .int vo_keptTower, .int vo_keptPoured, .long vo_keptSpilt, .ref o_keptAmounts, .ref o_keptDrank, .ref o_keptTurns, .long vo_hash])), (o_rows, .inl (cI, 54, .inl vo_rows)), (o_takes, .inl (cJ, 9, .inr (.inl a6))), (o_leans, .inl (cI, 9, .inl a9)), (o_would, .inl (cJ, 9, .inr (.inl u14)))] := hD
  refine lv_ladd hx hb dX6_spiltBy_96 ?_
  have hP9 := hP
  have hD9 := hD
  have hS9 := hS
  have hT : ((r10 + r13), a6, a9, u14) = (r, qo_takes, qo_leans, qo_would) := hT
  cases hT
  subst hQ
  exact zz_lret hx hb hr [1, 2, 0, 3, 4, 5] hK hP9 hD9 hS9 rfl rfl (by assumption) hlocks dX6_spiltBy_97

def rs_X6_change_6 (b9 : Int32) (bk5 : Int32 → Int32 → Int64 → (Nat → Int64) → (Nat → Int32) → (Nat → Int64) → (Int32 × Int32 × (Nat → Int64) × (Nat → Int32) × (Nat → Int64))) (x28 : Int32) (x29 : Int32) (x30 : Int64) (x31 : Nat → Int64) (x32 : Nat → Int32) (x33 : Nat → Int64) : Int32 × Int32 × (Nat → Int64) × (Nat → Int32) × (Nat → Int64) :=
 cut (b9 + (1 : Int32)) (fun (v41 : Int32) =>
 (bk5 v41 x29 x30 x31 x32 x33))
def lp_X6_change_6 (vo_glasses : Int32) (ct6 : Int32 → Int32 → Int64 → (Nat → Int64) → (Nat → Int32) → (Nat → Int64) → (Int32 × Int32 × (Nat → Int64) × (Nat → Int32) × (Nat → Int64))) (vo_rows : Nat → Int32) (vo_amounts : Nat → Int64) (b9 : Int32) (p1 : Int32) : Nat → Int32 → Int32 → Int64 → (Nat → Int64) → (Nat → Int32) → (Nat → Int64) → (Int32 × Int32 × (Nat → Int64) × (Nat → Int32) × (Nat → Int64))
  | 0, _, _, _, _, _, _ => default
  | k + 1, b22, b23, b24, b25, b26, b27 =>
  if vo_glasses ≤ b22 then
   (ct6 b22 b23 b24 b25 b26 b27)
  else
   cut4 (m_X6_spiltBy vo_glasses vo_rows vo_amounts b25 b26 b27 b9 b22 p1) (fun (r34 : Int64) (u35 : Nat → Int64) (u36 : Nat → Int32) (u37 : Nat → Int64) =>
   cut (
    if (0 : Int32) ≤ (lg_cmp r34 b24) then
     b23
    else
     (((9 : Int32) * b9) + b22)) (fun (j38 : Int32) =>
   if (0 : Int32) ≤ (lg_cmp r34 b24) then
    cut (b22 + (1 : Int32)) (fun (v39 : Int32) =>
    (lp_X6_change_6 vo_glasses ct6 vo_rows vo_amounts b9 p1 k v39 j38 b24 u35 u36 u37))
   else
    cut (b22 + (1 : Int32)) (fun (v40 : Int32) =>
    (lp_X6_change_6 vo_glasses ct6 vo_rows vo_amounts b9 p1 k v40 j38 r34 u35 u36 u37))))
def rs_X6_change_5 (v4 : Int32) (p2 : Int32) (x15 : Int32) (x16 : Int32) (x17 : Int64) (x18 : Nat → Int64) (x19 : Nat → Int32) (x20 : Nat → Int64) : Int32 × Int32 × (Nat → Int64) × (Nat → Int32) × (Nat → Int64) :=
 if x16 = (-1 : Int32) then
  ((-1 : Int32), v4, x18, x19, x20)
 else
  if p2 = (0 : Int32) then
   ((x16 / (9 : Int32)), v4, x18, x19, x20)
  else
   ((x16 - x16 / (9 : Int32) * (9 : Int32)), v4, x18, x19, x20)
def lp_X6_change_5 (vo_glasses : Int32) (ct5 : Int32 → Int32 → Int64 → (Nat → Int64) → (Nat → Int32) → (Nat → Int64) → (Int32 × Int32 × (Nat → Int64) × (Nat → Int32) × (Nat → Int64))) (vo_rows : Nat → Int32) (vo_amounts : Nat → Int64) (p1 : Int32) : Nat → Int32 → Int32 → Int64 → (Nat → Int64) → (Nat → Int32) → (Nat → Int64) → (Int32 × Int32 × (Nat → Int64) × (Nat → Int32) × (Nat → Int64))
  | 0, _, _, _, _, _, _ => default
  | k + 1, b9, b10, b11, b12, b13, b14 =>
  if vo_glasses ≤ b9 then
   (ct5 b9 b10 b11 b12 b13 b14)
  else
   cut (b9 + (1 : Int32)) (fun (v21 : Int32) =>
   (lp_X6_change_6 vo_glasses (rs_X6_change_6 b9 (fun c0 c1 c2 c3 c4 c5 => lp_X6_change_5 vo_glasses ct5 vo_rows vo_amounts p1 k c0 c1 c2 c3 c4 c5)) vo_rows vo_amounts b9 p1 11 v21 b10 b11 b12 b13 b14))
def m_X6_change (vo_glasses : Int32) (vo_done : Int32) (vo_rows : Nat → Int32) (vo_amounts : Nat → Int64) (vo_takes : Nat → Int64) (vo_leans : Nat → Int32) (vo_would : Nat → Int64) (p1 : Int32) (p2 : Int32) : Int32 × Int32 × (Nat → Int64) × (Nat → Int32) × (Nat → Int64) :=
 cut (m_X6_lacks vo_glasses) (fun (r1 : Int32) =>
 if r1 = (0 : Int32) then
  cut (m_X6_isIn (p1.toInt64) (1 : Int64) (99 : Int64)) (fun (r2 : Int32) =>
  if r2 = (0 : Int32) then
   ((-102 : Int32), vo_done, vo_takes, vo_leans, vo_would)
  else
   cut (m_X6_isPart p2) (fun (r3 : Int32) =>
   if r3 = (0 : Int32) then
    ((-102 : Int32), vo_done, vo_takes, vo_leans, vo_would)
   else
    if vo_done = (30 : Int32) then
     ((-103 : Int32), vo_done, vo_takes, vo_leans, vo_would)
    else
     cut (vo_done + (1 : Int32)) (fun (v4 : Int32) =>
     cut4 (m_X6_spiltBy vo_glasses vo_rows vo_amounts vo_takes vo_leans vo_would (0 : Int32) (0 : Int32) p1) (fun (r5 : Int64) (u6 : Nat → Int64) (u7 : Nat → Int32) (u8 : Nat → Int64) =>
     (lp_X6_change_5 vo_glasses (rs_X6_change_5 v4 p2) vo_rows vo_amounts p1 11 (0 : Int32) (-1 : Int32) r5 u6 u7 u8)))))
 else
  ((-103 : Int32), vo_done, vo_takes, vo_leans, vo_would))
set_option maxHeartbeats 4000000 in
set_option maxRecDepth 100000 in
theorem k_X6_change (l : Launch) (dC : Nat → ClassId) (dI : Nat → Nat → Nat) (cI cJ cC : ClassId) (sz : Nat) (o o_page o_readRows o_rows o_turns o_amounts o_drank o_takes o_leans o_would o_keptAmounts o_keptDrank o_keptTurns : Nat) (vo_pageMany : Int32) (vo_readMany : Int32) (vo_state : Int32) (vo_readMost : Int32) (vo_glasses : Int32) (vo_towersRead : Int32) (vo_poured : Int32) (vo_spilt : Int64) (vo_done : Int32) (vo_seedNow : Int32) (vo_keptTower : Int32) (vo_keptPoured : Int32) (vo_keptSpilt : Int64) (vo_hash : Int64) (vo_rows : Nat → Int32) (vo_amounts : Nat → Int64) (vo_takes : Nat → Int64) (vo_leans : Nat → Int32) (vo_would : Nat → Int64) (p1 : Int32) (p2 : Int32) (r : Int32) (qo_done : Int32) (qo_takes : Nat → Int64) (qo_leans : Nat → Int32) (qo_would : Nat → Int64) (hT : m_X6_change vo_glasses vo_done vo_rows vo_amounts vo_takes vo_leans vo_would p1 p2 = (r, qo_done, qo_takes, qo_leans, qo_would)) (hg0 : 0 ≤ vo_glasses.toInt) (hg9 : vo_glasses.toInt ≤ 9) (hrw : zRw vo_rows) (hln : zLn vo_leans) : Met l yX6_change wsX6_change ({ frames := 4, cells := 0, slots := 0, locals := 94 }) (zPc [.ref o, .int p1, .int p2] (dC, dI) (zTy cI cJ cC) [(o, .inr (6, [.ref o_page, .int vo_pageMany, .int vo_readMany, .int vo_state, .int vo_readMost, .ref o_readRows, .int vo_glasses, .int vo_towersRead, .int vo_poured, .ref o_rows, .ref o_turns, .ref o_amounts, .ref o_drank, .long vo_spilt, .ref o_takes, .ref o_leans, .ref o_would, .int vo_done, .int vo_seedNow, .int vo_keptTower, .int vo_keptPoured, .long vo_keptSpilt, .ref o_keptAmounts, .ref o_keptDrank, .ref o_keptTurns, .long vo_hash])), (o_rows, .inl (cI, 54, .inl vo_rows)), (o_amounts, .inl (cJ, 9, .inr (.inl vo_amounts))), (o_takes, .inl (cJ, 9, .inr (.inl vo_takes))), (o_leans, .inl (cI, 9, .inl vo_leans)), (o_would, .inl (cJ, 9, .inr (.inl vo_would)))] sz) (zQi r ((zLn qo_leans)) (dC, dI) (zTy cI cJ cC) [(o, .inr (6, [.ref o_page, .int vo_pageMany, .int vo_readMany, .int vo_state, .int vo_readMost, .ref o_readRows, .int vo_glasses, .int vo_towersRead, .int vo_poured, .ref o_rows, .ref o_turns, .ref o_amounts, .ref o_drank, .long vo_spilt, .ref o_takes, .ref o_leans, .ref o_would, .int qo_done, .int vo_seedNow, .int vo_keptTower, .int vo_keptPoured, .long vo_keptSpilt, .ref o_keptAmounts, .ref o_keptDrank, .ref o_keptTurns, .long vo_hash])), (o_rows, .inl (cI, 54, .inl vo_rows)), (o_amounts, .inl (cJ, 9, .inr (.inl vo_amounts))), (o_takes, .inl (cJ, 9, .inr (.inl qo_takes))), (o_leans, .inl (cI, 9, .inl qo_leans)), (o_would, .inl (cJ, 9, .inr (.inl qo_would)))] (va_A [(o, .inr (6, [.ref o_page, .int vo_pageMany, .int vo_readMany, .int vo_state, .int vo_readMost, .ref o_readRows, .int vo_glasses, .int vo_towersRead, .int vo_poured, .ref o_rows, .ref o_turns, .ref o_amounts, .ref o_drank, .long vo_spilt, .ref o_takes, .ref o_leans, .ref o_would, .int vo_done, .int vo_seedNow, .int vo_keptTower, .int vo_keptPoured, .long vo_keptSpilt, .ref o_keptAmounts, .ref o_keptDrank, .ref o_keptTurns, .long vo_hash])), (o_rows, .inl (cI, 54, .inl vo_rows)), (o_amounts, .inl (cJ, 9, .inr (.inl vo_amounts))), (o_takes, .inl (cJ, 9, .inr (.inl vo_takes))), (o_leans, .inl (cI, 9, .inl vo_leans)), (o_would, .inl (cJ, 9, .inr (.inl vo_would)))] sz)) 0 0 (va_A [(o, .inr (6, [.ref o_page, .int vo_pageMany, .int vo_readMany, .int vo_state, .int vo_readMost, .ref o_readRows, .int vo_glasses, .int vo_towersRead, .int vo_poured, .ref o_rows, .ref o_turns, .ref o_amounts, .ref o_drank, .long vo_spilt, .ref o_takes, .ref o_leans, .ref o_would, .int vo_done, .int vo_seedNow, .int vo_keptTower, .int vo_keptPoured, .long vo_keptSpilt, .ref o_keptAmounts, .ref o_keptDrank, .ref o_keptTurns, .long vo_hash])), (o_rows, .inl (cI, 54, .inl vo_rows)), (o_amounts, .inl (cJ, 9, .inr (.inl vo_amounts))), (o_takes, .inl (cJ, 9, .inr (.inl vo_takes))), (o_leans, .inl (cI, 9, .inl vo_leans)), (o_would, .inl (cJ, 9, .inr (.inl vo_would)))] sz) := by
  refine Met.ofW (cc := cX6_change) (maxL := 10) (ret := (some .int)) (by decide) rfl ?_
  intro p e s m args below meth c s₁ B hml hv
  obtain ⟨rfl, hsz, hP, hK, hD0⟩ := hv
  have hx := B.exec
  have hb := B.bytes
  have hr := B.returns
  have hts := atoms_spec (ws := wsX6_change) B.pre
  have hown : s.vm.findClass RX6 = some m.cls := findClass_of_methodNamed B.named
  have hlocks := B.notSynchronized
  subst hsz
  have hD := hD0.self (sz := s.heap.size)
  generalize hAe : va_A [(o, .inr (6, [.ref o_page, .int vo_pageMany, .int vo_readMany, .int vo_state, .int vo_readMost, .ref o_readRows, .int vo_glasses, .int vo_towersRead, .int vo_poured, .ref o_rows, .ref o_turns, .ref o_amounts, .ref o_drank, .long vo_spilt, .ref o_takes, .ref o_leans, .ref o_would, .int vo_done, .int vo_seedNow, .int vo_keptTower, .int vo_keptPoured, .long vo_keptSpilt, .ref o_keptAmounts, .ref o_keptDrank, .ref o_keptTurns, .long vo_hash])), (o_rows, .inl (cI, 54, .inl vo_rows)), (o_amounts, .inl (cJ, 9, .inr (.inl vo_amounts))), (o_takes, .inl (cJ, 9, .inr (.inl vo_takes))), (o_leans, .inl (cI, 9, .inl vo_leans)), (o_would, .inl (cJ, 9, .inr (.inl vo_would)))] s.heap.size = A at hD ⊢
  have hA : ∀ q : Nat, s.heap.size ≤ q → A q := fun q h => by rw [← hAe]; exact Or.inr h
  have hS : va_S A s.heap s.heap [] := va_S.rf
  have hP : va_P (dC, dI) vwCl [(o, .inr (6, [.ref o_page, .int vo_pageMany, .int vo_readMany, .int vo_state, .int vo_readMost, .ref o_readRows, .int vo_glasses, .int vo_towersRead, .int vo_poured, .ref o_rows, .ref o_turns, .ref o_amounts, .ref o_drank, .long vo_spilt, .ref o_takes, .ref o_leans, .ref o_would, .int vo_done, .int vo_seedNow, .int vo_keptTower, .int vo_keptPoured, .long vo_keptSpilt, .ref o_keptAmounts, .ref o_keptDrank, .ref o_keptTurns, .long vo_hash])), (o_rows, .inl (cI, 54, .inl vo_rows)), (o_amounts, .inl (cJ, 9, .inr (.inl vo_amounts))), (o_takes, .inl (cJ, 9, .inr (.inl vo_takes))), (o_leans, .inl (cI, 9, .inl vo_leans)), (o_would, .inl (cJ, 9, .inr (.inl vo_would)))] s.heap := hP
  have hK : va_K (dC, dI) vwCl (zTy cI cJ cC) s := hK
  have hl := lv_entry ([.ref o, .int p1, .int p2]) (n := 10) (Nat.le_of_ble_eq_true rfl)
  rw [lg_entry_eq]
  generalize (lg_sl ([.ref o, .int p1, .int p2]) ++ List.replicate (10 - (lg_sl ([.ref o, .int p1, .int p2])).length) Slot.unset).toArray = ls at hl ⊢
  have hl : lv_has ls 10 [(0, .ref o), (1, .int p1), (2, .int p2)] := hl
  refine zz_start hP hS (fun Q hQ H locs hP hS => ?_)
  have hwX6 : ∀ w ∈ u_ws RX6 TX6 26, w ∈ wsX6_change := by decide +kernel
  have hc_137 := (hts (.constantLong RX6 137 (99)) (by decide +kernel))
  have hf_171 := (hts (.fieldLink RX6 171 "PouredTopmostModel" "done" "I") (by decide +kernel))
  have hf_97 := (hts (.fieldLink RX6 97 "PouredTopmostModel" "glasses" "I") (by decide +kernel))
  refine lv_aload_n hx hb dX6_change_0 rfl (lv_at hl 0 rfl) ?_
  obtain ⟨r1, ev_1⟩ : ∃ x0, (m_X6_lacks vo_glasses) = x0 := ⟨_, rfl⟩
  replace hT := cut_n ev_1 hT
  refine zz_ci [0] [1, 2, 3, 4, 5] (wr := [(o_rows, .inl (cI, 54, .inl vo_rows)), (o_amounts, .inl (cJ, 9, .inr (.inl vo_amounts))), (o_takes, .inl (cJ, 9, .inr (.inl vo_takes))), (o_leans, .inl (cI, 9, .inl vo_leans)), (o_would, .inl (cJ, 9, .inr (.inl vo_would)))]) (w1 := [(o, .inr (6, [.ref o_page, .int vo_pageMany, .int vo_readMany, .int vo_state, .int vo_readMost, .ref o_readRows, .int vo_glasses, .int vo_towersRead, .int vo_poured, .ref o_rows, .ref o_turns, .ref o_amounts, .ref o_drank, .long vo_spilt, .ref o_takes, .ref o_leans, .ref o_would, .int vo_done, .int vo_seedNow, .int vo_keptTower, .int vo_keptPoured, .long vo_keptSpilt, .ref o_keptAmounts, .ref o_keptDrank, .ref o_keptTurns, .long vo_hash]))]) (va_runV (As := []) (rest := []) ⟨hx, hb, hml, hown, hts⟩ (k_X6_lacks l dC dI cI cJ cC H.size o o_page o_readRows o_rows o_turns o_amounts o_drank o_takes o_leans o_would o_keptAmounts o_keptDrank o_keptTurns vo_pageMany vo_readMany vo_state vo_readMost vo_glasses vo_towersRead vo_poured vo_spilt vo_done vo_seedNow vo_keptTower vo_keptPoured vo_keptSpilt vo_hash r1 ev_1) (cwV 0 hts gX6_change_X6_lacks rfl rfl rfl (by decide +kernel) ⟨Nat.le_of_ble_eq_true rfl, Nat.le_of_ble_eq_true rfl⟩) (zz_preV [0] hK hP hD rfl rfl (va_recv hK hP (ci := 6) (q0 := 0) rfl rfl)) rfl rfl hl.1 rfl (lv_room (Nat.le_of_ble_eq_true rfl)) dX6_change_1 ⟨Nat.zero_le _, Nat.zero_le _⟩) hP hD hS hA rfl rfl rfl (by decide) (fun ok_2 H locs hP hD hS => ?_)
  have hP : va_P (dC, dI) vwCl [(o_rows, .inl (cI, 54, .inl vo_rows)), (o_amounts, .inl (cJ, 9, .inr (.inl vo_amounts))), (o_takes, .inl (cJ, 9, .inr (.inl vo_takes))), (o_leans, .inl (cI, 9, .inl vo_leans)), (o_would, .inl (cJ, 9, .inr (.inl vo_would))), (o, .inr (6, [.ref o_page, .int vo_pageMany, .int vo_readMany, .int vo_state, .int vo_readMost, .ref o_readRows, .int vo_glasses, .int vo_towersRead, .int vo_poured, .ref o_rows, .ref o_turns, .ref o_amounts, .ref o_drank, .long vo_spilt, .ref o_takes, .ref o_leans, .ref o_would, .int vo_done, .int vo_seedNow, .int vo_keptTower, .int vo_keptPoured, .long vo_keptSpilt, .ref o_keptAmounts, .ref o_keptDrank, .ref o_keptTurns, .long vo_hash]))] H := hP
  have hD : va_D A [(o_rows, .inl (cI, 54, .inl vo_rows)), (o_amounts, .inl (cJ, 9, .inr (.inl vo_amounts))), (o_takes, .inl (cJ, 9, .inr (.inl vo_takes))), (o_leans, .inl (cI, 9, .inl vo_leans)), (o_would, .inl (cJ, 9, .inr (.inl vo_would))), (o, .inr (6, [.ref o_page, .int vo_pageMany, .int vo_readMany, .int vo_state, .int vo_readMost, .ref o_readRows, .int vo_glasses, .int vo_towersRead, .int vo_poured, .ref o_rows, .ref o_turns, .ref o_amounts, .ref o_drank, .long vo_spilt, .ref o_takes, .ref o_leans, .ref o_would, .int vo_done, .int vo_seedNow, .int vo_keptTower, .int vo_keptPoured, .long vo_keptSpilt, .ref o_keptAmounts, .ref o_keptDrank, .ref o_keptTurns, .long vo_hash]))] := hD
  obtain ⟨k_3, k_4, k_5⟩ := ok_2
  refine lv_if_eq (tgt := 10) hx hb dX6_change_4 (by decide) (fun c_6 => ?_) (fun c_6 => ?_)
  · replace hT := cutT c_6 hT
    have g_31 := zeqT (rfl : (r1).toInt = _) (by decide : ((0 : Int32)).toInt = 0) c_6
    refine lv_iload_n hx hb dX6_change_10 rfl (lv_at hl 1 rfl) ?_
    refine lv_i2l (v := (p1.toInt64)) hx hb dX6_change_11 rfl ?_
    refine lv_lconst (v := (1 : Int64)) hx hb dX6_change_12 (by decide) ?_
    refine lv_ldc2 (v := (99 : Int64)) hx hb hown hc_137 dX6_change_13 ?_
    obtain ⟨r2, ev_7⟩ : ∃ x0, (m_X6_isIn (p1.toInt64) (1 : Int64) (99 : Int64)) = x0 := ⟨_, rfl⟩
    replace hT := cut_n ev_7 hT
    refine zz_ci [] [0, 1, 2, 3, 4, 5] (wr := [(o_rows, .inl (cI, 54, .inl vo_rows)), (o_amounts, .inl (cJ, 9, .inr (.inl vo_amounts))), (o_takes, .inl (cJ, 9, .inr (.inl vo_takes))), (o_leans, .inl (cI, 9, .inl vo_leans)), (o_would, .inl (cJ, 9, .inr (.inl vo_would))), (o, .inr (6, [.ref o_page, .int vo_pageMany, .int vo_readMany, .int vo_state, .int vo_readMost, .ref o_readRows, .int vo_glasses, .int vo_towersRead, .int vo_poured, .ref o_rows, .ref o_turns, .ref o_amounts, .ref o_drank, .long vo_spilt, .ref o_takes, .ref o_leans, .ref o_would, .int vo_done, .int vo_seedNow, .int vo_keptTower, .int vo_keptPoured, .long vo_keptSpilt, .ref o_keptAmounts, .ref o_keptDrank, .ref o_keptTurns, .long vo_hash]))]) (w1 := []) (va_runS (As := [.long (p1.toInt64), .long (1 : Int64), .long (99 : Int64)]) (rest := []) ⟨hx, hb, hml, hown, hts⟩ (k_X6_isIn l dC dI cI cJ cC H.size (p1.toInt64) (1 : Int64) (99 : Int64) r2 ev_7) (va_cwS 3 hts gX6_change_X6_isIn rfl rfl rfl (by decide +kernel) ⟨Nat.le_of_ble_eq_true rfl, Nat.le_of_ble_eq_true rfl⟩) (zz_preS [] hK hP hD rfl rfl) rfl rfl hl.1 rfl (lv_room (Nat.le_of_ble_eq_true rfl)) dX6_change_16 ⟨Nat.zero_le _, Nat.zero_le _⟩) hP hD hS hA rfl rfl rfl (by decide) (fun ok_8 H locs hP hD hS => ?_)
    have hP : va_P (dC, dI) vwCl [(o_rows, .inl (cI, 54, .inl vo_rows)), (o_amounts, .inl (cJ, 9, .inr (.inl vo_amounts))), (o_takes, .inl (cJ, 9, .inr (.inl vo_takes))), (o_leans, .inl (cI, 9, .inl vo_leans)), (o_would, .inl (cJ, 9, .inr (.inl vo_would))), (o, .inr (6, [.ref o_page, .int vo_pageMany, .int vo_readMany, .int vo_state, .int vo_readMost, .ref o_readRows, .int vo_glasses, .int vo_towersRead, .int vo_poured, .ref o_rows, .ref o_turns, .ref o_amounts, .ref o_drank, .long vo_spilt, .ref o_takes, .ref o_leans, .ref o_would, .int vo_done, .int vo_seedNow, .int vo_keptTower, .int vo_keptPoured, .long vo_keptSpilt, .ref o_keptAmounts, .ref o_keptDrank, .ref o_keptTurns, .long vo_hash]))] H := hP
    have hD : va_D A [(o_rows, .inl (cI, 54, .inl vo_rows)), (o_amounts, .inl (cJ, 9, .inr (.inl vo_amounts))), (o_takes, .inl (cJ, 9, .inr (.inl vo_takes))), (o_leans, .inl (cI, 9, .inl vo_leans)), (o_would, .inl (cJ, 9, .inr (.inl vo_would))), (o, .inr (6, [.ref o_page, .int vo_pageMany, .int vo_readMany, .int vo_state, .int vo_readMost, .ref o_readRows, .int vo_glasses, .int vo_towersRead, .int vo_poured, .ref o_rows, .ref o_turns, .ref o_amounts, .ref o_drank, .long vo_spilt, .ref o_takes, .ref o_leans, .ref o_would, .int vo_done, .int vo_seedNow, .int vo_keptTower, .int vo_keptPoured, .long vo_keptSpilt, .ref o_keptAmounts, .ref o_keptDrank, .ref o_keptTurns, .long vo_hash]))] := hD
    have hz_9 : ((p1.toInt64)).toInt = (p1).toInt := Int32.toInt_toInt64 _
    have hz_10 : ((1 : Int64)).toInt = 1 := by decide
    have hz_11 : ((99 : Int64)).toInt = 99 := by decide
    obtain ⟨k_12, k_13⟩ := ok_8
    refine lv_if_eq (tgt := 29) hx hb dX6_change_19 (by decide) (fun c_14 => ?_) (fun c_14 => ?_)
    · replace hT := cutT c_14 hT
      have g_32 := zeqT (rfl : (r2).toInt = _) (by decide : ((0 : Int32)).toInt = 0) c_14
      refine lv_bipush (v := (-102 : Int32)) hx hb dX6_change_29 (by decide) ?_
      have hP9 := hP
      have hD9 := hD
      have hS9 := hS
      have hT : ((-102 : Int32), vo_done, vo_takes, vo_leans, vo_would) = (r, qo_done, qo_takes, qo_leans, qo_would) := hT
      cases hT
      subst hQ
      exact zz_iret hx hb hr [5, 0, 1, 2, 3, 4] hK hP9 hD9 hS9 rfl rfl (by assumption) hlocks dX6_change_31
    · replace hT := cutF c_14 hT
      have g_33 := zeqF (rfl : (r2).toInt = _) (by decide : ((0 : Int32)).toInt = 0) c_14
      refine lv_iload_n hx hb dX6_change_22 rfl (lv_at hl 2 rfl) ?_
      obtain ⟨r3, ev_15⟩ : ∃ x0, (m_X6_isPart p2) = x0 := ⟨_, rfl⟩
      replace hT := cut_n ev_15 hT
      refine zz_ci [] [0, 1, 2, 3, 4, 5] (wr := [(o_rows, .inl (cI, 54, .inl vo_rows)), (o_amounts, .inl (cJ, 9, .inr (.inl vo_amounts))), (o_takes, .inl (cJ, 9, .inr (.inl vo_takes))), (o_leans, .inl (cI, 9, .inl vo_leans)), (o_would, .inl (cJ, 9, .inr (.inl vo_would))), (o, .inr (6, [.ref o_page, .int vo_pageMany, .int vo_readMany, .int vo_state, .int vo_readMost, .ref o_readRows, .int vo_glasses, .int vo_towersRead, .int vo_poured, .ref o_rows, .ref o_turns, .ref o_amounts, .ref o_drank, .long vo_spilt, .ref o_takes, .ref o_leans, .ref o_would, .int vo_done, .int vo_seedNow, .int vo_keptTower, .int vo_keptPoured, .long vo_keptSpilt, .ref o_keptAmounts, .ref o_keptDrank, .ref o_keptTurns, .long vo_hash]))]) (w1 := []) (va_runS (As := [.int p2]) (rest := []) ⟨hx, hb, hml, hown, hts⟩ (k_X6_isPart l dC dI cI cJ cC H.size p2 r3 ev_15) (va_cwS 1 hts gX6_change_X6_isPart rfl rfl rfl (by decide +kernel) ⟨Nat.le_of_ble_eq_true rfl, Nat.le_of_ble_eq_true rfl⟩) (zz_preS [] hK hP hD rfl rfl) rfl rfl hl.1 rfl (lv_room (Nat.le_of_ble_eq_true rfl)) dX6_change_23 ⟨Nat.zero_le _, Nat.zero_le _⟩) hP hD hS hA rfl rfl rfl (by decide) (fun ok_16 H locs hP hD hS => ?_)
      have hP : va_P (dC, dI) vwCl [(o_rows, .inl (cI, 54, .inl vo_rows)), (o_amounts, .inl (cJ, 9, .inr (.inl vo_amounts))), (o_takes, .inl (cJ, 9, .inr (.inl vo_takes))), (o_leans, .inl (cI, 9, .inl vo_leans)), (o_would, .inl (cJ, 9, .inr (.inl vo_would))), (o, .inr (6, [.ref o_page, .int vo_pageMany, .int vo_readMany, .int vo_state, .int vo_readMost, .ref o_readRows, .int vo_glasses, .int vo_towersRead, .int vo_poured, .ref o_rows, .ref o_turns, .ref o_amounts, .ref o_drank, .long vo_spilt, .ref o_takes, .ref o_leans, .ref o_would, .int vo_done, .int vo_seedNow, .int vo_keptTower, .int vo_keptPoured, .long vo_keptSpilt, .ref o_keptAmounts, .ref o_keptDrank, .ref o_keptTurns, .long vo_hash]))] H := hP
      have hD : va_D A [(o_rows, .inl (cI, 54, .inl vo_rows)), (o_amounts, .inl (cJ, 9, .inr (.inl vo_amounts))), (o_takes, .inl (cJ, 9, .inr (.inl vo_takes))), (o_leans, .inl (cI, 9, .inl vo_leans)), (o_would, .inl (cJ, 9, .inr (.inl vo_would))), (o, .inr (6, [.ref o_page, .int vo_pageMany, .int vo_readMany, .int vo_state, .int vo_readMost, .ref o_readRows, .int vo_glasses, .int vo_towersRead, .int vo_poured, .ref o_rows, .ref o_turns, .ref o_amounts, .ref o_drank, .long vo_spilt, .ref o_takes, .ref o_leans, .ref o_would, .int vo_done, .int vo_seedNow, .int vo_keptTower, .int vo_keptPoured, .long vo_keptSpilt, .ref o_keptAmounts, .ref o_keptDrank, .ref o_keptTurns, .long vo_hash]))] := hD
      refine lv_if_ne (tgt := 32) hx hb dX6_change_26 (by decide) (fun c_17 => ?_) (fun c_17 => ?_)
      · replace hT := cutF c_17 hT
        have g_34 := zeqF (rfl : (r3).toInt = _) (by decide : ((0 : Int32)).toInt = 0) c_17
        refine lv_aload_n hx hb dX6_change_32 rfl (lv_at hl 0 rfl) ?_
        refine va_get (D := (dC, dI)) (ci := 6) (v := .int vo_done) (C := RX6) (T := TX6) (N := 26) hx hb hts hwX6 hown hK hP 5 rfl rfl 17 (by decide) hf_171 (fun _ h9 => h9) rfl dX6_change_33 ?_
        refine lv_bipush (v := (30 : Int32)) hx hb dX6_change_36 (by decide) ?_
        refine lv_icmp_ne (tgt := 44) hx hb dX6_change_38 (by decide) (fun c_18 => ?_) (fun c_18 => ?_)
        · replace hT := cutF c_18 hT
          have g_35 := zeqF (rfl : (vo_done).toInt = _) (by decide : ((30 : Int32)).toInt = 30) c_18
          refine lv_aload_n hx hb dX6_change_44 rfl (lv_at hl 0 rfl) ?_
          refine lv_dup hx hb dX6_change_45 rfl ?_
          refine va_get (D := (dC, dI)) (ci := 6) (v := .int vo_done) (C := RX6) (T := TX6) (N := 26) hx hb hts hwX6 hown hK hP 5 rfl rfl 17 (by decide) hf_171 (fun _ h9 => h9) rfl dX6_change_46 ?_
          refine lv_iconst (v := (1 : Int32)) hx hb dX6_change_49 (by decide) ?_
          refine lv_iadd hx hb dX6_change_50 ?_
          refine lv_topi (fun v4 ev4 => ?_)
          replace hT := cut_n ev4.symm hT
          try have fv4 := zaddE (rfl : (vo_done).toInt = _) (by decide : ((1 : Int32)).toInt = 1) ev4.symm (by omega) (by omega)
          refine va_put (D := (dC, dI)) (ci := 6) (v := .int v4) (ty := .int) (C := RX6) (T := TX6) (N := 26) hx hb hts hwX6 tyX6 tyX6_ok nmX6 hown hK hP hD hS 5 rfl rfl 17 (by decide) hf_171 (fun _ h9 => h9) rfl (by decide +kernel) rfl rfl (Nat.le_of_ble_eq_true rfl) dX6_change_51 (fun H locs hP hD hS => ?_)
          have hP : va_P (dC, dI) vwCl [(o_rows, .inl (cI, 54, .inl vo_rows)), (o_amounts, .inl (cJ, 9, .inr (.inl vo_amounts))), (o_takes, .inl (cJ, 9, .inr (.inl vo_takes))), (o_leans, .inl (cI, 9, .inl vo_leans)), (o_would, .inl (cJ, 9, .inr (.inl vo_would))), (o, .inr (6, [.ref o_page, .int vo_pageMany, .int vo_readMany, .int vo_state, .int vo_readMost, .ref o_readRows, .int vo_glasses, .int vo_towersRead, .int vo_poured, .ref o_rows, .ref o_turns, .ref o_amounts, .ref o_drank, .long vo_spilt, .ref o_takes, .ref o_leans, .ref o_would, .int v4, .int vo_seedNow, .int vo_keptTower, .int vo_keptPoured, .long vo_keptSpilt, .ref o_keptAmounts, .ref o_keptDrank, .ref o_keptTurns, .long vo_hash]))] H := hP
          have hD : va_D A [(o_rows, .inl (cI, 54, .inl vo_rows)), (o_amounts, .inl (cJ, 9, .inr (.inl vo_amounts))), (o_takes, .inl (cJ, 9, .inr (.inl vo_takes))), (o_leans, .inl (cI, 9, .inl vo_leans)), (o_would, .inl (cJ, 9, .inr (.inl vo_would))), (o, .inr (6, [.ref o_page, .int vo_pageMany, .int vo_readMany, .int vo_state, .int vo_readMost, .ref o_readRows, .int vo_glasses, .int vo_towersRead, .int vo_poured, .ref o_rows, .ref o_turns, .ref o_amounts, .ref o_drank, .long vo_spilt, .ref o_takes, .ref o_leans, .ref o_would, .int v4, .int vo_seedNow, .int vo_keptTower, .int vo_keptPoured, .long vo_keptSpilt, .ref o_keptAmounts, .ref o_keptDrank, .ref o_keptTurns, .long vo_hash]))] := hD
          refine lv_aload_n hx hb dX6_change_54 rfl (lv_at hl 0 rfl) ?_
          refine lv_iconst (v := (0 : Int32)) hx hb dX6_change_55 (by decide) ?_
          refine lv_iconst (v := (0 : Int32)) hx hb dX6_change_56 (by decide) ?_
          refine lv_iload_n hx hb dX6_change_57 rfl (lv_at hl 1 rfl) ?_
          obtain ⟨r5, u6, u7, u8, ev_19⟩ : ∃ x0 x1 x2 x3, (m_X6_spiltBy vo_glasses vo_rows vo_amounts vo_takes vo_leans vo_would (0 : Int32) (0 : Int32) p1) = (x0, x1, x2, x3) := ⟨_, _, _, _, rfl⟩
          replace hT := cut4_n ev_19 hT
          refine zz_cl [5, 0, 1, 2, 3, 4] [] (wr := []) (w1 := [(o, .inr (6, [.ref o_page, .int vo_pageMany, .int vo_readMany, .int vo_state, .int vo_readMost, .ref o_readRows, .int vo_glasses, .int vo_towersRead, .int vo_poured, .ref o_rows, .ref o_turns, .ref o_amounts, .ref o_drank, .long vo_spilt, .ref o_takes, .ref o_leans, .ref o_would, .int v4, .int vo_seedNow, .int vo_keptTower, .int vo_keptPoured, .long vo_keptSpilt, .ref o_keptAmounts, .ref o_keptDrank, .ref o_keptTurns, .long vo_hash])), (o_rows, .inl (cI, 54, .inl vo_rows)), (o_amounts, .inl (cJ, 9, .inr (.inl vo_amounts))), (o_takes, .inl (cJ, 9, .inr (.inl u6))), (o_leans, .inl (cI, 9, .inl u7)), (o_would, .inl (cJ, 9, .inr (.inl u8)))]) (va_runV (As := [.int (0 : Int32), .int (0 : Int32), .int p1]) (rest := []) ⟨hx, hb, hml, hown, hts⟩ (k_X6_spiltBy l dC dI cI cJ cC H.size o o_page o_readRows o_rows o_turns o_amounts o_drank o_takes o_leans o_would o_keptAmounts o_keptDrank o_keptTurns vo_pageMany vo_readMany vo_state vo_readMost vo_glasses vo_towersRead vo_poured vo_spilt v4 vo_seedNow vo_keptTower vo_keptPoured vo_keptSpilt vo_hash vo_rows vo_amounts vo_takes vo_leans vo_would (0 : Int32) (0 : Int32) p1 r5 u6 u7 u8 ev_19 hg0 hg9 hrw hln (by first | omega | decide) (by first | omega | decide) (by first | omega | decide) (by first | omega | decide)) (cwV 3 hts gX6_change_X6_spiltBy rfl rfl rfl (by decide +kernel) ⟨Nat.le_of_ble_eq_true rfl, Nat.le_of_ble_eq_true rfl⟩) (zz_preV [5, 0, 1, 2, 3, 4] hK hP hD rfl rfl (va_recv hK hP (ci := 6) (q0 := 5) rfl rfl)) rfl rfl hl.1 rfl (lv_room (Nat.le_of_ble_eq_true rfl)) dX6_change_58 ⟨Nat.zero_le _, Nat.zero_le _⟩) hP hD hS hA rfl rfl rfl (by decide) (fun ok_20 H locs hP hD hS => ?_)
          have hP : va_P (dC, dI) vwCl [(o, .inr (6, [.ref o_page, .int vo_pageMany, .int vo_readMany, .int vo_state, .int vo_readMost, .ref o_readRows, .int vo_glasses, .int vo_towersRead, .int vo_poured, .ref o_rows, .ref o_turns, .ref o_amounts, .ref o_drank, .long vo_spilt, .ref o_takes, .ref o_leans, .ref o_would, .int v4, .int vo_seedNow, .int vo_keptTower, .int vo_keptPoured, .long vo_keptSpilt, .ref o_keptAmounts, .ref o_keptDrank, .ref o_keptTurns, .long vo_hash])), (o_rows, .inl (cI, 54, .inl vo_rows)), (o_amounts, .inl (cJ, 9, .inr (.inl vo_amounts))), (o_takes, .inl (cJ, 9, .inr (.inl u6))), (o_leans, .inl (cI, 9, .inl u7)), (o_would, .inl (cJ, 9, .inr (.inl u8)))] H := hP
          have hD : va_D A [(o, .inr (6, [.ref o_page, .int vo_pageMany, .int vo_readMany, .int vo_state, .int vo_readMost, .ref o_readRows, .int vo_glasses, .int vo_towersRead, .int vo_poured, .ref o_rows, .ref o_turns, .ref o_amounts, .ref o_drank, .long vo_spilt, .ref o_takes, .ref o_leans, .ref o_would, .int v4, .int vo_seedNow, .int vo_keptTower, .int vo_keptPoured, .long vo_keptSpilt, .ref o_keptAmounts, .ref o_keptDrank, .ref o_keptTurns, .long vo_hash])), (o_rows, .inl (cI, 54, .inl vo_rows)), (o_amounts, .inl (cJ, 9, .inr (.inl vo_amounts))), (o_takes, .inl (cJ, 9, .inr (.inl u6))), (o_leans, .inl (cI, 9, .inl u7)), (o_would, .inl (cJ, 9, .inr (.inl u8)))] := hD
          refine lv_lstore_n (lv' := [(3, .long r5), (0, .ref o), (1, .int p1), (2, .int p2)]) hx hb dX6_change_61 rfl hl (by decide) rfl (fun ls hl => ?_)
          refine lv_iconst (v := (-1 : Int32)) hx hb dX6_change_62 (by decide) ?_
          refine lv_istore (lv' := [(5, .int (-1 : Int32)), (3, .long r5), (0, .ref o), (1, .int p1), (2, .int p2)]) hx hb dX6_change_63 hl (by decide) rfl (fun ls hl => ?_)
          refine lv_iconst (v := (0 : Int32)) hx hb dX6_change_65 (by decide) ?_
          refine lv_istore (lv' := [(6, .int (0 : Int32)), (5, .int (-1 : Int32)), (3, .long r5), (0, .ref o), (1, .int p1), (2, .int p2)]) hx hb dX6_change_66 hl (by decide) rfl (fun ls hl => ?_)
          have hz_36 : ((0 : Int32)).toInt = 0 := by decide
          have hz_37 : ((-1 : Int32)).toInt = -1 := by decide
          refine zz_loop (α := Int32 × Int32 × Int64 × (Nat → Int64) × (Nat → Int32) × (Nat → Int64)) 151 (fun k a H locs ls => (0 ≤ a.1.toInt) ∧ (a.1.toInt ≤ vo_glasses.toInt) ∧ (zLn a.2.2.2.2.1) ∧ (vo_glasses.toInt - a.1.toInt < ((k : Nat) : Int)) ∧ lp_X6_change_5 vo_glasses (rs_X6_change_5 v4 p2) vo_rows vo_amounts p1 k a.1 a.2.1 a.2.2.1 a.2.2.2.1 a.2.2.2.2.1 a.2.2.2.2.2 = (r, qo_done, qo_takes, qo_leans, qo_would) ∧ va_P (dC, dI) vwCl [(o, .inr (6, [.ref o_page, .int vo_pageMany, .int vo_readMany, .int vo_state, .int vo_readMost, .ref o_readRows, .int vo_glasses, .int vo_towersRead, .int vo_poured, .ref o_rows, .ref o_turns, .ref o_amounts, .ref o_drank, .long vo_spilt, .ref o_takes, .ref o_leans, .ref o_would, .int v4, .int vo_seedNow, .int vo_keptTower, .int vo_keptPoured, .long vo_keptSpilt, .ref o_keptAmounts, .ref o_keptDrank, .ref o_keptTurns, .long vo_hash])), (o_rows, .inl (cI, 54, .inl vo_rows)), (o_amounts, .inl (cJ, 9, .inr (.inl vo_amounts))), (o_takes, .inl (cJ, 9, .inr (.inl a.2.2.2.1))), (o_leans, .inl (cI, 9, .inl a.2.2.2.2.1)), (o_would, .inl (cJ, 9, .inr (.inl a.2.2.2.2.2)))] H ∧ va_D A [(o, .inr (6, [.ref o_page, .int vo_pageMany, .int vo_readMany, .int vo_state, .int vo_readMost, .ref o_readRows, .int vo_glasses, .int vo_towersRead, .int vo_poured, .ref o_rows, .ref o_turns, .ref o_amounts, .ref o_drank, .long vo_spilt, .ref o_takes, .ref o_leans, .ref o_would, .int v4, .int vo_seedNow, .int vo_keptTower, .int vo_keptPoured, .long vo_keptSpilt, .ref o_keptAmounts, .ref o_keptDrank, .ref o_keptTurns, .long vo_hash])), (o_rows, .inl (cI, 54, .inl vo_rows)), (o_amounts, .inl (cJ, 9, .inr (.inl vo_amounts))), (o_takes, .inl (cJ, 9, .inr (.inl a.2.2.2.1))), (o_leans, .inl (cI, 9, .inl a.2.2.2.2.1)), (o_would, .inl (cJ, 9, .inr (.inl a.2.2.2.2.2)))] ∧ va_S A s.heap H locs ∧ lv_has ls 10 [(6, .int a.1), (5, .int a.2.1), (3, .long a.2.2.1), (0, .ref o), (1, .int p1), (2, .int p2)]) (fun a H locs ls => (0 ≤ a.1.toInt) ∧ (a.1.toInt ≤ vo_glasses.toInt) ∧ (zLn a.2.2.2.2.1) ∧ (rs_X6_change_5 v4 p2) a.1 a.2.1 a.2.2.1 a.2.2.2.1 a.2.2.2.2.1 a.2.2.2.2.2 = (r, qo_done, qo_takes, qo_leans, qo_would) ∧ va_P (dC, dI) vwCl [(o, .inr (6, [.ref o_page, .int vo_pageMany, .int vo_readMany, .int vo_state, .int vo_readMost, .ref o_readRows, .int vo_glasses, .int vo_towersRead, .int vo_poured, .ref o_rows, .ref o_turns, .ref o_amounts, .ref o_drank, .long vo_spilt, .ref o_takes, .ref o_leans, .ref o_would, .int v4, .int vo_seedNow, .int vo_keptTower, .int vo_keptPoured, .long vo_keptSpilt, .ref o_keptAmounts, .ref o_keptDrank, .ref o_keptTurns, .long vo_hash])), (o_rows, .inl (cI, 54, .inl vo_rows)), (o_amounts, .inl (cJ, 9, .inr (.inl vo_amounts))), (o_takes, .inl (cJ, 9, .inr (.inl a.2.2.2.1))), (o_leans, .inl (cI, 9, .inl a.2.2.2.2.1)), (o_would, .inl (cJ, 9, .inr (.inl a.2.2.2.2.2)))] H ∧ va_D A [(o, .inr (6, [.ref o_page, .int vo_pageMany, .int vo_readMany, .int vo_state, .int vo_readMost, .ref o_readRows, .int vo_glasses, .int vo_towersRead, .int vo_poured, .ref o_rows, .ref o_turns, .ref o_amounts, .ref o_drank, .long vo_spilt, .ref o_takes, .ref o_leans, .ref o_would, .int v4, .int vo_seedNow, .int vo_keptTower, .int vo_keptPoured, .long vo_keptSpilt, .ref o_keptAmounts, .ref o_keptDrank, .ref o_keptTurns, .long vo_hash])), (o_rows, .inl (cI, 54, .inl vo_rows)), (o_amounts, .inl (cJ, 9, .inr (.inl vo_amounts))), (o_takes, .inl (cJ, 9, .inr (.inl a.2.2.2.1))), (o_leans, .inl (cI, 9, .inl a.2.2.2.2.1)), (o_would, .inl (cJ, 9, .inr (.inl a.2.2.2.2.2)))] ∧ va_S A s.heap H locs ∧ lv_has ls 10 [(5, .int a.2.1), (2, .int p2)]) ?_ ?_ ?_ 11 ((0 : Int32), (-1 : Int32), r5, u6, u7, u8) ⟨(by omega : 0 ≤ (0 : Int32).toInt), (by omega : (0 : Int32).toInt ≤ vo_glasses.toInt), (by assumption : zLn u7), (by omega : vo_glasses.toInt - (0 : Int32).toInt < ((11 : Nat) : Int)), hT, hP.sub [0, 1, 2, 3, 4, 5] rfl, hD.sub [0, 1, 2, 3, 4, 5] rfl rfl, hS, lv_sub hl [0, 1, 2, 3, 4, 5] rfl⟩
          · rintro ⟨x15, x16, x17, x18, x19, x20⟩ H locs ls ⟨i1, j1, hy1, hT, hP, hD, hS, hl⟩
            have hP : va_P (dC, dI) vwCl [(o, .inr (6, [.ref o_page, .int vo_pageMany, .int vo_readMany, .int vo_state, .int vo_readMost, .ref o_readRows, .int vo_glasses, .int vo_towersRead, .int vo_poured, .ref o_rows, .ref o_turns, .ref o_amounts, .ref o_drank, .long vo_spilt, .ref o_takes, .ref o_leans, .ref o_would, .int v4, .int vo_seedNow, .int vo_keptTower, .int vo_keptPoured, .long vo_keptSpilt, .ref o_keptAmounts, .ref o_keptDrank, .ref o_keptTurns, .long vo_hash])), (o_rows, .inl (cI, 54, .inl vo_rows)), (o_amounts, .inl (cJ, 9, .inr (.inl vo_amounts))), (o_takes, .inl (cJ, 9, .inr (.inl x18))), (o_leans, .inl (cI, 9, .inl x19)), (o_would, .inl (cJ, 9, .inr (.inl x20)))] H := hP
            have hD : va_D A [(o, .inr (6, [.ref o_page, .int vo_pageMany, .int vo_readMany, .int vo_state, .int vo_readMost, .ref o_readRows, .int vo_glasses, .int vo_towersRead, .int vo_poured, .ref o_rows, .ref o_turns, .ref o_amounts, .ref o_drank, .long vo_spilt, .ref o_takes, .ref o_leans, .ref o_would, .int v4, .int vo_seedNow, .int vo_keptTower, .int vo_keptPoured, .long vo_keptSpilt, .ref o_keptAmounts, .ref o_keptDrank, .ref o_keptTurns, .long vo_hash])), (o_rows, .inl (cI, 54, .inl vo_rows)), (o_amounts, .inl (cJ, 9, .inr (.inl vo_amounts))), (o_takes, .inl (cJ, 9, .inr (.inl x18))), (o_leans, .inl (cI, 9, .inl x19)), (o_would, .inl (cJ, 9, .inr (.inl x20)))] := hD
            have hl : lv_has ls 10 [(5, .int x16), (2, .int p2)] := hl
            have hT : (rs_X6_change_5 v4 p2) x15 x16 x17 x18 x19 x20 = (r, qo_done, qo_takes, qo_leans, qo_would) := hT
            have i1 : 0 ≤ x15.toInt := i1
            have j1 : x15.toInt ≤ vo_glasses.toInt := j1
            have hy1 : zLn x19 := hy1
            refine lv_iload hx hb dX6_change_151 (lv_at hl 0 rfl) ?_
            refine lv_iconst (v := (-1 : Int32)) hx hb dX6_change_153 (by decide) ?_
            refine lv_icmp_ne (tgt := 161) hx hb dX6_change_154 (by decide) (fun c_27 => ?_) (fun c_27 => ?_)
            · replace hT := cutF c_27 hT
              have g_38 := zeqF (rfl : (x16).toInt = _) (by decide : ((-1 : Int32)).toInt = -1) c_27
              refine lv_iload_n hx hb dX6_change_161 rfl (lv_at hl 1 rfl) ?_
              refine lv_if_ne (tgt := 173) hx hb dX6_change_162 (by decide) (fun c_28 => ?_) (fun c_28 => ?_)
              · replace hT := cutF c_28 hT
                have g_39 := zeqF (rfl : (p2).toInt = _) (by decide : ((0 : Int32)).toInt = 0) c_28
                refine lv_iload hx hb dX6_change_173 (lv_at hl 0 rfl) ?_
                refine lv_bipush (v := (9 : Int32)) hx hb dX6_change_175 (by decide) ?_
                have h_29 : ¬ (9 : Int32) = 0 := by decide
                refine lv_irem hx hb dX6_change_177 h_29 ?_
                have hP9 := hP
                have hD9 := hD
                have hS9 := hS
                have hT : ((x16 - x16 / (9 : Int32) * (9 : Int32)), v4, x18, x19, x20) = (r, qo_done, qo_takes, qo_leans, qo_would) := hT
                cases hT
                subst hQ
                exact zz_iret hx hb hr [0, 1, 2, 3, 4, 5] hK hP9 hD9 hS9 rfl rfl (by assumption) hlocks dX6_change_178
              · replace hT := cutT c_28 hT
                have g_40 := zeqT (rfl : (p2).toInt = _) (by decide : ((0 : Int32)).toInt = 0) c_28
                refine lv_iload hx hb dX6_change_165 (lv_at hl 0 rfl) ?_
                refine lv_bipush (v := (9 : Int32)) hx hb dX6_change_167 (by decide) ?_
                have h_30 : ¬ (9 : Int32) = 0 := by decide
                refine lv_idiv hx hb dX6_change_169 h_30 ?_
                refine lv_goto (tgt := 178) hx hb dX6_change_170 (by decide) ?_
                have hP9 := hP
                have hD9 := hD
                have hS9 := hS
                have hT : ((x16 / (9 : Int32)), v4, x18, x19, x20) = (r, qo_done, qo_takes, qo_leans, qo_would) := hT
                cases hT
                subst hQ
                exact zz_iret hx hb hr [0, 1, 2, 3, 4, 5] hK hP9 hD9 hS9 rfl rfl (by assumption) hlocks dX6_change_178
            · replace hT := cutT c_27 hT
              have g_41 := zeqT (rfl : (x16).toInt = _) (by decide : ((-1 : Int32)).toInt = -1) c_27
              refine lv_iconst (v := (-1 : Int32)) hx hb dX6_change_157 (by decide) ?_
              refine lv_goto (tgt := 178) hx hb dX6_change_158 (by decide) ?_
              have hP9 := hP
              have hD9 := hD
              have hS9 := hS
              have hT : ((-1 : Int32), v4, x18, x19, x20) = (r, qo_done, qo_takes, qo_leans, qo_would) := hT
              cases hT
              subst hQ
              exact zz_iret hx hb hr [0, 1, 2, 3, 4, 5] hK hP9 hD9 hS9 rfl rfl (by assumption) hlocks dX6_change_178
          · rintro ⟨b9, b10, b11, b12, b13, b14⟩ H locs ls ⟨i1, j1, hy1, hm, -⟩
            try dsimp only at *
            omega
          · intro k5 hex5 ih5
            rintro ⟨b9, b10, b11, b12, b13, b14⟩ H locs ls ⟨i1, j1, hy1, hm5, hT, hP, hD, hS, hl⟩
            have hP : va_P (dC, dI) vwCl [(o, .inr (6, [.ref o_page, .int vo_pageMany, .int vo_readMany, .int vo_state, .int vo_readMost, .ref o_readRows, .int vo_glasses, .int vo_towersRead, .int vo_poured, .ref o_rows, .ref o_turns, .ref o_amounts, .ref o_drank, .long vo_spilt, .ref o_takes, .ref o_leans, .ref o_would, .int v4, .int vo_seedNow, .int vo_keptTower, .int vo_keptPoured, .long vo_keptSpilt, .ref o_keptAmounts, .ref o_keptDrank, .ref o_keptTurns, .long vo_hash])), (o_rows, .inl (cI, 54, .inl vo_rows)), (o_amounts, .inl (cJ, 9, .inr (.inl vo_amounts))), (o_takes, .inl (cJ, 9, .inr (.inl b12))), (o_leans, .inl (cI, 9, .inl b13)), (o_would, .inl (cJ, 9, .inr (.inl b14)))] H := hP
            have hD : va_D A [(o, .inr (6, [.ref o_page, .int vo_pageMany, .int vo_readMany, .int vo_state, .int vo_readMost, .ref o_readRows, .int vo_glasses, .int vo_towersRead, .int vo_poured, .ref o_rows, .ref o_turns, .ref o_amounts, .ref o_drank, .long vo_spilt, .ref o_takes, .ref o_leans, .ref o_would, .int v4, .int vo_seedNow, .int vo_keptTower, .int vo_keptPoured, .long vo_keptSpilt, .ref o_keptAmounts, .ref o_keptDrank, .ref o_keptTurns, .long vo_hash])), (o_rows, .inl (cI, 54, .inl vo_rows)), (o_amounts, .inl (cJ, 9, .inr (.inl vo_amounts))), (o_takes, .inl (cJ, 9, .inr (.inl b12))), (o_leans, .inl (cI, 9, .inl b13)), (o_would, .inl (cJ, 9, .inr (.inl b14)))] := hD
            have hl : lv_has ls 10 [(6, .int b9), (5, .int b10), (3, .long b11), (0, .ref o), (1, .int p1), (2, .int p2)] := hl
            have hT : lp_X6_change_5 vo_glasses (rs_X6_change_5 v4 p2) vo_rows vo_amounts p1 (k5 + 1) b9 b10 b11 b12 b13 b14 = (r, qo_done, qo_takes, qo_leans, qo_would) := hT
            have i1 : 0 ≤ b9.toInt := i1
            have j1 : b9.toInt ≤ vo_glasses.toInt := j1
            have hy1 : zLn b13 := hy1
            have hm5 : vo_glasses.toInt - b9.toInt < (((k5 + 1) : Nat) : Int) := hm5
            try simp only [Int.natCast_add, Int.natCast_one, Nat.cast_add, Nat.cast_one] at hm5
            refine lv_iload hx hb dX6_change_68 (lv_at hl 0 rfl) ?_
            refine lv_aload_n hx hb dX6_change_70 rfl (lv_at hl 3 rfl) ?_
            refine va_get (D := (dC, dI)) (ci := 6) (v := .int vo_glasses) (C := RX6) (T := TX6) (N := 26) hx hb hts hwX6 hown hK hP 0 rfl rfl 6 (by decide) hf_97 (fun _ h9 => h9) rfl dX6_change_71 ?_
            refine lv_icmp_ge (tgt := 151) hx hb dX6_change_74 (by decide) (fun c_21 => ?_) (fun c_21 => ?_)
            · replace hT := cutT c_21 hT
              have g_42 := zleT (rfl : (vo_glasses).toInt = _) (rfl : (b9).toInt = _) c_21
              exact hex5 (b9, b10, b11, b12, b13, b14) _ _ _ ⟨(by omega : 0 ≤ b9.toInt), (by omega : b9.toInt ≤ vo_glasses.toInt), (by assumption : zLn b13), hT, hP.sub [0, 1, 2, 3, 4, 5] rfl, hD.sub [0, 1, 2, 3, 4, 5] rfl rfl, hS, lv_sub hl [1, 5] rfl⟩
            · replace hT := cutF c_21 hT
              have g_43 := zleF (rfl : (vo_glasses).toInt = _) (rfl : (b9).toInt = _) c_21
              refine lv_iload hx hb dX6_change_77 (lv_at hl 0 rfl) ?_
              refine lv_iconst (v := (1 : Int32)) hx hb dX6_change_79 (by decide) ?_
              refine lv_iadd hx hb dX6_change_80 ?_
              refine lv_topi (fun v21 ev21 => ?_)
              replace hT := cut_n ev21.symm hT
              try have fv21 := zaddE (rfl : (b9).toInt = _) (by decide : ((1 : Int32)).toInt = 1) ev21.symm (by omega) (by omega)
              refine lv_istore (lv' := [(7, .int v21), (6, .int b9), (5, .int b10), (3, .long b11), (0, .ref o), (1, .int p1), (2, .int p2)]) hx hb dX6_change_81 hl (by decide) rfl (fun ls hl => ?_)
              refine zz_loop (α := Int32 × Int32 × Int64 × (Nat → Int64) × (Nat → Int32) × (Nat → Int64)) 145 (fun k a H locs ls => (0 ≤ a.1.toInt) ∧ (a.1.toInt ≤ vo_glasses.toInt) ∧ (zLn a.2.2.2.2.1) ∧ (vo_glasses.toInt - a.1.toInt < ((k : Nat) : Int)) ∧ lp_X6_change_6 vo_glasses (rs_X6_change_6 b9 (fun c0 c1 c2 c3 c4 c5 => lp_X6_change_5 vo_glasses (rs_X6_change_5 v4 p2) vo_rows vo_amounts p1 k5 c0 c1 c2 c3 c4 c5)) vo_rows vo_amounts b9 p1 k a.1 a.2.1 a.2.2.1 a.2.2.2.1 a.2.2.2.2.1 a.2.2.2.2.2 = (r, qo_done, qo_takes, qo_leans, qo_would) ∧ va_P (dC, dI) vwCl [(o, .inr (6, [.ref o_page, .int vo_pageMany, .int vo_readMany, .int vo_state, .int vo_readMost, .ref o_readRows, .int vo_glasses, .int vo_towersRead, .int vo_poured, .ref o_rows, .ref o_turns, .ref o_amounts, .ref o_drank, .long vo_spilt, .ref o_takes, .ref o_leans, .ref o_would, .int v4, .int vo_seedNow, .int vo_keptTower, .int vo_keptPoured, .long vo_keptSpilt, .ref o_keptAmounts, .ref o_keptDrank, .ref o_keptTurns, .long vo_hash])), (o_rows, .inl (cI, 54, .inl vo_rows)), (o_amounts, .inl (cJ, 9, .inr (.inl vo_amounts))), (o_takes, .inl (cJ, 9, .inr (.inl a.2.2.2.1))), (o_leans, .inl (cI, 9, .inl a.2.2.2.2.1)), (o_would, .inl (cJ, 9, .inr (.inl a.2.2.2.2.2)))] H ∧ va_D A [(o, .inr (6, [.ref o_page, .int vo_pageMany, .int vo_readMany, .int vo_state, .int vo_readMost, .ref o_readRows, .int vo_glasses, .int vo_towersRead, .int vo_poured, .ref o_rows, .ref o_turns, .ref o_amounts, .ref o_drank, .long vo_spilt, .ref o_takes, .ref o_leans, .ref o_would, .int v4, .int vo_seedNow, .int vo_keptTower, .int vo_keptPoured, .long vo_keptSpilt, .ref o_keptAmounts, .ref o_keptDrank, .ref o_keptTurns, .long vo_hash])), (o_rows, .inl (cI, 54, .inl vo_rows)), (o_amounts, .inl (cJ, 9, .inr (.inl vo_amounts))), (o_takes, .inl (cJ, 9, .inr (.inl a.2.2.2.1))), (o_leans, .inl (cI, 9, .inl a.2.2.2.2.1)), (o_would, .inl (cJ, 9, .inr (.inl a.2.2.2.2.2)))] ∧ va_S A s.heap H locs ∧ lv_has ls 10 [(7, .int a.1), (6, .int b9), (5, .int a.2.1), (3, .long a.2.2.1), (0, .ref o), (1, .int p1), (2, .int p2)]) (fun a H locs ls => (0 ≤ a.1.toInt) ∧ (a.1.toInt ≤ vo_glasses.toInt) ∧ (zLn a.2.2.2.2.1) ∧ (rs_X6_change_6 b9 (fun c0 c1 c2 c3 c4 c5 => lp_X6_change_5 vo_glasses (rs_X6_change_5 v4 p2) vo_rows vo_amounts p1 k5 c0 c1 c2 c3 c4 c5)) a.1 a.2.1 a.2.2.1 a.2.2.2.1 a.2.2.2.2.1 a.2.2.2.2.2 = (r, qo_done, qo_takes, qo_leans, qo_would) ∧ va_P (dC, dI) vwCl [(o, .inr (6, [.ref o_page, .int vo_pageMany, .int vo_readMany, .int vo_state, .int vo_readMost, .ref o_readRows, .int vo_glasses, .int vo_towersRead, .int vo_poured, .ref o_rows, .ref o_turns, .ref o_amounts, .ref o_drank, .long vo_spilt, .ref o_takes, .ref o_leans, .ref o_would, .int v4, .int vo_seedNow, .int vo_keptTower, .int vo_keptPoured, .long vo_keptSpilt, .ref o_keptAmounts, .ref o_keptDrank, .ref o_keptTurns, .long vo_hash])), (o_rows, .inl (cI, 54, .inl vo_rows)), (o_amounts, .inl (cJ, 9, .inr (.inl vo_amounts))), (o_takes, .inl (cJ, 9, .inr (.inl a.2.2.2.1))), (o_leans, .inl (cI, 9, .inl a.2.2.2.2.1)), (o_would, .inl (cJ, 9, .inr (.inl a.2.2.2.2.2)))] H ∧ va_D A [(o, .inr (6, [.ref o_page, .int vo_pageMany, .int vo_readMany, .int vo_state, .int vo_readMost, .ref o_readRows, .int vo_glasses, .int vo_towersRead, .int vo_poured, .ref o_rows, .ref o_turns, .ref o_amounts, .ref o_drank, .long vo_spilt, .ref o_takes, .ref o_leans, .ref o_would, .int v4, .int vo_seedNow, .int vo_keptTower, .int vo_keptPoured, .long vo_keptSpilt, .ref o_keptAmounts, .ref o_keptDrank, .ref o_keptTurns, .long vo_hash])), (o_rows, .inl (cI, 54, .inl vo_rows)), (o_amounts, .inl (cJ, 9, .inr (.inl vo_amounts))), (o_takes, .inl (cJ, 9, .inr (.inl a.2.2.2.1))), (o_leans, .inl (cI, 9, .inl a.2.2.2.2.1)), (o_would, .inl (cJ, 9, .inr (.inl a.2.2.2.2.2)))] ∧ va_S A s.heap H locs ∧ lv_has ls 10 [(6, .int b9), (5, .int a.2.1), (3, .long a.2.2.1), (0, .ref o), (1, .int p1), (2, .int p2)]) ?_ ?_ ?_ 11 (v21, b10, b11, b12, b13, b14) ⟨(by omega : 0 ≤ v21.toInt), (by omega : v21.toInt ≤ vo_glasses.toInt), (by assumption : zLn b13), (by omega : vo_glasses.toInt - v21.toInt < ((11 : Nat) : Int)), hT, hP.sub [0, 1, 2, 3, 4, 5] rfl, hD.sub [0, 1, 2, 3, 4, 5] rfl rfl, hS, lv_sub hl [0, 1, 2, 3, 4, 5, 6] rfl⟩
              · rintro ⟨x28, x29, x30, x31, x32, x33⟩ H locs ls ⟨i2, j2, hy2, hT, hP, hD, hS, hl⟩
                have hP : va_P (dC, dI) vwCl [(o, .inr (6, [.ref o_page, .int vo_pageMany, .int vo_readMany, .int vo_state, .int vo_readMost, .ref o_readRows, .int vo_glasses, .int vo_towersRead, .int vo_poured, .ref o_rows, .ref o_turns, .ref o_amounts, .ref o_drank, .long vo_spilt, .ref o_takes, .ref o_leans, .ref o_would, .int v4, .int vo_seedNow, .int vo_keptTower, .int vo_keptPoured, .long vo_keptSpilt, .ref o_keptAmounts, .ref o_keptDrank, .ref o_keptTurns, .long vo_hash])), (o_rows, .inl (cI, 54, .inl vo_rows)), (o_amounts, .inl (cJ, 9, .inr (.inl vo_amounts))), (o_takes, .inl (cJ, 9, .inr (.inl x31))), (o_leans, .inl (cI, 9, .inl x32)), (o_would, .inl (cJ, 9, .inr (.inl x33)))] H := hP
                have hD : va_D A [(o, .inr (6, [.ref o_page, .int vo_pageMany, .int vo_readMany, .int vo_state, .int vo_readMost, .ref o_readRows, .int vo_glasses, .int vo_towersRead, .int vo_poured, .ref o_rows, .ref o_turns, .ref o_amounts, .ref o_drank, .long vo_spilt, .ref o_takes, .ref o_leans, .ref o_would, .int v4, .int vo_seedNow, .int vo_keptTower, .int vo_keptPoured, .long vo_keptSpilt, .ref o_keptAmounts, .ref o_keptDrank, .ref o_keptTurns, .long vo_hash])), (o_rows, .inl (cI, 54, .inl vo_rows)), (o_amounts, .inl (cJ, 9, .inr (.inl vo_amounts))), (o_takes, .inl (cJ, 9, .inr (.inl x31))), (o_leans, .inl (cI, 9, .inl x32)), (o_would, .inl (cJ, 9, .inr (.inl x33)))] := hD
                have hl : lv_has ls 10 [(6, .int b9), (5, .int x29), (3, .long x30), (0, .ref o), (1, .int p1), (2, .int p2)] := hl
                have hT : (rs_X6_change_6 b9 (fun c0 c1 c2 c3 c4 c5 => lp_X6_change_5 vo_glasses (rs_X6_change_5 v4 p2) vo_rows vo_amounts p1 k5 c0 c1 c2 c3 c4 c5)) x28 x29 x30 x31 x32 x33 = (r, qo_done, qo_takes, qo_leans, qo_would) := hT
                have i2 : 0 ≤ x28.toInt := i2
                have j2 : x28.toInt ≤ vo_glasses.toInt := j2
                have hy2 : zLn x32 := hy2
                obtain ⟨v41, ev41⟩ : ∃ y : Int32, (b9 + (1 : Int32)) = y := ⟨_, rfl⟩
                replace hT := cut_n ev41 hT
                try have fv41 := zaddE (rfl : (b9).toInt = _) (by decide : ((1 : Int32)).toInt = 1) ev41 (by omega) (by omega)
                refine lv_iinc (v := v41) (lv' := [(6, .int v41), (5, .int x29), (3, .long x30), (0, .ref o), (1, .int p1), (2, .int p2)]) hx hb dX6_change_145 hl (k := 0) rfl (by rw [← ev41]; rfl) (by decide) rfl (fun ls hl => ?_)
                refine lv_goto (tgt := 68) hx hb dX6_change_148 (by decide) ?_
                exact ih5 (v41, x29, x30, x31, x32, x33) _ _ _ ⟨(by omega : 0 ≤ v41.toInt), (by omega : v41.toInt ≤ vo_glasses.toInt), (by assumption : zLn x32), (by omega : vo_glasses.toInt - v41.toInt < ((k5 : Nat) : Int)), hT, hP.sub [0, 1, 2, 3, 4, 5] rfl, hD.sub [0, 1, 2, 3, 4, 5] rfl rfl, hS, lv_sub hl [0, 1, 2, 3, 4, 5] rfl⟩
              · rintro ⟨b22, b23, b24, b25, b26, b27⟩ H locs ls ⟨i2, j2, hy2, hm, -⟩
                try dsimp only at *
                omega
              · intro k6 hex6 ih6
                rintro ⟨b22, b23, b24, b25, b26, b27⟩ H locs ls ⟨i2, j2, hy2, hm6, hT, hP, hD, hS, hl⟩
                have hP : va_P (dC, dI) vwCl [(o, .inr (6, [.ref o_page, .int vo_pageMany, .int vo_readMany, .int vo_state, .int vo_readMost, .ref o_readRows, .int vo_glasses, .int vo_towersRead, .int vo_poured, .ref o_rows, .ref o_turns, .ref o_amounts, .ref o_drank, .long vo_spilt, .ref o_takes, .ref o_leans, .ref o_would, .int v4, .int vo_seedNow, .int vo_keptTower, .int vo_keptPoured, .long vo_keptSpilt, .ref o_keptAmounts, .ref o_keptDrank, .ref o_keptTurns, .long vo_hash])), (o_rows, .inl (cI, 54, .inl vo_rows)), (o_amounts, .inl (cJ, 9, .inr (.inl vo_amounts))), (o_takes, .inl (cJ, 9, .inr (.inl b25))), (o_leans, .inl (cI, 9, .inl b26)), (o_would, .inl (cJ, 9, .inr (.inl b27)))] H := hP
                have hD : va_D A [(o, .inr (6, [.ref o_page, .int vo_pageMany, .int vo_readMany, .int vo_state, .int vo_readMost, .ref o_readRows, .int vo_glasses, .int vo_towersRead, .int vo_poured, .ref o_rows, .ref o_turns, .ref o_amounts, .ref o_drank, .long vo_spilt, .ref o_takes, .ref o_leans, .ref o_would, .int v4, .int vo_seedNow, .int vo_keptTower, .int vo_keptPoured, .long vo_keptSpilt, .ref o_keptAmounts, .ref o_keptDrank, .ref o_keptTurns, .long vo_hash])), (o_rows, .inl (cI, 54, .inl vo_rows)), (o_amounts, .inl (cJ, 9, .inr (.inl vo_amounts))), (o_takes, .inl (cJ, 9, .inr (.inl b25))), (o_leans, .inl (cI, 9, .inl b26)), (o_would, .inl (cJ, 9, .inr (.inl b27)))] := hD
                have hl : lv_has ls 10 [(7, .int b22), (6, .int b9), (5, .int b23), (3, .long b24), (0, .ref o), (1, .int p1), (2, .int p2)] := hl
                have hT : lp_X6_change_6 vo_glasses (rs_X6_change_6 b9 (fun c0 c1 c2 c3 c4 c5 => lp_X6_change_5 vo_glasses (rs_X6_change_5 v4 p2) vo_rows vo_amounts p1 k5 c0 c1 c2 c3 c4 c5)) vo_rows vo_amounts b9 p1 (k6 + 1) b22 b23 b24 b25 b26 b27 = (r, qo_done, qo_takes, qo_leans, qo_would) := hT
                have i2 : 0 ≤ b22.toInt := i2
                have j2 : b22.toInt ≤ vo_glasses.toInt := j2
                have hy2 : zLn b26 := hy2
                have hm6 : vo_glasses.toInt - b22.toInt < (((k6 + 1) : Nat) : Int) := hm6
                try simp only [Int.natCast_add, Int.natCast_one, Nat.cast_add, Nat.cast_one] at hm6
                refine lv_iload hx hb dX6_change_83 (lv_at hl 0 rfl) ?_
                refine lv_aload_n hx hb dX6_change_85 rfl (lv_at hl 4 rfl) ?_
                refine va_get (D := (dC, dI)) (ci := 6) (v := .int vo_glasses) (C := RX6) (T := TX6) (N := 26) hx hb hts hwX6 hown hK hP 0 rfl rfl 6 (by decide) hf_97 (fun _ h9 => h9) rfl dX6_change_86 ?_
                refine lv_icmp_ge (tgt := 145) hx hb dX6_change_89 (by decide) (fun c_22 => ?_) (fun c_22 => ?_)
                · replace hT := cutT c_22 hT
                  have g_44 := zleT (rfl : (vo_glasses).toInt = _) (rfl : (b22).toInt = _) c_22
                  exact hex6 (b22, b23, b24, b25, b26, b27) _ _ _ ⟨(by omega : 0 ≤ b22.toInt), (by omega : b22.toInt ≤ vo_glasses.toInt), (by assumption : zLn b26), hT, hP.sub [0, 1, 2, 3, 4, 5] rfl, hD.sub [0, 1, 2, 3, 4, 5] rfl rfl, hS, lv_sub hl [1, 2, 3, 4, 5, 6] rfl⟩
                · replace hT := cutF c_22 hT
                  have g_45 := zleF (rfl : (vo_glasses).toInt = _) (rfl : (b22).toInt = _) c_22
                  refine lv_aload_n hx hb dX6_change_92 rfl (lv_at hl 4 rfl) ?_
                  refine lv_iload hx hb dX6_change_93 (lv_at hl 1 rfl) ?_
                  refine lv_iload hx hb dX6_change_95 (lv_at hl 0 rfl) ?_
                  refine lv_iload_n hx hb dX6_change_97 rfl (lv_at hl 5 rfl) ?_
                  obtain ⟨r34, u35, u36, u37, ev_23⟩ : ∃ x0 x1 x2 x3, (m_X6_spiltBy vo_glasses vo_rows vo_amounts b25 b26 b27 b9 b22 p1) = (x0, x1, x2, x3) := ⟨_, _, _, _, rfl⟩
                  replace hT := cut4_n ev_23 hT
                  refine zz_cl [0, 1, 2, 3, 4, 5] [] (wr := []) (w1 := [(o, .inr (6, [.ref o_page, .int vo_pageMany, .int vo_readMany, .int vo_state, .int vo_readMost, .ref o_readRows, .int vo_glasses, .int vo_towersRead, .int vo_poured, .ref o_rows, .ref o_turns, .ref o_amounts, .ref o_drank, .long vo_spilt, .ref o_takes, .ref o_leans, .ref o_would, .int v4, .int vo_seedNow, .int vo_keptTower, .int vo_keptPoured, .long vo_keptSpilt, .ref o_keptAmounts, .ref o_keptDrank, .ref o_keptTurns, .long vo_hash])), (o_rows, .inl (cI, 54, .inl vo_rows)), (o_amounts, .inl (cJ, 9, .inr (.inl vo_amounts))), (o_takes, .inl (cJ, 9, .inr (.inl u35))), (o_leans, .inl (cI, 9, .inl u36)), (o_would, .inl (cJ, 9, .inr (.inl u37)))]) (va_runV (As := [.int b9, .int b22, .int p1]) (rest := []) ⟨hx, hb, hml, hown, hts⟩ (k_X6_spiltBy l dC dI cI cJ cC H.size o o_page o_readRows o_rows o_turns o_amounts o_drank o_takes o_leans o_would o_keptAmounts o_keptDrank o_keptTurns vo_pageMany vo_readMany vo_state vo_readMost vo_glasses vo_towersRead vo_poured vo_spilt v4 vo_seedNow vo_keptTower vo_keptPoured vo_keptSpilt vo_hash vo_rows vo_amounts b25 b26 b27 b9 b22 p1 r34 u35 u36 u37 ev_23 hg0 hg9 hrw hy2 (by first | omega | decide) (by first | omega | decide) (by first | omega | decide) (by first | omega | decide)) (cwV 3 hts gX6_change_X6_spiltBy rfl rfl rfl (by decide +kernel) ⟨Nat.le_of_ble_eq_true rfl, Nat.le_of_ble_eq_true rfl⟩) (zz_preV [0, 1, 2, 3, 4, 5] hK hP hD rfl rfl (va_recv hK hP (ci := 6) (q0 := 0) rfl rfl)) rfl rfl hl.1 rfl (lv_room (Nat.le_of_ble_eq_true rfl)) dX6_change_98 ⟨Nat.zero_le _, Nat.zero_le _⟩) hP hD hS hA rfl rfl rfl (by decide) (fun ok_24 H locs hP hD hS => ?_)
                  have hP : va_P (dC, dI) vwCl [(o, .inr (6, [.ref o_page, .int vo_pageMany, .int vo_readMany, .int vo_state, .int vo_readMost, .ref o_readRows, .int vo_glasses, .int vo_towersRead, .int vo_poured, .ref o_rows, .ref o_turns, .ref o_amounts, .ref o_drank, .long vo_spilt, .ref o_takes, .ref o_leans, .ref o_would, .int v4, .int vo_seedNow, .int vo_keptTower, .int vo_keptPoured, .long vo_keptSpilt, .ref o_keptAmounts, .ref o_keptDrank, .ref o_keptTurns, .long vo_hash])), (o_rows, .inl (cI, 54, .inl vo_rows)), (o_amounts, .inl (cJ, 9, .inr (.inl vo_amounts))), (o_takes, .inl (cJ, 9, .inr (.inl u35))), (o_leans, .inl (cI, 9, .inl u36)), (o_would, .inl (cJ, 9, .inr (.inl u37)))] H := hP
                  have hD : va_D A [(o, .inr (6, [.ref o_page, .int vo_pageMany, .int vo_readMany, .int vo_state, .int vo_readMost, .ref o_readRows, .int vo_glasses, .int vo_towersRead, .int vo_poured, .ref o_rows, .ref o_turns, .ref o_amounts, .ref o_drank, .long vo_spilt, .ref o_takes, .ref o_leans, .ref o_would, .int v4, .int vo_seedNow, .int vo_keptTower, .int vo_keptPoured, .long vo_keptSpilt, .ref o_keptAmounts, .ref o_keptDrank, .ref o_keptTurns, .long vo_hash])), (o_rows, .inl (cI, 54, .inl vo_rows)), (o_amounts, .inl (cJ, 9, .inr (.inl vo_amounts))), (o_takes, .inl (cJ, 9, .inr (.inl u35))), (o_leans, .inl (cI, 9, .inl u36)), (o_would, .inl (cJ, 9, .inr (.inl u37)))] := hD
                  refine lv_lstore (lv' := [(8, .long r34), (7, .int b22), (6, .int b9), (5, .int b23), (3, .long b24), (0, .ref o), (1, .int p1), (2, .int p2)]) hx hb dX6_change_101 hl (by decide) rfl (fun ls hl => ?_)
                  refine lv_lload hx hb dX6_change_103 (lv_at hl 0 rfl) ?_
                  refine lv_lload_n hx hb dX6_change_105 rfl (lv_at hl 4 rfl) ?_
                  refine W.lcmp hx hb dX6_change_106 ?_
                  refine zz_join1 hT 123 (fun v => [.int v]) (fun v H locs ls => va_P (dC, dI) vwCl [(o, .inr (6, [.ref o_page, .int vo_pageMany, .int vo_readMany, .int vo_state, .int vo_readMost, .ref o_readRows, .int vo_glasses, .int vo_towersRead, .int vo_poured, .ref o_rows, .ref o_turns, .ref o_amounts, .ref o_drank, .long vo_spilt, .ref o_takes, .ref o_leans, .ref o_would, .int v4, .int vo_seedNow, .int vo_keptTower, .int vo_keptPoured, .long vo_keptSpilt, .ref o_keptAmounts, .ref o_keptDrank, .ref o_keptTurns, .long vo_hash])), (o_rows, .inl (cI, 54, .inl vo_rows)), (o_amounts, .inl (cJ, 9, .inr (.inl vo_amounts))), (o_takes, .inl (cJ, 9, .inr (.inl u35))), (o_leans, .inl (cI, 9, .inl u36)), (o_would, .inl (cJ, 9, .inr (.inl u37)))] H ∧ va_D A [(o, .inr (6, [.ref o_page, .int vo_pageMany, .int vo_readMany, .int vo_state, .int vo_readMost, .ref o_readRows, .int vo_glasses, .int vo_towersRead, .int vo_poured, .ref o_rows, .ref o_turns, .ref o_amounts, .ref o_drank, .long vo_spilt, .ref o_takes, .ref o_leans, .ref o_would, .int v4, .int vo_seedNow, .int vo_keptTower, .int vo_keptPoured, .long vo_keptSpilt, .ref o_keptAmounts, .ref o_keptDrank, .ref o_keptTurns, .long vo_hash])), (o_rows, .inl (cI, 54, .inl vo_rows)), (o_amounts, .inl (cJ, 9, .inr (.inl vo_amounts))), (o_takes, .inl (cJ, 9, .inr (.inl u35))), (o_leans, .inl (cI, 9, .inl u36)), (o_would, .inl (cJ, 9, .inr (.inl u37)))] ∧ va_S A s.heap H locs ∧ lv_has ls 10 [(0, .ref o), (1, .int p1), (2, .int p2), (3, .long b24), (6, .int b9), (7, .int b22), (8, .long r34)]) ?_ ?_
                  · rintro j38 ej_46 H locs ls ⟨hP, hD, hS, hl⟩
                    replace hT := cut_n ej_46 hT
                    have hP : va_P (dC, dI) vwCl [(o, .inr (6, [.ref o_page, .int vo_pageMany, .int vo_readMany, .int vo_state, .int vo_readMost, .ref o_readRows, .int vo_glasses, .int vo_towersRead, .int vo_poured, .ref o_rows, .ref o_turns, .ref o_amounts, .ref o_drank, .long vo_spilt, .ref o_takes, .ref o_leans, .ref o_would, .int v4, .int vo_seedNow, .int vo_keptTower, .int vo_keptPoured, .long vo_keptSpilt, .ref o_keptAmounts, .ref o_keptDrank, .ref o_keptTurns, .long vo_hash])), (o_rows, .inl (cI, 54, .inl vo_rows)), (o_amounts, .inl (cJ, 9, .inr (.inl vo_amounts))), (o_takes, .inl (cJ, 9, .inr (.inl u35))), (o_leans, .inl (cI, 9, .inl u36)), (o_would, .inl (cJ, 9, .inr (.inl u37)))] H := hP
                    have hD : va_D A [(o, .inr (6, [.ref o_page, .int vo_pageMany, .int vo_readMany, .int vo_state, .int vo_readMost, .ref o_readRows, .int vo_glasses, .int vo_towersRead, .int vo_poured, .ref o_rows, .ref o_turns, .ref o_amounts, .ref o_drank, .long vo_spilt, .ref o_takes, .ref o_leans, .ref o_would, .int v4, .int vo_seedNow, .int vo_keptTower, .int vo_keptPoured, .long vo_keptSpilt, .ref o_keptAmounts, .ref o_keptDrank, .ref o_keptTurns, .long vo_hash])), (o_rows, .inl (cI, 54, .inl vo_rows)), (o_amounts, .inl (cJ, 9, .inr (.inl vo_amounts))), (o_takes, .inl (cJ, 9, .inr (.inl u35))), (o_leans, .inl (cI, 9, .inl u36)), (o_would, .inl (cJ, 9, .inr (.inl u37)))] := hD
                    have hl : lv_has ls 10 [(0, .ref o), (1, .int p1), (2, .int p2), (3, .long b24), (6, .int b9), (7, .int b22), (8, .long r34)] := hl
                    refine lv_istore (lv' := [(5, .int j38), (0, .ref o), (1, .int p1), (2, .int p2), (3, .long b24), (6, .int b9), (7, .int b22), (8, .long r34)]) hx hb dX6_change_123 hl (by decide) rfl (fun ls hl => ?_)
                    refine lv_lload hx hb dX6_change_125 (lv_at hl 7 rfl) ?_
                    refine lv_lload_n hx hb dX6_change_127 rfl (lv_at hl 4 rfl) ?_
                    refine W.lcmp hx hb dX6_change_128 ?_
                    refine lv_if_ge (tgt := 137) hx hb dX6_change_129 (by decide) (fun c_26 => ?_) (fun c_26 => ?_)
                    · replace hT := cutT c_26 hT
                      have g_47 := zlc_ge.mp c_26
                      refine lv_lload_n hx hb dX6_change_137 rfl (lv_at hl 4 rfl) ?_
                      refine lv_lstore_n (lv' := [(3, .long b24), (5, .int j38), (0, .ref o), (1, .int p1), (2, .int p2), (6, .int b9), (7, .int b22), (8, .long r34)]) hx hb dX6_change_138 rfl hl (by decide) rfl (fun ls hl => ?_)
                      obtain ⟨v39, ev39⟩ : ∃ y : Int32, (b22 + (1 : Int32)) = y := ⟨_, rfl⟩
                      replace hT := cut_n ev39 hT
                      try have fv39 := zaddE (rfl : (b22).toInt = _) (by decide : ((1 : Int32)).toInt = 1) ev39 (by omega) (by omega)
                      refine lv_iinc (v := v39) (lv' := [(7, .int v39), (3, .long b24), (5, .int j38), (0, .ref o), (1, .int p1), (2, .int p2), (6, .int b9), (8, .long r34)]) hx hb dX6_change_139 hl (k := 6) rfl (by rw [← ev39]; rfl) (by decide) rfl (fun ls hl => ?_)
                      refine lv_goto (tgt := 83) hx hb dX6_change_142 (by decide) ?_
                      exact ih6 (v39, j38, b24, u35, u36, u37) _ _ _ ⟨(by omega : 0 ≤ v39.toInt), (by omega : v39.toInt ≤ vo_glasses.toInt), (by assumption : zLn u36), (by omega : vo_glasses.toInt - v39.toInt < ((k6 : Nat) : Int)), hT, hP.sub [0, 1, 2, 3, 4, 5] rfl, hD.sub [0, 1, 2, 3, 4, 5] rfl rfl, hS, lv_sub hl [0, 6, 2, 1, 3, 4, 5] rfl⟩
                    · replace hT := cutF c_26 hT
                      have g_48 := mt zlc_ge.mpr c_26
                      refine lv_lload hx hb dX6_change_132 (lv_at hl 7 rfl) ?_
                      refine lv_goto (tgt := 138) hx hb dX6_change_134 (by decide) ?_
                      refine lv_lstore_n (lv' := [(3, .long r34), (5, .int j38), (0, .ref o), (1, .int p1), (2, .int p2), (6, .int b9), (7, .int b22), (8, .long r34)]) hx hb dX6_change_138 rfl hl (by decide) rfl (fun ls hl => ?_)
                      obtain ⟨v40, ev40⟩ : ∃ y : Int32, (b22 + (1 : Int32)) = y := ⟨_, rfl⟩
                      replace hT := cut_n ev40 hT
                      try have fv40 := zaddE (rfl : (b22).toInt = _) (by decide : ((1 : Int32)).toInt = 1) ev40 (by omega) (by omega)
                      refine lv_iinc (v := v40) (lv' := [(7, .int v40), (3, .long r34), (5, .int j38), (0, .ref o), (1, .int p1), (2, .int p2), (6, .int b9), (8, .long r34)]) hx hb dX6_change_139 hl (k := 6) rfl (by rw [← ev40]; rfl) (by decide) rfl (fun ls hl => ?_)
                      refine lv_goto (tgt := 83) hx hb dX6_change_142 (by decide) ?_
                      exact ih6 (v40, j38, r34, u35, u36, u37) _ _ _ ⟨(by omega : 0 ≤ v40.toInt), (by omega : v40.toInt ≤ vo_glasses.toInt), (by assumption : zLn u36), (by omega : vo_glasses.toInt - v40.toInt < ((k6 : Nat) : Int)), hT, hP.sub [0, 1, 2, 3, 4, 5] rfl, hD.sub [0, 1, 2, 3, 4, 5] rfl rfl, hS, lv_sub hl [0, 6, 2, 1, 3, 4, 5] rfl⟩
                  · intro xv hT hM
                    refine lv_if_ge (tgt := 121) hx hb dX6_change_107 (by decide) (fun c_25 => ?_) (fun c_25 => ?_)
                    · replace hT := cutT c_25 hT
                      have g_49 := zlc_ge.mp c_25
                      refine lv_iload hx hb dX6_change_121 (lv_at hl 3 rfl) ?_
                      have hP9 := hP
                      have hD9 := hD
                      have hS9 := hS
                      have hl9 := hl
                      have hM9 := hM
                      have hT : b23 = xv := hT
                      subst hT
                      exact hM9 _ _ _ ⟨hP9.sub [0, 1, 2, 3, 4, 5] rfl, hD9.sub [0, 1, 2, 3, 4, 5] rfl rfl, hS9, lv_sub hl9 [5, 6, 7, 4, 2, 1, 0] rfl⟩
                    · replace hT := cutF c_25 hT
                      have g_50 := mt zlc_ge.mpr c_25
                      refine lv_bipush (v := (9 : Int32)) hx hb dX6_change_110 (by decide) ?_
                      refine lv_iload hx hb dX6_change_112 (lv_at hl 2 rfl) ?_
                      refine lv_imul hx hb dX6_change_114 ?_
                      refine lv_iload hx hb dX6_change_115 (lv_at hl 1 rfl) ?_
                      refine lv_iadd hx hb dX6_change_117 ?_
                      refine lv_goto (tgt := 123) hx hb dX6_change_118 (by decide) ?_
                      have hP9 := hP
                      have hD9 := hD
                      have hS9 := hS
                      have hl9 := hl
                      have hM9 := hM
                      have hT : (((9 : Int32) * b9) + b22) = xv := hT
                      subst hT
                      exact hM9 _ _ _ ⟨hP9.sub [0, 1, 2, 3, 4, 5] rfl, hD9.sub [0, 1, 2, 3, 4, 5] rfl rfl, hS9, lv_sub hl9 [5, 6, 7, 4, 2, 1, 0] rfl⟩
        · replace hT := cutT c_18 hT
          have g_51 := zeqT (rfl : (vo_done).toInt = _) (by decide : ((30 : Int32)).toInt = 30) c_18
          refine lv_bipush (v := (-103 : Int32)) hx hb dX6_change_41 (by decide) ?_
          have hP9 := hP
          have hD9 := hD
          have hS9 := hS
          have hT : ((-103 : Int32), vo_done, vo_takes, vo_leans, vo_would) = (r, qo_done, qo_takes, qo_leans, qo_would) := hT
          cases hT
          subst hQ
          exact zz_iret hx hb hr [5, 0, 1, 2, 3, 4] hK hP9 hD9 hS9 rfl rfl (by assumption) hlocks dX6_change_43
      · replace hT := cutT c_17 hT
        have g_52 := zeqT (rfl : (r3).toInt = _) (by decide : ((0 : Int32)).toInt = 0) c_17
        refine lv_bipush (v := (-102 : Int32)) hx hb dX6_change_29 (by decide) ?_
        have hP9 := hP
        have hD9 := hD
        have hS9 := hS
        have hT : ((-102 : Int32), vo_done, vo_takes, vo_leans, vo_would) = (r, qo_done, qo_takes, qo_leans, qo_would) := hT
        cases hT
        subst hQ
        exact zz_iret hx hb hr [5, 0, 1, 2, 3, 4] hK hP9 hD9 hS9 rfl rfl (by assumption) hlocks dX6_change_31
  · replace hT := cutF c_6 hT
    have g_53 := zeqF (rfl : (r1).toInt = _) (by decide : ((0 : Int32)).toInt = 0) c_6
    refine lv_bipush (v := (-103 : Int32)) hx hb dX6_change_7 (by decide) ?_
    have hP9 := hP
    have hD9 := hD
    have hS9 := hS
    have hT : ((-103 : Int32), vo_done, vo_takes, vo_leans, vo_would) = (r, qo_done, qo_takes, qo_leans, qo_would) := hT
    cases hT
    subst hQ
    exact zz_iret hx hb hr [5, 0, 1, 2, 3, 4] hK hP9 hD9 hS9 rfl rfl (by assumption) hlocks dX6_change_9

def rs_X6_othersBy_2 (a5 : Nat → Int64) (u2 : Nat → Int32) (u8 : Nat → Int64) (x11 : Int32) (x12 : Int64) : Int64 × (Nat → Int64) × (Nat → Int32) × (Nat → Int64) :=
 (x12, a5, u2, u8)
def lp_X6_othersBy_2 (vo_glasses : Int32) (ct2 : Int32 → Int64 → (Int64 × (Nat → Int64) × (Nat → Int32) × (Nat → Int64))) (p1 : Int32) (u8 : Nat → Int64) : Nat → Int32 → Int64 → (Int64 × (Nat → Int64) × (Nat → Int32) × (Nat → Int64))
  | 0, _, _ => default
  | k + 1, b9, b10 =>
  if vo_glasses ≤ b9 then
   (ct2 b9 b10)
  else
   cut (
    if b9 = p1 then
     (0 : Int64)
    else
     (u8 b9.toNatClampNeg)) (fun (j13 : Int64) =>
   cut (b10 + j13) (fun (v14 : Int64) =>
   cut (b9 + (1 : Int32)) (fun (v15 : Int32) =>
   (lp_X6_othersBy_2 vo_glasses ct2 p1 u8 k v15 v14))))
def m_X6_othersBy (vo_glasses : Int32) (vo_rows : Nat → Int32) (vo_amounts : Nat → Int64) (vo_takes : Nat → Int64) (vo_leans : Nat → Int32) (vo_would : Nat → Int64) (p1 : Int32) (p2 : Int32) (p3 : Int32) : Int64 × (Nat → Int64) × (Nat → Int32) × (Nat → Int64) :=
 cut3 (m_X6_beginWould vo_glasses vo_rows vo_amounts vo_takes vo_leans vo_would (0 : Int32)) (fun (u1 : Nat → Int64) (u2 : Nat → Int32) (u3 : Nat → Int64) =>
 cut (
  if p3 = (0 : Int32) then
   (u1 p1.toNatClampNeg)
  else
   (0 : Int64)) (fun (j4 : Int64) =>
 cut (vp_updL u1 p1.toNatClampNeg j4) (fun (a5 : Nat → Int64) =>
 cut (vp_updL u3 (0 : Int32).toNatClampNeg ((429981696 : Int64) * (p2.toInt64))) (fun (a6 : Nat → Int64) =>
 cut2 (m_X6_runOver_w vo_glasses vo_rows a5 u2 a6) (fun (r7 : Int64) (u8 : Nat → Int64) =>
 (lp_X6_othersBy_2 vo_glasses (rs_X6_othersBy_2 a5 u2 u8) p1 u8 11 (0 : Int32) (0 : Int64)))))))
set_option maxHeartbeats 4000000 in
set_option maxRecDepth 100000 in
theorem k_X6_othersBy (l : Launch) (dC : Nat → ClassId) (dI : Nat → Nat → Nat) (cI cJ cC : ClassId) (sz : Nat) (o o_page o_readRows o_rows o_turns o_amounts o_drank o_takes o_leans o_would o_keptAmounts o_keptDrank o_keptTurns : Nat) (vo_pageMany : Int32) (vo_readMany : Int32) (vo_state : Int32) (vo_readMost : Int32) (vo_glasses : Int32) (vo_towersRead : Int32) (vo_poured : Int32) (vo_spilt : Int64) (vo_done : Int32) (vo_seedNow : Int32) (vo_keptTower : Int32) (vo_keptPoured : Int32) (vo_keptSpilt : Int64) (vo_hash : Int64) (vo_rows : Nat → Int32) (vo_amounts : Nat → Int64) (vo_takes : Nat → Int64) (vo_leans : Nat → Int32) (vo_would : Nat → Int64) (p1 : Int32) (p2 : Int32) (p3 : Int32) (r : Int64) (qo_takes : Nat → Int64) (qo_leans : Nat → Int32) (qo_would : Nat → Int64) (hT : m_X6_othersBy vo_glasses vo_rows vo_amounts vo_takes vo_leans vo_would p1 p2 p3 = (r, qo_takes, qo_leans, qo_would)) (hg0 : 0 ≤ vo_glasses.toInt) (hg9 : vo_glasses.toInt ≤ 9) (hrw : zRw vo_rows) (hln : zLn vo_leans) (h10 : 0 ≤ p1.toInt) (h19 : p1.toInt < 9) : Met l yX6_othersBy wsX6_othersBy ({ frames := 3, cells := 0, slots := 0, locals := 66 }) (zPc [.ref o, .int p1, .int p2, .int p3] (dC, dI) (zTy cI cJ cC) [(o, .inr (6, [.ref o_page, .int vo_pageMany, .int vo_readMany, .int vo_state, .int vo_readMost, .ref o_readRows, .int vo_glasses, .int vo_towersRead, .int vo_poured, .ref o_rows, .ref o_turns, .ref o_amounts, .ref o_drank, .long vo_spilt, .ref o_takes, .ref o_leans, .ref o_would, .int vo_done, .int vo_seedNow, .int vo_keptTower, .int vo_keptPoured, .long vo_keptSpilt, .ref o_keptAmounts, .ref o_keptDrank, .ref o_keptTurns, .long vo_hash])), (o_rows, .inl (cI, 54, .inl vo_rows)), (o_amounts, .inl (cJ, 9, .inr (.inl vo_amounts))), (o_takes, .inl (cJ, 9, .inr (.inl vo_takes))), (o_leans, .inl (cI, 9, .inl vo_leans)), (o_would, .inl (cJ, 9, .inr (.inl vo_would)))] sz) (zQl r ((zLn qo_leans)) (dC, dI) (zTy cI cJ cC) [(o, .inr (6, [.ref o_page, .int vo_pageMany, .int vo_readMany, .int vo_state, .int vo_readMost, .ref o_readRows, .int vo_glasses, .int vo_towersRead, .int vo_poured, .ref o_rows, .ref o_turns, .ref o_amounts, .ref o_drank, .long vo_spilt, .ref o_takes, .ref o_leans, .ref o_would, .int vo_done, .int vo_seedNow, .int vo_keptTower, .int vo_keptPoured, .long vo_keptSpilt, .ref o_keptAmounts, .ref o_keptDrank, .ref o_keptTurns, .long vo_hash])), (o_rows, .inl (cI, 54, .inl vo_rows)), (o_amounts, .inl (cJ, 9, .inr (.inl vo_amounts))), (o_takes, .inl (cJ, 9, .inr (.inl qo_takes))), (o_leans, .inl (cI, 9, .inl qo_leans)), (o_would, .inl (cJ, 9, .inr (.inl qo_would)))] (va_A [(o, .inr (6, [.ref o_page, .int vo_pageMany, .int vo_readMany, .int vo_state, .int vo_readMost, .ref o_readRows, .int vo_glasses, .int vo_towersRead, .int vo_poured, .ref o_rows, .ref o_turns, .ref o_amounts, .ref o_drank, .long vo_spilt, .ref o_takes, .ref o_leans, .ref o_would, .int vo_done, .int vo_seedNow, .int vo_keptTower, .int vo_keptPoured, .long vo_keptSpilt, .ref o_keptAmounts, .ref o_keptDrank, .ref o_keptTurns, .long vo_hash])), (o_rows, .inl (cI, 54, .inl vo_rows)), (o_amounts, .inl (cJ, 9, .inr (.inl vo_amounts))), (o_takes, .inl (cJ, 9, .inr (.inl vo_takes))), (o_leans, .inl (cI, 9, .inl vo_leans)), (o_would, .inl (cJ, 9, .inr (.inl vo_would)))] sz)) 0 0 (va_A [(o, .inr (6, [.ref o_page, .int vo_pageMany, .int vo_readMany, .int vo_state, .int vo_readMost, .ref o_readRows, .int vo_glasses, .int vo_towersRead, .int vo_poured, .ref o_rows, .ref o_turns, .ref o_amounts, .ref o_drank, .long vo_spilt, .ref o_takes, .ref o_leans, .ref o_would, .int vo_done, .int vo_seedNow, .int vo_keptTower, .int vo_keptPoured, .long vo_keptSpilt, .ref o_keptAmounts, .ref o_keptDrank, .ref o_keptTurns, .long vo_hash])), (o_rows, .inl (cI, 54, .inl vo_rows)), (o_amounts, .inl (cJ, 9, .inr (.inl vo_amounts))), (o_takes, .inl (cJ, 9, .inr (.inl vo_takes))), (o_leans, .inl (cI, 9, .inl vo_leans)), (o_would, .inl (cJ, 9, .inr (.inl vo_would)))] sz) := by
  refine Met.ofW (cc := cX6_othersBy) (maxL := 9) (ret := (some .long)) (by decide) rfl ?_
  intro p e s m args below meth c s₁ B hml hv
  obtain ⟨rfl, hsz, hP, hK, hD0⟩ := hv
  have hx := B.exec
  have hb := B.bytes
  have hr := B.returns
  have hts := atoms_spec (ws := wsX6_othersBy) B.pre
  have hown : s.vm.findClass RX6 = some m.cls := findClass_of_methodNamed B.named
  have hlocks := B.notSynchronized
  subst hsz
  have hD := hD0.self (sz := s.heap.size)
  generalize hAe : va_A [(o, .inr (6, [.ref o_page, .int vo_pageMany, .int vo_readMany, .int vo_state, .int vo_readMost, .ref o_readRows, .int vo_glasses, .int vo_towersRead, .int vo_poured, .ref o_rows, .ref o_turns, .ref o_amounts, .ref o_drank, .long vo_spilt, .ref o_takes, .ref o_leans, .ref o_would, .int vo_done, .int vo_seedNow, .int vo_keptTower, .int vo_keptPoured, .long vo_keptSpilt, .ref o_keptAmounts, .ref o_keptDrank, .ref o_keptTurns, .long vo_hash])), (o_rows, .inl (cI, 54, .inl vo_rows)), (o_amounts, .inl (cJ, 9, .inr (.inl vo_amounts))), (o_takes, .inl (cJ, 9, .inr (.inl vo_takes))), (o_leans, .inl (cI, 9, .inl vo_leans)), (o_would, .inl (cJ, 9, .inr (.inl vo_would)))] s.heap.size = A at hD ⊢
  have hA : ∀ q : Nat, s.heap.size ≤ q → A q := fun q h => by rw [← hAe]; exact Or.inr h
  have hS : va_S A s.heap s.heap [] := va_S.rf
  have hP : va_P (dC, dI) vwCl [(o, .inr (6, [.ref o_page, .int vo_pageMany, .int vo_readMany, .int vo_state, .int vo_readMost, .ref o_readRows, .int vo_glasses, .int vo_towersRead, .int vo_poured, .ref o_rows, .ref o_turns, .ref o_amounts, .ref o_drank, .long vo_spilt, .ref o_takes, .ref o_leans, .ref o_would, .int vo_done, .int vo_seedNow, .int vo_keptTower, .int vo_keptPoured, .long vo_keptSpilt, .ref o_keptAmounts, .ref o_keptDrank, .ref o_keptTurns, .long vo_hash])), (o_rows, .inl (cI, 54, .inl vo_rows)), (o_amounts, .inl (cJ, 9, .inr (.inl vo_amounts))), (o_takes, .inl (cJ, 9, .inr (.inl vo_takes))), (o_leans, .inl (cI, 9, .inl vo_leans)), (o_would, .inl (cJ, 9, .inr (.inl vo_would)))] s.heap := hP
  have hK : va_K (dC, dI) vwCl (zTy cI cJ cC) s := hK
  have hl := lv_entry ([.ref o, .int p1, .int p2, .int p3]) (n := 9) (Nat.le_of_ble_eq_true rfl)
  rw [lg_entry_eq]
  generalize (lg_sl ([.ref o, .int p1, .int p2, .int p3]) ++ List.replicate (9 - (lg_sl ([.ref o, .int p1, .int p2, .int p3])).length) Slot.unset).toArray = ls at hl ⊢
  have hl : lv_has ls 9 [(0, .ref o), (1, .int p1), (2, .int p2), (3, .int p3)] := hl
  refine zz_start hP hS (fun Q hQ H locs hP hS => ?_)
  have hwX6 : ∀ w ∈ u_ws RX6 TX6 26, w ∈ wsX6_othersBy := by decide +kernel
  have hc_113 := (hts (.constantLong RX6 113 (429981696)) (by decide +kernel))
  have hf_29 := (hts (.fieldLink RX6 29 "PouredTopmostModel" "takes" "[J") (by decide +kernel))
  have hf_35 := (hts (.fieldLink RX6 35 "PouredTopmostModel" "would" "[J") (by decide +kernel))
  have hf_97 := (hts (.fieldLink RX6 97 "PouredTopmostModel" "glasses" "I") (by decide +kernel))
  refine lv_aload_n hx hb dX6_othersBy_0 rfl (lv_at hl 0 rfl) ?_
  refine lv_iconst (v := (0 : Int32)) hx hb dX6_othersBy_1 (by decide) ?_
  obtain ⟨u1, u2, u3, ev_1⟩ : ∃ x0 x1 x2, (m_X6_beginWould vo_glasses vo_rows vo_amounts vo_takes vo_leans vo_would (0 : Int32)) = (x0, x1, x2) := ⟨_, _, _, rfl⟩
  replace hT := cut3_n ev_1 hT
  refine zz_cv [0, 1, 2, 3, 4, 5] [] (wr := []) (w1 := [(o, .inr (6, [.ref o_page, .int vo_pageMany, .int vo_readMany, .int vo_state, .int vo_readMost, .ref o_readRows, .int vo_glasses, .int vo_towersRead, .int vo_poured, .ref o_rows, .ref o_turns, .ref o_amounts, .ref o_drank, .long vo_spilt, .ref o_takes, .ref o_leans, .ref o_would, .int vo_done, .int vo_seedNow, .int vo_keptTower, .int vo_keptPoured, .long vo_keptSpilt, .ref o_keptAmounts, .ref o_keptDrank, .ref o_keptTurns, .long vo_hash])), (o_rows, .inl (cI, 54, .inl vo_rows)), (o_amounts, .inl (cJ, 9, .inr (.inl vo_amounts))), (o_takes, .inl (cJ, 9, .inr (.inl u1))), (o_leans, .inl (cI, 9, .inl u2)), (o_would, .inl (cJ, 9, .inr (.inl u3)))]) (va_runV (As := [.int (0 : Int32)]) (rest := []) ⟨hx, hb, hml, hown, hts⟩ (k_X6_beginWould l dC dI cI cJ cC H.size o o_page o_readRows o_rows o_turns o_amounts o_drank o_takes o_leans o_would o_keptAmounts o_keptDrank o_keptTurns vo_pageMany vo_readMany vo_state vo_readMost vo_glasses vo_towersRead vo_poured vo_spilt vo_done vo_seedNow vo_keptTower vo_keptPoured vo_keptSpilt vo_hash vo_rows vo_amounts vo_takes vo_leans vo_would (0 : Int32) u1 u2 u3 ev_1 hg0 hg9 hln) (cwV 1 hts gX6_othersBy_X6_beginWould rfl rfl rfl (by decide +kernel) ⟨Nat.le_of_ble_eq_true rfl, Nat.le_of_ble_eq_true rfl⟩) (zz_preV [0, 1, 2, 3, 4, 5] hK hP hD rfl rfl (va_recv hK hP (ci := 6) (q0 := 0) rfl rfl)) rfl rfl hl.1 rfl (lv_room (Nat.le_of_ble_eq_true rfl)) dX6_othersBy_2 ⟨Nat.zero_le _, Nat.zero_le _⟩) hP hD hS hA rfl rfl rfl (by decide) (fun ok_2 H locs hP hD hS => ?_)
  have hP : va_P (dC, dI) vwCl [(o, .inr (6, [.ref o_page, .int vo_pageMany, .int vo_readMany, .int vo_state, .int vo_readMost, .ref o_readRows, .int vo_glasses, .int vo_towersRead, .int vo_poured, .ref o_rows, .ref o_turns, .ref o_amounts, .ref o_drank, .long vo_spilt, .ref o_takes, .ref o_leans, .ref o_would, .int vo_done, .int vo_seedNow, .int vo_keptTower, .int vo_keptPoured, .long vo_keptSpilt, .ref o_keptAmounts, .ref o_keptDrank, .ref o_keptTurns, .long vo_hash])), (o_rows, .inl (cI, 54, .inl vo_rows)), (o_amounts, .inl (cJ, 9, .inr (.inl vo_amounts))), (o_takes, .inl (cJ, 9, .inr (.inl u1))), (o_leans, .inl (cI, 9, .inl u2)), (o_would, .inl (cJ, 9, .inr (.inl u3)))] H := hP
  have hD : va_D A [(o, .inr (6, [.ref o_page, .int vo_pageMany, .int vo_readMany, .int vo_state, .int vo_readMost, .ref o_readRows, .int vo_glasses, .int vo_towersRead, .int vo_poured, .ref o_rows, .ref o_turns, .ref o_amounts, .ref o_drank, .long vo_spilt, .ref o_takes, .ref o_leans, .ref o_would, .int vo_done, .int vo_seedNow, .int vo_keptTower, .int vo_keptPoured, .long vo_keptSpilt, .ref o_keptAmounts, .ref o_keptDrank, .ref o_keptTurns, .long vo_hash])), (o_rows, .inl (cI, 54, .inl vo_rows)), (o_amounts, .inl (cJ, 9, .inr (.inl vo_amounts))), (o_takes, .inl (cJ, 9, .inr (.inl u1))), (o_leans, .inl (cI, 9, .inl u2)), (o_would, .inl (cJ, 9, .inr (.inl u3)))] := hD
  refine lv_aload_n hx hb dX6_othersBy_5 rfl (lv_at hl 0 rfl) ?_
  refine va_get (D := (dC, dI)) (ci := 6) (v := .ref o_takes) (C := RX6) (T := TX6) (N := 26) hx hb hts hwX6 hown hK hP 0 rfl rfl 14 (by decide) hf_29 (fun _ h9 => h9) rfl dX6_othersBy_6 ?_
  refine lv_iload_n hx hb dX6_othersBy_9 rfl (lv_at hl 1 rfl) ?_
  refine lv_iload_n hx hb dX6_othersBy_10 rfl (lv_at hl 3 rfl) ?_
  refine zz_join1 hT 24 (fun v => [.long v, .int p1, .ref o_takes]) (fun v H locs ls => va_P (dC, dI) vwCl [(o, .inr (6, [.ref o_page, .int vo_pageMany, .int vo_readMany, .int vo_state, .int vo_readMost, .ref o_readRows, .int vo_glasses, .int vo_towersRead, .int vo_poured, .ref o_rows, .ref o_turns, .ref o_amounts, .ref o_drank, .long vo_spilt, .ref o_takes, .ref o_leans, .ref o_would, .int vo_done, .int vo_seedNow, .int vo_keptTower, .int vo_keptPoured, .long vo_keptSpilt, .ref o_keptAmounts, .ref o_keptDrank, .ref o_keptTurns, .long vo_hash])), (o_rows, .inl (cI, 54, .inl vo_rows)), (o_amounts, .inl (cJ, 9, .inr (.inl vo_amounts))), (o_takes, .inl (cJ, 9, .inr (.inl u1))), (o_leans, .inl (cI, 9, .inl u2)), (o_would, .inl (cJ, 9, .inr (.inl u3)))] H ∧ va_D A [(o, .inr (6, [.ref o_page, .int vo_pageMany, .int vo_readMany, .int vo_state, .int vo_readMost, .ref o_readRows, .int vo_glasses, .int vo_towersRead, .int vo_poured, .ref o_rows, .ref o_turns, .ref o_amounts, .ref o_drank, .long vo_spilt, .ref o_takes, .ref o_leans, .ref o_would, .int vo_done, .int vo_seedNow, .int vo_keptTower, .int vo_keptPoured, .long vo_keptSpilt, .ref o_keptAmounts, .ref o_keptDrank, .ref o_keptTurns, .long vo_hash])), (o_rows, .inl (cI, 54, .inl vo_rows)), (o_amounts, .inl (cJ, 9, .inr (.inl vo_amounts))), (o_takes, .inl (cJ, 9, .inr (.inl u1))), (o_leans, .inl (cI, 9, .inl u2)), (o_would, .inl (cJ, 9, .inr (.inl u3)))] ∧ va_S A s.heap H locs ∧ lv_has ls 9 [(0, .ref o), (1, .int p1), (2, .int p2)]) ?_ ?_
  · rintro j4 ej_12 H locs ls ⟨hP, hD, hS, hl⟩
    replace hT := cut_n ej_12 hT
    have hP : va_P (dC, dI) vwCl [(o, .inr (6, [.ref o_page, .int vo_pageMany, .int vo_readMany, .int vo_state, .int vo_readMost, .ref o_readRows, .int vo_glasses, .int vo_towersRead, .int vo_poured, .ref o_rows, .ref o_turns, .ref o_amounts, .ref o_drank, .long vo_spilt, .ref o_takes, .ref o_leans, .ref o_would, .int vo_done, .int vo_seedNow, .int vo_keptTower, .int vo_keptPoured, .long vo_keptSpilt, .ref o_keptAmounts, .ref o_keptDrank, .ref o_keptTurns, .long vo_hash])), (o_rows, .inl (cI, 54, .inl vo_rows)), (o_amounts, .inl (cJ, 9, .inr (.inl vo_amounts))), (o_takes, .inl (cJ, 9, .inr (.inl u1))), (o_leans, .inl (cI, 9, .inl u2)), (o_would, .inl (cJ, 9, .inr (.inl u3)))] H := hP
    have hD : va_D A [(o, .inr (6, [.ref o_page, .int vo_pageMany, .int vo_readMany, .int vo_state, .int vo_readMost, .ref o_readRows, .int vo_glasses, .int vo_towersRead, .int vo_poured, .ref o_rows, .ref o_turns, .ref o_amounts, .ref o_drank, .long vo_spilt, .ref o_takes, .ref o_leans, .ref o_would, .int vo_done, .int vo_seedNow, .int vo_keptTower, .int vo_keptPoured, .long vo_keptSpilt, .ref o_keptAmounts, .ref o_keptDrank, .ref o_keptTurns, .long vo_hash])), (o_rows, .inl (cI, 54, .inl vo_rows)), (o_amounts, .inl (cJ, 9, .inr (.inl vo_amounts))), (o_takes, .inl (cJ, 9, .inr (.inl u1))), (o_leans, .inl (cI, 9, .inl u2)), (o_would, .inl (cJ, 9, .inr (.inl u3)))] := hD
    have hl : lv_has ls 9 [(0, .ref o), (1, .int p1), (2, .int p2)] := hl
    have h_5 : vp_in p1 9 := zin (by omega) (by omega)
    refine va_last hx hb hK hP hD hS 3 1 rfl rfl h_5 dX6_othersBy_24 (fun H locs hP hD hS => ?_)
    obtain ⟨a5, ea5⟩ : ∃ z, (vp_updL u1 p1.toNatClampNeg j4) = z := ⟨_, rfl⟩
    replace hT := cut_n ea5 hT
    have hP : va_P (dC, dI) vwCl [(o, .inr (6, [.ref o_page, .int vo_pageMany, .int vo_readMany, .int vo_state, .int vo_readMost, .ref o_readRows, .int vo_glasses, .int vo_towersRead, .int vo_poured, .ref o_rows, .ref o_turns, .ref o_amounts, .ref o_drank, .long vo_spilt, .ref o_takes, .ref o_leans, .ref o_would, .int vo_done, .int vo_seedNow, .int vo_keptTower, .int vo_keptPoured, .long vo_keptSpilt, .ref o_keptAmounts, .ref o_keptDrank, .ref o_keptTurns, .long vo_hash])), (o_rows, .inl (cI, 54, .inl vo_rows)), (o_amounts, .inl (cJ, 9, .inr (.inl vo_amounts))), (o_takes, .inl (cJ, 9, .inr (.inl a5))), (o_leans, .inl (cI, 9, .inl u2)), (o_would, .inl (cJ, 9, .inr (.inl u3)))] H := by rw [← ea5]; exact hP
    have hD : va_D A [(o, .inr (6, [.ref o_page, .int vo_pageMany, .int vo_readMany, .int vo_state, .int vo_readMost, .ref o_readRows, .int vo_glasses, .int vo_towersRead, .int vo_poured, .ref o_rows, .ref o_turns, .ref o_amounts, .ref o_drank, .long vo_spilt, .ref o_takes, .ref o_leans, .ref o_would, .int vo_done, .int vo_seedNow, .int vo_keptTower, .int vo_keptPoured, .long vo_keptSpilt, .ref o_keptAmounts, .ref o_keptDrank, .ref o_keptTurns, .long vo_hash])), (o_rows, .inl (cI, 54, .inl vo_rows)), (o_amounts, .inl (cJ, 9, .inr (.inl vo_amounts))), (o_takes, .inl (cJ, 9, .inr (.inl a5))), (o_leans, .inl (cI, 9, .inl u2)), (o_would, .inl (cJ, 9, .inr (.inl u3)))] := by rw [← ea5]; exact hD
    refine lv_aload_n hx hb dX6_othersBy_25 rfl (lv_at hl 0 rfl) ?_
    refine va_get (D := (dC, dI)) (ci := 6) (v := .ref o_would) (C := RX6) (T := TX6) (N := 26) hx hb hts hwX6 hown hK hP 0 rfl rfl 16 (by decide) hf_35 (fun _ h9 => h9) rfl dX6_othersBy_26 ?_
    refine lv_iconst (v := (0 : Int32)) hx hb dX6_othersBy_29 (by decide) ?_
    refine lv_ldc2 (v := (429981696 : Int64)) hx hb hown hc_113 dX6_othersBy_30 ?_
    refine lv_iload_n hx hb dX6_othersBy_33 rfl (lv_at hl 2 rfl) ?_
    refine lv_i2l (v := (p2.toInt64)) hx hb dX6_othersBy_34 rfl ?_
    refine lv_lmul hx hb dX6_othersBy_35 ?_
    have h_6 : vp_in (0 : Int32) 9 := zin (by decide) (by decide)
    refine va_last hx hb hK hP hD hS 5 1 rfl rfl h_6 dX6_othersBy_36 (fun H locs hP hD hS => ?_)
    obtain ⟨a6, ea6⟩ : ∃ z, (vp_updL u3 (0 : Int32).toNatClampNeg ((429981696 : Int64) * (p2.toInt64))) = z := ⟨_, rfl⟩
    replace hT := cut_n ea6 hT
    have hP : va_P (dC, dI) vwCl [(o, .inr (6, [.ref o_page, .int vo_pageMany, .int vo_readMany, .int vo_state, .int vo_readMost, .ref o_readRows, .int vo_glasses, .int vo_towersRead, .int vo_poured, .ref o_rows, .ref o_turns, .ref o_amounts, .ref o_drank, .long vo_spilt, .ref o_takes, .ref o_leans, .ref o_would, .int vo_done, .int vo_seedNow, .int vo_keptTower, .int vo_keptPoured, .long vo_keptSpilt, .ref o_keptAmounts, .ref o_keptDrank, .ref o_keptTurns, .long vo_hash])), (o_rows, .inl (cI, 54, .inl vo_rows)), (o_amounts, .inl (cJ, 9, .inr (.inl vo_amounts))), (o_takes, .inl (cJ, 9, .inr (.inl a5))), (o_leans, .inl (cI, 9, .inl u2)), (o_would, .inl (cJ, 9, .inr (.inl a6)))] H := by rw [← ea6]; exact hP
    have hD : va_D A [(o, .inr (6, [.ref o_page, .int vo_pageMany, .int vo_readMany, .int vo_state, .int vo_readMost, .ref o_readRows, .int vo_glasses, .int vo_towersRead, .int vo_poured, .ref o_rows, .ref o_turns, .ref o_amounts, .ref o_drank, .long vo_spilt, .ref o_takes, .ref o_leans, .ref o_would, .int vo_done, .int vo_seedNow, .int vo_keptTower, .int vo_keptPoured, .long vo_keptSpilt, .ref o_keptAmounts, .ref o_keptDrank, .ref o_keptTurns, .long vo_hash])), (o_rows, .inl (cI, 54, .inl vo_rows)), (o_amounts, .inl (cJ, 9, .inr (.inl vo_amounts))), (o_takes, .inl (cJ, 9, .inr (.inl a5))), (o_leans, .inl (cI, 9, .inl u2)), (o_would, .inl (cJ, 9, .inr (.inl a6)))] := by rw [← ea6]; exact hD
    refine lv_aload_n hx hb dX6_othersBy_37 rfl (lv_at hl 0 rfl) ?_
    refine lv_aload_n hx hb dX6_othersBy_38 rfl (lv_at hl 0 rfl) ?_
    refine va_get (D := (dC, dI)) (ci := 6) (v := .ref o_would) (C := RX6) (T := TX6) (N := 26) hx hb hts hwX6 hown hK hP 0 rfl rfl 16 (by decide) hf_35 (fun _ h9 => h9) rfl dX6_othersBy_39 ?_
    obtain ⟨r7, u8, ev_7⟩ : ∃ x0 x1, (m_X6_runOver_w vo_glasses vo_rows a5 u2 a6) = (x0, x1) := ⟨_, _, rfl⟩
    replace hT := cut2_n ev_7 hT
    refine zz_cl [0, 1, 3, 4, 5] [2] (wr := [(o_amounts, .inl (cJ, 9, .inr (.inl vo_amounts)))]) (w1 := [(o, .inr (6, [.ref o_page, .int vo_pageMany, .int vo_readMany, .int vo_state, .int vo_readMost, .ref o_readRows, .int vo_glasses, .int vo_towersRead, .int vo_poured, .ref o_rows, .ref o_turns, .ref o_amounts, .ref o_drank, .long vo_spilt, .ref o_takes, .ref o_leans, .ref o_would, .int vo_done, .int vo_seedNow, .int vo_keptTower, .int vo_keptPoured, .long vo_keptSpilt, .ref o_keptAmounts, .ref o_keptDrank, .ref o_keptTurns, .long vo_hash])), (o_rows, .inl (cI, 54, .inl vo_rows)), (o_takes, .inl (cJ, 9, .inr (.inl a5))), (o_leans, .inl (cI, 9, .inl u2)), (o_would, .inl (cJ, 9, .inr (.inl u8)))]) (va_runV (As := [.ref o_would]) (rest := []) ⟨hx, hb, hml, hown, hts⟩ (k_X6_runOver_w l dC dI cI cJ cC H.size o o_page o_readRows o_rows o_turns o_amounts o_drank o_takes o_leans o_would o_keptAmounts o_keptDrank o_keptTurns vo_pageMany vo_readMany vo_state vo_readMost vo_glasses vo_towersRead vo_poured vo_spilt vo_done vo_seedNow vo_keptTower vo_keptPoured vo_keptSpilt vo_hash vo_rows a5 u2 a6 r7 u8 ev_7 hg0 hg9 hrw ok_2) (cwV 1 hts gX6_othersBy_X6_runOver rfl rfl rfl (by decide +kernel) ⟨Nat.le_of_ble_eq_true rfl, Nat.le_of_ble_eq_true rfl⟩) (zz_preV [0, 1, 3, 4, 5] hK hP hD rfl rfl (va_recv hK hP (ci := 6) (q0 := 0) rfl rfl)) rfl rfl hl.1 rfl (lv_room (Nat.le_of_ble_eq_true rfl)) dX6_othersBy_42 ⟨Nat.zero_le _, Nat.zero_le _⟩) hP hD hS hA rfl rfl rfl (by decide) (fun ok_8 H locs hP hD hS => ?_)
    have hP : va_P (dC, dI) vwCl [(o_amounts, .inl (cJ, 9, .inr (.inl vo_amounts))), (o, .inr (6, [.ref o_page, .int vo_pageMany, .int vo_readMany, .int vo_state, .int vo_readMost, .ref o_readRows, .int vo_glasses, .int vo_towersRead, .int vo_poured, .ref o_rows, .ref o_turns, .ref o_amounts, .ref o_drank, .long vo_spilt, .ref o_takes, .ref o_leans, .ref o_would, .int vo_done, .int vo_seedNow, .int vo_keptTower, .int vo_keptPoured, .long vo_keptSpilt, .ref o_keptAmounts, .ref o_keptDrank, .ref o_keptTurns, .long vo_hash])), (o_rows, .inl (cI, 54, .inl vo_rows)), (o_takes, .inl (cJ, 9, .inr (.inl a5))), (o_leans, .inl (cI, 9, .inl u2)), (o_would, .inl (cJ, 9, .inr (.inl u8)))] H := hP
    have hD : va_D A [(o_amounts, .inl (cJ, 9, .inr (.inl vo_amounts))), (o, .inr (6, [.ref o_page, .int vo_pageMany, .int vo_readMany, .int vo_state, .int vo_readMost, .ref o_readRows, .int vo_glasses, .int vo_towersRead, .int vo_poured, .ref o_rows, .ref o_turns, .ref o_amounts, .ref o_drank, .long vo_spilt, .ref o_takes, .ref o_leans, .ref o_would, .int vo_done, .int vo_seedNow, .int vo_keptTower, .int vo_keptPoured, .long vo_keptSpilt, .ref o_keptAmounts, .ref o_keptDrank, .ref o_keptTurns, .long vo_hash])), (o_rows, .inl (cI, 54, .inl vo_rows)), (o_takes, .inl (cJ, 9, .inr (.inl a5))), (o_leans, .inl (cI, 9, .inl u2)), (o_would, .inl (cJ, 9, .inr (.inl u8)))] := hD
    refine lv_lstore (lv' := [(4, .long r7), (0, .ref o), (1, .int p1), (2, .int p2)]) hx hb dX6_othersBy_45 hl (by decide) rfl (fun ls hl => ?_)
    refine lv_lconst (v := (0 : Int64)) hx hb dX6_othersBy_47 (by decide) ?_
    refine lv_lstore (lv' := [(6, .long (0 : Int64)), (4, .long r7), (0, .ref o), (1, .int p1), (2, .int p2)]) hx hb dX6_othersBy_48 hl (by decide) rfl (fun ls hl => ?_)
    refine lv_iconst (v := (0 : Int32)) hx hb dX6_othersBy_50 (by decide) ?_
    refine lv_istore (lv' := [(8, .int (0 : Int32)), (6, .long (0 : Int64)), (4, .long r7), (0, .ref o), (1, .int p1), (2, .int p2)]) hx hb dX6_othersBy_51 hl (by decide) rfl (fun ls hl => ?_)
    have hz_13 : ((0 : Int32)).toInt = 0 := by decide
    refine zz_loop (α := Int32 × Int64) 90 (fun k a H locs ls => (0 ≤ a.1.toInt) ∧ (a.1.toInt ≤ vo_glasses.toInt) ∧ (vo_glasses.toInt - a.1.toInt < ((k : Nat) : Int)) ∧ lp_X6_othersBy_2 vo_glasses (rs_X6_othersBy_2 a5 u2 u8) p1 u8 k a.1 a.2 = (r, qo_takes, qo_leans, qo_would) ∧ va_P (dC, dI) vwCl [(o_amounts, .inl (cJ, 9, .inr (.inl vo_amounts))), (o, .inr (6, [.ref o_page, .int vo_pageMany, .int vo_readMany, .int vo_state, .int vo_readMost, .ref o_readRows, .int vo_glasses, .int vo_towersRead, .int vo_poured, .ref o_rows, .ref o_turns, .ref o_amounts, .ref o_drank, .long vo_spilt, .ref o_takes, .ref o_leans, .ref o_would, .int vo_done, .int vo_seedNow, .int vo_keptTower, .int vo_keptPoured, .long vo_keptSpilt, .ref o_keptAmounts, .ref o_keptDrank, .ref o_keptTurns, .long vo_hash])), (o_rows, .inl (cI, 54, .inl vo_rows)), (o_takes, .inl (cJ, 9, .inr (.inl a5))), (o_leans, .inl (cI, 9, .inl u2)), (o_would, .inl (cJ, 9, .inr (.inl u8)))] H ∧ va_D A [(o_amounts, .inl (cJ, 9, .inr (.inl vo_amounts))), (o, .inr (6, [.ref o_page, .int vo_pageMany, .int vo_readMany, .int vo_state, .int vo_readMost, .ref o_readRows, .int vo_glasses, .int vo_towersRead, .int vo_poured, .ref o_rows, .ref o_turns, .ref o_amounts, .ref o_drank, .long vo_spilt, .ref o_takes, .ref o_leans, .ref o_would, .int vo_done, .int vo_seedNow, .int vo_keptTower, .int vo_keptPoured, .long vo_keptSpilt, .ref o_keptAmounts, .ref o_keptDrank, .ref o_keptTurns, .long vo_hash])), (o_rows, .inl (cI, 54, .inl vo_rows)), (o_takes, .inl (cJ, 9, .inr (.inl a5))), (o_leans, .inl (cI, 9, .inl u2)), (o_would, .inl (cJ, 9, .inr (.inl u8)))] ∧ va_S A s.heap H locs ∧ lv_has ls 9 [(8, .int a.1), (6, .long a.2), (0, .ref o), (1, .int p1)]) (fun a H locs ls => (0 ≤ a.1.toInt) ∧ (a.1.toInt ≤ vo_glasses.toInt) ∧ (rs_X6_othersBy_2 a5 u2 u8) a.1 a.2 = (r, qo_takes, qo_leans, qo_would) ∧ va_P (dC, dI) vwCl [(o_amounts, .inl (cJ, 9, .inr (.inl vo_amounts))), (o, .inr (6, [.ref o_page, .int vo_pageMany, .int vo_readMany, .int vo_state, .int vo_readMost, .ref o_readRows, .int vo_glasses, .int vo_towersRead, .int vo_poured, .ref o_rows, .ref o_turns, .ref o_amounts, .ref o_drank, .long vo_spilt, .ref o_takes, .ref o_leans, .ref o_would, .int vo_done, .int vo_seedNow, .int vo_keptTower, .int vo_keptPoured, .long vo_keptSpilt, .ref o_keptAmounts, .ref o_keptDrank, .ref o_keptTurns, .long vo_hash])), (o_rows, .inl (cI, 54, .inl vo_rows)), (o_takes, .inl (cJ, 9, .inr (.inl a5))), (o_leans, .inl (cI, 9, .inl u2)), (o_would, .inl (cJ, 9, .inr (.inl u8)))] H ∧ va_D A [(o_amounts, .inl (cJ, 9, .inr (.inl vo_amounts))), (o, .inr (6, [.ref o_page, .int vo_pageMany, .int vo_readMany, .int vo_state, .int vo_readMost, .ref o_readRows, .int vo_glasses, .int vo_towersRead, .int vo_poured, .ref o_rows, .ref o_turns, .ref o_amounts, .ref o_drank, .long vo_spilt, .ref o_takes, .ref o_leans, .ref o_would, .int vo_done, .int vo_seedNow, .int vo_keptTower, .int vo_keptPoured, .long vo_keptSpilt, .ref o_keptAmounts, .ref o_keptDrank, .ref o_keptTurns, .long vo_hash])), (o_rows, .inl (cI, 54, .inl vo_rows)), (o_takes, .inl (cJ, 9, .inr (.inl a5))), (o_leans, .inl (cI, 9, .inl u2)), (o_would, .inl (cJ, 9, .inr (.inl u8)))] ∧ va_S A s.heap H locs ∧ lv_has ls 9 [(6, .long a.2)]) ?_ ?_ ?_ 11 ((0 : Int32), (0 : Int64)) ⟨(by omega : 0 ≤ (0 : Int32).toInt), (by omega : (0 : Int32).toInt ≤ vo_glasses.toInt), (by omega : vo_glasses.toInt - (0 : Int32).toInt < ((11 : Nat) : Int)), hT, hP.sub [0, 1, 2, 3, 4, 5] rfl, hD.sub [0, 1, 2, 3, 4, 5] rfl rfl, hS, lv_sub hl [0, 1, 3, 4] rfl⟩
    · rintro ⟨x11, x12⟩ H locs ls ⟨i1, j1, hT, hP, hD, hS, hl⟩
      have hP : va_P (dC, dI) vwCl [(o_amounts, .inl (cJ, 9, .inr (.inl vo_amounts))), (o, .inr (6, [.ref o_page, .int vo_pageMany, .int vo_readMany, .int vo_state, .int vo_readMost, .ref o_readRows, .int vo_glasses, .int vo_towersRead, .int vo_poured, .ref o_rows, .ref o_turns, .ref o_amounts, .ref o_drank, .long vo_spilt, .ref o_takes, .ref o_leans, .ref o_would, .int vo_done, .int vo_seedNow, .int vo_keptTower, .int vo_keptPoured, .long vo_keptSpilt, .ref o_keptAmounts, .ref o_keptDrank, .ref o_keptTurns, .long vo_hash])), (o_rows, .inl (cI, 54, .inl vo_rows)), (o_takes, .inl (cJ, 9, .inr (.inl a5))), (o_leans, .inl (cI, 9, .inl u2)), (o_would, .inl (cJ, 9, .inr (.inl u8)))] H := hP
      have hD : va_D A [(o_amounts, .inl (cJ, 9, .inr (.inl vo_amounts))), (o, .inr (6, [.ref o_page, .int vo_pageMany, .int vo_readMany, .int vo_state, .int vo_readMost, .ref o_readRows, .int vo_glasses, .int vo_towersRead, .int vo_poured, .ref o_rows, .ref o_turns, .ref o_amounts, .ref o_drank, .long vo_spilt, .ref o_takes, .ref o_leans, .ref o_would, .int vo_done, .int vo_seedNow, .int vo_keptTower, .int vo_keptPoured, .long vo_keptSpilt, .ref o_keptAmounts, .ref o_keptDrank, .ref o_keptTurns, .long vo_hash])), (o_rows, .inl (cI, 54, .inl vo_rows)), (o_takes, .inl (cJ, 9, .inr (.inl a5))), (o_leans, .inl (cI, 9, .inl u2)), (o_would, .inl (cJ, 9, .inr (.inl u8)))] := hD
      have hl : lv_has ls 9 [(6, .long x12)] := hl
      have hT : (rs_X6_othersBy_2 a5 u2 u8) x11 x12 = (r, qo_takes, qo_leans, qo_would) := hT
      have i1 : 0 ≤ x11.toInt := i1
      have j1 : x11.toInt ≤ vo_glasses.toInt := j1
      refine lv_lload hx hb dX6_othersBy_90 (lv_at hl 0 rfl) ?_
      have hP9 := hP
      have hD9 := hD
      have hS9 := hS
      have hT : (x12, a5, u2, u8) = (r, qo_takes, qo_leans, qo_would) := hT
      cases hT
      subst hQ
      exact zz_lret hx hb hr [1, 2, 0, 3, 4, 5] hK hP9 hD9 hS9 rfl rfl (by assumption) hlocks dX6_othersBy_92
    · rintro ⟨b9, b10⟩ H locs ls ⟨i1, j1, hm, -⟩
      try dsimp only at *
      omega
    · intro k2 hex2 ih2
      rintro ⟨b9, b10⟩ H locs ls ⟨i1, j1, hm2, hT, hP, hD, hS, hl⟩
      have hP : va_P (dC, dI) vwCl [(o_amounts, .inl (cJ, 9, .inr (.inl vo_amounts))), (o, .inr (6, [.ref o_page, .int vo_pageMany, .int vo_readMany, .int vo_state, .int vo_readMost, .ref o_readRows, .int vo_glasses, .int vo_towersRead, .int vo_poured, .ref o_rows, .ref o_turns, .ref o_amounts, .ref o_drank, .long vo_spilt, .ref o_takes, .ref o_leans, .ref o_would, .int vo_done, .int vo_seedNow, .int vo_keptTower, .int vo_keptPoured, .long vo_keptSpilt, .ref o_keptAmounts, .ref o_keptDrank, .ref o_keptTurns, .long vo_hash])), (o_rows, .inl (cI, 54, .inl vo_rows)), (o_takes, .inl (cJ, 9, .inr (.inl a5))), (o_leans, .inl (cI, 9, .inl u2)), (o_would, .inl (cJ, 9, .inr (.inl u8)))] H := hP
      have hD : va_D A [(o_amounts, .inl (cJ, 9, .inr (.inl vo_amounts))), (o, .inr (6, [.ref o_page, .int vo_pageMany, .int vo_readMany, .int vo_state, .int vo_readMost, .ref o_readRows, .int vo_glasses, .int vo_towersRead, .int vo_poured, .ref o_rows, .ref o_turns, .ref o_amounts, .ref o_drank, .long vo_spilt, .ref o_takes, .ref o_leans, .ref o_would, .int vo_done, .int vo_seedNow, .int vo_keptTower, .int vo_keptPoured, .long vo_keptSpilt, .ref o_keptAmounts, .ref o_keptDrank, .ref o_keptTurns, .long vo_hash])), (o_rows, .inl (cI, 54, .inl vo_rows)), (o_takes, .inl (cJ, 9, .inr (.inl a5))), (o_leans, .inl (cI, 9, .inl u2)), (o_would, .inl (cJ, 9, .inr (.inl u8)))] := hD
      have hl : lv_has ls 9 [(8, .int b9), (6, .long b10), (0, .ref o), (1, .int p1)] := hl
      have hT : lp_X6_othersBy_2 vo_glasses (rs_X6_othersBy_2 a5 u2 u8) p1 u8 (k2 + 1) b9 b10 = (r, qo_takes, qo_leans, qo_would) := hT
      have i1 : 0 ≤ b9.toInt := i1
      have j1 : b9.toInt ≤ vo_glasses.toInt := j1
      have hm2 : vo_glasses.toInt - b9.toInt < (((k2 + 1) : Nat) : Int) := hm2
      try simp only [Int.natCast_add, Int.natCast_one, Nat.cast_add, Nat.cast_one] at hm2
      refine lv_iload hx hb dX6_othersBy_53 (lv_at hl 0 rfl) ?_
      refine lv_aload_n hx hb dX6_othersBy_55 rfl (lv_at hl 2 rfl) ?_
      refine va_get (D := (dC, dI)) (ci := 6) (v := .int vo_glasses) (C := RX6) (T := TX6) (N := 26) hx hb hts hwX6 hown hK hP 1 rfl rfl 6 (by decide) hf_97 (fun _ h9 => h9) rfl dX6_othersBy_56 ?_
      refine lv_icmp_ge (tgt := 90) hx hb dX6_othersBy_59 (by decide) (fun c_9 => ?_) (fun c_9 => ?_)
      · replace hT := cutT c_9 hT
        have g_14 := zleT (rfl : (vo_glasses).toInt = _) (rfl : (b9).toInt = _) c_9
        exact hex2 (b9, b10) _ _ _ ⟨(by omega : 0 ≤ b9.toInt), (by omega : b9.toInt ≤ vo_glasses.toInt), hT, hP.sub [0, 1, 2, 3, 4, 5] rfl, hD.sub [0, 1, 2, 3, 4, 5] rfl rfl, hS, lv_sub hl [1] rfl⟩
      · replace hT := cutF c_9 hT
        have g_15 := zleF (rfl : (vo_glasses).toInt = _) (rfl : (b9).toInt = _) c_9
        refine lv_lload hx hb dX6_othersBy_62 (lv_at hl 1 rfl) ?_
        refine lv_iload hx hb dX6_othersBy_64 (lv_at hl 0 rfl) ?_
        refine lv_iload_n hx hb dX6_othersBy_66 rfl (lv_at hl 3 rfl) ?_
        refine zz_join1 hT 81 (fun v => [.long v, .long b10]) (fun v H locs ls => va_P (dC, dI) vwCl [(o_amounts, .inl (cJ, 9, .inr (.inl vo_amounts))), (o, .inr (6, [.ref o_page, .int vo_pageMany, .int vo_readMany, .int vo_state, .int vo_readMost, .ref o_readRows, .int vo_glasses, .int vo_towersRead, .int vo_poured, .ref o_rows, .ref o_turns, .ref o_amounts, .ref o_drank, .long vo_spilt, .ref o_takes, .ref o_leans, .ref o_would, .int vo_done, .int vo_seedNow, .int vo_keptTower, .int vo_keptPoured, .long vo_keptSpilt, .ref o_keptAmounts, .ref o_keptDrank, .ref o_keptTurns, .long vo_hash])), (o_rows, .inl (cI, 54, .inl vo_rows)), (o_takes, .inl (cJ, 9, .inr (.inl a5))), (o_leans, .inl (cI, 9, .inl u2)), (o_would, .inl (cJ, 9, .inr (.inl u8)))] H ∧ va_D A [(o_amounts, .inl (cJ, 9, .inr (.inl vo_amounts))), (o, .inr (6, [.ref o_page, .int vo_pageMany, .int vo_readMany, .int vo_state, .int vo_readMost, .ref o_readRows, .int vo_glasses, .int vo_towersRead, .int vo_poured, .ref o_rows, .ref o_turns, .ref o_amounts, .ref o_drank, .long vo_spilt, .ref o_takes, .ref o_leans, .ref o_would, .int vo_done, .int vo_seedNow, .int vo_keptTower, .int vo_keptPoured, .long vo_keptSpilt, .ref o_keptAmounts, .ref o_keptDrank, .ref o_keptTurns, .long vo_hash])), (o_rows, .inl (cI, 54, .inl vo_rows)), (o_takes, .inl (cJ, 9, .inr (.inl a5))), (o_leans, .inl (cI, 9, .inl u2)), (o_would, .inl (cJ, 9, .inr (.inl u8)))] ∧ va_S A s.heap H locs ∧ lv_has ls 9 [(0, .ref o), (1, .int p1), (8, .int b9)]) ?_ ?_
        · rintro j13 ej_16 H locs ls ⟨hP, hD, hS, hl⟩
          replace hT := cut_n ej_16 hT
          have hP : va_P (dC, dI) vwCl [(o_amounts, .inl (cJ, 9, .inr (.inl vo_amounts))), (o, .inr (6, [.ref o_page, .int vo_pageMany, .int vo_readMany, .int vo_state, .int vo_readMost, .ref o_readRows, .int vo_glasses, .int vo_towersRead, .int vo_poured, .ref o_rows, .ref o_turns, .ref o_amounts, .ref o_drank, .long vo_spilt, .ref o_takes, .ref o_leans, .ref o_would, .int vo_done, .int vo_seedNow, .int vo_keptTower, .int vo_keptPoured, .long vo_keptSpilt, .ref o_keptAmounts, .ref o_keptDrank, .ref o_keptTurns, .long vo_hash])), (o_rows, .inl (cI, 54, .inl vo_rows)), (o_takes, .inl (cJ, 9, .inr (.inl a5))), (o_leans, .inl (cI, 9, .inl u2)), (o_would, .inl (cJ, 9, .inr (.inl u8)))] H := hP
          have hD : va_D A [(o_amounts, .inl (cJ, 9, .inr (.inl vo_amounts))), (o, .inr (6, [.ref o_page, .int vo_pageMany, .int vo_readMany, .int vo_state, .int vo_readMost, .ref o_readRows, .int vo_glasses, .int vo_towersRead, .int vo_poured, .ref o_rows, .ref o_turns, .ref o_amounts, .ref o_drank, .long vo_spilt, .ref o_takes, .ref o_leans, .ref o_would, .int vo_done, .int vo_seedNow, .int vo_keptTower, .int vo_keptPoured, .long vo_keptSpilt, .ref o_keptAmounts, .ref o_keptDrank, .ref o_keptTurns, .long vo_hash])), (o_rows, .inl (cI, 54, .inl vo_rows)), (o_takes, .inl (cJ, 9, .inr (.inl a5))), (o_leans, .inl (cI, 9, .inl u2)), (o_would, .inl (cJ, 9, .inr (.inl u8)))] := hD
          have hl : lv_has ls 9 [(0, .ref o), (1, .int p1), (8, .int b9)] := hl
          refine lv_ladd hx hb dX6_othersBy_81 ?_
          refine lv_topl (fun v14 ev14 => ?_)
          replace hT := cut_n ev14.symm hT
          refine lv_lstore (lv' := [(6, .long v14), (0, .ref o), (1, .int p1), (8, .int b9)]) hx hb dX6_othersBy_82 hl (by decide) rfl (fun ls hl => ?_)
          obtain ⟨v15, ev15⟩ : ∃ y : Int32, (b9 + (1 : Int32)) = y := ⟨_, rfl⟩
          replace hT := cut_n ev15 hT
          try have fv15 := zaddE (rfl : (b9).toInt = _) (by decide : ((1 : Int32)).toInt = 1) ev15 (by omega) (by omega)
          refine lv_iinc (v := v15) (lv' := [(8, .int v15), (6, .long v14), (0, .ref o), (1, .int p1)]) hx hb dX6_othersBy_84 hl (k := 3) rfl (by rw [← ev15]; rfl) (by decide) rfl (fun ls hl => ?_)
          refine lv_goto (tgt := 53) hx hb dX6_othersBy_87 (by decide) ?_
          exact ih2 (v15, v14) _ _ _ ⟨(by omega : 0 ≤ v15.toInt), (by omega : v15.toInt ≤ vo_glasses.toInt), (by omega : vo_glasses.toInt - v15.toInt < ((k2 : Nat) : Int)), hT, hP.sub [0, 1, 2, 3, 4, 5] rfl, hD.sub [0, 1, 2, 3, 4, 5] rfl rfl, hS, lv_sub hl [0, 1, 2, 3] rfl⟩
        · intro xv hT hM
          refine lv_icmp_ne (tgt := 74) hx hb dX6_othersBy_67 (by decide) (fun c_10 => ?_) (fun c_10 => ?_)
          · replace hT := cutF c_10 hT
            have g_17 := zeqF (rfl : (b9).toInt = _) (rfl : (p1).toInt = _) c_10
            refine lv_aload_n hx hb dX6_othersBy_74 rfl (lv_at hl 2 rfl) ?_
            refine va_get (D := (dC, dI)) (ci := 6) (v := .ref o_would) (C := RX6) (T := TX6) (N := 26) hx hb hts hwX6 hown hK hP 1 rfl rfl 16 (by decide) hf_35 (fun _ h9 => h9) rfl dX6_othersBy_75 ?_
            refine lv_iload hx hb dX6_othersBy_78 (lv_at hl 0 rfl) ?_
            have h_11 : vp_in b9 9 := zin (by omega) (by omega)
            refine va_lald hx hb hK hP 5 1 rfl rfl h_11 dX6_othersBy_80 ?_
            have hP9 := hP
            have hD9 := hD
            have hS9 := hS
            have hl9 := hl
            have hM9 := hM
            have hT : (u8 b9.toNatClampNeg) = xv := hT
            subst hT
            exact hM9 _ _ _ ⟨hP9.sub [0, 1, 2, 3, 4, 5] rfl, hD9.sub [0, 1, 2, 3, 4, 5] rfl rfl, hS9, lv_sub hl9 [2, 3, 0] rfl⟩
          · replace hT := cutT c_10 hT
            have g_18 := zeqT (rfl : (b9).toInt = _) (rfl : (p1).toInt = _) c_10
            refine lv_lconst (v := (0 : Int64)) hx hb dX6_othersBy_70 (by decide) ?_
            refine lv_goto (tgt := 81) hx hb dX6_othersBy_71 (by decide) ?_
            have hP9 := hP
            have hD9 := hD
            have hS9 := hS
            have hl9 := hl
            have hM9 := hM
            have hT : (0 : Int64) = xv := hT
            subst hT
            exact hM9 _ _ _ ⟨hP9.sub [0, 1, 2, 3, 4, 5] rfl, hD9.sub [0, 1, 2, 3, 4, 5] rfl rfl, hS9, lv_sub hl9 [2, 3, 0] rfl⟩
  · intro xv hT hM
    refine lv_if_eq (tgt := 18) hx hb dX6_othersBy_11 (by decide) (fun c_3 => ?_) (fun c_3 => ?_)
    · replace hT := cutT c_3 hT
      have g_19 := zeqT (rfl : (p3).toInt = _) (by decide : ((0 : Int32)).toInt = 0) c_3
      refine lv_aload_n hx hb dX6_othersBy_18 rfl (lv_at hl 0 rfl) ?_
      refine va_get (D := (dC, dI)) (ci := 6) (v := .ref o_takes) (C := RX6) (T := TX6) (N := 26) hx hb hts hwX6 hown hK hP 0 rfl rfl 14 (by decide) hf_29 (fun _ h9 => h9) rfl dX6_othersBy_19 ?_
      refine lv_iload_n hx hb dX6_othersBy_22 rfl (lv_at hl 1 rfl) ?_
      have h_4 : vp_in p1 9 := zin (by omega) (by omega)
      refine va_lald hx hb hK hP 3 1 rfl rfl h_4 dX6_othersBy_23 ?_
      have hP9 := hP
      have hD9 := hD
      have hS9 := hS
      have hl9 := hl
      have hM9 := hM
      have hT : (u1 p1.toNatClampNeg) = xv := hT
      subst hT
      exact hM9 _ _ _ ⟨hP9.sub [0, 1, 2, 3, 4, 5] rfl, hD9.sub [0, 1, 2, 3, 4, 5] rfl rfl, hS9, lv_sub hl9 [0, 1, 2] rfl⟩
    · replace hT := cutF c_3 hT
      have g_20 := zeqF (rfl : (p3).toInt = _) (by decide : ((0 : Int32)).toInt = 0) c_3
      refine lv_lconst (v := (0 : Int64)) hx hb dX6_othersBy_14 (by decide) ?_
      refine lv_goto (tgt := 24) hx hb dX6_othersBy_15 (by decide) ?_
      have hP9 := hP
      have hD9 := hD
      have hS9 := hS
      have hl9 := hl
      have hM9 := hM
      have hT : (0 : Int64) = xv := hT
      subst hT
      exact hM9 _ _ _ ⟨hP9.sub [0, 1, 2, 3, 4, 5] rfl, hD9.sub [0, 1, 2, 3, 4, 5] rfl rfl, hS9, lv_sub hl9 [0, 1, 2] rfl⟩

def m_X6_costs (vo_glasses : Int32) (vo_rows : Nat → Int32) (vo_amounts : Nat → Int64) (vo_takes : Nat → Int64) (vo_leans : Nat → Int32) (vo_would : Nat → Int64) (p1 : Int32) (p2 : Int32) (p3 : Int32) : Int64 × (Nat → Int64) × (Nat → Int32) × (Nat → Int64) :=
 cut (m_X6_isGlass vo_glasses p1) (fun (r1 : Int32) =>
 if r1 = (0 : Int32) then
  ((-101 : Int64), vo_takes, vo_leans, vo_would)
 else
  cut (m_X6_isIn (p2.toInt64) (1 : Int64) (99 : Int64)) (fun (r2 : Int32) =>
  if r2 = (0 : Int32) then
   ((-102 : Int64), vo_takes, vo_leans, vo_would)
  else
   cut (m_X6_isPart p3) (fun (r3 : Int32) =>
   if r3 = (0 : Int32) then
    ((-102 : Int64), vo_takes, vo_leans, vo_would)
   else
    cut4 (m_X6_othersBy vo_glasses vo_rows vo_amounts vo_takes vo_leans vo_would p1 p2 (1 : Int32)) (fun (r4 : Int64) (u5 : Nat → Int64) (u6 : Nat → Int32) (u7 : Nat → Int64) =>
    cut4 (m_X6_othersBy vo_glasses vo_rows vo_amounts u5 u6 u7 p1 p2 (0 : Int32)) (fun (r8 : Int64) (u9 : Nat → Int64) (u10 : Nat → Int32) (u11 : Nat → Int64) =>
    cut (m_X6_term (r4 - r8) p3) (fun (r12 : Int64) =>
    (r12, u9, u10, u11)))))))
set_option maxHeartbeats 4000000 in
set_option maxRecDepth 100000 in
theorem k_X6_costs (l : Launch) (dC : Nat → ClassId) (dI : Nat → Nat → Nat) (cI cJ cC : ClassId) (sz : Nat) (o o_page o_readRows o_rows o_turns o_amounts o_drank o_takes o_leans o_would o_keptAmounts o_keptDrank o_keptTurns : Nat) (vo_pageMany : Int32) (vo_readMany : Int32) (vo_state : Int32) (vo_readMost : Int32) (vo_glasses : Int32) (vo_towersRead : Int32) (vo_poured : Int32) (vo_spilt : Int64) (vo_done : Int32) (vo_seedNow : Int32) (vo_keptTower : Int32) (vo_keptPoured : Int32) (vo_keptSpilt : Int64) (vo_hash : Int64) (vo_rows : Nat → Int32) (vo_amounts : Nat → Int64) (vo_takes : Nat → Int64) (vo_leans : Nat → Int32) (vo_would : Nat → Int64) (p1 : Int32) (p2 : Int32) (p3 : Int32) (r : Int64) (qo_takes : Nat → Int64) (qo_leans : Nat → Int32) (qo_would : Nat → Int64) (hT : m_X6_costs vo_glasses vo_rows vo_amounts vo_takes vo_leans vo_would p1 p2 p3 = (r, qo_takes, qo_leans, qo_would)) (hg0 : 0 ≤ vo_glasses.toInt) (hg9 : vo_glasses.toInt ≤ 9) (hrw : zRw vo_rows) (hln : zLn vo_leans) : Met l yX6_costs wsX6_costs ({ frames := 4, cells := 0, slots := 0, locals := 94 }) (zPc [.ref o, .int p1, .int p2, .int p3] (dC, dI) (zTy cI cJ cC) [(o, .inr (6, [.ref o_page, .int vo_pageMany, .int vo_readMany, .int vo_state, .int vo_readMost, .ref o_readRows, .int vo_glasses, .int vo_towersRead, .int vo_poured, .ref o_rows, .ref o_turns, .ref o_amounts, .ref o_drank, .long vo_spilt, .ref o_takes, .ref o_leans, .ref o_would, .int vo_done, .int vo_seedNow, .int vo_keptTower, .int vo_keptPoured, .long vo_keptSpilt, .ref o_keptAmounts, .ref o_keptDrank, .ref o_keptTurns, .long vo_hash])), (o_rows, .inl (cI, 54, .inl vo_rows)), (o_amounts, .inl (cJ, 9, .inr (.inl vo_amounts))), (o_takes, .inl (cJ, 9, .inr (.inl vo_takes))), (o_leans, .inl (cI, 9, .inl vo_leans)), (o_would, .inl (cJ, 9, .inr (.inl vo_would)))] sz) (zQl r ((zLn qo_leans)) (dC, dI) (zTy cI cJ cC) [(o, .inr (6, [.ref o_page, .int vo_pageMany, .int vo_readMany, .int vo_state, .int vo_readMost, .ref o_readRows, .int vo_glasses, .int vo_towersRead, .int vo_poured, .ref o_rows, .ref o_turns, .ref o_amounts, .ref o_drank, .long vo_spilt, .ref o_takes, .ref o_leans, .ref o_would, .int vo_done, .int vo_seedNow, .int vo_keptTower, .int vo_keptPoured, .long vo_keptSpilt, .ref o_keptAmounts, .ref o_keptDrank, .ref o_keptTurns, .long vo_hash])), (o_rows, .inl (cI, 54, .inl vo_rows)), (o_amounts, .inl (cJ, 9, .inr (.inl vo_amounts))), (o_takes, .inl (cJ, 9, .inr (.inl qo_takes))), (o_leans, .inl (cI, 9, .inl qo_leans)), (o_would, .inl (cJ, 9, .inr (.inl qo_would)))] (va_A [(o, .inr (6, [.ref o_page, .int vo_pageMany, .int vo_readMany, .int vo_state, .int vo_readMost, .ref o_readRows, .int vo_glasses, .int vo_towersRead, .int vo_poured, .ref o_rows, .ref o_turns, .ref o_amounts, .ref o_drank, .long vo_spilt, .ref o_takes, .ref o_leans, .ref o_would, .int vo_done, .int vo_seedNow, .int vo_keptTower, .int vo_keptPoured, .long vo_keptSpilt, .ref o_keptAmounts, .ref o_keptDrank, .ref o_keptTurns, .long vo_hash])), (o_rows, .inl (cI, 54, .inl vo_rows)), (o_amounts, .inl (cJ, 9, .inr (.inl vo_amounts))), (o_takes, .inl (cJ, 9, .inr (.inl vo_takes))), (o_leans, .inl (cI, 9, .inl vo_leans)), (o_would, .inl (cJ, 9, .inr (.inl vo_would)))] sz)) 0 0 (va_A [(o, .inr (6, [.ref o_page, .int vo_pageMany, .int vo_readMany, .int vo_state, .int vo_readMost, .ref o_readRows, .int vo_glasses, .int vo_towersRead, .int vo_poured, .ref o_rows, .ref o_turns, .ref o_amounts, .ref o_drank, .long vo_spilt, .ref o_takes, .ref o_leans, .ref o_would, .int vo_done, .int vo_seedNow, .int vo_keptTower, .int vo_keptPoured, .long vo_keptSpilt, .ref o_keptAmounts, .ref o_keptDrank, .ref o_keptTurns, .long vo_hash])), (o_rows, .inl (cI, 54, .inl vo_rows)), (o_amounts, .inl (cJ, 9, .inr (.inl vo_amounts))), (o_takes, .inl (cJ, 9, .inr (.inl vo_takes))), (o_leans, .inl (cI, 9, .inl vo_leans)), (o_would, .inl (cJ, 9, .inr (.inl vo_would)))] sz) := by
  refine Met.ofW (cc := cX6_costs) (maxL := 4) (ret := (some .long)) (by decide) rfl ?_
  intro p e s m args below meth c s₁ B hml hv
  obtain ⟨rfl, hsz, hP, hK, hD0⟩ := hv
  have hx := B.exec
  have hb := B.bytes
  have hr := B.returns
  have hts := atoms_spec (ws := wsX6_costs) B.pre
  have hown : s.vm.findClass RX6 = some m.cls := findClass_of_methodNamed B.named
  have hlocks := B.notSynchronized
  subst hsz
  have hD := hD0.self (sz := s.heap.size)
  generalize hAe : va_A [(o, .inr (6, [.ref o_page, .int vo_pageMany, .int vo_readMany, .int vo_state, .int vo_readMost, .ref o_readRows, .int vo_glasses, .int vo_towersRead, .int vo_poured, .ref o_rows, .ref o_turns, .ref o_amounts, .ref o_drank, .long vo_spilt, .ref o_takes, .ref o_leans, .ref o_would, .int vo_done, .int vo_seedNow, .int vo_keptTower, .int vo_keptPoured, .long vo_keptSpilt, .ref o_keptAmounts, .ref o_keptDrank, .ref o_keptTurns, .long vo_hash])), (o_rows, .inl (cI, 54, .inl vo_rows)), (o_amounts, .inl (cJ, 9, .inr (.inl vo_amounts))), (o_takes, .inl (cJ, 9, .inr (.inl vo_takes))), (o_leans, .inl (cI, 9, .inl vo_leans)), (o_would, .inl (cJ, 9, .inr (.inl vo_would)))] s.heap.size = A at hD ⊢
  have hA : ∀ q : Nat, s.heap.size ≤ q → A q := fun q h => by rw [← hAe]; exact Or.inr h
  have hS : va_S A s.heap s.heap [] := va_S.rf
  have hP : va_P (dC, dI) vwCl [(o, .inr (6, [.ref o_page, .int vo_pageMany, .int vo_readMany, .int vo_state, .int vo_readMost, .ref o_readRows, .int vo_glasses, .int vo_towersRead, .int vo_poured, .ref o_rows, .ref o_turns, .ref o_amounts, .ref o_drank, .long vo_spilt, .ref o_takes, .ref o_leans, .ref o_would, .int vo_done, .int vo_seedNow, .int vo_keptTower, .int vo_keptPoured, .long vo_keptSpilt, .ref o_keptAmounts, .ref o_keptDrank, .ref o_keptTurns, .long vo_hash])), (o_rows, .inl (cI, 54, .inl vo_rows)), (o_amounts, .inl (cJ, 9, .inr (.inl vo_amounts))), (o_takes, .inl (cJ, 9, .inr (.inl vo_takes))), (o_leans, .inl (cI, 9, .inl vo_leans)), (o_would, .inl (cJ, 9, .inr (.inl vo_would)))] s.heap := hP
  have hK : va_K (dC, dI) vwCl (zTy cI cJ cC) s := hK
  have hl := lv_entry ([.ref o, .int p1, .int p2, .int p3]) (n := 4) (Nat.le_of_ble_eq_true rfl)
  rw [lg_entry_eq]
  generalize (lg_sl ([.ref o, .int p1, .int p2, .int p3]) ++ List.replicate (4 - (lg_sl ([.ref o, .int p1, .int p2, .int p3])).length) Slot.unset).toArray = ls at hl ⊢
  have hl : lv_has ls 4 [(0, .ref o), (1, .int p1), (2, .int p2), (3, .int p3)] := hl
  refine zz_start hP hS (fun Q hQ H locs hP hS => ?_)
  have hc_137 := (hts (.constantLong RX6 137 (99)) (by decide +kernel))
  have hc_143 := (hts (.constantLong RX6 143 (-101)) (by decide +kernel))
  have hc_152 := (hts (.constantLong RX6 152 (-102)) (by decide +kernel))
  refine lv_aload_n hx hb dX6_costs_0 rfl (lv_at hl 0 rfl) ?_
  refine lv_iload_n hx hb dX6_costs_1 rfl (lv_at hl 1 rfl) ?_
  obtain ⟨r1, ev_1⟩ : ∃ x0, (m_X6_isGlass vo_glasses p1) = x0 := ⟨_, rfl⟩
  replace hT := cut_n ev_1 hT
  refine zz_ci [0] [1, 2, 3, 4, 5] (wr := [(o_rows, .inl (cI, 54, .inl vo_rows)), (o_amounts, .inl (cJ, 9, .inr (.inl vo_amounts))), (o_takes, .inl (cJ, 9, .inr (.inl vo_takes))), (o_leans, .inl (cI, 9, .inl vo_leans)), (o_would, .inl (cJ, 9, .inr (.inl vo_would)))]) (w1 := [(o, .inr (6, [.ref o_page, .int vo_pageMany, .int vo_readMany, .int vo_state, .int vo_readMost, .ref o_readRows, .int vo_glasses, .int vo_towersRead, .int vo_poured, .ref o_rows, .ref o_turns, .ref o_amounts, .ref o_drank, .long vo_spilt, .ref o_takes, .ref o_leans, .ref o_would, .int vo_done, .int vo_seedNow, .int vo_keptTower, .int vo_keptPoured, .long vo_keptSpilt, .ref o_keptAmounts, .ref o_keptDrank, .ref o_keptTurns, .long vo_hash]))]) (va_runV (As := [.int p1]) (rest := []) ⟨hx, hb, hml, hown, hts⟩ (k_X6_isGlass l dC dI cI cJ cC H.size o o_page o_readRows o_rows o_turns o_amounts o_drank o_takes o_leans o_would o_keptAmounts o_keptDrank o_keptTurns vo_pageMany vo_readMany vo_state vo_readMost vo_glasses vo_towersRead vo_poured vo_spilt vo_done vo_seedNow vo_keptTower vo_keptPoured vo_keptSpilt vo_hash p1 r1 ev_1 hg0 hg9) (cwV 1 hts gX6_costs_X6_isGlass rfl rfl rfl (by decide +kernel) ⟨Nat.le_of_ble_eq_true rfl, Nat.le_of_ble_eq_true rfl⟩) (zz_preV [0] hK hP hD rfl rfl (va_recv hK hP (ci := 6) (q0 := 0) rfl rfl)) rfl rfl hl.1 rfl (lv_room (Nat.le_of_ble_eq_true rfl)) dX6_costs_2 ⟨Nat.zero_le _, Nat.zero_le _⟩) hP hD hS hA rfl rfl rfl (by decide) (fun ok_2 H locs hP hD hS => ?_)
  have hP : va_P (dC, dI) vwCl [(o_rows, .inl (cI, 54, .inl vo_rows)), (o_amounts, .inl (cJ, 9, .inr (.inl vo_amounts))), (o_takes, .inl (cJ, 9, .inr (.inl vo_takes))), (o_leans, .inl (cI, 9, .inl vo_leans)), (o_would, .inl (cJ, 9, .inr (.inl vo_would))), (o, .inr (6, [.ref o_page, .int vo_pageMany, .int vo_readMany, .int vo_state, .int vo_readMost, .ref o_readRows, .int vo_glasses, .int vo_towersRead, .int vo_poured, .ref o_rows, .ref o_turns, .ref o_amounts, .ref o_drank, .long vo_spilt, .ref o_takes, .ref o_leans, .ref o_would, .int vo_done, .int vo_seedNow, .int vo_keptTower, .int vo_keptPoured, .long vo_keptSpilt, .ref o_keptAmounts, .ref o_keptDrank, .ref o_keptTurns, .long vo_hash]))] H := hP
  have hD : va_D A [(o_rows, .inl (cI, 54, .inl vo_rows)), (o_amounts, .inl (cJ, 9, .inr (.inl vo_amounts))), (o_takes, .inl (cJ, 9, .inr (.inl vo_takes))), (o_leans, .inl (cI, 9, .inl vo_leans)), (o_would, .inl (cJ, 9, .inr (.inl vo_would))), (o, .inr (6, [.ref o_page, .int vo_pageMany, .int vo_readMany, .int vo_state, .int vo_readMost, .ref o_readRows, .int vo_glasses, .int vo_towersRead, .int vo_poured, .ref o_rows, .ref o_turns, .ref o_amounts, .ref o_drank, .long vo_spilt, .ref o_takes, .ref o_leans, .ref o_would, .int vo_done, .int vo_seedNow, .int vo_keptTower, .int vo_keptPoured, .long vo_keptSpilt, .ref o_keptAmounts, .ref o_keptDrank, .ref o_keptTurns, .long vo_hash]))] := hD
  obtain ⟨k_3, k_4⟩ := ok_2
  refine lv_if_ne (tgt := 12) hx hb dX6_costs_5 (by decide) (fun c_5 => ?_) (fun c_5 => ?_)
  · replace hT := cutF c_5 hT
    have g_23 := zeqF (rfl : (r1).toInt = _) (by decide : ((0 : Int32)).toInt = 0) c_5
    refine lv_iload_n hx hb dX6_costs_12 rfl (lv_at hl 2 rfl) ?_
    refine lv_i2l (v := (p2.toInt64)) hx hb dX6_costs_13 rfl ?_
    refine lv_lconst (v := (1 : Int64)) hx hb dX6_costs_14 (by decide) ?_
    refine lv_ldc2 (v := (99 : Int64)) hx hb hown hc_137 dX6_costs_15 ?_
    obtain ⟨r2, ev_6⟩ : ∃ x0, (m_X6_isIn (p2.toInt64) (1 : Int64) (99 : Int64)) = x0 := ⟨_, rfl⟩
    replace hT := cut_n ev_6 hT
    refine zz_ci [] [0, 1, 2, 3, 4, 5] (wr := [(o_rows, .inl (cI, 54, .inl vo_rows)), (o_amounts, .inl (cJ, 9, .inr (.inl vo_amounts))), (o_takes, .inl (cJ, 9, .inr (.inl vo_takes))), (o_leans, .inl (cI, 9, .inl vo_leans)), (o_would, .inl (cJ, 9, .inr (.inl vo_would))), (o, .inr (6, [.ref o_page, .int vo_pageMany, .int vo_readMany, .int vo_state, .int vo_readMost, .ref o_readRows, .int vo_glasses, .int vo_towersRead, .int vo_poured, .ref o_rows, .ref o_turns, .ref o_amounts, .ref o_drank, .long vo_spilt, .ref o_takes, .ref o_leans, .ref o_would, .int vo_done, .int vo_seedNow, .int vo_keptTower, .int vo_keptPoured, .long vo_keptSpilt, .ref o_keptAmounts, .ref o_keptDrank, .ref o_keptTurns, .long vo_hash]))]) (w1 := []) (va_runS (As := [.long (p2.toInt64), .long (1 : Int64), .long (99 : Int64)]) (rest := []) ⟨hx, hb, hml, hown, hts⟩ (k_X6_isIn l dC dI cI cJ cC H.size (p2.toInt64) (1 : Int64) (99 : Int64) r2 ev_6) (va_cwS 3 hts gX6_costs_X6_isIn rfl rfl rfl (by decide +kernel) ⟨Nat.le_of_ble_eq_true rfl, Nat.le_of_ble_eq_true rfl⟩) (zz_preS [] hK hP hD rfl rfl) rfl rfl hl.1 rfl (lv_room (Nat.le_of_ble_eq_true rfl)) dX6_costs_18 ⟨Nat.zero_le _, Nat.zero_le _⟩) hP hD hS hA rfl rfl rfl (by decide) (fun ok_7 H locs hP hD hS => ?_)
    have hP : va_P (dC, dI) vwCl [(o_rows, .inl (cI, 54, .inl vo_rows)), (o_amounts, .inl (cJ, 9, .inr (.inl vo_amounts))), (o_takes, .inl (cJ, 9, .inr (.inl vo_takes))), (o_leans, .inl (cI, 9, .inl vo_leans)), (o_would, .inl (cJ, 9, .inr (.inl vo_would))), (o, .inr (6, [.ref o_page, .int vo_pageMany, .int vo_readMany, .int vo_state, .int vo_readMost, .ref o_readRows, .int vo_glasses, .int vo_towersRead, .int vo_poured, .ref o_rows, .ref o_turns, .ref o_amounts, .ref o_drank, .long vo_spilt, .ref o_takes, .ref o_leans, .ref o_would, .int vo_done, .int vo_seedNow, .int vo_keptTower, .int vo_keptPoured, .long vo_keptSpilt, .ref o_keptAmounts, .ref o_keptDrank, .ref o_keptTurns, .long vo_hash]))] H := hP
    have hD : va_D A [(o_rows, .inl (cI, 54, .inl vo_rows)), (o_amounts, .inl (cJ, 9, .inr (.inl vo_amounts))), (o_takes, .inl (cJ, 9, .inr (.inl vo_takes))), (o_leans, .inl (cI, 9, .inl vo_leans)), (o_would, .inl (cJ, 9, .inr (.inl vo_would))), (o, .inr (6, [.ref o_page, .int vo_pageMany, .int vo_readMany, .int vo_state, .int vo_readMost, .ref o_readRows, .int vo_glasses, .int vo_towersRead, .int vo_poured, .ref o_rows, .ref o_turns, .ref o_amounts, .ref o_drank, .long vo_spilt, .ref o_takes, .ref o_leans, .ref o_would, .int vo_done, .int vo_seedNow, .int vo_keptTower, .int vo_keptPoured, .long vo_keptSpilt, .ref o_keptAmounts, .ref o_keptDrank, .ref o_keptTurns, .long vo_hash]))] := hD
    have hz_8 : ((p2.toInt64)).toInt = (p2).toInt := Int32.toInt_toInt64 _
    have hz_9 : ((1 : Int64)).toInt = 1 := by decide
    have hz_10 : ((99 : Int64)).toInt = 99 := by decide
    obtain ⟨k_11, k_12⟩ := ok_7
    refine lv_if_eq (tgt := 31) hx hb dX6_costs_21 (by decide) (fun c_13 => ?_) (fun c_13 => ?_)
    · replace hT := cutT c_13 hT
      have g_24 := zeqT (rfl : (r2).toInt = _) (by decide : ((0 : Int32)).toInt = 0) c_13
      refine lv_ldc2 (v := (-102 : Int64)) hx hb hown hc_152 dX6_costs_31 ?_
      have hP9 := hP
      have hD9 := hD
      have hS9 := hS
      have hT : ((-102 : Int64), vo_takes, vo_leans, vo_would) = (r, qo_takes, qo_leans, qo_would) := hT
      cases hT
      subst hQ
      exact zz_lret hx hb hr [5, 0, 1, 2, 3, 4] hK hP9 hD9 hS9 rfl rfl (by assumption) hlocks dX6_costs_34
    · replace hT := cutF c_13 hT
      have g_25 := zeqF (rfl : (r2).toInt = _) (by decide : ((0 : Int32)).toInt = 0) c_13
      refine lv_iload_n hx hb dX6_costs_24 rfl (lv_at hl 3 rfl) ?_
      obtain ⟨r3, ev_14⟩ : ∃ x0, (m_X6_isPart p3) = x0 := ⟨_, rfl⟩
      replace hT := cut_n ev_14 hT
      refine zz_ci [] [0, 1, 2, 3, 4, 5] (wr := [(o_rows, .inl (cI, 54, .inl vo_rows)), (o_amounts, .inl (cJ, 9, .inr (.inl vo_amounts))), (o_takes, .inl (cJ, 9, .inr (.inl vo_takes))), (o_leans, .inl (cI, 9, .inl vo_leans)), (o_would, .inl (cJ, 9, .inr (.inl vo_would))), (o, .inr (6, [.ref o_page, .int vo_pageMany, .int vo_readMany, .int vo_state, .int vo_readMost, .ref o_readRows, .int vo_glasses, .int vo_towersRead, .int vo_poured, .ref o_rows, .ref o_turns, .ref o_amounts, .ref o_drank, .long vo_spilt, .ref o_takes, .ref o_leans, .ref o_would, .int vo_done, .int vo_seedNow, .int vo_keptTower, .int vo_keptPoured, .long vo_keptSpilt, .ref o_keptAmounts, .ref o_keptDrank, .ref o_keptTurns, .long vo_hash]))]) (w1 := []) (va_runS (As := [.int p3]) (rest := []) ⟨hx, hb, hml, hown, hts⟩ (k_X6_isPart l dC dI cI cJ cC H.size p3 r3 ev_14) (va_cwS 1 hts gX6_costs_X6_isPart rfl rfl rfl (by decide +kernel) ⟨Nat.le_of_ble_eq_true rfl, Nat.le_of_ble_eq_true rfl⟩) (zz_preS [] hK hP hD rfl rfl) rfl rfl hl.1 rfl (lv_room (Nat.le_of_ble_eq_true rfl)) dX6_costs_25 ⟨Nat.zero_le _, Nat.zero_le _⟩) hP hD hS hA rfl rfl rfl (by decide) (fun ok_15 H locs hP hD hS => ?_)
      have hP : va_P (dC, dI) vwCl [(o_rows, .inl (cI, 54, .inl vo_rows)), (o_amounts, .inl (cJ, 9, .inr (.inl vo_amounts))), (o_takes, .inl (cJ, 9, .inr (.inl vo_takes))), (o_leans, .inl (cI, 9, .inl vo_leans)), (o_would, .inl (cJ, 9, .inr (.inl vo_would))), (o, .inr (6, [.ref o_page, .int vo_pageMany, .int vo_readMany, .int vo_state, .int vo_readMost, .ref o_readRows, .int vo_glasses, .int vo_towersRead, .int vo_poured, .ref o_rows, .ref o_turns, .ref o_amounts, .ref o_drank, .long vo_spilt, .ref o_takes, .ref o_leans, .ref o_would, .int vo_done, .int vo_seedNow, .int vo_keptTower, .int vo_keptPoured, .long vo_keptSpilt, .ref o_keptAmounts, .ref o_keptDrank, .ref o_keptTurns, .long vo_hash]))] H := hP
      have hD : va_D A [(o_rows, .inl (cI, 54, .inl vo_rows)), (o_amounts, .inl (cJ, 9, .inr (.inl vo_amounts))), (o_takes, .inl (cJ, 9, .inr (.inl vo_takes))), (o_leans, .inl (cI, 9, .inl vo_leans)), (o_would, .inl (cJ, 9, .inr (.inl vo_would))), (o, .inr (6, [.ref o_page, .int vo_pageMany, .int vo_readMany, .int vo_state, .int vo_readMost, .ref o_readRows, .int vo_glasses, .int vo_towersRead, .int vo_poured, .ref o_rows, .ref o_turns, .ref o_amounts, .ref o_drank, .long vo_spilt, .ref o_takes, .ref o_leans, .ref o_would, .int vo_done, .int vo_seedNow, .int vo_keptTower, .int vo_keptPoured, .long vo_keptSpilt, .ref o_keptAmounts, .ref o_keptDrank, .ref o_keptTurns, .long vo_hash]))] := hD
      refine lv_if_ne (tgt := 35) hx hb dX6_costs_28 (by decide) (fun c_16 => ?_) (fun c_16 => ?_)
      · replace hT := cutF c_16 hT
        have g_26 := zeqF (rfl : (r3).toInt = _) (by decide : ((0 : Int32)).toInt = 0) c_16
        refine lv_aload_n hx hb dX6_costs_35 rfl (lv_at hl 0 rfl) ?_
        refine lv_iload_n hx hb dX6_costs_36 rfl (lv_at hl 1 rfl) ?_
        refine lv_iload_n hx hb dX6_costs_37 rfl (lv_at hl 2 rfl) ?_
        refine lv_iconst (v := (1 : Int32)) hx hb dX6_costs_38 (by decide) ?_
        obtain ⟨r4, u5, u6, u7, ev_17⟩ : ∃ x0 x1 x2 x3, (m_X6_othersBy vo_glasses vo_rows vo_amounts vo_takes vo_leans vo_would p1 p2 (1 : Int32)) = (x0, x1, x2, x3) := ⟨_, _, _, _, rfl⟩
        replace hT := cut4_n ev_17 hT
        refine zz_cl [5, 0, 1, 2, 3, 4] [] (wr := []) (w1 := [(o, .inr (6, [.ref o_page, .int vo_pageMany, .int vo_readMany, .int vo_state, .int vo_readMost, .ref o_readRows, .int vo_glasses, .int vo_towersRead, .int vo_poured, .ref o_rows, .ref o_turns, .ref o_amounts, .ref o_drank, .long vo_spilt, .ref o_takes, .ref o_leans, .ref o_would, .int vo_done, .int vo_seedNow, .int vo_keptTower, .int vo_keptPoured, .long vo_keptSpilt, .ref o_keptAmounts, .ref o_keptDrank, .ref o_keptTurns, .long vo_hash])), (o_rows, .inl (cI, 54, .inl vo_rows)), (o_amounts, .inl (cJ, 9, .inr (.inl vo_amounts))), (o_takes, .inl (cJ, 9, .inr (.inl u5))), (o_leans, .inl (cI, 9, .inl u6)), (o_would, .inl (cJ, 9, .inr (.inl u7)))]) (va_runV (As := [.int p1, .int p2, .int (1 : Int32)]) (rest := []) ⟨hx, hb, hml, hown, hts⟩ (k_X6_othersBy l dC dI cI cJ cC H.size o o_page o_readRows o_rows o_turns o_amounts o_drank o_takes o_leans o_would o_keptAmounts o_keptDrank o_keptTurns vo_pageMany vo_readMany vo_state vo_readMost vo_glasses vo_towersRead vo_poured vo_spilt vo_done vo_seedNow vo_keptTower vo_keptPoured vo_keptSpilt vo_hash vo_rows vo_amounts vo_takes vo_leans vo_would p1 p2 (1 : Int32) r4 u5 u6 u7 ev_17 hg0 hg9 hrw hln (by first | omega | decide) (by first | omega | decide)) (cwV 3 hts gX6_costs_X6_othersBy rfl rfl rfl (by decide +kernel) ⟨Nat.le_of_ble_eq_true rfl, Nat.le_of_ble_eq_true rfl⟩) (zz_preV [5, 0, 1, 2, 3, 4] hK hP hD rfl rfl (va_recv hK hP (ci := 6) (q0 := 5) rfl rfl)) rfl rfl hl.1 rfl (lv_room (Nat.le_of_ble_eq_true rfl)) dX6_costs_39 ⟨Nat.zero_le _, Nat.zero_le _⟩) hP hD hS hA rfl rfl rfl (by decide) (fun ok_18 H locs hP hD hS => ?_)
        have hP : va_P (dC, dI) vwCl [(o, .inr (6, [.ref o_page, .int vo_pageMany, .int vo_readMany, .int vo_state, .int vo_readMost, .ref o_readRows, .int vo_glasses, .int vo_towersRead, .int vo_poured, .ref o_rows, .ref o_turns, .ref o_amounts, .ref o_drank, .long vo_spilt, .ref o_takes, .ref o_leans, .ref o_would, .int vo_done, .int vo_seedNow, .int vo_keptTower, .int vo_keptPoured, .long vo_keptSpilt, .ref o_keptAmounts, .ref o_keptDrank, .ref o_keptTurns, .long vo_hash])), (o_rows, .inl (cI, 54, .inl vo_rows)), (o_amounts, .inl (cJ, 9, .inr (.inl vo_amounts))), (o_takes, .inl (cJ, 9, .inr (.inl u5))), (o_leans, .inl (cI, 9, .inl u6)), (o_would, .inl (cJ, 9, .inr (.inl u7)))] H := hP
        have hD : va_D A [(o, .inr (6, [.ref o_page, .int vo_pageMany, .int vo_readMany, .int vo_state, .int vo_readMost, .ref o_readRows, .int vo_glasses, .int vo_towersRead, .int vo_poured, .ref o_rows, .ref o_turns, .ref o_amounts, .ref o_drank, .long vo_spilt, .ref o_takes, .ref o_leans, .ref o_would, .int vo_done, .int vo_seedNow, .int vo_keptTower, .int vo_keptPoured, .long vo_keptSpilt, .ref o_keptAmounts, .ref o_keptDrank, .ref o_keptTurns, .long vo_hash])), (o_rows, .inl (cI, 54, .inl vo_rows)), (o_amounts, .inl (cJ, 9, .inr (.inl vo_amounts))), (o_takes, .inl (cJ, 9, .inr (.inl u5))), (o_leans, .inl (cI, 9, .inl u6)), (o_would, .inl (cJ, 9, .inr (.inl u7)))] := hD
        refine lv_aload_n hx hb dX6_costs_42 rfl (lv_at hl 0 rfl) ?_
        refine lv_iload_n hx hb dX6_costs_43 rfl (lv_at hl 1 rfl) ?_
        refine lv_iload_n hx hb dX6_costs_44 rfl (lv_at hl 2 rfl) ?_
        refine lv_iconst (v := (0 : Int32)) hx hb dX6_costs_45 (by decide) ?_
        obtain ⟨r8, u9, u10, u11, ev_19⟩ : ∃ x0 x1 x2 x3, (m_X6_othersBy vo_glasses vo_rows vo_amounts u5 u6 u7 p1 p2 (0 : Int32)) = (x0, x1, x2, x3) := ⟨_, _, _, _, rfl⟩
        replace hT := cut4_n ev_19 hT
        refine zz_cl [0, 1, 2, 3, 4, 5] [] (wr := []) (w1 := [(o, .inr (6, [.ref o_page, .int vo_pageMany, .int vo_readMany, .int vo_state, .int vo_readMost, .ref o_readRows, .int vo_glasses, .int vo_towersRead, .int vo_poured, .ref o_rows, .ref o_turns, .ref o_amounts, .ref o_drank, .long vo_spilt, .ref o_takes, .ref o_leans, .ref o_would, .int vo_done, .int vo_seedNow, .int vo_keptTower, .int vo_keptPoured, .long vo_keptSpilt, .ref o_keptAmounts, .ref o_keptDrank, .ref o_keptTurns, .long vo_hash])), (o_rows, .inl (cI, 54, .inl vo_rows)), (o_amounts, .inl (cJ, 9, .inr (.inl vo_amounts))), (o_takes, .inl (cJ, 9, .inr (.inl u9))), (o_leans, .inl (cI, 9, .inl u10)), (o_would, .inl (cJ, 9, .inr (.inl u11)))]) (va_runV (As := [.int p1, .int p2, .int (0 : Int32)]) (rest := [.long r4]) ⟨hx, hb, hml, hown, hts⟩ (k_X6_othersBy l dC dI cI cJ cC H.size o o_page o_readRows o_rows o_turns o_amounts o_drank o_takes o_leans o_would o_keptAmounts o_keptDrank o_keptTurns vo_pageMany vo_readMany vo_state vo_readMost vo_glasses vo_towersRead vo_poured vo_spilt vo_done vo_seedNow vo_keptTower vo_keptPoured vo_keptSpilt vo_hash vo_rows vo_amounts u5 u6 u7 p1 p2 (0 : Int32) r8 u9 u10 u11 ev_19 hg0 hg9 hrw ok_18 (by first | omega | decide) (by first | omega | decide)) (cwV 3 hts gX6_costs_X6_othersBy rfl rfl rfl (by decide +kernel) ⟨Nat.le_of_ble_eq_true rfl, Nat.le_of_ble_eq_true rfl⟩) (zz_preV [0, 1, 2, 3, 4, 5] hK hP hD rfl rfl (va_recv hK hP (ci := 6) (q0 := 0) rfl rfl)) rfl rfl hl.1 rfl (lv_room (Nat.le_of_ble_eq_true rfl)) dX6_costs_46 ⟨Nat.zero_le _, Nat.zero_le _⟩) hP hD hS hA rfl rfl rfl (by decide) (fun ok_20 H locs hP hD hS => ?_)
        have hP : va_P (dC, dI) vwCl [(o, .inr (6, [.ref o_page, .int vo_pageMany, .int vo_readMany, .int vo_state, .int vo_readMost, .ref o_readRows, .int vo_glasses, .int vo_towersRead, .int vo_poured, .ref o_rows, .ref o_turns, .ref o_amounts, .ref o_drank, .long vo_spilt, .ref o_takes, .ref o_leans, .ref o_would, .int vo_done, .int vo_seedNow, .int vo_keptTower, .int vo_keptPoured, .long vo_keptSpilt, .ref o_keptAmounts, .ref o_keptDrank, .ref o_keptTurns, .long vo_hash])), (o_rows, .inl (cI, 54, .inl vo_rows)), (o_amounts, .inl (cJ, 9, .inr (.inl vo_amounts))), (o_takes, .inl (cJ, 9, .inr (.inl u9))), (o_leans, .inl (cI, 9, .inl u10)), (o_would, .inl (cJ, 9, .inr (.inl u11)))] H := hP
        have hD : va_D A [(o, .inr (6, [.ref o_page, .int vo_pageMany, .int vo_readMany, .int vo_state, .int vo_readMost, .ref o_readRows, .int vo_glasses, .int vo_towersRead, .int vo_poured, .ref o_rows, .ref o_turns, .ref o_amounts, .ref o_drank, .long vo_spilt, .ref o_takes, .ref o_leans, .ref o_would, .int vo_done, .int vo_seedNow, .int vo_keptTower, .int vo_keptPoured, .long vo_keptSpilt, .ref o_keptAmounts, .ref o_keptDrank, .ref o_keptTurns, .long vo_hash])), (o_rows, .inl (cI, 54, .inl vo_rows)), (o_amounts, .inl (cJ, 9, .inr (.inl vo_amounts))), (o_takes, .inl (cJ, 9, .inr (.inl u9))), (o_leans, .inl (cI, 9, .inl u10)), (o_would, .inl (cJ, 9, .inr (.inl u11)))] := hD
        refine lv_lsub hx hb dX6_costs_49 ?_
        refine lv_iload_n hx hb dX6_costs_50 rfl (lv_at hl 3 rfl) ?_
        obtain ⟨r12, ev_21⟩ : ∃ x0, (m_X6_term (r4 - r8) p3) = x0 := ⟨_, rfl⟩
        replace hT := cut_n ev_21 hT
        refine zz_cl [] [0, 1, 2, 3, 4, 5] (wr := [(o, .inr (6, [.ref o_page, .int vo_pageMany, .int vo_readMany, .int vo_state, .int vo_readMost, .ref o_readRows, .int vo_glasses, .int vo_towersRead, .int vo_poured, .ref o_rows, .ref o_turns, .ref o_amounts, .ref o_drank, .long vo_spilt, .ref o_takes, .ref o_leans, .ref o_would, .int vo_done, .int vo_seedNow, .int vo_keptTower, .int vo_keptPoured, .long vo_keptSpilt, .ref o_keptAmounts, .ref o_keptDrank, .ref o_keptTurns, .long vo_hash])), (o_rows, .inl (cI, 54, .inl vo_rows)), (o_amounts, .inl (cJ, 9, .inr (.inl vo_amounts))), (o_takes, .inl (cJ, 9, .inr (.inl u9))), (o_leans, .inl (cI, 9, .inl u10)), (o_would, .inl (cJ, 9, .inr (.inl u11)))]) (w1 := []) (va_runS (As := [.long (r4 - r8), .int p3]) (rest := []) ⟨hx, hb, hml, hown, hts⟩ (k_X6_term l dC dI cI cJ cC H.size (r4 - r8) p3 r12 ev_21) (va_cwS 2 hts gX6_costs_X6_term rfl rfl rfl (by decide +kernel) ⟨Nat.le_of_ble_eq_true rfl, Nat.le_of_ble_eq_true rfl⟩) (zz_preS [] hK hP hD rfl rfl) rfl rfl hl.1 rfl (lv_room (Nat.le_of_ble_eq_true rfl)) dX6_costs_51 ⟨Nat.zero_le _, Nat.zero_le _⟩) hP hD hS hA rfl rfl rfl (by decide) (fun ok_22 H locs hP hD hS => ?_)
        have hP : va_P (dC, dI) vwCl [(o, .inr (6, [.ref o_page, .int vo_pageMany, .int vo_readMany, .int vo_state, .int vo_readMost, .ref o_readRows, .int vo_glasses, .int vo_towersRead, .int vo_poured, .ref o_rows, .ref o_turns, .ref o_amounts, .ref o_drank, .long vo_spilt, .ref o_takes, .ref o_leans, .ref o_would, .int vo_done, .int vo_seedNow, .int vo_keptTower, .int vo_keptPoured, .long vo_keptSpilt, .ref o_keptAmounts, .ref o_keptDrank, .ref o_keptTurns, .long vo_hash])), (o_rows, .inl (cI, 54, .inl vo_rows)), (o_amounts, .inl (cJ, 9, .inr (.inl vo_amounts))), (o_takes, .inl (cJ, 9, .inr (.inl u9))), (o_leans, .inl (cI, 9, .inl u10)), (o_would, .inl (cJ, 9, .inr (.inl u11)))] H := hP
        have hD : va_D A [(o, .inr (6, [.ref o_page, .int vo_pageMany, .int vo_readMany, .int vo_state, .int vo_readMost, .ref o_readRows, .int vo_glasses, .int vo_towersRead, .int vo_poured, .ref o_rows, .ref o_turns, .ref o_amounts, .ref o_drank, .long vo_spilt, .ref o_takes, .ref o_leans, .ref o_would, .int vo_done, .int vo_seedNow, .int vo_keptTower, .int vo_keptPoured, .long vo_keptSpilt, .ref o_keptAmounts, .ref o_keptDrank, .ref o_keptTurns, .long vo_hash])), (o_rows, .inl (cI, 54, .inl vo_rows)), (o_amounts, .inl (cJ, 9, .inr (.inl vo_amounts))), (o_takes, .inl (cJ, 9, .inr (.inl u9))), (o_leans, .inl (cI, 9, .inl u10)), (o_would, .inl (cJ, 9, .inr (.inl u11)))] := hD
        have hP9 := hP
        have hD9 := hD
        have hS9 := hS
        have hT : (r12, u9, u10, u11) = (r, qo_takes, qo_leans, qo_would) := hT
        cases hT
        subst hQ
        exact zz_lret hx hb hr [0, 1, 2, 3, 4, 5] hK hP9 hD9 hS9 rfl rfl (by assumption) hlocks dX6_costs_54
      · replace hT := cutT c_16 hT
        have g_27 := zeqT (rfl : (r3).toInt = _) (by decide : ((0 : Int32)).toInt = 0) c_16
        refine lv_ldc2 (v := (-102 : Int64)) hx hb hown hc_152 dX6_costs_31 ?_
        have hP9 := hP
        have hD9 := hD
        have hS9 := hS
        have hT : ((-102 : Int64), vo_takes, vo_leans, vo_would) = (r, qo_takes, qo_leans, qo_would) := hT
        cases hT
        subst hQ
        exact zz_lret hx hb hr [5, 0, 1, 2, 3, 4] hK hP9 hD9 hS9 rfl rfl (by assumption) hlocks dX6_costs_34
  · replace hT := cutT c_5 hT
    have g_28 := zeqT (rfl : (r1).toInt = _) (by decide : ((0 : Int32)).toInt = 0) c_5
    refine lv_ldc2 (v := (-101 : Int64)) hx hb hown hc_143 dX6_costs_8 ?_
    have hP9 := hP
    have hD9 := hD
    have hS9 := hS
    have hT : ((-101 : Int64), vo_takes, vo_leans, vo_would) = (r, qo_takes, qo_leans, qo_would) := hT
    cases hT
    subst hQ
    exact zz_lret hx hb hr [5, 0, 1, 2, 3, 4] hK hP9 hD9 hS9 rfl rfl (by assumption) hlocks dX6_costs_11

def m_X6_turn (vo_glasses : Int32) (vo_rows : Nat → Int32) (vo_turns : Nat → Int32) (p1 : Int32) (p2 : Int32) : Int32 × (Nat → Int32) :=
 cut (m_X6_isGlass vo_glasses p1) (fun (r1 : Int32) =>
 if r1 = (0 : Int32) then
  ((-101 : Int32), vo_turns)
 else
  cut (m_X6_isIn (p2.toInt64) (0 : Int64) (9 : Int64)) (fun (r2 : Int32) =>
  if r2 = (0 : Int32) then
   ((-102 : Int32), vo_turns)
  else
   if (vo_rows ((6 : Int32) * p1).toNatClampNeg) = (4 : Int32) then
    if p2 ≤ (0 : Int32) then
     cut (vo_turns p1.toNatClampNeg) (fun (v5 : Int32) =>
     cut (upd vo_turns p1.toNatClampNeg p2) (fun (a6 : Nat → Int32) =>
     (v5, a6)))
    else
     ((-103 : Int32), vo_turns)
   else
    cut (vo_turns p1.toNatClampNeg) (fun (v3 : Int32) =>
    cut (upd vo_turns p1.toNatClampNeg p2) (fun (a4 : Nat → Int32) =>
    (v3, a4)))))
set_option maxHeartbeats 4000000 in
set_option maxRecDepth 100000 in
theorem k_X6_turn (l : Launch) (dC : Nat → ClassId) (dI : Nat → Nat → Nat) (cI cJ cC : ClassId) (sz : Nat) (o o_page o_readRows o_rows o_turns o_amounts o_drank o_takes o_leans o_would o_keptAmounts o_keptDrank o_keptTurns : Nat) (vo_pageMany : Int32) (vo_readMany : Int32) (vo_state : Int32) (vo_readMost : Int32) (vo_glasses : Int32) (vo_towersRead : Int32) (vo_poured : Int32) (vo_spilt : Int64) (vo_done : Int32) (vo_seedNow : Int32) (vo_keptTower : Int32) (vo_keptPoured : Int32) (vo_keptSpilt : Int64) (vo_hash : Int64) (vo_rows : Nat → Int32) (vo_turns : Nat → Int32) (p1 : Int32) (p2 : Int32) (r : Int32) (qo_turns : Nat → Int32) (hT : m_X6_turn vo_glasses vo_rows vo_turns p1 p2 = (r, qo_turns)) (hg0 : 0 ≤ vo_glasses.toInt) (hg9 : vo_glasses.toInt ≤ 9) : Met l yX6_turn wsX6_turn ({ frames := 2, cells := 0, slots := 0, locals := 46 }) (zPc [.ref o, .int p1, .int p2] (dC, dI) (zTy cI cJ cC) [(o, .inr (6, [.ref o_page, .int vo_pageMany, .int vo_readMany, .int vo_state, .int vo_readMost, .ref o_readRows, .int vo_glasses, .int vo_towersRead, .int vo_poured, .ref o_rows, .ref o_turns, .ref o_amounts, .ref o_drank, .long vo_spilt, .ref o_takes, .ref o_leans, .ref o_would, .int vo_done, .int vo_seedNow, .int vo_keptTower, .int vo_keptPoured, .long vo_keptSpilt, .ref o_keptAmounts, .ref o_keptDrank, .ref o_keptTurns, .long vo_hash])), (o_rows, .inl (cI, 54, .inl vo_rows)), (o_turns, .inl (cI, 9, .inl vo_turns))] sz) (zQi r (True) (dC, dI) (zTy cI cJ cC) [(o, .inr (6, [.ref o_page, .int vo_pageMany, .int vo_readMany, .int vo_state, .int vo_readMost, .ref o_readRows, .int vo_glasses, .int vo_towersRead, .int vo_poured, .ref o_rows, .ref o_turns, .ref o_amounts, .ref o_drank, .long vo_spilt, .ref o_takes, .ref o_leans, .ref o_would, .int vo_done, .int vo_seedNow, .int vo_keptTower, .int vo_keptPoured, .long vo_keptSpilt, .ref o_keptAmounts, .ref o_keptDrank, .ref o_keptTurns, .long vo_hash])), (o_rows, .inl (cI, 54, .inl vo_rows)), (o_turns, .inl (cI, 9, .inl qo_turns))] (va_A [(o, .inr (6, [.ref o_page, .int vo_pageMany, .int vo_readMany, .int vo_state, .int vo_readMost, .ref o_readRows, .int vo_glasses, .int vo_towersRead, .int vo_poured, .ref o_rows, .ref o_turns, .ref o_amounts, .ref o_drank, .long vo_spilt, .ref o_takes, .ref o_leans, .ref o_would, .int vo_done, .int vo_seedNow, .int vo_keptTower, .int vo_keptPoured, .long vo_keptSpilt, .ref o_keptAmounts, .ref o_keptDrank, .ref o_keptTurns, .long vo_hash])), (o_rows, .inl (cI, 54, .inl vo_rows)), (o_turns, .inl (cI, 9, .inl vo_turns))] sz)) 0 0 (va_A [(o, .inr (6, [.ref o_page, .int vo_pageMany, .int vo_readMany, .int vo_state, .int vo_readMost, .ref o_readRows, .int vo_glasses, .int vo_towersRead, .int vo_poured, .ref o_rows, .ref o_turns, .ref o_amounts, .ref o_drank, .long vo_spilt, .ref o_takes, .ref o_leans, .ref o_would, .int vo_done, .int vo_seedNow, .int vo_keptTower, .int vo_keptPoured, .long vo_keptSpilt, .ref o_keptAmounts, .ref o_keptDrank, .ref o_keptTurns, .long vo_hash])), (o_rows, .inl (cI, 54, .inl vo_rows)), (o_turns, .inl (cI, 9, .inl vo_turns))] sz) := by
  refine Met.ofW (cc := cX6_turn) (maxL := 4) (ret := (some .int)) (by decide) rfl ?_
  intro p e s m args below meth c s₁ B hml hv
  obtain ⟨rfl, hsz, hP, hK, hD0⟩ := hv
  have hx := B.exec
  have hb := B.bytes
  have hr := B.returns
  have hts := atoms_spec (ws := wsX6_turn) B.pre
  have hown : s.vm.findClass RX6 = some m.cls := findClass_of_methodNamed B.named
  have hlocks := B.notSynchronized
  subst hsz
  have hD := hD0.self (sz := s.heap.size)
  generalize hAe : va_A [(o, .inr (6, [.ref o_page, .int vo_pageMany, .int vo_readMany, .int vo_state, .int vo_readMost, .ref o_readRows, .int vo_glasses, .int vo_towersRead, .int vo_poured, .ref o_rows, .ref o_turns, .ref o_amounts, .ref o_drank, .long vo_spilt, .ref o_takes, .ref o_leans, .ref o_would, .int vo_done, .int vo_seedNow, .int vo_keptTower, .int vo_keptPoured, .long vo_keptSpilt, .ref o_keptAmounts, .ref o_keptDrank, .ref o_keptTurns, .long vo_hash])), (o_rows, .inl (cI, 54, .inl vo_rows)), (o_turns, .inl (cI, 9, .inl vo_turns))] s.heap.size = A at hD ⊢
  have hA : ∀ q : Nat, s.heap.size ≤ q → A q := fun q h => by rw [← hAe]; exact Or.inr h
  have hS : va_S A s.heap s.heap [] := va_S.rf
  have hP : va_P (dC, dI) vwCl [(o, .inr (6, [.ref o_page, .int vo_pageMany, .int vo_readMany, .int vo_state, .int vo_readMost, .ref o_readRows, .int vo_glasses, .int vo_towersRead, .int vo_poured, .ref o_rows, .ref o_turns, .ref o_amounts, .ref o_drank, .long vo_spilt, .ref o_takes, .ref o_leans, .ref o_would, .int vo_done, .int vo_seedNow, .int vo_keptTower, .int vo_keptPoured, .long vo_keptSpilt, .ref o_keptAmounts, .ref o_keptDrank, .ref o_keptTurns, .long vo_hash])), (o_rows, .inl (cI, 54, .inl vo_rows)), (o_turns, .inl (cI, 9, .inl vo_turns))] s.heap := hP
  have hK : va_K (dC, dI) vwCl (zTy cI cJ cC) s := hK
  have hl := lv_entry ([.ref o, .int p1, .int p2]) (n := 4) (Nat.le_of_ble_eq_true rfl)
  rw [lg_entry_eq]
  generalize (lg_sl ([.ref o, .int p1, .int p2]) ++ List.replicate (4 - (lg_sl ([.ref o, .int p1, .int p2])).length) Slot.unset).toArray = ls at hl ⊢
  have hl : lv_has ls 4 [(0, .ref o), (1, .int p1), (2, .int p2)] := hl
  refine zz_start hP hS (fun Q hQ H locs hP hS => ?_)
  have hwX6 : ∀ w ∈ u_ws RX6 TX6 26, w ∈ wsX6_turn := by decide +kernel
  have hc_182 := (hts (.constantLong RX6 182 (9)) (by decide +kernel))
  have hf_16 := (hts (.fieldLink RX6 16 "PouredTopmostModel" "rows" "[I") (by decide +kernel))
  have hf_19 := (hts (.fieldLink RX6 19 "PouredTopmostModel" "turns" "[I") (by decide +kernel))
  refine lv_aload_n hx hb dX6_turn_0 rfl (lv_at hl 0 rfl) ?_
  refine lv_iload_n hx hb dX6_turn_1 rfl (lv_at hl 1 rfl) ?_
  obtain ⟨r1, ev_1⟩ : ∃ x0, (m_X6_isGlass vo_glasses p1) = x0 := ⟨_, rfl⟩
  replace hT := cut_n ev_1 hT
  refine zz_ci [0] [1, 2] (wr := [(o_rows, .inl (cI, 54, .inl vo_rows)), (o_turns, .inl (cI, 9, .inl vo_turns))]) (w1 := [(o, .inr (6, [.ref o_page, .int vo_pageMany, .int vo_readMany, .int vo_state, .int vo_readMost, .ref o_readRows, .int vo_glasses, .int vo_towersRead, .int vo_poured, .ref o_rows, .ref o_turns, .ref o_amounts, .ref o_drank, .long vo_spilt, .ref o_takes, .ref o_leans, .ref o_would, .int vo_done, .int vo_seedNow, .int vo_keptTower, .int vo_keptPoured, .long vo_keptSpilt, .ref o_keptAmounts, .ref o_keptDrank, .ref o_keptTurns, .long vo_hash]))]) (va_runV (As := [.int p1]) (rest := []) ⟨hx, hb, hml, hown, hts⟩ (k_X6_isGlass l dC dI cI cJ cC H.size o o_page o_readRows o_rows o_turns o_amounts o_drank o_takes o_leans o_would o_keptAmounts o_keptDrank o_keptTurns vo_pageMany vo_readMany vo_state vo_readMost vo_glasses vo_towersRead vo_poured vo_spilt vo_done vo_seedNow vo_keptTower vo_keptPoured vo_keptSpilt vo_hash p1 r1 ev_1 hg0 hg9) (cwV 1 hts gX6_turn_X6_isGlass rfl rfl rfl (by decide +kernel) ⟨Nat.le_of_ble_eq_true rfl, Nat.le_of_ble_eq_true rfl⟩) (zz_preV [0] hK hP hD rfl rfl (va_recv hK hP (ci := 6) (q0 := 0) rfl rfl)) rfl rfl hl.1 rfl (lv_room (Nat.le_of_ble_eq_true rfl)) dX6_turn_2 ⟨Nat.zero_le _, Nat.zero_le _⟩) hP hD hS hA rfl rfl rfl (by decide) (fun ok_2 H locs hP hD hS => ?_)
  have hP : va_P (dC, dI) vwCl [(o_rows, .inl (cI, 54, .inl vo_rows)), (o_turns, .inl (cI, 9, .inl vo_turns)), (o, .inr (6, [.ref o_page, .int vo_pageMany, .int vo_readMany, .int vo_state, .int vo_readMost, .ref o_readRows, .int vo_glasses, .int vo_towersRead, .int vo_poured, .ref o_rows, .ref o_turns, .ref o_amounts, .ref o_drank, .long vo_spilt, .ref o_takes, .ref o_leans, .ref o_would, .int vo_done, .int vo_seedNow, .int vo_keptTower, .int vo_keptPoured, .long vo_keptSpilt, .ref o_keptAmounts, .ref o_keptDrank, .ref o_keptTurns, .long vo_hash]))] H := hP
  have hD : va_D A [(o_rows, .inl (cI, 54, .inl vo_rows)), (o_turns, .inl (cI, 9, .inl vo_turns)), (o, .inr (6, [.ref o_page, .int vo_pageMany, .int vo_readMany, .int vo_state, .int vo_readMost, .ref o_readRows, .int vo_glasses, .int vo_towersRead, .int vo_poured, .ref o_rows, .ref o_turns, .ref o_amounts, .ref o_drank, .long vo_spilt, .ref o_takes, .ref o_leans, .ref o_would, .int vo_done, .int vo_seedNow, .int vo_keptTower, .int vo_keptPoured, .long vo_keptSpilt, .ref o_keptAmounts, .ref o_keptDrank, .ref o_keptTurns, .long vo_hash]))] := hD
  obtain ⟨k_3, k_4⟩ := ok_2
  refine lv_if_ne (tgt := 11) hx hb dX6_turn_5 (by decide) (fun c_5 => ?_) (fun c_5 => ?_)
  · replace hT := cutF c_5 hT
    have g_22 := zeqF (rfl : (r1).toInt = _) (by decide : ((0 : Int32)).toInt = 0) c_5
    refine lv_iload_n hx hb dX6_turn_11 rfl (lv_at hl 2 rfl) ?_
    refine lv_i2l (v := (p2.toInt64)) hx hb dX6_turn_12 rfl ?_
    refine lv_lconst (v := (0 : Int64)) hx hb dX6_turn_13 (by decide) ?_
    refine lv_ldc2 (v := (9 : Int64)) hx hb hown hc_182 dX6_turn_14 ?_
    obtain ⟨r2, ev_6⟩ : ∃ x0, (m_X6_isIn (p2.toInt64) (0 : Int64) (9 : Int64)) = x0 := ⟨_, rfl⟩
    replace hT := cut_n ev_6 hT
    refine zz_ci [] [0, 1, 2] (wr := [(o_rows, .inl (cI, 54, .inl vo_rows)), (o_turns, .inl (cI, 9, .inl vo_turns)), (o, .inr (6, [.ref o_page, .int vo_pageMany, .int vo_readMany, .int vo_state, .int vo_readMost, .ref o_readRows, .int vo_glasses, .int vo_towersRead, .int vo_poured, .ref o_rows, .ref o_turns, .ref o_amounts, .ref o_drank, .long vo_spilt, .ref o_takes, .ref o_leans, .ref o_would, .int vo_done, .int vo_seedNow, .int vo_keptTower, .int vo_keptPoured, .long vo_keptSpilt, .ref o_keptAmounts, .ref o_keptDrank, .ref o_keptTurns, .long vo_hash]))]) (w1 := []) (va_runS (As := [.long (p2.toInt64), .long (0 : Int64), .long (9 : Int64)]) (rest := []) ⟨hx, hb, hml, hown, hts⟩ (k_X6_isIn l dC dI cI cJ cC H.size (p2.toInt64) (0 : Int64) (9 : Int64) r2 ev_6) (va_cwS 3 hts gX6_turn_X6_isIn rfl rfl rfl (by decide +kernel) ⟨Nat.le_of_ble_eq_true rfl, Nat.le_of_ble_eq_true rfl⟩) (zz_preS [] hK hP hD rfl rfl) rfl rfl hl.1 rfl (lv_room (Nat.le_of_ble_eq_true rfl)) dX6_turn_17 ⟨Nat.zero_le _, Nat.zero_le _⟩) hP hD hS hA rfl rfl rfl (by decide) (fun ok_7 H locs hP hD hS => ?_)
    have hP : va_P (dC, dI) vwCl [(o_rows, .inl (cI, 54, .inl vo_rows)), (o_turns, .inl (cI, 9, .inl vo_turns)), (o, .inr (6, [.ref o_page, .int vo_pageMany, .int vo_readMany, .int vo_state, .int vo_readMost, .ref o_readRows, .int vo_glasses, .int vo_towersRead, .int vo_poured, .ref o_rows, .ref o_turns, .ref o_amounts, .ref o_drank, .long vo_spilt, .ref o_takes, .ref o_leans, .ref o_would, .int vo_done, .int vo_seedNow, .int vo_keptTower, .int vo_keptPoured, .long vo_keptSpilt, .ref o_keptAmounts, .ref o_keptDrank, .ref o_keptTurns, .long vo_hash]))] H := hP
    have hD : va_D A [(o_rows, .inl (cI, 54, .inl vo_rows)), (o_turns, .inl (cI, 9, .inl vo_turns)), (o, .inr (6, [.ref o_page, .int vo_pageMany, .int vo_readMany, .int vo_state, .int vo_readMost, .ref o_readRows, .int vo_glasses, .int vo_towersRead, .int vo_poured, .ref o_rows, .ref o_turns, .ref o_amounts, .ref o_drank, .long vo_spilt, .ref o_takes, .ref o_leans, .ref o_would, .int vo_done, .int vo_seedNow, .int vo_keptTower, .int vo_keptPoured, .long vo_keptSpilt, .ref o_keptAmounts, .ref o_keptDrank, .ref o_keptTurns, .long vo_hash]))] := hD
    have hz_8 : ((p2.toInt64)).toInt = (p2).toInt := Int32.toInt_toInt64 _
    have hz_9 : ((0 : Int64)).toInt = 0 := by decide
    have hz_10 : ((9 : Int64)).toInt = 9 := by decide
    obtain ⟨k_11, k_12⟩ := ok_7
    refine lv_if_ne (tgt := 26) hx hb dX6_turn_20 (by decide) (fun c_13 => ?_) (fun c_13 => ?_)
    · replace hT := cutF c_13 hT
      have g_23 := zeqF (rfl : (r2).toInt = _) (by decide : ((0 : Int32)).toInt = 0) c_13
      refine lv_aload_n hx hb dX6_turn_26 rfl (lv_at hl 0 rfl) ?_
      refine va_get (D := (dC, dI)) (ci := 6) (v := .ref o_rows) (C := RX6) (T := TX6) (N := 26) hx hb hts hwX6 hown hK hP 2 rfl rfl 9 (by decide) hf_16 (fun _ h9 => h9) rfl dX6_turn_27 ?_
      refine lv_bipush (v := (6 : Int32)) hx hb dX6_turn_30 (by decide) ?_
      refine lv_iload_n hx hb dX6_turn_32 rfl (lv_at hl 1 rfl) ?_
      refine lv_imul hx hb dX6_turn_33 ?_
      have e_15 := zmulE (v := ((6 : Int32) * p1)) (by decide : ((6 : Int32)).toInt = 6) (rfl : (p1).toInt = _) rfl (by omega) (by omega)
      have h_14 : vp_in ((6 : Int32) * p1) 54 := zin (by omega) (by omega)
      refine va_iald hx hb hK hP 0 0 rfl rfl h_14 dX6_turn_34 ?_
      refine lv_iconst (v := (4 : Int32)) hx hb dX6_turn_35 (by decide) ?_
      refine lv_icmp_ne (tgt := 46) hx hb dX6_turn_36 (by decide) (fun c_16 => ?_) (fun c_16 => ?_)
      · replace hT := cutF c_16 hT
        have g_24 := zeqF (rfl : ((vo_rows ((6 : Int32) * p1).toNatClampNeg)).toInt = _) (by decide : ((4 : Int32)).toInt = 4) c_16
        refine lv_aload_n hx hb dX6_turn_46 rfl (lv_at hl 0 rfl) ?_
        refine va_get (D := (dC, dI)) (ci := 6) (v := .ref o_turns) (C := RX6) (T := TX6) (N := 26) hx hb hts hwX6 hown hK hP 2 rfl rfl 10 (by decide) hf_19 (fun _ h9 => h9) rfl dX6_turn_47 ?_
        refine lv_iload_n hx hb dX6_turn_50 rfl (lv_at hl 1 rfl) ?_
        have h_17 : vp_in p1 9 := zin (by omega) (by omega)
        refine va_iald hx hb hK hP 1 0 rfl rfl h_17 dX6_turn_51 ?_
        refine lv_topi (fun v3 ev3 => ?_)
        replace hT := cut_n ev3.symm hT
        have fv3 : (v3).toInt = (vo_turns p1.toNatClampNeg).toInt := by rw [ev3]
        refine lv_istore_n (lv' := [(3, .int v3), (0, .ref o), (1, .int p1), (2, .int p2)]) hx hb dX6_turn_52 rfl hl (by decide) rfl (fun ls hl => ?_)
        refine lv_aload_n hx hb dX6_turn_53 rfl (lv_at hl 1 rfl) ?_
        refine va_get (D := (dC, dI)) (ci := 6) (v := .ref o_turns) (C := RX6) (T := TX6) (N := 26) hx hb hts hwX6 hown hK hP 2 rfl rfl 10 (by decide) hf_19 (fun _ h9 => h9) rfl dX6_turn_54 ?_
        refine lv_iload_n hx hb dX6_turn_57 rfl (lv_at hl 2 rfl) ?_
        refine lv_iload_n hx hb dX6_turn_58 rfl (lv_at hl 3 rfl) ?_
        have h_18 : vp_in p1 9 := zin (by omega) (by omega)
        refine va_iast hx hb hK hP hD hS 1 0 rfl rfl h_18 dX6_turn_59 (fun H locs hP hD hS => ?_)
        obtain ⟨a4, ea4⟩ : ∃ z, (upd vo_turns p1.toNatClampNeg p2) = z := ⟨_, rfl⟩
        replace hT := cut_n ea4 hT
        have hP : va_P (dC, dI) vwCl [(o_rows, .inl (cI, 54, .inl vo_rows)), (o_turns, .inl (cI, 9, .inl a4)), (o, .inr (6, [.ref o_page, .int vo_pageMany, .int vo_readMany, .int vo_state, .int vo_readMost, .ref o_readRows, .int vo_glasses, .int vo_towersRead, .int vo_poured, .ref o_rows, .ref o_turns, .ref o_amounts, .ref o_drank, .long vo_spilt, .ref o_takes, .ref o_leans, .ref o_would, .int vo_done, .int vo_seedNow, .int vo_keptTower, .int vo_keptPoured, .long vo_keptSpilt, .ref o_keptAmounts, .ref o_keptDrank, .ref o_keptTurns, .long vo_hash]))] H := by rw [← ea4]; exact hP
        have hD : va_D A [(o_rows, .inl (cI, 54, .inl vo_rows)), (o_turns, .inl (cI, 9, .inl a4)), (o, .inr (6, [.ref o_page, .int vo_pageMany, .int vo_readMany, .int vo_state, .int vo_readMost, .ref o_readRows, .int vo_glasses, .int vo_towersRead, .int vo_poured, .ref o_rows, .ref o_turns, .ref o_amounts, .ref o_drank, .long vo_spilt, .ref o_takes, .ref o_leans, .ref o_would, .int vo_done, .int vo_seedNow, .int vo_keptTower, .int vo_keptPoured, .long vo_keptSpilt, .ref o_keptAmounts, .ref o_keptDrank, .ref o_keptTurns, .long vo_hash]))] := by rw [← ea4]; exact hD
        refine lv_iload_n hx hb dX6_turn_60 rfl (lv_at hl 0 rfl) ?_
        have hP9 := hP
        have hD9 := hD
        have hS9 := hS
        have hT : (v3, a4) = (r, qo_turns) := hT
        cases hT
        subst hQ
        exact zz_iret hx hb hr [2, 0, 1] hK hP9 hD9 hS9 rfl rfl trivial hlocks dX6_turn_61
      · replace hT := cutT c_16 hT
        have g_25 := zeqT (rfl : ((vo_rows ((6 : Int32) * p1).toNatClampNeg)).toInt = _) (by decide : ((4 : Int32)).toInt = 4) c_16
        refine lv_iload_n hx hb dX6_turn_39 rfl (lv_at hl 2 rfl) ?_
        refine lv_if_le (tgt := 46) hx hb dX6_turn_40 (by decide) (fun c_19 => ?_) (fun c_19 => ?_)
        · replace hT := cutT c_19 hT
          have g_26 := zleT (rfl : (p2).toInt = _) (by decide : ((0 : Int32)).toInt = 0) c_19
          refine lv_aload_n hx hb dX6_turn_46 rfl (lv_at hl 0 rfl) ?_
          refine va_get (D := (dC, dI)) (ci := 6) (v := .ref o_turns) (C := RX6) (T := TX6) (N := 26) hx hb hts hwX6 hown hK hP 2 rfl rfl 10 (by decide) hf_19 (fun _ h9 => h9) rfl dX6_turn_47 ?_
          refine lv_iload_n hx hb dX6_turn_50 rfl (lv_at hl 1 rfl) ?_
          have h_20 : vp_in p1 9 := zin (by omega) (by omega)
          refine va_iald hx hb hK hP 1 0 rfl rfl h_20 dX6_turn_51 ?_
          refine lv_topi (fun v5 ev5 => ?_)
          replace hT := cut_n ev5.symm hT
          have fv5 : (v5).toInt = (vo_turns p1.toNatClampNeg).toInt := by rw [ev5]
          refine lv_istore_n (lv' := [(3, .int v5), (0, .ref o), (1, .int p1), (2, .int p2)]) hx hb dX6_turn_52 rfl hl (by decide) rfl (fun ls hl => ?_)
          refine lv_aload_n hx hb dX6_turn_53 rfl (lv_at hl 1 rfl) ?_
          refine va_get (D := (dC, dI)) (ci := 6) (v := .ref o_turns) (C := RX6) (T := TX6) (N := 26) hx hb hts hwX6 hown hK hP 2 rfl rfl 10 (by decide) hf_19 (fun _ h9 => h9) rfl dX6_turn_54 ?_
          refine lv_iload_n hx hb dX6_turn_57 rfl (lv_at hl 2 rfl) ?_
          refine lv_iload_n hx hb dX6_turn_58 rfl (lv_at hl 3 rfl) ?_
          have h_21 : vp_in p1 9 := zin (by omega) (by omega)
          refine va_iast hx hb hK hP hD hS 1 0 rfl rfl h_21 dX6_turn_59 (fun H locs hP hD hS => ?_)
          obtain ⟨a6, ea6⟩ : ∃ z, (upd vo_turns p1.toNatClampNeg p2) = z := ⟨_, rfl⟩
          replace hT := cut_n ea6 hT
          have hP : va_P (dC, dI) vwCl [(o_rows, .inl (cI, 54, .inl vo_rows)), (o_turns, .inl (cI, 9, .inl a6)), (o, .inr (6, [.ref o_page, .int vo_pageMany, .int vo_readMany, .int vo_state, .int vo_readMost, .ref o_readRows, .int vo_glasses, .int vo_towersRead, .int vo_poured, .ref o_rows, .ref o_turns, .ref o_amounts, .ref o_drank, .long vo_spilt, .ref o_takes, .ref o_leans, .ref o_would, .int vo_done, .int vo_seedNow, .int vo_keptTower, .int vo_keptPoured, .long vo_keptSpilt, .ref o_keptAmounts, .ref o_keptDrank, .ref o_keptTurns, .long vo_hash]))] H := by rw [← ea6]; exact hP
          have hD : va_D A [(o_rows, .inl (cI, 54, .inl vo_rows)), (o_turns, .inl (cI, 9, .inl a6)), (o, .inr (6, [.ref o_page, .int vo_pageMany, .int vo_readMany, .int vo_state, .int vo_readMost, .ref o_readRows, .int vo_glasses, .int vo_towersRead, .int vo_poured, .ref o_rows, .ref o_turns, .ref o_amounts, .ref o_drank, .long vo_spilt, .ref o_takes, .ref o_leans, .ref o_would, .int vo_done, .int vo_seedNow, .int vo_keptTower, .int vo_keptPoured, .long vo_keptSpilt, .ref o_keptAmounts, .ref o_keptDrank, .ref o_keptTurns, .long vo_hash]))] := by rw [← ea6]; exact hD
          refine lv_iload_n hx hb dX6_turn_60 rfl (lv_at hl 0 rfl) ?_
          have hP9 := hP
          have hD9 := hD
          have hS9 := hS
          have hT : (v5, a6) = (r, qo_turns) := hT
          cases hT
          subst hQ
          exact zz_iret hx hb hr [2, 0, 1] hK hP9 hD9 hS9 rfl rfl trivial hlocks dX6_turn_61
        · replace hT := cutF c_19 hT
          have g_27 := zleF (rfl : (p2).toInt = _) (by decide : ((0 : Int32)).toInt = 0) c_19
          refine lv_bipush (v := (-103 : Int32)) hx hb dX6_turn_43 (by decide) ?_
          have hP9 := hP
          have hD9 := hD
          have hS9 := hS
          have hT : ((-103 : Int32), vo_turns) = (r, qo_turns) := hT
          cases hT
          subst hQ
          exact zz_iret hx hb hr [2, 0, 1] hK hP9 hD9 hS9 rfl rfl trivial hlocks dX6_turn_45
    · replace hT := cutT c_13 hT
      have g_28 := zeqT (rfl : (r2).toInt = _) (by decide : ((0 : Int32)).toInt = 0) c_13
      refine lv_bipush (v := (-102 : Int32)) hx hb dX6_turn_23 (by decide) ?_
      have hP9 := hP
      have hD9 := hD
      have hS9 := hS
      have hT : ((-102 : Int32), vo_turns) = (r, qo_turns) := hT
      cases hT
      subst hQ
      exact zz_iret hx hb hr [2, 0, 1] hK hP9 hD9 hS9 rfl rfl trivial hlocks dX6_turn_25
  · replace hT := cutT c_5 hT
    have g_29 := zeqT (rfl : (r1).toInt = _) (by decide : ((0 : Int32)).toInt = 0) c_5
    refine lv_bipush (v := (-101 : Int32)) hx hb dX6_turn_8 (by decide) ?_
    have hP9 := hP
    have hD9 := hD
    have hS9 := hS
    have hT : ((-101 : Int32), vo_turns) = (r, qo_turns) := hT
    cases hT
    subst hQ
    exact zz_iret hx hb hr [2, 0, 1] hK hP9 hD9 hS9 rfl rfl trivial hlocks dX6_turn_10

def rs_X6_evening_6 (b4 : Int32) (bk5 : Int32 → Int32 → Int64 → (Nat → Int64) → (Nat → Int64) → (Nat → Int64) → (Nat → Int32) → (Int32 × Int32 × Int64 × (Nat → Int64) × (Nat → Int64) × (Nat → Int64) × (Nat → Int32))) (u18 : Int32) (u19 : Int64) (u21 : Nat → Int64) (u22 : Nat → Int32) (x26 : Int32) (x27 : Nat → Int64) (x28 : Nat → Int64) : Int32 × Int32 × Int64 × (Nat → Int64) × (Nat → Int64) × (Nat → Int64) × (Nat → Int32) :=
 cut (b4 + (1 : Int32)) (fun (v35 : Int32) =>
 (bk5 v35 u18 u19 x27 x28 u21 u22))
def lp_X6_evening_6 (vo_glasses : Int32) (ct6 : Int32 → (Nat → Int64) → (Nat → Int64) → (Int32 × Int32 × Int64 × (Nat → Int64) × (Nat → Int64) × (Nat → Int64) × (Nat → Int32))) (vo_turns : Nat → Int32) (b4 : Int32) : Nat → Int32 → (Nat → Int64) → (Nat → Int64) → (Int32 × Int32 × Int64 × (Nat → Int64) × (Nat → Int64) × (Nat → Int64) × (Nat → Int32))
  | 0, _, _, _ => default
  | k + 1, b23, b24, b25 =>
  if vo_glasses ≤ b23 then
   (ct6 b23 b24 b25)
  else
   if (vo_turns b23.toNatClampNeg) ≤ (0 : Int32) then
    cut (b23 + (1 : Int32)) (fun (v29 : Int32) =>
    (lp_X6_evening_6 vo_glasses ct6 vo_turns b4 k v29 b24 b25))
   else
    if (b4 - b4 / (vo_turns b23.toNatClampNeg) * (vo_turns b23.toNatClampNeg)) = (0 : Int32) then
     cut3 (m_X6_emptyOne b24 b25 b23) (fun (r31 : Int32) (u32 : Nat → Int64) (u33 : Nat → Int64) =>
     cut (b23 + (1 : Int32)) (fun (v34 : Int32) =>
     (lp_X6_evening_6 vo_glasses ct6 vo_turns b4 k v34 u32 u33)))
    else
     cut (b23 + (1 : Int32)) (fun (v30 : Int32) =>
     (lp_X6_evening_6 vo_glasses ct6 vo_turns b4 k v30 b24 b25))
def rs_X6_evening_5  (x11 : Int32) (x12 : Int32) (x13 : Int64) (x14 : Nat → Int64) (x15 : Nat → Int64) (x16 : Nat → Int64) (x17 : Nat → Int32) : Int32 × Int32 × Int64 × (Nat → Int64) × (Nat → Int64) × (Nat → Int64) × (Nat → Int32) :=
 (x12, x12, x13, x14, x15, x16, x17)
def lp_X6_evening_5 (p1 : Int32) (ct5 : Int32 → Int32 → Int64 → (Nat → Int64) → (Nat → Int64) → (Nat → Int64) → (Nat → Int32) → (Int32 × Int32 × Int64 × (Nat → Int64) × (Nat → Int64) × (Nat → Int64) × (Nat → Int32))) (vo_glasses : Int32) (vo_rows : Nat → Int32) (p2 : Int32) (vo_turns : Nat → Int32) : Nat → Int32 → Int32 → Int64 → (Nat → Int64) → (Nat → Int64) → (Nat → Int64) → (Nat → Int32) → (Int32 × Int32 × Int64 × (Nat → Int64) × (Nat → Int64) × (Nat → Int64) × (Nat → Int32))
  | 0, _, _, _, _, _, _, _ => default
  | k + 1, b4, b5, b6, b7, b8, b9, b10 =>
  if p1 < b4 then
   (ct5 b4 b5 b6 b7 b8 b9 b10)
  else
   cut5 (m_X6_pourInto vo_glasses b5 b6 vo_rows b7 b9 b10 (0 : Int32) p2) (fun (u18 : Int32) (u19 : Int64) (u20 : Nat → Int64) (u21 : Nat → Int64) (u22 : Nat → Int32) =>
   (lp_X6_evening_6 vo_glasses (rs_X6_evening_6 b4 (fun c0 c1 c2 c3 c4 c5 c6 => lp_X6_evening_5 p1 ct5 vo_glasses vo_rows p2 vo_turns k c0 c1 c2 c3 c4 c5 c6) u18 u19 u21 u22) vo_turns b4 11 (0 : Int32) u20 b8))
def m_X6_evening (vo_glasses : Int32) (vo_poured : Int32) (vo_spilt : Int64) (vo_rows : Nat → Int32) (vo_turns : Nat → Int32) (vo_amounts : Nat → Int64) (vo_drank : Nat → Int64) (vo_takes : Nat → Int64) (vo_leans : Nat → Int32) (p1 : Int32) (p2 : Int32) : Int32 × Int32 × Int64 × (Nat → Int64) × (Nat → Int64) × (Nat → Int64) × (Nat → Int32) :=
 cut (m_X6_lacks vo_glasses) (fun (r1 : Int32) =>
 if r1 = (0 : Int32) then
  cut (m_X6_isIn (p1.toInt64) (1 : Int64) (24 : Int64)) (fun (r2 : Int32) =>
  if r2 = (0 : Int32) then
   ((-102 : Int32), vo_poured, vo_spilt, vo_amounts, vo_drank, vo_takes, vo_leans)
  else
   cut (m_X6_isIn (p2.toInt64) (1 : Int64) (9 : Int64)) (fun (r3 : Int32) =>
   if r3 = (0 : Int32) then
    ((-102 : Int32), vo_poured, vo_spilt, vo_amounts, vo_drank, vo_takes, vo_leans)
   else
    if (vo_poured + (p1 * p2)) ≤ (9999 : Int32) then
     (lp_X6_evening_5 p1 rs_X6_evening_5 vo_glasses vo_rows p2 vo_turns 26 (1 : Int32) vo_poured vo_spilt vo_amounts vo_drank vo_takes vo_leans)
    else
     ((-103 : Int32), vo_poured, vo_spilt, vo_amounts, vo_drank, vo_takes, vo_leans)))
 else
  ((-103 : Int32), vo_poured, vo_spilt, vo_amounts, vo_drank, vo_takes, vo_leans))
set_option maxHeartbeats 4000000 in
set_option maxRecDepth 100000 in
theorem k_X6_evening (l : Launch) (dC : Nat → ClassId) (dI : Nat → Nat → Nat) (cI cJ cC : ClassId) (sz : Nat) (o o_page o_readRows o_rows o_turns o_amounts o_drank o_takes o_leans o_would o_keptAmounts o_keptDrank o_keptTurns : Nat) (vo_pageMany : Int32) (vo_readMany : Int32) (vo_state : Int32) (vo_readMost : Int32) (vo_glasses : Int32) (vo_towersRead : Int32) (vo_poured : Int32) (vo_spilt : Int64) (vo_done : Int32) (vo_seedNow : Int32) (vo_keptTower : Int32) (vo_keptPoured : Int32) (vo_keptSpilt : Int64) (vo_hash : Int64) (vo_rows : Nat → Int32) (vo_turns : Nat → Int32) (vo_amounts : Nat → Int64) (vo_drank : Nat → Int64) (vo_takes : Nat → Int64) (vo_leans : Nat → Int32) (p1 : Int32) (p2 : Int32) (r : Int32) (qo_poured : Int32) (qo_spilt : Int64) (qo_amounts : Nat → Int64) (qo_drank : Nat → Int64) (qo_takes : Nat → Int64) (qo_leans : Nat → Int32) (hT : m_X6_evening vo_glasses vo_poured vo_spilt vo_rows vo_turns vo_amounts vo_drank vo_takes vo_leans p1 p2 = (r, qo_poured, qo_spilt, qo_amounts, qo_drank, qo_takes, qo_leans)) (hg0 : 0 ≤ vo_glasses.toInt) (hg9 : vo_glasses.toInt ≤ 9) (hrw : zRw vo_rows) (hln : zLn vo_leans) : Met l yX6_evening wsX6_evening ({ frames := 3, cells := 0, slots := 0, locals := 68 }) (zPc [.ref o, .int p1, .int p2] (dC, dI) (zTy cI cJ cC) [(o, .inr (6, [.ref o_page, .int vo_pageMany, .int vo_readMany, .int vo_state, .int vo_readMost, .ref o_readRows, .int vo_glasses, .int vo_towersRead, .int vo_poured, .ref o_rows, .ref o_turns, .ref o_amounts, .ref o_drank, .long vo_spilt, .ref o_takes, .ref o_leans, .ref o_would, .int vo_done, .int vo_seedNow, .int vo_keptTower, .int vo_keptPoured, .long vo_keptSpilt, .ref o_keptAmounts, .ref o_keptDrank, .ref o_keptTurns, .long vo_hash])), (o_rows, .inl (cI, 54, .inl vo_rows)), (o_turns, .inl (cI, 9, .inl vo_turns)), (o_amounts, .inl (cJ, 9, .inr (.inl vo_amounts))), (o_drank, .inl (cJ, 9, .inr (.inl vo_drank))), (o_takes, .inl (cJ, 9, .inr (.inl vo_takes))), (o_leans, .inl (cI, 9, .inl vo_leans))] sz) (zQi r ((zLn qo_leans)) (dC, dI) (zTy cI cJ cC) [(o, .inr (6, [.ref o_page, .int vo_pageMany, .int vo_readMany, .int vo_state, .int vo_readMost, .ref o_readRows, .int vo_glasses, .int vo_towersRead, .int qo_poured, .ref o_rows, .ref o_turns, .ref o_amounts, .ref o_drank, .long qo_spilt, .ref o_takes, .ref o_leans, .ref o_would, .int vo_done, .int vo_seedNow, .int vo_keptTower, .int vo_keptPoured, .long vo_keptSpilt, .ref o_keptAmounts, .ref o_keptDrank, .ref o_keptTurns, .long vo_hash])), (o_rows, .inl (cI, 54, .inl vo_rows)), (o_turns, .inl (cI, 9, .inl vo_turns)), (o_amounts, .inl (cJ, 9, .inr (.inl qo_amounts))), (o_drank, .inl (cJ, 9, .inr (.inl qo_drank))), (o_takes, .inl (cJ, 9, .inr (.inl qo_takes))), (o_leans, .inl (cI, 9, .inl qo_leans))] (va_A [(o, .inr (6, [.ref o_page, .int vo_pageMany, .int vo_readMany, .int vo_state, .int vo_readMost, .ref o_readRows, .int vo_glasses, .int vo_towersRead, .int vo_poured, .ref o_rows, .ref o_turns, .ref o_amounts, .ref o_drank, .long vo_spilt, .ref o_takes, .ref o_leans, .ref o_would, .int vo_done, .int vo_seedNow, .int vo_keptTower, .int vo_keptPoured, .long vo_keptSpilt, .ref o_keptAmounts, .ref o_keptDrank, .ref o_keptTurns, .long vo_hash])), (o_rows, .inl (cI, 54, .inl vo_rows)), (o_turns, .inl (cI, 9, .inl vo_turns)), (o_amounts, .inl (cJ, 9, .inr (.inl vo_amounts))), (o_drank, .inl (cJ, 9, .inr (.inl vo_drank))), (o_takes, .inl (cJ, 9, .inr (.inl vo_takes))), (o_leans, .inl (cI, 9, .inl vo_leans))] sz)) 0 0 (va_A [(o, .inr (6, [.ref o_page, .int vo_pageMany, .int vo_readMany, .int vo_state, .int vo_readMost, .ref o_readRows, .int vo_glasses, .int vo_towersRead, .int vo_poured, .ref o_rows, .ref o_turns, .ref o_amounts, .ref o_drank, .long vo_spilt, .ref o_takes, .ref o_leans, .ref o_would, .int vo_done, .int vo_seedNow, .int vo_keptTower, .int vo_keptPoured, .long vo_keptSpilt, .ref o_keptAmounts, .ref o_keptDrank, .ref o_keptTurns, .long vo_hash])), (o_rows, .inl (cI, 54, .inl vo_rows)), (o_turns, .inl (cI, 9, .inl vo_turns)), (o_amounts, .inl (cJ, 9, .inr (.inl vo_amounts))), (o_drank, .inl (cJ, 9, .inr (.inl vo_drank))), (o_takes, .inl (cJ, 9, .inr (.inl vo_takes))), (o_leans, .inl (cI, 9, .inl vo_leans))] sz) := by
  refine Met.ofW (cc := cX6_evening) (maxL := 6) (ret := (some .int)) (by decide) rfl ?_
  intro p e s m args below meth c s₁ B hml hv
  obtain ⟨rfl, hsz, hP, hK, hD0⟩ := hv
  have hx := B.exec
  have hb := B.bytes
  have hr := B.returns
  have hts := atoms_spec (ws := wsX6_evening) B.pre
  have hown : s.vm.findClass RX6 = some m.cls := findClass_of_methodNamed B.named
  have hlocks := B.notSynchronized
  subst hsz
  have hD := hD0.self (sz := s.heap.size)
  generalize hAe : va_A [(o, .inr (6, [.ref o_page, .int vo_pageMany, .int vo_readMany, .int vo_state, .int vo_readMost, .ref o_readRows, .int vo_glasses, .int vo_towersRead, .int vo_poured, .ref o_rows, .ref o_turns, .ref o_amounts, .ref o_drank, .long vo_spilt, .ref o_takes, .ref o_leans, .ref o_would, .int vo_done, .int vo_seedNow, .int vo_keptTower, .int vo_keptPoured, .long vo_keptSpilt, .ref o_keptAmounts, .ref o_keptDrank, .ref o_keptTurns, .long vo_hash])), (o_rows, .inl (cI, 54, .inl vo_rows)), (o_turns, .inl (cI, 9, .inl vo_turns)), (o_amounts, .inl (cJ, 9, .inr (.inl vo_amounts))), (o_drank, .inl (cJ, 9, .inr (.inl vo_drank))), (o_takes, .inl (cJ, 9, .inr (.inl vo_takes))), (o_leans, .inl (cI, 9, .inl vo_leans))] s.heap.size = A at hD ⊢
  have hA : ∀ q : Nat, s.heap.size ≤ q → A q := fun q h => by rw [← hAe]; exact Or.inr h
  have hS : va_S A s.heap s.heap [] := va_S.rf
  have hP : va_P (dC, dI) vwCl [(o, .inr (6, [.ref o_page, .int vo_pageMany, .int vo_readMany, .int vo_state, .int vo_readMost, .ref o_readRows, .int vo_glasses, .int vo_towersRead, .int vo_poured, .ref o_rows, .ref o_turns, .ref o_amounts, .ref o_drank, .long vo_spilt, .ref o_takes, .ref o_leans, .ref o_would, .int vo_done, .int vo_seedNow, .int vo_keptTower, .int vo_keptPoured, .long vo_keptSpilt, .ref o_keptAmounts, .ref o_keptDrank, .ref o_keptTurns, .long vo_hash])), (o_rows, .inl (cI, 54, .inl vo_rows)), (o_turns, .inl (cI, 9, .inl vo_turns)), (o_amounts, .inl (cJ, 9, .inr (.inl vo_amounts))), (o_drank, .inl (cJ, 9, .inr (.inl vo_drank))), (o_takes, .inl (cJ, 9, .inr (.inl vo_takes))), (o_leans, .inl (cI, 9, .inl vo_leans))] s.heap := hP
  have hK : va_K (dC, dI) vwCl (zTy cI cJ cC) s := hK
  have hl := lv_entry ([.ref o, .int p1, .int p2]) (n := 6) (Nat.le_of_ble_eq_true rfl)
  rw [lg_entry_eq]
  generalize (lg_sl ([.ref o, .int p1, .int p2]) ++ List.replicate (6 - (lg_sl ([.ref o, .int p1, .int p2])).length) Slot.unset).toArray = ls at hl ⊢
  have hl : lv_has ls 6 [(0, .ref o), (1, .int p1), (2, .int p2)] := hl
  refine zz_start hP hS (fun Q hQ H locs hP hS => ?_)
  have hwX6 : ∀ w ∈ u_ws RX6 TX6 26, w ∈ wsX6_evening := by decide +kernel
  have hc_182 := (hts (.constantLong RX6 182 (9)) (by decide +kernel))
  have hc_184 := (hts (.constantLong RX6 184 (24)) (by decide +kernel))
  have hf_110 := (hts (.fieldLink RX6 110 "PouredTopmostModel" "poured" "I") (by decide +kernel))
  have hf_19 := (hts (.fieldLink RX6 19 "PouredTopmostModel" "turns" "[I") (by decide +kernel))
  have hf_97 := (hts (.fieldLink RX6 97 "PouredTopmostModel" "glasses" "I") (by decide +kernel))
  refine lv_aload_n hx hb dX6_evening_0 rfl (lv_at hl 0 rfl) ?_
  obtain ⟨r1, ev_1⟩ : ∃ x0, (m_X6_lacks vo_glasses) = x0 := ⟨_, rfl⟩
  replace hT := cut_n ev_1 hT
  refine zz_ci [0] [1, 2, 3, 4, 5, 6] (wr := [(o_rows, .inl (cI, 54, .inl vo_rows)), (o_turns, .inl (cI, 9, .inl vo_turns)), (o_amounts, .inl (cJ, 9, .inr (.inl vo_amounts))), (o_drank, .inl (cJ, 9, .inr (.inl vo_drank))), (o_takes, .inl (cJ, 9, .inr (.inl vo_takes))), (o_leans, .inl (cI, 9, .inl vo_leans))]) (w1 := [(o, .inr (6, [.ref o_page, .int vo_pageMany, .int vo_readMany, .int vo_state, .int vo_readMost, .ref o_readRows, .int vo_glasses, .int vo_towersRead, .int vo_poured, .ref o_rows, .ref o_turns, .ref o_amounts, .ref o_drank, .long vo_spilt, .ref o_takes, .ref o_leans, .ref o_would, .int vo_done, .int vo_seedNow, .int vo_keptTower, .int vo_keptPoured, .long vo_keptSpilt, .ref o_keptAmounts, .ref o_keptDrank, .ref o_keptTurns, .long vo_hash]))]) (va_runV (As := []) (rest := []) ⟨hx, hb, hml, hown, hts⟩ (k_X6_lacks l dC dI cI cJ cC H.size o o_page o_readRows o_rows o_turns o_amounts o_drank o_takes o_leans o_would o_keptAmounts o_keptDrank o_keptTurns vo_pageMany vo_readMany vo_state vo_readMost vo_glasses vo_towersRead vo_poured vo_spilt vo_done vo_seedNow vo_keptTower vo_keptPoured vo_keptSpilt vo_hash r1 ev_1) (cwV 0 hts gX6_evening_X6_lacks rfl rfl rfl (by decide +kernel) ⟨Nat.le_of_ble_eq_true rfl, Nat.le_of_ble_eq_true rfl⟩) (zz_preV [0] hK hP hD rfl rfl (va_recv hK hP (ci := 6) (q0 := 0) rfl rfl)) rfl rfl hl.1 rfl (lv_room (Nat.le_of_ble_eq_true rfl)) dX6_evening_1 ⟨Nat.zero_le _, Nat.zero_le _⟩) hP hD hS hA rfl rfl rfl (by decide) (fun ok_2 H locs hP hD hS => ?_)
  have hP : va_P (dC, dI) vwCl [(o_rows, .inl (cI, 54, .inl vo_rows)), (o_turns, .inl (cI, 9, .inl vo_turns)), (o_amounts, .inl (cJ, 9, .inr (.inl vo_amounts))), (o_drank, .inl (cJ, 9, .inr (.inl vo_drank))), (o_takes, .inl (cJ, 9, .inr (.inl vo_takes))), (o_leans, .inl (cI, 9, .inl vo_leans)), (o, .inr (6, [.ref o_page, .int vo_pageMany, .int vo_readMany, .int vo_state, .int vo_readMost, .ref o_readRows, .int vo_glasses, .int vo_towersRead, .int vo_poured, .ref o_rows, .ref o_turns, .ref o_amounts, .ref o_drank, .long vo_spilt, .ref o_takes, .ref o_leans, .ref o_would, .int vo_done, .int vo_seedNow, .int vo_keptTower, .int vo_keptPoured, .long vo_keptSpilt, .ref o_keptAmounts, .ref o_keptDrank, .ref o_keptTurns, .long vo_hash]))] H := hP
  have hD : va_D A [(o_rows, .inl (cI, 54, .inl vo_rows)), (o_turns, .inl (cI, 9, .inl vo_turns)), (o_amounts, .inl (cJ, 9, .inr (.inl vo_amounts))), (o_drank, .inl (cJ, 9, .inr (.inl vo_drank))), (o_takes, .inl (cJ, 9, .inr (.inl vo_takes))), (o_leans, .inl (cI, 9, .inl vo_leans)), (o, .inr (6, [.ref o_page, .int vo_pageMany, .int vo_readMany, .int vo_state, .int vo_readMost, .ref o_readRows, .int vo_glasses, .int vo_towersRead, .int vo_poured, .ref o_rows, .ref o_turns, .ref o_amounts, .ref o_drank, .long vo_spilt, .ref o_takes, .ref o_leans, .ref o_would, .int vo_done, .int vo_seedNow, .int vo_keptTower, .int vo_keptPoured, .long vo_keptSpilt, .ref o_keptAmounts, .ref o_keptDrank, .ref o_keptTurns, .long vo_hash]))] := hD
  obtain ⟨k_3, k_4, k_5⟩ := ok_2
  refine lv_if_eq (tgt := 10) hx hb dX6_evening_4 (by decide) (fun c_6 => ?_) (fun c_6 => ?_)
  · replace hT := cutT c_6 hT
    have g_35 := zeqT (rfl : (r1).toInt = _) (by decide : ((0 : Int32)).toInt = 0) c_6
    refine lv_iload_n hx hb dX6_evening_10 rfl (lv_at hl 1 rfl) ?_
    refine lv_i2l (v := (p1.toInt64)) hx hb dX6_evening_11 rfl ?_
    refine lv_lconst (v := (1 : Int64)) hx hb dX6_evening_12 (by decide) ?_
    refine lv_ldc2 (v := (24 : Int64)) hx hb hown hc_184 dX6_evening_13 ?_
    obtain ⟨r2, ev_7⟩ : ∃ x0, (m_X6_isIn (p1.toInt64) (1 : Int64) (24 : Int64)) = x0 := ⟨_, rfl⟩
    replace hT := cut_n ev_7 hT
    refine zz_ci [] [0, 1, 2, 3, 4, 5, 6] (wr := [(o_rows, .inl (cI, 54, .inl vo_rows)), (o_turns, .inl (cI, 9, .inl vo_turns)), (o_amounts, .inl (cJ, 9, .inr (.inl vo_amounts))), (o_drank, .inl (cJ, 9, .inr (.inl vo_drank))), (o_takes, .inl (cJ, 9, .inr (.inl vo_takes))), (o_leans, .inl (cI, 9, .inl vo_leans)), (o, .inr (6, [.ref o_page, .int vo_pageMany, .int vo_readMany, .int vo_state, .int vo_readMost, .ref o_readRows, .int vo_glasses, .int vo_towersRead, .int vo_poured, .ref o_rows, .ref o_turns, .ref o_amounts, .ref o_drank, .long vo_spilt, .ref o_takes, .ref o_leans, .ref o_would, .int vo_done, .int vo_seedNow, .int vo_keptTower, .int vo_keptPoured, .long vo_keptSpilt, .ref o_keptAmounts, .ref o_keptDrank, .ref o_keptTurns, .long vo_hash]))]) (w1 := []) (va_runS (As := [.long (p1.toInt64), .long (1 : Int64), .long (24 : Int64)]) (rest := []) ⟨hx, hb, hml, hown, hts⟩ (k_X6_isIn l dC dI cI cJ cC H.size (p1.toInt64) (1 : Int64) (24 : Int64) r2 ev_7) (va_cwS 3 hts gX6_evening_X6_isIn rfl rfl rfl (by decide +kernel) ⟨Nat.le_of_ble_eq_true rfl, Nat.le_of_ble_eq_true rfl⟩) (zz_preS [] hK hP hD rfl rfl) rfl rfl hl.1 rfl (lv_room (Nat.le_of_ble_eq_true rfl)) dX6_evening_16 ⟨Nat.zero_le _, Nat.zero_le _⟩) hP hD hS hA rfl rfl rfl (by decide) (fun ok_8 H locs hP hD hS => ?_)
    have hP : va_P (dC, dI) vwCl [(o_rows, .inl (cI, 54, .inl vo_rows)), (o_turns, .inl (cI, 9, .inl vo_turns)), (o_amounts, .inl (cJ, 9, .inr (.inl vo_amounts))), (o_drank, .inl (cJ, 9, .inr (.inl vo_drank))), (o_takes, .inl (cJ, 9, .inr (.inl vo_takes))), (o_leans, .inl (cI, 9, .inl vo_leans)), (o, .inr (6, [.ref o_page, .int vo_pageMany, .int vo_readMany, .int vo_state, .int vo_readMost, .ref o_readRows, .int vo_glasses, .int vo_towersRead, .int vo_poured, .ref o_rows, .ref o_turns, .ref o_amounts, .ref o_drank, .long vo_spilt, .ref o_takes, .ref o_leans, .ref o_would, .int vo_done, .int vo_seedNow, .int vo_keptTower, .int vo_keptPoured, .long vo_keptSpilt, .ref o_keptAmounts, .ref o_keptDrank, .ref o_keptTurns, .long vo_hash]))] H := hP
    have hD : va_D A [(o_rows, .inl (cI, 54, .inl vo_rows)), (o_turns, .inl (cI, 9, .inl vo_turns)), (o_amounts, .inl (cJ, 9, .inr (.inl vo_amounts))), (o_drank, .inl (cJ, 9, .inr (.inl vo_drank))), (o_takes, .inl (cJ, 9, .inr (.inl vo_takes))), (o_leans, .inl (cI, 9, .inl vo_leans)), (o, .inr (6, [.ref o_page, .int vo_pageMany, .int vo_readMany, .int vo_state, .int vo_readMost, .ref o_readRows, .int vo_glasses, .int vo_towersRead, .int vo_poured, .ref o_rows, .ref o_turns, .ref o_amounts, .ref o_drank, .long vo_spilt, .ref o_takes, .ref o_leans, .ref o_would, .int vo_done, .int vo_seedNow, .int vo_keptTower, .int vo_keptPoured, .long vo_keptSpilt, .ref o_keptAmounts, .ref o_keptDrank, .ref o_keptTurns, .long vo_hash]))] := hD
    have hz_9 : ((p1.toInt64)).toInt = (p1).toInt := Int32.toInt_toInt64 _
    have hz_10 : ((1 : Int64)).toInt = 1 := by decide
    have hz_11 : ((24 : Int64)).toInt = 24 := by decide
    obtain ⟨k_12, k_13⟩ := ok_8
    refine lv_if_eq (tgt := 34) hx hb dX6_evening_19 (by decide) (fun c_14 => ?_) (fun c_14 => ?_)
    · replace hT := cutT c_14 hT
      have g_36 := zeqT (rfl : (r2).toInt = _) (by decide : ((0 : Int32)).toInt = 0) c_14
      refine lv_bipush (v := (-102 : Int32)) hx hb dX6_evening_34 (by decide) ?_
      have hP9 := hP
      have hD9 := hD
      have hS9 := hS
      have hT : ((-102 : Int32), vo_poured, vo_spilt, vo_amounts, vo_drank, vo_takes, vo_leans) = (r, qo_poured, qo_spilt, qo_amounts, qo_drank, qo_takes, qo_leans) := hT
      cases hT
      subst hQ
      exact zz_iret hx hb hr [6, 0, 1, 2, 3, 4, 5] hK hP9 hD9 hS9 rfl rfl (by assumption) hlocks dX6_evening_36
    · replace hT := cutF c_14 hT
      have g_37 := zeqF (rfl : (r2).toInt = _) (by decide : ((0 : Int32)).toInt = 0) c_14
      refine lv_iload_n hx hb dX6_evening_22 rfl (lv_at hl 2 rfl) ?_
      refine lv_i2l (v := (p2.toInt64)) hx hb dX6_evening_23 rfl ?_
      refine lv_lconst (v := (1 : Int64)) hx hb dX6_evening_24 (by decide) ?_
      refine lv_ldc2 (v := (9 : Int64)) hx hb hown hc_182 dX6_evening_25 ?_
      obtain ⟨r3, ev_15⟩ : ∃ x0, (m_X6_isIn (p2.toInt64) (1 : Int64) (9 : Int64)) = x0 := ⟨_, rfl⟩
      replace hT := cut_n ev_15 hT
      refine zz_ci [] [0, 1, 2, 3, 4, 5, 6] (wr := [(o_rows, .inl (cI, 54, .inl vo_rows)), (o_turns, .inl (cI, 9, .inl vo_turns)), (o_amounts, .inl (cJ, 9, .inr (.inl vo_amounts))), (o_drank, .inl (cJ, 9, .inr (.inl vo_drank))), (o_takes, .inl (cJ, 9, .inr (.inl vo_takes))), (o_leans, .inl (cI, 9, .inl vo_leans)), (o, .inr (6, [.ref o_page, .int vo_pageMany, .int vo_readMany, .int vo_state, .int vo_readMost, .ref o_readRows, .int vo_glasses, .int vo_towersRead, .int vo_poured, .ref o_rows, .ref o_turns, .ref o_amounts, .ref o_drank, .long vo_spilt, .ref o_takes, .ref o_leans, .ref o_would, .int vo_done, .int vo_seedNow, .int vo_keptTower, .int vo_keptPoured, .long vo_keptSpilt, .ref o_keptAmounts, .ref o_keptDrank, .ref o_keptTurns, .long vo_hash]))]) (w1 := []) (va_runS (As := [.long (p2.toInt64), .long (1 : Int64), .long (9 : Int64)]) (rest := []) ⟨hx, hb, hml, hown, hts⟩ (k_X6_isIn l dC dI cI cJ cC H.size (p2.toInt64) (1 : Int64) (9 : Int64) r3 ev_15) (va_cwS 3 hts gX6_evening_X6_isIn rfl rfl rfl (by decide +kernel) ⟨Nat.le_of_ble_eq_true rfl, Nat.le_of_ble_eq_true rfl⟩) (zz_preS [] hK hP hD rfl rfl) rfl rfl hl.1 rfl (lv_room (Nat.le_of_ble_eq_true rfl)) dX6_evening_28 ⟨Nat.zero_le _, Nat.zero_le _⟩) hP hD hS hA rfl rfl rfl (by decide) (fun ok_16 H locs hP hD hS => ?_)
      have hP : va_P (dC, dI) vwCl [(o_rows, .inl (cI, 54, .inl vo_rows)), (o_turns, .inl (cI, 9, .inl vo_turns)), (o_amounts, .inl (cJ, 9, .inr (.inl vo_amounts))), (o_drank, .inl (cJ, 9, .inr (.inl vo_drank))), (o_takes, .inl (cJ, 9, .inr (.inl vo_takes))), (o_leans, .inl (cI, 9, .inl vo_leans)), (o, .inr (6, [.ref o_page, .int vo_pageMany, .int vo_readMany, .int vo_state, .int vo_readMost, .ref o_readRows, .int vo_glasses, .int vo_towersRead, .int vo_poured, .ref o_rows, .ref o_turns, .ref o_amounts, .ref o_drank, .long vo_spilt, .ref o_takes, .ref o_leans, .ref o_would, .int vo_done, .int vo_seedNow, .int vo_keptTower, .int vo_keptPoured, .long vo_keptSpilt, .ref o_keptAmounts, .ref o_keptDrank, .ref o_keptTurns, .long vo_hash]))] H := hP
      have hD : va_D A [(o_rows, .inl (cI, 54, .inl vo_rows)), (o_turns, .inl (cI, 9, .inl vo_turns)), (o_amounts, .inl (cJ, 9, .inr (.inl vo_amounts))), (o_drank, .inl (cJ, 9, .inr (.inl vo_drank))), (o_takes, .inl (cJ, 9, .inr (.inl vo_takes))), (o_leans, .inl (cI, 9, .inl vo_leans)), (o, .inr (6, [.ref o_page, .int vo_pageMany, .int vo_readMany, .int vo_state, .int vo_readMost, .ref o_readRows, .int vo_glasses, .int vo_towersRead, .int vo_poured, .ref o_rows, .ref o_turns, .ref o_amounts, .ref o_drank, .long vo_spilt, .ref o_takes, .ref o_leans, .ref o_would, .int vo_done, .int vo_seedNow, .int vo_keptTower, .int vo_keptPoured, .long vo_keptSpilt, .ref o_keptAmounts, .ref o_keptDrank, .ref o_keptTurns, .long vo_hash]))] := hD
      have hz_17 : ((p2.toInt64)).toInt = (p2).toInt := Int32.toInt_toInt64 _
      have hz_18 : ((1 : Int64)).toInt = 1 := by decide
      have hz_19 : ((9 : Int64)).toInt = 9 := by decide
      obtain ⟨k_20, k_21⟩ := ok_16
      refine lv_if_ne (tgt := 37) hx hb dX6_evening_31 (by decide) (fun c_22 => ?_) (fun c_22 => ?_)
      · replace hT := cutF c_22 hT
        have g_38 := zeqF (rfl : (r3).toInt = _) (by decide : ((0 : Int32)).toInt = 0) c_22
        refine lv_aload_n hx hb dX6_evening_37 rfl (lv_at hl 0 rfl) ?_
        refine va_get (D := (dC, dI)) (ci := 6) (v := .int vo_poured) (C := RX6) (T := TX6) (N := 26) hx hb hts hwX6 hown hK hP 6 rfl rfl 8 (by decide) hf_110 (fun _ h9 => h9) rfl dX6_evening_38 ?_
        refine lv_iload_n hx hb dX6_evening_41 rfl (lv_at hl 1 rfl) ?_
        refine lv_iload_n hx hb dX6_evening_42 rfl (lv_at hl 2 rfl) ?_
        refine lv_imul hx hb dX6_evening_43 ?_
        refine lv_iadd hx hb dX6_evening_44 ?_
        refine lv_sipush (v := (9999 : Int32)) hx hb dX6_evening_45 (by decide) ?_
        try have e_39 := zmulE (v := (p1 * p2)) (rfl : (p1).toInt = _) (rfl : (p2).toInt = _) rfl (by omega) (by omega)
        try have e_40 := zaddE (v := (vo_poured + (p1 * p2))) (rfl : (vo_poured).toInt = _) (rfl : ((p1 * p2)).toInt = _) rfl (by omega) (by omega)
        refine lv_icmp_le (tgt := 54) hx hb dX6_evening_48 (by decide) (fun c_23 => ?_) (fun c_23 => ?_)
        · replace hT := cutT c_23 hT
          have g_41 := zleT (rfl : ((vo_poured + (p1 * p2))).toInt = _) (by decide : ((9999 : Int32)).toInt = 9999) c_23
          refine lv_iconst (v := (1 : Int32)) hx hb dX6_evening_54 (by decide) ?_
          refine lv_istore_n (lv' := [(3, .int (1 : Int32)), (0, .ref o), (1, .int p1), (2, .int p2)]) hx hb dX6_evening_55 rfl hl (by decide) rfl (fun ls hl => ?_)
          have hz_42 : ((1 : Int32)).toInt = 1 := by decide
          refine zz_loop (α := Int32 × Int32 × Int64 × (Nat → Int64) × (Nat → Int64) × (Nat → Int64) × (Nat → Int32)) 121 (fun k a H locs ls => (1 ≤ a.1.toInt) ∧ (a.1.toInt ≤ p1.toInt + 1) ∧ (zLn a.2.2.2.2.2.2) ∧ (p1.toInt + 1 - a.1.toInt < ((k : Nat) : Int)) ∧ lp_X6_evening_5 p1 rs_X6_evening_5 vo_glasses vo_rows p2 vo_turns k a.1 a.2.1 a.2.2.1 a.2.2.2.1 a.2.2.2.2.1 a.2.2.2.2.2.1 a.2.2.2.2.2.2 = (r, qo_poured, qo_spilt, qo_amounts, qo_drank, qo_takes, qo_leans) ∧ va_P (dC, dI) vwCl [(o_rows, .inl (cI, 54, .inl vo_rows)), (o_turns, .inl (cI, 9, .inl vo_turns)), (o_amounts, .inl (cJ, 9, .inr (.inl a.2.2.2.1))), (o_drank, .inl (cJ, 9, .inr (.inl a.2.2.2.2.1))), (o_takes, .inl (cJ, 9, .inr (.inl a.2.2.2.2.2.1))), (o_leans, .inl (cI, 9, .inl a.2.2.2.2.2.2)), (o, .inr (6, [.ref o_page, .int vo_pageMany, .int vo_readMany, .int vo_state, .int vo_readMost, .ref o_readRows, .int vo_glasses, .int vo_towersRead, .int a.2.1, .ref o_rows, .ref o_turns, .ref o_amounts, .ref o_drank, .long a.2.2.1, .ref o_takes, .ref o_leans, .ref o_would, .int vo_done, .int vo_seedNow, .int vo_keptTower, .int vo_keptPoured, .long vo_keptSpilt, .ref o_keptAmounts, .ref o_keptDrank, .ref o_keptTurns, .long vo_hash]))] H ∧ va_D A [(o_rows, .inl (cI, 54, .inl vo_rows)), (o_turns, .inl (cI, 9, .inl vo_turns)), (o_amounts, .inl (cJ, 9, .inr (.inl a.2.2.2.1))), (o_drank, .inl (cJ, 9, .inr (.inl a.2.2.2.2.1))), (o_takes, .inl (cJ, 9, .inr (.inl a.2.2.2.2.2.1))), (o_leans, .inl (cI, 9, .inl a.2.2.2.2.2.2)), (o, .inr (6, [.ref o_page, .int vo_pageMany, .int vo_readMany, .int vo_state, .int vo_readMost, .ref o_readRows, .int vo_glasses, .int vo_towersRead, .int a.2.1, .ref o_rows, .ref o_turns, .ref o_amounts, .ref o_drank, .long a.2.2.1, .ref o_takes, .ref o_leans, .ref o_would, .int vo_done, .int vo_seedNow, .int vo_keptTower, .int vo_keptPoured, .long vo_keptSpilt, .ref o_keptAmounts, .ref o_keptDrank, .ref o_keptTurns, .long vo_hash]))] ∧ va_S A s.heap H locs ∧ lv_has ls 6 [(3, .int a.1), (0, .ref o), (1, .int p1), (2, .int p2)]) (fun a H locs ls => (1 ≤ a.1.toInt) ∧ (a.1.toInt ≤ p1.toInt + 1) ∧ (zLn a.2.2.2.2.2.2) ∧ rs_X6_evening_5 a.1 a.2.1 a.2.2.1 a.2.2.2.1 a.2.2.2.2.1 a.2.2.2.2.2.1 a.2.2.2.2.2.2 = (r, qo_poured, qo_spilt, qo_amounts, qo_drank, qo_takes, qo_leans) ∧ va_P (dC, dI) vwCl [(o_rows, .inl (cI, 54, .inl vo_rows)), (o_turns, .inl (cI, 9, .inl vo_turns)), (o_amounts, .inl (cJ, 9, .inr (.inl a.2.2.2.1))), (o_drank, .inl (cJ, 9, .inr (.inl a.2.2.2.2.1))), (o_takes, .inl (cJ, 9, .inr (.inl a.2.2.2.2.2.1))), (o_leans, .inl (cI, 9, .inl a.2.2.2.2.2.2)), (o, .inr (6, [.ref o_page, .int vo_pageMany, .int vo_readMany, .int vo_state, .int vo_readMost, .ref o_readRows, .int vo_glasses, .int vo_towersRead, .int a.2.1, .ref o_rows, .ref o_turns, .ref o_amounts, .ref o_drank, .long a.2.2.1, .ref o_takes, .ref o_leans, .ref o_would, .int vo_done, .int vo_seedNow, .int vo_keptTower, .int vo_keptPoured, .long vo_keptSpilt, .ref o_keptAmounts, .ref o_keptDrank, .ref o_keptTurns, .long vo_hash]))] H ∧ va_D A [(o_rows, .inl (cI, 54, .inl vo_rows)), (o_turns, .inl (cI, 9, .inl vo_turns)), (o_amounts, .inl (cJ, 9, .inr (.inl a.2.2.2.1))), (o_drank, .inl (cJ, 9, .inr (.inl a.2.2.2.2.1))), (o_takes, .inl (cJ, 9, .inr (.inl a.2.2.2.2.2.1))), (o_leans, .inl (cI, 9, .inl a.2.2.2.2.2.2)), (o, .inr (6, [.ref o_page, .int vo_pageMany, .int vo_readMany, .int vo_state, .int vo_readMost, .ref o_readRows, .int vo_glasses, .int vo_towersRead, .int a.2.1, .ref o_rows, .ref o_turns, .ref o_amounts, .ref o_drank, .long a.2.2.1, .ref o_takes, .ref o_leans, .ref o_would, .int vo_done, .int vo_seedNow, .int vo_keptTower, .int vo_keptPoured, .long vo_keptSpilt, .ref o_keptAmounts, .ref o_keptDrank, .ref o_keptTurns, .long vo_hash]))] ∧ va_S A s.heap H locs ∧ lv_has ls 6 [(0, .ref o)]) ?_ ?_ ?_ 26 ((1 : Int32), vo_poured, vo_spilt, vo_amounts, vo_drank, vo_takes, vo_leans) ⟨(by omega : 1 ≤ (1 : Int32).toInt), (by omega : (1 : Int32).toInt ≤ p1.toInt + 1), (by assumption : zLn vo_leans), (by omega : p1.toInt + 1 - (1 : Int32).toInt < ((26 : Nat) : Int)), hT, hP.sub [0, 1, 2, 3, 4, 5, 6] rfl, hD.sub [0, 1, 2, 3, 4, 5, 6] rfl rfl, hS, lv_sub hl [0, 1, 2, 3] rfl⟩
          · rintro ⟨x11, x12, x13, x14, x15, x16, x17⟩ H locs ls ⟨i1, j1, hy1, hT, hP, hD, hS, hl⟩
            have hP : va_P (dC, dI) vwCl [(o_rows, .inl (cI, 54, .inl vo_rows)), (o_turns, .inl (cI, 9, .inl vo_turns)), (o_amounts, .inl (cJ, 9, .inr (.inl x14))), (o_drank, .inl (cJ, 9, .inr (.inl x15))), (o_takes, .inl (cJ, 9, .inr (.inl x16))), (o_leans, .inl (cI, 9, .inl x17)), (o, .inr (6, [.ref o_page, .int vo_pageMany, .int vo_readMany, .int vo_state, .int vo_readMost, .ref o_readRows, .int vo_glasses, .int vo_towersRead, .int x12, .ref o_rows, .ref o_turns, .ref o_amounts, .ref o_drank, .long x13, .ref o_takes, .ref o_leans, .ref o_would, .int vo_done, .int vo_seedNow, .int vo_keptTower, .int vo_keptPoured, .long vo_keptSpilt, .ref o_keptAmounts, .ref o_keptDrank, .ref o_keptTurns, .long vo_hash]))] H := hP
            have hD : va_D A [(o_rows, .inl (cI, 54, .inl vo_rows)), (o_turns, .inl (cI, 9, .inl vo_turns)), (o_amounts, .inl (cJ, 9, .inr (.inl x14))), (o_drank, .inl (cJ, 9, .inr (.inl x15))), (o_takes, .inl (cJ, 9, .inr (.inl x16))), (o_leans, .inl (cI, 9, .inl x17)), (o, .inr (6, [.ref o_page, .int vo_pageMany, .int vo_readMany, .int vo_state, .int vo_readMost, .ref o_readRows, .int vo_glasses, .int vo_towersRead, .int x12, .ref o_rows, .ref o_turns, .ref o_amounts, .ref o_drank, .long x13, .ref o_takes, .ref o_leans, .ref o_would, .int vo_done, .int vo_seedNow, .int vo_keptTower, .int vo_keptPoured, .long vo_keptSpilt, .ref o_keptAmounts, .ref o_keptDrank, .ref o_keptTurns, .long vo_hash]))] := hD
            have hl : lv_has ls 6 [(0, .ref o)] := hl
            have hT : rs_X6_evening_5 x11 x12 x13 x14 x15 x16 x17 = (r, qo_poured, qo_spilt, qo_amounts, qo_drank, qo_takes, qo_leans) := hT
            have i1 : 1 ≤ x11.toInt := i1
            have j1 : x11.toInt ≤ p1.toInt + 1 := j1
            have hy1 : zLn x17 := hy1
            refine lv_aload_n hx hb dX6_evening_121 rfl (lv_at hl 0 rfl) ?_
            refine va_get (D := (dC, dI)) (ci := 6) (v := .int x12) (C := RX6) (T := TX6) (N := 26) hx hb hts hwX6 hown hK hP 6 rfl rfl 8 (by decide) hf_110 (fun _ h9 => h9) rfl dX6_evening_122 ?_
            have hP9 := hP
            have hD9 := hD
            have hS9 := hS
            have hT : (x12, x12, x13, x14, x15, x16, x17) = (r, qo_poured, qo_spilt, qo_amounts, qo_drank, qo_takes, qo_leans) := hT
            cases hT
            subst hQ
            exact zz_iret hx hb hr [6, 0, 1, 2, 3, 4, 5] hK hP9 hD9 hS9 rfl rfl (by assumption) hlocks dX6_evening_125
          · rintro ⟨b4, b5, b6, b7, b8, b9, b10⟩ H locs ls ⟨i1, j1, hy1, hm, -⟩
            try dsimp only at *
            omega
          · intro k5 hex5 ih5
            rintro ⟨b4, b5, b6, b7, b8, b9, b10⟩ H locs ls ⟨i1, j1, hy1, hm5, hT, hP, hD, hS, hl⟩
            have hP : va_P (dC, dI) vwCl [(o_rows, .inl (cI, 54, .inl vo_rows)), (o_turns, .inl (cI, 9, .inl vo_turns)), (o_amounts, .inl (cJ, 9, .inr (.inl b7))), (o_drank, .inl (cJ, 9, .inr (.inl b8))), (o_takes, .inl (cJ, 9, .inr (.inl b9))), (o_leans, .inl (cI, 9, .inl b10)), (o, .inr (6, [.ref o_page, .int vo_pageMany, .int vo_readMany, .int vo_state, .int vo_readMost, .ref o_readRows, .int vo_glasses, .int vo_towersRead, .int b5, .ref o_rows, .ref o_turns, .ref o_amounts, .ref o_drank, .long b6, .ref o_takes, .ref o_leans, .ref o_would, .int vo_done, .int vo_seedNow, .int vo_keptTower, .int vo_keptPoured, .long vo_keptSpilt, .ref o_keptAmounts, .ref o_keptDrank, .ref o_keptTurns, .long vo_hash]))] H := hP
            have hD : va_D A [(o_rows, .inl (cI, 54, .inl vo_rows)), (o_turns, .inl (cI, 9, .inl vo_turns)), (o_amounts, .inl (cJ, 9, .inr (.inl b7))), (o_drank, .inl (cJ, 9, .inr (.inl b8))), (o_takes, .inl (cJ, 9, .inr (.inl b9))), (o_leans, .inl (cI, 9, .inl b10)), (o, .inr (6, [.ref o_page, .int vo_pageMany, .int vo_readMany, .int vo_state, .int vo_readMost, .ref o_readRows, .int vo_glasses, .int vo_towersRead, .int b5, .ref o_rows, .ref o_turns, .ref o_amounts, .ref o_drank, .long b6, .ref o_takes, .ref o_leans, .ref o_would, .int vo_done, .int vo_seedNow, .int vo_keptTower, .int vo_keptPoured, .long vo_keptSpilt, .ref o_keptAmounts, .ref o_keptDrank, .ref o_keptTurns, .long vo_hash]))] := hD
            have hl : lv_has ls 6 [(3, .int b4), (0, .ref o), (1, .int p1), (2, .int p2)] := hl
            have hT : lp_X6_evening_5 p1 rs_X6_evening_5 vo_glasses vo_rows p2 vo_turns (k5 + 1) b4 b5 b6 b7 b8 b9 b10 = (r, qo_poured, qo_spilt, qo_amounts, qo_drank, qo_takes, qo_leans) := hT
            have i1 : 1 ≤ b4.toInt := i1
            have j1 : b4.toInt ≤ p1.toInt + 1 := j1
            have hy1 : zLn b10 := hy1
            have hm5 : p1.toInt + 1 - b4.toInt < (((k5 + 1) : Nat) : Int) := hm5
            try simp only [Int.natCast_add, Int.natCast_one, Nat.cast_add, Nat.cast_one] at hm5
            refine lv_iload_n hx hb dX6_evening_56 rfl (lv_at hl 0 rfl) ?_
            refine lv_iload_n hx hb dX6_evening_57 rfl (lv_at hl 2 rfl) ?_
            refine lv_icmp_gt (tgt := 121) hx hb dX6_evening_58 (by decide) (fun c_24 => ?_) (fun c_24 => ?_)
            · replace hT := cutT c_24 hT
              have g_43 := zltT (rfl : (p1).toInt = _) (rfl : (b4).toInt = _) c_24
              exact hex5 (b4, b5, b6, b7, b8, b9, b10) _ _ _ ⟨(by omega : 1 ≤ b4.toInt), (by omega : b4.toInt ≤ p1.toInt + 1), (by assumption : zLn b10), hT, hP.sub [0, 1, 2, 3, 4, 5, 6] rfl, hD.sub [0, 1, 2, 3, 4, 5, 6] rfl rfl, hS, lv_sub hl [1] rfl⟩
            · replace hT := cutF c_24 hT
              have g_44 := zltF (rfl : (p1).toInt = _) (rfl : (b4).toInt = _) c_24
              refine lv_aload_n hx hb dX6_evening_61 rfl (lv_at hl 1 rfl) ?_
              refine lv_iconst (v := (0 : Int32)) hx hb dX6_evening_62 (by decide) ?_
              refine lv_iload_n hx hb dX6_evening_63 rfl (lv_at hl 3 rfl) ?_
              obtain ⟨u18, u19, u20, u21, u22, ev_25⟩ : ∃ x0 x1 x2 x3 x4, (m_X6_pourInto vo_glasses b5 b6 vo_rows b7 b9 b10 (0 : Int32) p2) = (x0, x1, x2, x3, x4) := ⟨_, _, _, _, _, rfl⟩
              replace hT := cut5_n ev_25 hT
              refine zz_cv [6, 0, 2, 4, 5] [1, 3] (wr := [(o_turns, .inl (cI, 9, .inl vo_turns)), (o_drank, .inl (cJ, 9, .inr (.inl b8)))]) (w1 := [(o, .inr (6, [.ref o_page, .int vo_pageMany, .int vo_readMany, .int vo_state, .int vo_readMost, .ref o_readRows, .int vo_glasses, .int vo_towersRead, .int u18, .ref o_rows, .ref o_turns, .ref o_amounts, .ref o_drank, .long u19, .ref o_takes, .ref o_leans, .ref o_would, .int vo_done, .int vo_seedNow, .int vo_keptTower, .int vo_keptPoured, .long vo_keptSpilt, .ref o_keptAmounts, .ref o_keptDrank, .ref o_keptTurns, .long vo_hash])), (o_rows, .inl (cI, 54, .inl vo_rows)), (o_amounts, .inl (cJ, 9, .inr (.inl u20))), (o_takes, .inl (cJ, 9, .inr (.inl u21))), (o_leans, .inl (cI, 9, .inl u22))]) (va_runV (As := [.int (0 : Int32), .int p2]) (rest := []) ⟨hx, hb, hml, hown, hts⟩ (k_X6_pourInto l dC dI cI cJ cC H.size o o_page o_readRows o_rows o_turns o_amounts o_drank o_takes o_leans o_would o_keptAmounts o_keptDrank o_keptTurns vo_pageMany vo_readMany vo_state vo_readMost vo_glasses vo_towersRead b5 b6 vo_done vo_seedNow vo_keptTower vo_keptPoured vo_keptSpilt vo_hash vo_rows b7 b9 b10 (0 : Int32) p2 u18 u19 u20 u21 u22 ev_25 hg0 hg9 hrw hy1 (by first | omega | decide) (by first | omega | decide)) (cwV 2 hts gX6_evening_X6_pourInto rfl rfl rfl (by decide +kernel) ⟨Nat.le_of_ble_eq_true rfl, Nat.le_of_ble_eq_true rfl⟩) (zz_preV [6, 0, 2, 4, 5] hK hP hD rfl rfl (va_recv hK hP (ci := 6) (q0 := 6) rfl rfl)) rfl rfl hl.1 rfl (lv_room (Nat.le_of_ble_eq_true rfl)) dX6_evening_64 ⟨Nat.zero_le _, Nat.zero_le _⟩) hP hD hS hA rfl rfl rfl (by decide) (fun ok_26 H locs hP hD hS => ?_)
              have hP : va_P (dC, dI) vwCl [(o_turns, .inl (cI, 9, .inl vo_turns)), (o_drank, .inl (cJ, 9, .inr (.inl b8))), (o, .inr (6, [.ref o_page, .int vo_pageMany, .int vo_readMany, .int vo_state, .int vo_readMost, .ref o_readRows, .int vo_glasses, .int vo_towersRead, .int u18, .ref o_rows, .ref o_turns, .ref o_amounts, .ref o_drank, .long u19, .ref o_takes, .ref o_leans, .ref o_would, .int vo_done, .int vo_seedNow, .int vo_keptTower, .int vo_keptPoured, .long vo_keptSpilt, .ref o_keptAmounts, .ref o_keptDrank, .ref o_keptTurns, .long vo_hash])), (o_rows, .inl (cI, 54, .inl vo_rows)), (o_amounts, .inl (cJ, 9, .inr (.inl u20))), (o_takes, .inl (cJ, 9, .inr (.inl u21))), (o_leans, .inl (cI, 9, .inl u22))] H := hP
              have hD : va_D A [(o_turns, .inl (cI, 9, .inl vo_turns)), (o_drank, .inl (cJ, 9, .inr (.inl b8))), (o, .inr (6, [.ref o_page, .int vo_pageMany, .int vo_readMany, .int vo_state, .int vo_readMost, .ref o_readRows, .int vo_glasses, .int vo_towersRead, .int u18, .ref o_rows, .ref o_turns, .ref o_amounts, .ref o_drank, .long u19, .ref o_takes, .ref o_leans, .ref o_would, .int vo_done, .int vo_seedNow, .int vo_keptTower, .int vo_keptPoured, .long vo_keptSpilt, .ref o_keptAmounts, .ref o_keptDrank, .ref o_keptTurns, .long vo_hash])), (o_rows, .inl (cI, 54, .inl vo_rows)), (o_amounts, .inl (cJ, 9, .inr (.inl u20))), (o_takes, .inl (cJ, 9, .inr (.inl u21))), (o_leans, .inl (cI, 9, .inl u22))] := hD
              refine lv_iconst (v := (0 : Int32)) hx hb dX6_evening_67 (by decide) ?_
              refine lv_istore (lv' := [(4, .int (0 : Int32)), (3, .int b4), (0, .ref o), (1, .int p1), (2, .int p2)]) hx hb dX6_evening_68 hl (by decide) rfl (fun ls hl => ?_)
              have hz_45 : ((0 : Int32)).toInt = 0 := by decide
              refine zz_loop (α := Int32 × (Nat → Int64) × (Nat → Int64)) 115 (fun k a H locs ls => (0 ≤ a.1.toInt) ∧ (a.1.toInt ≤ vo_glasses.toInt) ∧ (vo_glasses.toInt - a.1.toInt < ((k : Nat) : Int)) ∧ lp_X6_evening_6 vo_glasses (rs_X6_evening_6 b4 (fun c0 c1 c2 c3 c4 c5 c6 => lp_X6_evening_5 p1 rs_X6_evening_5 vo_glasses vo_rows p2 vo_turns k5 c0 c1 c2 c3 c4 c5 c6) u18 u19 u21 u22) vo_turns b4 k a.1 a.2.1 a.2.2 = (r, qo_poured, qo_spilt, qo_amounts, qo_drank, qo_takes, qo_leans) ∧ va_P (dC, dI) vwCl [(o_turns, .inl (cI, 9, .inl vo_turns)), (o_drank, .inl (cJ, 9, .inr (.inl a.2.2))), (o, .inr (6, [.ref o_page, .int vo_pageMany, .int vo_readMany, .int vo_state, .int vo_readMost, .ref o_readRows, .int vo_glasses, .int vo_towersRead, .int u18, .ref o_rows, .ref o_turns, .ref o_amounts, .ref o_drank, .long u19, .ref o_takes, .ref o_leans, .ref o_would, .int vo_done, .int vo_seedNow, .int vo_keptTower, .int vo_keptPoured, .long vo_keptSpilt, .ref o_keptAmounts, .ref o_keptDrank, .ref o_keptTurns, .long vo_hash])), (o_rows, .inl (cI, 54, .inl vo_rows)), (o_amounts, .inl (cJ, 9, .inr (.inl a.2.1))), (o_takes, .inl (cJ, 9, .inr (.inl u21))), (o_leans, .inl (cI, 9, .inl u22))] H ∧ va_D A [(o_turns, .inl (cI, 9, .inl vo_turns)), (o_drank, .inl (cJ, 9, .inr (.inl a.2.2))), (o, .inr (6, [.ref o_page, .int vo_pageMany, .int vo_readMany, .int vo_state, .int vo_readMost, .ref o_readRows, .int vo_glasses, .int vo_towersRead, .int u18, .ref o_rows, .ref o_turns, .ref o_amounts, .ref o_drank, .long u19, .ref o_takes, .ref o_leans, .ref o_would, .int vo_done, .int vo_seedNow, .int vo_keptTower, .int vo_keptPoured, .long vo_keptSpilt, .ref o_keptAmounts, .ref o_keptDrank, .ref o_keptTurns, .long vo_hash])), (o_rows, .inl (cI, 54, .inl vo_rows)), (o_amounts, .inl (cJ, 9, .inr (.inl a.2.1))), (o_takes, .inl (cJ, 9, .inr (.inl u21))), (o_leans, .inl (cI, 9, .inl u22))] ∧ va_S A s.heap H locs ∧ lv_has ls 6 [(4, .int a.1), (3, .int b4), (0, .ref o), (1, .int p1), (2, .int p2)]) (fun a H locs ls => (0 ≤ a.1.toInt) ∧ (a.1.toInt ≤ vo_glasses.toInt) ∧ (rs_X6_evening_6 b4 (fun c0 c1 c2 c3 c4 c5 c6 => lp_X6_evening_5 p1 rs_X6_evening_5 vo_glasses vo_rows p2 vo_turns k5 c0 c1 c2 c3 c4 c5 c6) u18 u19 u21 u22) a.1 a.2.1 a.2.2 = (r, qo_poured, qo_spilt, qo_amounts, qo_drank, qo_takes, qo_leans) ∧ va_P (dC, dI) vwCl [(o_turns, .inl (cI, 9, .inl vo_turns)), (o_drank, .inl (cJ, 9, .inr (.inl a.2.2))), (o, .inr (6, [.ref o_page, .int vo_pageMany, .int vo_readMany, .int vo_state, .int vo_readMost, .ref o_readRows, .int vo_glasses, .int vo_towersRead, .int u18, .ref o_rows, .ref o_turns, .ref o_amounts, .ref o_drank, .long u19, .ref o_takes, .ref o_leans, .ref o_would, .int vo_done, .int vo_seedNow, .int vo_keptTower, .int vo_keptPoured, .long vo_keptSpilt, .ref o_keptAmounts, .ref o_keptDrank, .ref o_keptTurns, .long vo_hash])), (o_rows, .inl (cI, 54, .inl vo_rows)), (o_amounts, .inl (cJ, 9, .inr (.inl a.2.1))), (o_takes, .inl (cJ, 9, .inr (.inl u21))), (o_leans, .inl (cI, 9, .inl u22))] H ∧ va_D A [(o_turns, .inl (cI, 9, .inl vo_turns)), (o_drank, .inl (cJ, 9, .inr (.inl a.2.2))), (o, .inr (6, [.ref o_page, .int vo_pageMany, .int vo_readMany, .int vo_state, .int vo_readMost, .ref o_readRows, .int vo_glasses, .int vo_towersRead, .int u18, .ref o_rows, .ref o_turns, .ref o_amounts, .ref o_drank, .long u19, .ref o_takes, .ref o_leans, .ref o_would, .int vo_done, .int vo_seedNow, .int vo_keptTower, .int vo_keptPoured, .long vo_keptSpilt, .ref o_keptAmounts, .ref o_keptDrank, .ref o_keptTurns, .long vo_hash])), (o_rows, .inl (cI, 54, .inl vo_rows)), (o_amounts, .inl (cJ, 9, .inr (.inl a.2.1))), (o_takes, .inl (cJ, 9, .inr (.inl u21))), (o_leans, .inl (cI, 9, .inl u22))] ∧ va_S A s.heap H locs ∧ lv_has ls 6 [(3, .int b4), (0, .ref o), (1, .int p1), (2, .int p2)]) ?_ ?_ ?_ 11 ((0 : Int32), u20, b8) ⟨(by omega : 0 ≤ (0 : Int32).toInt), (by omega : (0 : Int32).toInt ≤ vo_glasses.toInt), (by omega : vo_glasses.toInt - (0 : Int32).toInt < ((11 : Nat) : Int)), hT, hP.sub [0, 1, 2, 3, 4, 5, 6] rfl, hD.sub [0, 1, 2, 3, 4, 5, 6] rfl rfl, hS, lv_sub hl [0, 1, 2, 3, 4] rfl⟩
              · rintro ⟨x26, x27, x28⟩ H locs ls ⟨i2, j2, hT, hP, hD, hS, hl⟩
                have hP : va_P (dC, dI) vwCl [(o_turns, .inl (cI, 9, .inl vo_turns)), (o_drank, .inl (cJ, 9, .inr (.inl x28))), (o, .inr (6, [.ref o_page, .int vo_pageMany, .int vo_readMany, .int vo_state, .int vo_readMost, .ref o_readRows, .int vo_glasses, .int vo_towersRead, .int u18, .ref o_rows, .ref o_turns, .ref o_amounts, .ref o_drank, .long u19, .ref o_takes, .ref o_leans, .ref o_would, .int vo_done, .int vo_seedNow, .int vo_keptTower, .int vo_keptPoured, .long vo_keptSpilt, .ref o_keptAmounts, .ref o_keptDrank, .ref o_keptTurns, .long vo_hash])), (o_rows, .inl (cI, 54, .inl vo_rows)), (o_amounts, .inl (cJ, 9, .inr (.inl x27))), (o_takes, .inl (cJ, 9, .inr (.inl u21))), (o_leans, .inl (cI, 9, .inl u22))] H := hP
                have hD : va_D A [(o_turns, .inl (cI, 9, .inl vo_turns)), (o_drank, .inl (cJ, 9, .inr (.inl x28))), (o, .inr (6, [.ref o_page, .int vo_pageMany, .int vo_readMany, .int vo_state, .int vo_readMost, .ref o_readRows, .int vo_glasses, .int vo_towersRead, .int u18, .ref o_rows, .ref o_turns, .ref o_amounts, .ref o_drank, .long u19, .ref o_takes, .ref o_leans, .ref o_would, .int vo_done, .int vo_seedNow, .int vo_keptTower, .int vo_keptPoured, .long vo_keptSpilt, .ref o_keptAmounts, .ref o_keptDrank, .ref o_keptTurns, .long vo_hash])), (o_rows, .inl (cI, 54, .inl vo_rows)), (o_amounts, .inl (cJ, 9, .inr (.inl x27))), (o_takes, .inl (cJ, 9, .inr (.inl u21))), (o_leans, .inl (cI, 9, .inl u22))] := hD
                have hl : lv_has ls 6 [(3, .int b4), (0, .ref o), (1, .int p1), (2, .int p2)] := hl
                have hT : (rs_X6_evening_6 b4 (fun c0 c1 c2 c3 c4 c5 c6 => lp_X6_evening_5 p1 rs_X6_evening_5 vo_glasses vo_rows p2 vo_turns k5 c0 c1 c2 c3 c4 c5 c6) u18 u19 u21 u22) x26 x27 x28 = (r, qo_poured, qo_spilt, qo_amounts, qo_drank, qo_takes, qo_leans) := hT
                have i2 : 0 ≤ x26.toInt := i2
                have j2 : x26.toInt ≤ vo_glasses.toInt := j2
                obtain ⟨v35, ev35⟩ : ∃ y : Int32, (b4 + (1 : Int32)) = y := ⟨_, rfl⟩
                replace hT := cut_n ev35 hT
                try have fv35 := zaddE (rfl : (b4).toInt = _) (by decide : ((1 : Int32)).toInt = 1) ev35 (by omega) (by omega)
                refine lv_iinc (v := v35) (lv' := [(3, .int v35), (0, .ref o), (1, .int p1), (2, .int p2)]) hx hb dX6_evening_115 hl (k := 0) rfl (by rw [← ev35]; rfl) (by decide) rfl (fun ls hl => ?_)
                refine lv_goto (tgt := 56) hx hb dX6_evening_118 (by decide) ?_
                exact ih5 (v35, u18, u19, x27, x28, u21, u22) _ _ _ ⟨(by omega : 1 ≤ v35.toInt), (by omega : v35.toInt ≤ p1.toInt + 1), (by assumption : zLn u22), (by omega : p1.toInt + 1 - v35.toInt < ((k5 : Nat) : Int)), hT, hP.sub [3, 0, 4, 1, 5, 6, 2] rfl, hD.sub [3, 0, 4, 1, 5, 6, 2] rfl rfl, hS, lv_sub hl [0, 1, 2, 3] rfl⟩
              · rintro ⟨b23, b24, b25⟩ H locs ls ⟨i2, j2, hm, -⟩
                try dsimp only at *
                omega
              · intro k6 hex6 ih6
                rintro ⟨b23, b24, b25⟩ H locs ls ⟨i2, j2, hm6, hT, hP, hD, hS, hl⟩
                have hP : va_P (dC, dI) vwCl [(o_turns, .inl (cI, 9, .inl vo_turns)), (o_drank, .inl (cJ, 9, .inr (.inl b25))), (o, .inr (6, [.ref o_page, .int vo_pageMany, .int vo_readMany, .int vo_state, .int vo_readMost, .ref o_readRows, .int vo_glasses, .int vo_towersRead, .int u18, .ref o_rows, .ref o_turns, .ref o_amounts, .ref o_drank, .long u19, .ref o_takes, .ref o_leans, .ref o_would, .int vo_done, .int vo_seedNow, .int vo_keptTower, .int vo_keptPoured, .long vo_keptSpilt, .ref o_keptAmounts, .ref o_keptDrank, .ref o_keptTurns, .long vo_hash])), (o_rows, .inl (cI, 54, .inl vo_rows)), (o_amounts, .inl (cJ, 9, .inr (.inl b24))), (o_takes, .inl (cJ, 9, .inr (.inl u21))), (o_leans, .inl (cI, 9, .inl u22))] H := hP
                have hD : va_D A [(o_turns, .inl (cI, 9, .inl vo_turns)), (o_drank, .inl (cJ, 9, .inr (.inl b25))), (o, .inr (6, [.ref o_page, .int vo_pageMany, .int vo_readMany, .int vo_state, .int vo_readMost, .ref o_readRows, .int vo_glasses, .int vo_towersRead, .int u18, .ref o_rows, .ref o_turns, .ref o_amounts, .ref o_drank, .long u19, .ref o_takes, .ref o_leans, .ref o_would, .int vo_done, .int vo_seedNow, .int vo_keptTower, .int vo_keptPoured, .long vo_keptSpilt, .ref o_keptAmounts, .ref o_keptDrank, .ref o_keptTurns, .long vo_hash])), (o_rows, .inl (cI, 54, .inl vo_rows)), (o_amounts, .inl (cJ, 9, .inr (.inl b24))), (o_takes, .inl (cJ, 9, .inr (.inl u21))), (o_leans, .inl (cI, 9, .inl u22))] := hD
                have hl : lv_has ls 6 [(4, .int b23), (3, .int b4), (0, .ref o), (1, .int p1), (2, .int p2)] := hl
                have hT : lp_X6_evening_6 vo_glasses (rs_X6_evening_6 b4 (fun c0 c1 c2 c3 c4 c5 c6 => lp_X6_evening_5 p1 rs_X6_evening_5 vo_glasses vo_rows p2 vo_turns k5 c0 c1 c2 c3 c4 c5 c6) u18 u19 u21 u22) vo_turns b4 (k6 + 1) b23 b24 b25 = (r, qo_poured, qo_spilt, qo_amounts, qo_drank, qo_takes, qo_leans) := hT
                have i2 : 0 ≤ b23.toInt := i2
                have j2 : b23.toInt ≤ vo_glasses.toInt := j2
                have hm6 : vo_glasses.toInt - b23.toInt < (((k6 + 1) : Nat) : Int) := hm6
                try simp only [Int.natCast_add, Int.natCast_one, Nat.cast_add, Nat.cast_one] at hm6
                refine lv_iload hx hb dX6_evening_70 (lv_at hl 0 rfl) ?_
                refine lv_aload_n hx hb dX6_evening_72 rfl (lv_at hl 2 rfl) ?_
                refine va_get (D := (dC, dI)) (ci := 6) (v := .int vo_glasses) (C := RX6) (T := TX6) (N := 26) hx hb hts hwX6 hown hK hP 2 rfl rfl 6 (by decide) hf_97 (fun _ h9 => h9) rfl dX6_evening_73 ?_
                refine lv_icmp_ge (tgt := 115) hx hb dX6_evening_76 (by decide) (fun c_27 => ?_) (fun c_27 => ?_)
                · replace hT := cutT c_27 hT
                  have g_46 := zleT (rfl : (vo_glasses).toInt = _) (rfl : (b23).toInt = _) c_27
                  exact hex6 (b23, b24, b25) _ _ _ ⟨(by omega : 0 ≤ b23.toInt), (by omega : b23.toInt ≤ vo_glasses.toInt), hT, hP.sub [0, 1, 2, 3, 4, 5, 6] rfl, hD.sub [0, 1, 2, 3, 4, 5, 6] rfl rfl, hS, lv_sub hl [1, 2, 3, 4] rfl⟩
                · replace hT := cutF c_27 hT
                  have g_47 := zleF (rfl : (vo_glasses).toInt = _) (rfl : (b23).toInt = _) c_27
                  refine lv_aload_n hx hb dX6_evening_79 rfl (lv_at hl 2 rfl) ?_
                  refine va_get (D := (dC, dI)) (ci := 6) (v := .ref o_turns) (C := RX6) (T := TX6) (N := 26) hx hb hts hwX6 hown hK hP 2 rfl rfl 10 (by decide) hf_19 (fun _ h9 => h9) rfl dX6_evening_80 ?_
                  refine lv_iload hx hb dX6_evening_83 (lv_at hl 0 rfl) ?_
                  have h_28 : vp_in b23 9 := zin (by omega) (by omega)
                  refine va_iald hx hb hK hP 0 0 rfl rfl h_28 dX6_evening_85 ?_
                  refine lv_if_le (tgt := 109) hx hb dX6_evening_86 (by decide) (fun c_29 => ?_) (fun c_29 => ?_)
                  · replace hT := cutT c_29 hT
                    have g_48 := zleT (rfl : ((vo_turns b23.toNatClampNeg)).toInt = _) (by decide : ((0 : Int32)).toInt = 0) c_29
                    obtain ⟨v29, ev29⟩ : ∃ y : Int32, (b23 + (1 : Int32)) = y := ⟨_, rfl⟩
                    replace hT := cut_n ev29 hT
                    try have fv29 := zaddE (rfl : (b23).toInt = _) (by decide : ((1 : Int32)).toInt = 1) ev29 (by omega) (by omega)
                    refine lv_iinc (v := v29) (lv' := [(4, .int v29), (3, .int b4), (0, .ref o), (1, .int p1), (2, .int p2)]) hx hb dX6_evening_109 hl (k := 0) rfl (by rw [← ev29]; rfl) (by decide) rfl (fun ls hl => ?_)
                    refine lv_goto (tgt := 70) hx hb dX6_evening_112 (by decide) ?_
                    exact ih6 (v29, b24, b25) _ _ _ ⟨(by omega : 0 ≤ v29.toInt), (by omega : v29.toInt ≤ vo_glasses.toInt), (by omega : vo_glasses.toInt - v29.toInt < ((k6 : Nat) : Int)), hT, hP.sub [0, 1, 2, 3, 4, 5, 6] rfl, hD.sub [0, 1, 2, 3, 4, 5, 6] rfl rfl, hS, lv_sub hl [0, 1, 2, 3, 4] rfl⟩
                  · replace hT := cutF c_29 hT
                    have g_49 := zleF (rfl : ((vo_turns b23.toNatClampNeg)).toInt = _) (by decide : ((0 : Int32)).toInt = 0) c_29
                    refine lv_iload_n hx hb dX6_evening_89 rfl (lv_at hl 1 rfl) ?_
                    refine lv_aload_n hx hb dX6_evening_90 rfl (lv_at hl 2 rfl) ?_
                    refine va_get (D := (dC, dI)) (ci := 6) (v := .ref o_turns) (C := RX6) (T := TX6) (N := 26) hx hb hts hwX6 hown hK hP 2 rfl rfl 10 (by decide) hf_19 (fun _ h9 => h9) rfl dX6_evening_91 ?_
                    refine lv_iload hx hb dX6_evening_94 (lv_at hl 0 rfl) ?_
                    have h_30 : vp_in b23 9 := zin (by omega) (by omega)
                    refine va_iald hx hb hK hP 0 0 rfl rfl h_30 dX6_evening_96 ?_
                    have h_31 : ¬ (vo_turns b23.toNatClampNeg) = 0 := z0ne (by omega)
                    refine lv_irem hx hb dX6_evening_97 h_31 ?_
                    refine lv_if_ne (tgt := 109) hx hb dX6_evening_98 (by decide) (fun c_32 => ?_) (fun c_32 => ?_)
                    · replace hT := cutF c_32 hT
                      have g_50 := zeqF (rfl : ((b4 - b4 / (vo_turns b23.toNatClampNeg) * (vo_turns b23.toNatClampNeg))).toInt = _) (by decide : ((0 : Int32)).toInt = 0) c_32
                      obtain ⟨v30, ev30⟩ : ∃ y : Int32, (b23 + (1 : Int32)) = y := ⟨_, rfl⟩
                      replace hT := cut_n ev30 hT
                      try have fv30 := zaddE (rfl : (b23).toInt = _) (by decide : ((1 : Int32)).toInt = 1) ev30 (by omega) (by omega)
                      refine lv_iinc (v := v30) (lv' := [(4, .int v30), (3, .int b4), (0, .ref o), (1, .int p1), (2, .int p2)]) hx hb dX6_evening_109 hl (k := 0) rfl (by rw [← ev30]; rfl) (by decide) rfl (fun ls hl => ?_)
                      refine lv_goto (tgt := 70) hx hb dX6_evening_112 (by decide) ?_
                      exact ih6 (v30, b24, b25) _ _ _ ⟨(by omega : 0 ≤ v30.toInt), (by omega : v30.toInt ≤ vo_glasses.toInt), (by omega : vo_glasses.toInt - v30.toInt < ((k6 : Nat) : Int)), hT, hP.sub [0, 1, 2, 3, 4, 5, 6] rfl, hD.sub [0, 1, 2, 3, 4, 5, 6] rfl rfl, hS, lv_sub hl [0, 1, 2, 3, 4] rfl⟩
                    · replace hT := cutT c_32 hT
                      have g_51 := zeqT (rfl : ((b4 - b4 / (vo_turns b23.toNatClampNeg) * (vo_turns b23.toNatClampNeg))).toInt = _) (by decide : ((0 : Int32)).toInt = 0) c_32
                      refine lv_aload_n hx hb dX6_evening_101 rfl (lv_at hl 2 rfl) ?_
                      refine lv_iload hx hb dX6_evening_102 (lv_at hl 0 rfl) ?_
                      obtain ⟨r31, u32, u33, ev_33⟩ : ∃ x0 x1 x2, (m_X6_emptyOne b24 b25 b23) = (x0, x1, x2) := ⟨_, _, _, rfl⟩
                      replace hT := cut3_n ev_33 hT
                      refine zz_ci [2, 4, 1] [0, 3, 5, 6] (wr := [(o_turns, .inl (cI, 9, .inl vo_turns)), (o_rows, .inl (cI, 54, .inl vo_rows)), (o_takes, .inl (cJ, 9, .inr (.inl u21))), (o_leans, .inl (cI, 9, .inl u22))]) (w1 := [(o, .inr (6, [.ref o_page, .int vo_pageMany, .int vo_readMany, .int vo_state, .int vo_readMost, .ref o_readRows, .int vo_glasses, .int vo_towersRead, .int u18, .ref o_rows, .ref o_turns, .ref o_amounts, .ref o_drank, .long u19, .ref o_takes, .ref o_leans, .ref o_would, .int vo_done, .int vo_seedNow, .int vo_keptTower, .int vo_keptPoured, .long vo_keptSpilt, .ref o_keptAmounts, .ref o_keptDrank, .ref o_keptTurns, .long vo_hash])), (o_amounts, .inl (cJ, 9, .inr (.inl u32))), (o_drank, .inl (cJ, 9, .inr (.inl u33)))]) (va_runV (As := [.int b23]) (rest := []) ⟨hx, hb, hml, hown, hts⟩ (k_X6_emptyOne l dC dI cI cJ cC H.size o o_page o_readRows o_rows o_turns o_amounts o_drank o_takes o_leans o_would o_keptAmounts o_keptDrank o_keptTurns vo_pageMany vo_readMany vo_state vo_readMost vo_glasses vo_towersRead u18 u19 vo_done vo_seedNow vo_keptTower vo_keptPoured vo_keptSpilt vo_hash b24 b25 b23 r31 u32 u33 ev_33 (by first | omega | decide) (by first | omega | decide)) (cwV 1 hts gX6_evening_X6_emptyOne rfl rfl rfl (by decide +kernel) ⟨Nat.le_of_ble_eq_true rfl, Nat.le_of_ble_eq_true rfl⟩) (zz_preV [2, 4, 1] hK hP hD rfl rfl (va_recv hK hP (ci := 6) (q0 := 2) rfl rfl)) rfl rfl hl.1 rfl (lv_room (Nat.le_of_ble_eq_true rfl)) dX6_evening_104 ⟨Nat.zero_le _, Nat.zero_le _⟩) hP hD hS hA rfl rfl rfl (by decide) (fun ok_34 H locs hP hD hS => ?_)
                      have hP : va_P (dC, dI) vwCl [(o_turns, .inl (cI, 9, .inl vo_turns)), (o_rows, .inl (cI, 54, .inl vo_rows)), (o_takes, .inl (cJ, 9, .inr (.inl u21))), (o_leans, .inl (cI, 9, .inl u22)), (o, .inr (6, [.ref o_page, .int vo_pageMany, .int vo_readMany, .int vo_state, .int vo_readMost, .ref o_readRows, .int vo_glasses, .int vo_towersRead, .int u18, .ref o_rows, .ref o_turns, .ref o_amounts, .ref o_drank, .long u19, .ref o_takes, .ref o_leans, .ref o_would, .int vo_done, .int vo_seedNow, .int vo_keptTower, .int vo_keptPoured, .long vo_keptSpilt, .ref o_keptAmounts, .ref o_keptDrank, .ref o_keptTurns, .long vo_hash])), (o_amounts, .inl (cJ, 9, .inr (.inl u32))), (o_drank, .inl (cJ, 9, .inr (.inl u33)))] H := hP
                      have hD : va_D A [(o_turns, .inl (cI, 9, .inl vo_turns)), (o_rows, .inl (cI, 54, .inl vo_rows)), (o_takes, .inl (cJ, 9, .inr (.inl u21))), (o_leans, .inl (cI, 9, .inl u22)), (o, .inr (6, [.ref o_page, .int vo_pageMany, .int vo_readMany, .int vo_state, .int vo_readMost, .ref o_readRows, .int vo_glasses, .int vo_towersRead, .int u18, .ref o_rows, .ref o_turns, .ref o_amounts, .ref o_drank, .long u19, .ref o_takes, .ref o_leans, .ref o_would, .int vo_done, .int vo_seedNow, .int vo_keptTower, .int vo_keptPoured, .long vo_keptSpilt, .ref o_keptAmounts, .ref o_keptDrank, .ref o_keptTurns, .long vo_hash])), (o_amounts, .inl (cJ, 9, .inr (.inl u32))), (o_drank, .inl (cJ, 9, .inr (.inl u33)))] := hD
                      refine lv_istore (lv' := [(5, .int r31), (4, .int b23), (3, .int b4), (0, .ref o), (1, .int p1), (2, .int p2)]) hx hb dX6_evening_107 hl (by decide) rfl (fun ls hl => ?_)
                      obtain ⟨v34, ev34⟩ : ∃ y : Int32, (b23 + (1 : Int32)) = y := ⟨_, rfl⟩
                      replace hT := cut_n ev34 hT
                      try have fv34 := zaddE (rfl : (b23).toInt = _) (by decide : ((1 : Int32)).toInt = 1) ev34 (by omega) (by omega)
                      refine lv_iinc (v := v34) (lv' := [(4, .int v34), (5, .int r31), (3, .int b4), (0, .ref o), (1, .int p1), (2, .int p2)]) hx hb dX6_evening_109 hl (k := 1) rfl (by rw [← ev34]; rfl) (by decide) rfl (fun ls hl => ?_)
                      refine lv_goto (tgt := 70) hx hb dX6_evening_112 (by decide) ?_
                      exact ih6 (v34, u32, u33) _ _ _ ⟨(by omega : 0 ≤ v34.toInt), (by omega : v34.toInt ≤ vo_glasses.toInt), (by omega : vo_glasses.toInt - v34.toInt < ((k6 : Nat) : Int)), hT, hP.sub [0, 6, 4, 1, 5, 2, 3] rfl, hD.sub [0, 6, 4, 1, 5, 2, 3] rfl rfl, hS, lv_sub hl [0, 2, 3, 4, 5] rfl⟩
        · replace hT := cutF c_23 hT
          have g_52 := zleF (rfl : ((vo_poured + (p1 * p2))).toInt = _) (by decide : ((9999 : Int32)).toInt = 9999) c_23
          refine lv_bipush (v := (-103 : Int32)) hx hb dX6_evening_51 (by decide) ?_
          have hP9 := hP
          have hD9 := hD
          have hS9 := hS
          have hT : ((-103 : Int32), vo_poured, vo_spilt, vo_amounts, vo_drank, vo_takes, vo_leans) = (r, qo_poured, qo_spilt, qo_amounts, qo_drank, qo_takes, qo_leans) := hT
          cases hT
          subst hQ
          exact zz_iret hx hb hr [6, 0, 1, 2, 3, 4, 5] hK hP9 hD9 hS9 rfl rfl (by assumption) hlocks dX6_evening_53
      · replace hT := cutT c_22 hT
        have g_53 := zeqT (rfl : (r3).toInt = _) (by decide : ((0 : Int32)).toInt = 0) c_22
        refine lv_bipush (v := (-102 : Int32)) hx hb dX6_evening_34 (by decide) ?_
        have hP9 := hP
        have hD9 := hD
        have hS9 := hS
        have hT : ((-102 : Int32), vo_poured, vo_spilt, vo_amounts, vo_drank, vo_takes, vo_leans) = (r, qo_poured, qo_spilt, qo_amounts, qo_drank, qo_takes, qo_leans) := hT
        cases hT
        subst hQ
        exact zz_iret hx hb hr [6, 0, 1, 2, 3, 4, 5] hK hP9 hD9 hS9 rfl rfl (by assumption) hlocks dX6_evening_36
  · replace hT := cutF c_6 hT
    have g_54 := zeqF (rfl : (r1).toInt = _) (by decide : ((0 : Int32)).toInt = 0) c_6
    refine lv_bipush (v := (-103 : Int32)) hx hb dX6_evening_7 (by decide) ?_
    have hP9 := hP
    have hD9 := hD
    have hS9 := hS
    have hT : ((-103 : Int32), vo_poured, vo_spilt, vo_amounts, vo_drank, vo_takes, vo_leans) = (r, qo_poured, qo_spilt, qo_amounts, qo_drank, qo_takes, qo_leans) := hT
    cases hT
    subst hQ
    exact zz_iret hx hb hr [6, 0, 1, 2, 3, 4, 5] hK hP9 hD9 hS9 rfl rfl (by assumption) hlocks dX6_evening_9

def rs_X6_leaves_2 (j4 : Nat → Int64) (u2 : Nat → Int32) (u8 : Nat → Int64) (x11 : Int32) (x12 : Int32) : Int32 × (Nat → Int64) × (Nat → Int32) × (Nat → Int64) :=
 (x12, j4, u2, u8)
def lp_X6_leaves_2 (vo_glasses : Int32) (ct2 : Int32 → Int32 → (Int32 × (Nat → Int64) × (Nat → Int32) × (Nat → Int64))) (u8 : Nat → Int64) (vo_amounts : Nat → Int64) : Nat → Int32 → Int32 → (Int32 × (Nat → Int64) × (Nat → Int32) × (Nat → Int64))
  | 0, _, _ => default
  | k + 1, b9, b10 =>
  if vo_glasses ≤ b9 then
   (ct2 b9 b10)
  else
   if b10 = (0 : Int32) then
    cut (b9 + (1 : Int32)) (fun (v13 : Int32) =>
    (lp_X6_leaves_2 vo_glasses ct2 u8 vo_amounts k v13 (0 : Int32)))
   else
    if (lg_cmp (u8 b9.toNatClampNeg) (vo_amounts b9.toNatClampNeg)) = (0 : Int32) then
     cut (b9 + (1 : Int32)) (fun (v15 : Int32) =>
     (lp_X6_leaves_2 vo_glasses ct2 u8 vo_amounts k v15 (1 : Int32)))
    else
     cut (b9 + (1 : Int32)) (fun (v14 : Int32) =>
     (lp_X6_leaves_2 vo_glasses ct2 u8 vo_amounts k v14 (0 : Int32)))
def m_X6_leaves (vo_glasses : Int32) (vo_rows : Nat → Int32) (vo_amounts : Nat → Int64) (vo_takes : Nat → Int64) (vo_leans : Nat → Int32) (vo_would : Nat → Int64) (p1 : Int32) (p2 : Int32) : Int32 × (Nat → Int64) × (Nat → Int32) × (Nat → Int64) :=
 cut3 (m_X6_beginWould vo_glasses vo_rows vo_amounts vo_takes vo_leans vo_would (0 : Int32)) (fun (u1 : Nat → Int64) (u2 : Nat → Int32) (u3 : Nat → Int64) =>
 cut (
  if p2 = (-1 : Int32) then
   u1
  else
   cut (vp_updL u1 p2.toNatClampNeg ((u1 p2.toNatClampNeg) - (429981696 : Int64))) (fun (a5 : Nat → Int64) =>
   a5)) (fun (j4 : Nat → Int64) =>
 cut (vp_updL u3 (0 : Int32).toNatClampNeg ((429981696 : Int64) * (p1.toInt64))) (fun (a6 : Nat → Int64) =>
 cut2 (m_X6_runOver_w vo_glasses vo_rows j4 u2 a6) (fun (r7 : Int64) (u8 : Nat → Int64) =>
 (lp_X6_leaves_2 vo_glasses (rs_X6_leaves_2 j4 u2 u8) u8 vo_amounts 11 (0 : Int32) (1 : Int32))))))
set_option maxHeartbeats 4000000 in
set_option maxRecDepth 100000 in
theorem k_X6_leaves (l : Launch) (dC : Nat → ClassId) (dI : Nat → Nat → Nat) (cI cJ cC : ClassId) (sz : Nat) (o o_page o_readRows o_rows o_turns o_amounts o_drank o_takes o_leans o_would o_keptAmounts o_keptDrank o_keptTurns : Nat) (vo_pageMany : Int32) (vo_readMany : Int32) (vo_state : Int32) (vo_readMost : Int32) (vo_glasses : Int32) (vo_towersRead : Int32) (vo_poured : Int32) (vo_spilt : Int64) (vo_done : Int32) (vo_seedNow : Int32) (vo_keptTower : Int32) (vo_keptPoured : Int32) (vo_keptSpilt : Int64) (vo_hash : Int64) (vo_rows : Nat → Int32) (vo_amounts : Nat → Int64) (vo_takes : Nat → Int64) (vo_leans : Nat → Int32) (vo_would : Nat → Int64) (p1 : Int32) (p2 : Int32) (r : Int32) (qo_takes : Nat → Int64) (qo_leans : Nat → Int32) (qo_would : Nat → Int64) (hT : m_X6_leaves vo_glasses vo_rows vo_amounts vo_takes vo_leans vo_would p1 p2 = (r, qo_takes, qo_leans, qo_would)) (hg0 : 0 ≤ vo_glasses.toInt) (hg9 : vo_glasses.toInt ≤ 9) (hrw : zRw vo_rows) (hln : zLn vo_leans) (hch : p2.toInt = -1 ∨ (0 ≤ p2.toInt ∧ p2.toInt < 9)) : Met l yX6_leaves wsX6_leaves ({ frames := 3, cells := 0, slots := 0, locals := 66 }) (zPc [.ref o, .int p1, .int p2] (dC, dI) (zTy cI cJ cC) [(o, .inr (6, [.ref o_page, .int vo_pageMany, .int vo_readMany, .int vo_state, .int vo_readMost, .ref o_readRows, .int vo_glasses, .int vo_towersRead, .int vo_poured, .ref o_rows, .ref o_turns, .ref o_amounts, .ref o_drank, .long vo_spilt, .ref o_takes, .ref o_leans, .ref o_would, .int vo_done, .int vo_seedNow, .int vo_keptTower, .int vo_keptPoured, .long vo_keptSpilt, .ref o_keptAmounts, .ref o_keptDrank, .ref o_keptTurns, .long vo_hash])), (o_rows, .inl (cI, 54, .inl vo_rows)), (o_amounts, .inl (cJ, 9, .inr (.inl vo_amounts))), (o_takes, .inl (cJ, 9, .inr (.inl vo_takes))), (o_leans, .inl (cI, 9, .inl vo_leans)), (o_would, .inl (cJ, 9, .inr (.inl vo_would)))] sz) (zQi r ((zB01 r) ∧ (zLn qo_leans)) (dC, dI) (zTy cI cJ cC) [(o, .inr (6, [.ref o_page, .int vo_pageMany, .int vo_readMany, .int vo_state, .int vo_readMost, .ref o_readRows, .int vo_glasses, .int vo_towersRead, .int vo_poured, .ref o_rows, .ref o_turns, .ref o_amounts, .ref o_drank, .long vo_spilt, .ref o_takes, .ref o_leans, .ref o_would, .int vo_done, .int vo_seedNow, .int vo_keptTower, .int vo_keptPoured, .long vo_keptSpilt, .ref o_keptAmounts, .ref o_keptDrank, .ref o_keptTurns, .long vo_hash])), (o_rows, .inl (cI, 54, .inl vo_rows)), (o_amounts, .inl (cJ, 9, .inr (.inl vo_amounts))), (o_takes, .inl (cJ, 9, .inr (.inl qo_takes))), (o_leans, .inl (cI, 9, .inl qo_leans)), (o_would, .inl (cJ, 9, .inr (.inl qo_would)))] (va_A [(o, .inr (6, [.ref o_page, .int vo_pageMany, .int vo_readMany, .int vo_state, .int vo_readMost, .ref o_readRows, .int vo_glasses, .int vo_towersRead, .int vo_poured, .ref o_rows, .ref o_turns, .ref o_amounts, .ref o_drank, .long vo_spilt, .ref o_takes, .ref o_leans, .ref o_would, .int vo_done, .int vo_seedNow, .int vo_keptTower, .int vo_keptPoured, .long vo_keptSpilt, .ref o_keptAmounts, .ref o_keptDrank, .ref o_keptTurns, .long vo_hash])), (o_rows, .inl (cI, 54, .inl vo_rows)), (o_amounts, .inl (cJ, 9, .inr (.inl vo_amounts))), (o_takes, .inl (cJ, 9, .inr (.inl vo_takes))), (o_leans, .inl (cI, 9, .inl vo_leans)), (o_would, .inl (cJ, 9, .inr (.inl vo_would)))] sz)) 0 0 (va_A [(o, .inr (6, [.ref o_page, .int vo_pageMany, .int vo_readMany, .int vo_state, .int vo_readMost, .ref o_readRows, .int vo_glasses, .int vo_towersRead, .int vo_poured, .ref o_rows, .ref o_turns, .ref o_amounts, .ref o_drank, .long vo_spilt, .ref o_takes, .ref o_leans, .ref o_would, .int vo_done, .int vo_seedNow, .int vo_keptTower, .int vo_keptPoured, .long vo_keptSpilt, .ref o_keptAmounts, .ref o_keptDrank, .ref o_keptTurns, .long vo_hash])), (o_rows, .inl (cI, 54, .inl vo_rows)), (o_amounts, .inl (cJ, 9, .inr (.inl vo_amounts))), (o_takes, .inl (cJ, 9, .inr (.inl vo_takes))), (o_leans, .inl (cI, 9, .inl vo_leans)), (o_would, .inl (cJ, 9, .inr (.inl vo_would)))] sz) := by
  refine Met.ofW (cc := cX6_leaves) (maxL := 7) (ret := (some .boolean)) (by decide) rfl ?_
  intro p e s m args below meth c s₁ B hml hv
  obtain ⟨rfl, hsz, hP, hK, hD0⟩ := hv
  have hx := B.exec
  have hb := B.bytes
  have hr := B.returns
  have hts := atoms_spec (ws := wsX6_leaves) B.pre
  have hown : s.vm.findClass RX6 = some m.cls := findClass_of_methodNamed B.named
  have hlocks := B.notSynchronized
  subst hsz
  have hD := hD0.self (sz := s.heap.size)
  generalize hAe : va_A [(o, .inr (6, [.ref o_page, .int vo_pageMany, .int vo_readMany, .int vo_state, .int vo_readMost, .ref o_readRows, .int vo_glasses, .int vo_towersRead, .int vo_poured, .ref o_rows, .ref o_turns, .ref o_amounts, .ref o_drank, .long vo_spilt, .ref o_takes, .ref o_leans, .ref o_would, .int vo_done, .int vo_seedNow, .int vo_keptTower, .int vo_keptPoured, .long vo_keptSpilt, .ref o_keptAmounts, .ref o_keptDrank, .ref o_keptTurns, .long vo_hash])), (o_rows, .inl (cI, 54, .inl vo_rows)), (o_amounts, .inl (cJ, 9, .inr (.inl vo_amounts))), (o_takes, .inl (cJ, 9, .inr (.inl vo_takes))), (o_leans, .inl (cI, 9, .inl vo_leans)), (o_would, .inl (cJ, 9, .inr (.inl vo_would)))] s.heap.size = A at hD ⊢
  have hA : ∀ q : Nat, s.heap.size ≤ q → A q := fun q h => by rw [← hAe]; exact Or.inr h
  have hS : va_S A s.heap s.heap [] := va_S.rf
  have hP : va_P (dC, dI) vwCl [(o, .inr (6, [.ref o_page, .int vo_pageMany, .int vo_readMany, .int vo_state, .int vo_readMost, .ref o_readRows, .int vo_glasses, .int vo_towersRead, .int vo_poured, .ref o_rows, .ref o_turns, .ref o_amounts, .ref o_drank, .long vo_spilt, .ref o_takes, .ref o_leans, .ref o_would, .int vo_done, .int vo_seedNow, .int vo_keptTower, .int vo_keptPoured, .long vo_keptSpilt, .ref o_keptAmounts, .ref o_keptDrank, .ref o_keptTurns, .long vo_hash])), (o_rows, .inl (cI, 54, .inl vo_rows)), (o_amounts, .inl (cJ, 9, .inr (.inl vo_amounts))), (o_takes, .inl (cJ, 9, .inr (.inl vo_takes))), (o_leans, .inl (cI, 9, .inl vo_leans)), (o_would, .inl (cJ, 9, .inr (.inl vo_would)))] s.heap := hP
  have hK : va_K (dC, dI) vwCl (zTy cI cJ cC) s := hK
  have hl := lv_entry ([.ref o, .int p1, .int p2]) (n := 7) (Nat.le_of_ble_eq_true rfl)
  rw [lg_entry_eq]
  generalize (lg_sl ([.ref o, .int p1, .int p2]) ++ List.replicate (7 - (lg_sl ([.ref o, .int p1, .int p2])).length) Slot.unset).toArray = ls at hl ⊢
  have hl : lv_has ls 7 [(0, .ref o), (1, .int p1), (2, .int p2)] := hl
  refine zz_start hP hS (fun Q hQ H locs hP hS => ?_)
  have hwX6 : ∀ w ∈ u_ws RX6 TX6 26, w ∈ wsX6_leaves := by decide +kernel
  have hc_113 := (hts (.constantLong RX6 113 (429981696)) (by decide +kernel))
  have hf_22 := (hts (.fieldLink RX6 22 "PouredTopmostModel" "amounts" "[J") (by decide +kernel))
  have hf_29 := (hts (.fieldLink RX6 29 "PouredTopmostModel" "takes" "[J") (by decide +kernel))
  have hf_35 := (hts (.fieldLink RX6 35 "PouredTopmostModel" "would" "[J") (by decide +kernel))
  have hf_97 := (hts (.fieldLink RX6 97 "PouredTopmostModel" "glasses" "I") (by decide +kernel))
  refine lv_aload_n hx hb dX6_leaves_0 rfl (lv_at hl 0 rfl) ?_
  refine lv_iconst (v := (0 : Int32)) hx hb dX6_leaves_1 (by decide) ?_
  obtain ⟨u1, u2, u3, ev_1⟩ : ∃ x0 x1 x2, (m_X6_beginWould vo_glasses vo_rows vo_amounts vo_takes vo_leans vo_would (0 : Int32)) = (x0, x1, x2) := ⟨_, _, _, rfl⟩
  replace hT := cut3_n ev_1 hT
  refine zz_cv [0, 1, 2, 3, 4, 5] [] (wr := []) (w1 := [(o, .inr (6, [.ref o_page, .int vo_pageMany, .int vo_readMany, .int vo_state, .int vo_readMost, .ref o_readRows, .int vo_glasses, .int vo_towersRead, .int vo_poured, .ref o_rows, .ref o_turns, .ref o_amounts, .ref o_drank, .long vo_spilt, .ref o_takes, .ref o_leans, .ref o_would, .int vo_done, .int vo_seedNow, .int vo_keptTower, .int vo_keptPoured, .long vo_keptSpilt, .ref o_keptAmounts, .ref o_keptDrank, .ref o_keptTurns, .long vo_hash])), (o_rows, .inl (cI, 54, .inl vo_rows)), (o_amounts, .inl (cJ, 9, .inr (.inl vo_amounts))), (o_takes, .inl (cJ, 9, .inr (.inl u1))), (o_leans, .inl (cI, 9, .inl u2)), (o_would, .inl (cJ, 9, .inr (.inl u3)))]) (va_runV (As := [.int (0 : Int32)]) (rest := []) ⟨hx, hb, hml, hown, hts⟩ (k_X6_beginWould l dC dI cI cJ cC H.size o o_page o_readRows o_rows o_turns o_amounts o_drank o_takes o_leans o_would o_keptAmounts o_keptDrank o_keptTurns vo_pageMany vo_readMany vo_state vo_readMost vo_glasses vo_towersRead vo_poured vo_spilt vo_done vo_seedNow vo_keptTower vo_keptPoured vo_keptSpilt vo_hash vo_rows vo_amounts vo_takes vo_leans vo_would (0 : Int32) u1 u2 u3 ev_1 hg0 hg9 hln) (cwV 1 hts gX6_leaves_X6_beginWould rfl rfl rfl (by decide +kernel) ⟨Nat.le_of_ble_eq_true rfl, Nat.le_of_ble_eq_true rfl⟩) (zz_preV [0, 1, 2, 3, 4, 5] hK hP hD rfl rfl (va_recv hK hP (ci := 6) (q0 := 0) rfl rfl)) rfl rfl hl.1 rfl (lv_room (Nat.le_of_ble_eq_true rfl)) dX6_leaves_2 ⟨Nat.zero_le _, Nat.zero_le _⟩) hP hD hS hA rfl rfl rfl (by decide) (fun ok_2 H locs hP hD hS => ?_)
  have hP : va_P (dC, dI) vwCl [(o, .inr (6, [.ref o_page, .int vo_pageMany, .int vo_readMany, .int vo_state, .int vo_readMost, .ref o_readRows, .int vo_glasses, .int vo_towersRead, .int vo_poured, .ref o_rows, .ref o_turns, .ref o_amounts, .ref o_drank, .long vo_spilt, .ref o_takes, .ref o_leans, .ref o_would, .int vo_done, .int vo_seedNow, .int vo_keptTower, .int vo_keptPoured, .long vo_keptSpilt, .ref o_keptAmounts, .ref o_keptDrank, .ref o_keptTurns, .long vo_hash])), (o_rows, .inl (cI, 54, .inl vo_rows)), (o_amounts, .inl (cJ, 9, .inr (.inl vo_amounts))), (o_takes, .inl (cJ, 9, .inr (.inl u1))), (o_leans, .inl (cI, 9, .inl u2)), (o_would, .inl (cJ, 9, .inr (.inl u3)))] H := hP
  have hD : va_D A [(o, .inr (6, [.ref o_page, .int vo_pageMany, .int vo_readMany, .int vo_state, .int vo_readMost, .ref o_readRows, .int vo_glasses, .int vo_towersRead, .int vo_poured, .ref o_rows, .ref o_turns, .ref o_amounts, .ref o_drank, .long vo_spilt, .ref o_takes, .ref o_leans, .ref o_would, .int vo_done, .int vo_seedNow, .int vo_keptTower, .int vo_keptPoured, .long vo_keptSpilt, .ref o_keptAmounts, .ref o_keptDrank, .ref o_keptTurns, .long vo_hash])), (o_rows, .inl (cI, 54, .inl vo_rows)), (o_amounts, .inl (cJ, 9, .inr (.inl vo_amounts))), (o_takes, .inl (cJ, 9, .inr (.inl u1))), (o_leans, .inl (cI, 9, .inl u2)), (o_would, .inl (cJ, 9, .inr (.inl u3)))] := hD
  refine lv_iload_n hx hb dX6_leaves_5 rfl (lv_at hl 2 rfl) ?_
  refine lv_iconst (v := (-1 : Int32)) hx hb dX6_leaves_6 (by decide) ?_
  refine zz_join1 hT 22 (fun v => []) (fun v H locs ls => va_P (dC, dI) vwCl [(o, .inr (6, [.ref o_page, .int vo_pageMany, .int vo_readMany, .int vo_state, .int vo_readMost, .ref o_readRows, .int vo_glasses, .int vo_towersRead, .int vo_poured, .ref o_rows, .ref o_turns, .ref o_amounts, .ref o_drank, .long vo_spilt, .ref o_takes, .ref o_leans, .ref o_would, .int vo_done, .int vo_seedNow, .int vo_keptTower, .int vo_keptPoured, .long vo_keptSpilt, .ref o_keptAmounts, .ref o_keptDrank, .ref o_keptTurns, .long vo_hash])), (o_rows, .inl (cI, 54, .inl vo_rows)), (o_amounts, .inl (cJ, 9, .inr (.inl vo_amounts))), (o_takes, .inl (cJ, 9, .inr (.inl v))), (o_leans, .inl (cI, 9, .inl u2)), (o_would, .inl (cJ, 9, .inr (.inl u3)))] H ∧ va_D A [(o, .inr (6, [.ref o_page, .int vo_pageMany, .int vo_readMany, .int vo_state, .int vo_readMost, .ref o_readRows, .int vo_glasses, .int vo_towersRead, .int vo_poured, .ref o_rows, .ref o_turns, .ref o_amounts, .ref o_drank, .long vo_spilt, .ref o_takes, .ref o_leans, .ref o_would, .int vo_done, .int vo_seedNow, .int vo_keptTower, .int vo_keptPoured, .long vo_keptSpilt, .ref o_keptAmounts, .ref o_keptDrank, .ref o_keptTurns, .long vo_hash])), (o_rows, .inl (cI, 54, .inl vo_rows)), (o_amounts, .inl (cJ, 9, .inr (.inl vo_amounts))), (o_takes, .inl (cJ, 9, .inr (.inl v))), (o_leans, .inl (cI, 9, .inl u2)), (o_would, .inl (cJ, 9, .inr (.inl u3)))] ∧ va_S A s.heap H locs ∧ lv_has ls 7 [(0, .ref o), (1, .int p1)]) ?_ ?_
  · rintro j4 ej_14 H locs ls ⟨hP, hD, hS, hl⟩
    replace hT := cut_n ej_14 hT
    have hP : va_P (dC, dI) vwCl [(o, .inr (6, [.ref o_page, .int vo_pageMany, .int vo_readMany, .int vo_state, .int vo_readMost, .ref o_readRows, .int vo_glasses, .int vo_towersRead, .int vo_poured, .ref o_rows, .ref o_turns, .ref o_amounts, .ref o_drank, .long vo_spilt, .ref o_takes, .ref o_leans, .ref o_would, .int vo_done, .int vo_seedNow, .int vo_keptTower, .int vo_keptPoured, .long vo_keptSpilt, .ref o_keptAmounts, .ref o_keptDrank, .ref o_keptTurns, .long vo_hash])), (o_rows, .inl (cI, 54, .inl vo_rows)), (o_amounts, .inl (cJ, 9, .inr (.inl vo_amounts))), (o_takes, .inl (cJ, 9, .inr (.inl j4))), (o_leans, .inl (cI, 9, .inl u2)), (o_would, .inl (cJ, 9, .inr (.inl u3)))] H := hP
    have hD : va_D A [(o, .inr (6, [.ref o_page, .int vo_pageMany, .int vo_readMany, .int vo_state, .int vo_readMost, .ref o_readRows, .int vo_glasses, .int vo_towersRead, .int vo_poured, .ref o_rows, .ref o_turns, .ref o_amounts, .ref o_drank, .long vo_spilt, .ref o_takes, .ref o_leans, .ref o_would, .int vo_done, .int vo_seedNow, .int vo_keptTower, .int vo_keptPoured, .long vo_keptSpilt, .ref o_keptAmounts, .ref o_keptDrank, .ref o_keptTurns, .long vo_hash])), (o_rows, .inl (cI, 54, .inl vo_rows)), (o_amounts, .inl (cJ, 9, .inr (.inl vo_amounts))), (o_takes, .inl (cJ, 9, .inr (.inl j4))), (o_leans, .inl (cI, 9, .inl u2)), (o_would, .inl (cJ, 9, .inr (.inl u3)))] := hD
    have hl : lv_has ls 7 [(0, .ref o), (1, .int p1)] := hl
    refine lv_aload_n hx hb dX6_leaves_22 rfl (lv_at hl 0 rfl) ?_
    refine va_get (D := (dC, dI)) (ci := 6) (v := .ref o_would) (C := RX6) (T := TX6) (N := 26) hx hb hts hwX6 hown hK hP 0 rfl rfl 16 (by decide) hf_35 (fun _ h9 => h9) rfl dX6_leaves_23 ?_
    refine lv_iconst (v := (0 : Int32)) hx hb dX6_leaves_26 (by decide) ?_
    refine lv_ldc2 (v := (429981696 : Int64)) hx hb hown hc_113 dX6_leaves_27 ?_
    refine lv_iload_n hx hb dX6_leaves_30 rfl (lv_at hl 1 rfl) ?_
    refine lv_i2l (v := (p1.toInt64)) hx hb dX6_leaves_31 rfl ?_
    refine lv_lmul hx hb dX6_leaves_32 ?_
    have h_6 : vp_in (0 : Int32) 9 := zin (by decide) (by decide)
    refine va_last hx hb hK hP hD hS 5 1 rfl rfl h_6 dX6_leaves_33 (fun H locs hP hD hS => ?_)
    obtain ⟨a6, ea6⟩ : ∃ z, (vp_updL u3 (0 : Int32).toNatClampNeg ((429981696 : Int64) * (p1.toInt64))) = z := ⟨_, rfl⟩
    replace hT := cut_n ea6 hT
    have hP : va_P (dC, dI) vwCl [(o, .inr (6, [.ref o_page, .int vo_pageMany, .int vo_readMany, .int vo_state, .int vo_readMost, .ref o_readRows, .int vo_glasses, .int vo_towersRead, .int vo_poured, .ref o_rows, .ref o_turns, .ref o_amounts, .ref o_drank, .long vo_spilt, .ref o_takes, .ref o_leans, .ref o_would, .int vo_done, .int vo_seedNow, .int vo_keptTower, .int vo_keptPoured, .long vo_keptSpilt, .ref o_keptAmounts, .ref o_keptDrank, .ref o_keptTurns, .long vo_hash])), (o_rows, .inl (cI, 54, .inl vo_rows)), (o_amounts, .inl (cJ, 9, .inr (.inl vo_amounts))), (o_takes, .inl (cJ, 9, .inr (.inl j4))), (o_leans, .inl (cI, 9, .inl u2)), (o_would, .inl (cJ, 9, .inr (.inl a6)))] H := by rw [← ea6]; exact hP
    have hD : va_D A [(o, .inr (6, [.ref o_page, .int vo_pageMany, .int vo_readMany, .int vo_state, .int vo_readMost, .ref o_readRows, .int vo_glasses, .int vo_towersRead, .int vo_poured, .ref o_rows, .ref o_turns, .ref o_amounts, .ref o_drank, .long vo_spilt, .ref o_takes, .ref o_leans, .ref o_would, .int vo_done, .int vo_seedNow, .int vo_keptTower, .int vo_keptPoured, .long vo_keptSpilt, .ref o_keptAmounts, .ref o_keptDrank, .ref o_keptTurns, .long vo_hash])), (o_rows, .inl (cI, 54, .inl vo_rows)), (o_amounts, .inl (cJ, 9, .inr (.inl vo_amounts))), (o_takes, .inl (cJ, 9, .inr (.inl j4))), (o_leans, .inl (cI, 9, .inl u2)), (o_would, .inl (cJ, 9, .inr (.inl a6)))] := by rw [← ea6]; exact hD
    refine lv_aload_n hx hb dX6_leaves_34 rfl (lv_at hl 0 rfl) ?_
    refine lv_aload_n hx hb dX6_leaves_35 rfl (lv_at hl 0 rfl) ?_
    refine va_get (D := (dC, dI)) (ci := 6) (v := .ref o_would) (C := RX6) (T := TX6) (N := 26) hx hb hts hwX6 hown hK hP 0 rfl rfl 16 (by decide) hf_35 (fun _ h9 => h9) rfl dX6_leaves_36 ?_
    obtain ⟨r7, u8, ev_7⟩ : ∃ x0 x1, (m_X6_runOver_w vo_glasses vo_rows j4 u2 a6) = (x0, x1) := ⟨_, _, rfl⟩
    replace hT := cut2_n ev_7 hT
    refine zz_cl [0, 1, 3, 4, 5] [2] (wr := [(o_amounts, .inl (cJ, 9, .inr (.inl vo_amounts)))]) (w1 := [(o, .inr (6, [.ref o_page, .int vo_pageMany, .int vo_readMany, .int vo_state, .int vo_readMost, .ref o_readRows, .int vo_glasses, .int vo_towersRead, .int vo_poured, .ref o_rows, .ref o_turns, .ref o_amounts, .ref o_drank, .long vo_spilt, .ref o_takes, .ref o_leans, .ref o_would, .int vo_done, .int vo_seedNow, .int vo_keptTower, .int vo_keptPoured, .long vo_keptSpilt, .ref o_keptAmounts, .ref o_keptDrank, .ref o_keptTurns, .long vo_hash])), (o_rows, .inl (cI, 54, .inl vo_rows)), (o_takes, .inl (cJ, 9, .inr (.inl j4))), (o_leans, .inl (cI, 9, .inl u2)), (o_would, .inl (cJ, 9, .inr (.inl u8)))]) (va_runV (As := [.ref o_would]) (rest := []) ⟨hx, hb, hml, hown, hts⟩ (k_X6_runOver_w l dC dI cI cJ cC H.size o o_page o_readRows o_rows o_turns o_amounts o_drank o_takes o_leans o_would o_keptAmounts o_keptDrank o_keptTurns vo_pageMany vo_readMany vo_state vo_readMost vo_glasses vo_towersRead vo_poured vo_spilt vo_done vo_seedNow vo_keptTower vo_keptPoured vo_keptSpilt vo_hash vo_rows j4 u2 a6 r7 u8 ev_7 hg0 hg9 hrw ok_2) (cwV 1 hts gX6_leaves_X6_runOver rfl rfl rfl (by decide +kernel) ⟨Nat.le_of_ble_eq_true rfl, Nat.le_of_ble_eq_true rfl⟩) (zz_preV [0, 1, 3, 4, 5] hK hP hD rfl rfl (va_recv hK hP (ci := 6) (q0 := 0) rfl rfl)) rfl rfl hl.1 rfl (lv_room (Nat.le_of_ble_eq_true rfl)) dX6_leaves_39 ⟨Nat.zero_le _, Nat.zero_le _⟩) hP hD hS hA rfl rfl rfl (by decide) (fun ok_8 H locs hP hD hS => ?_)
    have hP : va_P (dC, dI) vwCl [(o_amounts, .inl (cJ, 9, .inr (.inl vo_amounts))), (o, .inr (6, [.ref o_page, .int vo_pageMany, .int vo_readMany, .int vo_state, .int vo_readMost, .ref o_readRows, .int vo_glasses, .int vo_towersRead, .int vo_poured, .ref o_rows, .ref o_turns, .ref o_amounts, .ref o_drank, .long vo_spilt, .ref o_takes, .ref o_leans, .ref o_would, .int vo_done, .int vo_seedNow, .int vo_keptTower, .int vo_keptPoured, .long vo_keptSpilt, .ref o_keptAmounts, .ref o_keptDrank, .ref o_keptTurns, .long vo_hash])), (o_rows, .inl (cI, 54, .inl vo_rows)), (o_takes, .inl (cJ, 9, .inr (.inl j4))), (o_leans, .inl (cI, 9, .inl u2)), (o_would, .inl (cJ, 9, .inr (.inl u8)))] H := hP
    have hD : va_D A [(o_amounts, .inl (cJ, 9, .inr (.inl vo_amounts))), (o, .inr (6, [.ref o_page, .int vo_pageMany, .int vo_readMany, .int vo_state, .int vo_readMost, .ref o_readRows, .int vo_glasses, .int vo_towersRead, .int vo_poured, .ref o_rows, .ref o_turns, .ref o_amounts, .ref o_drank, .long vo_spilt, .ref o_takes, .ref o_leans, .ref o_would, .int vo_done, .int vo_seedNow, .int vo_keptTower, .int vo_keptPoured, .long vo_keptSpilt, .ref o_keptAmounts, .ref o_keptDrank, .ref o_keptTurns, .long vo_hash])), (o_rows, .inl (cI, 54, .inl vo_rows)), (o_takes, .inl (cJ, 9, .inr (.inl j4))), (o_leans, .inl (cI, 9, .inl u2)), (o_would, .inl (cJ, 9, .inr (.inl u8)))] := hD
    refine lv_lstore_n (lv' := [(3, .long r7), (0, .ref o), (1, .int p1)]) hx hb dX6_leaves_42 rfl hl (by decide) rfl (fun ls hl => ?_)
    refine lv_iconst (v := (1 : Int32)) hx hb dX6_leaves_43 (by decide) ?_
    refine lv_istore (lv' := [(5, .int (1 : Int32)), (3, .long r7), (0, .ref o), (1, .int p1)]) hx hb dX6_leaves_44 hl (by decide) rfl (fun ls hl => ?_)
    refine lv_iconst (v := (0 : Int32)) hx hb dX6_leaves_46 (by decide) ?_
    refine lv_istore (lv' := [(6, .int (0 : Int32)), (5, .int (1 : Int32)), (3, .long r7), (0, .ref o), (1, .int p1)]) hx hb dX6_leaves_47 hl (by decide) rfl (fun ls hl => ?_)
    have hz_15 : ((0 : Int32)).toInt = 0 := by decide
    have hz_16 : ((1 : Int32)).toInt = 1 := by decide
    refine zz_loop (α := Int32 × Int32) 94 (fun k a H locs ls => (0 ≤ a.1.toInt) ∧ (a.1.toInt ≤ vo_glasses.toInt) ∧ (zB01 a.2) ∧ (vo_glasses.toInt - a.1.toInt < ((k : Nat) : Int)) ∧ lp_X6_leaves_2 vo_glasses (rs_X6_leaves_2 j4 u2 u8) u8 vo_amounts k a.1 a.2 = (r, qo_takes, qo_leans, qo_would) ∧ va_P (dC, dI) vwCl [(o_amounts, .inl (cJ, 9, .inr (.inl vo_amounts))), (o, .inr (6, [.ref o_page, .int vo_pageMany, .int vo_readMany, .int vo_state, .int vo_readMost, .ref o_readRows, .int vo_glasses, .int vo_towersRead, .int vo_poured, .ref o_rows, .ref o_turns, .ref o_amounts, .ref o_drank, .long vo_spilt, .ref o_takes, .ref o_leans, .ref o_would, .int vo_done, .int vo_seedNow, .int vo_keptTower, .int vo_keptPoured, .long vo_keptSpilt, .ref o_keptAmounts, .ref o_keptDrank, .ref o_keptTurns, .long vo_hash])), (o_rows, .inl (cI, 54, .inl vo_rows)), (o_takes, .inl (cJ, 9, .inr (.inl j4))), (o_leans, .inl (cI, 9, .inl u2)), (o_would, .inl (cJ, 9, .inr (.inl u8)))] H ∧ va_D A [(o_amounts, .inl (cJ, 9, .inr (.inl vo_amounts))), (o, .inr (6, [.ref o_page, .int vo_pageMany, .int vo_readMany, .int vo_state, .int vo_readMost, .ref o_readRows, .int vo_glasses, .int vo_towersRead, .int vo_poured, .ref o_rows, .ref o_turns, .ref o_amounts, .ref o_drank, .long vo_spilt, .ref o_takes, .ref o_leans, .ref o_would, .int vo_done, .int vo_seedNow, .int vo_keptTower, .int vo_keptPoured, .long vo_keptSpilt, .ref o_keptAmounts, .ref o_keptDrank, .ref o_keptTurns, .long vo_hash])), (o_rows, .inl (cI, 54, .inl vo_rows)), (o_takes, .inl (cJ, 9, .inr (.inl j4))), (o_leans, .inl (cI, 9, .inl u2)), (o_would, .inl (cJ, 9, .inr (.inl u8)))] ∧ va_S A s.heap H locs ∧ lv_has ls 7 [(6, .int a.1), (5, .int a.2), (0, .ref o)]) (fun a H locs ls => (0 ≤ a.1.toInt) ∧ (a.1.toInt ≤ vo_glasses.toInt) ∧ (zB01 a.2) ∧ (rs_X6_leaves_2 j4 u2 u8) a.1 a.2 = (r, qo_takes, qo_leans, qo_would) ∧ va_P (dC, dI) vwCl [(o_amounts, .inl (cJ, 9, .inr (.inl vo_amounts))), (o, .inr (6, [.ref o_page, .int vo_pageMany, .int vo_readMany, .int vo_state, .int vo_readMost, .ref o_readRows, .int vo_glasses, .int vo_towersRead, .int vo_poured, .ref o_rows, .ref o_turns, .ref o_amounts, .ref o_drank, .long vo_spilt, .ref o_takes, .ref o_leans, .ref o_would, .int vo_done, .int vo_seedNow, .int vo_keptTower, .int vo_keptPoured, .long vo_keptSpilt, .ref o_keptAmounts, .ref o_keptDrank, .ref o_keptTurns, .long vo_hash])), (o_rows, .inl (cI, 54, .inl vo_rows)), (o_takes, .inl (cJ, 9, .inr (.inl j4))), (o_leans, .inl (cI, 9, .inl u2)), (o_would, .inl (cJ, 9, .inr (.inl u8)))] H ∧ va_D A [(o_amounts, .inl (cJ, 9, .inr (.inl vo_amounts))), (o, .inr (6, [.ref o_page, .int vo_pageMany, .int vo_readMany, .int vo_state, .int vo_readMost, .ref o_readRows, .int vo_glasses, .int vo_towersRead, .int vo_poured, .ref o_rows, .ref o_turns, .ref o_amounts, .ref o_drank, .long vo_spilt, .ref o_takes, .ref o_leans, .ref o_would, .int vo_done, .int vo_seedNow, .int vo_keptTower, .int vo_keptPoured, .long vo_keptSpilt, .ref o_keptAmounts, .ref o_keptDrank, .ref o_keptTurns, .long vo_hash])), (o_rows, .inl (cI, 54, .inl vo_rows)), (o_takes, .inl (cJ, 9, .inr (.inl j4))), (o_leans, .inl (cI, 9, .inl u2)), (o_would, .inl (cJ, 9, .inr (.inl u8)))] ∧ va_S A s.heap H locs ∧ lv_has ls 7 [(5, .int a.2)]) ?_ ?_ ?_ 11 ((0 : Int32), (1 : Int32)) ⟨(by omega : 0 ≤ (0 : Int32).toInt), (by omega : (0 : Int32).toInt ≤ vo_glasses.toInt), (Or.inr rfl : zB01 (1 : Int32)), (by omega : vo_glasses.toInt - (0 : Int32).toInt < ((11 : Nat) : Int)), hT, hP.sub [0, 1, 2, 3, 4, 5] rfl, hD.sub [0, 1, 2, 3, 4, 5] rfl rfl, hS, lv_sub hl [0, 1, 3] rfl⟩
    · rintro ⟨x11, x12⟩ H locs ls ⟨i1, j1, hy1, hT, hP, hD, hS, hl⟩
      have hP : va_P (dC, dI) vwCl [(o_amounts, .inl (cJ, 9, .inr (.inl vo_amounts))), (o, .inr (6, [.ref o_page, .int vo_pageMany, .int vo_readMany, .int vo_state, .int vo_readMost, .ref o_readRows, .int vo_glasses, .int vo_towersRead, .int vo_poured, .ref o_rows, .ref o_turns, .ref o_amounts, .ref o_drank, .long vo_spilt, .ref o_takes, .ref o_leans, .ref o_would, .int vo_done, .int vo_seedNow, .int vo_keptTower, .int vo_keptPoured, .long vo_keptSpilt, .ref o_keptAmounts, .ref o_keptDrank, .ref o_keptTurns, .long vo_hash])), (o_rows, .inl (cI, 54, .inl vo_rows)), (o_takes, .inl (cJ, 9, .inr (.inl j4))), (o_leans, .inl (cI, 9, .inl u2)), (o_would, .inl (cJ, 9, .inr (.inl u8)))] H := hP
      have hD : va_D A [(o_amounts, .inl (cJ, 9, .inr (.inl vo_amounts))), (o, .inr (6, [.ref o_page, .int vo_pageMany, .int vo_readMany, .int vo_state, .int vo_readMost, .ref o_readRows, .int vo_glasses, .int vo_towersRead, .int vo_poured, .ref o_rows, .ref o_turns, .ref o_amounts, .ref o_drank, .long vo_spilt, .ref o_takes, .ref o_leans, .ref o_would, .int vo_done, .int vo_seedNow, .int vo_keptTower, .int vo_keptPoured, .long vo_keptSpilt, .ref o_keptAmounts, .ref o_keptDrank, .ref o_keptTurns, .long vo_hash])), (o_rows, .inl (cI, 54, .inl vo_rows)), (o_takes, .inl (cJ, 9, .inr (.inl j4))), (o_leans, .inl (cI, 9, .inl u2)), (o_would, .inl (cJ, 9, .inr (.inl u8)))] := hD
      have hl : lv_has ls 7 [(5, .int x12)] := hl
      have hT : (rs_X6_leaves_2 j4 u2 u8) x11 x12 = (r, qo_takes, qo_leans, qo_would) := hT
      have i1 : 0 ≤ x11.toInt := i1
      have j1 : x11.toInt ≤ vo_glasses.toInt := j1
      have hy1 : zB01 x12 := hy1
      refine lv_iload hx hb dX6_leaves_94 (lv_at hl 0 rfl) ?_
      have hP9 := hP
      have hD9 := hD
      have hS9 := hS
      have hT : (x12, j4, u2, u8) = (r, qo_takes, qo_leans, qo_would) := hT
      cases hT
      subst hQ
      exact zz_zret hx hb hr (zB01.nar (by assumption)) [1, 2, 0, 3, 4, 5] hK hP9 hD9 hS9 rfl rfl ⟨(by assumption), (by assumption)⟩ hlocks dX6_leaves_96
    · rintro ⟨b9, b10⟩ H locs ls ⟨i1, j1, hy1, hm, -⟩
      try dsimp only at *
      omega
    · intro k2 hex2 ih2
      rintro ⟨b9, b10⟩ H locs ls ⟨i1, j1, hy1, hm2, hT, hP, hD, hS, hl⟩
      have hP : va_P (dC, dI) vwCl [(o_amounts, .inl (cJ, 9, .inr (.inl vo_amounts))), (o, .inr (6, [.ref o_page, .int vo_pageMany, .int vo_readMany, .int vo_state, .int vo_readMost, .ref o_readRows, .int vo_glasses, .int vo_towersRead, .int vo_poured, .ref o_rows, .ref o_turns, .ref o_amounts, .ref o_drank, .long vo_spilt, .ref o_takes, .ref o_leans, .ref o_would, .int vo_done, .int vo_seedNow, .int vo_keptTower, .int vo_keptPoured, .long vo_keptSpilt, .ref o_keptAmounts, .ref o_keptDrank, .ref o_keptTurns, .long vo_hash])), (o_rows, .inl (cI, 54, .inl vo_rows)), (o_takes, .inl (cJ, 9, .inr (.inl j4))), (o_leans, .inl (cI, 9, .inl u2)), (o_would, .inl (cJ, 9, .inr (.inl u8)))] H := hP
      have hD : va_D A [(o_amounts, .inl (cJ, 9, .inr (.inl vo_amounts))), (o, .inr (6, [.ref o_page, .int vo_pageMany, .int vo_readMany, .int vo_state, .int vo_readMost, .ref o_readRows, .int vo_glasses, .int vo_towersRead, .int vo_poured, .ref o_rows, .ref o_turns, .ref o_amounts, .ref o_drank, .long vo_spilt, .ref o_takes, .ref o_leans, .ref o_would, .int vo_done, .int vo_seedNow, .int vo_keptTower, .int vo_keptPoured, .long vo_keptSpilt, .ref o_keptAmounts, .ref o_keptDrank, .ref o_keptTurns, .long vo_hash])), (o_rows, .inl (cI, 54, .inl vo_rows)), (o_takes, .inl (cJ, 9, .inr (.inl j4))), (o_leans, .inl (cI, 9, .inl u2)), (o_would, .inl (cJ, 9, .inr (.inl u8)))] := hD
      have hl : lv_has ls 7 [(6, .int b9), (5, .int b10), (0, .ref o)] := hl
      have hT : lp_X6_leaves_2 vo_glasses (rs_X6_leaves_2 j4 u2 u8) u8 vo_amounts (k2 + 1) b9 b10 = (r, qo_takes, qo_leans, qo_would) := hT
      have i1 : 0 ≤ b9.toInt := i1
      have j1 : b9.toInt ≤ vo_glasses.toInt := j1
      have hy1 : zB01 b10 := hy1
      have hm2 : vo_glasses.toInt - b9.toInt < (((k2 + 1) : Nat) : Int) := hm2
      try simp only [Int.natCast_add, Int.natCast_one, Nat.cast_add, Nat.cast_one] at hm2
      refine lv_iload hx hb dX6_leaves_49 (lv_at hl 0 rfl) ?_
      refine lv_aload_n hx hb dX6_leaves_51 rfl (lv_at hl 2 rfl) ?_
      refine va_get (D := (dC, dI)) (ci := 6) (v := .int vo_glasses) (C := RX6) (T := TX6) (N := 26) hx hb hts hwX6 hown hK hP 1 rfl rfl 6 (by decide) hf_97 (fun _ h9 => h9) rfl dX6_leaves_52 ?_
      refine lv_icmp_ge (tgt := 94) hx hb dX6_leaves_55 (by decide) (fun c_9 => ?_) (fun c_9 => ?_)
      · replace hT := cutT c_9 hT
        have g_17 := zleT (rfl : (vo_glasses).toInt = _) (rfl : (b9).toInt = _) c_9
        exact hex2 (b9, b10) _ _ _ ⟨(by omega : 0 ≤ b9.toInt), (by omega : b9.toInt ≤ vo_glasses.toInt), (by assumption : zB01 b10), hT, hP.sub [0, 1, 2, 3, 4, 5] rfl, hD.sub [0, 1, 2, 3, 4, 5] rfl rfl, hS, lv_sub hl [1] rfl⟩
      · replace hT := cutF c_9 hT
        have g_18 := zleF (rfl : (vo_glasses).toInt = _) (rfl : (b9).toInt = _) c_9
        refine lv_iload hx hb dX6_leaves_58 (lv_at hl 1 rfl) ?_
        refine lv_if_eq (tgt := 85) hx hb dX6_leaves_60 (by decide) (fun c_10 => ?_) (fun c_10 => ?_)
        · replace hT := cutT c_10 hT
          have g_19 := zeqT (rfl : (b10).toInt = _) (by decide : ((0 : Int32)).toInt = 0) c_10
          refine lv_iconst (v := (0 : Int32)) hx hb dX6_leaves_85 (by decide) ?_
          refine lv_istore (lv' := [(5, .int (0 : Int32)), (6, .int b9), (0, .ref o)]) hx hb dX6_leaves_86 hl (by decide) rfl (fun ls hl => ?_)
          obtain ⟨v13, ev13⟩ : ∃ y : Int32, (b9 + (1 : Int32)) = y := ⟨_, rfl⟩
          replace hT := cut_n ev13 hT
          try have fv13 := zaddE (rfl : (b9).toInt = _) (by decide : ((1 : Int32)).toInt = 1) ev13 (by omega) (by omega)
          refine lv_iinc (v := v13) (lv' := [(6, .int v13), (5, .int (0 : Int32)), (0, .ref o)]) hx hb dX6_leaves_88 hl (k := 1) rfl (by rw [← ev13]; rfl) (by decide) rfl (fun ls hl => ?_)
          refine lv_goto (tgt := 49) hx hb dX6_leaves_91 (by decide) ?_
          exact ih2 (v13, (0 : Int32)) _ _ _ ⟨(by omega : 0 ≤ v13.toInt), (by omega : v13.toInt ≤ vo_glasses.toInt), (by first | assumption | exact Or.inl rfl | exact Or.inr rfl : zB01 (0 : Int32)), (by omega : vo_glasses.toInt - v13.toInt < ((k2 : Nat) : Int)), hT, hP.sub [0, 1, 2, 3, 4, 5] rfl, hD.sub [0, 1, 2, 3, 4, 5] rfl rfl, hS, lv_sub hl [0, 1, 2] rfl⟩
        · replace hT := cutF c_10 hT
          have g_20 := zeqF (rfl : (b10).toInt = _) (by decide : ((0 : Int32)).toInt = 0) c_10
          refine lv_aload_n hx hb dX6_leaves_63 rfl (lv_at hl 2 rfl) ?_
          refine va_get (D := (dC, dI)) (ci := 6) (v := .ref o_would) (C := RX6) (T := TX6) (N := 26) hx hb hts hwX6 hown hK hP 1 rfl rfl 16 (by decide) hf_35 (fun _ h9 => h9) rfl dX6_leaves_64 ?_
          refine lv_iload hx hb dX6_leaves_67 (lv_at hl 0 rfl) ?_
          have h_11 : vp_in b9 9 := zin (by omega) (by omega)
          refine va_lald hx hb hK hP 5 1 rfl rfl h_11 dX6_leaves_69 ?_
          refine lv_aload_n hx hb dX6_leaves_70 rfl (lv_at hl 2 rfl) ?_
          refine va_get (D := (dC, dI)) (ci := 6) (v := .ref o_amounts) (C := RX6) (T := TX6) (N := 26) hx hb hts hwX6 hown hK hP 1 rfl rfl 11 (by decide) hf_22 (fun _ h9 => h9) rfl dX6_leaves_71 ?_
          refine lv_iload hx hb dX6_leaves_74 (lv_at hl 0 rfl) ?_
          have h_12 : vp_in b9 9 := zin (by omega) (by omega)
          refine va_lald hx hb hK hP 0 1 rfl rfl h_12 dX6_leaves_76 ?_
          refine W.lcmp hx hb dX6_leaves_77 ?_
          refine lv_if_ne (tgt := 85) hx hb dX6_leaves_78 (by decide) (fun c_13 => ?_) (fun c_13 => ?_)
          · replace hT := cutF c_13 hT
            have g_21 := mt zlc_eq.mpr c_13
            refine lv_iconst (v := (0 : Int32)) hx hb dX6_leaves_85 (by decide) ?_
            refine lv_istore (lv' := [(5, .int (0 : Int32)), (6, .int b9), (0, .ref o)]) hx hb dX6_leaves_86 hl (by decide) rfl (fun ls hl => ?_)
            obtain ⟨v14, ev14⟩ : ∃ y : Int32, (b9 + (1 : Int32)) = y := ⟨_, rfl⟩
            replace hT := cut_n ev14 hT
            try have fv14 := zaddE (rfl : (b9).toInt = _) (by decide : ((1 : Int32)).toInt = 1) ev14 (by omega) (by omega)
            refine lv_iinc (v := v14) (lv' := [(6, .int v14), (5, .int (0 : Int32)), (0, .ref o)]) hx hb dX6_leaves_88 hl (k := 1) rfl (by rw [← ev14]; rfl) (by decide) rfl (fun ls hl => ?_)
            refine lv_goto (tgt := 49) hx hb dX6_leaves_91 (by decide) ?_
            exact ih2 (v14, (0 : Int32)) _ _ _ ⟨(by omega : 0 ≤ v14.toInt), (by omega : v14.toInt ≤ vo_glasses.toInt), (by first | assumption | exact Or.inl rfl | exact Or.inr rfl : zB01 (0 : Int32)), (by omega : vo_glasses.toInt - v14.toInt < ((k2 : Nat) : Int)), hT, hP.sub [0, 1, 2, 3, 4, 5] rfl, hD.sub [0, 1, 2, 3, 4, 5] rfl rfl, hS, lv_sub hl [0, 1, 2] rfl⟩
          · replace hT := cutT c_13 hT
            have g_22 := zlc_eq.mp c_13
            refine lv_iconst (v := (1 : Int32)) hx hb dX6_leaves_81 (by decide) ?_
            refine lv_goto (tgt := 86) hx hb dX6_leaves_82 (by decide) ?_
            refine lv_istore (lv' := [(5, .int (1 : Int32)), (6, .int b9), (0, .ref o)]) hx hb dX6_leaves_86 hl (by decide) rfl (fun ls hl => ?_)
            obtain ⟨v15, ev15⟩ : ∃ y : Int32, (b9 + (1 : Int32)) = y := ⟨_, rfl⟩
            replace hT := cut_n ev15 hT
            try have fv15 := zaddE (rfl : (b9).toInt = _) (by decide : ((1 : Int32)).toInt = 1) ev15 (by omega) (by omega)
            refine lv_iinc (v := v15) (lv' := [(6, .int v15), (5, .int (1 : Int32)), (0, .ref o)]) hx hb dX6_leaves_88 hl (k := 1) rfl (by rw [← ev15]; rfl) (by decide) rfl (fun ls hl => ?_)
            refine lv_goto (tgt := 49) hx hb dX6_leaves_91 (by decide) ?_
            exact ih2 (v15, (1 : Int32)) _ _ _ ⟨(by omega : 0 ≤ v15.toInt), (by omega : v15.toInt ≤ vo_glasses.toInt), (by first | assumption | exact Or.inl rfl | exact Or.inr rfl : zB01 (1 : Int32)), (by omega : vo_glasses.toInt - v15.toInt < ((k2 : Nat) : Int)), hT, hP.sub [0, 1, 2, 3, 4, 5] rfl, hD.sub [0, 1, 2, 3, 4, 5] rfl rfl, hS, lv_sub hl [0, 1, 2] rfl⟩
  · intro xv hT hM
    refine lv_icmp_eq (tgt := 22) hx hb dX6_leaves_7 (by decide) (fun c_3 => ?_) (fun c_3 => ?_)
    · replace hT := cutT c_3 hT
      have g_23 := zeqT (rfl : (p2).toInt = _) (by decide : ((-1 : Int32)).toInt = -1) c_3
      have hP9 := hP
      have hD9 := hD
      have hS9 := hS
      have hl9 := hl
      have hM9 := hM
      have hT : u1 = xv := hT
      subst hT
      exact hM9 _ _ _ ⟨hP9.sub [0, 1, 2, 3, 4, 5] rfl, hD9.sub [0, 1, 2, 3, 4, 5] rfl rfl, hS9, lv_sub hl9 [0, 1] rfl⟩
    · replace hT := cutF c_3 hT
      have g_24 := zeqF (rfl : (p2).toInt = _) (by decide : ((-1 : Int32)).toInt = -1) c_3
      refine lv_aload_n hx hb dX6_leaves_10 rfl (lv_at hl 0 rfl) ?_
      refine va_get (D := (dC, dI)) (ci := 6) (v := .ref o_takes) (C := RX6) (T := TX6) (N := 26) hx hb hts hwX6 hown hK hP 0 rfl rfl 14 (by decide) hf_29 (fun _ h9 => h9) rfl dX6_leaves_11 ?_
      refine lv_iload_n hx hb dX6_leaves_14 rfl (lv_at hl 2 rfl) ?_
      refine lv_dup2_11 hx hb dX6_leaves_15 rfl rfl ?_
      have h_4 : vp_in p2 9 := zin (by omega) (by omega)
      refine va_lald hx hb hK hP 3 1 rfl rfl h_4 dX6_leaves_16 ?_
      refine lv_ldc2 (v := (429981696 : Int64)) hx hb hown hc_113 dX6_leaves_17 ?_
      refine lv_lsub hx hb dX6_leaves_20 ?_
      have h_5 : vp_in p2 9 := zin (by omega) (by omega)
      refine va_last hx hb hK hP hD hS 3 1 rfl rfl h_5 dX6_leaves_21 (fun H locs hP hD hS => ?_)
      obtain ⟨a5, ea5⟩ : ∃ z, (vp_updL u1 p2.toNatClampNeg ((u1 p2.toNatClampNeg) - (429981696 : Int64))) = z := ⟨_, rfl⟩
      replace hT := cut_n ea5 hT
      have hP : va_P (dC, dI) vwCl [(o, .inr (6, [.ref o_page, .int vo_pageMany, .int vo_readMany, .int vo_state, .int vo_readMost, .ref o_readRows, .int vo_glasses, .int vo_towersRead, .int vo_poured, .ref o_rows, .ref o_turns, .ref o_amounts, .ref o_drank, .long vo_spilt, .ref o_takes, .ref o_leans, .ref o_would, .int vo_done, .int vo_seedNow, .int vo_keptTower, .int vo_keptPoured, .long vo_keptSpilt, .ref o_keptAmounts, .ref o_keptDrank, .ref o_keptTurns, .long vo_hash])), (o_rows, .inl (cI, 54, .inl vo_rows)), (o_amounts, .inl (cJ, 9, .inr (.inl vo_amounts))), (o_takes, .inl (cJ, 9, .inr (.inl a5))), (o_leans, .inl (cI, 9, .inl u2)), (o_would, .inl (cJ, 9, .inr (.inl u3)))] H := by rw [← ea5]; exact hP
      have hD : va_D A [(o, .inr (6, [.ref o_page, .int vo_pageMany, .int vo_readMany, .int vo_state, .int vo_readMost, .ref o_readRows, .int vo_glasses, .int vo_towersRead, .int vo_poured, .ref o_rows, .ref o_turns, .ref o_amounts, .ref o_drank, .long vo_spilt, .ref o_takes, .ref o_leans, .ref o_would, .int vo_done, .int vo_seedNow, .int vo_keptTower, .int vo_keptPoured, .long vo_keptSpilt, .ref o_keptAmounts, .ref o_keptDrank, .ref o_keptTurns, .long vo_hash])), (o_rows, .inl (cI, 54, .inl vo_rows)), (o_amounts, .inl (cJ, 9, .inr (.inl vo_amounts))), (o_takes, .inl (cJ, 9, .inr (.inl a5))), (o_leans, .inl (cI, 9, .inl u2)), (o_would, .inl (cJ, 9, .inr (.inl u3)))] := by rw [← ea5]; exact hD
      have hP9 := hP
      have hD9 := hD
      have hS9 := hS
      have hl9 := hl
      have hM9 := hM
      have hT : a5 = xv := hT
      subst hT
      exact hM9 _ _ _ ⟨hP9.sub [0, 1, 2, 3, 4, 5] rfl, hD9.sub [0, 1, 2, 3, 4, 5] rfl rfl, hS9, lv_sub hl9 [0, 1] rfl⟩

def rs_X6_chipsOf_2  (x11 : Int32) (x12 : Int32) (x13 : Nat → Int64) (x14 : Nat → Int32) (x15 : Nat → Int64) : Int32 × (Nat → Int64) × (Nat → Int32) × (Nat → Int64) :=
 (x12, x13, x14, x15)
def lp_X6_chipsOf_2 (vo_glasses : Int32) (ct2 : Int32 → Int32 → (Nat → Int64) → (Nat → Int32) → (Nat → Int64) → (Int32 × (Nat → Int64) × (Nat → Int32) × (Nat → Int64))) (vo_rows : Nat → Int32) (vo_amounts : Nat → Int64) (p1 : Int32) : Nat → Int32 → Int32 → (Nat → Int64) → (Nat → Int32) → (Nat → Int64) → (Int32 × (Nat → Int64) × (Nat → Int32) × (Nat → Int64))
  | 0, _, _, _, _, _ => default
  | k + 1, b6, b7, b8, b9, b10 =>
  if vo_glasses ≤ b6 then
   (ct2 b6 b7 b8 b9 b10)
  else
   if (vo_rows ((6 : Int32) * b6).toNatClampNeg) = (0 : Int32) then
    cut4 (m_X6_leaves vo_glasses vo_rows vo_amounts b8 b9 b10 p1 b6) (fun (r18 : Int32) (u19 : Nat → Int64) (u20 : Nat → Int32) (u21 : Nat → Int64) =>
    if r18 = (0 : Int32) then
     cut (b7 ||| (0 : Int32)) (fun (v22 : Int32) =>
     cut (b6 + (1 : Int32)) (fun (v23 : Int32) =>
     (lp_X6_chipsOf_2 vo_glasses ct2 vo_rows vo_amounts p1 k v23 v22 u19 u20 u21)))
    else
     cut (b7 ||| ((1 : Int32) <<< (b6 &&& 31))) (fun (v24 : Int32) =>
     cut (b6 + (1 : Int32)) (fun (v25 : Int32) =>
     (lp_X6_chipsOf_2 vo_glasses ct2 vo_rows vo_amounts p1 k v25 v24 u19 u20 u21))))
   else
    cut (b7 ||| (0 : Int32)) (fun (v16 : Int32) =>
    cut (b6 + (1 : Int32)) (fun (v17 : Int32) =>
    (lp_X6_chipsOf_2 vo_glasses ct2 vo_rows vo_amounts p1 k v17 v16 b8 b9 b10)))
def m_X6_chipsOf (vo_glasses : Int32) (vo_rows : Nat → Int32) (vo_amounts : Nat → Int64) (vo_takes : Nat → Int64) (vo_leans : Nat → Int32) (vo_would : Nat → Int64) (p1 : Int32) : Int32 × (Nat → Int64) × (Nat → Int32) × (Nat → Int64) :=
 cut4 (m_X6_leaves vo_glasses vo_rows vo_amounts vo_takes vo_leans vo_would p1 (-1 : Int32)) (fun (r1 : Int32) (u2 : Nat → Int64) (u3 : Nat → Int32) (u4 : Nat → Int64) =>
 cut (
  if r1 = (0 : Int32) then
   (0 : Int32)
  else
   (512 : Int32)) (fun (j5 : Int32) =>
 (lp_X6_chipsOf_2 vo_glasses rs_X6_chipsOf_2 vo_rows vo_amounts p1 11 (0 : Int32) j5 u2 u3 u4)))
set_option maxHeartbeats 4000000 in
set_option maxRecDepth 100000 in
theorem k_X6_chipsOf (l : Launch) (dC : Nat → ClassId) (dI : Nat → Nat → Nat) (cI cJ cC : ClassId) (sz : Nat) (o o_page o_readRows o_rows o_turns o_amounts o_drank o_takes o_leans o_would o_keptAmounts o_keptDrank o_keptTurns : Nat) (vo_pageMany : Int32) (vo_readMany : Int32) (vo_state : Int32) (vo_readMost : Int32) (vo_glasses : Int32) (vo_towersRead : Int32) (vo_poured : Int32) (vo_spilt : Int64) (vo_done : Int32) (vo_seedNow : Int32) (vo_keptTower : Int32) (vo_keptPoured : Int32) (vo_keptSpilt : Int64) (vo_hash : Int64) (vo_rows : Nat → Int32) (vo_amounts : Nat → Int64) (vo_takes : Nat → Int64) (vo_leans : Nat → Int32) (vo_would : Nat → Int64) (p1 : Int32) (r : Int32) (qo_takes : Nat → Int64) (qo_leans : Nat → Int32) (qo_would : Nat → Int64) (hT : m_X6_chipsOf vo_glasses vo_rows vo_amounts vo_takes vo_leans vo_would p1 = (r, qo_takes, qo_leans, qo_would)) (hg0 : 0 ≤ vo_glasses.toInt) (hg9 : vo_glasses.toInt ≤ 9) (hrw : zRw vo_rows) (hln : zLn vo_leans) : Met l yX6_chipsOf wsX6_chipsOf ({ frames := 4, cells := 0, slots := 0, locals := 92 }) (zPc [.ref o, .int p1] (dC, dI) (zTy cI cJ cC) [(o, .inr (6, [.ref o_page, .int vo_pageMany, .int vo_readMany, .int vo_state, .int vo_readMost, .ref o_readRows, .int vo_glasses, .int vo_towersRead, .int vo_poured, .ref o_rows, .ref o_turns, .ref o_amounts, .ref o_drank, .long vo_spilt, .ref o_takes, .ref o_leans, .ref o_would, .int vo_done, .int vo_seedNow, .int vo_keptTower, .int vo_keptPoured, .long vo_keptSpilt, .ref o_keptAmounts, .ref o_keptDrank, .ref o_keptTurns, .long vo_hash])), (o_rows, .inl (cI, 54, .inl vo_rows)), (o_amounts, .inl (cJ, 9, .inr (.inl vo_amounts))), (o_takes, .inl (cJ, 9, .inr (.inl vo_takes))), (o_leans, .inl (cI, 9, .inl vo_leans)), (o_would, .inl (cJ, 9, .inr (.inl vo_would)))] sz) (zQi r ((zLn qo_leans)) (dC, dI) (zTy cI cJ cC) [(o, .inr (6, [.ref o_page, .int vo_pageMany, .int vo_readMany, .int vo_state, .int vo_readMost, .ref o_readRows, .int vo_glasses, .int vo_towersRead, .int vo_poured, .ref o_rows, .ref o_turns, .ref o_amounts, .ref o_drank, .long vo_spilt, .ref o_takes, .ref o_leans, .ref o_would, .int vo_done, .int vo_seedNow, .int vo_keptTower, .int vo_keptPoured, .long vo_keptSpilt, .ref o_keptAmounts, .ref o_keptDrank, .ref o_keptTurns, .long vo_hash])), (o_rows, .inl (cI, 54, .inl vo_rows)), (o_amounts, .inl (cJ, 9, .inr (.inl vo_amounts))), (o_takes, .inl (cJ, 9, .inr (.inl qo_takes))), (o_leans, .inl (cI, 9, .inl qo_leans)), (o_would, .inl (cJ, 9, .inr (.inl qo_would)))] (va_A [(o, .inr (6, [.ref o_page, .int vo_pageMany, .int vo_readMany, .int vo_state, .int vo_readMost, .ref o_readRows, .int vo_glasses, .int vo_towersRead, .int vo_poured, .ref o_rows, .ref o_turns, .ref o_amounts, .ref o_drank, .long vo_spilt, .ref o_takes, .ref o_leans, .ref o_would, .int vo_done, .int vo_seedNow, .int vo_keptTower, .int vo_keptPoured, .long vo_keptSpilt, .ref o_keptAmounts, .ref o_keptDrank, .ref o_keptTurns, .long vo_hash])), (o_rows, .inl (cI, 54, .inl vo_rows)), (o_amounts, .inl (cJ, 9, .inr (.inl vo_amounts))), (o_takes, .inl (cJ, 9, .inr (.inl vo_takes))), (o_leans, .inl (cI, 9, .inl vo_leans)), (o_would, .inl (cJ, 9, .inr (.inl vo_would)))] sz)) 0 0 (va_A [(o, .inr (6, [.ref o_page, .int vo_pageMany, .int vo_readMany, .int vo_state, .int vo_readMost, .ref o_readRows, .int vo_glasses, .int vo_towersRead, .int vo_poured, .ref o_rows, .ref o_turns, .ref o_amounts, .ref o_drank, .long vo_spilt, .ref o_takes, .ref o_leans, .ref o_would, .int vo_done, .int vo_seedNow, .int vo_keptTower, .int vo_keptPoured, .long vo_keptSpilt, .ref o_keptAmounts, .ref o_keptDrank, .ref o_keptTurns, .long vo_hash])), (o_rows, .inl (cI, 54, .inl vo_rows)), (o_amounts, .inl (cJ, 9, .inr (.inl vo_amounts))), (o_takes, .inl (cJ, 9, .inr (.inl vo_takes))), (o_leans, .inl (cI, 9, .inl vo_leans)), (o_would, .inl (cJ, 9, .inr (.inl vo_would)))] sz) := by
  refine Met.ofW (cc := cX6_chipsOf) (maxL := 4) (ret := (some .int)) (by decide) rfl ?_
  intro p e s m args below meth c s₁ B hml hv
  obtain ⟨rfl, hsz, hP, hK, hD0⟩ := hv
  have hx := B.exec
  have hb := B.bytes
  have hr := B.returns
  have hts := atoms_spec (ws := wsX6_chipsOf) B.pre
  have hown : s.vm.findClass RX6 = some m.cls := findClass_of_methodNamed B.named
  have hlocks := B.notSynchronized
  subst hsz
  have hD := hD0.self (sz := s.heap.size)
  generalize hAe : va_A [(o, .inr (6, [.ref o_page, .int vo_pageMany, .int vo_readMany, .int vo_state, .int vo_readMost, .ref o_readRows, .int vo_glasses, .int vo_towersRead, .int vo_poured, .ref o_rows, .ref o_turns, .ref o_amounts, .ref o_drank, .long vo_spilt, .ref o_takes, .ref o_leans, .ref o_would, .int vo_done, .int vo_seedNow, .int vo_keptTower, .int vo_keptPoured, .long vo_keptSpilt, .ref o_keptAmounts, .ref o_keptDrank, .ref o_keptTurns, .long vo_hash])), (o_rows, .inl (cI, 54, .inl vo_rows)), (o_amounts, .inl (cJ, 9, .inr (.inl vo_amounts))), (o_takes, .inl (cJ, 9, .inr (.inl vo_takes))), (o_leans, .inl (cI, 9, .inl vo_leans)), (o_would, .inl (cJ, 9, .inr (.inl vo_would)))] s.heap.size = A at hD ⊢
  have hA : ∀ q : Nat, s.heap.size ≤ q → A q := fun q h => by rw [← hAe]; exact Or.inr h
  have hS : va_S A s.heap s.heap [] := va_S.rf
  have hP : va_P (dC, dI) vwCl [(o, .inr (6, [.ref o_page, .int vo_pageMany, .int vo_readMany, .int vo_state, .int vo_readMost, .ref o_readRows, .int vo_glasses, .int vo_towersRead, .int vo_poured, .ref o_rows, .ref o_turns, .ref o_amounts, .ref o_drank, .long vo_spilt, .ref o_takes, .ref o_leans, .ref o_would, .int vo_done, .int vo_seedNow, .int vo_keptTower, .int vo_keptPoured, .long vo_keptSpilt, .ref o_keptAmounts, .ref o_keptDrank, .ref o_keptTurns, .long vo_hash])), (o_rows, .inl (cI, 54, .inl vo_rows)), (o_amounts, .inl (cJ, 9, .inr (.inl vo_amounts))), (o_takes, .inl (cJ, 9, .inr (.inl vo_takes))), (o_leans, .inl (cI, 9, .inl vo_leans)), (o_would, .inl (cJ, 9, .inr (.inl vo_would)))] s.heap := hP
  have hK : va_K (dC, dI) vwCl (zTy cI cJ cC) s := hK
  have hl := lv_entry ([.ref o, .int p1]) (n := 4) (Nat.le_of_ble_eq_true rfl)
  rw [lg_entry_eq]
  generalize (lg_sl ([.ref o, .int p1]) ++ List.replicate (4 - (lg_sl ([.ref o, .int p1])).length) Slot.unset).toArray = ls at hl ⊢
  have hl : lv_has ls 4 [(0, .ref o), (1, .int p1)] := hl
  refine zz_start hP hS (fun Q hQ H locs hP hS => ?_)
  have hwX6 : ∀ w ∈ u_ws RX6 TX6 26, w ∈ wsX6_chipsOf := by decide +kernel
  have hf_16 := (hts (.fieldLink RX6 16 "PouredTopmostModel" "rows" "[I") (by decide +kernel))
  have hf_97 := (hts (.fieldLink RX6 97 "PouredTopmostModel" "glasses" "I") (by decide +kernel))
  refine lv_aload_n hx hb dX6_chipsOf_0 rfl (lv_at hl 0 rfl) ?_
  refine lv_iload_n hx hb dX6_chipsOf_1 rfl (lv_at hl 1 rfl) ?_
  refine lv_iconst (v := (-1 : Int32)) hx hb dX6_chipsOf_2 (by decide) ?_
  obtain ⟨r1, u2, u3, u4, ev_1⟩ : ∃ x0 x1 x2 x3, (m_X6_leaves vo_glasses vo_rows vo_amounts vo_takes vo_leans vo_would p1 (-1 : Int32)) = (x0, x1, x2, x3) := ⟨_, _, _, _, rfl⟩
  replace hT := cut4_n ev_1 hT
  refine zz_ci [0, 1, 2, 3, 4, 5] [] (wr := []) (w1 := [(o, .inr (6, [.ref o_page, .int vo_pageMany, .int vo_readMany, .int vo_state, .int vo_readMost, .ref o_readRows, .int vo_glasses, .int vo_towersRead, .int vo_poured, .ref o_rows, .ref o_turns, .ref o_amounts, .ref o_drank, .long vo_spilt, .ref o_takes, .ref o_leans, .ref o_would, .int vo_done, .int vo_seedNow, .int vo_keptTower, .int vo_keptPoured, .long vo_keptSpilt, .ref o_keptAmounts, .ref o_keptDrank, .ref o_keptTurns, .long vo_hash])), (o_rows, .inl (cI, 54, .inl vo_rows)), (o_amounts, .inl (cJ, 9, .inr (.inl vo_amounts))), (o_takes, .inl (cJ, 9, .inr (.inl u2))), (o_leans, .inl (cI, 9, .inl u3)), (o_would, .inl (cJ, 9, .inr (.inl u4)))]) (va_runV (As := [.int p1, .int (-1 : Int32)]) (rest := []) ⟨hx, hb, hml, hown, hts⟩ (k_X6_leaves l dC dI cI cJ cC H.size o o_page o_readRows o_rows o_turns o_amounts o_drank o_takes o_leans o_would o_keptAmounts o_keptDrank o_keptTurns vo_pageMany vo_readMany vo_state vo_readMost vo_glasses vo_towersRead vo_poured vo_spilt vo_done vo_seedNow vo_keptTower vo_keptPoured vo_keptSpilt vo_hash vo_rows vo_amounts vo_takes vo_leans vo_would p1 (-1 : Int32) r1 u2 u3 u4 ev_1 hg0 hg9 hrw hln (by first | omega | decide)) (cwV 2 hts gX6_chipsOf_X6_leaves rfl rfl rfl (by decide +kernel) ⟨Nat.le_of_ble_eq_true rfl, Nat.le_of_ble_eq_true rfl⟩) (zz_preV [0, 1, 2, 3, 4, 5] hK hP hD rfl rfl (va_recv hK hP (ci := 6) (q0 := 0) rfl rfl)) rfl rfl hl.1 rfl (lv_room (Nat.le_of_ble_eq_true rfl)) dX6_chipsOf_3 ⟨Nat.zero_le _, Nat.zero_le _⟩) hP hD hS hA rfl rfl rfl (by decide) (fun ok_2 H locs hP hD hS => ?_)
  have hP : va_P (dC, dI) vwCl [(o, .inr (6, [.ref o_page, .int vo_pageMany, .int vo_readMany, .int vo_state, .int vo_readMost, .ref o_readRows, .int vo_glasses, .int vo_towersRead, .int vo_poured, .ref o_rows, .ref o_turns, .ref o_amounts, .ref o_drank, .long vo_spilt, .ref o_takes, .ref o_leans, .ref o_would, .int vo_done, .int vo_seedNow, .int vo_keptTower, .int vo_keptPoured, .long vo_keptSpilt, .ref o_keptAmounts, .ref o_keptDrank, .ref o_keptTurns, .long vo_hash])), (o_rows, .inl (cI, 54, .inl vo_rows)), (o_amounts, .inl (cJ, 9, .inr (.inl vo_amounts))), (o_takes, .inl (cJ, 9, .inr (.inl u2))), (o_leans, .inl (cI, 9, .inl u3)), (o_would, .inl (cJ, 9, .inr (.inl u4)))] H := hP
  have hD : va_D A [(o, .inr (6, [.ref o_page, .int vo_pageMany, .int vo_readMany, .int vo_state, .int vo_readMost, .ref o_readRows, .int vo_glasses, .int vo_towersRead, .int vo_poured, .ref o_rows, .ref o_turns, .ref o_amounts, .ref o_drank, .long vo_spilt, .ref o_takes, .ref o_leans, .ref o_would, .int vo_done, .int vo_seedNow, .int vo_keptTower, .int vo_keptPoured, .long vo_keptSpilt, .ref o_keptAmounts, .ref o_keptDrank, .ref o_keptTurns, .long vo_hash])), (o_rows, .inl (cI, 54, .inl vo_rows)), (o_amounts, .inl (cJ, 9, .inr (.inl vo_amounts))), (o_takes, .inl (cJ, 9, .inr (.inl u2))), (o_leans, .inl (cI, 9, .inl u3)), (o_would, .inl (cJ, 9, .inr (.inl u4)))] := hD
  obtain ⟨k_3, k_4⟩ := ok_2
  refine zz_join1 hT 16 (fun v => [.int v]) (fun v H locs ls => va_P (dC, dI) vwCl [(o, .inr (6, [.ref o_page, .int vo_pageMany, .int vo_readMany, .int vo_state, .int vo_readMost, .ref o_readRows, .int vo_glasses, .int vo_towersRead, .int vo_poured, .ref o_rows, .ref o_turns, .ref o_amounts, .ref o_drank, .long vo_spilt, .ref o_takes, .ref o_leans, .ref o_would, .int vo_done, .int vo_seedNow, .int vo_keptTower, .int vo_keptPoured, .long vo_keptSpilt, .ref o_keptAmounts, .ref o_keptDrank, .ref o_keptTurns, .long vo_hash])), (o_rows, .inl (cI, 54, .inl vo_rows)), (o_amounts, .inl (cJ, 9, .inr (.inl vo_amounts))), (o_takes, .inl (cJ, 9, .inr (.inl u2))), (o_leans, .inl (cI, 9, .inl u3)), (o_would, .inl (cJ, 9, .inr (.inl u4)))] H ∧ va_D A [(o, .inr (6, [.ref o_page, .int vo_pageMany, .int vo_readMany, .int vo_state, .int vo_readMost, .ref o_readRows, .int vo_glasses, .int vo_towersRead, .int vo_poured, .ref o_rows, .ref o_turns, .ref o_amounts, .ref o_drank, .long vo_spilt, .ref o_takes, .ref o_leans, .ref o_would, .int vo_done, .int vo_seedNow, .int vo_keptTower, .int vo_keptPoured, .long vo_keptSpilt, .ref o_keptAmounts, .ref o_keptDrank, .ref o_keptTurns, .long vo_hash])), (o_rows, .inl (cI, 54, .inl vo_rows)), (o_amounts, .inl (cJ, 9, .inr (.inl vo_amounts))), (o_takes, .inl (cJ, 9, .inr (.inl u2))), (o_leans, .inl (cI, 9, .inl u3)), (o_would, .inl (cJ, 9, .inr (.inl u4)))] ∧ va_S A s.heap H locs ∧ lv_has ls 4 [(0, .ref o), (1, .int p1)]) ?_ ?_
  · rintro j5 ej_15 H locs ls ⟨hP, hD, hS, hl⟩
    replace hT := cut_n ej_15 hT
    have hP : va_P (dC, dI) vwCl [(o, .inr (6, [.ref o_page, .int vo_pageMany, .int vo_readMany, .int vo_state, .int vo_readMost, .ref o_readRows, .int vo_glasses, .int vo_towersRead, .int vo_poured, .ref o_rows, .ref o_turns, .ref o_amounts, .ref o_drank, .long vo_spilt, .ref o_takes, .ref o_leans, .ref o_would, .int vo_done, .int vo_seedNow, .int vo_keptTower, .int vo_keptPoured, .long vo_keptSpilt, .ref o_keptAmounts, .ref o_keptDrank, .ref o_keptTurns, .long vo_hash])), (o_rows, .inl (cI, 54, .inl vo_rows)), (o_amounts, .inl (cJ, 9, .inr (.inl vo_amounts))), (o_takes, .inl (cJ, 9, .inr (.inl u2))), (o_leans, .inl (cI, 9, .inl u3)), (o_would, .inl (cJ, 9, .inr (.inl u4)))] H := hP
    have hD : va_D A [(o, .inr (6, [.ref o_page, .int vo_pageMany, .int vo_readMany, .int vo_state, .int vo_readMost, .ref o_readRows, .int vo_glasses, .int vo_towersRead, .int vo_poured, .ref o_rows, .ref o_turns, .ref o_amounts, .ref o_drank, .long vo_spilt, .ref o_takes, .ref o_leans, .ref o_would, .int vo_done, .int vo_seedNow, .int vo_keptTower, .int vo_keptPoured, .long vo_keptSpilt, .ref o_keptAmounts, .ref o_keptDrank, .ref o_keptTurns, .long vo_hash])), (o_rows, .inl (cI, 54, .inl vo_rows)), (o_amounts, .inl (cJ, 9, .inr (.inl vo_amounts))), (o_takes, .inl (cJ, 9, .inr (.inl u2))), (o_leans, .inl (cI, 9, .inl u3)), (o_would, .inl (cJ, 9, .inr (.inl u4)))] := hD
    have hl : lv_has ls 4 [(0, .ref o), (1, .int p1)] := hl
    refine lv_istore_n (lv' := [(2, .int j5), (0, .ref o), (1, .int p1)]) hx hb dX6_chipsOf_16 rfl hl (by decide) rfl (fun ls hl => ?_)
    refine lv_iconst (v := (0 : Int32)) hx hb dX6_chipsOf_17 (by decide) ?_
    refine lv_istore_n (lv' := [(3, .int (0 : Int32)), (2, .int j5), (0, .ref o), (1, .int p1)]) hx hb dX6_chipsOf_18 rfl hl (by decide) rfl (fun ls hl => ?_)
    have hz_16 : ((0 : Int32)).toInt = 0 := by decide
    refine zz_loop (α := Int32 × Int32 × (Nat → Int64) × (Nat → Int32) × (Nat → Int64)) 64 (fun k a H locs ls => (0 ≤ a.1.toInt) ∧ (a.1.toInt ≤ vo_glasses.toInt) ∧ (zLn a.2.2.2.1) ∧ (vo_glasses.toInt - a.1.toInt < ((k : Nat) : Int)) ∧ lp_X6_chipsOf_2 vo_glasses rs_X6_chipsOf_2 vo_rows vo_amounts p1 k a.1 a.2.1 a.2.2.1 a.2.2.2.1 a.2.2.2.2 = (r, qo_takes, qo_leans, qo_would) ∧ va_P (dC, dI) vwCl [(o, .inr (6, [.ref o_page, .int vo_pageMany, .int vo_readMany, .int vo_state, .int vo_readMost, .ref o_readRows, .int vo_glasses, .int vo_towersRead, .int vo_poured, .ref o_rows, .ref o_turns, .ref o_amounts, .ref o_drank, .long vo_spilt, .ref o_takes, .ref o_leans, .ref o_would, .int vo_done, .int vo_seedNow, .int vo_keptTower, .int vo_keptPoured, .long vo_keptSpilt, .ref o_keptAmounts, .ref o_keptDrank, .ref o_keptTurns, .long vo_hash])), (o_rows, .inl (cI, 54, .inl vo_rows)), (o_amounts, .inl (cJ, 9, .inr (.inl vo_amounts))), (o_takes, .inl (cJ, 9, .inr (.inl a.2.2.1))), (o_leans, .inl (cI, 9, .inl a.2.2.2.1)), (o_would, .inl (cJ, 9, .inr (.inl a.2.2.2.2)))] H ∧ va_D A [(o, .inr (6, [.ref o_page, .int vo_pageMany, .int vo_readMany, .int vo_state, .int vo_readMost, .ref o_readRows, .int vo_glasses, .int vo_towersRead, .int vo_poured, .ref o_rows, .ref o_turns, .ref o_amounts, .ref o_drank, .long vo_spilt, .ref o_takes, .ref o_leans, .ref o_would, .int vo_done, .int vo_seedNow, .int vo_keptTower, .int vo_keptPoured, .long vo_keptSpilt, .ref o_keptAmounts, .ref o_keptDrank, .ref o_keptTurns, .long vo_hash])), (o_rows, .inl (cI, 54, .inl vo_rows)), (o_amounts, .inl (cJ, 9, .inr (.inl vo_amounts))), (o_takes, .inl (cJ, 9, .inr (.inl a.2.2.1))), (o_leans, .inl (cI, 9, .inl a.2.2.2.1)), (o_would, .inl (cJ, 9, .inr (.inl a.2.2.2.2)))] ∧ va_S A s.heap H locs ∧ lv_has ls 4 [(3, .int a.1), (2, .int a.2.1), (0, .ref o), (1, .int p1)]) (fun a H locs ls => (0 ≤ a.1.toInt) ∧ (a.1.toInt ≤ vo_glasses.toInt) ∧ (zLn a.2.2.2.1) ∧ rs_X6_chipsOf_2 a.1 a.2.1 a.2.2.1 a.2.2.2.1 a.2.2.2.2 = (r, qo_takes, qo_leans, qo_would) ∧ va_P (dC, dI) vwCl [(o, .inr (6, [.ref o_page, .int vo_pageMany, .int vo_readMany, .int vo_state, .int vo_readMost, .ref o_readRows, .int vo_glasses, .int vo_towersRead, .int vo_poured, .ref o_rows, .ref o_turns, .ref o_amounts, .ref o_drank, .long vo_spilt, .ref o_takes, .ref o_leans, .ref o_would, .int vo_done, .int vo_seedNow, .int vo_keptTower, .int vo_keptPoured, .long vo_keptSpilt, .ref o_keptAmounts, .ref o_keptDrank, .ref o_keptTurns, .long vo_hash])), (o_rows, .inl (cI, 54, .inl vo_rows)), (o_amounts, .inl (cJ, 9, .inr (.inl vo_amounts))), (o_takes, .inl (cJ, 9, .inr (.inl a.2.2.1))), (o_leans, .inl (cI, 9, .inl a.2.2.2.1)), (o_would, .inl (cJ, 9, .inr (.inl a.2.2.2.2)))] H ∧ va_D A [(o, .inr (6, [.ref o_page, .int vo_pageMany, .int vo_readMany, .int vo_state, .int vo_readMost, .ref o_readRows, .int vo_glasses, .int vo_towersRead, .int vo_poured, .ref o_rows, .ref o_turns, .ref o_amounts, .ref o_drank, .long vo_spilt, .ref o_takes, .ref o_leans, .ref o_would, .int vo_done, .int vo_seedNow, .int vo_keptTower, .int vo_keptPoured, .long vo_keptSpilt, .ref o_keptAmounts, .ref o_keptDrank, .ref o_keptTurns, .long vo_hash])), (o_rows, .inl (cI, 54, .inl vo_rows)), (o_amounts, .inl (cJ, 9, .inr (.inl vo_amounts))), (o_takes, .inl (cJ, 9, .inr (.inl a.2.2.1))), (o_leans, .inl (cI, 9, .inl a.2.2.2.1)), (o_would, .inl (cJ, 9, .inr (.inl a.2.2.2.2)))] ∧ va_S A s.heap H locs ∧ lv_has ls 4 [(2, .int a.2.1)]) ?_ ?_ ?_ 11 ((0 : Int32), j5, u2, u3, u4) ⟨(by omega : 0 ≤ (0 : Int32).toInt), (by omega : (0 : Int32).toInt ≤ vo_glasses.toInt), (by assumption : zLn u3), (by omega : vo_glasses.toInt - (0 : Int32).toInt < ((11 : Nat) : Int)), hT, hP.sub [0, 1, 2, 3, 4, 5] rfl, hD.sub [0, 1, 2, 3, 4, 5] rfl rfl, hS, lv_sub hl [0, 1, 2, 3] rfl⟩
    · rintro ⟨x11, x12, x13, x14, x15⟩ H locs ls ⟨i1, j1, hy1, hT, hP, hD, hS, hl⟩
      have hP : va_P (dC, dI) vwCl [(o, .inr (6, [.ref o_page, .int vo_pageMany, .int vo_readMany, .int vo_state, .int vo_readMost, .ref o_readRows, .int vo_glasses, .int vo_towersRead, .int vo_poured, .ref o_rows, .ref o_turns, .ref o_amounts, .ref o_drank, .long vo_spilt, .ref o_takes, .ref o_leans, .ref o_would, .int vo_done, .int vo_seedNow, .int vo_keptTower, .int vo_keptPoured, .long vo_keptSpilt, .ref o_keptAmounts, .ref o_keptDrank, .ref o_keptTurns, .long vo_hash])), (o_rows, .inl (cI, 54, .inl vo_rows)), (o_amounts, .inl (cJ, 9, .inr (.inl vo_amounts))), (o_takes, .inl (cJ, 9, .inr (.inl x13))), (o_leans, .inl (cI, 9, .inl x14)), (o_would, .inl (cJ, 9, .inr (.inl x15)))] H := hP
      have hD : va_D A [(o, .inr (6, [.ref o_page, .int vo_pageMany, .int vo_readMany, .int vo_state, .int vo_readMost, .ref o_readRows, .int vo_glasses, .int vo_towersRead, .int vo_poured, .ref o_rows, .ref o_turns, .ref o_amounts, .ref o_drank, .long vo_spilt, .ref o_takes, .ref o_leans, .ref o_would, .int vo_done, .int vo_seedNow, .int vo_keptTower, .int vo_keptPoured, .long vo_keptSpilt, .ref o_keptAmounts, .ref o_keptDrank, .ref o_keptTurns, .long vo_hash])), (o_rows, .inl (cI, 54, .inl vo_rows)), (o_amounts, .inl (cJ, 9, .inr (.inl vo_amounts))), (o_takes, .inl (cJ, 9, .inr (.inl x13))), (o_leans, .inl (cI, 9, .inl x14)), (o_would, .inl (cJ, 9, .inr (.inl x15)))] := hD
      have hl : lv_has ls 4 [(2, .int x12)] := hl
      have hT : rs_X6_chipsOf_2 x11 x12 x13 x14 x15 = (r, qo_takes, qo_leans, qo_would) := hT
      have i1 : 0 ≤ x11.toInt := i1
      have j1 : x11.toInt ≤ vo_glasses.toInt := j1
      have hy1 : zLn x14 := hy1
      refine lv_iload_n hx hb dX6_chipsOf_64 rfl (lv_at hl 0 rfl) ?_
      have hP9 := hP
      have hD9 := hD
      have hS9 := hS
      have hT : (x12, x13, x14, x15) = (r, qo_takes, qo_leans, qo_would) := hT
      cases hT
      subst hQ
      exact zz_iret hx hb hr [0, 1, 2, 3, 4, 5] hK hP9 hD9 hS9 rfl rfl (by assumption) hlocks dX6_chipsOf_65
    · rintro ⟨b6, b7, b8, b9, b10⟩ H locs ls ⟨i1, j1, hy1, hm, -⟩
      try dsimp only at *
      omega
    · intro k2 hex2 ih2
      rintro ⟨b6, b7, b8, b9, b10⟩ H locs ls ⟨i1, j1, hy1, hm2, hT, hP, hD, hS, hl⟩
      have hP : va_P (dC, dI) vwCl [(o, .inr (6, [.ref o_page, .int vo_pageMany, .int vo_readMany, .int vo_state, .int vo_readMost, .ref o_readRows, .int vo_glasses, .int vo_towersRead, .int vo_poured, .ref o_rows, .ref o_turns, .ref o_amounts, .ref o_drank, .long vo_spilt, .ref o_takes, .ref o_leans, .ref o_would, .int vo_done, .int vo_seedNow, .int vo_keptTower, .int vo_keptPoured, .long vo_keptSpilt, .ref o_keptAmounts, .ref o_keptDrank, .ref o_keptTurns, .long vo_hash])), (o_rows, .inl (cI, 54, .inl vo_rows)), (o_amounts, .inl (cJ, 9, .inr (.inl vo_amounts))), (o_takes, .inl (cJ, 9, .inr (.inl b8))), (o_leans, .inl (cI, 9, .inl b9)), (o_would, .inl (cJ, 9, .inr (.inl b10)))] H := hP
      have hD : va_D A [(o, .inr (6, [.ref o_page, .int vo_pageMany, .int vo_readMany, .int vo_state, .int vo_readMost, .ref o_readRows, .int vo_glasses, .int vo_towersRead, .int vo_poured, .ref o_rows, .ref o_turns, .ref o_amounts, .ref o_drank, .long vo_spilt, .ref o_takes, .ref o_leans, .ref o_would, .int vo_done, .int vo_seedNow, .int vo_keptTower, .int vo_keptPoured, .long vo_keptSpilt, .ref o_keptAmounts, .ref o_keptDrank, .ref o_keptTurns, .long vo_hash])), (o_rows, .inl (cI, 54, .inl vo_rows)), (o_amounts, .inl (cJ, 9, .inr (.inl vo_amounts))), (o_takes, .inl (cJ, 9, .inr (.inl b8))), (o_leans, .inl (cI, 9, .inl b9)), (o_would, .inl (cJ, 9, .inr (.inl b10)))] := hD
      have hl : lv_has ls 4 [(3, .int b6), (2, .int b7), (0, .ref o), (1, .int p1)] := hl
      have hT : lp_X6_chipsOf_2 vo_glasses rs_X6_chipsOf_2 vo_rows vo_amounts p1 (k2 + 1) b6 b7 b8 b9 b10 = (r, qo_takes, qo_leans, qo_would) := hT
      have i1 : 0 ≤ b6.toInt := i1
      have j1 : b6.toInt ≤ vo_glasses.toInt := j1
      have hy1 : zLn b9 := hy1
      have hm2 : vo_glasses.toInt - b6.toInt < (((k2 + 1) : Nat) : Int) := hm2
      try simp only [Int.natCast_add, Int.natCast_one, Nat.cast_add, Nat.cast_one] at hm2
      refine lv_iload_n hx hb dX6_chipsOf_19 rfl (lv_at hl 0 rfl) ?_
      refine lv_aload_n hx hb dX6_chipsOf_20 rfl (lv_at hl 2 rfl) ?_
      refine va_get (D := (dC, dI)) (ci := 6) (v := .int vo_glasses) (C := RX6) (T := TX6) (N := 26) hx hb hts hwX6 hown hK hP 0 rfl rfl 6 (by decide) hf_97 (fun _ h9 => h9) rfl dX6_chipsOf_21 ?_
      refine lv_icmp_ge (tgt := 64) hx hb dX6_chipsOf_24 (by decide) (fun c_6 => ?_) (fun c_6 => ?_)
      · replace hT := cutT c_6 hT
        have g_17 := zleT (rfl : (vo_glasses).toInt = _) (rfl : (b6).toInt = _) c_6
        exact hex2 (b6, b7, b8, b9, b10) _ _ _ ⟨(by omega : 0 ≤ b6.toInt), (by omega : b6.toInt ≤ vo_glasses.toInt), (by assumption : zLn b9), hT, hP.sub [0, 1, 2, 3, 4, 5] rfl, hD.sub [0, 1, 2, 3, 4, 5] rfl rfl, hS, lv_sub hl [1] rfl⟩
      · replace hT := cutF c_6 hT
        have g_18 := zleF (rfl : (vo_glasses).toInt = _) (rfl : (b6).toInt = _) c_6
        refine lv_iload_n hx hb dX6_chipsOf_27 rfl (lv_at hl 1 rfl) ?_
        refine lv_aload_n hx hb dX6_chipsOf_28 rfl (lv_at hl 2 rfl) ?_
        refine va_get (D := (dC, dI)) (ci := 6) (v := .ref o_rows) (C := RX6) (T := TX6) (N := 26) hx hb hts hwX6 hown hK hP 0 rfl rfl 9 (by decide) hf_16 (fun _ h9 => h9) rfl dX6_chipsOf_29 ?_
        refine lv_bipush (v := (6 : Int32)) hx hb dX6_chipsOf_32 (by decide) ?_
        refine lv_iload_n hx hb dX6_chipsOf_34 rfl (lv_at hl 0 rfl) ?_
        refine lv_imul hx hb dX6_chipsOf_35 ?_
        have e_8 := zmulE (v := ((6 : Int32) * b6)) (by decide : ((6 : Int32)).toInt = 6) (rfl : (b6).toInt = _) rfl (by omega) (by omega)
        have h_7 : vp_in ((6 : Int32) * b6) 54 := zin (by omega) (by omega)
        refine va_iald hx hb hK hP 1 0 rfl rfl h_7 dX6_chipsOf_36 ?_
        refine lv_if_ne (tgt := 55) hx hb dX6_chipsOf_37 (by decide) (fun c_9 => ?_) (fun c_9 => ?_)
        · replace hT := cutF c_9 hT
          have g_19 := zeqF (rfl : ((vo_rows ((6 : Int32) * b6).toNatClampNeg)).toInt = _) (by decide : ((0 : Int32)).toInt = 0) c_9
          refine lv_iconst (v := (0 : Int32)) hx hb dX6_chipsOf_55 (by decide) ?_
          refine lv_ior hx hb dX6_chipsOf_56 ?_
          refine lv_topi (fun v16 ev16 => ?_)
          replace hT := cut_n ev16.symm hT
          refine lv_istore_n (lv' := [(2, .int v16), (3, .int b6), (0, .ref o), (1, .int p1)]) hx hb dX6_chipsOf_57 rfl hl (by decide) rfl (fun ls hl => ?_)
          obtain ⟨v17, ev17⟩ : ∃ y : Int32, (b6 + (1 : Int32)) = y := ⟨_, rfl⟩
          replace hT := cut_n ev17 hT
          try have fv17 := zaddE (rfl : (b6).toInt = _) (by decide : ((1 : Int32)).toInt = 1) ev17 (by omega) (by omega)
          refine lv_iinc (v := v17) (lv' := [(3, .int v17), (2, .int v16), (0, .ref o), (1, .int p1)]) hx hb dX6_chipsOf_58 hl (k := 1) rfl (by rw [← ev17]; rfl) (by decide) rfl (fun ls hl => ?_)
          refine lv_goto (tgt := 19) hx hb dX6_chipsOf_61 (by decide) ?_
          exact ih2 (v17, v16, b8, b9, b10) _ _ _ ⟨(by omega : 0 ≤ v17.toInt), (by omega : v17.toInt ≤ vo_glasses.toInt), (by assumption : zLn b9), (by omega : vo_glasses.toInt - v17.toInt < ((k2 : Nat) : Int)), hT, hP.sub [0, 1, 2, 3, 4, 5] rfl, hD.sub [0, 1, 2, 3, 4, 5] rfl rfl, hS, lv_sub hl [0, 1, 2, 3] rfl⟩
        · replace hT := cutT c_9 hT
          have g_20 := zeqT (rfl : ((vo_rows ((6 : Int32) * b6).toNatClampNeg)).toInt = _) (by decide : ((0 : Int32)).toInt = 0) c_9
          refine lv_aload_n hx hb dX6_chipsOf_40 rfl (lv_at hl 2 rfl) ?_
          refine lv_iload_n hx hb dX6_chipsOf_41 rfl (lv_at hl 3 rfl) ?_
          refine lv_iload_n hx hb dX6_chipsOf_42 rfl (lv_at hl 0 rfl) ?_
          obtain ⟨r18, u19, u20, u21, ev_10⟩ : ∃ x0 x1 x2 x3, (m_X6_leaves vo_glasses vo_rows vo_amounts b8 b9 b10 p1 b6) = (x0, x1, x2, x3) := ⟨_, _, _, _, rfl⟩
          replace hT := cut4_n ev_10 hT
          refine zz_ci [0, 1, 2, 3, 4, 5] [] (wr := []) (w1 := [(o, .inr (6, [.ref o_page, .int vo_pageMany, .int vo_readMany, .int vo_state, .int vo_readMost, .ref o_readRows, .int vo_glasses, .int vo_towersRead, .int vo_poured, .ref o_rows, .ref o_turns, .ref o_amounts, .ref o_drank, .long vo_spilt, .ref o_takes, .ref o_leans, .ref o_would, .int vo_done, .int vo_seedNow, .int vo_keptTower, .int vo_keptPoured, .long vo_keptSpilt, .ref o_keptAmounts, .ref o_keptDrank, .ref o_keptTurns, .long vo_hash])), (o_rows, .inl (cI, 54, .inl vo_rows)), (o_amounts, .inl (cJ, 9, .inr (.inl vo_amounts))), (o_takes, .inl (cJ, 9, .inr (.inl u19))), (o_leans, .inl (cI, 9, .inl u20)), (o_would, .inl (cJ, 9, .inr (.inl u21)))]) (va_runV (As := [.int p1, .int b6]) (rest := [.int b7]) ⟨hx, hb, hml, hown, hts⟩ (k_X6_leaves l dC dI cI cJ cC H.size o o_page o_readRows o_rows o_turns o_amounts o_drank o_takes o_leans o_would o_keptAmounts o_keptDrank o_keptTurns vo_pageMany vo_readMany vo_state vo_readMost vo_glasses vo_towersRead vo_poured vo_spilt vo_done vo_seedNow vo_keptTower vo_keptPoured vo_keptSpilt vo_hash vo_rows vo_amounts b8 b9 b10 p1 b6 r18 u19 u20 u21 ev_10 hg0 hg9 hrw hy1 (by first | omega | decide)) (cwV 2 hts gX6_chipsOf_X6_leaves rfl rfl rfl (by decide +kernel) ⟨Nat.le_of_ble_eq_true rfl, Nat.le_of_ble_eq_true rfl⟩) (zz_preV [0, 1, 2, 3, 4, 5] hK hP hD rfl rfl (va_recv hK hP (ci := 6) (q0 := 0) rfl rfl)) rfl rfl hl.1 rfl (lv_room (Nat.le_of_ble_eq_true rfl)) dX6_chipsOf_43 ⟨Nat.zero_le _, Nat.zero_le _⟩) hP hD hS hA rfl rfl rfl (by decide) (fun ok_11 H locs hP hD hS => ?_)
          have hP : va_P (dC, dI) vwCl [(o, .inr (6, [.ref o_page, .int vo_pageMany, .int vo_readMany, .int vo_state, .int vo_readMost, .ref o_readRows, .int vo_glasses, .int vo_towersRead, .int vo_poured, .ref o_rows, .ref o_turns, .ref o_amounts, .ref o_drank, .long vo_spilt, .ref o_takes, .ref o_leans, .ref o_would, .int vo_done, .int vo_seedNow, .int vo_keptTower, .int vo_keptPoured, .long vo_keptSpilt, .ref o_keptAmounts, .ref o_keptDrank, .ref o_keptTurns, .long vo_hash])), (o_rows, .inl (cI, 54, .inl vo_rows)), (o_amounts, .inl (cJ, 9, .inr (.inl vo_amounts))), (o_takes, .inl (cJ, 9, .inr (.inl u19))), (o_leans, .inl (cI, 9, .inl u20)), (o_would, .inl (cJ, 9, .inr (.inl u21)))] H := hP
          have hD : va_D A [(o, .inr (6, [.ref o_page, .int vo_pageMany, .int vo_readMany, .int vo_state, .int vo_readMost, .ref o_readRows, .int vo_glasses, .int vo_towersRead, .int vo_poured, .ref o_rows, .ref o_turns, .ref o_amounts, .ref o_drank, .long vo_spilt, .ref o_takes, .ref o_leans, .ref o_would, .int vo_done, .int vo_seedNow, .int vo_keptTower, .int vo_keptPoured, .long vo_keptSpilt, .ref o_keptAmounts, .ref o_keptDrank, .ref o_keptTurns, .long vo_hash])), (o_rows, .inl (cI, 54, .inl vo_rows)), (o_amounts, .inl (cJ, 9, .inr (.inl vo_amounts))), (o_takes, .inl (cJ, 9, .inr (.inl u19))), (o_leans, .inl (cI, 9, .inl u20)), (o_would, .inl (cJ, 9, .inr (.inl u21)))] := hD
          obtain ⟨k_12, k_13⟩ := ok_11
          refine lv_if_eq (tgt := 55) hx hb dX6_chipsOf_46 (by decide) (fun c_14 => ?_) (fun c_14 => ?_)
          · replace hT := cutT c_14 hT
            have g_21 := zeqT (rfl : (r18).toInt = _) (by decide : ((0 : Int32)).toInt = 0) c_14
            refine lv_iconst (v := (0 : Int32)) hx hb dX6_chipsOf_55 (by decide) ?_
            refine lv_ior hx hb dX6_chipsOf_56 ?_
            refine lv_topi (fun v22 ev22 => ?_)
            replace hT := cut_n ev22.symm hT
            refine lv_istore_n (lv' := [(2, .int v22), (3, .int b6), (0, .ref o), (1, .int p1)]) hx hb dX6_chipsOf_57 rfl hl (by decide) rfl (fun ls hl => ?_)
            obtain ⟨v23, ev23⟩ : ∃ y : Int32, (b6 + (1 : Int32)) = y := ⟨_, rfl⟩
            replace hT := cut_n ev23 hT
            try have fv23 := zaddE (rfl : (b6).toInt = _) (by decide : ((1 : Int32)).toInt = 1) ev23 (by omega) (by omega)
            refine lv_iinc (v := v23) (lv' := [(3, .int v23), (2, .int v22), (0, .ref o), (1, .int p1)]) hx hb dX6_chipsOf_58 hl (k := 1) rfl (by rw [← ev23]; rfl) (by decide) rfl (fun ls hl => ?_)
            refine lv_goto (tgt := 19) hx hb dX6_chipsOf_61 (by decide) ?_
            exact ih2 (v23, v22, u19, u20, u21) _ _ _ ⟨(by omega : 0 ≤ v23.toInt), (by omega : v23.toInt ≤ vo_glasses.toInt), (by assumption : zLn u20), (by omega : vo_glasses.toInt - v23.toInt < ((k2 : Nat) : Int)), hT, hP.sub [0, 1, 2, 3, 4, 5] rfl, hD.sub [0, 1, 2, 3, 4, 5] rfl rfl, hS, lv_sub hl [0, 1, 2, 3] rfl⟩
          · replace hT := cutF c_14 hT
            have g_22 := zeqF (rfl : (r18).toInt = _) (by decide : ((0 : Int32)).toInt = 0) c_14
            refine lv_iconst (v := (1 : Int32)) hx hb dX6_chipsOf_49 (by decide) ?_
            refine lv_iload_n hx hb dX6_chipsOf_50 rfl (lv_at hl 0 rfl) ?_
            refine lv_ishl hx hb dX6_chipsOf_51 ?_
            refine lv_goto (tgt := 56) hx hb dX6_chipsOf_52 (by decide) ?_
            refine lv_ior hx hb dX6_chipsOf_56 ?_
            refine lv_topi (fun v24 ev24 => ?_)
            replace hT := cut_n ev24.symm hT
            refine lv_istore_n (lv' := [(2, .int v24), (3, .int b6), (0, .ref o), (1, .int p1)]) hx hb dX6_chipsOf_57 rfl hl (by decide) rfl (fun ls hl => ?_)
            obtain ⟨v25, ev25⟩ : ∃ y : Int32, (b6 + (1 : Int32)) = y := ⟨_, rfl⟩
            replace hT := cut_n ev25 hT
            try have fv25 := zaddE (rfl : (b6).toInt = _) (by decide : ((1 : Int32)).toInt = 1) ev25 (by omega) (by omega)
            refine lv_iinc (v := v25) (lv' := [(3, .int v25), (2, .int v24), (0, .ref o), (1, .int p1)]) hx hb dX6_chipsOf_58 hl (k := 1) rfl (by rw [← ev25]; rfl) (by decide) rfl (fun ls hl => ?_)
            refine lv_goto (tgt := 19) hx hb dX6_chipsOf_61 (by decide) ?_
            exact ih2 (v25, v24, u19, u20, u21) _ _ _ ⟨(by omega : 0 ≤ v25.toInt), (by omega : v25.toInt ≤ vo_glasses.toInt), (by assumption : zLn u20), (by omega : vo_glasses.toInt - v25.toInt < ((k2 : Nat) : Int)), hT, hP.sub [0, 1, 2, 3, 4, 5] rfl, hD.sub [0, 1, 2, 3, 4, 5] rfl rfl, hS, lv_sub hl [0, 1, 2, 3] rfl⟩
  · intro xv hT hM
    refine lv_if_eq (tgt := 15) hx hb dX6_chipsOf_6 (by decide) (fun c_5 => ?_) (fun c_5 => ?_)
    · replace hT := cutT c_5 hT
      have g_23 := zeqT (rfl : (r1).toInt = _) (by decide : ((0 : Int32)).toInt = 0) c_5
      refine lv_iconst (v := (0 : Int32)) hx hb dX6_chipsOf_15 (by decide) ?_
      have hP9 := hP
      have hD9 := hD
      have hS9 := hS
      have hl9 := hl
      have hM9 := hM
      have hT : (0 : Int32) = xv := hT
      subst hT
      exact hM9 _ _ _ ⟨hP9.sub [0, 1, 2, 3, 4, 5] rfl, hD9.sub [0, 1, 2, 3, 4, 5] rfl rfl, hS9, lv_sub hl9 [0, 1] rfl⟩
    · replace hT := cutF c_5 hT
      have g_24 := zeqF (rfl : (r1).toInt = _) (by decide : ((0 : Int32)).toInt = 0) c_5
      refine lv_sipush (v := (512 : Int32)) hx hb dX6_chipsOf_9 (by decide) ?_
      refine lv_goto (tgt := 16) hx hb dX6_chipsOf_12 (by decide) ?_
      have hP9 := hP
      have hD9 := hD
      have hS9 := hS
      have hl9 := hl
      have hM9 := hM
      have hT : (512 : Int32) = xv := hT
      subst hT
      exact hM9 _ _ _ ⟨hP9.sub [0, 1, 2, 3, 4, 5] rfl, hD9.sub [0, 1, 2, 3, 4, 5] rfl rfl, hS9, lv_sub hl9 [0, 1] rfl⟩

def m_X6_chips (vo_glasses : Int32) (vo_rows : Nat → Int32) (vo_amounts : Nat → Int64) (vo_takes : Nat → Int64) (vo_leans : Nat → Int32) (vo_would : Nat → Int64) (p1 : Int32) : Int32 × (Nat → Int64) × (Nat → Int32) × (Nat → Int64) :=
 cut (m_X6_lacks vo_glasses) (fun (r1 : Int32) =>
 if r1 = (0 : Int32) then
  cut (m_X6_isIn (p1.toInt64) (0 : Int64) (999 : Int64)) (fun (r2 : Int32) =>
  if r2 = (0 : Int32) then
   ((-102 : Int32), vo_takes, vo_leans, vo_would)
  else
   cut4 (m_X6_chipsOf vo_glasses vo_rows vo_amounts vo_takes vo_leans vo_would p1) (fun (r3 : Int32) (u4 : Nat → Int64) (u5 : Nat → Int32) (u6 : Nat → Int64) =>
   (r3, u4, u5, u6)))
 else
  ((-103 : Int32), vo_takes, vo_leans, vo_would))
set_option maxHeartbeats 4000000 in
set_option maxRecDepth 100000 in
theorem k_X6_chips (l : Launch) (dC : Nat → ClassId) (dI : Nat → Nat → Nat) (cI cJ cC : ClassId) (sz : Nat) (o o_page o_readRows o_rows o_turns o_amounts o_drank o_takes o_leans o_would o_keptAmounts o_keptDrank o_keptTurns : Nat) (vo_pageMany : Int32) (vo_readMany : Int32) (vo_state : Int32) (vo_readMost : Int32) (vo_glasses : Int32) (vo_towersRead : Int32) (vo_poured : Int32) (vo_spilt : Int64) (vo_done : Int32) (vo_seedNow : Int32) (vo_keptTower : Int32) (vo_keptPoured : Int32) (vo_keptSpilt : Int64) (vo_hash : Int64) (vo_rows : Nat → Int32) (vo_amounts : Nat → Int64) (vo_takes : Nat → Int64) (vo_leans : Nat → Int32) (vo_would : Nat → Int64) (p1 : Int32) (r : Int32) (qo_takes : Nat → Int64) (qo_leans : Nat → Int32) (qo_would : Nat → Int64) (hT : m_X6_chips vo_glasses vo_rows vo_amounts vo_takes vo_leans vo_would p1 = (r, qo_takes, qo_leans, qo_would)) (hg0 : 0 ≤ vo_glasses.toInt) (hg9 : vo_glasses.toInt ≤ 9) (hrw : zRw vo_rows) (hln : zLn vo_leans) : Met l yX6_chips wsX6_chips ({ frames := 5, cells := 0, slots := 0, locals := 115 }) (zPc [.ref o, .int p1] (dC, dI) (zTy cI cJ cC) [(o, .inr (6, [.ref o_page, .int vo_pageMany, .int vo_readMany, .int vo_state, .int vo_readMost, .ref o_readRows, .int vo_glasses, .int vo_towersRead, .int vo_poured, .ref o_rows, .ref o_turns, .ref o_amounts, .ref o_drank, .long vo_spilt, .ref o_takes, .ref o_leans, .ref o_would, .int vo_done, .int vo_seedNow, .int vo_keptTower, .int vo_keptPoured, .long vo_keptSpilt, .ref o_keptAmounts, .ref o_keptDrank, .ref o_keptTurns, .long vo_hash])), (o_rows, .inl (cI, 54, .inl vo_rows)), (o_amounts, .inl (cJ, 9, .inr (.inl vo_amounts))), (o_takes, .inl (cJ, 9, .inr (.inl vo_takes))), (o_leans, .inl (cI, 9, .inl vo_leans)), (o_would, .inl (cJ, 9, .inr (.inl vo_would)))] sz) (zQi r ((zLn qo_leans)) (dC, dI) (zTy cI cJ cC) [(o, .inr (6, [.ref o_page, .int vo_pageMany, .int vo_readMany, .int vo_state, .int vo_readMost, .ref o_readRows, .int vo_glasses, .int vo_towersRead, .int vo_poured, .ref o_rows, .ref o_turns, .ref o_amounts, .ref o_drank, .long vo_spilt, .ref o_takes, .ref o_leans, .ref o_would, .int vo_done, .int vo_seedNow, .int vo_keptTower, .int vo_keptPoured, .long vo_keptSpilt, .ref o_keptAmounts, .ref o_keptDrank, .ref o_keptTurns, .long vo_hash])), (o_rows, .inl (cI, 54, .inl vo_rows)), (o_amounts, .inl (cJ, 9, .inr (.inl vo_amounts))), (o_takes, .inl (cJ, 9, .inr (.inl qo_takes))), (o_leans, .inl (cI, 9, .inl qo_leans)), (o_would, .inl (cJ, 9, .inr (.inl qo_would)))] (va_A [(o, .inr (6, [.ref o_page, .int vo_pageMany, .int vo_readMany, .int vo_state, .int vo_readMost, .ref o_readRows, .int vo_glasses, .int vo_towersRead, .int vo_poured, .ref o_rows, .ref o_turns, .ref o_amounts, .ref o_drank, .long vo_spilt, .ref o_takes, .ref o_leans, .ref o_would, .int vo_done, .int vo_seedNow, .int vo_keptTower, .int vo_keptPoured, .long vo_keptSpilt, .ref o_keptAmounts, .ref o_keptDrank, .ref o_keptTurns, .long vo_hash])), (o_rows, .inl (cI, 54, .inl vo_rows)), (o_amounts, .inl (cJ, 9, .inr (.inl vo_amounts))), (o_takes, .inl (cJ, 9, .inr (.inl vo_takes))), (o_leans, .inl (cI, 9, .inl vo_leans)), (o_would, .inl (cJ, 9, .inr (.inl vo_would)))] sz)) 0 0 (va_A [(o, .inr (6, [.ref o_page, .int vo_pageMany, .int vo_readMany, .int vo_state, .int vo_readMost, .ref o_readRows, .int vo_glasses, .int vo_towersRead, .int vo_poured, .ref o_rows, .ref o_turns, .ref o_amounts, .ref o_drank, .long vo_spilt, .ref o_takes, .ref o_leans, .ref o_would, .int vo_done, .int vo_seedNow, .int vo_keptTower, .int vo_keptPoured, .long vo_keptSpilt, .ref o_keptAmounts, .ref o_keptDrank, .ref o_keptTurns, .long vo_hash])), (o_rows, .inl (cI, 54, .inl vo_rows)), (o_amounts, .inl (cJ, 9, .inr (.inl vo_amounts))), (o_takes, .inl (cJ, 9, .inr (.inl vo_takes))), (o_leans, .inl (cI, 9, .inl vo_leans)), (o_would, .inl (cJ, 9, .inr (.inl vo_would)))] sz) := by
  refine Met.ofW (cc := cX6_chips) (maxL := 2) (ret := (some .int)) (by decide) rfl ?_
  intro p e s m args below meth c s₁ B hml hv
  obtain ⟨rfl, hsz, hP, hK, hD0⟩ := hv
  have hx := B.exec
  have hb := B.bytes
  have hr := B.returns
  have hts := atoms_spec (ws := wsX6_chips) B.pre
  have hown : s.vm.findClass RX6 = some m.cls := findClass_of_methodNamed B.named
  have hlocks := B.notSynchronized
  subst hsz
  have hD := hD0.self (sz := s.heap.size)
  generalize hAe : va_A [(o, .inr (6, [.ref o_page, .int vo_pageMany, .int vo_readMany, .int vo_state, .int vo_readMost, .ref o_readRows, .int vo_glasses, .int vo_towersRead, .int vo_poured, .ref o_rows, .ref o_turns, .ref o_amounts, .ref o_drank, .long vo_spilt, .ref o_takes, .ref o_leans, .ref o_would, .int vo_done, .int vo_seedNow, .int vo_keptTower, .int vo_keptPoured, .long vo_keptSpilt, .ref o_keptAmounts, .ref o_keptDrank, .ref o_keptTurns, .long vo_hash])), (o_rows, .inl (cI, 54, .inl vo_rows)), (o_amounts, .inl (cJ, 9, .inr (.inl vo_amounts))), (o_takes, .inl (cJ, 9, .inr (.inl vo_takes))), (o_leans, .inl (cI, 9, .inl vo_leans)), (o_would, .inl (cJ, 9, .inr (.inl vo_would)))] s.heap.size = A at hD ⊢
  have hA : ∀ q : Nat, s.heap.size ≤ q → A q := fun q h => by rw [← hAe]; exact Or.inr h
  have hS : va_S A s.heap s.heap [] := va_S.rf
  have hP : va_P (dC, dI) vwCl [(o, .inr (6, [.ref o_page, .int vo_pageMany, .int vo_readMany, .int vo_state, .int vo_readMost, .ref o_readRows, .int vo_glasses, .int vo_towersRead, .int vo_poured, .ref o_rows, .ref o_turns, .ref o_amounts, .ref o_drank, .long vo_spilt, .ref o_takes, .ref o_leans, .ref o_would, .int vo_done, .int vo_seedNow, .int vo_keptTower, .int vo_keptPoured, .long vo_keptSpilt, .ref o_keptAmounts, .ref o_keptDrank, .ref o_keptTurns, .long vo_hash])), (o_rows, .inl (cI, 54, .inl vo_rows)), (o_amounts, .inl (cJ, 9, .inr (.inl vo_amounts))), (o_takes, .inl (cJ, 9, .inr (.inl vo_takes))), (o_leans, .inl (cI, 9, .inl vo_leans)), (o_would, .inl (cJ, 9, .inr (.inl vo_would)))] s.heap := hP
  have hK : va_K (dC, dI) vwCl (zTy cI cJ cC) s := hK
  have hl := lv_entry ([.ref o, .int p1]) (n := 2) (Nat.le_of_ble_eq_true rfl)
  rw [lg_entry_eq]
  generalize (lg_sl ([.ref o, .int p1]) ++ List.replicate (2 - (lg_sl ([.ref o, .int p1])).length) Slot.unset).toArray = ls at hl ⊢
  have hl : lv_has ls 2 [(0, .ref o), (1, .int p1)] := hl
  refine zz_start hP hS (fun Q hQ H locs hP hS => ?_)
  have hc_190 := (hts (.constantLong RX6 190 (999)) (by decide +kernel))
  refine lv_aload_n hx hb dX6_chips_0 rfl (lv_at hl 0 rfl) ?_
  obtain ⟨r1, ev_1⟩ : ∃ x0, (m_X6_lacks vo_glasses) = x0 := ⟨_, rfl⟩
  replace hT := cut_n ev_1 hT
  refine zz_ci [0] [1, 2, 3, 4, 5] (wr := [(o_rows, .inl (cI, 54, .inl vo_rows)), (o_amounts, .inl (cJ, 9, .inr (.inl vo_amounts))), (o_takes, .inl (cJ, 9, .inr (.inl vo_takes))), (o_leans, .inl (cI, 9, .inl vo_leans)), (o_would, .inl (cJ, 9, .inr (.inl vo_would)))]) (w1 := [(o, .inr (6, [.ref o_page, .int vo_pageMany, .int vo_readMany, .int vo_state, .int vo_readMost, .ref o_readRows, .int vo_glasses, .int vo_towersRead, .int vo_poured, .ref o_rows, .ref o_turns, .ref o_amounts, .ref o_drank, .long vo_spilt, .ref o_takes, .ref o_leans, .ref o_would, .int vo_done, .int vo_seedNow, .int vo_keptTower, .int vo_keptPoured, .long vo_keptSpilt, .ref o_keptAmounts, .ref o_keptDrank, .ref o_keptTurns, .long vo_hash]))]) (va_runV (As := []) (rest := []) ⟨hx, hb, hml, hown, hts⟩ (k_X6_lacks l dC dI cI cJ cC H.size o o_page o_readRows o_rows o_turns o_amounts o_drank o_takes o_leans o_would o_keptAmounts o_keptDrank o_keptTurns vo_pageMany vo_readMany vo_state vo_readMost vo_glasses vo_towersRead vo_poured vo_spilt vo_done vo_seedNow vo_keptTower vo_keptPoured vo_keptSpilt vo_hash r1 ev_1) (cwV 0 hts gX6_chips_X6_lacks rfl rfl rfl (by decide +kernel) ⟨Nat.le_of_ble_eq_true rfl, Nat.le_of_ble_eq_true rfl⟩) (zz_preV [0] hK hP hD rfl rfl (va_recv hK hP (ci := 6) (q0 := 0) rfl rfl)) rfl rfl hl.1 rfl (lv_room (Nat.le_of_ble_eq_true rfl)) dX6_chips_1 ⟨Nat.zero_le _, Nat.zero_le _⟩) hP hD hS hA rfl rfl rfl (by decide) (fun ok_2 H locs hP hD hS => ?_)
  have hP : va_P (dC, dI) vwCl [(o_rows, .inl (cI, 54, .inl vo_rows)), (o_amounts, .inl (cJ, 9, .inr (.inl vo_amounts))), (o_takes, .inl (cJ, 9, .inr (.inl vo_takes))), (o_leans, .inl (cI, 9, .inl vo_leans)), (o_would, .inl (cJ, 9, .inr (.inl vo_would))), (o, .inr (6, [.ref o_page, .int vo_pageMany, .int vo_readMany, .int vo_state, .int vo_readMost, .ref o_readRows, .int vo_glasses, .int vo_towersRead, .int vo_poured, .ref o_rows, .ref o_turns, .ref o_amounts, .ref o_drank, .long vo_spilt, .ref o_takes, .ref o_leans, .ref o_would, .int vo_done, .int vo_seedNow, .int vo_keptTower, .int vo_keptPoured, .long vo_keptSpilt, .ref o_keptAmounts, .ref o_keptDrank, .ref o_keptTurns, .long vo_hash]))] H := hP
  have hD : va_D A [(o_rows, .inl (cI, 54, .inl vo_rows)), (o_amounts, .inl (cJ, 9, .inr (.inl vo_amounts))), (o_takes, .inl (cJ, 9, .inr (.inl vo_takes))), (o_leans, .inl (cI, 9, .inl vo_leans)), (o_would, .inl (cJ, 9, .inr (.inl vo_would))), (o, .inr (6, [.ref o_page, .int vo_pageMany, .int vo_readMany, .int vo_state, .int vo_readMost, .ref o_readRows, .int vo_glasses, .int vo_towersRead, .int vo_poured, .ref o_rows, .ref o_turns, .ref o_amounts, .ref o_drank, .long vo_spilt, .ref o_takes, .ref o_leans, .ref o_would, .int vo_done, .int vo_seedNow, .int vo_keptTower, .int vo_keptPoured, .long vo_keptSpilt, .ref o_keptAmounts, .ref o_keptDrank, .ref o_keptTurns, .long vo_hash]))] := hD
  obtain ⟨k_3, k_4, k_5⟩ := ok_2
  refine lv_if_eq (tgt := 10) hx hb dX6_chips_4 (by decide) (fun c_6 => ?_) (fun c_6 => ?_)
  · replace hT := cutT c_6 hT
    have g_17 := zeqT (rfl : (r1).toInt = _) (by decide : ((0 : Int32)).toInt = 0) c_6
    refine lv_iload_n hx hb dX6_chips_10 rfl (lv_at hl 1 rfl) ?_
    refine lv_i2l (v := (p1.toInt64)) hx hb dX6_chips_11 rfl ?_
    refine lv_lconst (v := (0 : Int64)) hx hb dX6_chips_12 (by decide) ?_
    refine lv_ldc2 (v := (999 : Int64)) hx hb hown hc_190 dX6_chips_13 ?_
    obtain ⟨r2, ev_7⟩ : ∃ x0, (m_X6_isIn (p1.toInt64) (0 : Int64) (999 : Int64)) = x0 := ⟨_, rfl⟩
    replace hT := cut_n ev_7 hT
    refine zz_ci [] [0, 1, 2, 3, 4, 5] (wr := [(o_rows, .inl (cI, 54, .inl vo_rows)), (o_amounts, .inl (cJ, 9, .inr (.inl vo_amounts))), (o_takes, .inl (cJ, 9, .inr (.inl vo_takes))), (o_leans, .inl (cI, 9, .inl vo_leans)), (o_would, .inl (cJ, 9, .inr (.inl vo_would))), (o, .inr (6, [.ref o_page, .int vo_pageMany, .int vo_readMany, .int vo_state, .int vo_readMost, .ref o_readRows, .int vo_glasses, .int vo_towersRead, .int vo_poured, .ref o_rows, .ref o_turns, .ref o_amounts, .ref o_drank, .long vo_spilt, .ref o_takes, .ref o_leans, .ref o_would, .int vo_done, .int vo_seedNow, .int vo_keptTower, .int vo_keptPoured, .long vo_keptSpilt, .ref o_keptAmounts, .ref o_keptDrank, .ref o_keptTurns, .long vo_hash]))]) (w1 := []) (va_runS (As := [.long (p1.toInt64), .long (0 : Int64), .long (999 : Int64)]) (rest := []) ⟨hx, hb, hml, hown, hts⟩ (k_X6_isIn l dC dI cI cJ cC H.size (p1.toInt64) (0 : Int64) (999 : Int64) r2 ev_7) (va_cwS 3 hts gX6_chips_X6_isIn rfl rfl rfl (by decide +kernel) ⟨Nat.le_of_ble_eq_true rfl, Nat.le_of_ble_eq_true rfl⟩) (zz_preS [] hK hP hD rfl rfl) rfl rfl hl.1 rfl (lv_room (Nat.le_of_ble_eq_true rfl)) dX6_chips_16 ⟨Nat.zero_le _, Nat.zero_le _⟩) hP hD hS hA rfl rfl rfl (by decide) (fun ok_8 H locs hP hD hS => ?_)
    have hP : va_P (dC, dI) vwCl [(o_rows, .inl (cI, 54, .inl vo_rows)), (o_amounts, .inl (cJ, 9, .inr (.inl vo_amounts))), (o_takes, .inl (cJ, 9, .inr (.inl vo_takes))), (o_leans, .inl (cI, 9, .inl vo_leans)), (o_would, .inl (cJ, 9, .inr (.inl vo_would))), (o, .inr (6, [.ref o_page, .int vo_pageMany, .int vo_readMany, .int vo_state, .int vo_readMost, .ref o_readRows, .int vo_glasses, .int vo_towersRead, .int vo_poured, .ref o_rows, .ref o_turns, .ref o_amounts, .ref o_drank, .long vo_spilt, .ref o_takes, .ref o_leans, .ref o_would, .int vo_done, .int vo_seedNow, .int vo_keptTower, .int vo_keptPoured, .long vo_keptSpilt, .ref o_keptAmounts, .ref o_keptDrank, .ref o_keptTurns, .long vo_hash]))] H := hP
    have hD : va_D A [(o_rows, .inl (cI, 54, .inl vo_rows)), (o_amounts, .inl (cJ, 9, .inr (.inl vo_amounts))), (o_takes, .inl (cJ, 9, .inr (.inl vo_takes))), (o_leans, .inl (cI, 9, .inl vo_leans)), (o_would, .inl (cJ, 9, .inr (.inl vo_would))), (o, .inr (6, [.ref o_page, .int vo_pageMany, .int vo_readMany, .int vo_state, .int vo_readMost, .ref o_readRows, .int vo_glasses, .int vo_towersRead, .int vo_poured, .ref o_rows, .ref o_turns, .ref o_amounts, .ref o_drank, .long vo_spilt, .ref o_takes, .ref o_leans, .ref o_would, .int vo_done, .int vo_seedNow, .int vo_keptTower, .int vo_keptPoured, .long vo_keptSpilt, .ref o_keptAmounts, .ref o_keptDrank, .ref o_keptTurns, .long vo_hash]))] := hD
    have hz_9 : ((p1.toInt64)).toInt = (p1).toInt := Int32.toInt_toInt64 _
    have hz_10 : ((0 : Int64)).toInt = 0 := by decide
    have hz_11 : ((999 : Int64)).toInt = 999 := by decide
    obtain ⟨k_12, k_13⟩ := ok_8
    refine lv_if_eq (tgt := 30) hx hb dX6_chips_19 (by decide) (fun c_14 => ?_) (fun c_14 => ?_)
    · replace hT := cutT c_14 hT
      have g_18 := zeqT (rfl : (r2).toInt = _) (by decide : ((0 : Int32)).toInt = 0) c_14
      refine lv_bipush (v := (-102 : Int32)) hx hb dX6_chips_30 (by decide) ?_
      have hP9 := hP
      have hD9 := hD
      have hS9 := hS
      have hT : ((-102 : Int32), vo_takes, vo_leans, vo_would) = (r, qo_takes, qo_leans, qo_would) := hT
      cases hT
      subst hQ
      exact zz_iret hx hb hr [5, 0, 1, 2, 3, 4] hK hP9 hD9 hS9 rfl rfl (by assumption) hlocks dX6_chips_32
    · replace hT := cutF c_14 hT
      have g_19 := zeqF (rfl : (r2).toInt = _) (by decide : ((0 : Int32)).toInt = 0) c_14
      refine lv_aload_n hx hb dX6_chips_22 rfl (lv_at hl 0 rfl) ?_
      refine lv_iload_n hx hb dX6_chips_23 rfl (lv_at hl 1 rfl) ?_
      obtain ⟨r3, u4, u5, u6, ev_15⟩ : ∃ x0 x1 x2 x3, (m_X6_chipsOf vo_glasses vo_rows vo_amounts vo_takes vo_leans vo_would p1) = (x0, x1, x2, x3) := ⟨_, _, _, _, rfl⟩
      replace hT := cut4_n ev_15 hT
      refine zz_ci [5, 0, 1, 2, 3, 4] [] (wr := []) (w1 := [(o, .inr (6, [.ref o_page, .int vo_pageMany, .int vo_readMany, .int vo_state, .int vo_readMost, .ref o_readRows, .int vo_glasses, .int vo_towersRead, .int vo_poured, .ref o_rows, .ref o_turns, .ref o_amounts, .ref o_drank, .long vo_spilt, .ref o_takes, .ref o_leans, .ref o_would, .int vo_done, .int vo_seedNow, .int vo_keptTower, .int vo_keptPoured, .long vo_keptSpilt, .ref o_keptAmounts, .ref o_keptDrank, .ref o_keptTurns, .long vo_hash])), (o_rows, .inl (cI, 54, .inl vo_rows)), (o_amounts, .inl (cJ, 9, .inr (.inl vo_amounts))), (o_takes, .inl (cJ, 9, .inr (.inl u4))), (o_leans, .inl (cI, 9, .inl u5)), (o_would, .inl (cJ, 9, .inr (.inl u6)))]) (va_runV (As := [.int p1]) (rest := []) ⟨hx, hb, hml, hown, hts⟩ (k_X6_chipsOf l dC dI cI cJ cC H.size o o_page o_readRows o_rows o_turns o_amounts o_drank o_takes o_leans o_would o_keptAmounts o_keptDrank o_keptTurns vo_pageMany vo_readMany vo_state vo_readMost vo_glasses vo_towersRead vo_poured vo_spilt vo_done vo_seedNow vo_keptTower vo_keptPoured vo_keptSpilt vo_hash vo_rows vo_amounts vo_takes vo_leans vo_would p1 r3 u4 u5 u6 ev_15 hg0 hg9 hrw hln) (cwV 1 hts gX6_chips_X6_chipsOf rfl rfl rfl (by decide +kernel) ⟨Nat.le_of_ble_eq_true rfl, Nat.le_of_ble_eq_true rfl⟩) (zz_preV [5, 0, 1, 2, 3, 4] hK hP hD rfl rfl (va_recv hK hP (ci := 6) (q0 := 5) rfl rfl)) rfl rfl hl.1 rfl (lv_room (Nat.le_of_ble_eq_true rfl)) dX6_chips_24 ⟨Nat.zero_le _, Nat.zero_le _⟩) hP hD hS hA rfl rfl rfl (by decide) (fun ok_16 H locs hP hD hS => ?_)
      have hP : va_P (dC, dI) vwCl [(o, .inr (6, [.ref o_page, .int vo_pageMany, .int vo_readMany, .int vo_state, .int vo_readMost, .ref o_readRows, .int vo_glasses, .int vo_towersRead, .int vo_poured, .ref o_rows, .ref o_turns, .ref o_amounts, .ref o_drank, .long vo_spilt, .ref o_takes, .ref o_leans, .ref o_would, .int vo_done, .int vo_seedNow, .int vo_keptTower, .int vo_keptPoured, .long vo_keptSpilt, .ref o_keptAmounts, .ref o_keptDrank, .ref o_keptTurns, .long vo_hash])), (o_rows, .inl (cI, 54, .inl vo_rows)), (o_amounts, .inl (cJ, 9, .inr (.inl vo_amounts))), (o_takes, .inl (cJ, 9, .inr (.inl u4))), (o_leans, .inl (cI, 9, .inl u5)), (o_would, .inl (cJ, 9, .inr (.inl u6)))] H := hP
      have hD : va_D A [(o, .inr (6, [.ref o_page, .int vo_pageMany, .int vo_readMany, .int vo_state, .int vo_readMost, .ref o_readRows, .int vo_glasses, .int vo_towersRead, .int vo_poured, .ref o_rows, .ref o_turns, .ref o_amounts, .ref o_drank, .long vo_spilt, .ref o_takes, .ref o_leans, .ref o_would, .int vo_done, .int vo_seedNow, .int vo_keptTower, .int vo_keptPoured, .long vo_keptSpilt, .ref o_keptAmounts, .ref o_keptDrank, .ref o_keptTurns, .long vo_hash])), (o_rows, .inl (cI, 54, .inl vo_rows)), (o_amounts, .inl (cJ, 9, .inr (.inl vo_amounts))), (o_takes, .inl (cJ, 9, .inr (.inl u4))), (o_leans, .inl (cI, 9, .inl u5)), (o_would, .inl (cJ, 9, .inr (.inl u6)))] := hD
      refine lv_goto (tgt := 32) hx hb dX6_chips_27 (by decide) ?_
      have hP9 := hP
      have hD9 := hD
      have hS9 := hS
      have hT : (r3, u4, u5, u6) = (r, qo_takes, qo_leans, qo_would) := hT
      cases hT
      subst hQ
      exact zz_iret hx hb hr [0, 1, 2, 3, 4, 5] hK hP9 hD9 hS9 rfl rfl (by assumption) hlocks dX6_chips_32
  · replace hT := cutF c_6 hT
    have g_20 := zeqF (rfl : (r1).toInt = _) (by decide : ((0 : Int32)).toInt = 0) c_6
    refine lv_bipush (v := (-103 : Int32)) hx hb dX6_chips_7 (by decide) ?_
    have hP9 := hP
    have hD9 := hD
    have hS9 := hS
    have hT : ((-103 : Int32), vo_takes, vo_leans, vo_would) = (r, qo_takes, qo_leans, qo_would) := hT
    cases hT
    subst hQ
    exact zz_iret hx hb hr [5, 0, 1, 2, 3, 4] hK hP9 hD9 hS9 rfl rfl (by assumption) hlocks dX6_chips_9

def rs_X6_ones_2  (x3 : Int32) (x4 : Int32) : Int32 :=
 x4
def lp_X6_ones_2 (ct2 : Int32 → Int32 → (Int32)) (p1 : Int32) : Nat → Int32 → Int32 → (Int32)
  | 0, _, _ => default
  | k + 1, b1, b2 =>
  if (9 : Int32) ≤ b1 then
   (ct2 b1 b2)
  else
   cut (b2 + ((p1 >>> (b1 &&& 31)) &&& (1 : Int32))) (fun (v5 : Int32) =>
   cut (b1 + (1 : Int32)) (fun (v6 : Int32) =>
   (lp_X6_ones_2 ct2 p1 k v6 v5)))
def m_X6_ones (p1 : Int32) : Int32 :=
 (lp_X6_ones_2 rs_X6_ones_2 p1 11 (0 : Int32) (0 : Int32))
set_option maxHeartbeats 4000000 in
set_option maxRecDepth 100000 in
theorem k_X6_ones (l : Launch) (dC : Nat → ClassId) (dI : Nat → Nat → Nat) (cI cJ cC : ClassId) (sz : Nat) (p1 : Int32) (r : Int32) (hT : m_X6_ones p1 = r) : Met l yX6_ones wsX6_ones ({ frames := 0, cells := 0, slots := 0, locals := 0 }) (zPc [.int p1] (dC, dI) (zTy cI cJ cC) [] sz) (zQi r (True) (dC, dI) (zTy cI cJ cC) [] (va_A [] sz)) 0 0 (va_A [] sz) := by
  refine Met.ofW (cc := cX6_ones) (maxL := 3) (ret := (some .int)) (by decide) rfl ?_
  intro p e s m args below meth c s₁ B hml hv
  obtain ⟨rfl, hsz, hP, hK, hD0⟩ := hv
  have hx := B.exec
  have hb := B.bytes
  have hr := B.returns
  have hts := atoms_spec (ws := wsX6_ones) B.pre
  have hown : s.vm.findClass RX6 = some m.cls := findClass_of_methodNamed B.named
  have hlocks := B.notSynchronized
  subst hsz
  have hD := hD0.self (sz := s.heap.size)
  generalize hAe : va_A [] s.heap.size = A at hD ⊢
  have hA : ∀ q : Nat, s.heap.size ≤ q → A q := fun q h => by rw [← hAe]; exact Or.inr h
  have hS : va_S A s.heap s.heap [] := va_S.rf
  have hP : va_P (dC, dI) vwCl [] s.heap := hP
  have hK : va_K (dC, dI) vwCl (zTy cI cJ cC) s := hK
  have hl := lv_entry ([.int p1]) (n := 3) (Nat.le_of_ble_eq_true rfl)
  rw [lg_entry_eq]
  generalize (lg_sl ([.int p1]) ++ List.replicate (3 - (lg_sl ([.int p1])).length) Slot.unset).toArray = ls at hl ⊢
  have hl : lv_has ls 3 [(0, .int p1)] := hl
  refine zz_start hP hS (fun Q hQ H locs hP hS => ?_)
  refine lv_iconst (v := (0 : Int32)) hx hb dX6_ones_0 (by decide) ?_
  refine lv_istore_n (lv' := [(1, .int (0 : Int32)), (0, .int p1)]) hx hb dX6_ones_1 rfl hl (by decide) rfl (fun ls hl => ?_)
  refine lv_iconst (v := (0 : Int32)) hx hb dX6_ones_2 (by decide) ?_
  refine lv_istore_n (lv' := [(2, .int (0 : Int32)), (1, .int (0 : Int32)), (0, .int p1)]) hx hb dX6_ones_3 rfl hl (by decide) rfl (fun ls hl => ?_)
  have hz_2 : ((0 : Int32)).toInt = 0 := by decide
  have hz_3 : ((0 : Int32)).toInt = 0 := by decide
  refine zz_loop (α := Int32 × Int32) 24 (fun k a H locs ls => (0 ≤ a.1.toInt) ∧ (a.1.toInt ≤ 9) ∧ (9 - a.1.toInt < ((k : Nat) : Int)) ∧ lp_X6_ones_2 rs_X6_ones_2 p1 k a.1 a.2 = r ∧ va_P (dC, dI) vwCl [] H ∧ va_D A [] ∧ va_S A s.heap H locs ∧ lv_has ls 3 [(2, .int a.1), (1, .int a.2), (0, .int p1)]) (fun a H locs ls => (0 ≤ a.1.toInt) ∧ (a.1.toInt ≤ 9) ∧ rs_X6_ones_2 a.1 a.2 = r ∧ va_P (dC, dI) vwCl [] H ∧ va_D A [] ∧ va_S A s.heap H locs ∧ lv_has ls 3 [(1, .int a.2)]) ?_ ?_ ?_ 11 ((0 : Int32), (0 : Int32)) ⟨(by omega : 0 ≤ (0 : Int32).toInt), (by omega : (0 : Int32).toInt ≤ 9), (by omega : 9 - (0 : Int32).toInt < ((11 : Nat) : Int)), hT, hP.sub [] rfl, hD.sub [] rfl rfl, hS, lv_sub hl [0, 1, 2] rfl⟩
  · rintro ⟨x3, x4⟩ H locs ls ⟨i1, j1, hT, hP, hD, hS, hl⟩
    have hP : va_P (dC, dI) vwCl [] H := hP
    have hD : va_D A [] := hD
    have hl : lv_has ls 3 [(1, .int x4)] := hl
    have hT : rs_X6_ones_2 x3 x4 = r := hT
    have i1 : 0 ≤ x3.toInt := i1
    have j1 : x3.toInt ≤ 9 := j1
    refine lv_iload_n hx hb dX6_ones_24 rfl (lv_at hl 0 rfl) ?_
    have hP9 := hP
    have hD9 := hD
    have hS9 := hS
    have hT : x4 = r := hT
    subst hT
    subst hQ
    exact zz_iret hx hb hr [] hK hP9 hD9 hS9 rfl rfl trivial hlocks dX6_ones_25
  · rintro ⟨b1, b2⟩ H locs ls ⟨i1, j1, hm, -⟩
    try dsimp only at *
    omega
  · intro k2 hex2 ih2
    rintro ⟨b1, b2⟩ H locs ls ⟨i1, j1, hm2, hT, hP, hD, hS, hl⟩
    have hP : va_P (dC, dI) vwCl [] H := hP
    have hD : va_D A [] := hD
    have hl : lv_has ls 3 [(2, .int b1), (1, .int b2), (0, .int p1)] := hl
    have hT : lp_X6_ones_2 rs_X6_ones_2 p1 (k2 + 1) b1 b2 = r := hT
    have i1 : 0 ≤ b1.toInt := i1
    have j1 : b1.toInt ≤ 9 := j1
    have hm2 : 9 - b1.toInt < (((k2 + 1) : Nat) : Int) := hm2
    try simp only [Int.natCast_add, Int.natCast_one, Nat.cast_add, Nat.cast_one] at hm2
    refine lv_iload_n hx hb dX6_ones_4 rfl (lv_at hl 0 rfl) ?_
    refine lv_bipush (v := (9 : Int32)) hx hb dX6_ones_5 (by decide) ?_
    refine lv_icmp_ge (tgt := 24) hx hb dX6_ones_7 (by decide) (fun c_1 => ?_) (fun c_1 => ?_)
    · replace hT := cutT c_1 hT
      have g_4 := zleT (by decide : ((9 : Int32)).toInt = 9) (rfl : (b1).toInt = _) c_1
      exact hex2 (b1, b2) _ _ _ ⟨(by omega : 0 ≤ b1.toInt), (by omega : b1.toInt ≤ 9), hT, hP.sub [] rfl, hD.sub [] rfl rfl, hS, lv_sub hl [1] rfl⟩
    · replace hT := cutF c_1 hT
      have g_5 := zleF (by decide : ((9 : Int32)).toInt = 9) (rfl : (b1).toInt = _) c_1
      refine lv_iload_n hx hb dX6_ones_10 rfl (lv_at hl 1 rfl) ?_
      refine lv_iload_n hx hb dX6_ones_11 rfl (lv_at hl 2 rfl) ?_
      refine lv_iload_n hx hb dX6_ones_12 rfl (lv_at hl 0 rfl) ?_
      refine lv_ishr hx hb dX6_ones_13 ?_
      refine lv_iconst (v := (1 : Int32)) hx hb dX6_ones_14 (by decide) ?_
      refine lv_iand hx hb dX6_ones_15 ?_
      refine lv_iadd hx hb dX6_ones_16 ?_
      refine lv_topi (fun v5 ev5 => ?_)
      replace hT := cut_n ev5.symm hT
      try have fv5 := zaddE (rfl : (b2).toInt = _) (rfl : (((p1 >>> (b1 &&& 31)) &&& (1 : Int32))).toInt = _) ev5.symm (by omega) (by omega)
      refine lv_istore_n (lv' := [(1, .int v5), (2, .int b1), (0, .int p1)]) hx hb dX6_ones_17 rfl hl (by decide) rfl (fun ls hl => ?_)
      obtain ⟨v6, ev6⟩ : ∃ y : Int32, (b1 + (1 : Int32)) = y := ⟨_, rfl⟩
      replace hT := cut_n ev6 hT
      try have fv6 := zaddE (rfl : (b1).toInt = _) (by decide : ((1 : Int32)).toInt = 1) ev6 (by omega) (by omega)
      refine lv_iinc (v := v6) (lv' := [(2, .int v6), (1, .int v5), (0, .int p1)]) hx hb dX6_ones_18 hl (k := 1) rfl (by rw [← ev6]; rfl) (by decide) rfl (fun ls hl => ?_)
      refine lv_goto (tgt := 4) hx hb dX6_ones_21 (by decide) ?_
      exact ih2 (v6, v5) _ _ _ ⟨(by omega : 0 ≤ v6.toInt), (by omega : v6.toInt ≤ 9), (by omega : 9 - v6.toInt < ((k2 : Nat) : Int)), hT, hP.sub [] rfl, hD.sub [] rfl rfl, hS, lv_sub hl [0, 1, 2] rfl⟩

def rs_X6_alikeOf_6 (b4 : Int32) (bk5 : Int32 → (Nat → Int64) → (Int32 × (Nat → Int64) × (Nat → Int32) × (Nat → Int64))) (u10 : Nat → Int64) (u1 : Nat → Int64) (u2 : Nat → Int32) (x15 : Int32) (x16 : Int32) (x17 : Int64) : Int32 × (Nat → Int64) × (Nat → Int32) × (Nat → Int64) :=
 if x16 = (0 : Int32) then
  cut (b4 + (1 : Int32)) (fun (v23 : Int32) =>
  (bk5 v23 u10))
 else
  (b4, u1, u2, u10)
def lp_X6_alikeOf_6 (ct6 : Int32 → Int32 → Int64 → (Int32 × (Nat → Int64) × (Nat → Int32) × (Nat → Int64))) (p1 : Int32) (u10 : Nat → Int64) : Nat → Int32 → Int32 → Int64 → (Int32 × (Nat → Int64) × (Nat → Int32) × (Nat → Int64))
  | 0, _, _, _ => default
  | k + 1, b12, b13, b14 =>
  if b12 < (0 : Int32) then
   (ct6 b12 b13 b14)
  else
   cut (
    if ((p1 >>> (b12 &&& 31)) &&& (1 : Int32)) = (1 : Int32) then
     (1 : Int32)
    else
     (0 : Int32)) (fun (j18 : Int32) =>
   cut (
    if b13 = (0 : Int32) then
     (0 : Int32)
    else
     if j18 = (0 : Int32) then
      (1 : Int32)
     else
      if (lg_cmp (u10 b12.toNatClampNeg) (0 : Int64)) ≤ (0 : Int32) then
       (0 : Int32)
      else
       if (lg_cmp b14 (0 : Int64)) = (0 : Int32) then
        (1 : Int32)
       else
        if (lg_cmp b14 (u10 b12.toNatClampNeg)) = (0 : Int32) then
         (1 : Int32)
        else
         (0 : Int32)) (fun (j19 : Int32) =>
   if j18 = (0 : Int32) then
    cut (b12 + (-1 : Int32)) (fun (v20 : Int32) =>
    (lp_X6_alikeOf_6 ct6 p1 u10 k v20 j19 b14))
   else
    cut (u10 b12.toNatClampNeg) (fun (v21 : Int64) =>
    cut (b12 + (-1 : Int32)) (fun (v22 : Int32) =>
    (lp_X6_alikeOf_6 ct6 p1 u10 k v22 j19 v21)))))
def rs_X6_alikeOf_5 (u1 : Nat → Int64) (u2 : Nat → Int32) (x6 : Int32) (x7 : Nat → Int64) : Int32 × (Nat → Int64) × (Nat → Int32) × (Nat → Int64) :=
 ((-1 : Int32), u1, u2, x7)
def lp_X6_alikeOf_5 (ct5 : Int32 → (Nat → Int64) → (Int32 × (Nat → Int64) × (Nat → Int32) × (Nat → Int64))) (vo_glasses : Int32) (vo_rows : Nat → Int32) (u1 : Nat → Int64) (u2 : Nat → Int32) (p1 : Int32) : Nat → Int32 → (Nat → Int64) → (Int32 × (Nat → Int64) × (Nat → Int32) × (Nat → Int64))
  | 0, _, _ => default
  | k + 1, b4, b5 =>
  if (1000 : Int32) ≤ b4 then
   (ct5 b4 b5)
  else
   cut (vp_updL b5 (0 : Int32).toNatClampNeg ((b5 (0 : Int32).toNatClampNeg) + (429981696 : Int64))) (fun (a8 : Nat → Int64) =>
   cut2 (m_X6_runOver_w vo_glasses vo_rows u1 u2 a8) (fun (r9 : Int64) (u10 : Nat → Int64) =>
   cut (vo_glasses - (1 : Int32)) (fun (v11 : Int32) =>
   (lp_X6_alikeOf_6 (rs_X6_alikeOf_6 b4 (fun c0 c1 => lp_X6_alikeOf_5 ct5 vo_glasses vo_rows u1 u2 p1 k c0 c1) u10 u1 u2) p1 u10 11 v11 (1 : Int32) (0 : Int64)))))
def m_X6_alikeOf (vo_glasses : Int32) (vo_rows : Nat → Int32) (vo_amounts : Nat → Int64) (vo_takes : Nat → Int64) (vo_leans : Nat → Int32) (vo_would : Nat → Int64) (p1 : Int32) : Int32 × (Nat → Int64) × (Nat → Int32) × (Nat → Int64) :=
 cut3 (m_X6_beginWould vo_glasses vo_rows vo_amounts vo_takes vo_leans vo_would (0 : Int32)) (fun (u1 : Nat → Int64) (u2 : Nat → Int32) (u3 : Nat → Int64) =>
 (lp_X6_alikeOf_5 (rs_X6_alikeOf_5 u1 u2) vo_glasses vo_rows u1 u2 p1 1001 (1 : Int32) u3))
set_option maxHeartbeats 4000000 in
set_option maxRecDepth 100000 in
theorem k_X6_alikeOf (l : Launch) (dC : Nat → ClassId) (dI : Nat → Nat → Nat) (cI cJ cC : ClassId) (sz : Nat) (o o_page o_readRows o_rows o_turns o_amounts o_drank o_takes o_leans o_would o_keptAmounts o_keptDrank o_keptTurns : Nat) (vo_pageMany : Int32) (vo_readMany : Int32) (vo_state : Int32) (vo_readMost : Int32) (vo_glasses : Int32) (vo_towersRead : Int32) (vo_poured : Int32) (vo_spilt : Int64) (vo_done : Int32) (vo_seedNow : Int32) (vo_keptTower : Int32) (vo_keptPoured : Int32) (vo_keptSpilt : Int64) (vo_hash : Int64) (vo_rows : Nat → Int32) (vo_amounts : Nat → Int64) (vo_takes : Nat → Int64) (vo_leans : Nat → Int32) (vo_would : Nat → Int64) (p1 : Int32) (r : Int32) (qo_takes : Nat → Int64) (qo_leans : Nat → Int32) (qo_would : Nat → Int64) (hT : m_X6_alikeOf vo_glasses vo_rows vo_amounts vo_takes vo_leans vo_would p1 = (r, qo_takes, qo_leans, qo_would)) (hg0 : 0 ≤ vo_glasses.toInt) (hg9 : vo_glasses.toInt ≤ 9) (hrw : zRw vo_rows) (hln : zLn vo_leans) : Met l yX6_alikeOf wsX6_alikeOf ({ frames := 3, cells := 0, slots := 0, locals := 66 }) (zPc [.ref o, .int p1] (dC, dI) (zTy cI cJ cC) [(o, .inr (6, [.ref o_page, .int vo_pageMany, .int vo_readMany, .int vo_state, .int vo_readMost, .ref o_readRows, .int vo_glasses, .int vo_towersRead, .int vo_poured, .ref o_rows, .ref o_turns, .ref o_amounts, .ref o_drank, .long vo_spilt, .ref o_takes, .ref o_leans, .ref o_would, .int vo_done, .int vo_seedNow, .int vo_keptTower, .int vo_keptPoured, .long vo_keptSpilt, .ref o_keptAmounts, .ref o_keptDrank, .ref o_keptTurns, .long vo_hash])), (o_rows, .inl (cI, 54, .inl vo_rows)), (o_amounts, .inl (cJ, 9, .inr (.inl vo_amounts))), (o_takes, .inl (cJ, 9, .inr (.inl vo_takes))), (o_leans, .inl (cI, 9, .inl vo_leans)), (o_would, .inl (cJ, 9, .inr (.inl vo_would)))] sz) (zQi r ((zLn qo_leans)) (dC, dI) (zTy cI cJ cC) [(o, .inr (6, [.ref o_page, .int vo_pageMany, .int vo_readMany, .int vo_state, .int vo_readMost, .ref o_readRows, .int vo_glasses, .int vo_towersRead, .int vo_poured, .ref o_rows, .ref o_turns, .ref o_amounts, .ref o_drank, .long vo_spilt, .ref o_takes, .ref o_leans, .ref o_would, .int vo_done, .int vo_seedNow, .int vo_keptTower, .int vo_keptPoured, .long vo_keptSpilt, .ref o_keptAmounts, .ref o_keptDrank, .ref o_keptTurns, .long vo_hash])), (o_rows, .inl (cI, 54, .inl vo_rows)), (o_amounts, .inl (cJ, 9, .inr (.inl vo_amounts))), (o_takes, .inl (cJ, 9, .inr (.inl qo_takes))), (o_leans, .inl (cI, 9, .inl qo_leans)), (o_would, .inl (cJ, 9, .inr (.inl qo_would)))] (va_A [(o, .inr (6, [.ref o_page, .int vo_pageMany, .int vo_readMany, .int vo_state, .int vo_readMost, .ref o_readRows, .int vo_glasses, .int vo_towersRead, .int vo_poured, .ref o_rows, .ref o_turns, .ref o_amounts, .ref o_drank, .long vo_spilt, .ref o_takes, .ref o_leans, .ref o_would, .int vo_done, .int vo_seedNow, .int vo_keptTower, .int vo_keptPoured, .long vo_keptSpilt, .ref o_keptAmounts, .ref o_keptDrank, .ref o_keptTurns, .long vo_hash])), (o_rows, .inl (cI, 54, .inl vo_rows)), (o_amounts, .inl (cJ, 9, .inr (.inl vo_amounts))), (o_takes, .inl (cJ, 9, .inr (.inl vo_takes))), (o_leans, .inl (cI, 9, .inl vo_leans)), (o_would, .inl (cJ, 9, .inr (.inl vo_would)))] sz)) 0 0 (va_A [(o, .inr (6, [.ref o_page, .int vo_pageMany, .int vo_readMany, .int vo_state, .int vo_readMost, .ref o_readRows, .int vo_glasses, .int vo_towersRead, .int vo_poured, .ref o_rows, .ref o_turns, .ref o_amounts, .ref o_drank, .long vo_spilt, .ref o_takes, .ref o_leans, .ref o_would, .int vo_done, .int vo_seedNow, .int vo_keptTower, .int vo_keptPoured, .long vo_keptSpilt, .ref o_keptAmounts, .ref o_keptDrank, .ref o_keptTurns, .long vo_hash])), (o_rows, .inl (cI, 54, .inl vo_rows)), (o_amounts, .inl (cJ, 9, .inr (.inl vo_amounts))), (o_takes, .inl (cJ, 9, .inr (.inl vo_takes))), (o_leans, .inl (cI, 9, .inl vo_leans)), (o_would, .inl (cJ, 9, .inr (.inl vo_would)))] sz) := by
  refine Met.ofW (cc := cX6_alikeOf) (maxL := 10) (ret := (some .int)) (by decide) rfl ?_
  intro p e s m args below meth c s₁ B hml hv
  obtain ⟨rfl, hsz, hP, hK, hD0⟩ := hv
  have hx := B.exec
  have hb := B.bytes
  have hr := B.returns
  have hts := atoms_spec (ws := wsX6_alikeOf) B.pre
  have hown : s.vm.findClass RX6 = some m.cls := findClass_of_methodNamed B.named
  have hlocks := B.notSynchronized
  subst hsz
  have hD := hD0.self (sz := s.heap.size)
  generalize hAe : va_A [(o, .inr (6, [.ref o_page, .int vo_pageMany, .int vo_readMany, .int vo_state, .int vo_readMost, .ref o_readRows, .int vo_glasses, .int vo_towersRead, .int vo_poured, .ref o_rows, .ref o_turns, .ref o_amounts, .ref o_drank, .long vo_spilt, .ref o_takes, .ref o_leans, .ref o_would, .int vo_done, .int vo_seedNow, .int vo_keptTower, .int vo_keptPoured, .long vo_keptSpilt, .ref o_keptAmounts, .ref o_keptDrank, .ref o_keptTurns, .long vo_hash])), (o_rows, .inl (cI, 54, .inl vo_rows)), (o_amounts, .inl (cJ, 9, .inr (.inl vo_amounts))), (o_takes, .inl (cJ, 9, .inr (.inl vo_takes))), (o_leans, .inl (cI, 9, .inl vo_leans)), (o_would, .inl (cJ, 9, .inr (.inl vo_would)))] s.heap.size = A at hD ⊢
  have hA : ∀ q : Nat, s.heap.size ≤ q → A q := fun q h => by rw [← hAe]; exact Or.inr h
  have hS : va_S A s.heap s.heap [] := va_S.rf
  have hP : va_P (dC, dI) vwCl [(o, .inr (6, [.ref o_page, .int vo_pageMany, .int vo_readMany, .int vo_state, .int vo_readMost, .ref o_readRows, .int vo_glasses, .int vo_towersRead, .int vo_poured, .ref o_rows, .ref o_turns, .ref o_amounts, .ref o_drank, .long vo_spilt, .ref o_takes, .ref o_leans, .ref o_would, .int vo_done, .int vo_seedNow, .int vo_keptTower, .int vo_keptPoured, .long vo_keptSpilt, .ref o_keptAmounts, .ref o_keptDrank, .ref o_keptTurns, .long vo_hash])), (o_rows, .inl (cI, 54, .inl vo_rows)), (o_amounts, .inl (cJ, 9, .inr (.inl vo_amounts))), (o_takes, .inl (cJ, 9, .inr (.inl vo_takes))), (o_leans, .inl (cI, 9, .inl vo_leans)), (o_would, .inl (cJ, 9, .inr (.inl vo_would)))] s.heap := hP
  have hK : va_K (dC, dI) vwCl (zTy cI cJ cC) s := hK
  have hl := lv_entry ([.ref o, .int p1]) (n := 10) (Nat.le_of_ble_eq_true rfl)
  rw [lg_entry_eq]
  generalize (lg_sl ([.ref o, .int p1]) ++ List.replicate (10 - (lg_sl ([.ref o, .int p1])).length) Slot.unset).toArray = ls at hl ⊢
  have hl : lv_has ls 10 [(0, .ref o), (1, .int p1)] := hl
  refine zz_start hP hS (fun Q hQ H locs hP hS => ?_)
  have hwX6 : ∀ w ∈ u_ws RX6 TX6 26, w ∈ wsX6_alikeOf := by decide +kernel
  have hc_113 := (hts (.constantLong RX6 113 (429981696)) (by decide +kernel))
  have hf_35 := (hts (.fieldLink RX6 35 "PouredTopmostModel" "would" "[J") (by decide +kernel))
  have hf_97 := (hts (.fieldLink RX6 97 "PouredTopmostModel" "glasses" "I") (by decide +kernel))
  refine lv_aload_n hx hb dX6_alikeOf_0 rfl (lv_at hl 0 rfl) ?_
  refine lv_iconst (v := (0 : Int32)) hx hb dX6_alikeOf_1 (by decide) ?_
  obtain ⟨u1, u2, u3, ev_1⟩ : ∃ x0 x1 x2, (m_X6_beginWould vo_glasses vo_rows vo_amounts vo_takes vo_leans vo_would (0 : Int32)) = (x0, x1, x2) := ⟨_, _, _, rfl⟩
  replace hT := cut3_n ev_1 hT
  refine zz_cv [0, 1, 2, 3, 4, 5] [] (wr := []) (w1 := [(o, .inr (6, [.ref o_page, .int vo_pageMany, .int vo_readMany, .int vo_state, .int vo_readMost, .ref o_readRows, .int vo_glasses, .int vo_towersRead, .int vo_poured, .ref o_rows, .ref o_turns, .ref o_amounts, .ref o_drank, .long vo_spilt, .ref o_takes, .ref o_leans, .ref o_would, .int vo_done, .int vo_seedNow, .int vo_keptTower, .int vo_keptPoured, .long vo_keptSpilt, .ref o_keptAmounts, .ref o_keptDrank, .ref o_keptTurns, .long vo_hash])), (o_rows, .inl (cI, 54, .inl vo_rows)), (o_amounts, .inl (cJ, 9, .inr (.inl vo_amounts))), (o_takes, .inl (cJ, 9, .inr (.inl u1))), (o_leans, .inl (cI, 9, .inl u2)), (o_would, .inl (cJ, 9, .inr (.inl u3)))]) (va_runV (As := [.int (0 : Int32)]) (rest := []) ⟨hx, hb, hml, hown, hts⟩ (k_X6_beginWould l dC dI cI cJ cC H.size o o_page o_readRows o_rows o_turns o_amounts o_drank o_takes o_leans o_would o_keptAmounts o_keptDrank o_keptTurns vo_pageMany vo_readMany vo_state vo_readMost vo_glasses vo_towersRead vo_poured vo_spilt vo_done vo_seedNow vo_keptTower vo_keptPoured vo_keptSpilt vo_hash vo_rows vo_amounts vo_takes vo_leans vo_would (0 : Int32) u1 u2 u3 ev_1 hg0 hg9 hln) (cwV 1 hts gX6_alikeOf_X6_beginWould rfl rfl rfl (by decide +kernel) ⟨Nat.le_of_ble_eq_true rfl, Nat.le_of_ble_eq_true rfl⟩) (zz_preV [0, 1, 2, 3, 4, 5] hK hP hD rfl rfl (va_recv hK hP (ci := 6) (q0 := 0) rfl rfl)) rfl rfl hl.1 rfl (lv_room (Nat.le_of_ble_eq_true rfl)) dX6_alikeOf_2 ⟨Nat.zero_le _, Nat.zero_le _⟩) hP hD hS hA rfl rfl rfl (by decide) (fun ok_2 H locs hP hD hS => ?_)
  have hP : va_P (dC, dI) vwCl [(o, .inr (6, [.ref o_page, .int vo_pageMany, .int vo_readMany, .int vo_state, .int vo_readMost, .ref o_readRows, .int vo_glasses, .int vo_towersRead, .int vo_poured, .ref o_rows, .ref o_turns, .ref o_amounts, .ref o_drank, .long vo_spilt, .ref o_takes, .ref o_leans, .ref o_would, .int vo_done, .int vo_seedNow, .int vo_keptTower, .int vo_keptPoured, .long vo_keptSpilt, .ref o_keptAmounts, .ref o_keptDrank, .ref o_keptTurns, .long vo_hash])), (o_rows, .inl (cI, 54, .inl vo_rows)), (o_amounts, .inl (cJ, 9, .inr (.inl vo_amounts))), (o_takes, .inl (cJ, 9, .inr (.inl u1))), (o_leans, .inl (cI, 9, .inl u2)), (o_would, .inl (cJ, 9, .inr (.inl u3)))] H := hP
  have hD : va_D A [(o, .inr (6, [.ref o_page, .int vo_pageMany, .int vo_readMany, .int vo_state, .int vo_readMost, .ref o_readRows, .int vo_glasses, .int vo_towersRead, .int vo_poured, .ref o_rows, .ref o_turns, .ref o_amounts, .ref o_drank, .long vo_spilt, .ref o_takes, .ref o_leans, .ref o_would, .int vo_done, .int vo_seedNow, .int vo_keptTower, .int vo_keptPoured, .long vo_keptSpilt, .ref o_keptAmounts, .ref o_keptDrank, .ref o_keptTurns, .long vo_hash])), (o_rows, .inl (cI, 54, .inl vo_rows)), (o_amounts, .inl (cJ, 9, .inr (.inl vo_amounts))), (o_takes, .inl (cJ, 9, .inr (.inl u1))), (o_leans, .inl (cI, 9, .inl u2)), (o_would, .inl (cJ, 9, .inr (.inl u3)))] := hD
  refine lv_iconst (v := (1 : Int32)) hx hb dX6_alikeOf_5 (by decide) ?_
  refine lv_istore_n (lv' := [(2, .int (1 : Int32)), (0, .ref o), (1, .int p1)]) hx hb dX6_alikeOf_6 rfl hl (by decide) rfl (fun ls hl => ?_)
  have hz_20 : ((1 : Int32)).toInt = 1 := by decide
  refine zz_loop (α := Int32 × (Nat → Int64)) 158 (fun k a H locs ls => (1 ≤ a.1.toInt) ∧ (a.1.toInt ≤ 1000) ∧ (1000 - a.1.toInt < ((k : Nat) : Int)) ∧ lp_X6_alikeOf_5 (rs_X6_alikeOf_5 u1 u2) vo_glasses vo_rows u1 u2 p1 k a.1 a.2 = (r, qo_takes, qo_leans, qo_would) ∧ va_P (dC, dI) vwCl [(o, .inr (6, [.ref o_page, .int vo_pageMany, .int vo_readMany, .int vo_state, .int vo_readMost, .ref o_readRows, .int vo_glasses, .int vo_towersRead, .int vo_poured, .ref o_rows, .ref o_turns, .ref o_amounts, .ref o_drank, .long vo_spilt, .ref o_takes, .ref o_leans, .ref o_would, .int vo_done, .int vo_seedNow, .int vo_keptTower, .int vo_keptPoured, .long vo_keptSpilt, .ref o_keptAmounts, .ref o_keptDrank, .ref o_keptTurns, .long vo_hash])), (o_rows, .inl (cI, 54, .inl vo_rows)), (o_amounts, .inl (cJ, 9, .inr (.inl vo_amounts))), (o_takes, .inl (cJ, 9, .inr (.inl u1))), (o_leans, .inl (cI, 9, .inl u2)), (o_would, .inl (cJ, 9, .inr (.inl a.2)))] H ∧ va_D A [(o, .inr (6, [.ref o_page, .int vo_pageMany, .int vo_readMany, .int vo_state, .int vo_readMost, .ref o_readRows, .int vo_glasses, .int vo_towersRead, .int vo_poured, .ref o_rows, .ref o_turns, .ref o_amounts, .ref o_drank, .long vo_spilt, .ref o_takes, .ref o_leans, .ref o_would, .int vo_done, .int vo_seedNow, .int vo_keptTower, .int vo_keptPoured, .long vo_keptSpilt, .ref o_keptAmounts, .ref o_keptDrank, .ref o_keptTurns, .long vo_hash])), (o_rows, .inl (cI, 54, .inl vo_rows)), (o_amounts, .inl (cJ, 9, .inr (.inl vo_amounts))), (o_takes, .inl (cJ, 9, .inr (.inl u1))), (o_leans, .inl (cI, 9, .inl u2)), (o_would, .inl (cJ, 9, .inr (.inl a.2)))] ∧ va_S A s.heap H locs ∧ lv_has ls 10 [(2, .int a.1), (0, .ref o), (1, .int p1)]) (fun a H locs ls => (1 ≤ a.1.toInt) ∧ (a.1.toInt ≤ 1000) ∧ (rs_X6_alikeOf_5 u1 u2) a.1 a.2 = (r, qo_takes, qo_leans, qo_would) ∧ va_P (dC, dI) vwCl [(o, .inr (6, [.ref o_page, .int vo_pageMany, .int vo_readMany, .int vo_state, .int vo_readMost, .ref o_readRows, .int vo_glasses, .int vo_towersRead, .int vo_poured, .ref o_rows, .ref o_turns, .ref o_amounts, .ref o_drank, .long vo_spilt, .ref o_takes, .ref o_leans, .ref o_would, .int vo_done, .int vo_seedNow, .int vo_keptTower, .int vo_keptPoured, .long vo_keptSpilt, .ref o_keptAmounts, .ref o_keptDrank, .ref o_keptTurns, .long vo_hash])), (o_rows, .inl (cI, 54, .inl vo_rows)), (o_amounts, .inl (cJ, 9, .inr (.inl vo_amounts))), (o_takes, .inl (cJ, 9, .inr (.inl u1))), (o_leans, .inl (cI, 9, .inl u2)), (o_would, .inl (cJ, 9, .inr (.inl a.2)))] H ∧ va_D A [(o, .inr (6, [.ref o_page, .int vo_pageMany, .int vo_readMany, .int vo_state, .int vo_readMost, .ref o_readRows, .int vo_glasses, .int vo_towersRead, .int vo_poured, .ref o_rows, .ref o_turns, .ref o_amounts, .ref o_drank, .long vo_spilt, .ref o_takes, .ref o_leans, .ref o_would, .int vo_done, .int vo_seedNow, .int vo_keptTower, .int vo_keptPoured, .long vo_keptSpilt, .ref o_keptAmounts, .ref o_keptDrank, .ref o_keptTurns, .long vo_hash])), (o_rows, .inl (cI, 54, .inl vo_rows)), (o_amounts, .inl (cJ, 9, .inr (.inl vo_amounts))), (o_takes, .inl (cJ, 9, .inr (.inl u1))), (o_leans, .inl (cI, 9, .inl u2)), (o_would, .inl (cJ, 9, .inr (.inl a.2)))] ∧ va_S A s.heap H locs ∧ lv_has ls 10 []) ?_ ?_ ?_ 1001 ((1 : Int32), u3) ⟨(by omega : 1 ≤ (1 : Int32).toInt), (by omega : (1 : Int32).toInt ≤ 1000), (by omega : 1000 - (1 : Int32).toInt < ((1001 : Nat) : Int)), hT, hP.sub [0, 1, 2, 3, 4, 5] rfl, hD.sub [0, 1, 2, 3, 4, 5] rfl rfl, hS, lv_sub hl [0, 1, 2] rfl⟩
  · rintro ⟨x6, x7⟩ H locs ls ⟨i1, j1, hT, hP, hD, hS, hl⟩
    have hP : va_P (dC, dI) vwCl [(o, .inr (6, [.ref o_page, .int vo_pageMany, .int vo_readMany, .int vo_state, .int vo_readMost, .ref o_readRows, .int vo_glasses, .int vo_towersRead, .int vo_poured, .ref o_rows, .ref o_turns, .ref o_amounts, .ref o_drank, .long vo_spilt, .ref o_takes, .ref o_leans, .ref o_would, .int vo_done, .int vo_seedNow, .int vo_keptTower, .int vo_keptPoured, .long vo_keptSpilt, .ref o_keptAmounts, .ref o_keptDrank, .ref o_keptTurns, .long vo_hash])), (o_rows, .inl (cI, 54, .inl vo_rows)), (o_amounts, .inl (cJ, 9, .inr (.inl vo_amounts))), (o_takes, .inl (cJ, 9, .inr (.inl u1))), (o_leans, .inl (cI, 9, .inl u2)), (o_would, .inl (cJ, 9, .inr (.inl x7)))] H := hP
    have hD : va_D A [(o, .inr (6, [.ref o_page, .int vo_pageMany, .int vo_readMany, .int vo_state, .int vo_readMost, .ref o_readRows, .int vo_glasses, .int vo_towersRead, .int vo_poured, .ref o_rows, .ref o_turns, .ref o_amounts, .ref o_drank, .long vo_spilt, .ref o_takes, .ref o_leans, .ref o_would, .int vo_done, .int vo_seedNow, .int vo_keptTower, .int vo_keptPoured, .long vo_keptSpilt, .ref o_keptAmounts, .ref o_keptDrank, .ref o_keptTurns, .long vo_hash])), (o_rows, .inl (cI, 54, .inl vo_rows)), (o_amounts, .inl (cJ, 9, .inr (.inl vo_amounts))), (o_takes, .inl (cJ, 9, .inr (.inl u1))), (o_leans, .inl (cI, 9, .inl u2)), (o_would, .inl (cJ, 9, .inr (.inl x7)))] := hD
    have hl : lv_has ls 10 [] := hl
    have hT : (rs_X6_alikeOf_5 u1 u2) x6 x7 = (r, qo_takes, qo_leans, qo_would) := hT
    have i1 : 1 ≤ x6.toInt := i1
    have j1 : x6.toInt ≤ 1000 := j1
    refine lv_iconst (v := (-1 : Int32)) hx hb dX6_alikeOf_158 (by decide) ?_
    have hP9 := hP
    have hD9 := hD
    have hS9 := hS
    have hT : ((-1 : Int32), u1, u2, x7) = (r, qo_takes, qo_leans, qo_would) := hT
    cases hT
    subst hQ
    exact zz_iret hx hb hr [0, 1, 2, 3, 4, 5] hK hP9 hD9 hS9 rfl rfl (by assumption) hlocks dX6_alikeOf_159
  · rintro ⟨b4, b5⟩ H locs ls ⟨i1, j1, hm, -⟩
    try dsimp only at *
    omega
  · intro k5 hex5 ih5
    rintro ⟨b4, b5⟩ H locs ls ⟨i1, j1, hm5, hT, hP, hD, hS, hl⟩
    have hP : va_P (dC, dI) vwCl [(o, .inr (6, [.ref o_page, .int vo_pageMany, .int vo_readMany, .int vo_state, .int vo_readMost, .ref o_readRows, .int vo_glasses, .int vo_towersRead, .int vo_poured, .ref o_rows, .ref o_turns, .ref o_amounts, .ref o_drank, .long vo_spilt, .ref o_takes, .ref o_leans, .ref o_would, .int vo_done, .int vo_seedNow, .int vo_keptTower, .int vo_keptPoured, .long vo_keptSpilt, .ref o_keptAmounts, .ref o_keptDrank, .ref o_keptTurns, .long vo_hash])), (o_rows, .inl (cI, 54, .inl vo_rows)), (o_amounts, .inl (cJ, 9, .inr (.inl vo_amounts))), (o_takes, .inl (cJ, 9, .inr (.inl u1))), (o_leans, .inl (cI, 9, .inl u2)), (o_would, .inl (cJ, 9, .inr (.inl b5)))] H := hP
    have hD : va_D A [(o, .inr (6, [.ref o_page, .int vo_pageMany, .int vo_readMany, .int vo_state, .int vo_readMost, .ref o_readRows, .int vo_glasses, .int vo_towersRead, .int vo_poured, .ref o_rows, .ref o_turns, .ref o_amounts, .ref o_drank, .long vo_spilt, .ref o_takes, .ref o_leans, .ref o_would, .int vo_done, .int vo_seedNow, .int vo_keptTower, .int vo_keptPoured, .long vo_keptSpilt, .ref o_keptAmounts, .ref o_keptDrank, .ref o_keptTurns, .long vo_hash])), (o_rows, .inl (cI, 54, .inl vo_rows)), (o_amounts, .inl (cJ, 9, .inr (.inl vo_amounts))), (o_takes, .inl (cJ, 9, .inr (.inl u1))), (o_leans, .inl (cI, 9, .inl u2)), (o_would, .inl (cJ, 9, .inr (.inl b5)))] := hD
    have hl : lv_has ls 10 [(2, .int b4), (0, .ref o), (1, .int p1)] := hl
    have hT : lp_X6_alikeOf_5 (rs_X6_alikeOf_5 u1 u2) vo_glasses vo_rows u1 u2 p1 (k5 + 1) b4 b5 = (r, qo_takes, qo_leans, qo_would) := hT
    have i1 : 1 ≤ b4.toInt := i1
    have j1 : b4.toInt ≤ 1000 := j1
    have hm5 : 1000 - b4.toInt < (((k5 + 1) : Nat) : Int) := hm5
    try simp only [Int.natCast_add, Int.natCast_one, Nat.cast_add, Nat.cast_one] at hm5
    refine lv_iload_n hx hb dX6_alikeOf_7 rfl (lv_at hl 0 rfl) ?_
    refine lv_sipush (v := (1000 : Int32)) hx hb dX6_alikeOf_8 (by decide) ?_
    refine lv_icmp_ge (tgt := 158) hx hb dX6_alikeOf_11 (by decide) (fun c_3 => ?_) (fun c_3 => ?_)
    · replace hT := cutT c_3 hT
      have g_21 := zleT (by decide : ((1000 : Int32)).toInt = 1000) (rfl : (b4).toInt = _) c_3
      exact hex5 (b4, b5) _ _ _ ⟨(by omega : 1 ≤ b4.toInt), (by omega : b4.toInt ≤ 1000), hT, hP.sub [0, 1, 2, 3, 4, 5] rfl, hD.sub [0, 1, 2, 3, 4, 5] rfl rfl, hS, lv_sub hl [] rfl⟩
    · replace hT := cutF c_3 hT
      have g_22 := zleF (by decide : ((1000 : Int32)).toInt = 1000) (rfl : (b4).toInt = _) c_3
      refine lv_aload_n hx hb dX6_alikeOf_14 rfl (lv_at hl 1 rfl) ?_
      refine va_get (D := (dC, dI)) (ci := 6) (v := .ref o_would) (C := RX6) (T := TX6) (N := 26) hx hb hts hwX6 hown hK hP 0 rfl rfl 16 (by decide) hf_35 (fun _ h9 => h9) rfl dX6_alikeOf_15 ?_
      refine lv_iconst (v := (0 : Int32)) hx hb dX6_alikeOf_18 (by decide) ?_
      refine lv_dup2_11 hx hb dX6_alikeOf_19 rfl rfl ?_
      have h_4 : vp_in (0 : Int32) 9 := zin (by decide) (by decide)
      refine va_lald hx hb hK hP 5 1 rfl rfl h_4 dX6_alikeOf_20 ?_
      refine lv_ldc2 (v := (429981696 : Int64)) hx hb hown hc_113 dX6_alikeOf_21 ?_
      refine lv_ladd hx hb dX6_alikeOf_24 ?_
      have h_5 : vp_in (0 : Int32) 9 := zin (by decide) (by decide)
      refine va_last hx hb hK hP hD hS 5 1 rfl rfl h_5 dX6_alikeOf_25 (fun H locs hP hD hS => ?_)
      obtain ⟨a8, ea8⟩ : ∃ z, (vp_updL b5 (0 : Int32).toNatClampNeg ((b5 (0 : Int32).toNatClampNeg) + (429981696 : Int64))) = z := ⟨_, rfl⟩
      replace hT := cut_n ea8 hT
      have hP : va_P (dC, dI) vwCl [(o, .inr (6, [.ref o_page, .int vo_pageMany, .int vo_readMany, .int vo_state, .int vo_readMost, .ref o_readRows, .int vo_glasses, .int vo_towersRead, .int vo_poured, .ref o_rows, .ref o_turns, .ref o_amounts, .ref o_drank, .long vo_spilt, .ref o_takes, .ref o_leans, .ref o_would, .int vo_done, .int vo_seedNow, .int vo_keptTower, .int vo_keptPoured, .long vo_keptSpilt, .ref o_keptAmounts, .ref o_keptDrank, .ref o_keptTurns, .long vo_hash])), (o_rows, .inl (cI, 54, .inl vo_rows)), (o_amounts, .inl (cJ, 9, .inr (.inl vo_amounts))), (o_takes, .inl (cJ, 9, .inr (.inl u1))), (o_leans, .inl (cI, 9, .inl u2)), (o_would, .inl (cJ, 9, .inr (.inl a8)))] H := by rw [← ea8]; exact hP
      have hD : va_D A [(o, .inr (6, [.ref o_page, .int vo_pageMany, .int vo_readMany, .int vo_state, .int vo_readMost, .ref o_readRows, .int vo_glasses, .int vo_towersRead, .int vo_poured, .ref o_rows, .ref o_turns, .ref o_amounts, .ref o_drank, .long vo_spilt, .ref o_takes, .ref o_leans, .ref o_would, .int vo_done, .int vo_seedNow, .int vo_keptTower, .int vo_keptPoured, .long vo_keptSpilt, .ref o_keptAmounts, .ref o_keptDrank, .ref o_keptTurns, .long vo_hash])), (o_rows, .inl (cI, 54, .inl vo_rows)), (o_amounts, .inl (cJ, 9, .inr (.inl vo_amounts))), (o_takes, .inl (cJ, 9, .inr (.inl u1))), (o_leans, .inl (cI, 9, .inl u2)), (o_would, .inl (cJ, 9, .inr (.inl a8)))] := by rw [← ea8]; exact hD
      refine lv_aload_n hx hb dX6_alikeOf_26 rfl (lv_at hl 1 rfl) ?_
      refine lv_aload_n hx hb dX6_alikeOf_27 rfl (lv_at hl 1 rfl) ?_
      refine va_get (D := (dC, dI)) (ci := 6) (v := .ref o_would) (C := RX6) (T := TX6) (N := 26) hx hb hts hwX6 hown hK hP 0 rfl rfl 16 (by decide) hf_35 (fun _ h9 => h9) rfl dX6_alikeOf_28 ?_
      obtain ⟨r9, u10, ev_6⟩ : ∃ x0 x1, (m_X6_runOver_w vo_glasses vo_rows u1 u2 a8) = (x0, x1) := ⟨_, _, rfl⟩
      replace hT := cut2_n ev_6 hT
      refine zz_cl [0, 1, 3, 4, 5] [2] (wr := [(o_amounts, .inl (cJ, 9, .inr (.inl vo_amounts)))]) (w1 := [(o, .inr (6, [.ref o_page, .int vo_pageMany, .int vo_readMany, .int vo_state, .int vo_readMost, .ref o_readRows, .int vo_glasses, .int vo_towersRead, .int vo_poured, .ref o_rows, .ref o_turns, .ref o_amounts, .ref o_drank, .long vo_spilt, .ref o_takes, .ref o_leans, .ref o_would, .int vo_done, .int vo_seedNow, .int vo_keptTower, .int vo_keptPoured, .long vo_keptSpilt, .ref o_keptAmounts, .ref o_keptDrank, .ref o_keptTurns, .long vo_hash])), (o_rows, .inl (cI, 54, .inl vo_rows)), (o_takes, .inl (cJ, 9, .inr (.inl u1))), (o_leans, .inl (cI, 9, .inl u2)), (o_would, .inl (cJ, 9, .inr (.inl u10)))]) (va_runV (As := [.ref o_would]) (rest := []) ⟨hx, hb, hml, hown, hts⟩ (k_X6_runOver_w l dC dI cI cJ cC H.size o o_page o_readRows o_rows o_turns o_amounts o_drank o_takes o_leans o_would o_keptAmounts o_keptDrank o_keptTurns vo_pageMany vo_readMany vo_state vo_readMost vo_glasses vo_towersRead vo_poured vo_spilt vo_done vo_seedNow vo_keptTower vo_keptPoured vo_keptSpilt vo_hash vo_rows u1 u2 a8 r9 u10 ev_6 hg0 hg9 hrw ok_2) (cwV 1 hts gX6_alikeOf_X6_runOver rfl rfl rfl (by decide +kernel) ⟨Nat.le_of_ble_eq_true rfl, Nat.le_of_ble_eq_true rfl⟩) (zz_preV [0, 1, 3, 4, 5] hK hP hD rfl rfl (va_recv hK hP (ci := 6) (q0 := 0) rfl rfl)) rfl rfl hl.1 rfl (lv_room (Nat.le_of_ble_eq_true rfl)) dX6_alikeOf_31 ⟨Nat.zero_le _, Nat.zero_le _⟩) hP hD hS hA rfl rfl rfl (by decide) (fun ok_7 H locs hP hD hS => ?_)
      have hP : va_P (dC, dI) vwCl [(o_amounts, .inl (cJ, 9, .inr (.inl vo_amounts))), (o, .inr (6, [.ref o_page, .int vo_pageMany, .int vo_readMany, .int vo_state, .int vo_readMost, .ref o_readRows, .int vo_glasses, .int vo_towersRead, .int vo_poured, .ref o_rows, .ref o_turns, .ref o_amounts, .ref o_drank, .long vo_spilt, .ref o_takes, .ref o_leans, .ref o_would, .int vo_done, .int vo_seedNow, .int vo_keptTower, .int vo_keptPoured, .long vo_keptSpilt, .ref o_keptAmounts, .ref o_keptDrank, .ref o_keptTurns, .long vo_hash])), (o_rows, .inl (cI, 54, .inl vo_rows)), (o_takes, .inl (cJ, 9, .inr (.inl u1))), (o_leans, .inl (cI, 9, .inl u2)), (o_would, .inl (cJ, 9, .inr (.inl u10)))] H := hP
      have hD : va_D A [(o_amounts, .inl (cJ, 9, .inr (.inl vo_amounts))), (o, .inr (6, [.ref o_page, .int vo_pageMany, .int vo_readMany, .int vo_state, .int vo_readMost, .ref o_readRows, .int vo_glasses, .int vo_towersRead, .int vo_poured, .ref o_rows, .ref o_turns, .ref o_amounts, .ref o_drank, .long vo_spilt, .ref o_takes, .ref o_leans, .ref o_would, .int vo_done, .int vo_seedNow, .int vo_keptTower, .int vo_keptPoured, .long vo_keptSpilt, .ref o_keptAmounts, .ref o_keptDrank, .ref o_keptTurns, .long vo_hash])), (o_rows, .inl (cI, 54, .inl vo_rows)), (o_takes, .inl (cJ, 9, .inr (.inl u1))), (o_leans, .inl (cI, 9, .inl u2)), (o_would, .inl (cJ, 9, .inr (.inl u10)))] := hD
      refine lv_lstore_n (lv' := [(3, .long r9), (2, .int b4), (0, .ref o), (1, .int p1)]) hx hb dX6_alikeOf_34 rfl hl (by decide) rfl (fun ls hl => ?_)
      refine lv_lconst (v := (0 : Int64)) hx hb dX6_alikeOf_35 (by decide) ?_
      refine lv_lstore (lv' := [(5, .long (0 : Int64)), (3, .long r9), (2, .int b4), (0, .ref o), (1, .int p1)]) hx hb dX6_alikeOf_36 hl (by decide) rfl (fun ls hl => ?_)
      refine lv_iconst (v := (1 : Int32)) hx hb dX6_alikeOf_38 (by decide) ?_
      refine lv_istore (lv' := [(7, .int (1 : Int32)), (5, .long (0 : Int64)), (3, .long r9), (2, .int b4), (0, .ref o), (1, .int p1)]) hx hb dX6_alikeOf_39 hl (by decide) rfl (fun ls hl => ?_)
      refine lv_aload_n hx hb dX6_alikeOf_41 rfl (lv_at hl 4 rfl) ?_
      refine va_get (D := (dC, dI)) (ci := 6) (v := .int vo_glasses) (C := RX6) (T := TX6) (N := 26) hx hb hts hwX6 hown hK hP 1 rfl rfl 6 (by decide) hf_97 (fun _ h9 => h9) rfl dX6_alikeOf_42 ?_
      refine lv_iconst (v := (1 : Int32)) hx hb dX6_alikeOf_45 (by decide) ?_
      refine lv_isub hx hb dX6_alikeOf_46 ?_
      refine lv_topi (fun v11 ev11 => ?_)
      replace hT := cut_n ev11.symm hT
      try have fv11 := zsubE (rfl : (vo_glasses).toInt = _) (by decide : ((1 : Int32)).toInt = 1) ev11.symm (by omega) (by omega)
      refine lv_istore (lv' := [(8, .int v11), (7, .int (1 : Int32)), (5, .long (0 : Int64)), (3, .long r9), (2, .int b4), (0, .ref o), (1, .int p1)]) hx hb dX6_alikeOf_47 hl (by decide) rfl (fun ls hl => ?_)
      have hz_23 : ((1 : Int32)).toInt = 1 := by decide
      refine zz_loop (α := Int32 × Int32 × Int64) 145 (fun k a H locs ls => (-1 ≤ a.1.toInt) ∧ (a.1.toInt < vo_glasses.toInt) ∧ (a.1.toInt + 1 < ((k : Nat) : Int)) ∧ lp_X6_alikeOf_6 (rs_X6_alikeOf_6 b4 (fun c0 c1 => lp_X6_alikeOf_5 (rs_X6_alikeOf_5 u1 u2) vo_glasses vo_rows u1 u2 p1 k5 c0 c1) u10 u1 u2) p1 u10 k a.1 a.2.1 a.2.2 = (r, qo_takes, qo_leans, qo_would) ∧ va_P (dC, dI) vwCl [(o_amounts, .inl (cJ, 9, .inr (.inl vo_amounts))), (o, .inr (6, [.ref o_page, .int vo_pageMany, .int vo_readMany, .int vo_state, .int vo_readMost, .ref o_readRows, .int vo_glasses, .int vo_towersRead, .int vo_poured, .ref o_rows, .ref o_turns, .ref o_amounts, .ref o_drank, .long vo_spilt, .ref o_takes, .ref o_leans, .ref o_would, .int vo_done, .int vo_seedNow, .int vo_keptTower, .int vo_keptPoured, .long vo_keptSpilt, .ref o_keptAmounts, .ref o_keptDrank, .ref o_keptTurns, .long vo_hash])), (o_rows, .inl (cI, 54, .inl vo_rows)), (o_takes, .inl (cJ, 9, .inr (.inl u1))), (o_leans, .inl (cI, 9, .inl u2)), (o_would, .inl (cJ, 9, .inr (.inl u10)))] H ∧ va_D A [(o_amounts, .inl (cJ, 9, .inr (.inl vo_amounts))), (o, .inr (6, [.ref o_page, .int vo_pageMany, .int vo_readMany, .int vo_state, .int vo_readMost, .ref o_readRows, .int vo_glasses, .int vo_towersRead, .int vo_poured, .ref o_rows, .ref o_turns, .ref o_amounts, .ref o_drank, .long vo_spilt, .ref o_takes, .ref o_leans, .ref o_would, .int vo_done, .int vo_seedNow, .int vo_keptTower, .int vo_keptPoured, .long vo_keptSpilt, .ref o_keptAmounts, .ref o_keptDrank, .ref o_keptTurns, .long vo_hash])), (o_rows, .inl (cI, 54, .inl vo_rows)), (o_takes, .inl (cJ, 9, .inr (.inl u1))), (o_leans, .inl (cI, 9, .inl u2)), (o_would, .inl (cJ, 9, .inr (.inl u10)))] ∧ va_S A s.heap H locs ∧ lv_has ls 10 [(8, .int a.1), (7, .int a.2.1), (5, .long a.2.2), (2, .int b4), (0, .ref o), (1, .int p1)]) (fun a H locs ls => (-1 ≤ a.1.toInt) ∧ (a.1.toInt < vo_glasses.toInt) ∧ (rs_X6_alikeOf_6 b4 (fun c0 c1 => lp_X6_alikeOf_5 (rs_X6_alikeOf_5 u1 u2) vo_glasses vo_rows u1 u2 p1 k5 c0 c1) u10 u1 u2) a.1 a.2.1 a.2.2 = (r, qo_takes, qo_leans, qo_would) ∧ va_P (dC, dI) vwCl [(o_amounts, .inl (cJ, 9, .inr (.inl vo_amounts))), (o, .inr (6, [.ref o_page, .int vo_pageMany, .int vo_readMany, .int vo_state, .int vo_readMost, .ref o_readRows, .int vo_glasses, .int vo_towersRead, .int vo_poured, .ref o_rows, .ref o_turns, .ref o_amounts, .ref o_drank, .long vo_spilt, .ref o_takes, .ref o_leans, .ref o_would, .int vo_done, .int vo_seedNow, .int vo_keptTower, .int vo_keptPoured, .long vo_keptSpilt, .ref o_keptAmounts, .ref o_keptDrank, .ref o_keptTurns, .long vo_hash])), (o_rows, .inl (cI, 54, .inl vo_rows)), (o_takes, .inl (cJ, 9, .inr (.inl u1))), (o_leans, .inl (cI, 9, .inl u2)), (o_would, .inl (cJ, 9, .inr (.inl u10)))] H ∧ va_D A [(o_amounts, .inl (cJ, 9, .inr (.inl vo_amounts))), (o, .inr (6, [.ref o_page, .int vo_pageMany, .int vo_readMany, .int vo_state, .int vo_readMost, .ref o_readRows, .int vo_glasses, .int vo_towersRead, .int vo_poured, .ref o_rows, .ref o_turns, .ref o_amounts, .ref o_drank, .long vo_spilt, .ref o_takes, .ref o_leans, .ref o_would, .int vo_done, .int vo_seedNow, .int vo_keptTower, .int vo_keptPoured, .long vo_keptSpilt, .ref o_keptAmounts, .ref o_keptDrank, .ref o_keptTurns, .long vo_hash])), (o_rows, .inl (cI, 54, .inl vo_rows)), (o_takes, .inl (cJ, 9, .inr (.inl u1))), (o_leans, .inl (cI, 9, .inl u2)), (o_would, .inl (cJ, 9, .inr (.inl u10)))] ∧ va_S A s.heap H locs ∧ lv_has ls 10 [(7, .int a.2.1), (2, .int b4), (0, .ref o), (1, .int p1)]) ?_ ?_ ?_ 11 (v11, (1 : Int32), (0 : Int64)) ⟨(by omega : -1 ≤ v11.toInt), (by omega : v11.toInt < vo_glasses.toInt), (by omega : v11.toInt + 1 < ((11 : Nat) : Int)), hT, hP.sub [0, 1, 2, 3, 4, 5] rfl, hD.sub [0, 1, 2, 3, 4, 5] rfl rfl, hS, lv_sub hl [0, 1, 2, 4, 5, 6] rfl⟩
      · rintro ⟨x15, x16, x17⟩ H locs ls ⟨i2, j2, hT, hP, hD, hS, hl⟩
        have hP : va_P (dC, dI) vwCl [(o_amounts, .inl (cJ, 9, .inr (.inl vo_amounts))), (o, .inr (6, [.ref o_page, .int vo_pageMany, .int vo_readMany, .int vo_state, .int vo_readMost, .ref o_readRows, .int vo_glasses, .int vo_towersRead, .int vo_poured, .ref o_rows, .ref o_turns, .ref o_amounts, .ref o_drank, .long vo_spilt, .ref o_takes, .ref o_leans, .ref o_would, .int vo_done, .int vo_seedNow, .int vo_keptTower, .int vo_keptPoured, .long vo_keptSpilt, .ref o_keptAmounts, .ref o_keptDrank, .ref o_keptTurns, .long vo_hash])), (o_rows, .inl (cI, 54, .inl vo_rows)), (o_takes, .inl (cJ, 9, .inr (.inl u1))), (o_leans, .inl (cI, 9, .inl u2)), (o_would, .inl (cJ, 9, .inr (.inl u10)))] H := hP
        have hD : va_D A [(o_amounts, .inl (cJ, 9, .inr (.inl vo_amounts))), (o, .inr (6, [.ref o_page, .int vo_pageMany, .int vo_readMany, .int vo_state, .int vo_readMost, .ref o_readRows, .int vo_glasses, .int vo_towersRead, .int vo_poured, .ref o_rows, .ref o_turns, .ref o_amounts, .ref o_drank, .long vo_spilt, .ref o_takes, .ref o_leans, .ref o_would, .int vo_done, .int vo_seedNow, .int vo_keptTower, .int vo_keptPoured, .long vo_keptSpilt, .ref o_keptAmounts, .ref o_keptDrank, .ref o_keptTurns, .long vo_hash])), (o_rows, .inl (cI, 54, .inl vo_rows)), (o_takes, .inl (cJ, 9, .inr (.inl u1))), (o_leans, .inl (cI, 9, .inl u2)), (o_would, .inl (cJ, 9, .inr (.inl u10)))] := hD
        have hl : lv_has ls 10 [(7, .int x16), (2, .int b4), (0, .ref o), (1, .int p1)] := hl
        have hT : (rs_X6_alikeOf_6 b4 (fun c0 c1 => lp_X6_alikeOf_5 (rs_X6_alikeOf_5 u1 u2) vo_glasses vo_rows u1 u2 p1 k5 c0 c1) u10 u1 u2) x15 x16 x17 = (r, qo_takes, qo_leans, qo_would) := hT
        have i2 : -1 ≤ x15.toInt := i2
        have j2 : x15.toInt < vo_glasses.toInt := j2
        refine lv_iload hx hb dX6_alikeOf_145 (lv_at hl 0 rfl) ?_
        refine lv_if_eq (tgt := 152) hx hb dX6_alikeOf_147 (by decide) (fun c_19 => ?_) (fun c_19 => ?_)
        · replace hT := cutT c_19 hT
          have g_24 := zeqT (rfl : (x16).toInt = _) (by decide : ((0 : Int32)).toInt = 0) c_19
          obtain ⟨v23, ev23⟩ : ∃ y : Int32, (b4 + (1 : Int32)) = y := ⟨_, rfl⟩
          replace hT := cut_n ev23 hT
          try have fv23 := zaddE (rfl : (b4).toInt = _) (by decide : ((1 : Int32)).toInt = 1) ev23 (by omega) (by omega)
          refine lv_iinc (v := v23) (lv' := [(2, .int v23), (7, .int x16), (0, .ref o), (1, .int p1)]) hx hb dX6_alikeOf_152 hl (k := 1) rfl (by rw [← ev23]; rfl) (by decide) rfl (fun ls hl => ?_)
          refine lv_goto (tgt := 7) hx hb dX6_alikeOf_155 (by decide) ?_
          exact ih5 (v23, u10) _ _ _ ⟨(by omega : 1 ≤ v23.toInt), (by omega : v23.toInt ≤ 1000), (by omega : 1000 - v23.toInt < ((k5 : Nat) : Int)), hT, hP.sub [1, 2, 0, 3, 4, 5] rfl, hD.sub [1, 2, 0, 3, 4, 5] rfl rfl, hS, lv_sub hl [0, 2, 3] rfl⟩
        · replace hT := cutF c_19 hT
          have g_25 := zeqF (rfl : (x16).toInt = _) (by decide : ((0 : Int32)).toInt = 0) c_19
          refine lv_iload_n hx hb dX6_alikeOf_150 rfl (lv_at hl 1 rfl) ?_
          have hP9 := hP
          have hD9 := hD
          have hS9 := hS
          have hT : (b4, u1, u2, u10) = (r, qo_takes, qo_leans, qo_would) := hT
          cases hT
          subst hQ
          exact zz_iret hx hb hr [1, 2, 0, 3, 4, 5] hK hP9 hD9 hS9 rfl rfl (by assumption) hlocks dX6_alikeOf_151
      · rintro ⟨b12, b13, b14⟩ H locs ls ⟨i2, j2, hm, -⟩
        try dsimp only at *
        omega
      · intro k6 hex6 ih6
        rintro ⟨b12, b13, b14⟩ H locs ls ⟨i2, j2, hm6, hT, hP, hD, hS, hl⟩
        have hP : va_P (dC, dI) vwCl [(o_amounts, .inl (cJ, 9, .inr (.inl vo_amounts))), (o, .inr (6, [.ref o_page, .int vo_pageMany, .int vo_readMany, .int vo_state, .int vo_readMost, .ref o_readRows, .int vo_glasses, .int vo_towersRead, .int vo_poured, .ref o_rows, .ref o_turns, .ref o_amounts, .ref o_drank, .long vo_spilt, .ref o_takes, .ref o_leans, .ref o_would, .int vo_done, .int vo_seedNow, .int vo_keptTower, .int vo_keptPoured, .long vo_keptSpilt, .ref o_keptAmounts, .ref o_keptDrank, .ref o_keptTurns, .long vo_hash])), (o_rows, .inl (cI, 54, .inl vo_rows)), (o_takes, .inl (cJ, 9, .inr (.inl u1))), (o_leans, .inl (cI, 9, .inl u2)), (o_would, .inl (cJ, 9, .inr (.inl u10)))] H := hP
        have hD : va_D A [(o_amounts, .inl (cJ, 9, .inr (.inl vo_amounts))), (o, .inr (6, [.ref o_page, .int vo_pageMany, .int vo_readMany, .int vo_state, .int vo_readMost, .ref o_readRows, .int vo_glasses, .int vo_towersRead, .int vo_poured, .ref o_rows, .ref o_turns, .ref o_amounts, .ref o_drank, .long vo_spilt, .ref o_takes, .ref o_leans, .ref o_would, .int vo_done, .int vo_seedNow, .int vo_keptTower, .int vo_keptPoured, .long vo_keptSpilt, .ref o_keptAmounts, .ref o_keptDrank, .ref o_keptTurns, .long vo_hash])), (o_rows, .inl (cI, 54, .inl vo_rows)), (o_takes, .inl (cJ, 9, .inr (.inl u1))), (o_leans, .inl (cI, 9, .inl u2)), (o_would, .inl (cJ, 9, .inr (.inl u10)))] := hD
        have hl : lv_has ls 10 [(8, .int b12), (7, .int b13), (5, .long b14), (2, .int b4), (0, .ref o), (1, .int p1)] := hl
        have hT : lp_X6_alikeOf_6 (rs_X6_alikeOf_6 b4 (fun c0 c1 => lp_X6_alikeOf_5 (rs_X6_alikeOf_5 u1 u2) vo_glasses vo_rows u1 u2 p1 k5 c0 c1) u10 u1 u2) p1 u10 (k6 + 1) b12 b13 b14 = (r, qo_takes, qo_leans, qo_would) := hT
        have i2 : -1 ≤ b12.toInt := i2
        have j2 : b12.toInt < vo_glasses.toInt := j2
        have hm6 : b12.toInt + 1 < (((k6 + 1) : Nat) : Int) := hm6
        try simp only [Int.natCast_add, Int.natCast_one, Nat.cast_add, Nat.cast_one] at hm6
        refine lv_iload hx hb dX6_alikeOf_49 (lv_at hl 0 rfl) ?_
        refine lv_if_lt (tgt := 145) hx hb dX6_alikeOf_51 (by decide) (fun c_8 => ?_) (fun c_8 => ?_)
        · replace hT := cutT c_8 hT
          have g_26 := zltT (rfl : (b12).toInt = _) (by decide : ((0 : Int32)).toInt = 0) c_8
          exact hex6 (b12, b13, b14) _ _ _ ⟨(by omega : -1 ≤ b12.toInt), (by omega : b12.toInt < vo_glasses.toInt), hT, hP.sub [0, 1, 2, 3, 4, 5] rfl, hD.sub [0, 1, 2, 3, 4, 5] rfl rfl, hS, lv_sub hl [1, 3, 4, 5] rfl⟩
        · replace hT := cutF c_8 hT
          have g_27 := zltF (rfl : (b12).toInt = _) (by decide : ((0 : Int32)).toInt = 0) c_8
          refine lv_iload_n hx hb dX6_alikeOf_54 rfl (lv_at hl 5 rfl) ?_
          refine lv_iload hx hb dX6_alikeOf_55 (lv_at hl 0 rfl) ?_
          refine lv_ishr hx hb dX6_alikeOf_57 ?_
          refine lv_iconst (v := (1 : Int32)) hx hb dX6_alikeOf_58 (by decide) ?_
          refine lv_iand hx hb dX6_alikeOf_59 ?_
          refine lv_iconst (v := (1 : Int32)) hx hb dX6_alikeOf_60 (by decide) ?_
          refine zz_join1 hT 69 (fun v => [.int v]) (fun v H locs ls => va_P (dC, dI) vwCl [(o_amounts, .inl (cJ, 9, .inr (.inl vo_amounts))), (o, .inr (6, [.ref o_page, .int vo_pageMany, .int vo_readMany, .int vo_state, .int vo_readMost, .ref o_readRows, .int vo_glasses, .int vo_towersRead, .int vo_poured, .ref o_rows, .ref o_turns, .ref o_amounts, .ref o_drank, .long vo_spilt, .ref o_takes, .ref o_leans, .ref o_would, .int vo_done, .int vo_seedNow, .int vo_keptTower, .int vo_keptPoured, .long vo_keptSpilt, .ref o_keptAmounts, .ref o_keptDrank, .ref o_keptTurns, .long vo_hash])), (o_rows, .inl (cI, 54, .inl vo_rows)), (o_takes, .inl (cJ, 9, .inr (.inl u1))), (o_leans, .inl (cI, 9, .inl u2)), (o_would, .inl (cJ, 9, .inr (.inl u10)))] H ∧ va_D A [(o_amounts, .inl (cJ, 9, .inr (.inl vo_amounts))), (o, .inr (6, [.ref o_page, .int vo_pageMany, .int vo_readMany, .int vo_state, .int vo_readMost, .ref o_readRows, .int vo_glasses, .int vo_towersRead, .int vo_poured, .ref o_rows, .ref o_turns, .ref o_amounts, .ref o_drank, .long vo_spilt, .ref o_takes, .ref o_leans, .ref o_would, .int vo_done, .int vo_seedNow, .int vo_keptTower, .int vo_keptPoured, .long vo_keptSpilt, .ref o_keptAmounts, .ref o_keptDrank, .ref o_keptTurns, .long vo_hash])), (o_rows, .inl (cI, 54, .inl vo_rows)), (o_takes, .inl (cJ, 9, .inr (.inl u1))), (o_leans, .inl (cI, 9, .inl u2)), (o_would, .inl (cJ, 9, .inr (.inl u10)))] ∧ va_S A s.heap H locs ∧ lv_has ls 10 [(0, .ref o), (1, .int p1), (2, .int b4), (5, .long b14), (7, .int b13), (8, .int b12)]) ?_ ?_
          · rintro j18 ej_28 H locs ls ⟨hP, hD, hS, hl⟩
            replace hT := cut_n ej_28 hT
            have hP : va_P (dC, dI) vwCl [(o_amounts, .inl (cJ, 9, .inr (.inl vo_amounts))), (o, .inr (6, [.ref o_page, .int vo_pageMany, .int vo_readMany, .int vo_state, .int vo_readMost, .ref o_readRows, .int vo_glasses, .int vo_towersRead, .int vo_poured, .ref o_rows, .ref o_turns, .ref o_amounts, .ref o_drank, .long vo_spilt, .ref o_takes, .ref o_leans, .ref o_would, .int vo_done, .int vo_seedNow, .int vo_keptTower, .int vo_keptPoured, .long vo_keptSpilt, .ref o_keptAmounts, .ref o_keptDrank, .ref o_keptTurns, .long vo_hash])), (o_rows, .inl (cI, 54, .inl vo_rows)), (o_takes, .inl (cJ, 9, .inr (.inl u1))), (o_leans, .inl (cI, 9, .inl u2)), (o_would, .inl (cJ, 9, .inr (.inl u10)))] H := hP
            have hD : va_D A [(o_amounts, .inl (cJ, 9, .inr (.inl vo_amounts))), (o, .inr (6, [.ref o_page, .int vo_pageMany, .int vo_readMany, .int vo_state, .int vo_readMost, .ref o_readRows, .int vo_glasses, .int vo_towersRead, .int vo_poured, .ref o_rows, .ref o_turns, .ref o_amounts, .ref o_drank, .long vo_spilt, .ref o_takes, .ref o_leans, .ref o_would, .int vo_done, .int vo_seedNow, .int vo_keptTower, .int vo_keptPoured, .long vo_keptSpilt, .ref o_keptAmounts, .ref o_keptDrank, .ref o_keptTurns, .long vo_hash])), (o_rows, .inl (cI, 54, .inl vo_rows)), (o_takes, .inl (cJ, 9, .inr (.inl u1))), (o_leans, .inl (cI, 9, .inl u2)), (o_would, .inl (cJ, 9, .inr (.inl u10)))] := hD
            have hl : lv_has ls 10 [(0, .ref o), (1, .int p1), (2, .int b4), (5, .long b14), (7, .int b13), (8, .int b12)] := hl
            refine lv_istore (lv' := [(9, .int j18), (0, .ref o), (1, .int p1), (2, .int b4), (5, .long b14), (7, .int b13), (8, .int b12)]) hx hb dX6_alikeOf_69 hl (by decide) rfl (fun ls hl => ?_)
            refine lv_iload hx hb dX6_alikeOf_71 (lv_at hl 5 rfl) ?_
            refine zz_join1 hT 118 (fun v => [.int v]) (fun v H locs ls => va_P (dC, dI) vwCl [(o_amounts, .inl (cJ, 9, .inr (.inl vo_amounts))), (o, .inr (6, [.ref o_page, .int vo_pageMany, .int vo_readMany, .int vo_state, .int vo_readMost, .ref o_readRows, .int vo_glasses, .int vo_towersRead, .int vo_poured, .ref o_rows, .ref o_turns, .ref o_amounts, .ref o_drank, .long vo_spilt, .ref o_takes, .ref o_leans, .ref o_would, .int vo_done, .int vo_seedNow, .int vo_keptTower, .int vo_keptPoured, .long vo_keptSpilt, .ref o_keptAmounts, .ref o_keptDrank, .ref o_keptTurns, .long vo_hash])), (o_rows, .inl (cI, 54, .inl vo_rows)), (o_takes, .inl (cJ, 9, .inr (.inl u1))), (o_leans, .inl (cI, 9, .inl u2)), (o_would, .inl (cJ, 9, .inr (.inl u10)))] H ∧ va_D A [(o_amounts, .inl (cJ, 9, .inr (.inl vo_amounts))), (o, .inr (6, [.ref o_page, .int vo_pageMany, .int vo_readMany, .int vo_state, .int vo_readMost, .ref o_readRows, .int vo_glasses, .int vo_towersRead, .int vo_poured, .ref o_rows, .ref o_turns, .ref o_amounts, .ref o_drank, .long vo_spilt, .ref o_takes, .ref o_leans, .ref o_would, .int vo_done, .int vo_seedNow, .int vo_keptTower, .int vo_keptPoured, .long vo_keptSpilt, .ref o_keptAmounts, .ref o_keptDrank, .ref o_keptTurns, .long vo_hash])), (o_rows, .inl (cI, 54, .inl vo_rows)), (o_takes, .inl (cJ, 9, .inr (.inl u1))), (o_leans, .inl (cI, 9, .inl u2)), (o_would, .inl (cJ, 9, .inr (.inl u10)))] ∧ va_S A s.heap H locs ∧ lv_has ls 10 [(0, .ref o), (1, .int p1), (2, .int b4), (5, .long b14), (8, .int b12), (9, .int j18)]) ?_ ?_
            · rintro j19 ej_29 H locs ls ⟨hP, hD, hS, hl⟩
              replace hT := cut_n ej_29 hT
              have hP : va_P (dC, dI) vwCl [(o_amounts, .inl (cJ, 9, .inr (.inl vo_amounts))), (o, .inr (6, [.ref o_page, .int vo_pageMany, .int vo_readMany, .int vo_state, .int vo_readMost, .ref o_readRows, .int vo_glasses, .int vo_towersRead, .int vo_poured, .ref o_rows, .ref o_turns, .ref o_amounts, .ref o_drank, .long vo_spilt, .ref o_takes, .ref o_leans, .ref o_would, .int vo_done, .int vo_seedNow, .int vo_keptTower, .int vo_keptPoured, .long vo_keptSpilt, .ref o_keptAmounts, .ref o_keptDrank, .ref o_keptTurns, .long vo_hash])), (o_rows, .inl (cI, 54, .inl vo_rows)), (o_takes, .inl (cJ, 9, .inr (.inl u1))), (o_leans, .inl (cI, 9, .inl u2)), (o_would, .inl (cJ, 9, .inr (.inl u10)))] H := hP
              have hD : va_D A [(o_amounts, .inl (cJ, 9, .inr (.inl vo_amounts))), (o, .inr (6, [.ref o_page, .int vo_pageMany, .int vo_readMany, .int vo_state, .int vo_readMost, .ref o_readRows, .int vo_glasses, .int vo_towersRead, .int vo_poured, .ref o_rows, .ref o_turns, .ref o_amounts, .ref o_drank, .long vo_spilt, .ref o_takes, .ref o_leans, .ref o_would, .int vo_done, .int vo_seedNow, .int vo_keptTower, .int vo_keptPoured, .long vo_keptSpilt, .ref o_keptAmounts, .ref o_keptDrank, .ref o_keptTurns, .long vo_hash])), (o_rows, .inl (cI, 54, .inl vo_rows)), (o_takes, .inl (cJ, 9, .inr (.inl u1))), (o_leans, .inl (cI, 9, .inl u2)), (o_would, .inl (cJ, 9, .inr (.inl u10)))] := hD
              have hl : lv_has ls 10 [(0, .ref o), (1, .int p1), (2, .int b4), (5, .long b14), (8, .int b12), (9, .int j18)] := hl
              refine lv_istore (lv' := [(7, .int j19), (0, .ref o), (1, .int p1), (2, .int b4), (5, .long b14), (8, .int b12), (9, .int j18)]) hx hb dX6_alikeOf_118 hl (by decide) rfl (fun ls hl => ?_)
              refine lv_iload hx hb dX6_alikeOf_120 (lv_at hl 6 rfl) ?_
              refine lv_if_eq (tgt := 135) hx hb dX6_alikeOf_122 (by decide) (fun c_17 => ?_) (fun c_17 => ?_)
              · replace hT := cutT c_17 hT
                have g_30 := zeqT (rfl : (j18).toInt = _) (by decide : ((0 : Int32)).toInt = 0) c_17
                refine lv_lload hx hb dX6_alikeOf_135 (lv_at hl 4 rfl) ?_
                refine lv_lstore (lv' := [(5, .long b14), (7, .int j19), (0, .ref o), (1, .int p1), (2, .int b4), (8, .int b12), (9, .int j18)]) hx hb dX6_alikeOf_137 hl (by decide) rfl (fun ls hl => ?_)
                obtain ⟨v20, ev20⟩ : ∃ y : Int32, (b12 + (-1 : Int32)) = y := ⟨_, rfl⟩
                replace hT := cut_n ev20 hT
                try have fv20 := zaddE (rfl : (b12).toInt = _) (by decide : ((-1 : Int32)).toInt = -1) ev20 (by omega) (by omega)
                refine lv_iinc (v := v20) (lv' := [(8, .int v20), (5, .long b14), (7, .int j19), (0, .ref o), (1, .int p1), (2, .int b4), (9, .int j18)]) hx hb dX6_alikeOf_139 hl (k := 5) rfl (by rw [← ev20]; rfl) (by decide) rfl (fun ls hl => ?_)
                refine lv_goto (tgt := 49) hx hb dX6_alikeOf_142 (by decide) ?_
                exact ih6 (v20, j19, b14) _ _ _ ⟨(by omega : -1 ≤ v20.toInt), (by omega : v20.toInt < vo_glasses.toInt), (by omega : v20.toInt + 1 < ((k6 : Nat) : Int)), hT, hP.sub [0, 1, 2, 3, 4, 5] rfl, hD.sub [0, 1, 2, 3, 4, 5] rfl rfl, hS, lv_sub hl [0, 2, 1, 5, 3, 4] rfl⟩
              · replace hT := cutF c_17 hT
                have g_31 := zeqF (rfl : (j18).toInt = _) (by decide : ((0 : Int32)).toInt = 0) c_17
                refine lv_aload_n hx hb dX6_alikeOf_125 rfl (lv_at hl 1 rfl) ?_
                refine va_get (D := (dC, dI)) (ci := 6) (v := .ref o_would) (C := RX6) (T := TX6) (N := 26) hx hb hts hwX6 hown hK hP 1 rfl rfl 16 (by decide) hf_35 (fun _ h9 => h9) rfl dX6_alikeOf_126 ?_
                refine lv_iload hx hb dX6_alikeOf_129 (lv_at hl 5 rfl) ?_
                have h_18 : vp_in b12 9 := zin (by omega) (by omega)
                refine va_lald hx hb hK hP 5 1 rfl rfl h_18 dX6_alikeOf_131 ?_
                refine lv_goto (tgt := 137) hx hb dX6_alikeOf_132 (by decide) ?_
                refine lv_topl (fun v21 ev21 => ?_)
                replace hT := cut_n ev21.symm hT
                refine lv_lstore (lv' := [(5, .long v21), (7, .int j19), (0, .ref o), (1, .int p1), (2, .int b4), (8, .int b12), (9, .int j18)]) hx hb dX6_alikeOf_137 hl (by decide) rfl (fun ls hl => ?_)
                obtain ⟨v22, ev22⟩ : ∃ y : Int32, (b12 + (-1 : Int32)) = y := ⟨_, rfl⟩
                replace hT := cut_n ev22 hT
                try have fv22 := zaddE (rfl : (b12).toInt = _) (by decide : ((-1 : Int32)).toInt = -1) ev22 (by omega) (by omega)
                refine lv_iinc (v := v22) (lv' := [(8, .int v22), (5, .long v21), (7, .int j19), (0, .ref o), (1, .int p1), (2, .int b4), (9, .int j18)]) hx hb dX6_alikeOf_139 hl (k := 5) rfl (by rw [← ev22]; rfl) (by decide) rfl (fun ls hl => ?_)
                refine lv_goto (tgt := 49) hx hb dX6_alikeOf_142 (by decide) ?_
                exact ih6 (v22, j19, v21) _ _ _ ⟨(by omega : -1 ≤ v22.toInt), (by omega : v22.toInt < vo_glasses.toInt), (by omega : v22.toInt + 1 < ((k6 : Nat) : Int)), hT, hP.sub [0, 1, 2, 3, 4, 5] rfl, hD.sub [0, 1, 2, 3, 4, 5] rfl rfl, hS, lv_sub hl [0, 2, 1, 5, 3, 4] rfl⟩
            · intro xv hT hM
              refine lv_if_eq (tgt := 117) hx hb dX6_alikeOf_73 (by decide) (fun c_10 => ?_) (fun c_10 => ?_)
              · replace hT := cutT c_10 hT
                have g_32 := zeqT (rfl : (b13).toInt = _) (by decide : ((0 : Int32)).toInt = 0) c_10
                refine lv_iconst (v := (0 : Int32)) hx hb dX6_alikeOf_117 (by decide) ?_
                have hP9 := hP
                have hD9 := hD
                have hS9 := hS
                have hl9 := hl
                have hM9 := hM
                have hT : (0 : Int32) = xv := hT
                subst hT
                exact hM9 _ _ _ ⟨hP9.sub [0, 1, 2, 3, 4, 5] rfl, hD9.sub [0, 1, 2, 3, 4, 5] rfl rfl, hS9, lv_sub hl9 [1, 2, 3, 4, 6, 0] rfl⟩
              · replace hT := cutF c_10 hT
                have g_33 := zeqF (rfl : (b13).toInt = _) (by decide : ((0 : Int32)).toInt = 0) c_10
                refine lv_iload hx hb dX6_alikeOf_76 (lv_at hl 0 rfl) ?_
                refine lv_if_eq (tgt := 113) hx hb dX6_alikeOf_78 (by decide) (fun c_11 => ?_) (fun c_11 => ?_)
                · replace hT := cutT c_11 hT
                  have g_34 := zeqT (rfl : (j18).toInt = _) (by decide : ((0 : Int32)).toInt = 0) c_11
                  refine lv_iconst (v := (1 : Int32)) hx hb dX6_alikeOf_113 (by decide) ?_
                  refine lv_goto (tgt := 118) hx hb dX6_alikeOf_114 (by decide) ?_
                  have hP9 := hP
                  have hD9 := hD
                  have hS9 := hS
                  have hl9 := hl
                  have hM9 := hM
                  have hT : (1 : Int32) = xv := hT
                  subst hT
                  exact hM9 _ _ _ ⟨hP9.sub [0, 1, 2, 3, 4, 5] rfl, hD9.sub [0, 1, 2, 3, 4, 5] rfl rfl, hS9, lv_sub hl9 [1, 2, 3, 4, 6, 0] rfl⟩
                · replace hT := cutF c_11 hT
                  have g_35 := zeqF (rfl : (j18).toInt = _) (by decide : ((0 : Int32)).toInt = 0) c_11
                  refine lv_aload_n hx hb dX6_alikeOf_81 rfl (lv_at hl 1 rfl) ?_
                  refine va_get (D := (dC, dI)) (ci := 6) (v := .ref o_would) (C := RX6) (T := TX6) (N := 26) hx hb hts hwX6 hown hK hP 1 rfl rfl 16 (by decide) hf_35 (fun _ h9 => h9) rfl dX6_alikeOf_82 ?_
                  refine lv_iload hx hb dX6_alikeOf_85 (lv_at hl 6 rfl) ?_
                  have h_12 : vp_in b12 9 := zin (by omega) (by omega)
                  refine va_lald hx hb hK hP 5 1 rfl rfl h_12 dX6_alikeOf_87 ?_
                  refine lv_lconst (v := (0 : Int64)) hx hb dX6_alikeOf_88 (by decide) ?_
                  refine W.lcmp hx hb dX6_alikeOf_89 ?_
                  have hz_36 : ((0 : Int64)).toInt = 0 := by decide
                  refine lv_if_le (tgt := 117) hx hb dX6_alikeOf_90 (by decide) (fun c_13 => ?_) (fun c_13 => ?_)
                  · replace hT := cutT c_13 hT
                    have g_37 := zlc_le.mp c_13
                    refine lv_iconst (v := (0 : Int32)) hx hb dX6_alikeOf_117 (by decide) ?_
                    have hP9 := hP
                    have hD9 := hD
                    have hS9 := hS
                    have hl9 := hl
                    have hM9 := hM
                    have hT : (0 : Int32) = xv := hT
                    subst hT
                    exact hM9 _ _ _ ⟨hP9.sub [0, 1, 2, 3, 4, 5] rfl, hD9.sub [0, 1, 2, 3, 4, 5] rfl rfl, hS9, lv_sub hl9 [1, 2, 3, 4, 6, 0] rfl⟩
                  · replace hT := cutF c_13 hT
                    have g_38 := mt zlc_le.mpr c_13
                    refine lv_lload hx hb dX6_alikeOf_93 (lv_at hl 4 rfl) ?_
                    refine lv_lconst (v := (0 : Int64)) hx hb dX6_alikeOf_95 (by decide) ?_
                    refine W.lcmp hx hb dX6_alikeOf_96 ?_
                    have hz_39 : ((0 : Int64)).toInt = 0 := by decide
                    refine lv_if_eq (tgt := 113) hx hb dX6_alikeOf_97 (by decide) (fun c_14 => ?_) (fun c_14 => ?_)
                    · replace hT := cutT c_14 hT
                      have g_40 := zlc_eq.mp c_14
                      refine lv_iconst (v := (1 : Int32)) hx hb dX6_alikeOf_113 (by decide) ?_
                      refine lv_goto (tgt := 118) hx hb dX6_alikeOf_114 (by decide) ?_
                      have hP9 := hP
                      have hD9 := hD
                      have hS9 := hS
                      have hl9 := hl
                      have hM9 := hM
                      have hT : (1 : Int32) = xv := hT
                      subst hT
                      exact hM9 _ _ _ ⟨hP9.sub [0, 1, 2, 3, 4, 5] rfl, hD9.sub [0, 1, 2, 3, 4, 5] rfl rfl, hS9, lv_sub hl9 [1, 2, 3, 4, 6, 0] rfl⟩
                    · replace hT := cutF c_14 hT
                      have g_41 := mt zlc_eq.mpr c_14
                      refine lv_lload hx hb dX6_alikeOf_100 (lv_at hl 4 rfl) ?_
                      refine lv_aload_n hx hb dX6_alikeOf_102 rfl (lv_at hl 1 rfl) ?_
                      refine va_get (D := (dC, dI)) (ci := 6) (v := .ref o_would) (C := RX6) (T := TX6) (N := 26) hx hb hts hwX6 hown hK hP 1 rfl rfl 16 (by decide) hf_35 (fun _ h9 => h9) rfl dX6_alikeOf_103 ?_
                      refine lv_iload hx hb dX6_alikeOf_106 (lv_at hl 6 rfl) ?_
                      have h_15 : vp_in b12 9 := zin (by omega) (by omega)
                      refine va_lald hx hb hK hP 5 1 rfl rfl h_15 dX6_alikeOf_108 ?_
                      refine W.lcmp hx hb dX6_alikeOf_109 ?_
                      refine lv_if_ne (tgt := 117) hx hb dX6_alikeOf_110 (by decide) (fun c_16 => ?_) (fun c_16 => ?_)
                      · replace hT := cutF c_16 hT
                        have g_42 := mt zlc_eq.mpr c_16
                        refine lv_iconst (v := (0 : Int32)) hx hb dX6_alikeOf_117 (by decide) ?_
                        have hP9 := hP
                        have hD9 := hD
                        have hS9 := hS
                        have hl9 := hl
                        have hM9 := hM
                        have hT : (0 : Int32) = xv := hT
                        subst hT
                        exact hM9 _ _ _ ⟨hP9.sub [0, 1, 2, 3, 4, 5] rfl, hD9.sub [0, 1, 2, 3, 4, 5] rfl rfl, hS9, lv_sub hl9 [1, 2, 3, 4, 6, 0] rfl⟩
                      · replace hT := cutT c_16 hT
                        have g_43 := zlc_eq.mp c_16
                        refine lv_iconst (v := (1 : Int32)) hx hb dX6_alikeOf_113 (by decide) ?_
                        refine lv_goto (tgt := 118) hx hb dX6_alikeOf_114 (by decide) ?_
                        have hP9 := hP
                        have hD9 := hD
                        have hS9 := hS
                        have hl9 := hl
                        have hM9 := hM
                        have hT : (1 : Int32) = xv := hT
                        subst hT
                        exact hM9 _ _ _ ⟨hP9.sub [0, 1, 2, 3, 4, 5] rfl, hD9.sub [0, 1, 2, 3, 4, 5] rfl rfl, hS9, lv_sub hl9 [1, 2, 3, 4, 6, 0] rfl⟩
          · intro xv hT hM
            refine lv_icmp_ne (tgt := 68) hx hb dX6_alikeOf_61 (by decide) (fun c_9 => ?_) (fun c_9 => ?_)
            · replace hT := cutF c_9 hT
              have g_44 := zeqF (rfl : (((p1 >>> (b12 &&& 31)) &&& (1 : Int32))).toInt = _) (by decide : ((1 : Int32)).toInt = 1) c_9
              refine lv_iconst (v := (0 : Int32)) hx hb dX6_alikeOf_68 (by decide) ?_
              have hP9 := hP
              have hD9 := hD
              have hS9 := hS
              have hl9 := hl
              have hM9 := hM
              have hT : (0 : Int32) = xv := hT
              subst hT
              exact hM9 _ _ _ ⟨hP9.sub [0, 1, 2, 3, 4, 5] rfl, hD9.sub [0, 1, 2, 3, 4, 5] rfl rfl, hS9, lv_sub hl9 [4, 5, 3, 2, 1, 0] rfl⟩
            · replace hT := cutT c_9 hT
              have g_45 := zeqT (rfl : (((p1 >>> (b12 &&& 31)) &&& (1 : Int32))).toInt = _) (by decide : ((1 : Int32)).toInt = 1) c_9
              refine lv_iconst (v := (1 : Int32)) hx hb dX6_alikeOf_64 (by decide) ?_
              refine lv_goto (tgt := 69) hx hb dX6_alikeOf_65 (by decide) ?_
              have hP9 := hP
              have hD9 := hD
              have hS9 := hS
              have hl9 := hl
              have hM9 := hM
              have hT : (1 : Int32) = xv := hT
              subst hT
              exact hM9 _ _ _ ⟨hP9.sub [0, 1, 2, 3, 4, 5] rfl, hD9.sub [0, 1, 2, 3, 4, 5] rfl rfl, hS9, lv_sub hl9 [4, 5, 3, 2, 1, 0] rfl⟩

def m_X6_alike (vo_glasses : Int32) (vo_rows : Nat → Int32) (vo_amounts : Nat → Int64) (vo_takes : Nat → Int64) (vo_leans : Nat → Int32) (vo_would : Nat → Int64) (p1 : Int32) : Int32 × (Nat → Int64) × (Nat → Int32) × (Nat → Int64) :=
 cut (m_X6_lacks vo_glasses) (fun (r1 : Int32) =>
 if r1 = (0 : Int32) then
  cut (m_X6_isIn (p1.toInt64) (0 : Int64) ((((1 : Int32) <<< (vo_glasses &&& 31)) - (1 : Int32)).toInt64)) (fun (r2 : Int32) =>
  if r2 = (0 : Int32) then
   ((-102 : Int32), vo_takes, vo_leans, vo_would)
  else
   cut (m_X6_ones p1) (fun (r3 : Int32) =>
   if r3 ≤ (1 : Int32) then
    ((-102 : Int32), vo_takes, vo_leans, vo_would)
   else
    cut4 (m_X6_alikeOf vo_glasses vo_rows vo_amounts vo_takes vo_leans vo_would p1) (fun (r4 : Int32) (u5 : Nat → Int64) (u6 : Nat → Int32) (u7 : Nat → Int64) =>
    (r4, u5, u6, u7))))
 else
  ((-103 : Int32), vo_takes, vo_leans, vo_would))
set_option maxHeartbeats 4000000 in
set_option maxRecDepth 100000 in
theorem k_X6_alike (l : Launch) (dC : Nat → ClassId) (dI : Nat → Nat → Nat) (cI cJ cC : ClassId) (sz : Nat) (o o_page o_readRows o_rows o_turns o_amounts o_drank o_takes o_leans o_would o_keptAmounts o_keptDrank o_keptTurns : Nat) (vo_pageMany : Int32) (vo_readMany : Int32) (vo_state : Int32) (vo_readMost : Int32) (vo_glasses : Int32) (vo_towersRead : Int32) (vo_poured : Int32) (vo_spilt : Int64) (vo_done : Int32) (vo_seedNow : Int32) (vo_keptTower : Int32) (vo_keptPoured : Int32) (vo_keptSpilt : Int64) (vo_hash : Int64) (vo_rows : Nat → Int32) (vo_amounts : Nat → Int64) (vo_takes : Nat → Int64) (vo_leans : Nat → Int32) (vo_would : Nat → Int64) (p1 : Int32) (r : Int32) (qo_takes : Nat → Int64) (qo_leans : Nat → Int32) (qo_would : Nat → Int64) (hT : m_X6_alike vo_glasses vo_rows vo_amounts vo_takes vo_leans vo_would p1 = (r, qo_takes, qo_leans, qo_would)) (hg0 : 0 ≤ vo_glasses.toInt) (hg9 : vo_glasses.toInt ≤ 9) (hrw : zRw vo_rows) (hln : zLn vo_leans) : Met l yX6_alike wsX6_alike ({ frames := 4, cells := 0, slots := 0, locals := 95 }) (zPc [.ref o, .int p1] (dC, dI) (zTy cI cJ cC) [(o, .inr (6, [.ref o_page, .int vo_pageMany, .int vo_readMany, .int vo_state, .int vo_readMost, .ref o_readRows, .int vo_glasses, .int vo_towersRead, .int vo_poured, .ref o_rows, .ref o_turns, .ref o_amounts, .ref o_drank, .long vo_spilt, .ref o_takes, .ref o_leans, .ref o_would, .int vo_done, .int vo_seedNow, .int vo_keptTower, .int vo_keptPoured, .long vo_keptSpilt, .ref o_keptAmounts, .ref o_keptDrank, .ref o_keptTurns, .long vo_hash])), (o_rows, .inl (cI, 54, .inl vo_rows)), (o_amounts, .inl (cJ, 9, .inr (.inl vo_amounts))), (o_takes, .inl (cJ, 9, .inr (.inl vo_takes))), (o_leans, .inl (cI, 9, .inl vo_leans)), (o_would, .inl (cJ, 9, .inr (.inl vo_would)))] sz) (zQi r ((zLn qo_leans)) (dC, dI) (zTy cI cJ cC) [(o, .inr (6, [.ref o_page, .int vo_pageMany, .int vo_readMany, .int vo_state, .int vo_readMost, .ref o_readRows, .int vo_glasses, .int vo_towersRead, .int vo_poured, .ref o_rows, .ref o_turns, .ref o_amounts, .ref o_drank, .long vo_spilt, .ref o_takes, .ref o_leans, .ref o_would, .int vo_done, .int vo_seedNow, .int vo_keptTower, .int vo_keptPoured, .long vo_keptSpilt, .ref o_keptAmounts, .ref o_keptDrank, .ref o_keptTurns, .long vo_hash])), (o_rows, .inl (cI, 54, .inl vo_rows)), (o_amounts, .inl (cJ, 9, .inr (.inl vo_amounts))), (o_takes, .inl (cJ, 9, .inr (.inl qo_takes))), (o_leans, .inl (cI, 9, .inl qo_leans)), (o_would, .inl (cJ, 9, .inr (.inl qo_would)))] (va_A [(o, .inr (6, [.ref o_page, .int vo_pageMany, .int vo_readMany, .int vo_state, .int vo_readMost, .ref o_readRows, .int vo_glasses, .int vo_towersRead, .int vo_poured, .ref o_rows, .ref o_turns, .ref o_amounts, .ref o_drank, .long vo_spilt, .ref o_takes, .ref o_leans, .ref o_would, .int vo_done, .int vo_seedNow, .int vo_keptTower, .int vo_keptPoured, .long vo_keptSpilt, .ref o_keptAmounts, .ref o_keptDrank, .ref o_keptTurns, .long vo_hash])), (o_rows, .inl (cI, 54, .inl vo_rows)), (o_amounts, .inl (cJ, 9, .inr (.inl vo_amounts))), (o_takes, .inl (cJ, 9, .inr (.inl vo_takes))), (o_leans, .inl (cI, 9, .inl vo_leans)), (o_would, .inl (cJ, 9, .inr (.inl vo_would)))] sz)) 0 0 (va_A [(o, .inr (6, [.ref o_page, .int vo_pageMany, .int vo_readMany, .int vo_state, .int vo_readMost, .ref o_readRows, .int vo_glasses, .int vo_towersRead, .int vo_poured, .ref o_rows, .ref o_turns, .ref o_amounts, .ref o_drank, .long vo_spilt, .ref o_takes, .ref o_leans, .ref o_would, .int vo_done, .int vo_seedNow, .int vo_keptTower, .int vo_keptPoured, .long vo_keptSpilt, .ref o_keptAmounts, .ref o_keptDrank, .ref o_keptTurns, .long vo_hash])), (o_rows, .inl (cI, 54, .inl vo_rows)), (o_amounts, .inl (cJ, 9, .inr (.inl vo_amounts))), (o_takes, .inl (cJ, 9, .inr (.inl vo_takes))), (o_leans, .inl (cI, 9, .inl vo_leans)), (o_would, .inl (cJ, 9, .inr (.inl vo_would)))] sz) := by
  refine Met.ofW (cc := cX6_alike) (maxL := 2) (ret := (some .int)) (by decide) rfl ?_
  intro p e s m args below meth c s₁ B hml hv
  obtain ⟨rfl, hsz, hP, hK, hD0⟩ := hv
  have hx := B.exec
  have hb := B.bytes
  have hr := B.returns
  have hts := atoms_spec (ws := wsX6_alike) B.pre
  have hown : s.vm.findClass RX6 = some m.cls := findClass_of_methodNamed B.named
  have hlocks := B.notSynchronized
  subst hsz
  have hD := hD0.self (sz := s.heap.size)
  generalize hAe : va_A [(o, .inr (6, [.ref o_page, .int vo_pageMany, .int vo_readMany, .int vo_state, .int vo_readMost, .ref o_readRows, .int vo_glasses, .int vo_towersRead, .int vo_poured, .ref o_rows, .ref o_turns, .ref o_amounts, .ref o_drank, .long vo_spilt, .ref o_takes, .ref o_leans, .ref o_would, .int vo_done, .int vo_seedNow, .int vo_keptTower, .int vo_keptPoured, .long vo_keptSpilt, .ref o_keptAmounts, .ref o_keptDrank, .ref o_keptTurns, .long vo_hash])), (o_rows, .inl (cI, 54, .inl vo_rows)), (o_amounts, .inl (cJ, 9, .inr (.inl vo_amounts))), (o_takes, .inl (cJ, 9, .inr (.inl vo_takes))), (o_leans, .inl (cI, 9, .inl vo_leans)), (o_would, .inl (cJ, 9, .inr (.inl vo_would)))] s.heap.size = A at hD ⊢
  have hA : ∀ q : Nat, s.heap.size ≤ q → A q := fun q h => by rw [← hAe]; exact Or.inr h
  have hS : va_S A s.heap s.heap [] := va_S.rf
  have hP : va_P (dC, dI) vwCl [(o, .inr (6, [.ref o_page, .int vo_pageMany, .int vo_readMany, .int vo_state, .int vo_readMost, .ref o_readRows, .int vo_glasses, .int vo_towersRead, .int vo_poured, .ref o_rows, .ref o_turns, .ref o_amounts, .ref o_drank, .long vo_spilt, .ref o_takes, .ref o_leans, .ref o_would, .int vo_done, .int vo_seedNow, .int vo_keptTower, .int vo_keptPoured, .long vo_keptSpilt, .ref o_keptAmounts, .ref o_keptDrank, .ref o_keptTurns, .long vo_hash])), (o_rows, .inl (cI, 54, .inl vo_rows)), (o_amounts, .inl (cJ, 9, .inr (.inl vo_amounts))), (o_takes, .inl (cJ, 9, .inr (.inl vo_takes))), (o_leans, .inl (cI, 9, .inl vo_leans)), (o_would, .inl (cJ, 9, .inr (.inl vo_would)))] s.heap := hP
  have hK : va_K (dC, dI) vwCl (zTy cI cJ cC) s := hK
  have hl := lv_entry ([.ref o, .int p1]) (n := 2) (Nat.le_of_ble_eq_true rfl)
  rw [lg_entry_eq]
  generalize (lg_sl ([.ref o, .int p1]) ++ List.replicate (2 - (lg_sl ([.ref o, .int p1])).length) Slot.unset).toArray = ls at hl ⊢
  have hl : lv_has ls 2 [(0, .ref o), (1, .int p1)] := hl
  refine zz_start hP hS (fun Q hQ H locs hP hS => ?_)
  have hwX6 : ∀ w ∈ u_ws RX6 TX6 26, w ∈ wsX6_alike := by decide +kernel
  have hf_97 := (hts (.fieldLink RX6 97 "PouredTopmostModel" "glasses" "I") (by decide +kernel))
  refine lv_aload_n hx hb dX6_alike_0 rfl (lv_at hl 0 rfl) ?_
  obtain ⟨r1, ev_1⟩ : ∃ x0, (m_X6_lacks vo_glasses) = x0 := ⟨_, rfl⟩
  replace hT := cut_n ev_1 hT
  refine zz_ci [0] [1, 2, 3, 4, 5] (wr := [(o_rows, .inl (cI, 54, .inl vo_rows)), (o_amounts, .inl (cJ, 9, .inr (.inl vo_amounts))), (o_takes, .inl (cJ, 9, .inr (.inl vo_takes))), (o_leans, .inl (cI, 9, .inl vo_leans)), (o_would, .inl (cJ, 9, .inr (.inl vo_would)))]) (w1 := [(o, .inr (6, [.ref o_page, .int vo_pageMany, .int vo_readMany, .int vo_state, .int vo_readMost, .ref o_readRows, .int vo_glasses, .int vo_towersRead, .int vo_poured, .ref o_rows, .ref o_turns, .ref o_amounts, .ref o_drank, .long vo_spilt, .ref o_takes, .ref o_leans, .ref o_would, .int vo_done, .int vo_seedNow, .int vo_keptTower, .int vo_keptPoured, .long vo_keptSpilt, .ref o_keptAmounts, .ref o_keptDrank, .ref o_keptTurns, .long vo_hash]))]) (va_runV (As := []) (rest := []) ⟨hx, hb, hml, hown, hts⟩ (k_X6_lacks l dC dI cI cJ cC H.size o o_page o_readRows o_rows o_turns o_amounts o_drank o_takes o_leans o_would o_keptAmounts o_keptDrank o_keptTurns vo_pageMany vo_readMany vo_state vo_readMost vo_glasses vo_towersRead vo_poured vo_spilt vo_done vo_seedNow vo_keptTower vo_keptPoured vo_keptSpilt vo_hash r1 ev_1) (cwV 0 hts gX6_alike_X6_lacks rfl rfl rfl (by decide +kernel) ⟨Nat.le_of_ble_eq_true rfl, Nat.le_of_ble_eq_true rfl⟩) (zz_preV [0] hK hP hD rfl rfl (va_recv hK hP (ci := 6) (q0 := 0) rfl rfl)) rfl rfl hl.1 rfl (lv_room (Nat.le_of_ble_eq_true rfl)) dX6_alike_1 ⟨Nat.zero_le _, Nat.zero_le _⟩) hP hD hS hA rfl rfl rfl (by decide) (fun ok_2 H locs hP hD hS => ?_)
  have hP : va_P (dC, dI) vwCl [(o_rows, .inl (cI, 54, .inl vo_rows)), (o_amounts, .inl (cJ, 9, .inr (.inl vo_amounts))), (o_takes, .inl (cJ, 9, .inr (.inl vo_takes))), (o_leans, .inl (cI, 9, .inl vo_leans)), (o_would, .inl (cJ, 9, .inr (.inl vo_would))), (o, .inr (6, [.ref o_page, .int vo_pageMany, .int vo_readMany, .int vo_state, .int vo_readMost, .ref o_readRows, .int vo_glasses, .int vo_towersRead, .int vo_poured, .ref o_rows, .ref o_turns, .ref o_amounts, .ref o_drank, .long vo_spilt, .ref o_takes, .ref o_leans, .ref o_would, .int vo_done, .int vo_seedNow, .int vo_keptTower, .int vo_keptPoured, .long vo_keptSpilt, .ref o_keptAmounts, .ref o_keptDrank, .ref o_keptTurns, .long vo_hash]))] H := hP
  have hD : va_D A [(o_rows, .inl (cI, 54, .inl vo_rows)), (o_amounts, .inl (cJ, 9, .inr (.inl vo_amounts))), (o_takes, .inl (cJ, 9, .inr (.inl vo_takes))), (o_leans, .inl (cI, 9, .inl vo_leans)), (o_would, .inl (cJ, 9, .inr (.inl vo_would))), (o, .inr (6, [.ref o_page, .int vo_pageMany, .int vo_readMany, .int vo_state, .int vo_readMost, .ref o_readRows, .int vo_glasses, .int vo_towersRead, .int vo_poured, .ref o_rows, .ref o_turns, .ref o_amounts, .ref o_drank, .long vo_spilt, .ref o_takes, .ref o_leans, .ref o_would, .int vo_done, .int vo_seedNow, .int vo_keptTower, .int vo_keptPoured, .long vo_keptSpilt, .ref o_keptAmounts, .ref o_keptDrank, .ref o_keptTurns, .long vo_hash]))] := hD
  obtain ⟨k_3, k_4, k_5⟩ := ok_2
  refine lv_if_eq (tgt := 10) hx hb dX6_alike_4 (by decide) (fun c_6 => ?_) (fun c_6 => ?_)
  · replace hT := cutT c_6 hT
    have g_21 := zeqT (rfl : (r1).toInt = _) (by decide : ((0 : Int32)).toInt = 0) c_6
    refine lv_iload_n hx hb dX6_alike_10 rfl (lv_at hl 1 rfl) ?_
    refine lv_i2l (v := (p1.toInt64)) hx hb dX6_alike_11 rfl ?_
    refine lv_lconst (v := (0 : Int64)) hx hb dX6_alike_12 (by decide) ?_
    refine lv_iconst (v := (1 : Int32)) hx hb dX6_alike_13 (by decide) ?_
    refine lv_aload_n hx hb dX6_alike_14 rfl (lv_at hl 0 rfl) ?_
    refine va_get (D := (dC, dI)) (ci := 6) (v := .int vo_glasses) (C := RX6) (T := TX6) (N := 26) hx hb hts hwX6 hown hK hP 5 rfl rfl 6 (by decide) hf_97 (fun _ h9 => h9) rfl dX6_alike_15 ?_
    refine lv_ishl hx hb dX6_alike_18 ?_
    refine lv_iconst (v := (1 : Int32)) hx hb dX6_alike_19 (by decide) ?_
    refine lv_isub hx hb dX6_alike_20 ?_
    refine lv_i2l (v := ((((1 : Int32) <<< (vo_glasses &&& 31)) - (1 : Int32)).toInt64)) hx hb dX6_alike_21 rfl ?_
    obtain ⟨r2, ev_7⟩ : ∃ x0, (m_X6_isIn (p1.toInt64) (0 : Int64) ((((1 : Int32) <<< (vo_glasses &&& 31)) - (1 : Int32)).toInt64)) = x0 := ⟨_, rfl⟩
    replace hT := cut_n ev_7 hT
    refine zz_ci [] [0, 1, 2, 3, 4, 5] (wr := [(o_rows, .inl (cI, 54, .inl vo_rows)), (o_amounts, .inl (cJ, 9, .inr (.inl vo_amounts))), (o_takes, .inl (cJ, 9, .inr (.inl vo_takes))), (o_leans, .inl (cI, 9, .inl vo_leans)), (o_would, .inl (cJ, 9, .inr (.inl vo_would))), (o, .inr (6, [.ref o_page, .int vo_pageMany, .int vo_readMany, .int vo_state, .int vo_readMost, .ref o_readRows, .int vo_glasses, .int vo_towersRead, .int vo_poured, .ref o_rows, .ref o_turns, .ref o_amounts, .ref o_drank, .long vo_spilt, .ref o_takes, .ref o_leans, .ref o_would, .int vo_done, .int vo_seedNow, .int vo_keptTower, .int vo_keptPoured, .long vo_keptSpilt, .ref o_keptAmounts, .ref o_keptDrank, .ref o_keptTurns, .long vo_hash]))]) (w1 := []) (va_runS (As := [.long (p1.toInt64), .long (0 : Int64), .long ((((1 : Int32) <<< (vo_glasses &&& 31)) - (1 : Int32)).toInt64)]) (rest := []) ⟨hx, hb, hml, hown, hts⟩ (k_X6_isIn l dC dI cI cJ cC H.size (p1.toInt64) (0 : Int64) ((((1 : Int32) <<< (vo_glasses &&& 31)) - (1 : Int32)).toInt64) r2 ev_7) (va_cwS 3 hts gX6_alike_X6_isIn rfl rfl rfl (by decide +kernel) ⟨Nat.le_of_ble_eq_true rfl, Nat.le_of_ble_eq_true rfl⟩) (zz_preS [] hK hP hD rfl rfl) rfl rfl hl.1 rfl (lv_room (Nat.le_of_ble_eq_true rfl)) dX6_alike_22 ⟨Nat.zero_le _, Nat.zero_le _⟩) hP hD hS hA rfl rfl rfl (by decide) (fun ok_8 H locs hP hD hS => ?_)
    have hP : va_P (dC, dI) vwCl [(o_rows, .inl (cI, 54, .inl vo_rows)), (o_amounts, .inl (cJ, 9, .inr (.inl vo_amounts))), (o_takes, .inl (cJ, 9, .inr (.inl vo_takes))), (o_leans, .inl (cI, 9, .inl vo_leans)), (o_would, .inl (cJ, 9, .inr (.inl vo_would))), (o, .inr (6, [.ref o_page, .int vo_pageMany, .int vo_readMany, .int vo_state, .int vo_readMost, .ref o_readRows, .int vo_glasses, .int vo_towersRead, .int vo_poured, .ref o_rows, .ref o_turns, .ref o_amounts, .ref o_drank, .long vo_spilt, .ref o_takes, .ref o_leans, .ref o_would, .int vo_done, .int vo_seedNow, .int vo_keptTower, .int vo_keptPoured, .long vo_keptSpilt, .ref o_keptAmounts, .ref o_keptDrank, .ref o_keptTurns, .long vo_hash]))] H := hP
    have hD : va_D A [(o_rows, .inl (cI, 54, .inl vo_rows)), (o_amounts, .inl (cJ, 9, .inr (.inl vo_amounts))), (o_takes, .inl (cJ, 9, .inr (.inl vo_takes))), (o_leans, .inl (cI, 9, .inl vo_leans)), (o_would, .inl (cJ, 9, .inr (.inl vo_would))), (o, .inr (6, [.ref o_page, .int vo_pageMany, .int vo_readMany, .int vo_state, .int vo_readMost, .ref o_readRows, .int vo_glasses, .int vo_towersRead, .int vo_poured, .ref o_rows, .ref o_turns, .ref o_amounts, .ref o_drank, .long vo_spilt, .ref o_takes, .ref o_leans, .ref o_would, .int vo_done, .int vo_seedNow, .int vo_keptTower, .int vo_keptPoured, .long vo_keptSpilt, .ref o_keptAmounts, .ref o_keptDrank, .ref o_keptTurns, .long vo_hash]))] := hD
    have hz_9 : ((p1.toInt64)).toInt = (p1).toInt := Int32.toInt_toInt64 _
    have hz_10 : ((0 : Int64)).toInt = 0 := by decide
    try have e_11 := zsubE (v := (((1 : Int32) <<< (vo_glasses &&& 31)) - (1 : Int32))) (rfl : (((1 : Int32) <<< (vo_glasses &&& 31))).toInt = _) (by decide : ((1 : Int32)).toInt = 1) rfl (by omega) (by omega)
    have hz_12 : (((((1 : Int32) <<< (vo_glasses &&& 31)) - (1 : Int32)).toInt64)).toInt = ((((1 : Int32) <<< (vo_glasses &&& 31)) - (1 : Int32))).toInt := Int32.toInt_toInt64 _
    obtain ⟨k_13, k_14⟩ := ok_8
    refine lv_if_eq (tgt := 44) hx hb dX6_alike_25 (by decide) (fun c_15 => ?_) (fun c_15 => ?_)
    · replace hT := cutT c_15 hT
      have g_22 := zeqT (rfl : (r2).toInt = _) (by decide : ((0 : Int32)).toInt = 0) c_15
      refine lv_bipush (v := (-102 : Int32)) hx hb dX6_alike_44 (by decide) ?_
      have hP9 := hP
      have hD9 := hD
      have hS9 := hS
      have hT : ((-102 : Int32), vo_takes, vo_leans, vo_would) = (r, qo_takes, qo_leans, qo_would) := hT
      cases hT
      subst hQ
      exact zz_iret hx hb hr [5, 0, 1, 2, 3, 4] hK hP9 hD9 hS9 rfl rfl (by assumption) hlocks dX6_alike_46
    · replace hT := cutF c_15 hT
      have g_23 := zeqF (rfl : (r2).toInt = _) (by decide : ((0 : Int32)).toInt = 0) c_15
      refine lv_iload_n hx hb dX6_alike_28 rfl (lv_at hl 1 rfl) ?_
      obtain ⟨r3, ev_16⟩ : ∃ x0, (m_X6_ones p1) = x0 := ⟨_, rfl⟩
      replace hT := cut_n ev_16 hT
      refine zz_ci [] [0, 1, 2, 3, 4, 5] (wr := [(o_rows, .inl (cI, 54, .inl vo_rows)), (o_amounts, .inl (cJ, 9, .inr (.inl vo_amounts))), (o_takes, .inl (cJ, 9, .inr (.inl vo_takes))), (o_leans, .inl (cI, 9, .inl vo_leans)), (o_would, .inl (cJ, 9, .inr (.inl vo_would))), (o, .inr (6, [.ref o_page, .int vo_pageMany, .int vo_readMany, .int vo_state, .int vo_readMost, .ref o_readRows, .int vo_glasses, .int vo_towersRead, .int vo_poured, .ref o_rows, .ref o_turns, .ref o_amounts, .ref o_drank, .long vo_spilt, .ref o_takes, .ref o_leans, .ref o_would, .int vo_done, .int vo_seedNow, .int vo_keptTower, .int vo_keptPoured, .long vo_keptSpilt, .ref o_keptAmounts, .ref o_keptDrank, .ref o_keptTurns, .long vo_hash]))]) (w1 := []) (va_runS (As := [.int p1]) (rest := []) ⟨hx, hb, hml, hown, hts⟩ (k_X6_ones l dC dI cI cJ cC H.size p1 r3 ev_16) (va_cwS 1 hts gX6_alike_X6_ones rfl rfl rfl (by decide +kernel) ⟨Nat.le_of_ble_eq_true rfl, Nat.le_of_ble_eq_true rfl⟩) (zz_preS [] hK hP hD rfl rfl) rfl rfl hl.1 rfl (lv_room (Nat.le_of_ble_eq_true rfl)) dX6_alike_29 ⟨Nat.zero_le _, Nat.zero_le _⟩) hP hD hS hA rfl rfl rfl (by decide) (fun ok_17 H locs hP hD hS => ?_)
      have hP : va_P (dC, dI) vwCl [(o_rows, .inl (cI, 54, .inl vo_rows)), (o_amounts, .inl (cJ, 9, .inr (.inl vo_amounts))), (o_takes, .inl (cJ, 9, .inr (.inl vo_takes))), (o_leans, .inl (cI, 9, .inl vo_leans)), (o_would, .inl (cJ, 9, .inr (.inl vo_would))), (o, .inr (6, [.ref o_page, .int vo_pageMany, .int vo_readMany, .int vo_state, .int vo_readMost, .ref o_readRows, .int vo_glasses, .int vo_towersRead, .int vo_poured, .ref o_rows, .ref o_turns, .ref o_amounts, .ref o_drank, .long vo_spilt, .ref o_takes, .ref o_leans, .ref o_would, .int vo_done, .int vo_seedNow, .int vo_keptTower, .int vo_keptPoured, .long vo_keptSpilt, .ref o_keptAmounts, .ref o_keptDrank, .ref o_keptTurns, .long vo_hash]))] H := hP
      have hD : va_D A [(o_rows, .inl (cI, 54, .inl vo_rows)), (o_amounts, .inl (cJ, 9, .inr (.inl vo_amounts))), (o_takes, .inl (cJ, 9, .inr (.inl vo_takes))), (o_leans, .inl (cI, 9, .inl vo_leans)), (o_would, .inl (cJ, 9, .inr (.inl vo_would))), (o, .inr (6, [.ref o_page, .int vo_pageMany, .int vo_readMany, .int vo_state, .int vo_readMost, .ref o_readRows, .int vo_glasses, .int vo_towersRead, .int vo_poured, .ref o_rows, .ref o_turns, .ref o_amounts, .ref o_drank, .long vo_spilt, .ref o_takes, .ref o_leans, .ref o_would, .int vo_done, .int vo_seedNow, .int vo_keptTower, .int vo_keptPoured, .long vo_keptSpilt, .ref o_keptAmounts, .ref o_keptDrank, .ref o_keptTurns, .long vo_hash]))] := hD
      refine lv_iconst (v := (1 : Int32)) hx hb dX6_alike_32 (by decide) ?_
      refine lv_icmp_le (tgt := 44) hx hb dX6_alike_33 (by decide) (fun c_18 => ?_) (fun c_18 => ?_)
      · replace hT := cutT c_18 hT
        have g_24 := zleT (rfl : (r3).toInt = _) (by decide : ((1 : Int32)).toInt = 1) c_18
        refine lv_bipush (v := (-102 : Int32)) hx hb dX6_alike_44 (by decide) ?_
        have hP9 := hP
        have hD9 := hD
        have hS9 := hS
        have hT : ((-102 : Int32), vo_takes, vo_leans, vo_would) = (r, qo_takes, qo_leans, qo_would) := hT
        cases hT
        subst hQ
        exact zz_iret hx hb hr [5, 0, 1, 2, 3, 4] hK hP9 hD9 hS9 rfl rfl (by assumption) hlocks dX6_alike_46
      · replace hT := cutF c_18 hT
        have g_25 := zleF (rfl : (r3).toInt = _) (by decide : ((1 : Int32)).toInt = 1) c_18
        refine lv_aload_n hx hb dX6_alike_36 rfl (lv_at hl 0 rfl) ?_
        refine lv_iload_n hx hb dX6_alike_37 rfl (lv_at hl 1 rfl) ?_
        obtain ⟨r4, u5, u6, u7, ev_19⟩ : ∃ x0 x1 x2 x3, (m_X6_alikeOf vo_glasses vo_rows vo_amounts vo_takes vo_leans vo_would p1) = (x0, x1, x2, x3) := ⟨_, _, _, _, rfl⟩
        replace hT := cut4_n ev_19 hT
        refine zz_ci [5, 0, 1, 2, 3, 4] [] (wr := []) (w1 := [(o, .inr (6, [.ref o_page, .int vo_pageMany, .int vo_readMany, .int vo_state, .int vo_readMost, .ref o_readRows, .int vo_glasses, .int vo_towersRead, .int vo_poured, .ref o_rows, .ref o_turns, .ref o_amounts, .ref o_drank, .long vo_spilt, .ref o_takes, .ref o_leans, .ref o_would, .int vo_done, .int vo_seedNow, .int vo_keptTower, .int vo_keptPoured, .long vo_keptSpilt, .ref o_keptAmounts, .ref o_keptDrank, .ref o_keptTurns, .long vo_hash])), (o_rows, .inl (cI, 54, .inl vo_rows)), (o_amounts, .inl (cJ, 9, .inr (.inl vo_amounts))), (o_takes, .inl (cJ, 9, .inr (.inl u5))), (o_leans, .inl (cI, 9, .inl u6)), (o_would, .inl (cJ, 9, .inr (.inl u7)))]) (va_runV (As := [.int p1]) (rest := []) ⟨hx, hb, hml, hown, hts⟩ (k_X6_alikeOf l dC dI cI cJ cC H.size o o_page o_readRows o_rows o_turns o_amounts o_drank o_takes o_leans o_would o_keptAmounts o_keptDrank o_keptTurns vo_pageMany vo_readMany vo_state vo_readMost vo_glasses vo_towersRead vo_poured vo_spilt vo_done vo_seedNow vo_keptTower vo_keptPoured vo_keptSpilt vo_hash vo_rows vo_amounts vo_takes vo_leans vo_would p1 r4 u5 u6 u7 ev_19 hg0 hg9 hrw hln) (cwV 1 hts gX6_alike_X6_alikeOf rfl rfl rfl (by decide +kernel) ⟨Nat.le_of_ble_eq_true rfl, Nat.le_of_ble_eq_true rfl⟩) (zz_preV [5, 0, 1, 2, 3, 4] hK hP hD rfl rfl (va_recv hK hP (ci := 6) (q0 := 5) rfl rfl)) rfl rfl hl.1 rfl (lv_room (Nat.le_of_ble_eq_true rfl)) dX6_alike_38 ⟨Nat.zero_le _, Nat.zero_le _⟩) hP hD hS hA rfl rfl rfl (by decide) (fun ok_20 H locs hP hD hS => ?_)
        have hP : va_P (dC, dI) vwCl [(o, .inr (6, [.ref o_page, .int vo_pageMany, .int vo_readMany, .int vo_state, .int vo_readMost, .ref o_readRows, .int vo_glasses, .int vo_towersRead, .int vo_poured, .ref o_rows, .ref o_turns, .ref o_amounts, .ref o_drank, .long vo_spilt, .ref o_takes, .ref o_leans, .ref o_would, .int vo_done, .int vo_seedNow, .int vo_keptTower, .int vo_keptPoured, .long vo_keptSpilt, .ref o_keptAmounts, .ref o_keptDrank, .ref o_keptTurns, .long vo_hash])), (o_rows, .inl (cI, 54, .inl vo_rows)), (o_amounts, .inl (cJ, 9, .inr (.inl vo_amounts))), (o_takes, .inl (cJ, 9, .inr (.inl u5))), (o_leans, .inl (cI, 9, .inl u6)), (o_would, .inl (cJ, 9, .inr (.inl u7)))] H := hP
        have hD : va_D A [(o, .inr (6, [.ref o_page, .int vo_pageMany, .int vo_readMany, .int vo_state, .int vo_readMost, .ref o_readRows, .int vo_glasses, .int vo_towersRead, .int vo_poured, .ref o_rows, .ref o_turns, .ref o_amounts, .ref o_drank, .long vo_spilt, .ref o_takes, .ref o_leans, .ref o_would, .int vo_done, .int vo_seedNow, .int vo_keptTower, .int vo_keptPoured, .long vo_keptSpilt, .ref o_keptAmounts, .ref o_keptDrank, .ref o_keptTurns, .long vo_hash])), (o_rows, .inl (cI, 54, .inl vo_rows)), (o_amounts, .inl (cJ, 9, .inr (.inl vo_amounts))), (o_takes, .inl (cJ, 9, .inr (.inl u5))), (o_leans, .inl (cI, 9, .inl u6)), (o_would, .inl (cJ, 9, .inr (.inl u7)))] := hD
        refine lv_goto (tgt := 46) hx hb dX6_alike_41 (by decide) ?_
        have hP9 := hP
        have hD9 := hD
        have hS9 := hS
        have hT : (r4, u5, u6, u7) = (r, qo_takes, qo_leans, qo_would) := hT
        cases hT
        subst hQ
        exact zz_iret hx hb hr [0, 1, 2, 3, 4, 5] hK hP9 hD9 hS9 rfl rfl (by assumption) hlocks dX6_alike_46
  · replace hT := cutF c_6 hT
    have g_26 := zeqF (rfl : (r1).toInt = _) (by decide : ((0 : Int32)).toInt = 0) c_6
    refine lv_bipush (v := (-103 : Int32)) hx hb dX6_alike_7 (by decide) ?_
    have hP9 := hP
    have hD9 := hD
    have hS9 := hS
    have hT : ((-103 : Int32), vo_takes, vo_leans, vo_would) = (r, qo_takes, qo_leans, qo_would) := hT
    cases hT
    subst hQ
    exact zz_iret hx hb hr [5, 0, 1, 2, 3, 4] hK hP9 hD9 hS9 rfl rfl (by assumption) hlocks dX6_alike_9

def m_X6_draw (vo_seedNow : Int32) (p1 : Int32) : Int32 × Int32 :=
 cut (((((1103515245 : Int64) * (vo_seedNow.toInt64)) + (12345 : Int64)) &&& (2147483647 : Int64)).toInt32) (fun (v1 : Int32) =>
 (((v1 / (65536 : Int32)) - (v1 / (65536 : Int32)) / p1 * p1), v1))
set_option maxHeartbeats 4000000 in
set_option maxRecDepth 100000 in
theorem k_X6_draw (l : Launch) (dC : Nat → ClassId) (dI : Nat → Nat → Nat) (cI cJ cC : ClassId) (sz : Nat) (o o_page o_readRows o_rows o_turns o_amounts o_drank o_takes o_leans o_would o_keptAmounts o_keptDrank o_keptTurns : Nat) (vo_pageMany : Int32) (vo_readMany : Int32) (vo_state : Int32) (vo_readMost : Int32) (vo_glasses : Int32) (vo_towersRead : Int32) (vo_poured : Int32) (vo_spilt : Int64) (vo_done : Int32) (vo_seedNow : Int32) (vo_keptTower : Int32) (vo_keptPoured : Int32) (vo_keptSpilt : Int64) (vo_hash : Int64) (p1 : Int32) (r : Int32) (qo_seedNow : Int32) (hT : m_X6_draw vo_seedNow p1 = (r, qo_seedNow)) (hof : 0 < p1.toInt) : Met l yX6_draw wsX6_draw ({ frames := 0, cells := 0, slots := 0, locals := 0 }) (zPc [.ref o, .int p1] (dC, dI) (zTy cI cJ cC) [(o, .inr (6, [.ref o_page, .int vo_pageMany, .int vo_readMany, .int vo_state, .int vo_readMost, .ref o_readRows, .int vo_glasses, .int vo_towersRead, .int vo_poured, .ref o_rows, .ref o_turns, .ref o_amounts, .ref o_drank, .long vo_spilt, .ref o_takes, .ref o_leans, .ref o_would, .int vo_done, .int vo_seedNow, .int vo_keptTower, .int vo_keptPoured, .long vo_keptSpilt, .ref o_keptAmounts, .ref o_keptDrank, .ref o_keptTurns, .long vo_hash]))] sz) (zQi r ((0 ≤ r.toInt) ∧ (r.toInt < p1.toInt)) (dC, dI) (zTy cI cJ cC) [(o, .inr (6, [.ref o_page, .int vo_pageMany, .int vo_readMany, .int vo_state, .int vo_readMost, .ref o_readRows, .int vo_glasses, .int vo_towersRead, .int vo_poured, .ref o_rows, .ref o_turns, .ref o_amounts, .ref o_drank, .long vo_spilt, .ref o_takes, .ref o_leans, .ref o_would, .int vo_done, .int qo_seedNow, .int vo_keptTower, .int vo_keptPoured, .long vo_keptSpilt, .ref o_keptAmounts, .ref o_keptDrank, .ref o_keptTurns, .long vo_hash]))] (va_A [(o, .inr (6, [.ref o_page, .int vo_pageMany, .int vo_readMany, .int vo_state, .int vo_readMost, .ref o_readRows, .int vo_glasses, .int vo_towersRead, .int vo_poured, .ref o_rows, .ref o_turns, .ref o_amounts, .ref o_drank, .long vo_spilt, .ref o_takes, .ref o_leans, .ref o_would, .int vo_done, .int vo_seedNow, .int vo_keptTower, .int vo_keptPoured, .long vo_keptSpilt, .ref o_keptAmounts, .ref o_keptDrank, .ref o_keptTurns, .long vo_hash]))] sz)) 0 0 (va_A [(o, .inr (6, [.ref o_page, .int vo_pageMany, .int vo_readMany, .int vo_state, .int vo_readMost, .ref o_readRows, .int vo_glasses, .int vo_towersRead, .int vo_poured, .ref o_rows, .ref o_turns, .ref o_amounts, .ref o_drank, .long vo_spilt, .ref o_takes, .ref o_leans, .ref o_would, .int vo_done, .int vo_seedNow, .int vo_keptTower, .int vo_keptPoured, .long vo_keptSpilt, .ref o_keptAmounts, .ref o_keptDrank, .ref o_keptTurns, .long vo_hash]))] sz) := by
  refine Met.ofW (cc := cX6_draw) (maxL := 2) (ret := (some .int)) (by decide) rfl ?_
  intro p e s m args below meth c s₁ B hml hv
  obtain ⟨rfl, hsz, hP, hK, hD0⟩ := hv
  have hx := B.exec
  have hb := B.bytes
  have hr := B.returns
  have hts := atoms_spec (ws := wsX6_draw) B.pre
  have hown : s.vm.findClass RX6 = some m.cls := findClass_of_methodNamed B.named
  have hlocks := B.notSynchronized
  subst hsz
  have hD := hD0.self (sz := s.heap.size)
  generalize hAe : va_A [(o, .inr (6, [.ref o_page, .int vo_pageMany, .int vo_readMany, .int vo_state, .int vo_readMost, .ref o_readRows, .int vo_glasses, .int vo_towersRead, .int vo_poured, .ref o_rows, .ref o_turns, .ref o_amounts, .ref o_drank, .long vo_spilt, .ref o_takes, .ref o_leans, .ref o_would, .int vo_done, .int vo_seedNow, .int vo_keptTower, .int vo_keptPoured, .long vo_keptSpilt, .ref o_keptAmounts, .ref o_keptDrank, .ref o_keptTurns, .long vo_hash]))] s.heap.size = A at hD ⊢
  have hA : ∀ q : Nat, s.heap.size ≤ q → A q := fun q h => by rw [← hAe]; exact Or.inr h
  have hS : va_S A s.heap s.heap [] := va_S.rf
  have hP : va_P (dC, dI) vwCl [(o, .inr (6, [.ref o_page, .int vo_pageMany, .int vo_readMany, .int vo_state, .int vo_readMost, .ref o_readRows, .int vo_glasses, .int vo_towersRead, .int vo_poured, .ref o_rows, .ref o_turns, .ref o_amounts, .ref o_drank, .long vo_spilt, .ref o_takes, .ref o_leans, .ref o_would, .int vo_done, .int vo_seedNow, .int vo_keptTower, .int vo_keptPoured, .long vo_keptSpilt, .ref o_keptAmounts, .ref o_keptDrank, .ref o_keptTurns, .long vo_hash]))] s.heap := hP
  have hK : va_K (dC, dI) vwCl (zTy cI cJ cC) s := hK
  have hl := lv_entry ([.ref o, .int p1]) (n := 2) (Nat.le_of_ble_eq_true rfl)
  rw [lg_entry_eq]
  generalize (lg_sl ([.ref o, .int p1]) ++ List.replicate (2 - (lg_sl ([.ref o, .int p1])).length) Slot.unset).toArray = ls at hl ⊢
  have hl : lv_has ls 2 [(0, .ref o), (1, .int p1)] := hl
  refine zz_start hP hS (fun Q hQ H locs hP hS => ?_)
  have hwX6 : ∀ w ∈ u_ws RX6 TX6 26, w ∈ wsX6_draw := by decide +kernel
  have hc_210 := (hts (.constant RX6 210 (65536)) (by decide +kernel))
  have hc_201 := (hts (.constantLong RX6 201 (1103515245)) (by decide +kernel))
  have hc_206 := (hts (.constantLong RX6 206 (12345)) (by decide +kernel))
  have hc_208 := (hts (.constantLong RX6 208 (2147483647)) (by decide +kernel))
  have hf_203 := (hts (.fieldLink RX6 203 "PouredTopmostModel" "seedNow" "I") (by decide +kernel))
  refine lv_aload_n hx hb dX6_draw_0 rfl (lv_at hl 0 rfl) ?_
  refine lv_ldc2 (v := (1103515245 : Int64)) hx hb hown hc_201 dX6_draw_1 ?_
  refine lv_aload_n hx hb dX6_draw_4 rfl (lv_at hl 0 rfl) ?_
  refine va_get (D := (dC, dI)) (ci := 6) (v := .int vo_seedNow) (C := RX6) (T := TX6) (N := 26) hx hb hts hwX6 hown hK hP 0 rfl rfl 18 (by decide) hf_203 (fun _ h9 => h9) rfl dX6_draw_5 ?_
  refine lv_i2l (v := (vo_seedNow.toInt64)) hx hb dX6_draw_8 rfl ?_
  refine lv_lmul hx hb dX6_draw_9 ?_
  refine lv_ldc2 (v := (12345 : Int64)) hx hb hown hc_206 dX6_draw_10 ?_
  refine lv_ladd hx hb dX6_draw_13 ?_
  refine lv_ldc2 (v := (2147483647 : Int64)) hx hb hown hc_208 dX6_draw_14 ?_
  refine lv_land hx hb dX6_draw_17 ?_
  refine lv_l2i (v := (((((1103515245 : Int64) * (vo_seedNow.toInt64)) + (12345 : Int64)) &&& (2147483647 : Int64)).toInt32)) hx hb dX6_draw_18 rfl ?_
  refine lv_topi (fun v1 ev1 => ?_)
  replace hT := cut_n ev1.symm hT
  refine va_put (D := (dC, dI)) (ci := 6) (v := .int v1) (ty := .int) (C := RX6) (T := TX6) (N := 26) hx hb hts hwX6 tyX6 tyX6_ok nmX6 hown hK hP hD hS 0 rfl rfl 18 (by decide) hf_203 (fun _ h9 => h9) rfl (by decide +kernel) rfl rfl (Nat.le_of_ble_eq_true rfl) dX6_draw_19 (fun H locs hP hD hS => ?_)
  have hP : va_P (dC, dI) vwCl [(o, .inr (6, [.ref o_page, .int vo_pageMany, .int vo_readMany, .int vo_state, .int vo_readMost, .ref o_readRows, .int vo_glasses, .int vo_towersRead, .int vo_poured, .ref o_rows, .ref o_turns, .ref o_amounts, .ref o_drank, .long vo_spilt, .ref o_takes, .ref o_leans, .ref o_would, .int vo_done, .int v1, .int vo_keptTower, .int vo_keptPoured, .long vo_keptSpilt, .ref o_keptAmounts, .ref o_keptDrank, .ref o_keptTurns, .long vo_hash]))] H := hP
  have hD : va_D A [(o, .inr (6, [.ref o_page, .int vo_pageMany, .int vo_readMany, .int vo_state, .int vo_readMost, .ref o_readRows, .int vo_glasses, .int vo_towersRead, .int vo_poured, .ref o_rows, .ref o_turns, .ref o_amounts, .ref o_drank, .long vo_spilt, .ref o_takes, .ref o_leans, .ref o_would, .int vo_done, .int v1, .int vo_keptTower, .int vo_keptPoured, .long vo_keptSpilt, .ref o_keptAmounts, .ref o_keptDrank, .ref o_keptTurns, .long vo_hash]))] := hD
  refine lv_aload_n hx hb dX6_draw_22 rfl (lv_at hl 0 rfl) ?_
  refine va_get (D := (dC, dI)) (ci := 6) (v := .int v1) (C := RX6) (T := TX6) (N := 26) hx hb hts hwX6 hown hK hP 0 rfl rfl 18 (by decide) hf_203 (fun _ h9 => h9) rfl dX6_draw_23 ?_
  refine lv_ldc (v := (65536 : Int32)) hx hb hown hc_210 dX6_draw_26 ?_
  have h_1 : ¬ (65536 : Int32) = 0 := by decide
  refine lv_idiv hx hb dX6_draw_28 h_1 ?_
  refine lv_iload_n hx hb dX6_draw_29 rfl (lv_at hl 1 rfl) ?_
  have h_2 : ¬ p1 = 0 := z0ne (by omega)
  refine lv_irem hx hb dX6_draw_30 h_2 ?_
  have hP9 := hP
  have hD9 := hD
  have hS9 := hS
  have hT : (((v1 / (65536 : Int32)) - (v1 / (65536 : Int32)) / p1 * p1), v1) = (r, qo_seedNow) := hT
  cases hT
  subst hQ
  exact zz_iret hx hb hr [0] hK hP9 hD9 hS9 rfl rfl ⟨(zdr1 ev1 (by omega)), (zdr2 ev1 (by omega))⟩ hlocks dX6_draw_31

def rs_X6_pourings_4 (p3 : Int32) (x11 : Int32) (u4 : Nat → Int64) (u5 : Nat → Int32) (x12 : Nat → Int64) (x28 : Int32) (x29 : Int32) (x30 : Int32) : Int32 × Int32 × (Nat → Int64) × (Nat → Int32) × (Nat → Int64) :=
 if p3 = (0 : Int32) then
  (x30, x11, u4, u5, x12)
 else
  if p3 = (1 : Int32) then
   (x29, x11, u4, u5, x12)
  else
   (x11, x11, u4, u5, x12)
def lp_X6_pourings_4 (vo_glasses : Int32) (ct4 : Int32 → Int32 → Int32 → (Int32 × Int32 × (Nat → Int64) × (Nat → Int32) × (Nat → Int64))) (x12 : Nat → Int64) (u4 : Nat → Int64) : Nat → Int32 → Int32 → Int32 → (Int32 × Int32 × (Nat → Int64) × (Nat → Int32) × (Nat → Int64))
  | 0, _, _, _ => default
  | k + 1, b25, b26, b27 =>
  if vo_glasses ≤ b25 then
   (ct4 b25 b26 b27)
  else
   cut (
    if (lg_cmp (x12 b25.toNatClampNeg) (u4 b25.toNatClampNeg)) = (0 : Int32) then
     (1 : Int32)
    else
     (0 : Int32)) (fun (j31 : Int32) =>
   cut (b27 + j31) (fun (v32 : Int32) =>
   cut (
    if (lg_cmp (x12 b25.toNatClampNeg) (0 : Int64)) = (0 : Int32) then
     (1 : Int32)
    else
     (0 : Int32)) (fun (j33 : Int32) =>
   cut (b26 + j33) (fun (v34 : Int32) =>
   cut (b25 + (1 : Int32)) (fun (v35 : Int32) =>
   (lp_X6_pourings_4 vo_glasses ct4 x12 u4 k v35 v34 v32))))))
def rs_X6_pourings_3 (vo_glasses : Int32) (p3 : Int32) (u4 : Nat → Int64) (u5 : Nat → Int32) (x10 : Int32) (x11 : Int32) (x12 : Nat → Int64) : Int32 × Int32 × (Nat → Int64) × (Nat → Int32) × (Nat → Int64) :=
 (lp_X6_pourings_4 vo_glasses (rs_X6_pourings_4 p3 x11 u4 u5 x12) x12 u4 11 (0 : Int32) (0 : Int32) (0 : Int32))
def lp_X6_pourings_3 (p1 : Int32) (ct3 : Int32 → Int32 → (Nat → Int64) → (Int32 × Int32 × (Nat → Int64) × (Nat → Int32) × (Nat → Int64))) (vo_glasses : Int32) (vo_rows : Nat → Int32) (u4 : Nat → Int64) (u5 : Nat → Int32) : Nat → Int32 → Int32 → (Nat → Int64) → (Int32 × Int32 × (Nat → Int64) × (Nat → Int32) × (Nat → Int64))
  | 0, _, _, _ => default
  | k + 1, b7, b8, b9 =>
  if p1 ≤ b7 then
   (ct3 b7 b8 b9)
  else
   cut2 (m_X6_draw b8 vo_glasses) (fun (r13 : Int32) (u14 : Int32) =>
   cut (vp_updL b9 r13.toNatClampNeg ((b9 r13.toNatClampNeg) + (429981696 : Int64))) (fun (a15 : Nat → Int64) =>
   cut2 (m_X6_runOver_w vo_glasses vo_rows u4 u5 a15) (fun (r16 : Int64) (u17 : Nat → Int64) =>
   cut2 (m_X6_draw u14 (4 : Int32)) (fun (r18 : Int32) (u19 : Int32) =>
   if r18 = (0 : Int32) then
    cut2 (m_X6_draw u19 vo_glasses) (fun (r21 : Int32) (u22 : Int32) =>
    cut (vp_updL u17 r21.toNatClampNeg (0 : Int64)) (fun (a23 : Nat → Int64) =>
    cut (b7 + (1 : Int32)) (fun (v24 : Int32) =>
    (lp_X6_pourings_3 p1 ct3 vo_glasses vo_rows u4 u5 k v24 u22 a23))))
   else
    cut (b7 + (1 : Int32)) (fun (v20 : Int32) =>
    (lp_X6_pourings_3 p1 ct3 vo_glasses vo_rows u4 u5 k v20 u19 u17))))))
def m_X6_pourings (vo_glasses : Int32) (vo_seedNow : Int32) (vo_rows : Nat → Int32) (vo_amounts : Nat → Int64) (vo_takes : Nat → Int64) (vo_leans : Nat → Int32) (vo_would : Nat → Int64) (p1 : Int32) (p2 : Int32) (p3 : Int32) : Int32 × Int32 × (Nat → Int64) × (Nat → Int32) × (Nat → Int64) :=
 cut (m_X6_lacks vo_glasses) (fun (r1 : Int32) =>
 if r1 = (0 : Int32) then
  cut (m_X6_isIn (p1.toInt64) (1 : Int64) (60 : Int64)) (fun (r2 : Int32) =>
  if r2 = (0 : Int32) then
   ((-102 : Int32), vo_seedNow, vo_takes, vo_leans, vo_would)
  else
   if p2 < (0 : Int32) then
    ((-102 : Int32), vo_seedNow, vo_takes, vo_leans, vo_would)
   else
    cut (m_X6_isIn (p3.toInt64) (0 : Int64) (2 : Int64)) (fun (r3 : Int32) =>
    if r3 = (0 : Int32) then
     ((-102 : Int32), vo_seedNow, vo_takes, vo_leans, vo_would)
    else
     cut3 (m_X6_beginWould vo_glasses vo_rows vo_amounts vo_takes vo_leans vo_would (1 : Int32)) (fun (u4 : Nat → Int64) (u5 : Nat → Int32) (u6 : Nat → Int64) =>
     (lp_X6_pourings_3 p1 (rs_X6_pourings_3 vo_glasses p3 u4 u5) vo_glasses vo_rows u4 u5 62 (0 : Int32) p2 u6))))
 else
  ((-103 : Int32), vo_seedNow, vo_takes, vo_leans, vo_would))
set_option maxHeartbeats 4000000 in
set_option maxRecDepth 100000 in
theorem k_X6_pourings (l : Launch) (dC : Nat → ClassId) (dI : Nat → Nat → Nat) (cI cJ cC : ClassId) (sz : Nat) (o o_page o_readRows o_rows o_turns o_amounts o_drank o_takes o_leans o_would o_keptAmounts o_keptDrank o_keptTurns : Nat) (vo_pageMany : Int32) (vo_readMany : Int32) (vo_state : Int32) (vo_readMost : Int32) (vo_glasses : Int32) (vo_towersRead : Int32) (vo_poured : Int32) (vo_spilt : Int64) (vo_done : Int32) (vo_seedNow : Int32) (vo_keptTower : Int32) (vo_keptPoured : Int32) (vo_keptSpilt : Int64) (vo_hash : Int64) (vo_rows : Nat → Int32) (vo_amounts : Nat → Int64) (vo_takes : Nat → Int64) (vo_leans : Nat → Int32) (vo_would : Nat → Int64) (p1 : Int32) (p2 : Int32) (p3 : Int32) (r : Int32) (qo_seedNow : Int32) (qo_takes : Nat → Int64) (qo_leans : Nat → Int32) (qo_would : Nat → Int64) (hT : m_X6_pourings vo_glasses vo_seedNow vo_rows vo_amounts vo_takes vo_leans vo_would p1 p2 p3 = (r, qo_seedNow, qo_takes, qo_leans, qo_would)) (hg0 : 0 ≤ vo_glasses.toInt) (hg9 : vo_glasses.toInt ≤ 9) (hrw : zRw vo_rows) (hln : zLn vo_leans) : Met l yX6_pourings wsX6_pourings ({ frames := 3, cells := 0, slots := 0, locals := 66 }) (zPc [.ref o, .int p1, .int p2, .int p3] (dC, dI) (zTy cI cJ cC) [(o, .inr (6, [.ref o_page, .int vo_pageMany, .int vo_readMany, .int vo_state, .int vo_readMost, .ref o_readRows, .int vo_glasses, .int vo_towersRead, .int vo_poured, .ref o_rows, .ref o_turns, .ref o_amounts, .ref o_drank, .long vo_spilt, .ref o_takes, .ref o_leans, .ref o_would, .int vo_done, .int vo_seedNow, .int vo_keptTower, .int vo_keptPoured, .long vo_keptSpilt, .ref o_keptAmounts, .ref o_keptDrank, .ref o_keptTurns, .long vo_hash])), (o_rows, .inl (cI, 54, .inl vo_rows)), (o_amounts, .inl (cJ, 9, .inr (.inl vo_amounts))), (o_takes, .inl (cJ, 9, .inr (.inl vo_takes))), (o_leans, .inl (cI, 9, .inl vo_leans)), (o_would, .inl (cJ, 9, .inr (.inl vo_would)))] sz) (zQi r ((zLn qo_leans)) (dC, dI) (zTy cI cJ cC) [(o, .inr (6, [.ref o_page, .int vo_pageMany, .int vo_readMany, .int vo_state, .int vo_readMost, .ref o_readRows, .int vo_glasses, .int vo_towersRead, .int vo_poured, .ref o_rows, .ref o_turns, .ref o_amounts, .ref o_drank, .long vo_spilt, .ref o_takes, .ref o_leans, .ref o_would, .int vo_done, .int qo_seedNow, .int vo_keptTower, .int vo_keptPoured, .long vo_keptSpilt, .ref o_keptAmounts, .ref o_keptDrank, .ref o_keptTurns, .long vo_hash])), (o_rows, .inl (cI, 54, .inl vo_rows)), (o_amounts, .inl (cJ, 9, .inr (.inl vo_amounts))), (o_takes, .inl (cJ, 9, .inr (.inl qo_takes))), (o_leans, .inl (cI, 9, .inl qo_leans)), (o_would, .inl (cJ, 9, .inr (.inl qo_would)))] (va_A [(o, .inr (6, [.ref o_page, .int vo_pageMany, .int vo_readMany, .int vo_state, .int vo_readMost, .ref o_readRows, .int vo_glasses, .int vo_towersRead, .int vo_poured, .ref o_rows, .ref o_turns, .ref o_amounts, .ref o_drank, .long vo_spilt, .ref o_takes, .ref o_leans, .ref o_would, .int vo_done, .int vo_seedNow, .int vo_keptTower, .int vo_keptPoured, .long vo_keptSpilt, .ref o_keptAmounts, .ref o_keptDrank, .ref o_keptTurns, .long vo_hash])), (o_rows, .inl (cI, 54, .inl vo_rows)), (o_amounts, .inl (cJ, 9, .inr (.inl vo_amounts))), (o_takes, .inl (cJ, 9, .inr (.inl vo_takes))), (o_leans, .inl (cI, 9, .inl vo_leans)), (o_would, .inl (cJ, 9, .inr (.inl vo_would)))] sz)) 0 0 (va_A [(o, .inr (6, [.ref o_page, .int vo_pageMany, .int vo_readMany, .int vo_state, .int vo_readMost, .ref o_readRows, .int vo_glasses, .int vo_towersRead, .int vo_poured, .ref o_rows, .ref o_turns, .ref o_amounts, .ref o_drank, .long vo_spilt, .ref o_takes, .ref o_leans, .ref o_would, .int vo_done, .int vo_seedNow, .int vo_keptTower, .int vo_keptPoured, .long vo_keptSpilt, .ref o_keptAmounts, .ref o_keptDrank, .ref o_keptTurns, .long vo_hash])), (o_rows, .inl (cI, 54, .inl vo_rows)), (o_amounts, .inl (cJ, 9, .inr (.inl vo_amounts))), (o_takes, .inl (cJ, 9, .inr (.inl vo_takes))), (o_leans, .inl (cI, 9, .inl vo_leans)), (o_would, .inl (cJ, 9, .inr (.inl vo_would)))] sz) := by
  refine Met.ofW (cc := cX6_pourings) (maxL := 9) (ret := (some .int)) (by decide) rfl ?_
  intro p e s m args below meth c s₁ B hml hv
  obtain ⟨rfl, hsz, hP, hK, hD0⟩ := hv
  have hx := B.exec
  have hb := B.bytes
  have hr := B.returns
  have hts := atoms_spec (ws := wsX6_pourings) B.pre
  have hown : s.vm.findClass RX6 = some m.cls := findClass_of_methodNamed B.named
  have hlocks := B.notSynchronized
  subst hsz
  have hD := hD0.self (sz := s.heap.size)
  generalize hAe : va_A [(o, .inr (6, [.ref o_page, .int vo_pageMany, .int vo_readMany, .int vo_state, .int vo_readMost, .ref o_readRows, .int vo_glasses, .int vo_towersRead, .int vo_poured, .ref o_rows, .ref o_turns, .ref o_amounts, .ref o_drank, .long vo_spilt, .ref o_takes, .ref o_leans, .ref o_would, .int vo_done, .int vo_seedNow, .int vo_keptTower, .int vo_keptPoured, .long vo_keptSpilt, .ref o_keptAmounts, .ref o_keptDrank, .ref o_keptTurns, .long vo_hash])), (o_rows, .inl (cI, 54, .inl vo_rows)), (o_amounts, .inl (cJ, 9, .inr (.inl vo_amounts))), (o_takes, .inl (cJ, 9, .inr (.inl vo_takes))), (o_leans, .inl (cI, 9, .inl vo_leans)), (o_would, .inl (cJ, 9, .inr (.inl vo_would)))] s.heap.size = A at hD ⊢
  have hA : ∀ q : Nat, s.heap.size ≤ q → A q := fun q h => by rw [← hAe]; exact Or.inr h
  have hS : va_S A s.heap s.heap [] := va_S.rf
  have hP : va_P (dC, dI) vwCl [(o, .inr (6, [.ref o_page, .int vo_pageMany, .int vo_readMany, .int vo_state, .int vo_readMost, .ref o_readRows, .int vo_glasses, .int vo_towersRead, .int vo_poured, .ref o_rows, .ref o_turns, .ref o_amounts, .ref o_drank, .long vo_spilt, .ref o_takes, .ref o_leans, .ref o_would, .int vo_done, .int vo_seedNow, .int vo_keptTower, .int vo_keptPoured, .long vo_keptSpilt, .ref o_keptAmounts, .ref o_keptDrank, .ref o_keptTurns, .long vo_hash])), (o_rows, .inl (cI, 54, .inl vo_rows)), (o_amounts, .inl (cJ, 9, .inr (.inl vo_amounts))), (o_takes, .inl (cJ, 9, .inr (.inl vo_takes))), (o_leans, .inl (cI, 9, .inl vo_leans)), (o_would, .inl (cJ, 9, .inr (.inl vo_would)))] s.heap := hP
  have hK : va_K (dC, dI) vwCl (zTy cI cJ cC) s := hK
  have hl := lv_entry ([.ref o, .int p1, .int p2, .int p3]) (n := 9) (Nat.le_of_ble_eq_true rfl)
  rw [lg_entry_eq]
  generalize (lg_sl ([.ref o, .int p1, .int p2, .int p3]) ++ List.replicate (9 - (lg_sl ([.ref o, .int p1, .int p2, .int p3])).length) Slot.unset).toArray = ls at hl ⊢
  have hl : lv_has ls 9 [(0, .ref o), (1, .int p1), (2, .int p2), (3, .int p3)] := hl
  refine zz_start hP hS (fun Q hQ H locs hP hS => ?_)
  have hwX6 : ∀ w ∈ u_ws RX6 TX6 26, w ∈ wsX6_pourings := by decide +kernel
  have hc_113 := (hts (.constantLong RX6 113 (429981696)) (by decide +kernel))
  have hc_211 := (hts (.constantLong RX6 211 (60)) (by decide +kernel))
  have hc_213 := (hts (.constantLong RX6 213 (2)) (by decide +kernel))
  have hf_203 := (hts (.fieldLink RX6 203 "PouredTopmostModel" "seedNow" "I") (by decide +kernel))
  have hf_29 := (hts (.fieldLink RX6 29 "PouredTopmostModel" "takes" "[J") (by decide +kernel))
  have hf_35 := (hts (.fieldLink RX6 35 "PouredTopmostModel" "would" "[J") (by decide +kernel))
  have hf_97 := (hts (.fieldLink RX6 97 "PouredTopmostModel" "glasses" "I") (by decide +kernel))
  refine lv_aload_n hx hb dX6_pourings_0 rfl (lv_at hl 0 rfl) ?_
  obtain ⟨r1, ev_1⟩ : ∃ x0, (m_X6_lacks vo_glasses) = x0 := ⟨_, rfl⟩
  replace hT := cut_n ev_1 hT
  refine zz_ci [0] [1, 2, 3, 4, 5] (wr := [(o_rows, .inl (cI, 54, .inl vo_rows)), (o_amounts, .inl (cJ, 9, .inr (.inl vo_amounts))), (o_takes, .inl (cJ, 9, .inr (.inl vo_takes))), (o_leans, .inl (cI, 9, .inl vo_leans)), (o_would, .inl (cJ, 9, .inr (.inl vo_would)))]) (w1 := [(o, .inr (6, [.ref o_page, .int vo_pageMany, .int vo_readMany, .int vo_state, .int vo_readMost, .ref o_readRows, .int vo_glasses, .int vo_towersRead, .int vo_poured, .ref o_rows, .ref o_turns, .ref o_amounts, .ref o_drank, .long vo_spilt, .ref o_takes, .ref o_leans, .ref o_would, .int vo_done, .int vo_seedNow, .int vo_keptTower, .int vo_keptPoured, .long vo_keptSpilt, .ref o_keptAmounts, .ref o_keptDrank, .ref o_keptTurns, .long vo_hash]))]) (va_runV (As := []) (rest := []) ⟨hx, hb, hml, hown, hts⟩ (k_X6_lacks l dC dI cI cJ cC H.size o o_page o_readRows o_rows o_turns o_amounts o_drank o_takes o_leans o_would o_keptAmounts o_keptDrank o_keptTurns vo_pageMany vo_readMany vo_state vo_readMost vo_glasses vo_towersRead vo_poured vo_spilt vo_done vo_seedNow vo_keptTower vo_keptPoured vo_keptSpilt vo_hash r1 ev_1) (cwV 0 hts gX6_pourings_X6_lacks rfl rfl rfl (by decide +kernel) ⟨Nat.le_of_ble_eq_true rfl, Nat.le_of_ble_eq_true rfl⟩) (zz_preV [0] hK hP hD rfl rfl (va_recv hK hP (ci := 6) (q0 := 0) rfl rfl)) rfl rfl hl.1 rfl (lv_room (Nat.le_of_ble_eq_true rfl)) dX6_pourings_1 ⟨Nat.zero_le _, Nat.zero_le _⟩) hP hD hS hA rfl rfl rfl (by decide) (fun ok_2 H locs hP hD hS => ?_)
  have hP : va_P (dC, dI) vwCl [(o_rows, .inl (cI, 54, .inl vo_rows)), (o_amounts, .inl (cJ, 9, .inr (.inl vo_amounts))), (o_takes, .inl (cJ, 9, .inr (.inl vo_takes))), (o_leans, .inl (cI, 9, .inl vo_leans)), (o_would, .inl (cJ, 9, .inr (.inl vo_would))), (o, .inr (6, [.ref o_page, .int vo_pageMany, .int vo_readMany, .int vo_state, .int vo_readMost, .ref o_readRows, .int vo_glasses, .int vo_towersRead, .int vo_poured, .ref o_rows, .ref o_turns, .ref o_amounts, .ref o_drank, .long vo_spilt, .ref o_takes, .ref o_leans, .ref o_would, .int vo_done, .int vo_seedNow, .int vo_keptTower, .int vo_keptPoured, .long vo_keptSpilt, .ref o_keptAmounts, .ref o_keptDrank, .ref o_keptTurns, .long vo_hash]))] H := hP
  have hD : va_D A [(o_rows, .inl (cI, 54, .inl vo_rows)), (o_amounts, .inl (cJ, 9, .inr (.inl vo_amounts))), (o_takes, .inl (cJ, 9, .inr (.inl vo_takes))), (o_leans, .inl (cI, 9, .inl vo_leans)), (o_would, .inl (cJ, 9, .inr (.inl vo_would))), (o, .inr (6, [.ref o_page, .int vo_pageMany, .int vo_readMany, .int vo_state, .int vo_readMost, .ref o_readRows, .int vo_glasses, .int vo_towersRead, .int vo_poured, .ref o_rows, .ref o_turns, .ref o_amounts, .ref o_drank, .long vo_spilt, .ref o_takes, .ref o_leans, .ref o_would, .int vo_done, .int vo_seedNow, .int vo_keptTower, .int vo_keptPoured, .long vo_keptSpilt, .ref o_keptAmounts, .ref o_keptDrank, .ref o_keptTurns, .long vo_hash]))] := hD
  obtain ⟨k_3, k_4, k_5⟩ := ok_2
  refine lv_if_eq (tgt := 10) hx hb dX6_pourings_4 (by decide) (fun c_6 => ?_) (fun c_6 => ?_)
  · replace hT := cutT c_6 hT
    have g_54 := zeqT (rfl : (r1).toInt = _) (by decide : ((0 : Int32)).toInt = 0) c_6
    refine lv_iload_n hx hb dX6_pourings_10 rfl (lv_at hl 1 rfl) ?_
    refine lv_i2l (v := (p1.toInt64)) hx hb dX6_pourings_11 rfl ?_
    refine lv_lconst (v := (1 : Int64)) hx hb dX6_pourings_12 (by decide) ?_
    refine lv_ldc2 (v := (60 : Int64)) hx hb hown hc_211 dX6_pourings_13 ?_
    obtain ⟨r2, ev_7⟩ : ∃ x0, (m_X6_isIn (p1.toInt64) (1 : Int64) (60 : Int64)) = x0 := ⟨_, rfl⟩
    replace hT := cut_n ev_7 hT
    refine zz_ci [] [0, 1, 2, 3, 4, 5] (wr := [(o_rows, .inl (cI, 54, .inl vo_rows)), (o_amounts, .inl (cJ, 9, .inr (.inl vo_amounts))), (o_takes, .inl (cJ, 9, .inr (.inl vo_takes))), (o_leans, .inl (cI, 9, .inl vo_leans)), (o_would, .inl (cJ, 9, .inr (.inl vo_would))), (o, .inr (6, [.ref o_page, .int vo_pageMany, .int vo_readMany, .int vo_state, .int vo_readMost, .ref o_readRows, .int vo_glasses, .int vo_towersRead, .int vo_poured, .ref o_rows, .ref o_turns, .ref o_amounts, .ref o_drank, .long vo_spilt, .ref o_takes, .ref o_leans, .ref o_would, .int vo_done, .int vo_seedNow, .int vo_keptTower, .int vo_keptPoured, .long vo_keptSpilt, .ref o_keptAmounts, .ref o_keptDrank, .ref o_keptTurns, .long vo_hash]))]) (w1 := []) (va_runS (As := [.long (p1.toInt64), .long (1 : Int64), .long (60 : Int64)]) (rest := []) ⟨hx, hb, hml, hown, hts⟩ (k_X6_isIn l dC dI cI cJ cC H.size (p1.toInt64) (1 : Int64) (60 : Int64) r2 ev_7) (va_cwS 3 hts gX6_pourings_X6_isIn rfl rfl rfl (by decide +kernel) ⟨Nat.le_of_ble_eq_true rfl, Nat.le_of_ble_eq_true rfl⟩) (zz_preS [] hK hP hD rfl rfl) rfl rfl hl.1 rfl (lv_room (Nat.le_of_ble_eq_true rfl)) dX6_pourings_16 ⟨Nat.zero_le _, Nat.zero_le _⟩) hP hD hS hA rfl rfl rfl (by decide) (fun ok_8 H locs hP hD hS => ?_)
    have hP : va_P (dC, dI) vwCl [(o_rows, .inl (cI, 54, .inl vo_rows)), (o_amounts, .inl (cJ, 9, .inr (.inl vo_amounts))), (o_takes, .inl (cJ, 9, .inr (.inl vo_takes))), (o_leans, .inl (cI, 9, .inl vo_leans)), (o_would, .inl (cJ, 9, .inr (.inl vo_would))), (o, .inr (6, [.ref o_page, .int vo_pageMany, .int vo_readMany, .int vo_state, .int vo_readMost, .ref o_readRows, .int vo_glasses, .int vo_towersRead, .int vo_poured, .ref o_rows, .ref o_turns, .ref o_amounts, .ref o_drank, .long vo_spilt, .ref o_takes, .ref o_leans, .ref o_would, .int vo_done, .int vo_seedNow, .int vo_keptTower, .int vo_keptPoured, .long vo_keptSpilt, .ref o_keptAmounts, .ref o_keptDrank, .ref o_keptTurns, .long vo_hash]))] H := hP
    have hD : va_D A [(o_rows, .inl (cI, 54, .inl vo_rows)), (o_amounts, .inl (cJ, 9, .inr (.inl vo_amounts))), (o_takes, .inl (cJ, 9, .inr (.inl vo_takes))), (o_leans, .inl (cI, 9, .inl vo_leans)), (o_would, .inl (cJ, 9, .inr (.inl vo_would))), (o, .inr (6, [.ref o_page, .int vo_pageMany, .int vo_readMany, .int vo_state, .int vo_readMost, .ref o_readRows, .int vo_glasses, .int vo_towersRead, .int vo_poured, .ref o_rows, .ref o_turns, .ref o_amounts, .ref o_drank, .long vo_spilt, .ref o_takes, .ref o_leans, .ref o_would, .int vo_done, .int vo_seedNow, .int vo_keptTower, .int vo_keptPoured, .long vo_keptSpilt, .ref o_keptAmounts, .ref o_keptDrank, .ref o_keptTurns, .long vo_hash]))] := hD
    have hz_9 : ((p1.toInt64)).toInt = (p1).toInt := Int32.toInt_toInt64 _
    have hz_10 : ((1 : Int64)).toInt = 1 := by decide
    have hz_11 : ((60 : Int64)).toInt = 60 := by decide
    obtain ⟨k_12, k_13⟩ := ok_8
    refine lv_if_eq (tgt := 38) hx hb dX6_pourings_19 (by decide) (fun c_14 => ?_) (fun c_14 => ?_)
    · replace hT := cutT c_14 hT
      have g_55 := zeqT (rfl : (r2).toInt = _) (by decide : ((0 : Int32)).toInt = 0) c_14
      refine lv_bipush (v := (-102 : Int32)) hx hb dX6_pourings_38 (by decide) ?_
      have hP9 := hP
      have hD9 := hD
      have hS9 := hS
      have hT : ((-102 : Int32), vo_seedNow, vo_takes, vo_leans, vo_would) = (r, qo_seedNow, qo_takes, qo_leans, qo_would) := hT
      cases hT
      subst hQ
      exact zz_iret hx hb hr [5, 0, 1, 2, 3, 4] hK hP9 hD9 hS9 rfl rfl (by assumption) hlocks dX6_pourings_40
    · replace hT := cutF c_14 hT
      have g_56 := zeqF (rfl : (r2).toInt = _) (by decide : ((0 : Int32)).toInt = 0) c_14
      refine lv_iload_n hx hb dX6_pourings_22 rfl (lv_at hl 2 rfl) ?_
      refine lv_if_lt (tgt := 38) hx hb dX6_pourings_23 (by decide) (fun c_15 => ?_) (fun c_15 => ?_)
      · replace hT := cutT c_15 hT
        have g_57 := zltT (rfl : (p2).toInt = _) (by decide : ((0 : Int32)).toInt = 0) c_15
        refine lv_bipush (v := (-102 : Int32)) hx hb dX6_pourings_38 (by decide) ?_
        have hP9 := hP
        have hD9 := hD
        have hS9 := hS
        have hT : ((-102 : Int32), vo_seedNow, vo_takes, vo_leans, vo_would) = (r, qo_seedNow, qo_takes, qo_leans, qo_would) := hT
        cases hT
        subst hQ
        exact zz_iret hx hb hr [5, 0, 1, 2, 3, 4] hK hP9 hD9 hS9 rfl rfl (by assumption) hlocks dX6_pourings_40
      · replace hT := cutF c_15 hT
        have g_58 := zltF (rfl : (p2).toInt = _) (by decide : ((0 : Int32)).toInt = 0) c_15
        refine lv_iload_n hx hb dX6_pourings_26 rfl (lv_at hl 3 rfl) ?_
        refine lv_i2l (v := (p3.toInt64)) hx hb dX6_pourings_27 rfl ?_
        refine lv_lconst (v := (0 : Int64)) hx hb dX6_pourings_28 (by decide) ?_
        refine lv_ldc2 (v := (2 : Int64)) hx hb hown hc_213 dX6_pourings_29 ?_
        obtain ⟨r3, ev_16⟩ : ∃ x0, (m_X6_isIn (p3.toInt64) (0 : Int64) (2 : Int64)) = x0 := ⟨_, rfl⟩
        replace hT := cut_n ev_16 hT
        refine zz_ci [] [0, 1, 2, 3, 4, 5] (wr := [(o_rows, .inl (cI, 54, .inl vo_rows)), (o_amounts, .inl (cJ, 9, .inr (.inl vo_amounts))), (o_takes, .inl (cJ, 9, .inr (.inl vo_takes))), (o_leans, .inl (cI, 9, .inl vo_leans)), (o_would, .inl (cJ, 9, .inr (.inl vo_would))), (o, .inr (6, [.ref o_page, .int vo_pageMany, .int vo_readMany, .int vo_state, .int vo_readMost, .ref o_readRows, .int vo_glasses, .int vo_towersRead, .int vo_poured, .ref o_rows, .ref o_turns, .ref o_amounts, .ref o_drank, .long vo_spilt, .ref o_takes, .ref o_leans, .ref o_would, .int vo_done, .int vo_seedNow, .int vo_keptTower, .int vo_keptPoured, .long vo_keptSpilt, .ref o_keptAmounts, .ref o_keptDrank, .ref o_keptTurns, .long vo_hash]))]) (w1 := []) (va_runS (As := [.long (p3.toInt64), .long (0 : Int64), .long (2 : Int64)]) (rest := []) ⟨hx, hb, hml, hown, hts⟩ (k_X6_isIn l dC dI cI cJ cC H.size (p3.toInt64) (0 : Int64) (2 : Int64) r3 ev_16) (va_cwS 3 hts gX6_pourings_X6_isIn rfl rfl rfl (by decide +kernel) ⟨Nat.le_of_ble_eq_true rfl, Nat.le_of_ble_eq_true rfl⟩) (zz_preS [] hK hP hD rfl rfl) rfl rfl hl.1 rfl (lv_room (Nat.le_of_ble_eq_true rfl)) dX6_pourings_32 ⟨Nat.zero_le _, Nat.zero_le _⟩) hP hD hS hA rfl rfl rfl (by decide) (fun ok_17 H locs hP hD hS => ?_)
        have hP : va_P (dC, dI) vwCl [(o_rows, .inl (cI, 54, .inl vo_rows)), (o_amounts, .inl (cJ, 9, .inr (.inl vo_amounts))), (o_takes, .inl (cJ, 9, .inr (.inl vo_takes))), (o_leans, .inl (cI, 9, .inl vo_leans)), (o_would, .inl (cJ, 9, .inr (.inl vo_would))), (o, .inr (6, [.ref o_page, .int vo_pageMany, .int vo_readMany, .int vo_state, .int vo_readMost, .ref o_readRows, .int vo_glasses, .int vo_towersRead, .int vo_poured, .ref o_rows, .ref o_turns, .ref o_amounts, .ref o_drank, .long vo_spilt, .ref o_takes, .ref o_leans, .ref o_would, .int vo_done, .int vo_seedNow, .int vo_keptTower, .int vo_keptPoured, .long vo_keptSpilt, .ref o_keptAmounts, .ref o_keptDrank, .ref o_keptTurns, .long vo_hash]))] H := hP
        have hD : va_D A [(o_rows, .inl (cI, 54, .inl vo_rows)), (o_amounts, .inl (cJ, 9, .inr (.inl vo_amounts))), (o_takes, .inl (cJ, 9, .inr (.inl vo_takes))), (o_leans, .inl (cI, 9, .inl vo_leans)), (o_would, .inl (cJ, 9, .inr (.inl vo_would))), (o, .inr (6, [.ref o_page, .int vo_pageMany, .int vo_readMany, .int vo_state, .int vo_readMost, .ref o_readRows, .int vo_glasses, .int vo_towersRead, .int vo_poured, .ref o_rows, .ref o_turns, .ref o_amounts, .ref o_drank, .long vo_spilt, .ref o_takes, .ref o_leans, .ref o_would, .int vo_done, .int vo_seedNow, .int vo_keptTower, .int vo_keptPoured, .long vo_keptSpilt, .ref o_keptAmounts, .ref o_keptDrank, .ref o_keptTurns, .long vo_hash]))] := hD
        have hz_18 : ((p3.toInt64)).toInt = (p3).toInt := Int32.toInt_toInt64 _
        have hz_19 : ((0 : Int64)).toInt = 0 := by decide
        have hz_20 : ((2 : Int64)).toInt = 2 := by decide
        obtain ⟨k_21, k_22⟩ := ok_17
        refine lv_if_ne (tgt := 41) hx hb dX6_pourings_35 (by decide) (fun c_23 => ?_) (fun c_23 => ?_)
        · replace hT := cutF c_23 hT
          have g_59 := zeqF (rfl : (r3).toInt = _) (by decide : ((0 : Int32)).toInt = 0) c_23
          refine lv_aload_n hx hb dX6_pourings_41 rfl (lv_at hl 0 rfl) ?_
          refine lv_iconst (v := (1 : Int32)) hx hb dX6_pourings_42 (by decide) ?_
          obtain ⟨u4, u5, u6, ev_24⟩ : ∃ x0 x1 x2, (m_X6_beginWould vo_glasses vo_rows vo_amounts vo_takes vo_leans vo_would (1 : Int32)) = (x0, x1, x2) := ⟨_, _, _, rfl⟩
          replace hT := cut3_n ev_24 hT
          refine zz_cv [5, 0, 1, 2, 3, 4] [] (wr := []) (w1 := [(o, .inr (6, [.ref o_page, .int vo_pageMany, .int vo_readMany, .int vo_state, .int vo_readMost, .ref o_readRows, .int vo_glasses, .int vo_towersRead, .int vo_poured, .ref o_rows, .ref o_turns, .ref o_amounts, .ref o_drank, .long vo_spilt, .ref o_takes, .ref o_leans, .ref o_would, .int vo_done, .int vo_seedNow, .int vo_keptTower, .int vo_keptPoured, .long vo_keptSpilt, .ref o_keptAmounts, .ref o_keptDrank, .ref o_keptTurns, .long vo_hash])), (o_rows, .inl (cI, 54, .inl vo_rows)), (o_amounts, .inl (cJ, 9, .inr (.inl vo_amounts))), (o_takes, .inl (cJ, 9, .inr (.inl u4))), (o_leans, .inl (cI, 9, .inl u5)), (o_would, .inl (cJ, 9, .inr (.inl u6)))]) (va_runV (As := [.int (1 : Int32)]) (rest := []) ⟨hx, hb, hml, hown, hts⟩ (k_X6_beginWould l dC dI cI cJ cC H.size o o_page o_readRows o_rows o_turns o_amounts o_drank o_takes o_leans o_would o_keptAmounts o_keptDrank o_keptTurns vo_pageMany vo_readMany vo_state vo_readMost vo_glasses vo_towersRead vo_poured vo_spilt vo_done vo_seedNow vo_keptTower vo_keptPoured vo_keptSpilt vo_hash vo_rows vo_amounts vo_takes vo_leans vo_would (1 : Int32) u4 u5 u6 ev_24 hg0 hg9 hln) (cwV 1 hts gX6_pourings_X6_beginWould rfl rfl rfl (by decide +kernel) ⟨Nat.le_of_ble_eq_true rfl, Nat.le_of_ble_eq_true rfl⟩) (zz_preV [5, 0, 1, 2, 3, 4] hK hP hD rfl rfl (va_recv hK hP (ci := 6) (q0 := 5) rfl rfl)) rfl rfl hl.1 rfl (lv_room (Nat.le_of_ble_eq_true rfl)) dX6_pourings_43 ⟨Nat.zero_le _, Nat.zero_le _⟩) hP hD hS hA rfl rfl rfl (by decide) (fun ok_25 H locs hP hD hS => ?_)
          have hP : va_P (dC, dI) vwCl [(o, .inr (6, [.ref o_page, .int vo_pageMany, .int vo_readMany, .int vo_state, .int vo_readMost, .ref o_readRows, .int vo_glasses, .int vo_towersRead, .int vo_poured, .ref o_rows, .ref o_turns, .ref o_amounts, .ref o_drank, .long vo_spilt, .ref o_takes, .ref o_leans, .ref o_would, .int vo_done, .int vo_seedNow, .int vo_keptTower, .int vo_keptPoured, .long vo_keptSpilt, .ref o_keptAmounts, .ref o_keptDrank, .ref o_keptTurns, .long vo_hash])), (o_rows, .inl (cI, 54, .inl vo_rows)), (o_amounts, .inl (cJ, 9, .inr (.inl vo_amounts))), (o_takes, .inl (cJ, 9, .inr (.inl u4))), (o_leans, .inl (cI, 9, .inl u5)), (o_would, .inl (cJ, 9, .inr (.inl u6)))] H := hP
          have hD : va_D A [(o, .inr (6, [.ref o_page, .int vo_pageMany, .int vo_readMany, .int vo_state, .int vo_readMost, .ref o_readRows, .int vo_glasses, .int vo_towersRead, .int vo_poured, .ref o_rows, .ref o_turns, .ref o_amounts, .ref o_drank, .long vo_spilt, .ref o_takes, .ref o_leans, .ref o_would, .int vo_done, .int vo_seedNow, .int vo_keptTower, .int vo_keptPoured, .long vo_keptSpilt, .ref o_keptAmounts, .ref o_keptDrank, .ref o_keptTurns, .long vo_hash])), (o_rows, .inl (cI, 54, .inl vo_rows)), (o_amounts, .inl (cJ, 9, .inr (.inl vo_amounts))), (o_takes, .inl (cJ, 9, .inr (.inl u4))), (o_leans, .inl (cI, 9, .inl u5)), (o_would, .inl (cJ, 9, .inr (.inl u6)))] := hD
          refine lv_aload_n hx hb dX6_pourings_46 rfl (lv_at hl 0 rfl) ?_
          refine lv_iload_n hx hb dX6_pourings_47 rfl (lv_at hl 2 rfl) ?_
          refine va_put (D := (dC, dI)) (ci := 6) (v := .int p2) (ty := .int) (C := RX6) (T := TX6) (N := 26) hx hb hts hwX6 tyX6 tyX6_ok nmX6 hown hK hP hD hS 0 rfl rfl 18 (by decide) hf_203 (fun _ h9 => h9) rfl (by decide +kernel) rfl rfl (Nat.le_of_ble_eq_true rfl) dX6_pourings_48 (fun H locs hP hD hS => ?_)
          have hP : va_P (dC, dI) vwCl [(o, .inr (6, [.ref o_page, .int vo_pageMany, .int vo_readMany, .int vo_state, .int vo_readMost, .ref o_readRows, .int vo_glasses, .int vo_towersRead, .int vo_poured, .ref o_rows, .ref o_turns, .ref o_amounts, .ref o_drank, .long vo_spilt, .ref o_takes, .ref o_leans, .ref o_would, .int vo_done, .int p2, .int vo_keptTower, .int vo_keptPoured, .long vo_keptSpilt, .ref o_keptAmounts, .ref o_keptDrank, .ref o_keptTurns, .long vo_hash])), (o_rows, .inl (cI, 54, .inl vo_rows)), (o_amounts, .inl (cJ, 9, .inr (.inl vo_amounts))), (o_takes, .inl (cJ, 9, .inr (.inl u4))), (o_leans, .inl (cI, 9, .inl u5)), (o_would, .inl (cJ, 9, .inr (.inl u6)))] H := hP
          have hD : va_D A [(o, .inr (6, [.ref o_page, .int vo_pageMany, .int vo_readMany, .int vo_state, .int vo_readMost, .ref o_readRows, .int vo_glasses, .int vo_towersRead, .int vo_poured, .ref o_rows, .ref o_turns, .ref o_amounts, .ref o_drank, .long vo_spilt, .ref o_takes, .ref o_leans, .ref o_would, .int vo_done, .int p2, .int vo_keptTower, .int vo_keptPoured, .long vo_keptSpilt, .ref o_keptAmounts, .ref o_keptDrank, .ref o_keptTurns, .long vo_hash])), (o_rows, .inl (cI, 54, .inl vo_rows)), (o_amounts, .inl (cJ, 9, .inr (.inl vo_amounts))), (o_takes, .inl (cJ, 9, .inr (.inl u4))), (o_leans, .inl (cI, 9, .inl u5)), (o_would, .inl (cJ, 9, .inr (.inl u6)))] := hD
          refine lv_iconst (v := (0 : Int32)) hx hb dX6_pourings_51 (by decide) ?_
          refine lv_istore (lv' := [(4, .int (0 : Int32)), (0, .ref o), (1, .int p1), (2, .int p2), (3, .int p3)]) hx hb dX6_pourings_52 hl (by decide) rfl (fun ls hl => ?_)
          have hz_60 : ((0 : Int32)).toInt = 0 := by decide
          refine zz_loop (α := Int32 × Int32 × (Nat → Int64)) 125 (fun k a H locs ls => (0 ≤ a.1.toInt) ∧ (a.1.toInt ≤ 60) ∧ (60 - a.1.toInt < ((k : Nat) : Int)) ∧ lp_X6_pourings_3 p1 (rs_X6_pourings_3 vo_glasses p3 u4 u5) vo_glasses vo_rows u4 u5 k a.1 a.2.1 a.2.2 = (r, qo_seedNow, qo_takes, qo_leans, qo_would) ∧ va_P (dC, dI) vwCl [(o, .inr (6, [.ref o_page, .int vo_pageMany, .int vo_readMany, .int vo_state, .int vo_readMost, .ref o_readRows, .int vo_glasses, .int vo_towersRead, .int vo_poured, .ref o_rows, .ref o_turns, .ref o_amounts, .ref o_drank, .long vo_spilt, .ref o_takes, .ref o_leans, .ref o_would, .int vo_done, .int a.2.1, .int vo_keptTower, .int vo_keptPoured, .long vo_keptSpilt, .ref o_keptAmounts, .ref o_keptDrank, .ref o_keptTurns, .long vo_hash])), (o_rows, .inl (cI, 54, .inl vo_rows)), (o_amounts, .inl (cJ, 9, .inr (.inl vo_amounts))), (o_takes, .inl (cJ, 9, .inr (.inl u4))), (o_leans, .inl (cI, 9, .inl u5)), (o_would, .inl (cJ, 9, .inr (.inl a.2.2)))] H ∧ va_D A [(o, .inr (6, [.ref o_page, .int vo_pageMany, .int vo_readMany, .int vo_state, .int vo_readMost, .ref o_readRows, .int vo_glasses, .int vo_towersRead, .int vo_poured, .ref o_rows, .ref o_turns, .ref o_amounts, .ref o_drank, .long vo_spilt, .ref o_takes, .ref o_leans, .ref o_would, .int vo_done, .int a.2.1, .int vo_keptTower, .int vo_keptPoured, .long vo_keptSpilt, .ref o_keptAmounts, .ref o_keptDrank, .ref o_keptTurns, .long vo_hash])), (o_rows, .inl (cI, 54, .inl vo_rows)), (o_amounts, .inl (cJ, 9, .inr (.inl vo_amounts))), (o_takes, .inl (cJ, 9, .inr (.inl u4))), (o_leans, .inl (cI, 9, .inl u5)), (o_would, .inl (cJ, 9, .inr (.inl a.2.2)))] ∧ va_S A s.heap H locs ∧ lv_has ls 9 [(4, .int a.1), (0, .ref o), (1, .int p1), (3, .int p3)]) (fun a H locs ls => (0 ≤ a.1.toInt) ∧ (a.1.toInt ≤ 60) ∧ (rs_X6_pourings_3 vo_glasses p3 u4 u5) a.1 a.2.1 a.2.2 = (r, qo_seedNow, qo_takes, qo_leans, qo_would) ∧ va_P (dC, dI) vwCl [(o, .inr (6, [.ref o_page, .int vo_pageMany, .int vo_readMany, .int vo_state, .int vo_readMost, .ref o_readRows, .int vo_glasses, .int vo_towersRead, .int vo_poured, .ref o_rows, .ref o_turns, .ref o_amounts, .ref o_drank, .long vo_spilt, .ref o_takes, .ref o_leans, .ref o_would, .int vo_done, .int a.2.1, .int vo_keptTower, .int vo_keptPoured, .long vo_keptSpilt, .ref o_keptAmounts, .ref o_keptDrank, .ref o_keptTurns, .long vo_hash])), (o_rows, .inl (cI, 54, .inl vo_rows)), (o_amounts, .inl (cJ, 9, .inr (.inl vo_amounts))), (o_takes, .inl (cJ, 9, .inr (.inl u4))), (o_leans, .inl (cI, 9, .inl u5)), (o_would, .inl (cJ, 9, .inr (.inl a.2.2)))] H ∧ va_D A [(o, .inr (6, [.ref o_page, .int vo_pageMany, .int vo_readMany, .int vo_state, .int vo_readMost, .ref o_readRows, .int vo_glasses, .int vo_towersRead, .int vo_poured, .ref o_rows, .ref o_turns, .ref o_amounts, .ref o_drank, .long vo_spilt, .ref o_takes, .ref o_leans, .ref o_would, .int vo_done, .int a.2.1, .int vo_keptTower, .int vo_keptPoured, .long vo_keptSpilt, .ref o_keptAmounts, .ref o_keptDrank, .ref o_keptTurns, .long vo_hash])), (o_rows, .inl (cI, 54, .inl vo_rows)), (o_amounts, .inl (cJ, 9, .inr (.inl vo_amounts))), (o_takes, .inl (cJ, 9, .inr (.inl u4))), (o_leans, .inl (cI, 9, .inl u5)), (o_would, .inl (cJ, 9, .inr (.inl a.2.2)))] ∧ va_S A s.heap H locs ∧ lv_has ls 9 [(0, .ref o), (3, .int p3)]) ?_ ?_ ?_ 62 ((0 : Int32), p2, u6) ⟨(by omega : 0 ≤ (0 : Int32).toInt), (by omega : (0 : Int32).toInt ≤ 60), (by omega : 60 - (0 : Int32).toInt < ((62 : Nat) : Int)), hT, hP.sub [0, 1, 2, 3, 4, 5] rfl, hD.sub [0, 1, 2, 3, 4, 5] rfl rfl, hS, lv_sub hl [0, 1, 2, 4] rfl⟩
          · rintro ⟨x10, x11, x12⟩ H locs ls ⟨i1, j1, hT, hP, hD, hS, hl⟩
            have hP : va_P (dC, dI) vwCl [(o, .inr (6, [.ref o_page, .int vo_pageMany, .int vo_readMany, .int vo_state, .int vo_readMost, .ref o_readRows, .int vo_glasses, .int vo_towersRead, .int vo_poured, .ref o_rows, .ref o_turns, .ref o_amounts, .ref o_drank, .long vo_spilt, .ref o_takes, .ref o_leans, .ref o_would, .int vo_done, .int x11, .int vo_keptTower, .int vo_keptPoured, .long vo_keptSpilt, .ref o_keptAmounts, .ref o_keptDrank, .ref o_keptTurns, .long vo_hash])), (o_rows, .inl (cI, 54, .inl vo_rows)), (o_amounts, .inl (cJ, 9, .inr (.inl vo_amounts))), (o_takes, .inl (cJ, 9, .inr (.inl u4))), (o_leans, .inl (cI, 9, .inl u5)), (o_would, .inl (cJ, 9, .inr (.inl x12)))] H := hP
            have hD : va_D A [(o, .inr (6, [.ref o_page, .int vo_pageMany, .int vo_readMany, .int vo_state, .int vo_readMost, .ref o_readRows, .int vo_glasses, .int vo_towersRead, .int vo_poured, .ref o_rows, .ref o_turns, .ref o_amounts, .ref o_drank, .long vo_spilt, .ref o_takes, .ref o_leans, .ref o_would, .int vo_done, .int x11, .int vo_keptTower, .int vo_keptPoured, .long vo_keptSpilt, .ref o_keptAmounts, .ref o_keptDrank, .ref o_keptTurns, .long vo_hash])), (o_rows, .inl (cI, 54, .inl vo_rows)), (o_amounts, .inl (cJ, 9, .inr (.inl vo_amounts))), (o_takes, .inl (cJ, 9, .inr (.inl u4))), (o_leans, .inl (cI, 9, .inl u5)), (o_would, .inl (cJ, 9, .inr (.inl x12)))] := hD
            have hl : lv_has ls 9 [(0, .ref o), (3, .int p3)] := hl
            have hT : (rs_X6_pourings_3 vo_glasses p3 u4 u5) x10 x11 x12 = (r, qo_seedNow, qo_takes, qo_leans, qo_would) := hT
            have i1 : 0 ≤ x10.toInt := i1
            have j1 : x10.toInt ≤ 60 := j1
            refine lv_iconst (v := (0 : Int32)) hx hb dX6_pourings_125 (by decide) ?_
            refine lv_istore (lv' := [(4, .int (0 : Int32)), (0, .ref o), (3, .int p3)]) hx hb dX6_pourings_126 hl (by decide) rfl (fun ls hl => ?_)
            refine lv_iconst (v := (0 : Int32)) hx hb dX6_pourings_128 (by decide) ?_
            refine lv_istore (lv' := [(5, .int (0 : Int32)), (4, .int (0 : Int32)), (0, .ref o), (3, .int p3)]) hx hb dX6_pourings_129 hl (by decide) rfl (fun ls hl => ?_)
            refine lv_iconst (v := (0 : Int32)) hx hb dX6_pourings_131 (by decide) ?_
            refine lv_istore (lv' := [(6, .int (0 : Int32)), (5, .int (0 : Int32)), (4, .int (0 : Int32)), (0, .ref o), (3, .int p3)]) hx hb dX6_pourings_132 hl (by decide) rfl (fun ls hl => ?_)
            have hz_61 : ((0 : Int32)).toInt = 0 := by decide
            have hz_62 : ((0 : Int32)).toInt = 0 := by decide
            have hz_63 : ((0 : Int32)).toInt = 0 := by decide
            refine zz_loop (α := Int32 × Int32 × Int32) 199 (fun k a H locs ls => (0 ≤ a.1.toInt) ∧ (a.1.toInt ≤ vo_glasses.toInt) ∧ (vo_glasses.toInt - a.1.toInt < ((k : Nat) : Int)) ∧ lp_X6_pourings_4 vo_glasses (rs_X6_pourings_4 p3 x11 u4 u5 x12) x12 u4 k a.1 a.2.1 a.2.2 = (r, qo_seedNow, qo_takes, qo_leans, qo_would) ∧ va_P (dC, dI) vwCl [(o, .inr (6, [.ref o_page, .int vo_pageMany, .int vo_readMany, .int vo_state, .int vo_readMost, .ref o_readRows, .int vo_glasses, .int vo_towersRead, .int vo_poured, .ref o_rows, .ref o_turns, .ref o_amounts, .ref o_drank, .long vo_spilt, .ref o_takes, .ref o_leans, .ref o_would, .int vo_done, .int x11, .int vo_keptTower, .int vo_keptPoured, .long vo_keptSpilt, .ref o_keptAmounts, .ref o_keptDrank, .ref o_keptTurns, .long vo_hash])), (o_rows, .inl (cI, 54, .inl vo_rows)), (o_amounts, .inl (cJ, 9, .inr (.inl vo_amounts))), (o_takes, .inl (cJ, 9, .inr (.inl u4))), (o_leans, .inl (cI, 9, .inl u5)), (o_would, .inl (cJ, 9, .inr (.inl x12)))] H ∧ va_D A [(o, .inr (6, [.ref o_page, .int vo_pageMany, .int vo_readMany, .int vo_state, .int vo_readMost, .ref o_readRows, .int vo_glasses, .int vo_towersRead, .int vo_poured, .ref o_rows, .ref o_turns, .ref o_amounts, .ref o_drank, .long vo_spilt, .ref o_takes, .ref o_leans, .ref o_would, .int vo_done, .int x11, .int vo_keptTower, .int vo_keptPoured, .long vo_keptSpilt, .ref o_keptAmounts, .ref o_keptDrank, .ref o_keptTurns, .long vo_hash])), (o_rows, .inl (cI, 54, .inl vo_rows)), (o_amounts, .inl (cJ, 9, .inr (.inl vo_amounts))), (o_takes, .inl (cJ, 9, .inr (.inl u4))), (o_leans, .inl (cI, 9, .inl u5)), (o_would, .inl (cJ, 9, .inr (.inl x12)))] ∧ va_S A s.heap H locs ∧ lv_has ls 9 [(6, .int a.1), (5, .int a.2.1), (4, .int a.2.2), (0, .ref o), (3, .int p3)]) (fun a H locs ls => (0 ≤ a.1.toInt) ∧ (a.1.toInt ≤ vo_glasses.toInt) ∧ (rs_X6_pourings_4 p3 x11 u4 u5 x12) a.1 a.2.1 a.2.2 = (r, qo_seedNow, qo_takes, qo_leans, qo_would) ∧ va_P (dC, dI) vwCl [(o, .inr (6, [.ref o_page, .int vo_pageMany, .int vo_readMany, .int vo_state, .int vo_readMost, .ref o_readRows, .int vo_glasses, .int vo_towersRead, .int vo_poured, .ref o_rows, .ref o_turns, .ref o_amounts, .ref o_drank, .long vo_spilt, .ref o_takes, .ref o_leans, .ref o_would, .int vo_done, .int x11, .int vo_keptTower, .int vo_keptPoured, .long vo_keptSpilt, .ref o_keptAmounts, .ref o_keptDrank, .ref o_keptTurns, .long vo_hash])), (o_rows, .inl (cI, 54, .inl vo_rows)), (o_amounts, .inl (cJ, 9, .inr (.inl vo_amounts))), (o_takes, .inl (cJ, 9, .inr (.inl u4))), (o_leans, .inl (cI, 9, .inl u5)), (o_would, .inl (cJ, 9, .inr (.inl x12)))] H ∧ va_D A [(o, .inr (6, [.ref o_page, .int vo_pageMany, .int vo_readMany, .int vo_state, .int vo_readMost, .ref o_readRows, .int vo_glasses, .int vo_towersRead, .int vo_poured, .ref o_rows, .ref o_turns, .ref o_amounts, .ref o_drank, .long vo_spilt, .ref o_takes, .ref o_leans, .ref o_would, .int vo_done, .int x11, .int vo_keptTower, .int vo_keptPoured, .long vo_keptSpilt, .ref o_keptAmounts, .ref o_keptDrank, .ref o_keptTurns, .long vo_hash])), (o_rows, .inl (cI, 54, .inl vo_rows)), (o_amounts, .inl (cJ, 9, .inr (.inl vo_amounts))), (o_takes, .inl (cJ, 9, .inr (.inl u4))), (o_leans, .inl (cI, 9, .inl u5)), (o_would, .inl (cJ, 9, .inr (.inl x12)))] ∧ va_S A s.heap H locs ∧ lv_has ls 9 [(5, .int a.2.1), (4, .int a.2.2), (0, .ref o), (3, .int p3)]) ?_ ?_ ?_ 11 ((0 : Int32), (0 : Int32), (0 : Int32)) ⟨(by omega : 0 ≤ (0 : Int32).toInt), (by omega : (0 : Int32).toInt ≤ vo_glasses.toInt), (by omega : vo_glasses.toInt - (0 : Int32).toInt < ((11 : Nat) : Int)), hT, hP.sub [0, 1, 2, 3, 4, 5] rfl, hD.sub [0, 1, 2, 3, 4, 5] rfl rfl, hS, lv_sub hl [0, 1, 2, 3, 4] rfl⟩
            · rintro ⟨x28, x29, x30⟩ H locs ls ⟨i2, j2, hT, hP, hD, hS, hl⟩
              have hP : va_P (dC, dI) vwCl [(o, .inr (6, [.ref o_page, .int vo_pageMany, .int vo_readMany, .int vo_state, .int vo_readMost, .ref o_readRows, .int vo_glasses, .int vo_towersRead, .int vo_poured, .ref o_rows, .ref o_turns, .ref o_amounts, .ref o_drank, .long vo_spilt, .ref o_takes, .ref o_leans, .ref o_would, .int vo_done, .int x11, .int vo_keptTower, .int vo_keptPoured, .long vo_keptSpilt, .ref o_keptAmounts, .ref o_keptDrank, .ref o_keptTurns, .long vo_hash])), (o_rows, .inl (cI, 54, .inl vo_rows)), (o_amounts, .inl (cJ, 9, .inr (.inl vo_amounts))), (o_takes, .inl (cJ, 9, .inr (.inl u4))), (o_leans, .inl (cI, 9, .inl u5)), (o_would, .inl (cJ, 9, .inr (.inl x12)))] H := hP
              have hD : va_D A [(o, .inr (6, [.ref o_page, .int vo_pageMany, .int vo_readMany, .int vo_state, .int vo_readMost, .ref o_readRows, .int vo_glasses, .int vo_towersRead, .int vo_poured, .ref o_rows, .ref o_turns, .ref o_amounts, .ref o_drank, .long vo_spilt, .ref o_takes, .ref o_leans, .ref o_would, .int vo_done, .int x11, .int vo_keptTower, .int vo_keptPoured, .long vo_keptSpilt, .ref o_keptAmounts, .ref o_keptDrank, .ref o_keptTurns, .long vo_hash])), (o_rows, .inl (cI, 54, .inl vo_rows)), (o_amounts, .inl (cJ, 9, .inr (.inl vo_amounts))), (o_takes, .inl (cJ, 9, .inr (.inl u4))), (o_leans, .inl (cI, 9, .inl u5)), (o_would, .inl (cJ, 9, .inr (.inl x12)))] := hD
              have hl : lv_has ls 9 [(5, .int x29), (4, .int x30), (0, .ref o), (3, .int p3)] := hl
              have hT : (rs_X6_pourings_4 p3 x11 u4 u5 x12) x28 x29 x30 = (r, qo_seedNow, qo_takes, qo_leans, qo_would) := hT
              have i2 : 0 ≤ x28.toInt := i2
              have j2 : x28.toInt ≤ vo_glasses.toInt := j2
              refine lv_iload_n hx hb dX6_pourings_199 rfl (lv_at hl 3 rfl) ?_
              refine lv_if_ne (tgt := 208) hx hb dX6_pourings_200 (by decide) (fun c_52 => ?_) (fun c_52 => ?_)
              · replace hT := cutF c_52 hT
                have g_64 := zeqF (rfl : (p3).toInt = _) (by decide : ((0 : Int32)).toInt = 0) c_52
                refine lv_iload_n hx hb dX6_pourings_208 rfl (lv_at hl 3 rfl) ?_
                refine lv_iconst (v := (1 : Int32)) hx hb dX6_pourings_209 (by decide) ?_
                refine lv_icmp_ne (tgt := 218) hx hb dX6_pourings_210 (by decide) (fun c_53 => ?_) (fun c_53 => ?_)
                · replace hT := cutF c_53 hT
                  have g_65 := zeqF (rfl : (p3).toInt = _) (by decide : ((1 : Int32)).toInt = 1) c_53
                  refine lv_aload_n hx hb dX6_pourings_218 rfl (lv_at hl 2 rfl) ?_
                  refine va_get (D := (dC, dI)) (ci := 6) (v := .int x11) (C := RX6) (T := TX6) (N := 26) hx hb hts hwX6 hown hK hP 0 rfl rfl 18 (by decide) hf_203 (fun _ h9 => h9) rfl dX6_pourings_219 ?_
                  have hP9 := hP
                  have hD9 := hD
                  have hS9 := hS
                  have hT : (x11, x11, u4, u5, x12) = (r, qo_seedNow, qo_takes, qo_leans, qo_would) := hT
                  cases hT
                  subst hQ
                  exact zz_iret hx hb hr [0, 1, 2, 3, 4, 5] hK hP9 hD9 hS9 rfl rfl (by assumption) hlocks dX6_pourings_222
                · replace hT := cutT c_53 hT
                  have g_66 := zeqT (rfl : (p3).toInt = _) (by decide : ((1 : Int32)).toInt = 1) c_53
                  refine lv_iload hx hb dX6_pourings_213 (lv_at hl 0 rfl) ?_
                  refine lv_goto (tgt := 222) hx hb dX6_pourings_215 (by decide) ?_
                  have hP9 := hP
                  have hD9 := hD
                  have hS9 := hS
                  have hT : (x29, x11, u4, u5, x12) = (r, qo_seedNow, qo_takes, qo_leans, qo_would) := hT
                  cases hT
                  subst hQ
                  exact zz_iret hx hb hr [0, 1, 2, 3, 4, 5] hK hP9 hD9 hS9 rfl rfl (by assumption) hlocks dX6_pourings_222
              · replace hT := cutT c_52 hT
                have g_67 := zeqT (rfl : (p3).toInt = _) (by decide : ((0 : Int32)).toInt = 0) c_52
                refine lv_iload hx hb dX6_pourings_203 (lv_at hl 1 rfl) ?_
                refine lv_goto (tgt := 222) hx hb dX6_pourings_205 (by decide) ?_
                have hP9 := hP
                have hD9 := hD
                have hS9 := hS
                have hT : (x30, x11, u4, u5, x12) = (r, qo_seedNow, qo_takes, qo_leans, qo_would) := hT
                cases hT
                subst hQ
                exact zz_iret hx hb hr [0, 1, 2, 3, 4, 5] hK hP9 hD9 hS9 rfl rfl (by assumption) hlocks dX6_pourings_222
            · rintro ⟨b25, b26, b27⟩ H locs ls ⟨i2, j2, hm, -⟩
              try dsimp only at *
              omega
            · intro k4 hex4 ih4
              rintro ⟨b25, b26, b27⟩ H locs ls ⟨i2, j2, hm4, hT, hP, hD, hS, hl⟩
              have hP : va_P (dC, dI) vwCl [(o, .inr (6, [.ref o_page, .int vo_pageMany, .int vo_readMany, .int vo_state, .int vo_readMost, .ref o_readRows, .int vo_glasses, .int vo_towersRead, .int vo_poured, .ref o_rows, .ref o_turns, .ref o_amounts, .ref o_drank, .long vo_spilt, .ref o_takes, .ref o_leans, .ref o_would, .int vo_done, .int x11, .int vo_keptTower, .int vo_keptPoured, .long vo_keptSpilt, .ref o_keptAmounts, .ref o_keptDrank, .ref o_keptTurns, .long vo_hash])), (o_rows, .inl (cI, 54, .inl vo_rows)), (o_amounts, .inl (cJ, 9, .inr (.inl vo_amounts))), (o_takes, .inl (cJ, 9, .inr (.inl u4))), (o_leans, .inl (cI, 9, .inl u5)), (o_would, .inl (cJ, 9, .inr (.inl x12)))] H := hP
              have hD : va_D A [(o, .inr (6, [.ref o_page, .int vo_pageMany, .int vo_readMany, .int vo_state, .int vo_readMost, .ref o_readRows, .int vo_glasses, .int vo_towersRead, .int vo_poured, .ref o_rows, .ref o_turns, .ref o_amounts, .ref o_drank, .long vo_spilt, .ref o_takes, .ref o_leans, .ref o_would, .int vo_done, .int x11, .int vo_keptTower, .int vo_keptPoured, .long vo_keptSpilt, .ref o_keptAmounts, .ref o_keptDrank, .ref o_keptTurns, .long vo_hash])), (o_rows, .inl (cI, 54, .inl vo_rows)), (o_amounts, .inl (cJ, 9, .inr (.inl vo_amounts))), (o_takes, .inl (cJ, 9, .inr (.inl u4))), (o_leans, .inl (cI, 9, .inl u5)), (o_would, .inl (cJ, 9, .inr (.inl x12)))] := hD
              have hl : lv_has ls 9 [(6, .int b25), (5, .int b26), (4, .int b27), (0, .ref o), (3, .int p3)] := hl
              have hT : lp_X6_pourings_4 vo_glasses (rs_X6_pourings_4 p3 x11 u4 u5 x12) x12 u4 (k4 + 1) b25 b26 b27 = (r, qo_seedNow, qo_takes, qo_leans, qo_would) := hT
              have i2 : 0 ≤ b25.toInt := i2
              have j2 : b25.toInt ≤ vo_glasses.toInt := j2
              have hm4 : vo_glasses.toInt - b25.toInt < (((k4 + 1) : Nat) : Int) := hm4
              try simp only [Int.natCast_add, Int.natCast_one, Nat.cast_add, Nat.cast_one] at hm4
              refine lv_iload hx hb dX6_pourings_134 (lv_at hl 0 rfl) ?_
              refine lv_aload_n hx hb dX6_pourings_136 rfl (lv_at hl 3 rfl) ?_
              refine va_get (D := (dC, dI)) (ci := 6) (v := .int vo_glasses) (C := RX6) (T := TX6) (N := 26) hx hb hts hwX6 hown hK hP 0 rfl rfl 6 (by decide) hf_97 (fun _ h9 => h9) rfl dX6_pourings_137 ?_
              refine lv_icmp_ge (tgt := 199) hx hb dX6_pourings_140 (by decide) (fun c_46 => ?_) (fun c_46 => ?_)
              · replace hT := cutT c_46 hT
                have g_68 := zleT (rfl : (vo_glasses).toInt = _) (rfl : (b25).toInt = _) c_46
                exact hex4 (b25, b26, b27) _ _ _ ⟨(by omega : 0 ≤ b25.toInt), (by omega : b25.toInt ≤ vo_glasses.toInt), hT, hP.sub [0, 1, 2, 3, 4, 5] rfl, hD.sub [0, 1, 2, 3, 4, 5] rfl rfl, hS, lv_sub hl [1, 2, 3, 4] rfl⟩
              · replace hT := cutF c_46 hT
                have g_69 := zleF (rfl : (vo_glasses).toInt = _) (rfl : (b25).toInt = _) c_46
                refine lv_iload hx hb dX6_pourings_143 (lv_at hl 2 rfl) ?_
                refine lv_aload_n hx hb dX6_pourings_145 rfl (lv_at hl 3 rfl) ?_
                refine va_get (D := (dC, dI)) (ci := 6) (v := .ref o_would) (C := RX6) (T := TX6) (N := 26) hx hb hts hwX6 hown hK hP 0 rfl rfl 16 (by decide) hf_35 (fun _ h9 => h9) rfl dX6_pourings_146 ?_
                refine lv_iload hx hb dX6_pourings_149 (lv_at hl 0 rfl) ?_
                have h_47 : vp_in b25 9 := zin (by omega) (by omega)
                refine va_lald hx hb hK hP 5 1 rfl rfl h_47 dX6_pourings_151 ?_
                refine lv_aload_n hx hb dX6_pourings_152 rfl (lv_at hl 3 rfl) ?_
                refine va_get (D := (dC, dI)) (ci := 6) (v := .ref o_takes) (C := RX6) (T := TX6) (N := 26) hx hb hts hwX6 hown hK hP 0 rfl rfl 14 (by decide) hf_29 (fun _ h9 => h9) rfl dX6_pourings_153 ?_
                refine lv_iload hx hb dX6_pourings_156 (lv_at hl 0 rfl) ?_
                have h_48 : vp_in b25 9 := zin (by omega) (by omega)
                refine va_lald hx hb hK hP 3 1 rfl rfl h_48 dX6_pourings_158 ?_
                refine W.lcmp hx hb dX6_pourings_159 ?_
                refine zz_join1 hT 168 (fun v => [.int v, .int b27]) (fun v H locs ls => va_P (dC, dI) vwCl [(o, .inr (6, [.ref o_page, .int vo_pageMany, .int vo_readMany, .int vo_state, .int vo_readMost, .ref o_readRows, .int vo_glasses, .int vo_towersRead, .int vo_poured, .ref o_rows, .ref o_turns, .ref o_amounts, .ref o_drank, .long vo_spilt, .ref o_takes, .ref o_leans, .ref o_would, .int vo_done, .int x11, .int vo_keptTower, .int vo_keptPoured, .long vo_keptSpilt, .ref o_keptAmounts, .ref o_keptDrank, .ref o_keptTurns, .long vo_hash])), (o_rows, .inl (cI, 54, .inl vo_rows)), (o_amounts, .inl (cJ, 9, .inr (.inl vo_amounts))), (o_takes, .inl (cJ, 9, .inr (.inl u4))), (o_leans, .inl (cI, 9, .inl u5)), (o_would, .inl (cJ, 9, .inr (.inl x12)))] H ∧ va_D A [(o, .inr (6, [.ref o_page, .int vo_pageMany, .int vo_readMany, .int vo_state, .int vo_readMost, .ref o_readRows, .int vo_glasses, .int vo_towersRead, .int vo_poured, .ref o_rows, .ref o_turns, .ref o_amounts, .ref o_drank, .long vo_spilt, .ref o_takes, .ref o_leans, .ref o_would, .int vo_done, .int x11, .int vo_keptTower, .int vo_keptPoured, .long vo_keptSpilt, .ref o_keptAmounts, .ref o_keptDrank, .ref o_keptTurns, .long vo_hash])), (o_rows, .inl (cI, 54, .inl vo_rows)), (o_amounts, .inl (cJ, 9, .inr (.inl vo_amounts))), (o_takes, .inl (cJ, 9, .inr (.inl u4))), (o_leans, .inl (cI, 9, .inl u5)), (o_would, .inl (cJ, 9, .inr (.inl x12)))] ∧ va_S A s.heap H locs ∧ lv_has ls 9 [(0, .ref o), (3, .int p3), (5, .int b26), (6, .int b25)]) ?_ ?_
                · rintro j31 ej_70 H locs ls ⟨hP, hD, hS, hl⟩
                  replace hT := cut_n ej_70 hT
                  have hP : va_P (dC, dI) vwCl [(o, .inr (6, [.ref o_page, .int vo_pageMany, .int vo_readMany, .int vo_state, .int vo_readMost, .ref o_readRows, .int vo_glasses, .int vo_towersRead, .int vo_poured, .ref o_rows, .ref o_turns, .ref o_amounts, .ref o_drank, .long vo_spilt, .ref o_takes, .ref o_leans, .ref o_would, .int vo_done, .int x11, .int vo_keptTower, .int vo_keptPoured, .long vo_keptSpilt, .ref o_keptAmounts, .ref o_keptDrank, .ref o_keptTurns, .long vo_hash])), (o_rows, .inl (cI, 54, .inl vo_rows)), (o_amounts, .inl (cJ, 9, .inr (.inl vo_amounts))), (o_takes, .inl (cJ, 9, .inr (.inl u4))), (o_leans, .inl (cI, 9, .inl u5)), (o_would, .inl (cJ, 9, .inr (.inl x12)))] H := hP
                  have hD : va_D A [(o, .inr (6, [.ref o_page, .int vo_pageMany, .int vo_readMany, .int vo_state, .int vo_readMost, .ref o_readRows, .int vo_glasses, .int vo_towersRead, .int vo_poured, .ref o_rows, .ref o_turns, .ref o_amounts, .ref o_drank, .long vo_spilt, .ref o_takes, .ref o_leans, .ref o_would, .int vo_done, .int x11, .int vo_keptTower, .int vo_keptPoured, .long vo_keptSpilt, .ref o_keptAmounts, .ref o_keptDrank, .ref o_keptTurns, .long vo_hash])), (o_rows, .inl (cI, 54, .inl vo_rows)), (o_amounts, .inl (cJ, 9, .inr (.inl vo_amounts))), (o_takes, .inl (cJ, 9, .inr (.inl u4))), (o_leans, .inl (cI, 9, .inl u5)), (o_would, .inl (cJ, 9, .inr (.inl x12)))] := hD
                  have hl : lv_has ls 9 [(0, .ref o), (3, .int p3), (5, .int b26), (6, .int b25)] := hl
                  refine lv_iadd hx hb dX6_pourings_168 ?_
                  refine lv_topi (fun v32 ev32 => ?_)
                  replace hT := cut_n ev32.symm hT
                  try have fv32 := zaddE (rfl : (b27).toInt = _) (rfl : (j31).toInt = _) ev32.symm (by omega) (by omega)
                  refine lv_istore (lv' := [(4, .int v32), (0, .ref o), (3, .int p3), (5, .int b26), (6, .int b25)]) hx hb dX6_pourings_169 hl (by decide) rfl (fun ls hl => ?_)
                  refine lv_iload hx hb dX6_pourings_171 (lv_at hl 3 rfl) ?_
                  refine lv_aload_n hx hb dX6_pourings_173 rfl (lv_at hl 1 rfl) ?_
                  refine va_get (D := (dC, dI)) (ci := 6) (v := .ref o_would) (C := RX6) (T := TX6) (N := 26) hx hb hts hwX6 hown hK hP 0 rfl rfl 16 (by decide) hf_35 (fun _ h9 => h9) rfl dX6_pourings_174 ?_
                  refine lv_iload hx hb dX6_pourings_177 (lv_at hl 4 rfl) ?_
                  have h_50 : vp_in b25 9 := zin (by omega) (by omega)
                  refine va_lald hx hb hK hP 5 1 rfl rfl h_50 dX6_pourings_179 ?_
                  refine lv_lconst (v := (0 : Int64)) hx hb dX6_pourings_180 (by decide) ?_
                  refine W.lcmp hx hb dX6_pourings_181 ?_
                  refine zz_join1 hT 190 (fun v => [.int v, .int b26]) (fun v H locs ls => va_P (dC, dI) vwCl [(o, .inr (6, [.ref o_page, .int vo_pageMany, .int vo_readMany, .int vo_state, .int vo_readMost, .ref o_readRows, .int vo_glasses, .int vo_towersRead, .int vo_poured, .ref o_rows, .ref o_turns, .ref o_amounts, .ref o_drank, .long vo_spilt, .ref o_takes, .ref o_leans, .ref o_would, .int vo_done, .int x11, .int vo_keptTower, .int vo_keptPoured, .long vo_keptSpilt, .ref o_keptAmounts, .ref o_keptDrank, .ref o_keptTurns, .long vo_hash])), (o_rows, .inl (cI, 54, .inl vo_rows)), (o_amounts, .inl (cJ, 9, .inr (.inl vo_amounts))), (o_takes, .inl (cJ, 9, .inr (.inl u4))), (o_leans, .inl (cI, 9, .inl u5)), (o_would, .inl (cJ, 9, .inr (.inl x12)))] H ∧ va_D A [(o, .inr (6, [.ref o_page, .int vo_pageMany, .int vo_readMany, .int vo_state, .int vo_readMost, .ref o_readRows, .int vo_glasses, .int vo_towersRead, .int vo_poured, .ref o_rows, .ref o_turns, .ref o_amounts, .ref o_drank, .long vo_spilt, .ref o_takes, .ref o_leans, .ref o_would, .int vo_done, .int x11, .int vo_keptTower, .int vo_keptPoured, .long vo_keptSpilt, .ref o_keptAmounts, .ref o_keptDrank, .ref o_keptTurns, .long vo_hash])), (o_rows, .inl (cI, 54, .inl vo_rows)), (o_amounts, .inl (cJ, 9, .inr (.inl vo_amounts))), (o_takes, .inl (cJ, 9, .inr (.inl u4))), (o_leans, .inl (cI, 9, .inl u5)), (o_would, .inl (cJ, 9, .inr (.inl x12)))] ∧ va_S A s.heap H locs ∧ lv_has ls 9 [(0, .ref o), (3, .int p3), (4, .int v32), (6, .int b25)]) ?_ ?_
                  · rintro j33 ej_71 H locs ls ⟨hP, hD, hS, hl⟩
                    replace hT := cut_n ej_71 hT
                    have hP : va_P (dC, dI) vwCl [(o, .inr (6, [.ref o_page, .int vo_pageMany, .int vo_readMany, .int vo_state, .int vo_readMost, .ref o_readRows, .int vo_glasses, .int vo_towersRead, .int vo_poured, .ref o_rows, .ref o_turns, .ref o_amounts, .ref o_drank, .long vo_spilt, .ref o_takes, .ref o_leans, .ref o_would, .int vo_done, .int x11, .int vo_keptTower, .int vo_keptPoured, .long vo_keptSpilt, .ref o_keptAmounts, .ref o_keptDrank, .ref o_keptTurns, .long vo_hash])), (o_rows, .inl (cI, 54, .inl vo_rows)), (o_amounts, .inl (cJ, 9, .inr (.inl vo_amounts))), (o_takes, .inl (cJ, 9, .inr (.inl u4))), (o_leans, .inl (cI, 9, .inl u5)), (o_would, .inl (cJ, 9, .inr (.inl x12)))] H := hP
                    have hD : va_D A [(o, .inr (6, [.ref o_page, .int vo_pageMany, .int vo_readMany, .int vo_state, .int vo_readMost, .ref o_readRows, .int vo_glasses, .int vo_towersRead, .int vo_poured, .ref o_rows, .ref o_turns, .ref o_amounts, .ref o_drank, .long vo_spilt, .ref o_takes, .ref o_leans, .ref o_would, .int vo_done, .int x11, .int vo_keptTower, .int vo_keptPoured, .long vo_keptSpilt, .ref o_keptAmounts, .ref o_keptDrank, .ref o_keptTurns, .long vo_hash])), (o_rows, .inl (cI, 54, .inl vo_rows)), (o_amounts, .inl (cJ, 9, .inr (.inl vo_amounts))), (o_takes, .inl (cJ, 9, .inr (.inl u4))), (o_leans, .inl (cI, 9, .inl u5)), (o_would, .inl (cJ, 9, .inr (.inl x12)))] := hD
                    have hl : lv_has ls 9 [(0, .ref o), (3, .int p3), (4, .int v32), (6, .int b25)] := hl
                    refine lv_iadd hx hb dX6_pourings_190 ?_
                    refine lv_topi (fun v34 ev34 => ?_)
                    replace hT := cut_n ev34.symm hT
                    try have fv34 := zaddE (rfl : (b26).toInt = _) (rfl : (j33).toInt = _) ev34.symm (by omega) (by omega)
                    refine lv_istore (lv' := [(5, .int v34), (0, .ref o), (3, .int p3), (4, .int v32), (6, .int b25)]) hx hb dX6_pourings_191 hl (by decide) rfl (fun ls hl => ?_)
                    obtain ⟨v35, ev35⟩ : ∃ y : Int32, (b25 + (1 : Int32)) = y := ⟨_, rfl⟩
                    replace hT := cut_n ev35 hT
                    try have fv35 := zaddE (rfl : (b25).toInt = _) (by decide : ((1 : Int32)).toInt = 1) ev35 (by omega) (by omega)
                    refine lv_iinc (v := v35) (lv' := [(6, .int v35), (5, .int v34), (0, .ref o), (3, .int p3), (4, .int v32)]) hx hb dX6_pourings_193 hl (k := 4) rfl (by rw [← ev35]; rfl) (by decide) rfl (fun ls hl => ?_)
                    refine lv_goto (tgt := 134) hx hb dX6_pourings_196 (by decide) ?_
                    exact ih4 (v35, v34, v32) _ _ _ ⟨(by omega : 0 ≤ v35.toInt), (by omega : v35.toInt ≤ vo_glasses.toInt), (by omega : vo_glasses.toInt - v35.toInt < ((k4 : Nat) : Int)), hT, hP.sub [0, 1, 2, 3, 4, 5] rfl, hD.sub [0, 1, 2, 3, 4, 5] rfl rfl, hS, lv_sub hl [0, 1, 4, 2, 3] rfl⟩
                  · intro xv hT hM
                    have hz_72 : ((0 : Int64)).toInt = 0 := by decide
                    refine lv_if_ne (tgt := 189) hx hb dX6_pourings_182 (by decide) (fun c_51 => ?_) (fun c_51 => ?_)
                    · replace hT := cutF c_51 hT
                      have g_73 := mt zlc_eq.mpr c_51
                      refine lv_iconst (v := (0 : Int32)) hx hb dX6_pourings_189 (by decide) ?_
                      have hP9 := hP
                      have hD9 := hD
                      have hS9 := hS
                      have hl9 := hl
                      have hM9 := hM
                      have hT : (0 : Int32) = xv := hT
                      subst hT
                      exact hM9 _ _ _ ⟨hP9.sub [0, 1, 2, 3, 4, 5] rfl, hD9.sub [0, 1, 2, 3, 4, 5] rfl rfl, hS9, lv_sub hl9 [1, 2, 0, 4] rfl⟩
                    · replace hT := cutT c_51 hT
                      have g_74 := zlc_eq.mp c_51
                      refine lv_iconst (v := (1 : Int32)) hx hb dX6_pourings_185 (by decide) ?_
                      refine lv_goto (tgt := 190) hx hb dX6_pourings_186 (by decide) ?_
                      have hP9 := hP
                      have hD9 := hD
                      have hS9 := hS
                      have hl9 := hl
                      have hM9 := hM
                      have hT : (1 : Int32) = xv := hT
                      subst hT
                      exact hM9 _ _ _ ⟨hP9.sub [0, 1, 2, 3, 4, 5] rfl, hD9.sub [0, 1, 2, 3, 4, 5] rfl rfl, hS9, lv_sub hl9 [1, 2, 0, 4] rfl⟩
                · intro xv hT hM
                  refine lv_if_ne (tgt := 167) hx hb dX6_pourings_160 (by decide) (fun c_49 => ?_) (fun c_49 => ?_)
                  · replace hT := cutF c_49 hT
                    have g_75 := mt zlc_eq.mpr c_49
                    refine lv_iconst (v := (0 : Int32)) hx hb dX6_pourings_167 (by decide) ?_
                    have hP9 := hP
                    have hD9 := hD
                    have hS9 := hS
                    have hl9 := hl
                    have hM9 := hM
                    have hT : (0 : Int32) = xv := hT
                    subst hT
                    exact hM9 _ _ _ ⟨hP9.sub [0, 1, 2, 3, 4, 5] rfl, hD9.sub [0, 1, 2, 3, 4, 5] rfl rfl, hS9, lv_sub hl9 [3, 4, 1, 0] rfl⟩
                  · replace hT := cutT c_49 hT
                    have g_76 := zlc_eq.mp c_49
                    refine lv_iconst (v := (1 : Int32)) hx hb dX6_pourings_163 (by decide) ?_
                    refine lv_goto (tgt := 168) hx hb dX6_pourings_164 (by decide) ?_
                    have hP9 := hP
                    have hD9 := hD
                    have hS9 := hS
                    have hl9 := hl
                    have hM9 := hM
                    have hT : (1 : Int32) = xv := hT
                    subst hT
                    exact hM9 _ _ _ ⟨hP9.sub [0, 1, 2, 3, 4, 5] rfl, hD9.sub [0, 1, 2, 3, 4, 5] rfl rfl, hS9, lv_sub hl9 [3, 4, 1, 0] rfl⟩
          · rintro ⟨b7, b8, b9⟩ H locs ls ⟨i1, j1, hm, -⟩
            try dsimp only at *
            omega
          · intro k3 hex3 ih3
            rintro ⟨b7, b8, b9⟩ H locs ls ⟨i1, j1, hm3, hT, hP, hD, hS, hl⟩
            have hP : va_P (dC, dI) vwCl [(o, .inr (6, [.ref o_page, .int vo_pageMany, .int vo_readMany, .int vo_state, .int vo_readMost, .ref o_readRows, .int vo_glasses, .int vo_towersRead, .int vo_poured, .ref o_rows, .ref o_turns, .ref o_amounts, .ref o_drank, .long vo_spilt, .ref o_takes, .ref o_leans, .ref o_would, .int vo_done, .int b8, .int vo_keptTower, .int vo_keptPoured, .long vo_keptSpilt, .ref o_keptAmounts, .ref o_keptDrank, .ref o_keptTurns, .long vo_hash])), (o_rows, .inl (cI, 54, .inl vo_rows)), (o_amounts, .inl (cJ, 9, .inr (.inl vo_amounts))), (o_takes, .inl (cJ, 9, .inr (.inl u4))), (o_leans, .inl (cI, 9, .inl u5)), (o_would, .inl (cJ, 9, .inr (.inl b9)))] H := hP
            have hD : va_D A [(o, .inr (6, [.ref o_page, .int vo_pageMany, .int vo_readMany, .int vo_state, .int vo_readMost, .ref o_readRows, .int vo_glasses, .int vo_towersRead, .int vo_poured, .ref o_rows, .ref o_turns, .ref o_amounts, .ref o_drank, .long vo_spilt, .ref o_takes, .ref o_leans, .ref o_would, .int vo_done, .int b8, .int vo_keptTower, .int vo_keptPoured, .long vo_keptSpilt, .ref o_keptAmounts, .ref o_keptDrank, .ref o_keptTurns, .long vo_hash])), (o_rows, .inl (cI, 54, .inl vo_rows)), (o_amounts, .inl (cJ, 9, .inr (.inl vo_amounts))), (o_takes, .inl (cJ, 9, .inr (.inl u4))), (o_leans, .inl (cI, 9, .inl u5)), (o_would, .inl (cJ, 9, .inr (.inl b9)))] := hD
            have hl : lv_has ls 9 [(4, .int b7), (0, .ref o), (1, .int p1), (3, .int p3)] := hl
            have hT : lp_X6_pourings_3 p1 (rs_X6_pourings_3 vo_glasses p3 u4 u5) vo_glasses vo_rows u4 u5 (k3 + 1) b7 b8 b9 = (r, qo_seedNow, qo_takes, qo_leans, qo_would) := hT
            have i1 : 0 ≤ b7.toInt := i1
            have j1 : b7.toInt ≤ 60 := j1
            have hm3 : 60 - b7.toInt < (((k3 + 1) : Nat) : Int) := hm3
            try simp only [Int.natCast_add, Int.natCast_one, Nat.cast_add, Nat.cast_one] at hm3
            refine lv_iload hx hb dX6_pourings_54 (lv_at hl 0 rfl) ?_
            refine lv_iload_n hx hb dX6_pourings_56 rfl (lv_at hl 2 rfl) ?_
            refine lv_icmp_ge (tgt := 125) hx hb dX6_pourings_57 (by decide) (fun c_26 => ?_) (fun c_26 => ?_)
            · replace hT := cutT c_26 hT
              have g_77 := zleT (rfl : (p1).toInt = _) (rfl : (b7).toInt = _) c_26
              exact hex3 (b7, b8, b9) _ _ _ ⟨(by omega : 0 ≤ b7.toInt), (by omega : b7.toInt ≤ 60), hT, hP.sub [0, 1, 2, 3, 4, 5] rfl, hD.sub [0, 1, 2, 3, 4, 5] rfl rfl, hS, lv_sub hl [1, 3] rfl⟩
            · replace hT := cutF c_26 hT
              have g_78 := zleF (rfl : (p1).toInt = _) (rfl : (b7).toInt = _) c_26
              refine lv_aload_n hx hb dX6_pourings_60 rfl (lv_at hl 1 rfl) ?_
              refine lv_aload_n hx hb dX6_pourings_61 rfl (lv_at hl 1 rfl) ?_
              refine va_get (D := (dC, dI)) (ci := 6) (v := .int vo_glasses) (C := RX6) (T := TX6) (N := 26) hx hb hts hwX6 hown hK hP 0 rfl rfl 6 (by decide) hf_97 (fun _ h9 => h9) rfl dX6_pourings_62 ?_
              obtain ⟨r13, u14, ev_27⟩ : ∃ x0 x1, (m_X6_draw b8 vo_glasses) = (x0, x1) := ⟨_, _, rfl⟩
              replace hT := cut2_n ev_27 hT
              refine zz_ci [0] [1, 2, 3, 4, 5] (wr := [(o_rows, .inl (cI, 54, .inl vo_rows)), (o_amounts, .inl (cJ, 9, .inr (.inl vo_amounts))), (o_takes, .inl (cJ, 9, .inr (.inl u4))), (o_leans, .inl (cI, 9, .inl u5)), (o_would, .inl (cJ, 9, .inr (.inl b9)))]) (w1 := [(o, .inr (6, [.ref o_page, .int vo_pageMany, .int vo_readMany, .int vo_state, .int vo_readMost, .ref o_readRows, .int vo_glasses, .int vo_towersRead, .int vo_poured, .ref o_rows, .ref o_turns, .ref o_amounts, .ref o_drank, .long vo_spilt, .ref o_takes, .ref o_leans, .ref o_would, .int vo_done, .int u14, .int vo_keptTower, .int vo_keptPoured, .long vo_keptSpilt, .ref o_keptAmounts, .ref o_keptDrank, .ref o_keptTurns, .long vo_hash]))]) (va_runV (As := [.int vo_glasses]) (rest := []) ⟨hx, hb, hml, hown, hts⟩ (k_X6_draw l dC dI cI cJ cC H.size o o_page o_readRows o_rows o_turns o_amounts o_drank o_takes o_leans o_would o_keptAmounts o_keptDrank o_keptTurns vo_pageMany vo_readMany vo_state vo_readMost vo_glasses vo_towersRead vo_poured vo_spilt vo_done b8 vo_keptTower vo_keptPoured vo_keptSpilt vo_hash vo_glasses r13 u14 ev_27 (by first | omega | decide)) (cwV 1 hts gX6_pourings_X6_draw rfl rfl rfl (by decide +kernel) ⟨Nat.le_of_ble_eq_true rfl, Nat.le_of_ble_eq_true rfl⟩) (zz_preV [0] hK hP hD rfl rfl (va_recv hK hP (ci := 6) (q0 := 0) rfl rfl)) rfl rfl hl.1 rfl (lv_room (Nat.le_of_ble_eq_true rfl)) dX6_pourings_65 ⟨Nat.zero_le _, Nat.zero_le _⟩) hP hD hS hA rfl rfl rfl (by decide) (fun ok_28 H locs hP hD hS => ?_)
              have hP : va_P (dC, dI) vwCl [(o_rows, .inl (cI, 54, .inl vo_rows)), (o_amounts, .inl (cJ, 9, .inr (.inl vo_amounts))), (o_takes, .inl (cJ, 9, .inr (.inl u4))), (o_leans, .inl (cI, 9, .inl u5)), (o_would, .inl (cJ, 9, .inr (.inl b9))), (o, .inr (6, [.ref o_page, .int vo_pageMany, .int vo_readMany, .int vo_state, .int vo_readMost, .ref o_readRows, .int vo_glasses, .int vo_towersRead, .int vo_poured, .ref o_rows, .ref o_turns, .ref o_amounts, .ref o_drank, .long vo_spilt, .ref o_takes, .ref o_leans, .ref o_would, .int vo_done, .int u14, .int vo_keptTower, .int vo_keptPoured, .long vo_keptSpilt, .ref o_keptAmounts, .ref o_keptDrank, .ref o_keptTurns, .long vo_hash]))] H := hP
              have hD : va_D A [(o_rows, .inl (cI, 54, .inl vo_rows)), (o_amounts, .inl (cJ, 9, .inr (.inl vo_amounts))), (o_takes, .inl (cJ, 9, .inr (.inl u4))), (o_leans, .inl (cI, 9, .inl u5)), (o_would, .inl (cJ, 9, .inr (.inl b9))), (o, .inr (6, [.ref o_page, .int vo_pageMany, .int vo_readMany, .int vo_state, .int vo_readMost, .ref o_readRows, .int vo_glasses, .int vo_towersRead, .int vo_poured, .ref o_rows, .ref o_turns, .ref o_amounts, .ref o_drank, .long vo_spilt, .ref o_takes, .ref o_leans, .ref o_would, .int vo_done, .int u14, .int vo_keptTower, .int vo_keptPoured, .long vo_keptSpilt, .ref o_keptAmounts, .ref o_keptDrank, .ref o_keptTurns, .long vo_hash]))] := hD
              obtain ⟨k_29, k_30⟩ := ok_28
              refine lv_istore (lv' := [(5, .int r13), (4, .int b7), (0, .ref o), (1, .int p1), (3, .int p3)]) hx hb dX6_pourings_68 hl (by decide) rfl (fun ls hl => ?_)
              refine lv_aload_n hx hb dX6_pourings_70 rfl (lv_at hl 2 rfl) ?_
              refine va_get (D := (dC, dI)) (ci := 6) (v := .ref o_would) (C := RX6) (T := TX6) (N := 26) hx hb hts hwX6 hown hK hP 5 rfl rfl 16 (by decide) hf_35 (fun _ h9 => h9) rfl dX6_pourings_71 ?_
              refine lv_iload hx hb dX6_pourings_74 (lv_at hl 0 rfl) ?_
              refine lv_dup2_11 hx hb dX6_pourings_76 rfl rfl ?_
              have h_31 : vp_in r13 9 := zin (by omega) (by omega)
              refine va_lald hx hb hK hP 4 1 rfl rfl h_31 dX6_pourings_77 ?_
              refine lv_ldc2 (v := (429981696 : Int64)) hx hb hown hc_113 dX6_pourings_78 ?_
              refine lv_ladd hx hb dX6_pourings_81 ?_
              have h_32 : vp_in r13 9 := zin (by omega) (by omega)
              refine va_last hx hb hK hP hD hS 4 1 rfl rfl h_32 dX6_pourings_82 (fun H locs hP hD hS => ?_)
              obtain ⟨a15, ea15⟩ : ∃ z, (vp_updL b9 r13.toNatClampNeg ((b9 r13.toNatClampNeg) + (429981696 : Int64))) = z := ⟨_, rfl⟩
              replace hT := cut_n ea15 hT
              have hP : va_P (dC, dI) vwCl [(o_rows, .inl (cI, 54, .inl vo_rows)), (o_amounts, .inl (cJ, 9, .inr (.inl vo_amounts))), (o_takes, .inl (cJ, 9, .inr (.inl u4))), (o_leans, .inl (cI, 9, .inl u5)), (o_would, .inl (cJ, 9, .inr (.inl a15))), (o, .inr (6, [.ref o_page, .int vo_pageMany, .int vo_readMany, .int vo_state, .int vo_readMost, .ref o_readRows, .int vo_glasses, .int vo_towersRead, .int vo_poured, .ref o_rows, .ref o_turns, .ref o_amounts, .ref o_drank, .long vo_spilt, .ref o_takes, .ref o_leans, .ref o_would, .int vo_done, .int u14, .int vo_keptTower, .int vo_keptPoured, .long vo_keptSpilt, .ref o_keptAmounts, .ref o_keptDrank, .ref o_keptTurns, .long vo_hash]))] H := by rw [← ea15]; exact hP
              have hD : va_D A [(o_rows, .inl (cI, 54, .inl vo_rows)), (o_amounts, .inl (cJ, 9, .inr (.inl vo_amounts))), (o_takes, .inl (cJ, 9, .inr (.inl u4))), (o_leans, .inl (cI, 9, .inl u5)), (o_would, .inl (cJ, 9, .inr (.inl a15))), (o, .inr (6, [.ref o_page, .int vo_pageMany, .int vo_readMany, .int vo_state, .int vo_readMost, .ref o_readRows, .int vo_glasses, .int vo_towersRead, .int vo_poured, .ref o_rows, .ref o_turns, .ref o_amounts, .ref o_drank, .long vo_spilt, .ref o_takes, .ref o_leans, .ref o_would, .int vo_done, .int u14, .int vo_keptTower, .int vo_keptPoured, .long vo_keptSpilt, .ref o_keptAmounts, .ref o_keptDrank, .ref o_keptTurns, .long vo_hash]))] := by rw [← ea15]; exact hD
              refine lv_aload_n hx hb dX6_pourings_83 rfl (lv_at hl 2 rfl) ?_
              refine lv_aload_n hx hb dX6_pourings_84 rfl (lv_at hl 2 rfl) ?_
              refine va_get (D := (dC, dI)) (ci := 6) (v := .ref o_would) (C := RX6) (T := TX6) (N := 26) hx hb hts hwX6 hown hK hP 5 rfl rfl 16 (by decide) hf_35 (fun _ h9 => h9) rfl dX6_pourings_85 ?_
              obtain ⟨r16, u17, ev_33⟩ : ∃ x0 x1, (m_X6_runOver_w vo_glasses vo_rows u4 u5 a15) = (x0, x1) := ⟨_, _, rfl⟩
              replace hT := cut2_n ev_33 hT
              refine zz_cl [5, 0, 2, 3, 4] [1] (wr := [(o_amounts, .inl (cJ, 9, .inr (.inl vo_amounts)))]) (w1 := [(o, .inr (6, [.ref o_page, .int vo_pageMany, .int vo_readMany, .int vo_state, .int vo_readMost, .ref o_readRows, .int vo_glasses, .int vo_towersRead, .int vo_poured, .ref o_rows, .ref o_turns, .ref o_amounts, .ref o_drank, .long vo_spilt, .ref o_takes, .ref o_leans, .ref o_would, .int vo_done, .int u14, .int vo_keptTower, .int vo_keptPoured, .long vo_keptSpilt, .ref o_keptAmounts, .ref o_keptDrank, .ref o_keptTurns, .long vo_hash])), (o_rows, .inl (cI, 54, .inl vo_rows)), (o_takes, .inl (cJ, 9, .inr (.inl u4))), (o_leans, .inl (cI, 9, .inl u5)), (o_would, .inl (cJ, 9, .inr (.inl u17)))]) (va_runV (As := [.ref o_would]) (rest := []) ⟨hx, hb, hml, hown, hts⟩ (k_X6_runOver_w l dC dI cI cJ cC H.size o o_page o_readRows o_rows o_turns o_amounts o_drank o_takes o_leans o_would o_keptAmounts o_keptDrank o_keptTurns vo_pageMany vo_readMany vo_state vo_readMost vo_glasses vo_towersRead vo_poured vo_spilt vo_done u14 vo_keptTower vo_keptPoured vo_keptSpilt vo_hash vo_rows u4 u5 a15 r16 u17 ev_33 hg0 hg9 hrw ok_25) (cwV 1 hts gX6_pourings_X6_runOver rfl rfl rfl (by decide +kernel) ⟨Nat.le_of_ble_eq_true rfl, Nat.le_of_ble_eq_true rfl⟩) (zz_preV [5, 0, 2, 3, 4] hK hP hD rfl rfl (va_recv hK hP (ci := 6) (q0 := 5) rfl rfl)) rfl rfl hl.1 rfl (lv_room (Nat.le_of_ble_eq_true rfl)) dX6_pourings_88 ⟨Nat.zero_le _, Nat.zero_le _⟩) hP hD hS hA rfl rfl rfl (by decide) (fun ok_34 H locs hP hD hS => ?_)
              have hP : va_P (dC, dI) vwCl [(o_amounts, .inl (cJ, 9, .inr (.inl vo_amounts))), (o, .inr (6, [.ref o_page, .int vo_pageMany, .int vo_readMany, .int vo_state, .int vo_readMost, .ref o_readRows, .int vo_glasses, .int vo_towersRead, .int vo_poured, .ref o_rows, .ref o_turns, .ref o_amounts, .ref o_drank, .long vo_spilt, .ref o_takes, .ref o_leans, .ref o_would, .int vo_done, .int u14, .int vo_keptTower, .int vo_keptPoured, .long vo_keptSpilt, .ref o_keptAmounts, .ref o_keptDrank, .ref o_keptTurns, .long vo_hash])), (o_rows, .inl (cI, 54, .inl vo_rows)), (o_takes, .inl (cJ, 9, .inr (.inl u4))), (o_leans, .inl (cI, 9, .inl u5)), (o_would, .inl (cJ, 9, .inr (.inl u17)))] H := hP
              have hD : va_D A [(o_amounts, .inl (cJ, 9, .inr (.inl vo_amounts))), (o, .inr (6, [.ref o_page, .int vo_pageMany, .int vo_readMany, .int vo_state, .int vo_readMost, .ref o_readRows, .int vo_glasses, .int vo_towersRead, .int vo_poured, .ref o_rows, .ref o_turns, .ref o_amounts, .ref o_drank, .long vo_spilt, .ref o_takes, .ref o_leans, .ref o_would, .int vo_done, .int u14, .int vo_keptTower, .int vo_keptPoured, .long vo_keptSpilt, .ref o_keptAmounts, .ref o_keptDrank, .ref o_keptTurns, .long vo_hash])), (o_rows, .inl (cI, 54, .inl vo_rows)), (o_takes, .inl (cJ, 9, .inr (.inl u4))), (o_leans, .inl (cI, 9, .inl u5)), (o_would, .inl (cJ, 9, .inr (.inl u17)))] := hD
              refine lv_lstore (lv' := [(6, .long r16), (5, .int r13), (4, .int b7), (0, .ref o), (1, .int p1), (3, .int p3)]) hx hb dX6_pourings_91 hl (by decide) rfl (fun ls hl => ?_)
              refine lv_aload_n hx hb dX6_pourings_93 rfl (lv_at hl 3 rfl) ?_
              refine lv_iconst (v := (4 : Int32)) hx hb dX6_pourings_94 (by decide) ?_
              obtain ⟨r18, u19, ev_35⟩ : ∃ x0 x1, (m_X6_draw u14 (4 : Int32)) = (x0, x1) := ⟨_, _, rfl⟩
              replace hT := cut2_n ev_35 hT
              refine zz_ci [1] [0, 2, 3, 4, 5] (wr := [(o_amounts, .inl (cJ, 9, .inr (.inl vo_amounts))), (o_rows, .inl (cI, 54, .inl vo_rows)), (o_takes, .inl (cJ, 9, .inr (.inl u4))), (o_leans, .inl (cI, 9, .inl u5)), (o_would, .inl (cJ, 9, .inr (.inl u17)))]) (w1 := [(o, .inr (6, [.ref o_page, .int vo_pageMany, .int vo_readMany, .int vo_state, .int vo_readMost, .ref o_readRows, .int vo_glasses, .int vo_towersRead, .int vo_poured, .ref o_rows, .ref o_turns, .ref o_amounts, .ref o_drank, .long vo_spilt, .ref o_takes, .ref o_leans, .ref o_would, .int vo_done, .int u19, .int vo_keptTower, .int vo_keptPoured, .long vo_keptSpilt, .ref o_keptAmounts, .ref o_keptDrank, .ref o_keptTurns, .long vo_hash]))]) (va_runV (As := [.int (4 : Int32)]) (rest := []) ⟨hx, hb, hml, hown, hts⟩ (k_X6_draw l dC dI cI cJ cC H.size o o_page o_readRows o_rows o_turns o_amounts o_drank o_takes o_leans o_would o_keptAmounts o_keptDrank o_keptTurns vo_pageMany vo_readMany vo_state vo_readMost vo_glasses vo_towersRead vo_poured vo_spilt vo_done u14 vo_keptTower vo_keptPoured vo_keptSpilt vo_hash (4 : Int32) r18 u19 ev_35 (by first | omega | decide)) (cwV 1 hts gX6_pourings_X6_draw rfl rfl rfl (by decide +kernel) ⟨Nat.le_of_ble_eq_true rfl, Nat.le_of_ble_eq_true rfl⟩) (zz_preV [1] hK hP hD rfl rfl (va_recv hK hP (ci := 6) (q0 := 1) rfl rfl)) rfl rfl hl.1 rfl (lv_room (Nat.le_of_ble_eq_true rfl)) dX6_pourings_95 ⟨Nat.zero_le _, Nat.zero_le _⟩) hP hD hS hA rfl rfl rfl (by decide) (fun ok_36 H locs hP hD hS => ?_)
              have hP : va_P (dC, dI) vwCl [(o_amounts, .inl (cJ, 9, .inr (.inl vo_amounts))), (o_rows, .inl (cI, 54, .inl vo_rows)), (o_takes, .inl (cJ, 9, .inr (.inl u4))), (o_leans, .inl (cI, 9, .inl u5)), (o_would, .inl (cJ, 9, .inr (.inl u17))), (o, .inr (6, [.ref o_page, .int vo_pageMany, .int vo_readMany, .int vo_state, .int vo_readMost, .ref o_readRows, .int vo_glasses, .int vo_towersRead, .int vo_poured, .ref o_rows, .ref o_turns, .ref o_amounts, .ref o_drank, .long vo_spilt, .ref o_takes, .ref o_leans, .ref o_would, .int vo_done, .int u19, .int vo_keptTower, .int vo_keptPoured, .long vo_keptSpilt, .ref o_keptAmounts, .ref o_keptDrank, .ref o_keptTurns, .long vo_hash]))] H := hP
              have hD : va_D A [(o_amounts, .inl (cJ, 9, .inr (.inl vo_amounts))), (o_rows, .inl (cI, 54, .inl vo_rows)), (o_takes, .inl (cJ, 9, .inr (.inl u4))), (o_leans, .inl (cI, 9, .inl u5)), (o_would, .inl (cJ, 9, .inr (.inl u17))), (o, .inr (6, [.ref o_page, .int vo_pageMany, .int vo_readMany, .int vo_state, .int vo_readMost, .ref o_readRows, .int vo_glasses, .int vo_towersRead, .int vo_poured, .ref o_rows, .ref o_turns, .ref o_amounts, .ref o_drank, .long vo_spilt, .ref o_takes, .ref o_leans, .ref o_would, .int vo_done, .int u19, .int vo_keptTower, .int vo_keptPoured, .long vo_keptSpilt, .ref o_keptAmounts, .ref o_keptDrank, .ref o_keptTurns, .long vo_hash]))] := hD
              have hz_37 : ((4 : Int32)).toInt = 4 := by decide
              obtain ⟨k_38, k_39⟩ := ok_36
              refine lv_if_ne (tgt := 119) hx hb dX6_pourings_98 (by decide) (fun c_40 => ?_) (fun c_40 => ?_)
              · replace hT := cutF c_40 hT
                have g_79 := zeqF (rfl : (r18).toInt = _) (by decide : ((0 : Int32)).toInt = 0) c_40
                obtain ⟨v20, ev20⟩ : ∃ y : Int32, (b7 + (1 : Int32)) = y := ⟨_, rfl⟩
                replace hT := cut_n ev20 hT
                try have fv20 := zaddE (rfl : (b7).toInt = _) (by decide : ((1 : Int32)).toInt = 1) ev20 (by omega) (by omega)
                refine lv_iinc (v := v20) (lv' := [(4, .int v20), (6, .long r16), (5, .int r13), (0, .ref o), (1, .int p1), (3, .int p3)]) hx hb dX6_pourings_119 hl (k := 2) rfl (by rw [← ev20]; rfl) (by decide) rfl (fun ls hl => ?_)
                refine lv_goto (tgt := 54) hx hb dX6_pourings_122 (by decide) ?_
                exact ih3 (v20, u19, u17) _ _ _ ⟨(by omega : 0 ≤ v20.toInt), (by omega : v20.toInt ≤ 60), (by omega : 60 - v20.toInt < ((k3 : Nat) : Int)), hT, hP.sub [5, 1, 0, 2, 3, 4] rfl, hD.sub [5, 1, 0, 2, 3, 4] rfl rfl, hS, lv_sub hl [0, 3, 4, 5] rfl⟩
              · replace hT := cutT c_40 hT
                have g_80 := zeqT (rfl : (r18).toInt = _) (by decide : ((0 : Int32)).toInt = 0) c_40
                refine lv_aload_n hx hb dX6_pourings_101 rfl (lv_at hl 3 rfl) ?_
                refine lv_aload_n hx hb dX6_pourings_102 rfl (lv_at hl 3 rfl) ?_
                refine va_get (D := (dC, dI)) (ci := 6) (v := .int vo_glasses) (C := RX6) (T := TX6) (N := 26) hx hb hts hwX6 hown hK hP 5 rfl rfl 6 (by decide) hf_97 (fun _ h9 => h9) rfl dX6_pourings_103 ?_
                obtain ⟨r21, u22, ev_41⟩ : ∃ x0 x1, (m_X6_draw u19 vo_glasses) = (x0, x1) := ⟨_, _, rfl⟩
                replace hT := cut2_n ev_41 hT
                refine zz_ci [5] [0, 1, 2, 3, 4] (wr := [(o_amounts, .inl (cJ, 9, .inr (.inl vo_amounts))), (o_rows, .inl (cI, 54, .inl vo_rows)), (o_takes, .inl (cJ, 9, .inr (.inl u4))), (o_leans, .inl (cI, 9, .inl u5)), (o_would, .inl (cJ, 9, .inr (.inl u17)))]) (w1 := [(o, .inr (6, [.ref o_page, .int vo_pageMany, .int vo_readMany, .int vo_state, .int vo_readMost, .ref o_readRows, .int vo_glasses, .int vo_towersRead, .int vo_poured, .ref o_rows, .ref o_turns, .ref o_amounts, .ref o_drank, .long vo_spilt, .ref o_takes, .ref o_leans, .ref o_would, .int vo_done, .int u22, .int vo_keptTower, .int vo_keptPoured, .long vo_keptSpilt, .ref o_keptAmounts, .ref o_keptDrank, .ref o_keptTurns, .long vo_hash]))]) (va_runV (As := [.int vo_glasses]) (rest := []) ⟨hx, hb, hml, hown, hts⟩ (k_X6_draw l dC dI cI cJ cC H.size o o_page o_readRows o_rows o_turns o_amounts o_drank o_takes o_leans o_would o_keptAmounts o_keptDrank o_keptTurns vo_pageMany vo_readMany vo_state vo_readMost vo_glasses vo_towersRead vo_poured vo_spilt vo_done u19 vo_keptTower vo_keptPoured vo_keptSpilt vo_hash vo_glasses r21 u22 ev_41 (by first | omega | decide)) (cwV 1 hts gX6_pourings_X6_draw rfl rfl rfl (by decide +kernel) ⟨Nat.le_of_ble_eq_true rfl, Nat.le_of_ble_eq_true rfl⟩) (zz_preV [5] hK hP hD rfl rfl (va_recv hK hP (ci := 6) (q0 := 5) rfl rfl)) rfl rfl hl.1 rfl (lv_room (Nat.le_of_ble_eq_true rfl)) dX6_pourings_106 ⟨Nat.zero_le _, Nat.zero_le _⟩) hP hD hS hA rfl rfl rfl (by decide) (fun ok_42 H locs hP hD hS => ?_)
                have hP : va_P (dC, dI) vwCl [(o_amounts, .inl (cJ, 9, .inr (.inl vo_amounts))), (o_rows, .inl (cI, 54, .inl vo_rows)), (o_takes, .inl (cJ, 9, .inr (.inl u4))), (o_leans, .inl (cI, 9, .inl u5)), (o_would, .inl (cJ, 9, .inr (.inl u17))), (o, .inr (6, [.ref o_page, .int vo_pageMany, .int vo_readMany, .int vo_state, .int vo_readMost, .ref o_readRows, .int vo_glasses, .int vo_towersRead, .int vo_poured, .ref o_rows, .ref o_turns, .ref o_amounts, .ref o_drank, .long vo_spilt, .ref o_takes, .ref o_leans, .ref o_would, .int vo_done, .int u22, .int vo_keptTower, .int vo_keptPoured, .long vo_keptSpilt, .ref o_keptAmounts, .ref o_keptDrank, .ref o_keptTurns, .long vo_hash]))] H := hP
                have hD : va_D A [(o_amounts, .inl (cJ, 9, .inr (.inl vo_amounts))), (o_rows, .inl (cI, 54, .inl vo_rows)), (o_takes, .inl (cJ, 9, .inr (.inl u4))), (o_leans, .inl (cI, 9, .inl u5)), (o_would, .inl (cJ, 9, .inr (.inl u17))), (o, .inr (6, [.ref o_page, .int vo_pageMany, .int vo_readMany, .int vo_state, .int vo_readMost, .ref o_readRows, .int vo_glasses, .int vo_towersRead, .int vo_poured, .ref o_rows, .ref o_turns, .ref o_amounts, .ref o_drank, .long vo_spilt, .ref o_takes, .ref o_leans, .ref o_would, .int vo_done, .int u22, .int vo_keptTower, .int vo_keptPoured, .long vo_keptSpilt, .ref o_keptAmounts, .ref o_keptDrank, .ref o_keptTurns, .long vo_hash]))] := hD
                obtain ⟨k_43, k_44⟩ := ok_42
                refine lv_istore (lv' := [(8, .int r21), (6, .long r16), (5, .int r13), (4, .int b7), (0, .ref o), (1, .int p1), (3, .int p3)]) hx hb dX6_pourings_109 hl (by decide) rfl (fun ls hl => ?_)
                refine lv_aload_n hx hb dX6_pourings_111 rfl (lv_at hl 4 rfl) ?_
                refine va_get (D := (dC, dI)) (ci := 6) (v := .ref o_would) (C := RX6) (T := TX6) (N := 26) hx hb hts hwX6 hown hK hP 5 rfl rfl 16 (by decide) hf_35 (fun _ h9 => h9) rfl dX6_pourings_112 ?_
                refine lv_iload hx hb dX6_pourings_115 (lv_at hl 0 rfl) ?_
                refine lv_lconst (v := (0 : Int64)) hx hb dX6_pourings_117 (by decide) ?_
                have h_45 : vp_in r21 9 := zin (by omega) (by omega)
                refine va_last hx hb hK hP hD hS 4 1 rfl rfl h_45 dX6_pourings_118 (fun H locs hP hD hS => ?_)
                obtain ⟨a23, ea23⟩ : ∃ z, (vp_updL u17 r21.toNatClampNeg (0 : Int64)) = z := ⟨_, rfl⟩
                replace hT := cut_n ea23 hT
                have hP : va_P (dC, dI) vwCl [(o_amounts, .inl (cJ, 9, .inr (.inl vo_amounts))), (o_rows, .inl (cI, 54, .inl vo_rows)), (o_takes, .inl (cJ, 9, .inr (.inl u4))), (o_leans, .inl (cI, 9, .inl u5)), (o_would, .inl (cJ, 9, .inr (.inl a23))), (o, .inr (6, [.ref o_page, .int vo_pageMany, .int vo_readMany, .int vo_state, .int vo_readMost, .ref o_readRows, .int vo_glasses, .int vo_towersRead, .int vo_poured, .ref o_rows, .ref o_turns, .ref o_amounts, .ref o_drank, .long vo_spilt, .ref o_takes, .ref o_leans, .ref o_would, .int vo_done, .int u22, .int vo_keptTower, .int vo_keptPoured, .long vo_keptSpilt, .ref o_keptAmounts, .ref o_keptDrank, .ref o_keptTurns, .long vo_hash]))] H := by rw [← ea23]; exact hP
                have hD : va_D A [(o_amounts, .inl (cJ, 9, .inr (.inl vo_amounts))), (o_rows, .inl (cI, 54, .inl vo_rows)), (o_takes, .inl (cJ, 9, .inr (.inl u4))), (o_leans, .inl (cI, 9, .inl u5)), (o_would, .inl (cJ, 9, .inr (.inl a23))), (o, .inr (6, [.ref o_page, .int vo_pageMany, .int vo_readMany, .int vo_state, .int vo_readMost, .ref o_readRows, .int vo_glasses, .int vo_towersRead, .int vo_poured, .ref o_rows, .ref o_turns, .ref o_amounts, .ref o_drank, .long vo_spilt, .ref o_takes, .ref o_leans, .ref o_would, .int vo_done, .int u22, .int vo_keptTower, .int vo_keptPoured, .long vo_keptSpilt, .ref o_keptAmounts, .ref o_keptDrank, .ref o_keptTurns, .long vo_hash]))] := by rw [← ea23]; exact hD
                obtain ⟨v24, ev24⟩ : ∃ y : Int32, (b7 + (1 : Int32)) = y := ⟨_, rfl⟩
                replace hT := cut_n ev24 hT
                try have fv24 := zaddE (rfl : (b7).toInt = _) (by decide : ((1 : Int32)).toInt = 1) ev24 (by omega) (by omega)
                refine lv_iinc (v := v24) (lv' := [(4, .int v24), (8, .int r21), (6, .long r16), (5, .int r13), (0, .ref o), (1, .int p1), (3, .int p3)]) hx hb dX6_pourings_119 hl (k := 3) rfl (by rw [← ev24]; rfl) (by decide) rfl (fun ls hl => ?_)
                refine lv_goto (tgt := 54) hx hb dX6_pourings_122 (by decide) ?_
                exact ih3 (v24, u22, a23) _ _ _ ⟨(by omega : 0 ≤ v24.toInt), (by omega : v24.toInt ≤ 60), (by omega : 60 - v24.toInt < ((k3 : Nat) : Int)), hT, hP.sub [5, 1, 0, 2, 3, 4] rfl, hD.sub [5, 1, 0, 2, 3, 4] rfl rfl, hS, lv_sub hl [0, 4, 5, 6] rfl⟩
        · replace hT := cutT c_23 hT
          have g_81 := zeqT (rfl : (r3).toInt = _) (by decide : ((0 : Int32)).toInt = 0) c_23
          refine lv_bipush (v := (-102 : Int32)) hx hb dX6_pourings_38 (by decide) ?_
          have hP9 := hP
          have hD9 := hD
          have hS9 := hS
          have hT : ((-102 : Int32), vo_seedNow, vo_takes, vo_leans, vo_would) = (r, qo_seedNow, qo_takes, qo_leans, qo_would) := hT
          cases hT
          subst hQ
          exact zz_iret hx hb hr [5, 0, 1, 2, 3, 4] hK hP9 hD9 hS9 rfl rfl (by assumption) hlocks dX6_pourings_40
  · replace hT := cutF c_6 hT
    have g_82 := zeqF (rfl : (r1).toInt = _) (by decide : ((0 : Int32)).toInt = 0) c_6
    refine lv_bipush (v := (-103 : Int32)) hx hb dX6_pourings_7 (by decide) ?_
    have hP9 := hP
    have hD9 := hD
    have hS9 := hS
    have hT : ((-103 : Int32), vo_seedNow, vo_takes, vo_leans, vo_would) = (r, qo_seedNow, qo_takes, qo_leans, qo_would) := hT
    cases hT
    subst hQ
    exact zz_iret hx hb hr [5, 0, 1, 2, 3, 4] hK hP9 hD9 hS9 rfl rfl (by assumption) hlocks dX6_pourings_9

def rs_X6_image_2 (vo_poured : Int32) (vo_towersRead : Int32) (vo_spilt : Int64) (x6 : Int32) (x7 : Nat → Int64) (x8 : Nat → Int64) (x9 : Nat → Int32) : Int32 × Int32 × Int32 × Int64 × (Nat → Int64) × (Nat → Int64) × (Nat → Int32) :=
 (vo_poured, vo_towersRead, vo_poured, vo_spilt, x7, x8, x9)
def lp_X6_image_2 (ct2 : Int32 → (Nat → Int64) → (Nat → Int64) → (Nat → Int32) → (Int32 × Int32 × Int32 × Int64 × (Nat → Int64) × (Nat → Int64) × (Nat → Int32))) (vo_amounts : Nat → Int64) (vo_drank : Nat → Int64) (vo_turns : Nat → Int32) : Nat → Int32 → (Nat → Int64) → (Nat → Int64) → (Nat → Int32) → (Int32 × Int32 × Int32 × Int64 × (Nat → Int64) × (Nat → Int64) × (Nat → Int32))
  | 0, _, _, _, _ => default
  | k + 1, b2, b3, b4, b5 =>
  if (9 : Int32) ≤ b2 then
   (ct2 b2 b3 b4 b5)
  else
   cut (vp_updL b3 b2.toNatClampNeg (vo_amounts b2.toNatClampNeg)) (fun (a10 : Nat → Int64) =>
   cut (vp_updL b4 b2.toNatClampNeg (vo_drank b2.toNatClampNeg)) (fun (a11 : Nat → Int64) =>
   cut (upd b5 b2.toNatClampNeg (vo_turns b2.toNatClampNeg)) (fun (a12 : Nat → Int32) =>
   cut (b2 + (1 : Int32)) (fun (v13 : Int32) =>
   (lp_X6_image_2 ct2 vo_amounts vo_drank vo_turns k v13 a10 a11 a12)))))
def m_X6_image (vo_glasses : Int32) (vo_towersRead : Int32) (vo_poured : Int32) (vo_spilt : Int64) (vo_keptTower : Int32) (vo_keptPoured : Int32) (vo_keptSpilt : Int64) (vo_turns : Nat → Int32) (vo_amounts : Nat → Int64) (vo_drank : Nat → Int64) (vo_keptAmounts : Nat → Int64) (vo_keptDrank : Nat → Int64) (vo_keptTurns : Nat → Int32) : Int32 × Int32 × Int32 × Int64 × (Nat → Int64) × (Nat → Int64) × (Nat → Int32) :=
 cut (m_X6_lacks vo_glasses) (fun (r1 : Int32) =>
 if r1 = (0 : Int32) then
  (lp_X6_image_2 (rs_X6_image_2 vo_poured vo_towersRead vo_spilt) vo_amounts vo_drank vo_turns 11 (0 : Int32) vo_keptAmounts vo_keptDrank vo_keptTurns)
 else
  ((-103 : Int32), vo_keptTower, vo_keptPoured, vo_keptSpilt, vo_keptAmounts, vo_keptDrank, vo_keptTurns))
set_option maxHeartbeats 4000000 in
set_option maxRecDepth 100000 in
theorem k_X6_image (l : Launch) (dC : Nat → ClassId) (dI : Nat → Nat → Nat) (cI cJ cC : ClassId) (sz : Nat) (o o_page o_readRows o_rows o_turns o_amounts o_drank o_takes o_leans o_would o_keptAmounts o_keptDrank o_keptTurns : Nat) (vo_pageMany : Int32) (vo_readMany : Int32) (vo_state : Int32) (vo_readMost : Int32) (vo_glasses : Int32) (vo_towersRead : Int32) (vo_poured : Int32) (vo_spilt : Int64) (vo_done : Int32) (vo_seedNow : Int32) (vo_keptTower : Int32) (vo_keptPoured : Int32) (vo_keptSpilt : Int64) (vo_hash : Int64) (vo_turns : Nat → Int32) (vo_amounts : Nat → Int64) (vo_drank : Nat → Int64) (vo_keptAmounts : Nat → Int64) (vo_keptDrank : Nat → Int64) (vo_keptTurns : Nat → Int32) (r : Int32) (qo_keptTower : Int32) (qo_keptPoured : Int32) (qo_keptSpilt : Int64) (qo_keptAmounts : Nat → Int64) (qo_keptDrank : Nat → Int64) (qo_keptTurns : Nat → Int32) (hT : m_X6_image vo_glasses vo_towersRead vo_poured vo_spilt vo_keptTower vo_keptPoured vo_keptSpilt vo_turns vo_amounts vo_drank vo_keptAmounts vo_keptDrank vo_keptTurns = (r, qo_keptTower, qo_keptPoured, qo_keptSpilt, qo_keptAmounts, qo_keptDrank, qo_keptTurns)) : Met l yX6_image wsX6_image ({ frames := 1, cells := 0, slots := 0, locals := 20 }) (zPc [.ref o] (dC, dI) (zTy cI cJ cC) [(o, .inr (6, [.ref o_page, .int vo_pageMany, .int vo_readMany, .int vo_state, .int vo_readMost, .ref o_readRows, .int vo_glasses, .int vo_towersRead, .int vo_poured, .ref o_rows, .ref o_turns, .ref o_amounts, .ref o_drank, .long vo_spilt, .ref o_takes, .ref o_leans, .ref o_would, .int vo_done, .int vo_seedNow, .int vo_keptTower, .int vo_keptPoured, .long vo_keptSpilt, .ref o_keptAmounts, .ref o_keptDrank, .ref o_keptTurns, .long vo_hash])), (o_turns, .inl (cI, 9, .inl vo_turns)), (o_amounts, .inl (cJ, 9, .inr (.inl vo_amounts))), (o_drank, .inl (cJ, 9, .inr (.inl vo_drank))), (o_keptAmounts, .inl (cJ, 9, .inr (.inl vo_keptAmounts))), (o_keptDrank, .inl (cJ, 9, .inr (.inl vo_keptDrank))), (o_keptTurns, .inl (cI, 9, .inl vo_keptTurns))] sz) (zQi r (True) (dC, dI) (zTy cI cJ cC) [(o, .inr (6, [.ref o_page, .int vo_pageMany, .int vo_readMany, .int vo_state, .int vo_readMost, .ref o_readRows, .int vo_glasses, .int vo_towersRead, .int vo_poured, .ref o_rows, .ref o_turns, .ref o_amounts, .ref o_drank, .long vo_spilt, .ref o_takes, .ref o_leans, .ref o_would, .int vo_done, .int vo_seedNow, .int qo_keptTower, .int qo_keptPoured, .long qo_keptSpilt, .ref o_keptAmounts, .ref o_keptDrank, .ref o_keptTurns, .long vo_hash])), (o_turns, .inl (cI, 9, .inl vo_turns)), (o_amounts, .inl (cJ, 9, .inr (.inl vo_amounts))), (o_drank, .inl (cJ, 9, .inr (.inl vo_drank))), (o_keptAmounts, .inl (cJ, 9, .inr (.inl qo_keptAmounts))), (o_keptDrank, .inl (cJ, 9, .inr (.inl qo_keptDrank))), (o_keptTurns, .inl (cI, 9, .inl qo_keptTurns))] (va_A [(o, .inr (6, [.ref o_page, .int vo_pageMany, .int vo_readMany, .int vo_state, .int vo_readMost, .ref o_readRows, .int vo_glasses, .int vo_towersRead, .int vo_poured, .ref o_rows, .ref o_turns, .ref o_amounts, .ref o_drank, .long vo_spilt, .ref o_takes, .ref o_leans, .ref o_would, .int vo_done, .int vo_seedNow, .int vo_keptTower, .int vo_keptPoured, .long vo_keptSpilt, .ref o_keptAmounts, .ref o_keptDrank, .ref o_keptTurns, .long vo_hash])), (o_turns, .inl (cI, 9, .inl vo_turns)), (o_amounts, .inl (cJ, 9, .inr (.inl vo_amounts))), (o_drank, .inl (cJ, 9, .inr (.inl vo_drank))), (o_keptAmounts, .inl (cJ, 9, .inr (.inl vo_keptAmounts))), (o_keptDrank, .inl (cJ, 9, .inr (.inl vo_keptDrank))), (o_keptTurns, .inl (cI, 9, .inl vo_keptTurns))] sz)) 0 0 (va_A [(o, .inr (6, [.ref o_page, .int vo_pageMany, .int vo_readMany, .int vo_state, .int vo_readMost, .ref o_readRows, .int vo_glasses, .int vo_towersRead, .int vo_poured, .ref o_rows, .ref o_turns, .ref o_amounts, .ref o_drank, .long vo_spilt, .ref o_takes, .ref o_leans, .ref o_would, .int vo_done, .int vo_seedNow, .int vo_keptTower, .int vo_keptPoured, .long vo_keptSpilt, .ref o_keptAmounts, .ref o_keptDrank, .ref o_keptTurns, .long vo_hash])), (o_turns, .inl (cI, 9, .inl vo_turns)), (o_amounts, .inl (cJ, 9, .inr (.inl vo_amounts))), (o_drank, .inl (cJ, 9, .inr (.inl vo_drank))), (o_keptAmounts, .inl (cJ, 9, .inr (.inl vo_keptAmounts))), (o_keptDrank, .inl (cJ, 9, .inr (.inl vo_keptDrank))), (o_keptTurns, .inl (cI, 9, .inl vo_keptTurns))] sz) := by
  refine Met.ofW (cc := cX6_image) (maxL := 2) (ret := (some .int)) (by decide) rfl ?_
  intro p e s m args below meth c s₁ B hml hv
  obtain ⟨rfl, hsz, hP, hK, hD0⟩ := hv
  have hx := B.exec
  have hb := B.bytes
  have hr := B.returns
  have hts := atoms_spec (ws := wsX6_image) B.pre
  have hown : s.vm.findClass RX6 = some m.cls := findClass_of_methodNamed B.named
  have hlocks := B.notSynchronized
  subst hsz
  have hD := hD0.self (sz := s.heap.size)
  generalize hAe : va_A [(o, .inr (6, [.ref o_page, .int vo_pageMany, .int vo_readMany, .int vo_state, .int vo_readMost, .ref o_readRows, .int vo_glasses, .int vo_towersRead, .int vo_poured, .ref o_rows, .ref o_turns, .ref o_amounts, .ref o_drank, .long vo_spilt, .ref o_takes, .ref o_leans, .ref o_would, .int vo_done, .int vo_seedNow, .int vo_keptTower, .int vo_keptPoured, .long vo_keptSpilt, .ref o_keptAmounts, .ref o_keptDrank, .ref o_keptTurns, .long vo_hash])), (o_turns, .inl (cI, 9, .inl vo_turns)), (o_amounts, .inl (cJ, 9, .inr (.inl vo_amounts))), (o_drank, .inl (cJ, 9, .inr (.inl vo_drank))), (o_keptAmounts, .inl (cJ, 9, .inr (.inl vo_keptAmounts))), (o_keptDrank, .inl (cJ, 9, .inr (.inl vo_keptDrank))), (o_keptTurns, .inl (cI, 9, .inl vo_keptTurns))] s.heap.size = A at hD ⊢
  have hA : ∀ q : Nat, s.heap.size ≤ q → A q := fun q h => by rw [← hAe]; exact Or.inr h
  have hS : va_S A s.heap s.heap [] := va_S.rf
  have hP : va_P (dC, dI) vwCl [(o, .inr (6, [.ref o_page, .int vo_pageMany, .int vo_readMany, .int vo_state, .int vo_readMost, .ref o_readRows, .int vo_glasses, .int vo_towersRead, .int vo_poured, .ref o_rows, .ref o_turns, .ref o_amounts, .ref o_drank, .long vo_spilt, .ref o_takes, .ref o_leans, .ref o_would, .int vo_done, .int vo_seedNow, .int vo_keptTower, .int vo_keptPoured, .long vo_keptSpilt, .ref o_keptAmounts, .ref o_keptDrank, .ref o_keptTurns, .long vo_hash])), (o_turns, .inl (cI, 9, .inl vo_turns)), (o_amounts, .inl (cJ, 9, .inr (.inl vo_amounts))), (o_drank, .inl (cJ, 9, .inr (.inl vo_drank))), (o_keptAmounts, .inl (cJ, 9, .inr (.inl vo_keptAmounts))), (o_keptDrank, .inl (cJ, 9, .inr (.inl vo_keptDrank))), (o_keptTurns, .inl (cI, 9, .inl vo_keptTurns))] s.heap := hP
  have hK : va_K (dC, dI) vwCl (zTy cI cJ cC) s := hK
  have hl := lv_entry ([.ref o]) (n := 2) (Nat.le_of_ble_eq_true rfl)
  rw [lg_entry_eq]
  generalize (lg_sl ([.ref o]) ++ List.replicate (2 - (lg_sl ([.ref o])).length) Slot.unset).toArray = ls at hl ⊢
  have hl : lv_has ls 2 [(0, .ref o)] := hl
  refine zz_start hP hS (fun Q hQ H locs hP hS => ?_)
  have hwX6 : ∀ w ∈ u_ws RX6 TX6 26, w ∈ wsX6_image := by decide +kernel
  have hf_103 := (hts (.fieldLink RX6 103 "PouredTopmostModel" "towersRead" "I") (by decide +kernel))
  have hf_106 := (hts (.fieldLink RX6 106 "PouredTopmostModel" "spilt" "J") (by decide +kernel))
  have hf_110 := (hts (.fieldLink RX6 110 "PouredTopmostModel" "poured" "I") (by decide +kernel))
  have hf_19 := (hts (.fieldLink RX6 19 "PouredTopmostModel" "turns" "[I") (by decide +kernel))
  have hf_218 := (hts (.fieldLink RX6 218 "PouredTopmostModel" "keptPoured" "I") (by decide +kernel))
  have hf_22 := (hts (.fieldLink RX6 22 "PouredTopmostModel" "amounts" "[J") (by decide +kernel))
  have hf_221 := (hts (.fieldLink RX6 221 "PouredTopmostModel" "keptSpilt" "J") (by decide +kernel))
  have hf_26 := (hts (.fieldLink RX6 26 "PouredTopmostModel" "drank" "[J") (by decide +kernel))
  have hf_38 := (hts (.fieldLink RX6 38 "PouredTopmostModel" "keptAmounts" "[J") (by decide +kernel))
  have hf_41 := (hts (.fieldLink RX6 41 "PouredTopmostModel" "keptDrank" "[J") (by decide +kernel))
  have hf_44 := (hts (.fieldLink RX6 44 "PouredTopmostModel" "keptTurns" "[I") (by decide +kernel))
  have hf_47 := (hts (.fieldLink RX6 47 "PouredTopmostModel" "keptTower" "I") (by decide +kernel))
  refine lv_aload_n hx hb dX6_image_0 rfl (lv_at hl 0 rfl) ?_
  obtain ⟨r1, ev_1⟩ : ∃ x0, (m_X6_lacks vo_glasses) = x0 := ⟨_, rfl⟩
  replace hT := cut_n ev_1 hT
  refine zz_ci [0] [1, 2, 3, 4, 5, 6] (wr := [(o_turns, .inl (cI, 9, .inl vo_turns)), (o_amounts, .inl (cJ, 9, .inr (.inl vo_amounts))), (o_drank, .inl (cJ, 9, .inr (.inl vo_drank))), (o_keptAmounts, .inl (cJ, 9, .inr (.inl vo_keptAmounts))), (o_keptDrank, .inl (cJ, 9, .inr (.inl vo_keptDrank))), (o_keptTurns, .inl (cI, 9, .inl vo_keptTurns))]) (w1 := [(o, .inr (6, [.ref o_page, .int vo_pageMany, .int vo_readMany, .int vo_state, .int vo_readMost, .ref o_readRows, .int vo_glasses, .int vo_towersRead, .int vo_poured, .ref o_rows, .ref o_turns, .ref o_amounts, .ref o_drank, .long vo_spilt, .ref o_takes, .ref o_leans, .ref o_would, .int vo_done, .int vo_seedNow, .int vo_keptTower, .int vo_keptPoured, .long vo_keptSpilt, .ref o_keptAmounts, .ref o_keptDrank, .ref o_keptTurns, .long vo_hash]))]) (va_runV (As := []) (rest := []) ⟨hx, hb, hml, hown, hts⟩ (k_X6_lacks l dC dI cI cJ cC H.size o o_page o_readRows o_rows o_turns o_amounts o_drank o_takes o_leans o_would o_keptAmounts o_keptDrank o_keptTurns vo_pageMany vo_readMany vo_state vo_readMost vo_glasses vo_towersRead vo_poured vo_spilt vo_done vo_seedNow vo_keptTower vo_keptPoured vo_keptSpilt vo_hash r1 ev_1) (cwV 0 hts gX6_image_X6_lacks rfl rfl rfl (by decide +kernel) ⟨Nat.le_of_ble_eq_true rfl, Nat.le_of_ble_eq_true rfl⟩) (zz_preV [0] hK hP hD rfl rfl (va_recv hK hP (ci := 6) (q0 := 0) rfl rfl)) rfl rfl hl.1 rfl (lv_room (Nat.le_of_ble_eq_true rfl)) dX6_image_1 ⟨Nat.zero_le _, Nat.zero_le _⟩) hP hD hS hA rfl rfl rfl (by decide) (fun ok_2 H locs hP hD hS => ?_)
  have hP : va_P (dC, dI) vwCl [(o_turns, .inl (cI, 9, .inl vo_turns)), (o_amounts, .inl (cJ, 9, .inr (.inl vo_amounts))), (o_drank, .inl (cJ, 9, .inr (.inl vo_drank))), (o_keptAmounts, .inl (cJ, 9, .inr (.inl vo_keptAmounts))), (o_keptDrank, .inl (cJ, 9, .inr (.inl vo_keptDrank))), (o_keptTurns, .inl (cI, 9, .inl vo_keptTurns)), (o, .inr (6, [.ref o_page, .int vo_pageMany, .int vo_readMany, .int vo_state, .int vo_readMost, .ref o_readRows, .int vo_glasses, .int vo_towersRead, .int vo_poured, .ref o_rows, .ref o_turns, .ref o_amounts, .ref o_drank, .long vo_spilt, .ref o_takes, .ref o_leans, .ref o_would, .int vo_done, .int vo_seedNow, .int vo_keptTower, .int vo_keptPoured, .long vo_keptSpilt, .ref o_keptAmounts, .ref o_keptDrank, .ref o_keptTurns, .long vo_hash]))] H := hP
  have hD : va_D A [(o_turns, .inl (cI, 9, .inl vo_turns)), (o_amounts, .inl (cJ, 9, .inr (.inl vo_amounts))), (o_drank, .inl (cJ, 9, .inr (.inl vo_drank))), (o_keptAmounts, .inl (cJ, 9, .inr (.inl vo_keptAmounts))), (o_keptDrank, .inl (cJ, 9, .inr (.inl vo_keptDrank))), (o_keptTurns, .inl (cI, 9, .inl vo_keptTurns)), (o, .inr (6, [.ref o_page, .int vo_pageMany, .int vo_readMany, .int vo_state, .int vo_readMost, .ref o_readRows, .int vo_glasses, .int vo_towersRead, .int vo_poured, .ref o_rows, .ref o_turns, .ref o_amounts, .ref o_drank, .long vo_spilt, .ref o_takes, .ref o_leans, .ref o_would, .int vo_done, .int vo_seedNow, .int vo_keptTower, .int vo_keptPoured, .long vo_keptSpilt, .ref o_keptAmounts, .ref o_keptDrank, .ref o_keptTurns, .long vo_hash]))] := hD
  obtain ⟨k_3, k_4, k_5⟩ := ok_2
  refine lv_if_eq (tgt := 10) hx hb dX6_image_4 (by decide) (fun c_6 => ?_) (fun c_6 => ?_)
  · replace hT := cutT c_6 hT
    have g_14 := zeqT (rfl : (r1).toInt = _) (by decide : ((0 : Int32)).toInt = 0) c_6
    refine lv_iconst (v := (0 : Int32)) hx hb dX6_image_10 (by decide) ?_
    refine lv_istore_n (lv' := [(1, .int (0 : Int32)), (0, .ref o)]) hx hb dX6_image_11 rfl hl (by decide) rfl (fun ls hl => ?_)
    have hz_15 : ((0 : Int32)).toInt = 0 := by decide
    refine zz_loop (α := Int32 × (Nat → Int64) × (Nat → Int64) × (Nat → Int32)) 60 (fun k a H locs ls => (0 ≤ a.1.toInt) ∧ (a.1.toInt ≤ 9) ∧ (9 - a.1.toInt < ((k : Nat) : Int)) ∧ lp_X6_image_2 (rs_X6_image_2 vo_poured vo_towersRead vo_spilt) vo_amounts vo_drank vo_turns k a.1 a.2.1 a.2.2.1 a.2.2.2 = (r, qo_keptTower, qo_keptPoured, qo_keptSpilt, qo_keptAmounts, qo_keptDrank, qo_keptTurns) ∧ va_P (dC, dI) vwCl [(o_turns, .inl (cI, 9, .inl vo_turns)), (o_amounts, .inl (cJ, 9, .inr (.inl vo_amounts))), (o_drank, .inl (cJ, 9, .inr (.inl vo_drank))), (o_keptAmounts, .inl (cJ, 9, .inr (.inl a.2.1))), (o_keptDrank, .inl (cJ, 9, .inr (.inl a.2.2.1))), (o_keptTurns, .inl (cI, 9, .inl a.2.2.2)), (o, .inr (6, [.ref o_page, .int vo_pageMany, .int vo_readMany, .int vo_state, .int vo_readMost, .ref o_readRows, .int vo_glasses, .int vo_towersRead, .int vo_poured, .ref o_rows, .ref o_turns, .ref o_amounts, .ref o_drank, .long vo_spilt, .ref o_takes, .ref o_leans, .ref o_would, .int vo_done, .int vo_seedNow, .int vo_keptTower, .int vo_keptPoured, .long vo_keptSpilt, .ref o_keptAmounts, .ref o_keptDrank, .ref o_keptTurns, .long vo_hash]))] H ∧ va_D A [(o_turns, .inl (cI, 9, .inl vo_turns)), (o_amounts, .inl (cJ, 9, .inr (.inl vo_amounts))), (o_drank, .inl (cJ, 9, .inr (.inl vo_drank))), (o_keptAmounts, .inl (cJ, 9, .inr (.inl a.2.1))), (o_keptDrank, .inl (cJ, 9, .inr (.inl a.2.2.1))), (o_keptTurns, .inl (cI, 9, .inl a.2.2.2)), (o, .inr (6, [.ref o_page, .int vo_pageMany, .int vo_readMany, .int vo_state, .int vo_readMost, .ref o_readRows, .int vo_glasses, .int vo_towersRead, .int vo_poured, .ref o_rows, .ref o_turns, .ref o_amounts, .ref o_drank, .long vo_spilt, .ref o_takes, .ref o_leans, .ref o_would, .int vo_done, .int vo_seedNow, .int vo_keptTower, .int vo_keptPoured, .long vo_keptSpilt, .ref o_keptAmounts, .ref o_keptDrank, .ref o_keptTurns, .long vo_hash]))] ∧ va_S A s.heap H locs ∧ lv_has ls 2 [(1, .int a.1), (0, .ref o)]) (fun a H locs ls => (0 ≤ a.1.toInt) ∧ (a.1.toInt ≤ 9) ∧ (rs_X6_image_2 vo_poured vo_towersRead vo_spilt) a.1 a.2.1 a.2.2.1 a.2.2.2 = (r, qo_keptTower, qo_keptPoured, qo_keptSpilt, qo_keptAmounts, qo_keptDrank, qo_keptTurns) ∧ va_P (dC, dI) vwCl [(o_turns, .inl (cI, 9, .inl vo_turns)), (o_amounts, .inl (cJ, 9, .inr (.inl vo_amounts))), (o_drank, .inl (cJ, 9, .inr (.inl vo_drank))), (o_keptAmounts, .inl (cJ, 9, .inr (.inl a.2.1))), (o_keptDrank, .inl (cJ, 9, .inr (.inl a.2.2.1))), (o_keptTurns, .inl (cI, 9, .inl a.2.2.2)), (o, .inr (6, [.ref o_page, .int vo_pageMany, .int vo_readMany, .int vo_state, .int vo_readMost, .ref o_readRows, .int vo_glasses, .int vo_towersRead, .int vo_poured, .ref o_rows, .ref o_turns, .ref o_amounts, .ref o_drank, .long vo_spilt, .ref o_takes, .ref o_leans, .ref o_would, .int vo_done, .int vo_seedNow, .int vo_keptTower, .int vo_keptPoured, .long vo_keptSpilt, .ref o_keptAmounts, .ref o_keptDrank, .ref o_keptTurns, .long vo_hash]))] H ∧ va_D A [(o_turns, .inl (cI, 9, .inl vo_turns)), (o_amounts, .inl (cJ, 9, .inr (.inl vo_amounts))), (o_drank, .inl (cJ, 9, .inr (.inl vo_drank))), (o_keptAmounts, .inl (cJ, 9, .inr (.inl a.2.1))), (o_keptDrank, .inl (cJ, 9, .inr (.inl a.2.2.1))), (o_keptTurns, .inl (cI, 9, .inl a.2.2.2)), (o, .inr (6, [.ref o_page, .int vo_pageMany, .int vo_readMany, .int vo_state, .int vo_readMost, .ref o_readRows, .int vo_glasses, .int vo_towersRead, .int vo_poured, .ref o_rows, .ref o_turns, .ref o_amounts, .ref o_drank, .long vo_spilt, .ref o_takes, .ref o_leans, .ref o_would, .int vo_done, .int vo_seedNow, .int vo_keptTower, .int vo_keptPoured, .long vo_keptSpilt, .ref o_keptAmounts, .ref o_keptDrank, .ref o_keptTurns, .long vo_hash]))] ∧ va_S A s.heap H locs ∧ lv_has ls 2 [(0, .ref o)]) ?_ ?_ ?_ 11 ((0 : Int32), vo_keptAmounts, vo_keptDrank, vo_keptTurns) ⟨(by omega : 0 ≤ (0 : Int32).toInt), (by omega : (0 : Int32).toInt ≤ 9), (by omega : 9 - (0 : Int32).toInt < ((11 : Nat) : Int)), hT, hP.sub [0, 1, 2, 3, 4, 5, 6] rfl, hD.sub [0, 1, 2, 3, 4, 5, 6] rfl rfl, hS, lv_sub hl [0, 1] rfl⟩
    · rintro ⟨x6, x7, x8, x9⟩ H locs ls ⟨i1, j1, hT, hP, hD, hS, hl⟩
      have hP : va_P (dC, dI) vwCl [(o_turns, .inl (cI, 9, .inl vo_turns)), (o_amounts, .inl (cJ, 9, .inr (.inl vo_amounts))), (o_drank, .inl (cJ, 9, .inr (.inl vo_drank))), (o_keptAmounts, .inl (cJ, 9, .inr (.inl x7))), (o_keptDrank, .inl (cJ, 9, .inr (.inl x8))), (o_keptTurns, .inl (cI, 9, .inl x9)), (o, .inr (6, [.ref o_page, .int vo_pageMany, .int vo_readMany, .int vo_state, .int vo_readMost, .ref o_readRows, .int vo_glasses, .int vo_towersRead, .int vo_poured, .ref o_rows, .ref o_turns, .ref o_amounts, .ref o_drank, .long vo_spilt, .ref o_takes, .ref o_leans, .ref o_would, .int vo_done, .int vo_seedNow, .int vo_keptTower, .int vo_keptPoured, .long vo_keptSpilt, .ref o_keptAmounts, .ref o_keptDrank, .ref o_keptTurns, .long vo_hash]))] H := hP
      have hD : va_D A [(o_turns, .inl (cI, 9, .inl vo_turns)), (o_amounts, .inl (cJ, 9, .inr (.inl vo_amounts))), (o_drank, .inl (cJ, 9, .inr (.inl vo_drank))), (o_keptAmounts, .inl (cJ, 9, .inr (.inl x7))), (o_keptDrank, .inl (cJ, 9, .inr (.inl x8))), (o_keptTurns, .inl (cI, 9, .inl x9)), (o, .inr (6, [.ref o_page, .int vo_pageMany, .int vo_readMany, .int vo_state, .int vo_readMost, .ref o_readRows, .int vo_glasses, .int vo_towersRead, .int vo_poured, .ref o_rows, .ref o_turns, .ref o_amounts, .ref o_drank, .long vo_spilt, .ref o_takes, .ref o_leans, .ref o_would, .int vo_done, .int vo_seedNow, .int vo_keptTower, .int vo_keptPoured, .long vo_keptSpilt, .ref o_keptAmounts, .ref o_keptDrank, .ref o_keptTurns, .long vo_hash]))] := hD
      have hl : lv_has ls 2 [(0, .ref o)] := hl
      have hT : (rs_X6_image_2 vo_poured vo_towersRead vo_spilt) x6 x7 x8 x9 = (r, qo_keptTower, qo_keptPoured, qo_keptSpilt, qo_keptAmounts, qo_keptDrank, qo_keptTurns) := hT
      have i1 : 0 ≤ x6.toInt := i1
      have j1 : x6.toInt ≤ 9 := j1
      refine lv_aload_n hx hb dX6_image_60 rfl (lv_at hl 0 rfl) ?_
      refine lv_aload_n hx hb dX6_image_61 rfl (lv_at hl 0 rfl) ?_
      refine va_get (D := (dC, dI)) (ci := 6) (v := .int vo_poured) (C := RX6) (T := TX6) (N := 26) hx hb hts hwX6 hown hK hP 6 rfl rfl 8 (by decide) hf_110 (fun _ h9 => h9) rfl dX6_image_62 ?_
      refine va_put (D := (dC, dI)) (ci := 6) (v := .int vo_poured) (ty := .int) (C := RX6) (T := TX6) (N := 26) hx hb hts hwX6 tyX6 tyX6_ok nmX6 hown hK hP hD hS 6 rfl rfl 20 (by decide) hf_218 (fun _ h9 => h9) rfl (by decide +kernel) rfl rfl (Nat.le_of_ble_eq_true rfl) dX6_image_65 (fun H locs hP hD hS => ?_)
      have hP : va_P (dC, dI) vwCl [(o_turns, .inl (cI, 9, .inl vo_turns)), (o_amounts, .inl (cJ, 9, .inr (.inl vo_amounts))), (o_drank, .inl (cJ, 9, .inr (.inl vo_drank))), (o_keptAmounts, .inl (cJ, 9, .inr (.inl x7))), (o_keptDrank, .inl (cJ, 9, .inr (.inl x8))), (o_keptTurns, .inl (cI, 9, .inl x9)), (o, .inr (6, [.ref o_page, .int vo_pageMany, .int vo_readMany, .int vo_state, .int vo_readMost, .ref o_readRows, .int vo_glasses, .int vo_towersRead, .int vo_poured, .ref o_rows, .ref o_turns, .ref o_amounts, .ref o_drank, .long vo_spilt, .ref o_takes, .ref o_leans, .ref o_would, .int vo_done, .int vo_seedNow, .int vo_keptTower, .int vo_poured, .long vo_keptSpilt, .ref o_keptAmounts, .ref o_keptDrank, .ref o_keptTurns, .long vo_hash]))] H := hP
      have hD : va_D A [(o_turns, .inl (cI, 9, .inl vo_turns)), (o_amounts, .inl (cJ, 9, .inr (.inl vo_amounts))), (o_drank, .inl (cJ, 9, .inr (.inl vo_drank))), (o_keptAmounts, .inl (cJ, 9, .inr (.inl x7))), (o_keptDrank, .inl (cJ, 9, .inr (.inl x8))), (o_keptTurns, .inl (cI, 9, .inl x9)), (o, .inr (6, [.ref o_page, .int vo_pageMany, .int vo_readMany, .int vo_state, .int vo_readMost, .ref o_readRows, .int vo_glasses, .int vo_towersRead, .int vo_poured, .ref o_rows, .ref o_turns, .ref o_amounts, .ref o_drank, .long vo_spilt, .ref o_takes, .ref o_leans, .ref o_would, .int vo_done, .int vo_seedNow, .int vo_keptTower, .int vo_poured, .long vo_keptSpilt, .ref o_keptAmounts, .ref o_keptDrank, .ref o_keptTurns, .long vo_hash]))] := hD
      refine lv_aload_n hx hb dX6_image_68 rfl (lv_at hl 0 rfl) ?_
      refine lv_aload_n hx hb dX6_image_69 rfl (lv_at hl 0 rfl) ?_
      refine va_get (D := (dC, dI)) (ci := 6) (v := .long vo_spilt) (C := RX6) (T := TX6) (N := 26) hx hb hts hwX6 hown hK hP 6 rfl rfl 13 (by decide) hf_106 (fun _ h9 => h9) rfl dX6_image_70 ?_
      refine va_put (D := (dC, dI)) (ci := 6) (v := .long vo_spilt) (ty := .long) (C := RX6) (T := TX6) (N := 26) hx hb hts hwX6 tyX6 tyX6_ok nmX6 hown hK hP hD hS 6 rfl rfl 21 (by decide) hf_221 (fun _ h9 => h9) rfl (by decide +kernel) rfl rfl (Nat.le_of_ble_eq_true rfl) dX6_image_73 (fun H locs hP hD hS => ?_)
      have hP : va_P (dC, dI) vwCl [(o_turns, .inl (cI, 9, .inl vo_turns)), (o_amounts, .inl (cJ, 9, .inr (.inl vo_amounts))), (o_drank, .inl (cJ, 9, .inr (.inl vo_drank))), (o_keptAmounts, .inl (cJ, 9, .inr (.inl x7))), (o_keptDrank, .inl (cJ, 9, .inr (.inl x8))), (o_keptTurns, .inl (cI, 9, .inl x9)), (o, .inr (6, [.ref o_page, .int vo_pageMany, .int vo_readMany, .int vo_state, .int vo_readMost, .ref o_readRows, .int vo_glasses, .int vo_towersRead, .int vo_poured, .ref o_rows, .ref o_turns, .ref o_amounts, .ref o_drank, .long vo_spilt, .ref o_takes, .ref o_leans, .ref o_would, .int vo_done, .int vo_seedNow, .int vo_keptTower, .int vo_poured, .long vo_spilt, .ref o_keptAmounts, .ref o_keptDrank, .ref o_keptTurns, .long vo_hash]))] H := hP
      have hD : va_D A [(o_turns, .inl (cI, 9, .inl vo_turns)), (o_amounts, .inl (cJ, 9, .inr (.inl vo_amounts))), (o_drank, .inl (cJ, 9, .inr (.inl vo_drank))), (o_keptAmounts, .inl (cJ, 9, .inr (.inl x7))), (o_keptDrank, .inl (cJ, 9, .inr (.inl x8))), (o_keptTurns, .inl (cI, 9, .inl x9)), (o, .inr (6, [.ref o_page, .int vo_pageMany, .int vo_readMany, .int vo_state, .int vo_readMost, .ref o_readRows, .int vo_glasses, .int vo_towersRead, .int vo_poured, .ref o_rows, .ref o_turns, .ref o_amounts, .ref o_drank, .long vo_spilt, .ref o_takes, .ref o_leans, .ref o_would, .int vo_done, .int vo_seedNow, .int vo_keptTower, .int vo_poured, .long vo_spilt, .ref o_keptAmounts, .ref o_keptDrank, .ref o_keptTurns, .long vo_hash]))] := hD
      refine lv_aload_n hx hb dX6_image_76 rfl (lv_at hl 0 rfl) ?_
      refine lv_aload_n hx hb dX6_image_77 rfl (lv_at hl 0 rfl) ?_
      refine va_get (D := (dC, dI)) (ci := 6) (v := .int vo_towersRead) (C := RX6) (T := TX6) (N := 26) hx hb hts hwX6 hown hK hP 6 rfl rfl 7 (by decide) hf_103 (fun _ h9 => h9) rfl dX6_image_78 ?_
      refine va_put (D := (dC, dI)) (ci := 6) (v := .int vo_towersRead) (ty := .int) (C := RX6) (T := TX6) (N := 26) hx hb hts hwX6 tyX6 tyX6_ok nmX6 hown hK hP hD hS 6 rfl rfl 19 (by decide) hf_47 (fun _ h9 => h9) rfl (by decide +kernel) rfl rfl (Nat.le_of_ble_eq_true rfl) dX6_image_81 (fun H locs hP hD hS => ?_)
      have hP : va_P (dC, dI) vwCl [(o_turns, .inl (cI, 9, .inl vo_turns)), (o_amounts, .inl (cJ, 9, .inr (.inl vo_amounts))), (o_drank, .inl (cJ, 9, .inr (.inl vo_drank))), (o_keptAmounts, .inl (cJ, 9, .inr (.inl x7))), (o_keptDrank, .inl (cJ, 9, .inr (.inl x8))), (o_keptTurns, .inl (cI, 9, .inl x9)), (o, .inr (6, [.ref o_page, .int vo_pageMany, .int vo_readMany, .int vo_state, .int vo_readMost, .ref o_readRows, .int vo_glasses, .int vo_towersRead, .int vo_poured, .ref o_rows, .ref o_turns, .ref o_amounts, .ref o_drank, .long vo_spilt, .ref o_takes, .ref o_leans, .ref o_would, .int vo_done, .int vo_seedNow, .int vo_towersRead, .int vo_poured, .long vo_spilt, .ref o_keptAmounts, .ref o_keptDrank, .ref o_keptTurns, .long vo_hash]))] H := hP
      have hD : va_D A [(o_turns, .inl (cI, 9, .inl vo_turns)), (o_amounts, .inl (cJ, 9, .inr (.inl vo_amounts))), (o_drank, .inl (cJ, 9, .inr (.inl vo_drank))), (o_keptAmounts, .inl (cJ, 9, .inr (.inl x7))), (o_keptDrank, .inl (cJ, 9, .inr (.inl x8))), (o_keptTurns, .inl (cI, 9, .inl x9)), (o, .inr (6, [.ref o_page, .int vo_pageMany, .int vo_readMany, .int vo_state, .int vo_readMost, .ref o_readRows, .int vo_glasses, .int vo_towersRead, .int vo_poured, .ref o_rows, .ref o_turns, .ref o_amounts, .ref o_drank, .long vo_spilt, .ref o_takes, .ref o_leans, .ref o_would, .int vo_done, .int vo_seedNow, .int vo_towersRead, .int vo_poured, .long vo_spilt, .ref o_keptAmounts, .ref o_keptDrank, .ref o_keptTurns, .long vo_hash]))] := hD
      refine lv_aload_n hx hb dX6_image_84 rfl (lv_at hl 0 rfl) ?_
      refine va_get (D := (dC, dI)) (ci := 6) (v := .int vo_poured) (C := RX6) (T := TX6) (N := 26) hx hb hts hwX6 hown hK hP 6 rfl rfl 8 (by decide) hf_110 (fun _ h9 => h9) rfl dX6_image_85 ?_
      have hP9 := hP
      have hD9 := hD
      have hS9 := hS
      have hT : (vo_poured, vo_towersRead, vo_poured, vo_spilt, x7, x8, x9) = (r, qo_keptTower, qo_keptPoured, qo_keptSpilt, qo_keptAmounts, qo_keptDrank, qo_keptTurns) := hT
      cases hT
      subst hQ
      exact zz_iret hx hb hr [6, 0, 1, 2, 3, 4, 5] hK hP9 hD9 hS9 rfl rfl trivial hlocks dX6_image_88
    · rintro ⟨b2, b3, b4, b5⟩ H locs ls ⟨i1, j1, hm, -⟩
      try dsimp only at *
      omega
    · intro k2 hex2 ih2
      rintro ⟨b2, b3, b4, b5⟩ H locs ls ⟨i1, j1, hm2, hT, hP, hD, hS, hl⟩
      have hP : va_P (dC, dI) vwCl [(o_turns, .inl (cI, 9, .inl vo_turns)), (o_amounts, .inl (cJ, 9, .inr (.inl vo_amounts))), (o_drank, .inl (cJ, 9, .inr (.inl vo_drank))), (o_keptAmounts, .inl (cJ, 9, .inr (.inl b3))), (o_keptDrank, .inl (cJ, 9, .inr (.inl b4))), (o_keptTurns, .inl (cI, 9, .inl b5)), (o, .inr (6, [.ref o_page, .int vo_pageMany, .int vo_readMany, .int vo_state, .int vo_readMost, .ref o_readRows, .int vo_glasses, .int vo_towersRead, .int vo_poured, .ref o_rows, .ref o_turns, .ref o_amounts, .ref o_drank, .long vo_spilt, .ref o_takes, .ref o_leans, .ref o_would, .int vo_done, .int vo_seedNow, .int vo_keptTower, .int vo_keptPoured, .long vo_keptSpilt, .ref o_keptAmounts, .ref o_keptDrank, .ref o_keptTurns, .long vo_hash]))] H := hP
      have hD : va_D A [(o_turns, .inl (cI, 9, .inl vo_turns)), (o_amounts, .inl (cJ, 9, .inr (.inl vo_amounts))), (o_drank, .inl (cJ, 9, .inr (.inl vo_drank))), (o_keptAmounts, .inl (cJ, 9, .inr (.inl b3))), (o_keptDrank, .inl (cJ, 9, .inr (.inl b4))), (o_keptTurns, .inl (cI, 9, .inl b5)), (o, .inr (6, [.ref o_page, .int vo_pageMany, .int vo_readMany, .int vo_state, .int vo_readMost, .ref o_readRows, .int vo_glasses, .int vo_towersRead, .int vo_poured, .ref o_rows, .ref o_turns, .ref o_amounts, .ref o_drank, .long vo_spilt, .ref o_takes, .ref o_leans, .ref o_would, .int vo_done, .int vo_seedNow, .int vo_keptTower, .int vo_keptPoured, .long vo_keptSpilt, .ref o_keptAmounts, .ref o_keptDrank, .ref o_keptTurns, .long vo_hash]))] := hD
      have hl : lv_has ls 2 [(1, .int b2), (0, .ref o)] := hl
      have hT : lp_X6_image_2 (rs_X6_image_2 vo_poured vo_towersRead vo_spilt) vo_amounts vo_drank vo_turns (k2 + 1) b2 b3 b4 b5 = (r, qo_keptTower, qo_keptPoured, qo_keptSpilt, qo_keptAmounts, qo_keptDrank, qo_keptTurns) := hT
      have i1 : 0 ≤ b2.toInt := i1
      have j1 : b2.toInt ≤ 9 := j1
      have hm2 : 9 - b2.toInt < (((k2 + 1) : Nat) : Int) := hm2
      try simp only [Int.natCast_add, Int.natCast_one, Nat.cast_add, Nat.cast_one] at hm2
      refine lv_iload_n hx hb dX6_image_12 rfl (lv_at hl 0 rfl) ?_
      refine lv_bipush (v := (9 : Int32)) hx hb dX6_image_13 (by decide) ?_
      refine lv_icmp_ge (tgt := 60) hx hb dX6_image_15 (by decide) (fun c_7 => ?_) (fun c_7 => ?_)
      · replace hT := cutT c_7 hT
        have g_16 := zleT (by decide : ((9 : Int32)).toInt = 9) (rfl : (b2).toInt = _) c_7
        exact hex2 (b2, b3, b4, b5) _ _ _ ⟨(by omega : 0 ≤ b2.toInt), (by omega : b2.toInt ≤ 9), hT, hP.sub [0, 1, 2, 3, 4, 5, 6] rfl, hD.sub [0, 1, 2, 3, 4, 5, 6] rfl rfl, hS, lv_sub hl [1] rfl⟩
      · replace hT := cutF c_7 hT
        have g_17 := zleF (by decide : ((9 : Int32)).toInt = 9) (rfl : (b2).toInt = _) c_7
        refine lv_aload_n hx hb dX6_image_18 rfl (lv_at hl 1 rfl) ?_
        refine va_get (D := (dC, dI)) (ci := 6) (v := .ref o_keptAmounts) (C := RX6) (T := TX6) (N := 26) hx hb hts hwX6 hown hK hP 6 rfl rfl 22 (by decide) hf_38 (fun _ h9 => h9) rfl dX6_image_19 ?_
        refine lv_iload_n hx hb dX6_image_22 rfl (lv_at hl 0 rfl) ?_
        refine lv_aload_n hx hb dX6_image_23 rfl (lv_at hl 1 rfl) ?_
        refine va_get (D := (dC, dI)) (ci := 6) (v := .ref o_amounts) (C := RX6) (T := TX6) (N := 26) hx hb hts hwX6 hown hK hP 6 rfl rfl 11 (by decide) hf_22 (fun _ h9 => h9) rfl dX6_image_24 ?_
        refine lv_iload_n hx hb dX6_image_27 rfl (lv_at hl 0 rfl) ?_
        have h_8 : vp_in b2 9 := zin (by omega) (by omega)
        refine va_lald hx hb hK hP 1 1 rfl rfl h_8 dX6_image_28 ?_
        have h_9 : vp_in b2 9 := zin (by omega) (by omega)
        refine va_last hx hb hK hP hD hS 3 1 rfl rfl h_9 dX6_image_29 (fun H locs hP hD hS => ?_)
        obtain ⟨a10, ea10⟩ : ∃ z, (vp_updL b3 b2.toNatClampNeg (vo_amounts b2.toNatClampNeg)) = z := ⟨_, rfl⟩
        replace hT := cut_n ea10 hT
        have hP : va_P (dC, dI) vwCl [(o_turns, .inl (cI, 9, .inl vo_turns)), (o_amounts, .inl (cJ, 9, .inr (.inl vo_amounts))), (o_drank, .inl (cJ, 9, .inr (.inl vo_drank))), (o_keptAmounts, .inl (cJ, 9, .inr (.inl a10))), (o_keptDrank, .inl (cJ, 9, .inr (.inl b4))), (o_keptTurns, .inl (cI, 9, .inl b5)), (o, .inr (6, [.ref o_page, .int vo_pageMany, .int vo_readMany, .int vo_state, .int vo_readMost, .ref o_readRows, .int vo_glasses, .int vo_towersRead, .int vo_poured, .ref o_rows, .ref o_turns, .ref o_amounts, .ref o_drank, .long vo_spilt, .ref o_takes, .ref o_leans, .ref o_would, .int vo_done, .int vo_seedNow, .int vo_keptTower, .int vo_keptPoured, .long vo_keptSpilt, .ref o_keptAmounts, .ref o_keptDrank, .ref o_keptTurns, .long vo_hash]))] H := by rw [← ea10]; exact hP
        have hD : va_D A [(o_turns, .inl (cI, 9, .inl vo_turns)), (o_amounts, .inl (cJ, 9, .inr (.inl vo_amounts))), (o_drank, .inl (cJ, 9, .inr (.inl vo_drank))), (o_keptAmounts, .inl (cJ, 9, .inr (.inl a10))), (o_keptDrank, .inl (cJ, 9, .inr (.inl b4))), (o_keptTurns, .inl (cI, 9, .inl b5)), (o, .inr (6, [.ref o_page, .int vo_pageMany, .int vo_readMany, .int vo_state, .int vo_readMost, .ref o_readRows, .int vo_glasses, .int vo_towersRead, .int vo_poured, .ref o_rows, .ref o_turns, .ref o_amounts, .ref o_drank, .long vo_spilt, .ref o_takes, .ref o_leans, .ref o_would, .int vo_done, .int vo_seedNow, .int vo_keptTower, .int vo_keptPoured, .long vo_keptSpilt, .ref o_keptAmounts, .ref o_keptDrank, .ref o_keptTurns, .long vo_hash]))] := by rw [← ea10]; exact hD
        refine lv_aload_n hx hb dX6_image_30 rfl (lv_at hl 1 rfl) ?_
        refine va_get (D := (dC, dI)) (ci := 6) (v := .ref o_keptDrank) (C := RX6) (T := TX6) (N := 26) hx hb hts hwX6 hown hK hP 6 rfl rfl 23 (by decide) hf_41 (fun _ h9 => h9) rfl dX6_image_31 ?_
        refine lv_iload_n hx hb dX6_image_34 rfl (lv_at hl 0 rfl) ?_
        refine lv_aload_n hx hb dX6_image_35 rfl (lv_at hl 1 rfl) ?_
        refine va_get (D := (dC, dI)) (ci := 6) (v := .ref o_drank) (C := RX6) (T := TX6) (N := 26) hx hb hts hwX6 hown hK hP 6 rfl rfl 12 (by decide) hf_26 (fun _ h9 => h9) rfl dX6_image_36 ?_
        refine lv_iload_n hx hb dX6_image_39 rfl (lv_at hl 0 rfl) ?_
        have h_10 : vp_in b2 9 := zin (by omega) (by omega)
        refine va_lald hx hb hK hP 2 1 rfl rfl h_10 dX6_image_40 ?_
        have h_11 : vp_in b2 9 := zin (by omega) (by omega)
        refine va_last hx hb hK hP hD hS 4 1 rfl rfl h_11 dX6_image_41 (fun H locs hP hD hS => ?_)
        obtain ⟨a11, ea11⟩ : ∃ z, (vp_updL b4 b2.toNatClampNeg (vo_drank b2.toNatClampNeg)) = z := ⟨_, rfl⟩
        replace hT := cut_n ea11 hT
        have hP : va_P (dC, dI) vwCl [(o_turns, .inl (cI, 9, .inl vo_turns)), (o_amounts, .inl (cJ, 9, .inr (.inl vo_amounts))), (o_drank, .inl (cJ, 9, .inr (.inl vo_drank))), (o_keptAmounts, .inl (cJ, 9, .inr (.inl a10))), (o_keptDrank, .inl (cJ, 9, .inr (.inl a11))), (o_keptTurns, .inl (cI, 9, .inl b5)), (o, .inr (6, [.ref o_page, .int vo_pageMany, .int vo_readMany, .int vo_state, .int vo_readMost, .ref o_readRows, .int vo_glasses, .int vo_towersRead, .int vo_poured, .ref o_rows, .ref o_turns, .ref o_amounts, .ref o_drank, .long vo_spilt, .ref o_takes, .ref o_leans, .ref o_would, .int vo_done, .int vo_seedNow, .int vo_keptTower, .int vo_keptPoured, .long vo_keptSpilt, .ref o_keptAmounts, .ref o_keptDrank, .ref o_keptTurns, .long vo_hash]))] H := by rw [← ea11]; exact hP
        have hD : va_D A [(o_turns, .inl (cI, 9, .inl vo_turns)), (o_amounts, .inl (cJ, 9, .inr (.inl vo_amounts))), (o_drank, .inl (cJ, 9, .inr (.inl vo_drank))), (o_keptAmounts, .inl (cJ, 9, .inr (.inl a10))), (o_keptDrank, .inl (cJ, 9, .inr (.inl a11))), (o_keptTurns, .inl (cI, 9, .inl b5)), (o, .inr (6, [.ref o_page, .int vo_pageMany, .int vo_readMany, .int vo_state, .int vo_readMost, .ref o_readRows, .int vo_glasses, .int vo_towersRead, .int vo_poured, .ref o_rows, .ref o_turns, .ref o_amounts, .ref o_drank, .long vo_spilt, .ref o_takes, .ref o_leans, .ref o_would, .int vo_done, .int vo_seedNow, .int vo_keptTower, .int vo_keptPoured, .long vo_keptSpilt, .ref o_keptAmounts, .ref o_keptDrank, .ref o_keptTurns, .long vo_hash]))] := by rw [← ea11]; exact hD
        refine lv_aload_n hx hb dX6_image_42 rfl (lv_at hl 1 rfl) ?_
        refine va_get (D := (dC, dI)) (ci := 6) (v := .ref o_keptTurns) (C := RX6) (T := TX6) (N := 26) hx hb hts hwX6 hown hK hP 6 rfl rfl 24 (by decide) hf_44 (fun _ h9 => h9) rfl dX6_image_43 ?_
        refine lv_iload_n hx hb dX6_image_46 rfl (lv_at hl 0 rfl) ?_
        refine lv_aload_n hx hb dX6_image_47 rfl (lv_at hl 1 rfl) ?_
        refine va_get (D := (dC, dI)) (ci := 6) (v := .ref o_turns) (C := RX6) (T := TX6) (N := 26) hx hb hts hwX6 hown hK hP 6 rfl rfl 10 (by decide) hf_19 (fun _ h9 => h9) rfl dX6_image_48 ?_
        refine lv_iload_n hx hb dX6_image_51 rfl (lv_at hl 0 rfl) ?_
        have h_12 : vp_in b2 9 := zin (by omega) (by omega)
        refine va_iald hx hb hK hP 0 0 rfl rfl h_12 dX6_image_52 ?_
        have h_13 : vp_in b2 9 := zin (by omega) (by omega)
        refine va_iast hx hb hK hP hD hS 5 0 rfl rfl h_13 dX6_image_53 (fun H locs hP hD hS => ?_)
        obtain ⟨a12, ea12⟩ : ∃ z, (upd b5 b2.toNatClampNeg (vo_turns b2.toNatClampNeg)) = z := ⟨_, rfl⟩
        replace hT := cut_n ea12 hT
        have hP : va_P (dC, dI) vwCl [(o_turns, .inl (cI, 9, .inl vo_turns)), (o_amounts, .inl (cJ, 9, .inr (.inl vo_amounts))), (o_drank, .inl (cJ, 9, .inr (.inl vo_drank))), (o_keptAmounts, .inl (cJ, 9, .inr (.inl a10))), (o_keptDrank, .inl (cJ, 9, .inr (.inl a11))), (o_keptTurns, .inl (cI, 9, .inl a12)), (o, .inr (6, [.ref o_page, .int vo_pageMany, .int vo_readMany, .int vo_state, .int vo_readMost, .ref o_readRows, .int vo_glasses, .int vo_towersRead, .int vo_poured, .ref o_rows, .ref o_turns, .ref o_amounts, .ref o_drank, .long vo_spilt, .ref o_takes, .ref o_leans, .ref o_would, .int vo_done, .int vo_seedNow, .int vo_keptTower, .int vo_keptPoured, .long vo_keptSpilt, .ref o_keptAmounts, .ref o_keptDrank, .ref o_keptTurns, .long vo_hash]))] H := by rw [← ea12]; exact hP
        have hD : va_D A [(o_turns, .inl (cI, 9, .inl vo_turns)), (o_amounts, .inl (cJ, 9, .inr (.inl vo_amounts))), (o_drank, .inl (cJ, 9, .inr (.inl vo_drank))), (o_keptAmounts, .inl (cJ, 9, .inr (.inl a10))), (o_keptDrank, .inl (cJ, 9, .inr (.inl a11))), (o_keptTurns, .inl (cI, 9, .inl a12)), (o, .inr (6, [.ref o_page, .int vo_pageMany, .int vo_readMany, .int vo_state, .int vo_readMost, .ref o_readRows, .int vo_glasses, .int vo_towersRead, .int vo_poured, .ref o_rows, .ref o_turns, .ref o_amounts, .ref o_drank, .long vo_spilt, .ref o_takes, .ref o_leans, .ref o_would, .int vo_done, .int vo_seedNow, .int vo_keptTower, .int vo_keptPoured, .long vo_keptSpilt, .ref o_keptAmounts, .ref o_keptDrank, .ref o_keptTurns, .long vo_hash]))] := by rw [← ea12]; exact hD
        obtain ⟨v13, ev13⟩ : ∃ y : Int32, (b2 + (1 : Int32)) = y := ⟨_, rfl⟩
        replace hT := cut_n ev13 hT
        try have fv13 := zaddE (rfl : (b2).toInt = _) (by decide : ((1 : Int32)).toInt = 1) ev13 (by omega) (by omega)
        refine lv_iinc (v := v13) (lv' := [(1, .int v13), (0, .ref o)]) hx hb dX6_image_54 hl (k := 0) rfl (by rw [← ev13]; rfl) (by decide) rfl (fun ls hl => ?_)
        refine lv_goto (tgt := 12) hx hb dX6_image_57 (by decide) ?_
        exact ih2 (v13, a10, a11, a12) _ _ _ ⟨(by omega : 0 ≤ v13.toInt), (by omega : v13.toInt ≤ 9), (by omega : 9 - v13.toInt < ((k2 : Nat) : Int)), hT, hP.sub [0, 1, 2, 3, 4, 5, 6] rfl, hD.sub [0, 1, 2, 3, 4, 5, 6] rfl rfl, hS, lv_sub hl [0, 1] rfl⟩
  · replace hT := cutF c_6 hT
    have g_18 := zeqF (rfl : (r1).toInt = _) (by decide : ((0 : Int32)).toInt = 0) c_6
    refine lv_bipush (v := (-103 : Int32)) hx hb dX6_image_7 (by decide) ?_
    have hP9 := hP
    have hD9 := hD
    have hS9 := hS
    have hT : ((-103 : Int32), vo_keptTower, vo_keptPoured, vo_keptSpilt, vo_keptAmounts, vo_keptDrank, vo_keptTurns) = (r, qo_keptTower, qo_keptPoured, qo_keptSpilt, qo_keptAmounts, qo_keptDrank, qo_keptTurns) := hT
    cases hT
    subst hQ
    exact zz_iret hx hb hr [6, 0, 1, 2, 3, 4, 5] hK hP9 hD9 hS9 rfl rfl trivial hlocks dX6_image_9

def rs_X6_restore_2 (vo_keptPoured : Int32) (vo_keptSpilt : Int64) (x5 : Int32) (x6 : Nat → Int32) (x7 : Nat → Int64) (x8 : Nat → Int64) : Int32 × Int32 × Int64 × (Nat → Int32) × (Nat → Int64) × (Nat → Int64) :=
 (vo_keptPoured, vo_keptPoured, vo_keptSpilt, x6, x7, x8)
def lp_X6_restore_2 (ct2 : Int32 → (Nat → Int32) → (Nat → Int64) → (Nat → Int64) → (Int32 × Int32 × Int64 × (Nat → Int32) × (Nat → Int64) × (Nat → Int64))) (vo_keptAmounts : Nat → Int64) (vo_keptDrank : Nat → Int64) (vo_keptTurns : Nat → Int32) : Nat → Int32 → (Nat → Int32) → (Nat → Int64) → (Nat → Int64) → (Int32 × Int32 × Int64 × (Nat → Int32) × (Nat → Int64) × (Nat → Int64))
  | 0, _, _, _, _ => default
  | k + 1, b1, b2, b3, b4 =>
  if (9 : Int32) ≤ b1 then
   (ct2 b1 b2 b3 b4)
  else
   cut (vp_updL b3 b1.toNatClampNeg (vo_keptAmounts b1.toNatClampNeg)) (fun (a9 : Nat → Int64) =>
   cut (vp_updL b4 b1.toNatClampNeg (vo_keptDrank b1.toNatClampNeg)) (fun (a10 : Nat → Int64) =>
   cut (upd b2 b1.toNatClampNeg (vo_keptTurns b1.toNatClampNeg)) (fun (a11 : Nat → Int32) =>
   cut (b1 + (1 : Int32)) (fun (v12 : Int32) =>
   (lp_X6_restore_2 ct2 vo_keptAmounts vo_keptDrank vo_keptTurns k v12 a11 a9 a10)))))
def m_X6_restore (vo_towersRead : Int32) (vo_poured : Int32) (vo_spilt : Int64) (vo_keptTower : Int32) (vo_keptPoured : Int32) (vo_keptSpilt : Int64) (vo_turns : Nat → Int32) (vo_amounts : Nat → Int64) (vo_drank : Nat → Int64) (vo_keptAmounts : Nat → Int64) (vo_keptDrank : Nat → Int64) (vo_keptTurns : Nat → Int32) : Int32 × Int32 × Int64 × (Nat → Int32) × (Nat → Int64) × (Nat → Int64) :=
 if vo_keptTower = vo_towersRead then
  (lp_X6_restore_2 (rs_X6_restore_2 vo_keptPoured vo_keptSpilt) vo_keptAmounts vo_keptDrank vo_keptTurns 11 (0 : Int32) vo_turns vo_amounts vo_drank)
 else
  ((-103 : Int32), vo_poured, vo_spilt, vo_turns, vo_amounts, vo_drank)
set_option maxHeartbeats 4000000 in
set_option maxRecDepth 100000 in
theorem k_X6_restore (l : Launch) (dC : Nat → ClassId) (dI : Nat → Nat → Nat) (cI cJ cC : ClassId) (sz : Nat) (o o_page o_readRows o_rows o_turns o_amounts o_drank o_takes o_leans o_would o_keptAmounts o_keptDrank o_keptTurns : Nat) (vo_pageMany : Int32) (vo_readMany : Int32) (vo_state : Int32) (vo_readMost : Int32) (vo_glasses : Int32) (vo_towersRead : Int32) (vo_poured : Int32) (vo_spilt : Int64) (vo_done : Int32) (vo_seedNow : Int32) (vo_keptTower : Int32) (vo_keptPoured : Int32) (vo_keptSpilt : Int64) (vo_hash : Int64) (vo_turns : Nat → Int32) (vo_amounts : Nat → Int64) (vo_drank : Nat → Int64) (vo_keptAmounts : Nat → Int64) (vo_keptDrank : Nat → Int64) (vo_keptTurns : Nat → Int32) (r : Int32) (qo_poured : Int32) (qo_spilt : Int64) (qo_turns : Nat → Int32) (qo_amounts : Nat → Int64) (qo_drank : Nat → Int64) (hT : m_X6_restore vo_towersRead vo_poured vo_spilt vo_keptTower vo_keptPoured vo_keptSpilt vo_turns vo_amounts vo_drank vo_keptAmounts vo_keptDrank vo_keptTurns = (r, qo_poured, qo_spilt, qo_turns, qo_amounts, qo_drank)) : Met l yX6_restore wsX6_restore ({ frames := 0, cells := 0, slots := 0, locals := 0 }) (zPc [.ref o] (dC, dI) (zTy cI cJ cC) [(o, .inr (6, [.ref o_page, .int vo_pageMany, .int vo_readMany, .int vo_state, .int vo_readMost, .ref o_readRows, .int vo_glasses, .int vo_towersRead, .int vo_poured, .ref o_rows, .ref o_turns, .ref o_amounts, .ref o_drank, .long vo_spilt, .ref o_takes, .ref o_leans, .ref o_would, .int vo_done, .int vo_seedNow, .int vo_keptTower, .int vo_keptPoured, .long vo_keptSpilt, .ref o_keptAmounts, .ref o_keptDrank, .ref o_keptTurns, .long vo_hash])), (o_turns, .inl (cI, 9, .inl vo_turns)), (o_amounts, .inl (cJ, 9, .inr (.inl vo_amounts))), (o_drank, .inl (cJ, 9, .inr (.inl vo_drank))), (o_keptAmounts, .inl (cJ, 9, .inr (.inl vo_keptAmounts))), (o_keptDrank, .inl (cJ, 9, .inr (.inl vo_keptDrank))), (o_keptTurns, .inl (cI, 9, .inl vo_keptTurns))] sz) (zQi r (True) (dC, dI) (zTy cI cJ cC) [(o, .inr (6, [.ref o_page, .int vo_pageMany, .int vo_readMany, .int vo_state, .int vo_readMost, .ref o_readRows, .int vo_glasses, .int vo_towersRead, .int qo_poured, .ref o_rows, .ref o_turns, .ref o_amounts, .ref o_drank, .long qo_spilt, .ref o_takes, .ref o_leans, .ref o_would, .int vo_done, .int vo_seedNow, .int vo_keptTower, .int vo_keptPoured, .long vo_keptSpilt, .ref o_keptAmounts, .ref o_keptDrank, .ref o_keptTurns, .long vo_hash])), (o_turns, .inl (cI, 9, .inl qo_turns)), (o_amounts, .inl (cJ, 9, .inr (.inl qo_amounts))), (o_drank, .inl (cJ, 9, .inr (.inl qo_drank))), (o_keptAmounts, .inl (cJ, 9, .inr (.inl vo_keptAmounts))), (o_keptDrank, .inl (cJ, 9, .inr (.inl vo_keptDrank))), (o_keptTurns, .inl (cI, 9, .inl vo_keptTurns))] (va_A [(o, .inr (6, [.ref o_page, .int vo_pageMany, .int vo_readMany, .int vo_state, .int vo_readMost, .ref o_readRows, .int vo_glasses, .int vo_towersRead, .int vo_poured, .ref o_rows, .ref o_turns, .ref o_amounts, .ref o_drank, .long vo_spilt, .ref o_takes, .ref o_leans, .ref o_would, .int vo_done, .int vo_seedNow, .int vo_keptTower, .int vo_keptPoured, .long vo_keptSpilt, .ref o_keptAmounts, .ref o_keptDrank, .ref o_keptTurns, .long vo_hash])), (o_turns, .inl (cI, 9, .inl vo_turns)), (o_amounts, .inl (cJ, 9, .inr (.inl vo_amounts))), (o_drank, .inl (cJ, 9, .inr (.inl vo_drank))), (o_keptAmounts, .inl (cJ, 9, .inr (.inl vo_keptAmounts))), (o_keptDrank, .inl (cJ, 9, .inr (.inl vo_keptDrank))), (o_keptTurns, .inl (cI, 9, .inl vo_keptTurns))] sz)) 0 0 (va_A [(o, .inr (6, [.ref o_page, .int vo_pageMany, .int vo_readMany, .int vo_state, .int vo_readMost, .ref o_readRows, .int vo_glasses, .int vo_towersRead, .int vo_poured, .ref o_rows, .ref o_turns, .ref o_amounts, .ref o_drank, .long vo_spilt, .ref o_takes, .ref o_leans, .ref o_would, .int vo_done, .int vo_seedNow, .int vo_keptTower, .int vo_keptPoured, .long vo_keptSpilt, .ref o_keptAmounts, .ref o_keptDrank, .ref o_keptTurns, .long vo_hash])), (o_turns, .inl (cI, 9, .inl vo_turns)), (o_amounts, .inl (cJ, 9, .inr (.inl vo_amounts))), (o_drank, .inl (cJ, 9, .inr (.inl vo_drank))), (o_keptAmounts, .inl (cJ, 9, .inr (.inl vo_keptAmounts))), (o_keptDrank, .inl (cJ, 9, .inr (.inl vo_keptDrank))), (o_keptTurns, .inl (cI, 9, .inl vo_keptTurns))] sz) := by
  refine Met.ofW (cc := cX6_restore) (maxL := 2) (ret := (some .int)) (by decide) rfl ?_
  intro p e s m args below meth c s₁ B hml hv
  obtain ⟨rfl, hsz, hP, hK, hD0⟩ := hv
  have hx := B.exec
  have hb := B.bytes
  have hr := B.returns
  have hts := atoms_spec (ws := wsX6_restore) B.pre
  have hown : s.vm.findClass RX6 = some m.cls := findClass_of_methodNamed B.named
  have hlocks := B.notSynchronized
  subst hsz
  have hD := hD0.self (sz := s.heap.size)
  generalize hAe : va_A [(o, .inr (6, [.ref o_page, .int vo_pageMany, .int vo_readMany, .int vo_state, .int vo_readMost, .ref o_readRows, .int vo_glasses, .int vo_towersRead, .int vo_poured, .ref o_rows, .ref o_turns, .ref o_amounts, .ref o_drank, .long vo_spilt, .ref o_takes, .ref o_leans, .ref o_would, .int vo_done, .int vo_seedNow, .int vo_keptTower, .int vo_keptPoured, .long vo_keptSpilt, .ref o_keptAmounts, .ref o_keptDrank, .ref o_keptTurns, .long vo_hash])), (o_turns, .inl (cI, 9, .inl vo_turns)), (o_amounts, .inl (cJ, 9, .inr (.inl vo_amounts))), (o_drank, .inl (cJ, 9, .inr (.inl vo_drank))), (o_keptAmounts, .inl (cJ, 9, .inr (.inl vo_keptAmounts))), (o_keptDrank, .inl (cJ, 9, .inr (.inl vo_keptDrank))), (o_keptTurns, .inl (cI, 9, .inl vo_keptTurns))] s.heap.size = A at hD ⊢
  have hA : ∀ q : Nat, s.heap.size ≤ q → A q := fun q h => by rw [← hAe]; exact Or.inr h
  have hS : va_S A s.heap s.heap [] := va_S.rf
  have hP : va_P (dC, dI) vwCl [(o, .inr (6, [.ref o_page, .int vo_pageMany, .int vo_readMany, .int vo_state, .int vo_readMost, .ref o_readRows, .int vo_glasses, .int vo_towersRead, .int vo_poured, .ref o_rows, .ref o_turns, .ref o_amounts, .ref o_drank, .long vo_spilt, .ref o_takes, .ref o_leans, .ref o_would, .int vo_done, .int vo_seedNow, .int vo_keptTower, .int vo_keptPoured, .long vo_keptSpilt, .ref o_keptAmounts, .ref o_keptDrank, .ref o_keptTurns, .long vo_hash])), (o_turns, .inl (cI, 9, .inl vo_turns)), (o_amounts, .inl (cJ, 9, .inr (.inl vo_amounts))), (o_drank, .inl (cJ, 9, .inr (.inl vo_drank))), (o_keptAmounts, .inl (cJ, 9, .inr (.inl vo_keptAmounts))), (o_keptDrank, .inl (cJ, 9, .inr (.inl vo_keptDrank))), (o_keptTurns, .inl (cI, 9, .inl vo_keptTurns))] s.heap := hP
  have hK : va_K (dC, dI) vwCl (zTy cI cJ cC) s := hK
  have hl := lv_entry ([.ref o]) (n := 2) (Nat.le_of_ble_eq_true rfl)
  rw [lg_entry_eq]
  generalize (lg_sl ([.ref o]) ++ List.replicate (2 - (lg_sl ([.ref o])).length) Slot.unset).toArray = ls at hl ⊢
  have hl : lv_has ls 2 [(0, .ref o)] := hl
  refine zz_start hP hS (fun Q hQ H locs hP hS => ?_)
  have hwX6 : ∀ w ∈ u_ws RX6 TX6 26, w ∈ wsX6_restore := by decide +kernel
  have hf_103 := (hts (.fieldLink RX6 103 "PouredTopmostModel" "towersRead" "I") (by decide +kernel))
  have hf_106 := (hts (.fieldLink RX6 106 "PouredTopmostModel" "spilt" "J") (by decide +kernel))
  have hf_110 := (hts (.fieldLink RX6 110 "PouredTopmostModel" "poured" "I") (by decide +kernel))
  have hf_19 := (hts (.fieldLink RX6 19 "PouredTopmostModel" "turns" "[I") (by decide +kernel))
  have hf_218 := (hts (.fieldLink RX6 218 "PouredTopmostModel" "keptPoured" "I") (by decide +kernel))
  have hf_22 := (hts (.fieldLink RX6 22 "PouredTopmostModel" "amounts" "[J") (by decide +kernel))
  have hf_221 := (hts (.fieldLink RX6 221 "PouredTopmostModel" "keptSpilt" "J") (by decide +kernel))
  have hf_26 := (hts (.fieldLink RX6 26 "PouredTopmostModel" "drank" "[J") (by decide +kernel))
  have hf_38 := (hts (.fieldLink RX6 38 "PouredTopmostModel" "keptAmounts" "[J") (by decide +kernel))
  have hf_41 := (hts (.fieldLink RX6 41 "PouredTopmostModel" "keptDrank" "[J") (by decide +kernel))
  have hf_44 := (hts (.fieldLink RX6 44 "PouredTopmostModel" "keptTurns" "[I") (by decide +kernel))
  have hf_47 := (hts (.fieldLink RX6 47 "PouredTopmostModel" "keptTower" "I") (by decide +kernel))
  refine lv_aload_n hx hb dX6_restore_0 rfl (lv_at hl 0 rfl) ?_
  refine va_get (D := (dC, dI)) (ci := 6) (v := .int vo_keptTower) (C := RX6) (T := TX6) (N := 26) hx hb hts hwX6 hown hK hP 0 rfl rfl 19 (by decide) hf_47 (fun _ h9 => h9) rfl dX6_restore_1 ?_
  refine lv_aload_n hx hb dX6_restore_4 rfl (lv_at hl 0 rfl) ?_
  refine va_get (D := (dC, dI)) (ci := 6) (v := .int vo_towersRead) (C := RX6) (T := TX6) (N := 26) hx hb hts hwX6 hown hK hP 0 rfl rfl 7 (by decide) hf_103 (fun _ h9 => h9) rfl dX6_restore_5 ?_
  refine lv_icmp_eq (tgt := 14) hx hb dX6_restore_8 (by decide) (fun c_1 => ?_) (fun c_1 => ?_)
  · replace hT := cutT c_1 hT
    have g_9 := zeqT (rfl : (vo_keptTower).toInt = _) (rfl : (vo_towersRead).toInt = _) c_1
    refine lv_iconst (v := (0 : Int32)) hx hb dX6_restore_14 (by decide) ?_
    refine lv_istore_n (lv' := [(1, .int (0 : Int32)), (0, .ref o)]) hx hb dX6_restore_15 rfl hl (by decide) rfl (fun ls hl => ?_)
    have hz_10 : ((0 : Int32)).toInt = 0 := by decide
    refine zz_loop (α := Int32 × (Nat → Int32) × (Nat → Int64) × (Nat → Int64)) 64 (fun k a H locs ls => (0 ≤ a.1.toInt) ∧ (a.1.toInt ≤ 9) ∧ (9 - a.1.toInt < ((k : Nat) : Int)) ∧ lp_X6_restore_2 (rs_X6_restore_2 vo_keptPoured vo_keptSpilt) vo_keptAmounts vo_keptDrank vo_keptTurns k a.1 a.2.1 a.2.2.1 a.2.2.2 = (r, qo_poured, qo_spilt, qo_turns, qo_amounts, qo_drank) ∧ va_P (dC, dI) vwCl [(o, .inr (6, [.ref o_page, .int vo_pageMany, .int vo_readMany, .int vo_state, .int vo_readMost, .ref o_readRows, .int vo_glasses, .int vo_towersRead, .int vo_poured, .ref o_rows, .ref o_turns, .ref o_amounts, .ref o_drank, .long vo_spilt, .ref o_takes, .ref o_leans, .ref o_would, .int vo_done, .int vo_seedNow, .int vo_keptTower, .int vo_keptPoured, .long vo_keptSpilt, .ref o_keptAmounts, .ref o_keptDrank, .ref o_keptTurns, .long vo_hash])), (o_turns, .inl (cI, 9, .inl a.2.1)), (o_amounts, .inl (cJ, 9, .inr (.inl a.2.2.1))), (o_drank, .inl (cJ, 9, .inr (.inl a.2.2.2))), (o_keptAmounts, .inl (cJ, 9, .inr (.inl vo_keptAmounts))), (o_keptDrank, .inl (cJ, 9, .inr (.inl vo_keptDrank))), (o_keptTurns, .inl (cI, 9, .inl vo_keptTurns))] H ∧ va_D A [(o, .inr (6, [.ref o_page, .int vo_pageMany, .int vo_readMany, .int vo_state, .int vo_readMost, .ref o_readRows, .int vo_glasses, .int vo_towersRead, .int vo_poured, .ref o_rows, .ref o_turns, .ref o_amounts, .ref o_drank, .long vo_spilt, .ref o_takes, .ref o_leans, .ref o_would, .int vo_done, .int vo_seedNow, .int vo_keptTower, .int vo_keptPoured, .long vo_keptSpilt, .ref o_keptAmounts, .ref o_keptDrank, .ref o_keptTurns, .long vo_hash])), (o_turns, .inl (cI, 9, .inl a.2.1)), (o_amounts, .inl (cJ, 9, .inr (.inl a.2.2.1))), (o_drank, .inl (cJ, 9, .inr (.inl a.2.2.2))), (o_keptAmounts, .inl (cJ, 9, .inr (.inl vo_keptAmounts))), (o_keptDrank, .inl (cJ, 9, .inr (.inl vo_keptDrank))), (o_keptTurns, .inl (cI, 9, .inl vo_keptTurns))] ∧ va_S A s.heap H locs ∧ lv_has ls 2 [(1, .int a.1), (0, .ref o)]) (fun a H locs ls => (0 ≤ a.1.toInt) ∧ (a.1.toInt ≤ 9) ∧ (rs_X6_restore_2 vo_keptPoured vo_keptSpilt) a.1 a.2.1 a.2.2.1 a.2.2.2 = (r, qo_poured, qo_spilt, qo_turns, qo_amounts, qo_drank) ∧ va_P (dC, dI) vwCl [(o, .inr (6, [.ref o_page, .int vo_pageMany, .int vo_readMany, .int vo_state, .int vo_readMost, .ref o_readRows, .int vo_glasses, .int vo_towersRead, .int vo_poured, .ref o_rows, .ref o_turns, .ref o_amounts, .ref o_drank, .long vo_spilt, .ref o_takes, .ref o_leans, .ref o_would, .int vo_done, .int vo_seedNow, .int vo_keptTower, .int vo_keptPoured, .long vo_keptSpilt, .ref o_keptAmounts, .ref o_keptDrank, .ref o_keptTurns, .long vo_hash])), (o_turns, .inl (cI, 9, .inl a.2.1)), (o_amounts, .inl (cJ, 9, .inr (.inl a.2.2.1))), (o_drank, .inl (cJ, 9, .inr (.inl a.2.2.2))), (o_keptAmounts, .inl (cJ, 9, .inr (.inl vo_keptAmounts))), (o_keptDrank, .inl (cJ, 9, .inr (.inl vo_keptDrank))), (o_keptTurns, .inl (cI, 9, .inl vo_keptTurns))] H ∧ va_D A [(o, .inr (6, [.ref o_page, .int vo_pageMany, .int vo_readMany, .int vo_state, .int vo_readMost, .ref o_readRows, .int vo_glasses, .int vo_towersRead, .int vo_poured, .ref o_rows, .ref o_turns, .ref o_amounts, .ref o_drank, .long vo_spilt, .ref o_takes, .ref o_leans, .ref o_would, .int vo_done, .int vo_seedNow, .int vo_keptTower, .int vo_keptPoured, .long vo_keptSpilt, .ref o_keptAmounts, .ref o_keptDrank, .ref o_keptTurns, .long vo_hash])), (o_turns, .inl (cI, 9, .inl a.2.1)), (o_amounts, .inl (cJ, 9, .inr (.inl a.2.2.1))), (o_drank, .inl (cJ, 9, .inr (.inl a.2.2.2))), (o_keptAmounts, .inl (cJ, 9, .inr (.inl vo_keptAmounts))), (o_keptDrank, .inl (cJ, 9, .inr (.inl vo_keptDrank))), (o_keptTurns, .inl (cI, 9, .inl vo_keptTurns))] ∧ va_S A s.heap H locs ∧ lv_has ls 2 [(0, .ref o)]) ?_ ?_ ?_ 11 ((0 : Int32), vo_turns, vo_amounts, vo_drank) ⟨(by omega : 0 ≤ (0 : Int32).toInt), (by omega : (0 : Int32).toInt ≤ 9), (by omega : 9 - (0 : Int32).toInt < ((11 : Nat) : Int)), hT, hP.sub [0, 1, 2, 3, 4, 5, 6] rfl, hD.sub [0, 1, 2, 3, 4, 5, 6] rfl rfl, hS, lv_sub hl [0, 1] rfl⟩
    · rintro ⟨x5, x6, x7, x8⟩ H locs ls ⟨i1, j1, hT, hP, hD, hS, hl⟩
      have hP : va_P (dC, dI) vwCl [(o, .inr (6, [.ref o_page, .int vo_pageMany, .int vo_readMany, .int vo_state, .int vo_readMost, .ref o_readRows, .int vo_glasses, .int vo_towersRead, .int vo_poured, .ref o_rows, .ref o_turns, .ref o_amounts, .ref o_drank, .long vo_spilt, .ref o_takes, .ref o_leans, .ref o_would, .int vo_done, .int vo_seedNow, .int vo_keptTower, .int vo_keptPoured, .long vo_keptSpilt, .ref o_keptAmounts, .ref o_keptDrank, .ref o_keptTurns, .long vo_hash])), (o_turns, .inl (cI, 9, .inl x6)), (o_amounts, .inl (cJ, 9, .inr (.inl x7))), (o_drank, .inl (cJ, 9, .inr (.inl x8))), (o_keptAmounts, .inl (cJ, 9, .inr (.inl vo_keptAmounts))), (o_keptDrank, .inl (cJ, 9, .inr (.inl vo_keptDrank))), (o_keptTurns, .inl (cI, 9, .inl vo_keptTurns))] H := hP
      have hD : va_D A [(o, .inr (6, [.ref o_page, .int vo_pageMany, .int vo_readMany, .int vo_state, .int vo_readMost, .ref o_readRows, .int vo_glasses, .int vo_towersRead, .int vo_poured, .ref o_rows, .ref o_turns, .ref o_amounts, .ref o_drank, .long vo_spilt, .ref o_takes, .ref o_leans, .ref o_would, .int vo_done, .int vo_seedNow, .int vo_keptTower, .int vo_keptPoured, .long vo_keptSpilt, .ref o_keptAmounts, .ref o_keptDrank, .ref o_keptTurns, .long vo_hash])), (o_turns, .inl (cI, 9, .inl x6)), (o_amounts, .inl (cJ, 9, .inr (.inl x7))), (o_drank, .inl (cJ, 9, .inr (.inl x8))), (o_keptAmounts, .inl (cJ, 9, .inr (.inl vo_keptAmounts))), (o_keptDrank, .inl (cJ, 9, .inr (.inl vo_keptDrank))), (o_keptTurns, .inl (cI, 9, .inl vo_keptTurns))] := hD
      have hl : lv_has ls 2 [(0, .ref o)] := hl
      have hT : (rs_X6_restore_2 vo_keptPoured vo_keptSpilt) x5 x6 x7 x8 = (r, qo_poured, qo_spilt, qo_turns, qo_amounts, qo_drank) := hT
      have i1 : 0 ≤ x5.toInt := i1
      have j1 : x5.toInt ≤ 9 := j1
      refine lv_aload_n hx hb dX6_restore_64 rfl (lv_at hl 0 rfl) ?_
      refine lv_aload_n hx hb dX6_restore_65 rfl (lv_at hl 0 rfl) ?_
      refine va_get (D := (dC, dI)) (ci := 6) (v := .int vo_keptPoured) (C := RX6) (T := TX6) (N := 26) hx hb hts hwX6 hown hK hP 0 rfl rfl 20 (by decide) hf_218 (fun _ h9 => h9) rfl dX6_restore_66 ?_
      refine va_put (D := (dC, dI)) (ci := 6) (v := .int vo_keptPoured) (ty := .int) (C := RX6) (T := TX6) (N := 26) hx hb hts hwX6 tyX6 tyX6_ok nmX6 hown hK hP hD hS 0 rfl rfl 8 (by decide) hf_110 (fun _ h9 => h9) rfl (by decide +kernel) rfl rfl (Nat.le_of_ble_eq_true rfl) dX6_restore_69 (fun H locs hP hD hS => ?_)
      have hP : va_P (dC, dI) vwCl [(o, .inr (6, [.ref o_page, .int vo_pageMany, .int vo_readMany, .int vo_state, .int vo_readMost, .ref o_readRows, .int vo_glasses, .int vo_towersRead, .int vo_keptPoured, .ref o_rows, .ref o_turns, .ref o_amounts, .ref o_drank, .long vo_spilt, .ref o_takes, .ref o_leans, .ref o_would, .int vo_done, .int vo_seedNow, .int vo_keptTower, .int vo_keptPoured, .long vo_keptSpilt, .ref o_keptAmounts, .ref o_keptDrank, .ref o_keptTurns, .long vo_hash])), (o_turns, .inl (cI, 9, .inl x6)), (o_amounts, .inl (cJ, 9, .inr (.inl x7))), (o_drank, .inl (cJ, 9, .inr (.inl x8))), (o_keptAmounts, .inl (cJ, 9, .inr (.inl vo_keptAmounts))), (o_keptDrank, .inl (cJ, 9, .inr (.inl vo_keptDrank))), (o_keptTurns, .inl (cI, 9, .inl vo_keptTurns))] H := hP
      have hD : va_D A [(o, .inr (6, [.ref o_page, .int vo_pageMany, .int vo_readMany, .int vo_state, .int vo_readMost, .ref o_readRows, .int vo_glasses, .int vo_towersRead, .int vo_keptPoured, .ref o_rows, .ref o_turns, .ref o_amounts, .ref o_drank, .long vo_spilt, .ref o_takes, .ref o_leans, .ref o_would, .int vo_done, .int vo_seedNow, .int vo_keptTower, .int vo_keptPoured, .long vo_keptSpilt, .ref o_keptAmounts, .ref o_keptDrank, .ref o_keptTurns, .long vo_hash])), (o_turns, .inl (cI, 9, .inl x6)), (o_amounts, .inl (cJ, 9, .inr (.inl x7))), (o_drank, .inl (cJ, 9, .inr (.inl x8))), (o_keptAmounts, .inl (cJ, 9, .inr (.inl vo_keptAmounts))), (o_keptDrank, .inl (cJ, 9, .inr (.inl vo_keptDrank))), (o_keptTurns, .inl (cI, 9, .inl vo_keptTurns))] := hD
      refine lv_aload_n hx hb dX6_restore_72 rfl (lv_at hl 0 rfl) ?_
      refine lv_aload_n hx hb dX6_restore_73 rfl (lv_at hl 0 rfl) ?_
      refine va_get (D := (dC, dI)) (ci := 6) (v := .long vo_keptSpilt) (C := RX6) (T := TX6) (N := 26) hx hb hts hwX6 hown hK hP 0 rfl rfl 21 (by decide) hf_221 (fun _ h9 => h9) rfl dX6_restore_74 ?_
      refine va_put (D := (dC, dI)) (ci := 6) (v := .long vo_keptSpilt) (ty := .long) (C := RX6) (T := TX6) (N := 26) hx hb hts hwX6 tyX6 tyX6_ok nmX6 hown hK hP hD hS 0 rfl rfl 13 (by decide) hf_106 (fun _ h9 => h9) rfl (by decide +kernel) rfl rfl (Nat.le_of_ble_eq_true rfl) dX6_restore_77 (fun H locs hP hD hS => ?_)
      have hP : va_P (dC, dI) vwCl [(o, .inr (6, [.ref o_page, .int vo_pageMany, .int vo_readMany, .int vo_state, .int vo_readMost, .ref o_readRows, .int vo_glasses, .int vo_towersRead, .int vo_keptPoured, .ref o_rows, .ref o_turns, .ref o_amounts, .ref o_drank, .long vo_keptSpilt, .ref o_takes, .ref o_leans, .ref o_would, .int vo_done, .int vo_seedNow, .int vo_keptTower, .int vo_keptPoured, .long vo_keptSpilt, .ref o_keptAmounts, .ref o_keptDrank, .ref o_keptTurns, .long vo_hash])), (o_turns, .inl (cI, 9, .inl x6)), (o_amounts, .inl (cJ, 9, .inr (.inl x7))), (o_drank, .inl (cJ, 9, .inr (.inl x8))), (o_keptAmounts, .inl (cJ, 9, .inr (.inl vo_keptAmounts))), (o_keptDrank, .inl (cJ, 9, .inr (.inl vo_keptDrank))), (o_keptTurns, .inl (cI, 9, .inl vo_keptTurns))] H := hP
      have hD : va_D A [(o, .inr (6, [.ref o_page, .int vo_pageMany, .int vo_readMany, .int vo_state, .int vo_readMost, .ref o_readRows, .int vo_glasses, .int vo_towersRead, .int vo_keptPoured, .ref o_rows, .ref o_turns, .ref o_amounts, .ref o_drank, .long vo_keptSpilt, .ref o_takes, .ref o_leans, .ref o_would, .int vo_done, .int vo_seedNow, .int vo_keptTower, .int vo_keptPoured, .long vo_keptSpilt, .ref o_keptAmounts, .ref o_keptDrank, .ref o_keptTurns, .long vo_hash])), (o_turns, .inl (cI, 9, .inl x6)), (o_amounts, .inl (cJ, 9, .inr (.inl x7))), (o_drank, .inl (cJ, 9, .inr (.inl x8))), (o_keptAmounts, .inl (cJ, 9, .inr (.inl vo_keptAmounts))), (o_keptDrank, .inl (cJ, 9, .inr (.inl vo_keptDrank))), (o_keptTurns, .inl (cI, 9, .inl vo_keptTurns))] := hD
      refine lv_aload_n hx hb dX6_restore_80 rfl (lv_at hl 0 rfl) ?_
      refine va_get (D := (dC, dI)) (ci := 6) (v := .int vo_keptPoured) (C := RX6) (T := TX6) (N := 26) hx hb hts hwX6 hown hK hP 0 rfl rfl 8 (by decide) hf_110 (fun _ h9 => h9) rfl dX6_restore_81 ?_
      have hP9 := hP
      have hD9 := hD
      have hS9 := hS
      have hT : (vo_keptPoured, vo_keptPoured, vo_keptSpilt, x6, x7, x8) = (r, qo_poured, qo_spilt, qo_turns, qo_amounts, qo_drank) := hT
      cases hT
      subst hQ
      exact zz_iret hx hb hr [0, 1, 2, 3, 4, 5, 6] hK hP9 hD9 hS9 rfl rfl trivial hlocks dX6_restore_84
    · rintro ⟨b1, b2, b3, b4⟩ H locs ls ⟨i1, j1, hm, -⟩
      try dsimp only at *
      omega
    · intro k2 hex2 ih2
      rintro ⟨b1, b2, b3, b4⟩ H locs ls ⟨i1, j1, hm2, hT, hP, hD, hS, hl⟩
      have hP : va_P (dC, dI) vwCl [(o, .inr (6, [.ref o_page, .int vo_pageMany, .int vo_readMany, .int vo_state, .int vo_readMost, .ref o_readRows, .int vo_glasses, .int vo_towersRead, .int vo_poured, .ref o_rows, .ref o_turns, .ref o_amounts, .ref o_drank, .long vo_spilt, .ref o_takes, .ref o_leans, .ref o_would, .int vo_done, .int vo_seedNow, .int vo_keptTower, .int vo_keptPoured, .long vo_keptSpilt, .ref o_keptAmounts, .ref o_keptDrank, .ref o_keptTurns, .long vo_hash])), (o_turns, .inl (cI, 9, .inl b2)), (o_amounts, .inl (cJ, 9, .inr (.inl b3))), (o_drank, .inl (cJ, 9, .inr (.inl b4))), (o_keptAmounts, .inl (cJ, 9, .inr (.inl vo_keptAmounts))), (o_keptDrank, .inl (cJ, 9, .inr (.inl vo_keptDrank))), (o_keptTurns, .inl (cI, 9, .inl vo_keptTurns))] H := hP
      have hD : va_D A [(o, .inr (6, [.ref o_page, .int vo_pageMany, .int vo_readMany, .int vo_state, .int vo_readMost, .ref o_readRows, .int vo_glasses, .int vo_towersRead, .int vo_poured, .ref o_rows, .ref o_turns, .ref o_amounts, .ref o_drank, .long vo_spilt, .ref o_takes, .ref o_leans, .ref o_would, .int vo_done, .int vo_seedNow, .int vo_keptTower, .int vo_keptPoured, .long vo_keptSpilt, .ref o_keptAmounts, .ref o_keptDrank, .ref o_keptTurns, .long vo_hash])), (o_turns, .inl (cI, 9, .inl b2)), (o_amounts, .inl (cJ, 9, .inr (.inl b3))), (o_drank, .inl (cJ, 9, .inr (.inl b4))), (o_keptAmounts, .inl (cJ, 9, .inr (.inl vo_keptAmounts))), (o_keptDrank, .inl (cJ, 9, .inr (.inl vo_keptDrank))), (o_keptTurns, .inl (cI, 9, .inl vo_keptTurns))] := hD
      have hl : lv_has ls 2 [(1, .int b1), (0, .ref o)] := hl
      have hT : lp_X6_restore_2 (rs_X6_restore_2 vo_keptPoured vo_keptSpilt) vo_keptAmounts vo_keptDrank vo_keptTurns (k2 + 1) b1 b2 b3 b4 = (r, qo_poured, qo_spilt, qo_turns, qo_amounts, qo_drank) := hT
      have i1 : 0 ≤ b1.toInt := i1
      have j1 : b1.toInt ≤ 9 := j1
      have hm2 : 9 - b1.toInt < (((k2 + 1) : Nat) : Int) := hm2
      try simp only [Int.natCast_add, Int.natCast_one, Nat.cast_add, Nat.cast_one] at hm2
      refine lv_iload_n hx hb dX6_restore_16 rfl (lv_at hl 0 rfl) ?_
      refine lv_bipush (v := (9 : Int32)) hx hb dX6_restore_17 (by decide) ?_
      refine lv_icmp_ge (tgt := 64) hx hb dX6_restore_19 (by decide) (fun c_2 => ?_) (fun c_2 => ?_)
      · replace hT := cutT c_2 hT
        have g_11 := zleT (by decide : ((9 : Int32)).toInt = 9) (rfl : (b1).toInt = _) c_2
        exact hex2 (b1, b2, b3, b4) _ _ _ ⟨(by omega : 0 ≤ b1.toInt), (by omega : b1.toInt ≤ 9), hT, hP.sub [0, 1, 2, 3, 4, 5, 6] rfl, hD.sub [0, 1, 2, 3, 4, 5, 6] rfl rfl, hS, lv_sub hl [1] rfl⟩
      · replace hT := cutF c_2 hT
        have g_12 := zleF (by decide : ((9 : Int32)).toInt = 9) (rfl : (b1).toInt = _) c_2
        refine lv_aload_n hx hb dX6_restore_22 rfl (lv_at hl 1 rfl) ?_
        refine va_get (D := (dC, dI)) (ci := 6) (v := .ref o_amounts) (C := RX6) (T := TX6) (N := 26) hx hb hts hwX6 hown hK hP 0 rfl rfl 11 (by decide) hf_22 (fun _ h9 => h9) rfl dX6_restore_23 ?_
        refine lv_iload_n hx hb dX6_restore_26 rfl (lv_at hl 0 rfl) ?_
        refine lv_aload_n hx hb dX6_restore_27 rfl (lv_at hl 1 rfl) ?_
        refine va_get (D := (dC, dI)) (ci := 6) (v := .ref o_keptAmounts) (C := RX6) (T := TX6) (N := 26) hx hb hts hwX6 hown hK hP 0 rfl rfl 22 (by decide) hf_38 (fun _ h9 => h9) rfl dX6_restore_28 ?_
        refine lv_iload_n hx hb dX6_restore_31 rfl (lv_at hl 0 rfl) ?_
        have h_3 : vp_in b1 9 := zin (by omega) (by omega)
        refine va_lald hx hb hK hP 4 1 rfl rfl h_3 dX6_restore_32 ?_
        have h_4 : vp_in b1 9 := zin (by omega) (by omega)
        refine va_last hx hb hK hP hD hS 2 1 rfl rfl h_4 dX6_restore_33 (fun H locs hP hD hS => ?_)
        obtain ⟨a9, ea9⟩ : ∃ z, (vp_updL b3 b1.toNatClampNeg (vo_keptAmounts b1.toNatClampNeg)) = z := ⟨_, rfl⟩
        replace hT := cut_n ea9 hT
        have hP : va_P (dC, dI) vwCl [(o, .inr (6, [.ref o_page, .int vo_pageMany, .int vo_readMany, .int vo_state, .int vo_readMost, .ref o_readRows, .int vo_glasses, .int vo_towersRead, .int vo_poured, .ref o_rows, .ref o_turns, .ref o_amounts, .ref o_drank, .long vo_spilt, .ref o_takes, .ref o_leans, .ref o_would, .int vo_done, .int vo_seedNow, .int vo_keptTower, .int vo_keptPoured, .long vo_keptSpilt, .ref o_keptAmounts, .ref o_keptDrank, .ref o_keptTurns, .long vo_hash])), (o_turns, .inl (cI, 9, .inl b2)), (o_amounts, .inl (cJ, 9, .inr (.inl a9))), (o_drank, .inl (cJ, 9, .inr (.inl b4))), (o_keptAmounts, .inl (cJ, 9, .inr (.inl vo_keptAmounts))), (o_keptDrank, .inl (cJ, 9, .inr (.inl vo_keptDrank))), (o_keptTurns, .inl (cI, 9, .inl vo_keptTurns))] H := by rw [← ea9]; exact hP
        have hD : va_D A [(o, .inr (6, [.ref o_page, .int vo_pageMany, .int vo_readMany, .int vo_state, .int vo_readMost, .ref o_readRows, .int vo_glasses, .int vo_towersRead, .int vo_poured, .ref o_rows, .ref o_turns, .ref o_amounts, .ref o_drank, .long vo_spilt, .ref o_takes, .ref o_leans, .ref o_would, .int vo_done, .int vo_seedNow, .int vo_keptTower, .int vo_keptPoured, .long vo_keptSpilt, .ref o_keptAmounts, .ref o_keptDrank, .ref o_keptTurns, .long vo_hash])), (o_turns, .inl (cI, 9, .inl b2)), (o_amounts, .inl (cJ, 9, .inr (.inl a9))), (o_drank, .inl (cJ, 9, .inr (.inl b4))), (o_keptAmounts, .inl (cJ, 9, .inr (.inl vo_keptAmounts))), (o_keptDrank, .inl (cJ, 9, .inr (.inl vo_keptDrank))), (o_keptTurns, .inl (cI, 9, .inl vo_keptTurns))] := by rw [← ea9]; exact hD
        refine lv_aload_n hx hb dX6_restore_34 rfl (lv_at hl 1 rfl) ?_
        refine va_get (D := (dC, dI)) (ci := 6) (v := .ref o_drank) (C := RX6) (T := TX6) (N := 26) hx hb hts hwX6 hown hK hP 0 rfl rfl 12 (by decide) hf_26 (fun _ h9 => h9) rfl dX6_restore_35 ?_
        refine lv_iload_n hx hb dX6_restore_38 rfl (lv_at hl 0 rfl) ?_
        refine lv_aload_n hx hb dX6_restore_39 rfl (lv_at hl 1 rfl) ?_
        refine va_get (D := (dC, dI)) (ci := 6) (v := .ref o_keptDrank) (C := RX6) (T := TX6) (N := 26) hx hb hts hwX6 hown hK hP 0 rfl rfl 23 (by decide) hf_41 (fun _ h9 => h9) rfl dX6_restore_40 ?_
        refine lv_iload_n hx hb dX6_restore_43 rfl (lv_at hl 0 rfl) ?_
        have h_5 : vp_in b1 9 := zin (by omega) (by omega)
        refine va_lald hx hb hK hP 5 1 rfl rfl h_5 dX6_restore_44 ?_
        have h_6 : vp_in b1 9 := zin (by omega) (by omega)
        refine va_last hx hb hK hP hD hS 3 1 rfl rfl h_6 dX6_restore_45 (fun H locs hP hD hS => ?_)
        obtain ⟨a10, ea10⟩ : ∃ z, (vp_updL b4 b1.toNatClampNeg (vo_keptDrank b1.toNatClampNeg)) = z := ⟨_, rfl⟩
        replace hT := cut_n ea10 hT
        have hP : va_P (dC, dI) vwCl [(o, .inr (6, [.ref o_page, .int vo_pageMany, .int vo_readMany, .int vo_state, .int vo_readMost, .ref o_readRows, .int vo_glasses, .int vo_towersRead, .int vo_poured, .ref o_rows, .ref o_turns, .ref o_amounts, .ref o_drank, .long vo_spilt, .ref o_takes, .ref o_leans, .ref o_would, .int vo_done, .int vo_seedNow, .int vo_keptTower, .int vo_keptPoured, .long vo_keptSpilt, .ref o_keptAmounts, .ref o_keptDrank, .ref o_keptTurns, .long vo_hash])), (o_turns, .inl (cI, 9, .inl b2)), (o_amounts, .inl (cJ, 9, .inr (.inl a9))), (o_drank, .inl (cJ, 9, .inr (.inl a10))), (o_keptAmounts, .inl (cJ, 9, .inr (.inl vo_keptAmounts))), (o_keptDrank, .inl (cJ, 9, .inr (.inl vo_keptDrank))), (o_keptTurns, .inl (cI, 9, .inl vo_keptTurns))] H := by rw [← ea10]; exact hP
        have hD : va_D A [(o, .inr (6, [.ref o_page, .int vo_pageMany, .int vo_readMany, .int vo_state, .int vo_readMost, .ref o_readRows, .int vo_glasses, .int vo_towersRead, .int vo_poured, .ref o_rows, .ref o_turns, .ref o_amounts, .ref o_drank, .long vo_spilt, .ref o_takes, .ref o_leans, .ref o_would, .int vo_done, .int vo_seedNow, .int vo_keptTower, .int vo_keptPoured, .long vo_keptSpilt, .ref o_keptAmounts, .ref o_keptDrank, .ref o_keptTurns, .long vo_hash])), (o_turns, .inl (cI, 9, .inl b2)), (o_amounts, .inl (cJ, 9, .inr (.inl a9))), (o_drank, .inl (cJ, 9, .inr (.inl a10))), (o_keptAmounts, .inl (cJ, 9, .inr (.inl vo_keptAmounts))), (o_keptDrank, .inl (cJ, 9, .inr (.inl vo_keptDrank))), (o_keptTurns, .inl (cI, 9, .inl vo_keptTurns))] := by rw [← ea10]; exact hD
        refine lv_aload_n hx hb dX6_restore_46 rfl (lv_at hl 1 rfl) ?_
        refine va_get (D := (dC, dI)) (ci := 6) (v := .ref o_turns) (C := RX6) (T := TX6) (N := 26) hx hb hts hwX6 hown hK hP 0 rfl rfl 10 (by decide) hf_19 (fun _ h9 => h9) rfl dX6_restore_47 ?_
        refine lv_iload_n hx hb dX6_restore_50 rfl (lv_at hl 0 rfl) ?_
        refine lv_aload_n hx hb dX6_restore_51 rfl (lv_at hl 1 rfl) ?_
        refine va_get (D := (dC, dI)) (ci := 6) (v := .ref o_keptTurns) (C := RX6) (T := TX6) (N := 26) hx hb hts hwX6 hown hK hP 0 rfl rfl 24 (by decide) hf_44 (fun _ h9 => h9) rfl dX6_restore_52 ?_
        refine lv_iload_n hx hb dX6_restore_55 rfl (lv_at hl 0 rfl) ?_
        have h_7 : vp_in b1 9 := zin (by omega) (by omega)
        refine va_iald hx hb hK hP 6 0 rfl rfl h_7 dX6_restore_56 ?_
        have h_8 : vp_in b1 9 := zin (by omega) (by omega)
        refine va_iast hx hb hK hP hD hS 1 0 rfl rfl h_8 dX6_restore_57 (fun H locs hP hD hS => ?_)
        obtain ⟨a11, ea11⟩ : ∃ z, (upd b2 b1.toNatClampNeg (vo_keptTurns b1.toNatClampNeg)) = z := ⟨_, rfl⟩
        replace hT := cut_n ea11 hT
        have hP : va_P (dC, dI) vwCl [(o, .inr (6, [.ref o_page, .int vo_pageMany, .int vo_readMany, .int vo_state, .int vo_readMost, .ref o_readRows, .int vo_glasses, .int vo_towersRead, .int vo_poured, .ref o_rows, .ref o_turns, .ref o_amounts, .ref o_drank, .long vo_spilt, .ref o_takes, .ref o_leans, .ref o_would, .int vo_done, .int vo_seedNow, .int vo_keptTower, .int vo_keptPoured, .long vo_keptSpilt, .ref o_keptAmounts, .ref o_keptDrank, .ref o_keptTurns, .long vo_hash])), (o_turns, .inl (cI, 9, .inl a11)), (o_amounts, .inl (cJ, 9, .inr (.inl a9))), (o_drank, .inl (cJ, 9, .inr (.inl a10))), (o_keptAmounts, .inl (cJ, 9, .inr (.inl vo_keptAmounts))), (o_keptDrank, .inl (cJ, 9, .inr (.inl vo_keptDrank))), (o_keptTurns, .inl (cI, 9, .inl vo_keptTurns))] H := by rw [← ea11]; exact hP
        have hD : va_D A [(o, .inr (6, [.ref o_page, .int vo_pageMany, .int vo_readMany, .int vo_state, .int vo_readMost, .ref o_readRows, .int vo_glasses, .int vo_towersRead, .int vo_poured, .ref o_rows, .ref o_turns, .ref o_amounts, .ref o_drank, .long vo_spilt, .ref o_takes, .ref o_leans, .ref o_would, .int vo_done, .int vo_seedNow, .int vo_keptTower, .int vo_keptPoured, .long vo_keptSpilt, .ref o_keptAmounts, .ref o_keptDrank, .ref o_keptTurns, .long vo_hash])), (o_turns, .inl (cI, 9, .inl a11)), (o_amounts, .inl (cJ, 9, .inr (.inl a9))), (o_drank, .inl (cJ, 9, .inr (.inl a10))), (o_keptAmounts, .inl (cJ, 9, .inr (.inl vo_keptAmounts))), (o_keptDrank, .inl (cJ, 9, .inr (.inl vo_keptDrank))), (o_keptTurns, .inl (cI, 9, .inl vo_keptTurns))] := by rw [← ea11]; exact hD
        obtain ⟨v12, ev12⟩ : ∃ y : Int32, (b1 + (1 : Int32)) = y := ⟨_, rfl⟩
        replace hT := cut_n ev12 hT
        try have fv12 := zaddE (rfl : (b1).toInt = _) (by decide : ((1 : Int32)).toInt = 1) ev12 (by omega) (by omega)
        refine lv_iinc (v := v12) (lv' := [(1, .int v12), (0, .ref o)]) hx hb dX6_restore_58 hl (k := 0) rfl (by rw [← ev12]; rfl) (by decide) rfl (fun ls hl => ?_)
        refine lv_goto (tgt := 16) hx hb dX6_restore_61 (by decide) ?_
        exact ih2 (v12, a11, a9, a10) _ _ _ ⟨(by omega : 0 ≤ v12.toInt), (by omega : v12.toInt ≤ 9), (by omega : 9 - v12.toInt < ((k2 : Nat) : Int)), hT, hP.sub [0, 1, 2, 3, 4, 5, 6] rfl, hD.sub [0, 1, 2, 3, 4, 5, 6] rfl rfl, hS, lv_sub hl [0, 1] rfl⟩
  · replace hT := cutF c_1 hT
    have g_13 := zeqF (rfl : (vo_keptTower).toInt = _) (rfl : (vo_towersRead).toInt = _) c_1
    refine lv_bipush (v := (-103 : Int32)) hx hb dX6_restore_11 (by decide) ?_
    have hP9 := hP
    have hD9 := hD
    have hS9 := hS
    have hT : ((-103 : Int32), vo_poured, vo_spilt, vo_turns, vo_amounts, vo_drank) = (r, qo_poured, qo_spilt, qo_turns, qo_amounts, qo_drank) := hT
    cases hT
    subst hQ
    exact zz_iret hx hb hr [0, 1, 2, 3, 4, 5, 6] hK hP9 hD9 hS9 rfl rfl trivial hlocks dX6_restore_13

def m_X6_countOf (vo_pageMany : Int32) (vo_glasses : Int32) (vo_towersRead : Int32) (vo_poured : Int32) (vo_done : Int32) (vo_rows : Nat → Int32) (vo_amounts : Nat → Int64) (p1 : Int32) : Int32 :=
 if p1 = (0 : Int32) then
  vo_glasses
 else
 if p1 = (1 : Int32) then
  vo_poured
 else
 if p1 = (2 : Int32) then
  cut (m_X6_fullMany vo_glasses vo_rows vo_amounts) (fun (r1 : Int32) =>
  r1)
 else
 if p1 = (3 : Int32) then
  vo_pageMany
 else
 if p1 = (4 : Int32) then
  vo_towersRead
 else
 if p1 = (5 : Int32) then
  vo_done
 else
 (-102 : Int32)
set_option maxHeartbeats 4000000 in
set_option maxRecDepth 100000 in
theorem k_X6_countOf (l : Launch) (dC : Nat → ClassId) (dI : Nat → Nat → Nat) (cI cJ cC : ClassId) (sz : Nat) (o o_page o_readRows o_rows o_turns o_amounts o_drank o_takes o_leans o_would o_keptAmounts o_keptDrank o_keptTurns : Nat) (vo_pageMany : Int32) (vo_readMany : Int32) (vo_state : Int32) (vo_readMost : Int32) (vo_glasses : Int32) (vo_towersRead : Int32) (vo_poured : Int32) (vo_spilt : Int64) (vo_done : Int32) (vo_seedNow : Int32) (vo_keptTower : Int32) (vo_keptPoured : Int32) (vo_keptSpilt : Int64) (vo_hash : Int64) (vo_rows : Nat → Int32) (vo_amounts : Nat → Int64) (p1 : Int32) (r : Int32) (hT : m_X6_countOf vo_pageMany vo_glasses vo_towersRead vo_poured vo_done vo_rows vo_amounts p1 = r) (hg0 : 0 ≤ vo_glasses.toInt) (hg9 : vo_glasses.toInt ≤ 9) : Met l yX6_countOf wsX6_countOf ({ frames := 3, cells := 0, slots := 0, locals := 66 }) (zPc [.ref o, .int p1] (dC, dI) (zTy cI cJ cC) [(o, .inr (6, [.ref o_page, .int vo_pageMany, .int vo_readMany, .int vo_state, .int vo_readMost, .ref o_readRows, .int vo_glasses, .int vo_towersRead, .int vo_poured, .ref o_rows, .ref o_turns, .ref o_amounts, .ref o_drank, .long vo_spilt, .ref o_takes, .ref o_leans, .ref o_would, .int vo_done, .int vo_seedNow, .int vo_keptTower, .int vo_keptPoured, .long vo_keptSpilt, .ref o_keptAmounts, .ref o_keptDrank, .ref o_keptTurns, .long vo_hash])), (o_rows, .inl (cI, 54, .inl vo_rows)), (o_amounts, .inl (cJ, 9, .inr (.inl vo_amounts)))] sz) (zQi r (True) (dC, dI) (zTy cI cJ cC) [(o, .inr (6, [.ref o_page, .int vo_pageMany, .int vo_readMany, .int vo_state, .int vo_readMost, .ref o_readRows, .int vo_glasses, .int vo_towersRead, .int vo_poured, .ref o_rows, .ref o_turns, .ref o_amounts, .ref o_drank, .long vo_spilt, .ref o_takes, .ref o_leans, .ref o_would, .int vo_done, .int vo_seedNow, .int vo_keptTower, .int vo_keptPoured, .long vo_keptSpilt, .ref o_keptAmounts, .ref o_keptDrank, .ref o_keptTurns, .long vo_hash])), (o_rows, .inl (cI, 54, .inl vo_rows)), (o_amounts, .inl (cJ, 9, .inr (.inl vo_amounts)))] (va_A [(o, .inr (6, [.ref o_page, .int vo_pageMany, .int vo_readMany, .int vo_state, .int vo_readMost, .ref o_readRows, .int vo_glasses, .int vo_towersRead, .int vo_poured, .ref o_rows, .ref o_turns, .ref o_amounts, .ref o_drank, .long vo_spilt, .ref o_takes, .ref o_leans, .ref o_would, .int vo_done, .int vo_seedNow, .int vo_keptTower, .int vo_keptPoured, .long vo_keptSpilt, .ref o_keptAmounts, .ref o_keptDrank, .ref o_keptTurns, .long vo_hash])), (o_rows, .inl (cI, 54, .inl vo_rows)), (o_amounts, .inl (cJ, 9, .inr (.inl vo_amounts)))] sz)) 0 0 (va_A [(o, .inr (6, [.ref o_page, .int vo_pageMany, .int vo_readMany, .int vo_state, .int vo_readMost, .ref o_readRows, .int vo_glasses, .int vo_towersRead, .int vo_poured, .ref o_rows, .ref o_turns, .ref o_amounts, .ref o_drank, .long vo_spilt, .ref o_takes, .ref o_leans, .ref o_would, .int vo_done, .int vo_seedNow, .int vo_keptTower, .int vo_keptPoured, .long vo_keptSpilt, .ref o_keptAmounts, .ref o_keptDrank, .ref o_keptTurns, .long vo_hash])), (o_rows, .inl (cI, 54, .inl vo_rows)), (o_amounts, .inl (cJ, 9, .inr (.inl vo_amounts)))] sz) := by
  refine Met.ofW (cc := cX6_countOf) (maxL := 2) (ret := (some .int)) (by decide) rfl ?_
  intro p e s m args below meth c s₁ B hml hv
  obtain ⟨rfl, hsz, hP, hK, hD0⟩ := hv
  have hx := B.exec
  have hb := B.bytes
  have hr := B.returns
  have hts := atoms_spec (ws := wsX6_countOf) B.pre
  have hown : s.vm.findClass RX6 = some m.cls := findClass_of_methodNamed B.named
  have hlocks := B.notSynchronized
  subst hsz
  have hD := hD0.self (sz := s.heap.size)
  generalize hAe : va_A [(o, .inr (6, [.ref o_page, .int vo_pageMany, .int vo_readMany, .int vo_state, .int vo_readMost, .ref o_readRows, .int vo_glasses, .int vo_towersRead, .int vo_poured, .ref o_rows, .ref o_turns, .ref o_amounts, .ref o_drank, .long vo_spilt, .ref o_takes, .ref o_leans, .ref o_would, .int vo_done, .int vo_seedNow, .int vo_keptTower, .int vo_keptPoured, .long vo_keptSpilt, .ref o_keptAmounts, .ref o_keptDrank, .ref o_keptTurns, .long vo_hash])), (o_rows, .inl (cI, 54, .inl vo_rows)), (o_amounts, .inl (cJ, 9, .inr (.inl vo_amounts)))] s.heap.size = A at hD ⊢
  have hA : ∀ q : Nat, s.heap.size ≤ q → A q := fun q h => by rw [← hAe]; exact Or.inr h
  have hS : va_S A s.heap s.heap [] := va_S.rf
  have hP : va_P (dC, dI) vwCl [(o, .inr (6, [.ref o_page, .int vo_pageMany, .int vo_readMany, .int vo_state, .int vo_readMost, .ref o_readRows, .int vo_glasses, .int vo_towersRead, .int vo_poured, .ref o_rows, .ref o_turns, .ref o_amounts, .ref o_drank, .long vo_spilt, .ref o_takes, .ref o_leans, .ref o_would, .int vo_done, .int vo_seedNow, .int vo_keptTower, .int vo_keptPoured, .long vo_keptSpilt, .ref o_keptAmounts, .ref o_keptDrank, .ref o_keptTurns, .long vo_hash])), (o_rows, .inl (cI, 54, .inl vo_rows)), (o_amounts, .inl (cJ, 9, .inr (.inl vo_amounts)))] s.heap := hP
  have hK : va_K (dC, dI) vwCl (zTy cI cJ cC) s := hK
  have hl := lv_entry ([.ref o, .int p1]) (n := 2) (Nat.le_of_ble_eq_true rfl)
  rw [lg_entry_eq]
  generalize (lg_sl ([.ref o, .int p1]) ++ List.replicate (2 - (lg_sl ([.ref o, .int p1])).length) Slot.unset).toArray = ls at hl ⊢
  have hl : lv_has ls 2 [(0, .ref o), (1, .int p1)] := hl
  refine zz_start hP hS (fun Q hQ H locs hP hS => ?_)
  have hwX6 : ∀ w ∈ u_ws RX6 TX6 26, w ∈ wsX6_countOf := by decide +kernel
  have hf_103 := (hts (.fieldLink RX6 103 "PouredTopmostModel" "towersRead" "I") (by decide +kernel))
  have hf_110 := (hts (.fieldLink RX6 110 "PouredTopmostModel" "poured" "I") (by decide +kernel))
  have hf_171 := (hts (.fieldLink RX6 171 "PouredTopmostModel" "done" "I") (by decide +kernel))
  have hf_53 := (hts (.fieldLink RX6 53 "PouredTopmostModel" "pageMany" "I") (by decide +kernel))
  have hf_97 := (hts (.fieldLink RX6 97 "PouredTopmostModel" "glasses" "I") (by decide +kernel))
  refine lv_iload_n hx hb dX6_countOf_0 rfl (lv_at hl 1 rfl) ?_
  by_cases c_1 : p1 = (0 : Int32)
  · replace hT := cutT c_1 hT
    have g_9 := zeqT (rfl : (p1).toInt = _) (by decide : ((0 : Int32)).toInt = 0) c_1
    refine lv_tableIn (off := 39) (tgt := 40) hx hb dX6_countOf_1 (by rw [c_1]; decide) (by rw [c_1]; decide) (by rw [c_1]; rfl) (by decide) ?_
    refine lv_aload_n hx hb dX6_countOf_40 rfl (lv_at hl 0 rfl) ?_
    refine va_get (D := (dC, dI)) (ci := 6) (v := .int vo_glasses) (C := RX6) (T := TX6) (N := 26) hx hb hts hwX6 hown hK hP 0 rfl rfl 6 (by decide) hf_97 (fun _ h9 => h9) rfl dX6_countOf_41 ?_
    have hP9 := hP
    have hD9 := hD
    have hS9 := hS
    have hT : vo_glasses = r := hT
    subst hT
    subst hQ
    exact zz_iret hx hb hr [0, 1, 2] hK hP9 hD9 hS9 rfl rfl trivial hlocks dX6_countOf_44
  replace hT := cutF c_1 hT
  have g_10 := zeqF (rfl : (p1).toInt = _) (by decide : ((0 : Int32)).toInt = 0) c_1
  by_cases c_2 : p1 = (1 : Int32)
  · replace hT := cutT c_2 hT
    have g_11 := zeqT (rfl : (p1).toInt = _) (by decide : ((1 : Int32)).toInt = 1) c_2
    refine lv_tableIn (off := 44) (tgt := 45) hx hb dX6_countOf_1 (by rw [c_2]; decide) (by rw [c_2]; decide) (by rw [c_2]; rfl) (by decide) ?_
    refine lv_aload_n hx hb dX6_countOf_45 rfl (lv_at hl 0 rfl) ?_
    refine va_get (D := (dC, dI)) (ci := 6) (v := .int vo_poured) (C := RX6) (T := TX6) (N := 26) hx hb hts hwX6 hown hK hP 0 rfl rfl 8 (by decide) hf_110 (fun _ h9 => h9) rfl dX6_countOf_46 ?_
    have hP9 := hP
    have hD9 := hD
    have hS9 := hS
    have hT : vo_poured = r := hT
    subst hT
    subst hQ
    exact zz_iret hx hb hr [0, 1, 2] hK hP9 hD9 hS9 rfl rfl trivial hlocks dX6_countOf_49
  replace hT := cutF c_2 hT
  have g_12 := zeqF (rfl : (p1).toInt = _) (by decide : ((1 : Int32)).toInt = 1) c_2
  by_cases c_3 : p1 = (2 : Int32)
  · replace hT := cutT c_3 hT
    have g_13 := zeqT (rfl : (p1).toInt = _) (by decide : ((2 : Int32)).toInt = 2) c_3
    refine lv_tableIn (off := 49) (tgt := 50) hx hb dX6_countOf_1 (by rw [c_3]; decide) (by rw [c_3]; decide) (by rw [c_3]; rfl) (by decide) ?_
    refine lv_aload_n hx hb dX6_countOf_50 rfl (lv_at hl 0 rfl) ?_
    obtain ⟨r1, ev_4⟩ : ∃ x0, (m_X6_fullMany vo_glasses vo_rows vo_amounts) = x0 := ⟨_, rfl⟩
    replace hT := cut_n ev_4 hT
    refine zz_ci [0, 1, 2] [] (wr := []) (w1 := [(o, .inr (6, [.ref o_page, .int vo_pageMany, .int vo_readMany, .int vo_state, .int vo_readMost, .ref o_readRows, .int vo_glasses, .int vo_towersRead, .int vo_poured, .ref o_rows, .ref o_turns, .ref o_amounts, .ref o_drank, .long vo_spilt, .ref o_takes, .ref o_leans, .ref o_would, .int vo_done, .int vo_seedNow, .int vo_keptTower, .int vo_keptPoured, .long vo_keptSpilt, .ref o_keptAmounts, .ref o_keptDrank, .ref o_keptTurns, .long vo_hash])), (o_rows, .inl (cI, 54, .inl vo_rows)), (o_amounts, .inl (cJ, 9, .inr (.inl vo_amounts)))]) (va_runV (As := []) (rest := []) ⟨hx, hb, hml, hown, hts⟩ (k_X6_fullMany l dC dI cI cJ cC H.size o o_page o_readRows o_rows o_turns o_amounts o_drank o_takes o_leans o_would o_keptAmounts o_keptDrank o_keptTurns vo_pageMany vo_readMany vo_state vo_readMost vo_glasses vo_towersRead vo_poured vo_spilt vo_done vo_seedNow vo_keptTower vo_keptPoured vo_keptSpilt vo_hash vo_rows vo_amounts r1 ev_4 hg0 hg9) (cwV 0 hts gX6_countOf_X6_fullMany rfl rfl rfl (by decide +kernel) ⟨Nat.le_of_ble_eq_true rfl, Nat.le_of_ble_eq_true rfl⟩) (zz_preV [0, 1, 2] hK hP hD rfl rfl (va_recv hK hP (ci := 6) (q0 := 0) rfl rfl)) rfl rfl hl.1 rfl (lv_room (Nat.le_of_ble_eq_true rfl)) dX6_countOf_51 ⟨Nat.zero_le _, Nat.zero_le _⟩) hP hD hS hA rfl rfl rfl (by decide) (fun ok_5 H locs hP hD hS => ?_)
    have hP : va_P (dC, dI) vwCl [(o, .inr (6, [.ref o_page, .int vo_pageMany, .int vo_readMany, .int vo_state, .int vo_readMost, .ref o_readRows, .int vo_glasses, .int vo_towersRead, .int vo_poured, .ref o_rows, .ref o_turns, .ref o_amounts, .ref o_drank, .long vo_spilt, .ref o_takes, .ref o_leans, .ref o_would, .int vo_done, .int vo_seedNow, .int vo_keptTower, .int vo_keptPoured, .long vo_keptSpilt, .ref o_keptAmounts, .ref o_keptDrank, .ref o_keptTurns, .long vo_hash])), (o_rows, .inl (cI, 54, .inl vo_rows)), (o_amounts, .inl (cJ, 9, .inr (.inl vo_amounts)))] H := hP
    have hD : va_D A [(o, .inr (6, [.ref o_page, .int vo_pageMany, .int vo_readMany, .int vo_state, .int vo_readMost, .ref o_readRows, .int vo_glasses, .int vo_towersRead, .int vo_poured, .ref o_rows, .ref o_turns, .ref o_amounts, .ref o_drank, .long vo_spilt, .ref o_takes, .ref o_leans, .ref o_would, .int vo_done, .int vo_seedNow, .int vo_keptTower, .int vo_keptPoured, .long vo_keptSpilt, .ref o_keptAmounts, .ref o_keptDrank, .ref o_keptTurns, .long vo_hash])), (o_rows, .inl (cI, 54, .inl vo_rows)), (o_amounts, .inl (cJ, 9, .inr (.inl vo_amounts)))] := hD
    have hP9 := hP
    have hD9 := hD
    have hS9 := hS
    have hT : r1 = r := hT
    subst hT
    subst hQ
    exact zz_iret hx hb hr [0, 1, 2] hK hP9 hD9 hS9 rfl rfl trivial hlocks dX6_countOf_54
  replace hT := cutF c_3 hT
  have g_14 := zeqF (rfl : (p1).toInt = _) (by decide : ((2 : Int32)).toInt = 2) c_3
  by_cases c_6 : p1 = (3 : Int32)
  · replace hT := cutT c_6 hT
    have g_15 := zeqT (rfl : (p1).toInt = _) (by decide : ((3 : Int32)).toInt = 3) c_6
    refine lv_tableIn (off := 54) (tgt := 55) hx hb dX6_countOf_1 (by rw [c_6]; decide) (by rw [c_6]; decide) (by rw [c_6]; rfl) (by decide) ?_
    refine lv_aload_n hx hb dX6_countOf_55 rfl (lv_at hl 0 rfl) ?_
    refine va_get (D := (dC, dI)) (ci := 6) (v := .int vo_pageMany) (C := RX6) (T := TX6) (N := 26) hx hb hts hwX6 hown hK hP 0 rfl rfl 1 (by decide) hf_53 (fun _ h9 => h9) rfl dX6_countOf_56 ?_
    have hP9 := hP
    have hD9 := hD
    have hS9 := hS
    have hT : vo_pageMany = r := hT
    subst hT
    subst hQ
    exact zz_iret hx hb hr [0, 1, 2] hK hP9 hD9 hS9 rfl rfl trivial hlocks dX6_countOf_59
  replace hT := cutF c_6 hT
  have g_16 := zeqF (rfl : (p1).toInt = _) (by decide : ((3 : Int32)).toInt = 3) c_6
  by_cases c_7 : p1 = (4 : Int32)
  · replace hT := cutT c_7 hT
    have g_17 := zeqT (rfl : (p1).toInt = _) (by decide : ((4 : Int32)).toInt = 4) c_7
    refine lv_tableIn (off := 59) (tgt := 60) hx hb dX6_countOf_1 (by rw [c_7]; decide) (by rw [c_7]; decide) (by rw [c_7]; rfl) (by decide) ?_
    refine lv_aload_n hx hb dX6_countOf_60 rfl (lv_at hl 0 rfl) ?_
    refine va_get (D := (dC, dI)) (ci := 6) (v := .int vo_towersRead) (C := RX6) (T := TX6) (N := 26) hx hb hts hwX6 hown hK hP 0 rfl rfl 7 (by decide) hf_103 (fun _ h9 => h9) rfl dX6_countOf_61 ?_
    have hP9 := hP
    have hD9 := hD
    have hS9 := hS
    have hT : vo_towersRead = r := hT
    subst hT
    subst hQ
    exact zz_iret hx hb hr [0, 1, 2] hK hP9 hD9 hS9 rfl rfl trivial hlocks dX6_countOf_64
  replace hT := cutF c_7 hT
  have g_18 := zeqF (rfl : (p1).toInt = _) (by decide : ((4 : Int32)).toInt = 4) c_7
  by_cases c_8 : p1 = (5 : Int32)
  · replace hT := cutT c_8 hT
    have g_19 := zeqT (rfl : (p1).toInt = _) (by decide : ((5 : Int32)).toInt = 5) c_8
    refine lv_tableIn (off := 64) (tgt := 65) hx hb dX6_countOf_1 (by rw [c_8]; decide) (by rw [c_8]; decide) (by rw [c_8]; rfl) (by decide) ?_
    refine lv_aload_n hx hb dX6_countOf_65 rfl (lv_at hl 0 rfl) ?_
    refine va_get (D := (dC, dI)) (ci := 6) (v := .int vo_done) (C := RX6) (T := TX6) (N := 26) hx hb hts hwX6 hown hK hP 0 rfl rfl 17 (by decide) hf_171 (fun _ h9 => h9) rfl dX6_countOf_66 ?_
    have hP9 := hP
    have hD9 := hD
    have hS9 := hS
    have hT : vo_done = r := hT
    subst hT
    subst hQ
    exact zz_iret hx hb hr [0, 1, 2] hK hP9 hD9 hS9 rfl rfl trivial hlocks dX6_countOf_69
  replace hT := cutF c_8 hT
  have g_20 := zeqF (rfl : (p1).toInt = _) (by decide : ((5 : Int32)).toInt = 5) c_8
  refine lv_tableOut (tgt := 70) hx hb dX6_countOf_1 (by omega) (by decide) ?_
  refine lv_bipush (v := (-102 : Int32)) hx hb dX6_countOf_70 (by decide) ?_
  have hP9 := hP
  have hD9 := hD
  have hS9 := hS
  have hT : (-102 : Int32) = r := hT
  subst hT
  subst hQ
  exact zz_iret hx hb hr [0, 1, 2] hK hP9 hD9 hS9 rfl rfl trivial hlocks dX6_countOf_72

def m_X6_count (vo_pageMany : Int32) (vo_glasses : Int32) (vo_towersRead : Int32) (vo_poured : Int32) (vo_done : Int32) (vo_rows : Nat → Int32) (vo_amounts : Nat → Int64) (p1 : Int32) : Int32 :=
 cut (m_X6_countOf vo_pageMany vo_glasses vo_towersRead vo_poured vo_done vo_rows vo_amounts p1) (fun (r1 : Int32) =>
 r1)
set_option maxHeartbeats 4000000 in
set_option maxRecDepth 100000 in
theorem k_X6_count (l : Launch) (dC : Nat → ClassId) (dI : Nat → Nat → Nat) (cI cJ cC : ClassId) (sz : Nat) (o o_page o_readRows o_rows o_turns o_amounts o_drank o_takes o_leans o_would o_keptAmounts o_keptDrank o_keptTurns : Nat) (vo_pageMany : Int32) (vo_readMany : Int32) (vo_state : Int32) (vo_readMost : Int32) (vo_glasses : Int32) (vo_towersRead : Int32) (vo_poured : Int32) (vo_spilt : Int64) (vo_done : Int32) (vo_seedNow : Int32) (vo_keptTower : Int32) (vo_keptPoured : Int32) (vo_keptSpilt : Int64) (vo_hash : Int64) (vo_rows : Nat → Int32) (vo_amounts : Nat → Int64) (p1 : Int32) (r : Int32) (hT : m_X6_count vo_pageMany vo_glasses vo_towersRead vo_poured vo_done vo_rows vo_amounts p1 = r) (hg0 : 0 ≤ vo_glasses.toInt) (hg9 : vo_glasses.toInt ≤ 9) : Met l yX6_count wsX6_count ({ frames := 4, cells := 0, slots := 0, locals := 87 }) (zPc [.ref o, .int p1] (dC, dI) (zTy cI cJ cC) [(o, .inr (6, [.ref o_page, .int vo_pageMany, .int vo_readMany, .int vo_state, .int vo_readMost, .ref o_readRows, .int vo_glasses, .int vo_towersRead, .int vo_poured, .ref o_rows, .ref o_turns, .ref o_amounts, .ref o_drank, .long vo_spilt, .ref o_takes, .ref o_leans, .ref o_would, .int vo_done, .int vo_seedNow, .int vo_keptTower, .int vo_keptPoured, .long vo_keptSpilt, .ref o_keptAmounts, .ref o_keptDrank, .ref o_keptTurns, .long vo_hash])), (o_rows, .inl (cI, 54, .inl vo_rows)), (o_amounts, .inl (cJ, 9, .inr (.inl vo_amounts)))] sz) (zQi r (True) (dC, dI) (zTy cI cJ cC) [(o, .inr (6, [.ref o_page, .int vo_pageMany, .int vo_readMany, .int vo_state, .int vo_readMost, .ref o_readRows, .int vo_glasses, .int vo_towersRead, .int vo_poured, .ref o_rows, .ref o_turns, .ref o_amounts, .ref o_drank, .long vo_spilt, .ref o_takes, .ref o_leans, .ref o_would, .int vo_done, .int vo_seedNow, .int vo_keptTower, .int vo_keptPoured, .long vo_keptSpilt, .ref o_keptAmounts, .ref o_keptDrank, .ref o_keptTurns, .long vo_hash])), (o_rows, .inl (cI, 54, .inl vo_rows)), (o_amounts, .inl (cJ, 9, .inr (.inl vo_amounts)))] (va_A [(o, .inr (6, [.ref o_page, .int vo_pageMany, .int vo_readMany, .int vo_state, .int vo_readMost, .ref o_readRows, .int vo_glasses, .int vo_towersRead, .int vo_poured, .ref o_rows, .ref o_turns, .ref o_amounts, .ref o_drank, .long vo_spilt, .ref o_takes, .ref o_leans, .ref o_would, .int vo_done, .int vo_seedNow, .int vo_keptTower, .int vo_keptPoured, .long vo_keptSpilt, .ref o_keptAmounts, .ref o_keptDrank, .ref o_keptTurns, .long vo_hash])), (o_rows, .inl (cI, 54, .inl vo_rows)), (o_amounts, .inl (cJ, 9, .inr (.inl vo_amounts)))] sz)) 0 0 (va_A [(o, .inr (6, [.ref o_page, .int vo_pageMany, .int vo_readMany, .int vo_state, .int vo_readMost, .ref o_readRows, .int vo_glasses, .int vo_towersRead, .int vo_poured, .ref o_rows, .ref o_turns, .ref o_amounts, .ref o_drank, .long vo_spilt, .ref o_takes, .ref o_leans, .ref o_would, .int vo_done, .int vo_seedNow, .int vo_keptTower, .int vo_keptPoured, .long vo_keptSpilt, .ref o_keptAmounts, .ref o_keptDrank, .ref o_keptTurns, .long vo_hash])), (o_rows, .inl (cI, 54, .inl vo_rows)), (o_amounts, .inl (cJ, 9, .inr (.inl vo_amounts)))] sz) := by
  refine Met.ofW (cc := cX6_count) (maxL := 2) (ret := (some .int)) (by decide) rfl ?_
  intro p e s m args below meth c s₁ B hml hv
  obtain ⟨rfl, hsz, hP, hK, hD0⟩ := hv
  have hx := B.exec
  have hb := B.bytes
  have hr := B.returns
  have hts := atoms_spec (ws := wsX6_count) B.pre
  have hown : s.vm.findClass RX6 = some m.cls := findClass_of_methodNamed B.named
  have hlocks := B.notSynchronized
  subst hsz
  have hD := hD0.self (sz := s.heap.size)
  generalize hAe : va_A [(o, .inr (6, [.ref o_page, .int vo_pageMany, .int vo_readMany, .int vo_state, .int vo_readMost, .ref o_readRows, .int vo_glasses, .int vo_towersRead, .int vo_poured, .ref o_rows, .ref o_turns, .ref o_amounts, .ref o_drank, .long vo_spilt, .ref o_takes, .ref o_leans, .ref o_would, .int vo_done, .int vo_seedNow, .int vo_keptTower, .int vo_keptPoured, .long vo_keptSpilt, .ref o_keptAmounts, .ref o_keptDrank, .ref o_keptTurns, .long vo_hash])), (o_rows, .inl (cI, 54, .inl vo_rows)), (o_amounts, .inl (cJ, 9, .inr (.inl vo_amounts)))] s.heap.size = A at hD ⊢
  have hA : ∀ q : Nat, s.heap.size ≤ q → A q := fun q h => by rw [← hAe]; exact Or.inr h
  have hS : va_S A s.heap s.heap [] := va_S.rf
  have hP : va_P (dC, dI) vwCl [(o, .inr (6, [.ref o_page, .int vo_pageMany, .int vo_readMany, .int vo_state, .int vo_readMost, .ref o_readRows, .int vo_glasses, .int vo_towersRead, .int vo_poured, .ref o_rows, .ref o_turns, .ref o_amounts, .ref o_drank, .long vo_spilt, .ref o_takes, .ref o_leans, .ref o_would, .int vo_done, .int vo_seedNow, .int vo_keptTower, .int vo_keptPoured, .long vo_keptSpilt, .ref o_keptAmounts, .ref o_keptDrank, .ref o_keptTurns, .long vo_hash])), (o_rows, .inl (cI, 54, .inl vo_rows)), (o_amounts, .inl (cJ, 9, .inr (.inl vo_amounts)))] s.heap := hP
  have hK : va_K (dC, dI) vwCl (zTy cI cJ cC) s := hK
  have hl := lv_entry ([.ref o, .int p1]) (n := 2) (Nat.le_of_ble_eq_true rfl)
  rw [lg_entry_eq]
  generalize (lg_sl ([.ref o, .int p1]) ++ List.replicate (2 - (lg_sl ([.ref o, .int p1])).length) Slot.unset).toArray = ls at hl ⊢
  have hl : lv_has ls 2 [(0, .ref o), (1, .int p1)] := hl
  refine zz_start hP hS (fun Q hQ H locs hP hS => ?_)
  refine lv_aload_n hx hb dX6_count_0 rfl (lv_at hl 0 rfl) ?_
  refine lv_iload_n hx hb dX6_count_1 rfl (lv_at hl 1 rfl) ?_
  obtain ⟨r1, ev_1⟩ : ∃ x0, (m_X6_countOf vo_pageMany vo_glasses vo_towersRead vo_poured vo_done vo_rows vo_amounts p1) = x0 := ⟨_, rfl⟩
  replace hT := cut_n ev_1 hT
  refine zz_ci [0, 1, 2] [] (wr := []) (w1 := [(o, .inr (6, [.ref o_page, .int vo_pageMany, .int vo_readMany, .int vo_state, .int vo_readMost, .ref o_readRows, .int vo_glasses, .int vo_towersRead, .int vo_poured, .ref o_rows, .ref o_turns, .ref o_amounts, .ref o_drank, .long vo_spilt, .ref o_takes, .ref o_leans, .ref o_would, .int vo_done, .int vo_seedNow, .int vo_keptTower, .int vo_keptPoured, .long vo_keptSpilt, .ref o_keptAmounts, .ref o_keptDrank, .ref o_keptTurns, .long vo_hash])), (o_rows, .inl (cI, 54, .inl vo_rows)), (o_amounts, .inl (cJ, 9, .inr (.inl vo_amounts)))]) (va_runV (As := [.int p1]) (rest := []) ⟨hx, hb, hml, hown, hts⟩ (k_X6_countOf l dC dI cI cJ cC H.size o o_page o_readRows o_rows o_turns o_amounts o_drank o_takes o_leans o_would o_keptAmounts o_keptDrank o_keptTurns vo_pageMany vo_readMany vo_state vo_readMost vo_glasses vo_towersRead vo_poured vo_spilt vo_done vo_seedNow vo_keptTower vo_keptPoured vo_keptSpilt vo_hash vo_rows vo_amounts p1 r1 ev_1 hg0 hg9) (cwV 1 hts gX6_count_X6_countOf rfl rfl rfl (by decide +kernel) ⟨Nat.le_of_ble_eq_true rfl, Nat.le_of_ble_eq_true rfl⟩) (zz_preV [0, 1, 2] hK hP hD rfl rfl (va_recv hK hP (ci := 6) (q0 := 0) rfl rfl)) rfl rfl hl.1 rfl (lv_room (Nat.le_of_ble_eq_true rfl)) dX6_count_2 ⟨Nat.zero_le _, Nat.zero_le _⟩) hP hD hS hA rfl rfl rfl (by decide) (fun ok_2 H locs hP hD hS => ?_)
  have hP : va_P (dC, dI) vwCl [(o, .inr (6, [.ref o_page, .int vo_pageMany, .int vo_readMany, .int vo_state, .int vo_readMost, .ref o_readRows, .int vo_glasses, .int vo_towersRead, .int vo_poured, .ref o_rows, .ref o_turns, .ref o_amounts, .ref o_drank, .long vo_spilt, .ref o_takes, .ref o_leans, .ref o_would, .int vo_done, .int vo_seedNow, .int vo_keptTower, .int vo_keptPoured, .long vo_keptSpilt, .ref o_keptAmounts, .ref o_keptDrank, .ref o_keptTurns, .long vo_hash])), (o_rows, .inl (cI, 54, .inl vo_rows)), (o_amounts, .inl (cJ, 9, .inr (.inl vo_amounts)))] H := hP
  have hD : va_D A [(o, .inr (6, [.ref o_page, .int vo_pageMany, .int vo_readMany, .int vo_state, .int vo_readMost, .ref o_readRows, .int vo_glasses, .int vo_towersRead, .int vo_poured, .ref o_rows, .ref o_turns, .ref o_amounts, .ref o_drank, .long vo_spilt, .ref o_takes, .ref o_leans, .ref o_would, .int vo_done, .int vo_seedNow, .int vo_keptTower, .int vo_keptPoured, .long vo_keptSpilt, .ref o_keptAmounts, .ref o_keptDrank, .ref o_keptTurns, .long vo_hash])), (o_rows, .inl (cI, 54, .inl vo_rows)), (o_amounts, .inl (cJ, 9, .inr (.inl vo_amounts)))] := hD
  have hP9 := hP
  have hD9 := hD
  have hS9 := hS
  have hT : r1 = r := hT
  subst hT
  subst hQ
  exact zz_iret hx hb hr [0, 1, 2] hK hP9 hD9 hS9 rfl rfl trivial hlocks dX6_count_5

def m_X6_say (vo_hash : Int64) (p1 : Int64) : Int64 :=
 cut (((31 : Int64) * vo_hash) + p1) (fun (v1 : Int64) =>
 v1)
set_option maxHeartbeats 4000000 in
set_option maxRecDepth 100000 in
theorem k_X6_say (l : Launch) (dC : Nat → ClassId) (dI : Nat → Nat → Nat) (cI cJ cC : ClassId) (sz : Nat) (o o_page o_readRows o_rows o_turns o_amounts o_drank o_takes o_leans o_would o_keptAmounts o_keptDrank o_keptTurns : Nat) (vo_pageMany : Int32) (vo_readMany : Int32) (vo_state : Int32) (vo_readMost : Int32) (vo_glasses : Int32) (vo_towersRead : Int32) (vo_poured : Int32) (vo_spilt : Int64) (vo_done : Int32) (vo_seedNow : Int32) (vo_keptTower : Int32) (vo_keptPoured : Int32) (vo_keptSpilt : Int64) (vo_hash : Int64) (p1 : Int64) (qo_hash : Int64) (hT : m_X6_say vo_hash p1 = qo_hash) : Met l yX6_say wsX6_say ({ frames := 0, cells := 0, slots := 0, locals := 0 }) (zPc [.ref o, .long p1] (dC, dI) (zTy cI cJ cC) [(o, .inr (6, [.ref o_page, .int vo_pageMany, .int vo_readMany, .int vo_state, .int vo_readMost, .ref o_readRows, .int vo_glasses, .int vo_towersRead, .int vo_poured, .ref o_rows, .ref o_turns, .ref o_amounts, .ref o_drank, .long vo_spilt, .ref o_takes, .ref o_leans, .ref o_would, .int vo_done, .int vo_seedNow, .int vo_keptTower, .int vo_keptPoured, .long vo_keptSpilt, .ref o_keptAmounts, .ref o_keptDrank, .ref o_keptTurns, .long vo_hash]))] sz) (zQv (True) (dC, dI) (zTy cI cJ cC) [(o, .inr (6, [.ref o_page, .int vo_pageMany, .int vo_readMany, .int vo_state, .int vo_readMost, .ref o_readRows, .int vo_glasses, .int vo_towersRead, .int vo_poured, .ref o_rows, .ref o_turns, .ref o_amounts, .ref o_drank, .long vo_spilt, .ref o_takes, .ref o_leans, .ref o_would, .int vo_done, .int vo_seedNow, .int vo_keptTower, .int vo_keptPoured, .long vo_keptSpilt, .ref o_keptAmounts, .ref o_keptDrank, .ref o_keptTurns, .long qo_hash]))] (va_A [(o, .inr (6, [.ref o_page, .int vo_pageMany, .int vo_readMany, .int vo_state, .int vo_readMost, .ref o_readRows, .int vo_glasses, .int vo_towersRead, .int vo_poured, .ref o_rows, .ref o_turns, .ref o_amounts, .ref o_drank, .long vo_spilt, .ref o_takes, .ref o_leans, .ref o_would, .int vo_done, .int vo_seedNow, .int vo_keptTower, .int vo_keptPoured, .long vo_keptSpilt, .ref o_keptAmounts, .ref o_keptDrank, .ref o_keptTurns, .long vo_hash]))] sz)) 0 0 (va_A [(o, .inr (6, [.ref o_page, .int vo_pageMany, .int vo_readMany, .int vo_state, .int vo_readMost, .ref o_readRows, .int vo_glasses, .int vo_towersRead, .int vo_poured, .ref o_rows, .ref o_turns, .ref o_amounts, .ref o_drank, .long vo_spilt, .ref o_takes, .ref o_leans, .ref o_would, .int vo_done, .int vo_seedNow, .int vo_keptTower, .int vo_keptPoured, .long vo_keptSpilt, .ref o_keptAmounts, .ref o_keptDrank, .ref o_keptTurns, .long vo_hash]))] sz) := by
  refine Met.ofW (cc := cX6_say) (maxL := 3) (ret := none) (by decide) rfl ?_
  intro p e s m args below meth c s₁ B hml hv
  obtain ⟨rfl, hsz, hP, hK, hD0⟩ := hv
  have hx := B.exec
  have hb := B.bytes
  have hr := B.returns
  have hts := atoms_spec (ws := wsX6_say) B.pre
  have hown : s.vm.findClass RX6 = some m.cls := findClass_of_methodNamed B.named
  have hlocks := B.notSynchronized
  subst hsz
  have hD := hD0.self (sz := s.heap.size)
  generalize hAe : va_A [(o, .inr (6, [.ref o_page, .int vo_pageMany, .int vo_readMany, .int vo_state, .int vo_readMost, .ref o_readRows, .int vo_glasses, .int vo_towersRead, .int vo_poured, .ref o_rows, .ref o_turns, .ref o_amounts, .ref o_drank, .long vo_spilt, .ref o_takes, .ref o_leans, .ref o_would, .int vo_done, .int vo_seedNow, .int vo_keptTower, .int vo_keptPoured, .long vo_keptSpilt, .ref o_keptAmounts, .ref o_keptDrank, .ref o_keptTurns, .long vo_hash]))] s.heap.size = A at hD ⊢
  have hA : ∀ q : Nat, s.heap.size ≤ q → A q := fun q h => by rw [← hAe]; exact Or.inr h
  have hS : va_S A s.heap s.heap [] := va_S.rf
  have hP : va_P (dC, dI) vwCl [(o, .inr (6, [.ref o_page, .int vo_pageMany, .int vo_readMany, .int vo_state, .int vo_readMost, .ref o_readRows, .int vo_glasses, .int vo_towersRead, .int vo_poured, .ref o_rows, .ref o_turns, .ref o_amounts, .ref o_drank, .long vo_spilt, .ref o_takes, .ref o_leans, .ref o_would, .int vo_done, .int vo_seedNow, .int vo_keptTower, .int vo_keptPoured, .long vo_keptSpilt, .ref o_keptAmounts, .ref o_keptDrank, .ref o_keptTurns, .long vo_hash]))] s.heap := hP
  have hK : va_K (dC, dI) vwCl (zTy cI cJ cC) s := hK
  have hl := lv_entry ([.ref o, .long p1]) (n := 3) (Nat.le_of_ble_eq_true rfl)
  rw [lg_entry_eq]
  generalize (lg_sl ([.ref o, .long p1]) ++ List.replicate (3 - (lg_sl ([.ref o, .long p1])).length) Slot.unset).toArray = ls at hl ⊢
  have hl : lv_has ls 3 [(0, .ref o), (1, .long p1)] := hl
  refine zz_start hP hS (fun Q hQ H locs hP hS => ?_)
  have hwX6 : ∀ w ∈ u_ws RX6 TX6 26, w ∈ wsX6_say := by decide +kernel
  have hc_230 := (hts (.constantLong RX6 230 (31)) (by decide +kernel))
  have hf_232 := (hts (.fieldLink RX6 232 "PouredTopmostModel" "hash" "J") (by decide +kernel))
  refine lv_aload_n hx hb dX6_say_0 rfl (lv_at hl 0 rfl) ?_
  refine lv_ldc2 (v := (31 : Int64)) hx hb hown hc_230 dX6_say_1 ?_
  refine lv_aload_n hx hb dX6_say_4 rfl (lv_at hl 0 rfl) ?_
  refine va_get (D := (dC, dI)) (ci := 6) (v := .long vo_hash) (C := RX6) (T := TX6) (N := 26) hx hb hts hwX6 hown hK hP 0 rfl rfl 25 (by decide) hf_232 (fun _ h9 => h9) rfl dX6_say_5 ?_
  refine lv_lmul hx hb dX6_say_8 ?_
  refine lv_lload_n hx hb dX6_say_9 rfl (lv_at hl 1 rfl) ?_
  refine lv_ladd hx hb dX6_say_10 ?_
  refine lv_topl (fun v1 ev1 => ?_)
  replace hT := cut_n ev1.symm hT
  refine va_put (D := (dC, dI)) (ci := 6) (v := .long v1) (ty := .long) (C := RX6) (T := TX6) (N := 26) hx hb hts hwX6 tyX6 tyX6_ok nmX6 hown hK hP hD hS 0 rfl rfl 25 (by decide) hf_232 (fun _ h9 => h9) rfl (by decide +kernel) rfl rfl (Nat.le_of_ble_eq_true rfl) dX6_say_11 (fun H locs hP hD hS => ?_)
  have hP : va_P (dC, dI) vwCl [(o, .inr (6, [.ref o_page, .int vo_pageMany, .int vo_readMany, .int vo_state, .int vo_readMost, .ref o_readRows, .int vo_glasses, .int vo_towersRead, .int vo_poured, .ref o_rows, .ref o_turns, .ref o_amounts, .ref o_drank, .long vo_spilt, .ref o_takes, .ref o_leans, .ref o_would, .int vo_done, .int vo_seedNow, .int vo_keptTower, .int vo_keptPoured, .long vo_keptSpilt, .ref o_keptAmounts, .ref o_keptDrank, .ref o_keptTurns, .long v1]))] H := hP
  have hD : va_D A [(o, .inr (6, [.ref o_page, .int vo_pageMany, .int vo_readMany, .int vo_state, .int vo_readMost, .ref o_readRows, .int vo_glasses, .int vo_towersRead, .int vo_poured, .ref o_rows, .ref o_turns, .ref o_amounts, .ref o_drank, .long vo_spilt, .ref o_takes, .ref o_leans, .ref o_would, .int vo_done, .int vo_seedNow, .int vo_keptTower, .int vo_keptPoured, .long vo_keptSpilt, .ref o_keptAmounts, .ref o_keptDrank, .ref o_keptTurns, .long v1]))] := hD
  have hP9 := hP
  have hD9 := hD
  have hS9 := hS
  have hT : v1 = qo_hash := hT
  subst hT
  subst hQ
  exact zz_vret hx hb hr [0] hK hP9 hD9 hS9 rfl rfl trivial hlocks dX6_say_14

def rs_X6_sayGlass_2 (vo_amounts : Nat → Int64) (p1 : Int32) (vo_drank : Nat → Int64) (x3 : Int32) (x4 : Int64) : Int64 :=
 cut (m_X6_term (vo_amounts p1.toNatClampNeg) (0 : Int32)) (fun (r8 : Int64) =>
 cut (m_X6_say x4 r8) (fun (u9 : Int64) =>
 cut (m_X6_term (vo_amounts p1.toNatClampNeg) (1 : Int32)) (fun (r10 : Int64) =>
 cut (m_X6_say u9 r10) (fun (u11 : Int64) =>
 cut (m_X6_term (vo_drank p1.toNatClampNeg) (0 : Int32)) (fun (r12 : Int64) =>
 cut (m_X6_say u11 r12) (fun (u13 : Int64) =>
 cut (m_X6_term (vo_drank p1.toNatClampNeg) (1 : Int32)) (fun (r14 : Int64) =>
 cut (m_X6_say u13 r14) (fun (u15 : Int64) =>
 u15))))))))
def lp_X6_sayGlass_2 (ct2 : Int32 → Int64 → (Int64)) (vo_rows : Nat → Int32) (vo_turns : Nat → Int32) (vo_amounts : Nat → Int64) (p1 : Int32) : Nat → Int32 → Int64 → (Int64)
  | 0, _, _ => default
  | k + 1, b1, b2 =>
  if (9 : Int32) ≤ b1 then
   (ct2 b1 b2)
  else
   cut (m_X6_tellGlass vo_rows vo_turns vo_amounts p1 b1) (fun (r5 : Int32) =>
   cut (m_X6_say b2 (r5.toInt64)) (fun (u6 : Int64) =>
   cut (b1 + (1 : Int32)) (fun (v7 : Int32) =>
   (lp_X6_sayGlass_2 ct2 vo_rows vo_turns vo_amounts p1 k v7 u6))))
def m_X6_sayGlass (vo_hash : Int64) (vo_rows : Nat → Int32) (vo_turns : Nat → Int32) (vo_amounts : Nat → Int64) (vo_drank : Nat → Int64) (p1 : Int32) : Int64 :=
 (lp_X6_sayGlass_2 (rs_X6_sayGlass_2 vo_amounts p1 vo_drank) vo_rows vo_turns vo_amounts p1 11 (0 : Int32) vo_hash)
set_option maxHeartbeats 4000000 in
set_option maxRecDepth 100000 in
theorem k_X6_sayGlass (l : Launch) (dC : Nat → ClassId) (dI : Nat → Nat → Nat) (cI cJ cC : ClassId) (sz : Nat) (o o_page o_readRows o_rows o_turns o_amounts o_drank o_takes o_leans o_would o_keptAmounts o_keptDrank o_keptTurns : Nat) (vo_pageMany : Int32) (vo_readMany : Int32) (vo_state : Int32) (vo_readMost : Int32) (vo_glasses : Int32) (vo_towersRead : Int32) (vo_poured : Int32) (vo_spilt : Int64) (vo_done : Int32) (vo_seedNow : Int32) (vo_keptTower : Int32) (vo_keptPoured : Int32) (vo_keptSpilt : Int64) (vo_hash : Int64) (vo_rows : Nat → Int32) (vo_turns : Nat → Int32) (vo_amounts : Nat → Int64) (vo_drank : Nat → Int64) (p1 : Int32) (qo_hash : Int64) (hT : m_X6_sayGlass vo_hash vo_rows vo_turns vo_amounts vo_drank p1 = qo_hash) (h10 : 0 ≤ p1.toInt) (h19 : p1.toInt < 9) : Met l yX6_sayGlass wsX6_sayGlass ({ frames := 3, cells := 0, slots := 0, locals := 66 }) (zPc [.ref o, .int p1] (dC, dI) (zTy cI cJ cC) [(o, .inr (6, [.ref o_page, .int vo_pageMany, .int vo_readMany, .int vo_state, .int vo_readMost, .ref o_readRows, .int vo_glasses, .int vo_towersRead, .int vo_poured, .ref o_rows, .ref o_turns, .ref o_amounts, .ref o_drank, .long vo_spilt, .ref o_takes, .ref o_leans, .ref o_would, .int vo_done, .int vo_seedNow, .int vo_keptTower, .int vo_keptPoured, .long vo_keptSpilt, .ref o_keptAmounts, .ref o_keptDrank, .ref o_keptTurns, .long vo_hash])), (o_rows, .inl (cI, 54, .inl vo_rows)), (o_turns, .inl (cI, 9, .inl vo_turns)), (o_amounts, .inl (cJ, 9, .inr (.inl vo_amounts))), (o_drank, .inl (cJ, 9, .inr (.inl vo_drank)))] sz) (zQv (True) (dC, dI) (zTy cI cJ cC) [(o, .inr (6, [.ref o_page, .int vo_pageMany, .int vo_readMany, .int vo_state, .int vo_readMost, .ref o_readRows, .int vo_glasses, .int vo_towersRead, .int vo_poured, .ref o_rows, .ref o_turns, .ref o_amounts, .ref o_drank, .long vo_spilt, .ref o_takes, .ref o_leans, .ref o_would, .int vo_done, .int vo_seedNow, .int vo_keptTower, .int vo_keptPoured, .long vo_keptSpilt, .ref o_keptAmounts, .ref o_keptDrank, .ref o_keptTurns, .long qo_hash])), (o_rows, .inl (cI, 54, .inl vo_rows)), (o_turns, .inl (cI, 9, .inl vo_turns)), (o_amounts, .inl (cJ, 9, .inr (.inl vo_amounts))), (o_drank, .inl (cJ, 9, .inr (.inl vo_drank)))] (va_A [(o, .inr (6, [.ref o_page, .int vo_pageMany, .int vo_readMany, .int vo_state, .int vo_readMost, .ref o_readRows, .int vo_glasses, .int vo_towersRead, .int vo_poured, .ref o_rows, .ref o_turns, .ref o_amounts, .ref o_drank, .long vo_spilt, .ref o_takes, .ref o_leans, .ref o_would, .int vo_done, .int vo_seedNow, .int vo_keptTower, .int vo_keptPoured, .long vo_keptSpilt, .ref o_keptAmounts, .ref o_keptDrank, .ref o_keptTurns, .long vo_hash])), (o_rows, .inl (cI, 54, .inl vo_rows)), (o_turns, .inl (cI, 9, .inl vo_turns)), (o_amounts, .inl (cJ, 9, .inr (.inl vo_amounts))), (o_drank, .inl (cJ, 9, .inr (.inl vo_drank)))] sz)) 0 0 (va_A [(o, .inr (6, [.ref o_page, .int vo_pageMany, .int vo_readMany, .int vo_state, .int vo_readMost, .ref o_readRows, .int vo_glasses, .int vo_towersRead, .int vo_poured, .ref o_rows, .ref o_turns, .ref o_amounts, .ref o_drank, .long vo_spilt, .ref o_takes, .ref o_leans, .ref o_would, .int vo_done, .int vo_seedNow, .int vo_keptTower, .int vo_keptPoured, .long vo_keptSpilt, .ref o_keptAmounts, .ref o_keptDrank, .ref o_keptTurns, .long vo_hash])), (o_rows, .inl (cI, 54, .inl vo_rows)), (o_turns, .inl (cI, 9, .inl vo_turns)), (o_amounts, .inl (cJ, 9, .inr (.inl vo_amounts))), (o_drank, .inl (cJ, 9, .inr (.inl vo_drank)))] sz) := by
  refine Met.ofW (cc := cX6_sayGlass) (maxL := 3) (ret := none) (by decide) rfl ?_
  intro p e s m args below meth c s₁ B hml hv
  obtain ⟨rfl, hsz, hP, hK, hD0⟩ := hv
  have hx := B.exec
  have hb := B.bytes
  have hr := B.returns
  have hts := atoms_spec (ws := wsX6_sayGlass) B.pre
  have hown : s.vm.findClass RX6 = some m.cls := findClass_of_methodNamed B.named
  have hlocks := B.notSynchronized
  subst hsz
  have hD := hD0.self (sz := s.heap.size)
  generalize hAe : va_A [(o, .inr (6, [.ref o_page, .int vo_pageMany, .int vo_readMany, .int vo_state, .int vo_readMost, .ref o_readRows, .int vo_glasses, .int vo_towersRead, .int vo_poured, .ref o_rows, .ref o_turns, .ref o_amounts, .ref o_drank, .long vo_spilt, .ref o_takes, .ref o_leans, .ref o_would, .int vo_done, .int vo_seedNow, .int vo_keptTower, .int vo_keptPoured, .long vo_keptSpilt, .ref o_keptAmounts, .ref o_keptDrank, .ref o_keptTurns, .long vo_hash])), (o_rows, .inl (cI, 54, .inl vo_rows)), (o_turns, .inl (cI, 9, .inl vo_turns)), (o_amounts, .inl (cJ, 9, .inr (.inl vo_amounts))), (o_drank, .inl (cJ, 9, .inr (.inl vo_drank)))] s.heap.size = A at hD ⊢
  have hA : ∀ q : Nat, s.heap.size ≤ q → A q := fun q h => by rw [← hAe]; exact Or.inr h
  have hS : va_S A s.heap s.heap [] := va_S.rf
  have hP : va_P (dC, dI) vwCl [(o, .inr (6, [.ref o_page, .int vo_pageMany, .int vo_readMany, .int vo_state, .int vo_readMost, .ref o_readRows, .int vo_glasses, .int vo_towersRead, .int vo_poured, .ref o_rows, .ref o_turns, .ref o_amounts, .ref o_drank, .long vo_spilt, .ref o_takes, .ref o_leans, .ref o_would, .int vo_done, .int vo_seedNow, .int vo_keptTower, .int vo_keptPoured, .long vo_keptSpilt, .ref o_keptAmounts, .ref o_keptDrank, .ref o_keptTurns, .long vo_hash])), (o_rows, .inl (cI, 54, .inl vo_rows)), (o_turns, .inl (cI, 9, .inl vo_turns)), (o_amounts, .inl (cJ, 9, .inr (.inl vo_amounts))), (o_drank, .inl (cJ, 9, .inr (.inl vo_drank)))] s.heap := hP
  have hK : va_K (dC, dI) vwCl (zTy cI cJ cC) s := hK
  have hl := lv_entry ([.ref o, .int p1]) (n := 3) (Nat.le_of_ble_eq_true rfl)
  rw [lg_entry_eq]
  generalize (lg_sl ([.ref o, .int p1]) ++ List.replicate (3 - (lg_sl ([.ref o, .int p1])).length) Slot.unset).toArray = ls at hl ⊢
  have hl : lv_has ls 3 [(0, .ref o), (1, .int p1)] := hl
  refine zz_start hP hS (fun Q hQ H locs hP hS => ?_)
  have hwX6 : ∀ w ∈ u_ws RX6 TX6 26, w ∈ wsX6_sayGlass := by decide +kernel
  have hf_22 := (hts (.fieldLink RX6 22 "PouredTopmostModel" "amounts" "[J") (by decide +kernel))
  have hf_26 := (hts (.fieldLink RX6 26 "PouredTopmostModel" "drank" "[J") (by decide +kernel))
  refine lv_iconst (v := (0 : Int32)) hx hb dX6_sayGlass_0 (by decide) ?_
  refine lv_istore_n (lv' := [(2, .int (0 : Int32)), (0, .ref o), (1, .int p1)]) hx hb dX6_sayGlass_1 rfl hl (by decide) rfl (fun ls hl => ?_)
  have hz_26 : ((0 : Int32)).toInt = 0 := by decide
  refine zz_loop (α := Int32 × Int64) 25 (fun k a H locs ls => (0 ≤ a.1.toInt) ∧ (a.1.toInt ≤ 9) ∧ (9 - a.1.toInt < ((k : Nat) : Int)) ∧ lp_X6_sayGlass_2 (rs_X6_sayGlass_2 vo_amounts p1 vo_drank) vo_rows vo_turns vo_amounts p1 k a.1 a.2 = qo_hash ∧ va_P (dC, dI) vwCl [(o, .inr (6, [.ref o_page, .int vo_pageMany, .int vo_readMany, .int vo_state, .int vo_readMost, .ref o_readRows, .int vo_glasses, .int vo_towersRead, .int vo_poured, .ref o_rows, .ref o_turns, .ref o_amounts, .ref o_drank, .long vo_spilt, .ref o_takes, .ref o_leans, .ref o_would, .int vo_done, .int vo_seedNow, .int vo_keptTower, .int vo_keptPoured, .long vo_keptSpilt, .ref o_keptAmounts, .ref o_keptDrank, .ref o_keptTurns, .long a.2])), (o_rows, .inl (cI, 54, .inl vo_rows)), (o_turns, .inl (cI, 9, .inl vo_turns)), (o_amounts, .inl (cJ, 9, .inr (.inl vo_amounts))), (o_drank, .inl (cJ, 9, .inr (.inl vo_drank)))] H ∧ va_D A [(o, .inr (6, [.ref o_page, .int vo_pageMany, .int vo_readMany, .int vo_state, .int vo_readMost, .ref o_readRows, .int vo_glasses, .int vo_towersRead, .int vo_poured, .ref o_rows, .ref o_turns, .ref o_amounts, .ref o_drank, .long vo_spilt, .ref o_takes, .ref o_leans, .ref o_would, .int vo_done, .int vo_seedNow, .int vo_keptTower, .int vo_keptPoured, .long vo_keptSpilt, .ref o_keptAmounts, .ref o_keptDrank, .ref o_keptTurns, .long a.2])), (o_rows, .inl (cI, 54, .inl vo_rows)), (o_turns, .inl (cI, 9, .inl vo_turns)), (o_amounts, .inl (cJ, 9, .inr (.inl vo_amounts))), (o_drank, .inl (cJ, 9, .inr (.inl vo_drank)))] ∧ va_S A s.heap H locs ∧ lv_has ls 3 [(2, .int a.1), (0, .ref o), (1, .int p1)]) (fun a H locs ls => (0 ≤ a.1.toInt) ∧ (a.1.toInt ≤ 9) ∧ (rs_X6_sayGlass_2 vo_amounts p1 vo_drank) a.1 a.2 = qo_hash ∧ va_P (dC, dI) vwCl [(o, .inr (6, [.ref o_page, .int vo_pageMany, .int vo_readMany, .int vo_state, .int vo_readMost, .ref o_readRows, .int vo_glasses, .int vo_towersRead, .int vo_poured, .ref o_rows, .ref o_turns, .ref o_amounts, .ref o_drank, .long vo_spilt, .ref o_takes, .ref o_leans, .ref o_would, .int vo_done, .int vo_seedNow, .int vo_keptTower, .int vo_keptPoured, .long vo_keptSpilt, .ref o_keptAmounts, .ref o_keptDrank, .ref o_keptTurns, .long a.2])), (o_rows, .inl (cI, 54, .inl vo_rows)), (o_turns, .inl (cI, 9, .inl vo_turns)), (o_amounts, .inl (cJ, 9, .inr (.inl vo_amounts))), (o_drank, .inl (cJ, 9, .inr (.inl vo_drank)))] H ∧ va_D A [(o, .inr (6, [.ref o_page, .int vo_pageMany, .int vo_readMany, .int vo_state, .int vo_readMost, .ref o_readRows, .int vo_glasses, .int vo_towersRead, .int vo_poured, .ref o_rows, .ref o_turns, .ref o_amounts, .ref o_drank, .long vo_spilt, .ref o_takes, .ref o_leans, .ref o_would, .int vo_done, .int vo_seedNow, .int vo_keptTower, .int vo_keptPoured, .long vo_keptSpilt, .ref o_keptAmounts, .ref o_keptDrank, .ref o_keptTurns, .long a.2])), (o_rows, .inl (cI, 54, .inl vo_rows)), (o_turns, .inl (cI, 9, .inl vo_turns)), (o_amounts, .inl (cJ, 9, .inr (.inl vo_amounts))), (o_drank, .inl (cJ, 9, .inr (.inl vo_drank)))] ∧ va_S A s.heap H locs ∧ lv_has ls 3 [(0, .ref o), (1, .int p1)]) ?_ ?_ ?_ 11 ((0 : Int32), vo_hash) ⟨(by omega : 0 ≤ (0 : Int32).toInt), (by omega : (0 : Int32).toInt ≤ 9), (by omega : 9 - (0 : Int32).toInt < ((11 : Nat) : Int)), hT, hP.sub [0, 1, 2, 3, 4] rfl, hD.sub [0, 1, 2, 3, 4] rfl rfl, hS, lv_sub hl [0, 1, 2] rfl⟩
  · rintro ⟨x3, x4⟩ H locs ls ⟨i1, j1, hT, hP, hD, hS, hl⟩
    have hP : va_P (dC, dI) vwCl [(o, .inr (6, [.ref o_page, .int vo_pageMany, .int vo_readMany, .int vo_state, .int vo_readMost, .ref o_readRows, .int vo_glasses, .int vo_towersRead, .int vo_poured, .ref o_rows, .ref o_turns, .ref o_amounts, .ref o_drank, .long vo_spilt, .ref o_takes, .ref o_leans, .ref o_would, .int vo_done, .int vo_seedNow, .int vo_keptTower, .int vo_keptPoured, .long vo_keptSpilt, .ref o_keptAmounts, .ref o_keptDrank, .ref o_keptTurns, .long x4])), (o_rows, .inl (cI, 54, .inl vo_rows)), (o_turns, .inl (cI, 9, .inl vo_turns)), (o_amounts, .inl (cJ, 9, .inr (.inl vo_amounts))), (o_drank, .inl (cJ, 9, .inr (.inl vo_drank)))] H := hP
    have hD : va_D A [(o, .inr (6, [.ref o_page, .int vo_pageMany, .int vo_readMany, .int vo_state, .int vo_readMost, .ref o_readRows, .int vo_glasses, .int vo_towersRead, .int vo_poured, .ref o_rows, .ref o_turns, .ref o_amounts, .ref o_drank, .long vo_spilt, .ref o_takes, .ref o_leans, .ref o_would, .int vo_done, .int vo_seedNow, .int vo_keptTower, .int vo_keptPoured, .long vo_keptSpilt, .ref o_keptAmounts, .ref o_keptDrank, .ref o_keptTurns, .long x4])), (o_rows, .inl (cI, 54, .inl vo_rows)), (o_turns, .inl (cI, 9, .inl vo_turns)), (o_amounts, .inl (cJ, 9, .inr (.inl vo_amounts))), (o_drank, .inl (cJ, 9, .inr (.inl vo_drank)))] := hD
    have hl : lv_has ls 3 [(0, .ref o), (1, .int p1)] := hl
    have hT : (rs_X6_sayGlass_2 vo_amounts p1 vo_drank) x3 x4 = qo_hash := hT
    have i1 : 0 ≤ x3.toInt := i1
    have j1 : x3.toInt ≤ 9 := j1
    refine lv_aload_n hx hb dX6_sayGlass_25 rfl (lv_at hl 0 rfl) ?_
    refine lv_aload_n hx hb dX6_sayGlass_26 rfl (lv_at hl 0 rfl) ?_
    refine va_get (D := (dC, dI)) (ci := 6) (v := .ref o_amounts) (C := RX6) (T := TX6) (N := 26) hx hb hts hwX6 hown hK hP 0 rfl rfl 11 (by decide) hf_22 (fun _ h9 => h9) rfl dX6_sayGlass_27 ?_
    refine lv_iload_n hx hb dX6_sayGlass_30 rfl (lv_at hl 1 rfl) ?_
    have h_6 : vp_in p1 9 := zin (by omega) (by omega)
    refine va_lald hx hb hK hP 3 1 rfl rfl h_6 dX6_sayGlass_31 ?_
    refine lv_iconst (v := (0 : Int32)) hx hb dX6_sayGlass_32 (by decide) ?_
    obtain ⟨r8, ev_7⟩ : ∃ x0, (m_X6_term (vo_amounts p1.toNatClampNeg) (0 : Int32)) = x0 := ⟨_, rfl⟩
    replace hT := cut_n ev_7 hT
    refine zz_cl [] [0, 1, 2, 3, 4] (wr := [(o, .inr (6, [.ref o_page, .int vo_pageMany, .int vo_readMany, .int vo_state, .int vo_readMost, .ref o_readRows, .int vo_glasses, .int vo_towersRead, .int vo_poured, .ref o_rows, .ref o_turns, .ref o_amounts, .ref o_drank, .long vo_spilt, .ref o_takes, .ref o_leans, .ref o_would, .int vo_done, .int vo_seedNow, .int vo_keptTower, .int vo_keptPoured, .long vo_keptSpilt, .ref o_keptAmounts, .ref o_keptDrank, .ref o_keptTurns, .long x4])), (o_rows, .inl (cI, 54, .inl vo_rows)), (o_turns, .inl (cI, 9, .inl vo_turns)), (o_amounts, .inl (cJ, 9, .inr (.inl vo_amounts))), (o_drank, .inl (cJ, 9, .inr (.inl vo_drank)))]) (w1 := []) (va_runS (As := [.long (vo_amounts p1.toNatClampNeg), .int (0 : Int32)]) (rest := [.ref o]) ⟨hx, hb, hml, hown, hts⟩ (k_X6_term l dC dI cI cJ cC H.size (vo_amounts p1.toNatClampNeg) (0 : Int32) r8 ev_7) (va_cwS 2 hts gX6_sayGlass_X6_term rfl rfl rfl (by decide +kernel) ⟨Nat.le_of_ble_eq_true rfl, Nat.le_of_ble_eq_true rfl⟩) (zz_preS [] hK hP hD rfl rfl) rfl rfl hl.1 rfl (lv_room (Nat.le_of_ble_eq_true rfl)) dX6_sayGlass_33 ⟨Nat.zero_le _, Nat.zero_le _⟩) hP hD hS hA rfl rfl rfl (by decide) (fun ok_8 H locs hP hD hS => ?_)
    have hP : va_P (dC, dI) vwCl [(o, .inr (6, [.ref o_page, .int vo_pageMany, .int vo_readMany, .int vo_state, .int vo_readMost, .ref o_readRows, .int vo_glasses, .int vo_towersRead, .int vo_poured, .ref o_rows, .ref o_turns, .ref o_amounts, .ref o_drank, .long vo_spilt, .ref o_takes, .ref o_leans, .ref o_would, .int vo_done, .int vo_seedNow, .int vo_keptTower, .int vo_keptPoured, .long vo_keptSpilt, .ref o_keptAmounts, .ref o_keptDrank, .ref o_keptTurns, .long x4])), (o_rows, .inl (cI, 54, .inl vo_rows)), (o_turns, .inl (cI, 9, .inl vo_turns)), (o_amounts, .inl (cJ, 9, .inr (.inl vo_amounts))), (o_drank, .inl (cJ, 9, .inr (.inl vo_drank)))] H := hP
    have hD : va_D A [(o, .inr (6, [.ref o_page, .int vo_pageMany, .int vo_readMany, .int vo_state, .int vo_readMost, .ref o_readRows, .int vo_glasses, .int vo_towersRead, .int vo_poured, .ref o_rows, .ref o_turns, .ref o_amounts, .ref o_drank, .long vo_spilt, .ref o_takes, .ref o_leans, .ref o_would, .int vo_done, .int vo_seedNow, .int vo_keptTower, .int vo_keptPoured, .long vo_keptSpilt, .ref o_keptAmounts, .ref o_keptDrank, .ref o_keptTurns, .long x4])), (o_rows, .inl (cI, 54, .inl vo_rows)), (o_turns, .inl (cI, 9, .inl vo_turns)), (o_amounts, .inl (cJ, 9, .inr (.inl vo_amounts))), (o_drank, .inl (cJ, 9, .inr (.inl vo_drank)))] := hD
    obtain ⟨u9, ev_9⟩ : ∃ x0, (m_X6_say x4 r8) = x0 := ⟨_, rfl⟩
    replace hT := cut_n ev_9 hT
    refine zz_cv [0] [1, 2, 3, 4] (wr := [(o_rows, .inl (cI, 54, .inl vo_rows)), (o_turns, .inl (cI, 9, .inl vo_turns)), (o_amounts, .inl (cJ, 9, .inr (.inl vo_amounts))), (o_drank, .inl (cJ, 9, .inr (.inl vo_drank)))]) (w1 := [(o, .inr (6, [.ref o_page, .int vo_pageMany, .int vo_readMany, .int vo_state, .int vo_readMost, .ref o_readRows, .int vo_glasses, .int vo_towersRead, .int vo_poured, .ref o_rows, .ref o_turns, .ref o_amounts, .ref o_drank, .long vo_spilt, .ref o_takes, .ref o_leans, .ref o_would, .int vo_done, .int vo_seedNow, .int vo_keptTower, .int vo_keptPoured, .long vo_keptSpilt, .ref o_keptAmounts, .ref o_keptDrank, .ref o_keptTurns, .long u9]))]) (va_runV (As := [.long r8]) (rest := []) ⟨hx, hb, hml, hown, hts⟩ (k_X6_say l dC dI cI cJ cC H.size o o_page o_readRows o_rows o_turns o_amounts o_drank o_takes o_leans o_would o_keptAmounts o_keptDrank o_keptTurns vo_pageMany vo_readMany vo_state vo_readMost vo_glasses vo_towersRead vo_poured vo_spilt vo_done vo_seedNow vo_keptTower vo_keptPoured vo_keptSpilt x4 r8 u9 ev_9) (cwV 1 hts gX6_sayGlass_X6_say rfl rfl rfl (by decide +kernel) ⟨Nat.le_of_ble_eq_true rfl, Nat.le_of_ble_eq_true rfl⟩) (zz_preV [0] hK hP hD rfl rfl (va_recv hK hP (ci := 6) (q0 := 0) rfl rfl)) rfl rfl hl.1 rfl (lv_room (Nat.le_of_ble_eq_true rfl)) dX6_sayGlass_36 ⟨Nat.zero_le _, Nat.zero_le _⟩) hP hD hS hA rfl rfl rfl (by decide) (fun ok_10 H locs hP hD hS => ?_)
    have hP : va_P (dC, dI) vwCl [(o_rows, .inl (cI, 54, .inl vo_rows)), (o_turns, .inl (cI, 9, .inl vo_turns)), (o_amounts, .inl (cJ, 9, .inr (.inl vo_amounts))), (o_drank, .inl (cJ, 9, .inr (.inl vo_drank))), (o, .inr (6, [.ref o_page, .int vo_pageMany, .int vo_readMany, .int vo_state, .int vo_readMost, .ref o_readRows, .int vo_glasses, .int vo_towersRead, .int vo_poured, .ref o_rows, .ref o_turns, .ref o_amounts, .ref o_drank, .long vo_spilt, .ref o_takes, .ref o_leans, .ref o_would, .int vo_done, .int vo_seedNow, .int vo_keptTower, .int vo_keptPoured, .long vo_keptSpilt, .ref o_keptAmounts, .ref o_keptDrank, .ref o_keptTurns, .long u9]))] H := hP
    have hD : va_D A [(o_rows, .inl (cI, 54, .inl vo_rows)), (o_turns, .inl (cI, 9, .inl vo_turns)), (o_amounts, .inl (cJ, 9, .inr (.inl vo_amounts))), (o_drank, .inl (cJ, 9, .inr (.inl vo_drank))), (o, .inr (6, [.ref o_page, .int vo_pageMany, .int vo_readMany, .int vo_state, .int vo_readMost, .ref o_readRows, .int vo_glasses, .int vo_towersRead, .int vo_poured, .ref o_rows, .ref o_turns, .ref o_amounts, .ref o_drank, .long vo_spilt, .ref o_takes, .ref o_leans, .ref o_would, .int vo_done, .int vo_seedNow, .int vo_keptTower, .int vo_keptPoured, .long vo_keptSpilt, .ref o_keptAmounts, .ref o_keptDrank, .ref o_keptTurns, .long u9]))] := hD
    refine lv_aload_n hx hb dX6_sayGlass_39 rfl (lv_at hl 0 rfl) ?_
    refine lv_aload_n hx hb dX6_sayGlass_40 rfl (lv_at hl 0 rfl) ?_
    refine va_get (D := (dC, dI)) (ci := 6) (v := .ref o_amounts) (C := RX6) (T := TX6) (N := 26) hx hb hts hwX6 hown hK hP 4 rfl rfl 11 (by decide) hf_22 (fun _ h9 => h9) rfl dX6_sayGlass_41 ?_
    refine lv_iload_n hx hb dX6_sayGlass_44 rfl (lv_at hl 1 rfl) ?_
    have h_11 : vp_in p1 9 := zin (by omega) (by omega)
    refine va_lald hx hb hK hP 2 1 rfl rfl h_11 dX6_sayGlass_45 ?_
    refine lv_iconst (v := (1 : Int32)) hx hb dX6_sayGlass_46 (by decide) ?_
    obtain ⟨r10, ev_12⟩ : ∃ x0, (m_X6_term (vo_amounts p1.toNatClampNeg) (1 : Int32)) = x0 := ⟨_, rfl⟩
    replace hT := cut_n ev_12 hT
    refine zz_cl [] [0, 1, 2, 3, 4] (wr := [(o_rows, .inl (cI, 54, .inl vo_rows)), (o_turns, .inl (cI, 9, .inl vo_turns)), (o_amounts, .inl (cJ, 9, .inr (.inl vo_amounts))), (o_drank, .inl (cJ, 9, .inr (.inl vo_drank))), (o, .inr (6, [.ref o_page, .int vo_pageMany, .int vo_readMany, .int vo_state, .int vo_readMost, .ref o_readRows, .int vo_glasses, .int vo_towersRead, .int vo_poured, .ref o_rows, .ref o_turns, .ref o_amounts, .ref o_drank, .long vo_spilt, .ref o_takes, .ref o_leans, .ref o_would, .int vo_done, .int vo_seedNow, .int vo_keptTower, .int vo_keptPoured, .long vo_keptSpilt, .ref o_keptAmounts, .ref o_keptDrank, .ref o_keptTurns, .long u9]))]) (w1 := []) (va_runS (As := [.long (vo_amounts p1.toNatClampNeg), .int (1 : Int32)]) (rest := [.ref o]) ⟨hx, hb, hml, hown, hts⟩ (k_X6_term l dC dI cI cJ cC H.size (vo_amounts p1.toNatClampNeg) (1 : Int32) r10 ev_12) (va_cwS 2 hts gX6_sayGlass_X6_term rfl rfl rfl (by decide +kernel) ⟨Nat.le_of_ble_eq_true rfl, Nat.le_of_ble_eq_true rfl⟩) (zz_preS [] hK hP hD rfl rfl) rfl rfl hl.1 rfl (lv_room (Nat.le_of_ble_eq_true rfl)) dX6_sayGlass_47 ⟨Nat.zero_le _, Nat.zero_le _⟩) hP hD hS hA rfl rfl rfl (by decide) (fun ok_13 H locs hP hD hS => ?_)
    have hP : va_P (dC, dI) vwCl [(o_rows, .inl (cI, 54, .inl vo_rows)), (o_turns, .inl (cI, 9, .inl vo_turns)), (o_amounts, .inl (cJ, 9, .inr (.inl vo_amounts))), (o_drank, .inl (cJ, 9, .inr (.inl vo_drank))), (o, .inr (6, [.ref o_page, .int vo_pageMany, .int vo_readMany, .int vo_state, .int vo_readMost, .ref o_readRows, .int vo_glasses, .int vo_towersRead, .int vo_poured, .ref o_rows, .ref o_turns, .ref o_amounts, .ref o_drank, .long vo_spilt, .ref o_takes, .ref o_leans, .ref o_would, .int vo_done, .int vo_seedNow, .int vo_keptTower, .int vo_keptPoured, .long vo_keptSpilt, .ref o_keptAmounts, .ref o_keptDrank, .ref o_keptTurns, .long u9]))] H := hP
    have hD : va_D A [(o_rows, .inl (cI, 54, .inl vo_rows)), (o_turns, .inl (cI, 9, .inl vo_turns)), (o_amounts, .inl (cJ, 9, .inr (.inl vo_amounts))), (o_drank, .inl (cJ, 9, .inr (.inl vo_drank))), (o, .inr (6, [.ref o_page, .int vo_pageMany, .int vo_readMany, .int vo_state, .int vo_readMost, .ref o_readRows, .int vo_glasses, .int vo_towersRead, .int vo_poured, .ref o_rows, .ref o_turns, .ref o_amounts, .ref o_drank, .long vo_spilt, .ref o_takes, .ref o_leans, .ref o_would, .int vo_done, .int vo_seedNow, .int vo_keptTower, .int vo_keptPoured, .long vo_keptSpilt, .ref o_keptAmounts, .ref o_keptDrank, .ref o_keptTurns, .long u9]))] := hD
    obtain ⟨u11, ev_14⟩ : ∃ x0, (m_X6_say u9 r10) = x0 := ⟨_, rfl⟩
    replace hT := cut_n ev_14 hT
    refine zz_cv [4] [0, 1, 2, 3] (wr := [(o_rows, .inl (cI, 54, .inl vo_rows)), (o_turns, .inl (cI, 9, .inl vo_turns)), (o_amounts, .inl (cJ, 9, .inr (.inl vo_amounts))), (o_drank, .inl (cJ, 9, .inr (.inl vo_drank)))]) (w1 := [(o, .inr (6, [.ref o_page, .int vo_pageMany, .int vo_readMany, .int vo_state, .int vo_readMost, .ref o_readRows, .int vo_glasses, .int vo_towersRead, .int vo_poured, .ref o_rows, .ref o_turns, .ref o_amounts, .ref o_drank, .long vo_spilt, .ref o_takes, .ref o_leans, .ref o_would, .int vo_done, .int vo_seedNow, .int vo_keptTower, .int vo_keptPoured, .long vo_keptSpilt, .ref o_keptAmounts, .ref o_keptDrank, .ref o_keptTurns, .long u11]))]) (va_runV (As := [.long r10]) (rest := []) ⟨hx, hb, hml, hown, hts⟩ (k_X6_say l dC dI cI cJ cC H.size o o_page o_readRows o_rows o_turns o_amounts o_drank o_takes o_leans o_would o_keptAmounts o_keptDrank o_keptTurns vo_pageMany vo_readMany vo_state vo_readMost vo_glasses vo_towersRead vo_poured vo_spilt vo_done vo_seedNow vo_keptTower vo_keptPoured vo_keptSpilt u9 r10 u11 ev_14) (cwV 1 hts gX6_sayGlass_X6_say rfl rfl rfl (by decide +kernel) ⟨Nat.le_of_ble_eq_true rfl, Nat.le_of_ble_eq_true rfl⟩) (zz_preV [4] hK hP hD rfl rfl (va_recv hK hP (ci := 6) (q0 := 4) rfl rfl)) rfl rfl hl.1 rfl (lv_room (Nat.le_of_ble_eq_true rfl)) dX6_sayGlass_50 ⟨Nat.zero_le _, Nat.zero_le _⟩) hP hD hS hA rfl rfl rfl (by decide) (fun ok_15 H locs hP hD hS => ?_)
    have hP : va_P (dC, dI) vwCl [(o_rows, .inl (cI, 54, .inl vo_rows)), (o_turns, .inl (cI, 9, .inl vo_turns)), (o_amounts, .inl (cJ, 9, .inr (.inl vo_amounts))), (o_drank, .inl (cJ, 9, .inr (.inl vo_drank))), (o, .inr (6, [.ref o_page, .int vo_pageMany, .int vo_readMany, .int vo_state, .int vo_readMost, .ref o_readRows, .int vo_glasses, .int vo_towersRead, .int vo_poured, .ref o_rows, .ref o_turns, .ref o_amounts, .ref o_drank, .long vo_spilt, .ref o_takes, .ref o_leans, .ref o_would, .int vo_done, .int vo_seedNow, .int vo_keptTower, .int vo_keptPoured, .long vo_keptSpilt, .ref o_keptAmounts, .ref o_keptDrank, .ref o_keptTurns, .long u11]))] H := hP
    have hD : va_D A [(o_rows, .inl (cI, 54, .inl vo_rows)), (o_turns, .inl (cI, 9, .inl vo_turns)), (o_amounts, .inl (cJ, 9, .inr (.inl vo_amounts))), (o_drank, .inl (cJ, 9, .inr (.inl vo_drank))), (o, .inr (6, [.ref o_page, .int vo_pageMany, .int vo_readMany, .int vo_state, .int vo_readMost, .ref o_readRows, .int vo_glasses, .int vo_towersRead, .int vo_poured, .ref o_rows, .ref o_turns, .ref o_amounts, .ref o_drank, .long vo_spilt, .ref o_takes, .ref o_leans, .ref o_would, .int vo_done, .int vo_seedNow, .int vo_keptTower, .int vo_keptPoured, .long vo_keptSpilt, .ref o_keptAmounts, .ref o_keptDrank, .ref o_keptTurns, .long u11]))] := hD
    refine lv_aload_n hx hb dX6_sayGlass_53 rfl (lv_at hl 0 rfl) ?_
    refine lv_aload_n hx hb dX6_sayGlass_54 rfl (lv_at hl 0 rfl) ?_
    refine va_get (D := (dC, dI)) (ci := 6) (v := .ref o_drank) (C := RX6) (T := TX6) (N := 26) hx hb hts hwX6 hown hK hP 4 rfl rfl 12 (by decide) hf_26 (fun _ h9 => h9) rfl dX6_sayGlass_55 ?_
    refine lv_iload_n hx hb dX6_sayGlass_58 rfl (lv_at hl 1 rfl) ?_
    have h_16 : vp_in p1 9 := zin (by omega) (by omega)
    refine va_lald hx hb hK hP 3 1 rfl rfl h_16 dX6_sayGlass_59 ?_
    refine lv_iconst (v := (0 : Int32)) hx hb dX6_sayGlass_60 (by decide) ?_
    obtain ⟨r12, ev_17⟩ : ∃ x0, (m_X6_term (vo_drank p1.toNatClampNeg) (0 : Int32)) = x0 := ⟨_, rfl⟩
    replace hT := cut_n ev_17 hT
    refine zz_cl [] [0, 1, 2, 3, 4] (wr := [(o_rows, .inl (cI, 54, .inl vo_rows)), (o_turns, .inl (cI, 9, .inl vo_turns)), (o_amounts, .inl (cJ, 9, .inr (.inl vo_amounts))), (o_drank, .inl (cJ, 9, .inr (.inl vo_drank))), (o, .inr (6, [.ref o_page, .int vo_pageMany, .int vo_readMany, .int vo_state, .int vo_readMost, .ref o_readRows, .int vo_glasses, .int vo_towersRead, .int vo_poured, .ref o_rows, .ref o_turns, .ref o_amounts, .ref o_drank, .long vo_spilt, .ref o_takes, .ref o_leans, .ref o_would, .int vo_done, .int vo_seedNow, .int vo_keptTower, .int vo_keptPoured, .long vo_keptSpilt, .ref o_keptAmounts, .ref o_keptDrank, .ref o_keptTurns, .long u11]))]) (w1 := []) (va_runS (As := [.long (vo_drank p1.toNatClampNeg), .int (0 : Int32)]) (rest := [.ref o]) ⟨hx, hb, hml, hown, hts⟩ (k_X6_term l dC dI cI cJ cC H.size (vo_drank p1.toNatClampNeg) (0 : Int32) r12 ev_17) (va_cwS 2 hts gX6_sayGlass_X6_term rfl rfl rfl (by decide +kernel) ⟨Nat.le_of_ble_eq_true rfl, Nat.le_of_ble_eq_true rfl⟩) (zz_preS [] hK hP hD rfl rfl) rfl rfl hl.1 rfl (lv_room (Nat.le_of_ble_eq_true rfl)) dX6_sayGlass_61 ⟨Nat.zero_le _, Nat.zero_le _⟩) hP hD hS hA rfl rfl rfl (by decide) (fun ok_18 H locs hP hD hS => ?_)
    have hP : va_P (dC, dI) vwCl [(o_rows, .inl (cI, 54, .inl vo_rows)), (o_turns, .inl (cI, 9, .inl vo_turns)), (o_amounts, .inl (cJ, 9, .inr (.inl vo_amounts))), (o_drank, .inl (cJ, 9, .inr (.inl vo_drank))), (o, .inr (6, [.ref o_page, .int vo_pageMany, .int vo_readMany, .int vo_state, .int vo_readMost, .ref o_readRows, .int vo_glasses, .int vo_towersRead, .int vo_poured, .ref o_rows, .ref o_turns, .ref o_amounts, .ref o_drank, .long vo_spilt, .ref o_takes, .ref o_leans, .ref o_would, .int vo_done, .int vo_seedNow, .int vo_keptTower, .int vo_keptPoured, .long vo_keptSpilt, .ref o_keptAmounts, .ref o_keptDrank, .ref o_keptTurns, .long u11]))] H := hP
    have hD : va_D A [(o_rows, .inl (cI, 54, .inl vo_rows)), (o_turns, .inl (cI, 9, .inl vo_turns)), (o_amounts, .inl (cJ, 9, .inr (.inl vo_amounts))), (o_drank, .inl (cJ, 9, .inr (.inl vo_drank))), (o, .inr (6, [.ref o_page, .int vo_pageMany, .int vo_readMany, .int vo_state, .int vo_readMost, .ref o_readRows, .int vo_glasses, .int vo_towersRead, .int vo_poured, .ref o_rows, .ref o_turns, .ref o_amounts, .ref o_drank, .long vo_spilt, .ref o_takes, .ref o_leans, .ref o_would, .int vo_done, .int vo_seedNow, .int vo_keptTower, .int vo_keptPoured, .long vo_keptSpilt, .ref o_keptAmounts, .ref o_keptDrank, .ref o_keptTurns, .long u11]))] := hD
    obtain ⟨u13, ev_19⟩ : ∃ x0, (m_X6_say u11 r12) = x0 := ⟨_, rfl⟩
    replace hT := cut_n ev_19 hT
    refine zz_cv [4] [0, 1, 2, 3] (wr := [(o_rows, .inl (cI, 54, .inl vo_rows)), (o_turns, .inl (cI, 9, .inl vo_turns)), (o_amounts, .inl (cJ, 9, .inr (.inl vo_amounts))), (o_drank, .inl (cJ, 9, .inr (.inl vo_drank)))]) (w1 := [(o, .inr (6, [.ref o_page, .int vo_pageMany, .int vo_readMany, .int vo_state, .int vo_readMost, .ref o_readRows, .int vo_glasses, .int vo_towersRead, .int vo_poured, .ref o_rows, .ref o_turns, .ref o_amounts, .ref o_drank, .long vo_spilt, .ref o_takes, .ref o_leans, .ref o_would, .int vo_done, .int vo_seedNow, .int vo_keptTower, .int vo_keptPoured, .long vo_keptSpilt, .ref o_keptAmounts, .ref o_keptDrank, .ref o_keptTurns, .long u13]))]) (va_runV (As := [.long r12]) (rest := []) ⟨hx, hb, hml, hown, hts⟩ (k_X6_say l dC dI cI cJ cC H.size o o_page o_readRows o_rows o_turns o_amounts o_drank o_takes o_leans o_would o_keptAmounts o_keptDrank o_keptTurns vo_pageMany vo_readMany vo_state vo_readMost vo_glasses vo_towersRead vo_poured vo_spilt vo_done vo_seedNow vo_keptTower vo_keptPoured vo_keptSpilt u11 r12 u13 ev_19) (cwV 1 hts gX6_sayGlass_X6_say rfl rfl rfl (by decide +kernel) ⟨Nat.le_of_ble_eq_true rfl, Nat.le_of_ble_eq_true rfl⟩) (zz_preV [4] hK hP hD rfl rfl (va_recv hK hP (ci := 6) (q0 := 4) rfl rfl)) rfl rfl hl.1 rfl (lv_room (Nat.le_of_ble_eq_true rfl)) dX6_sayGlass_64 ⟨Nat.zero_le _, Nat.zero_le _⟩) hP hD hS hA rfl rfl rfl (by decide) (fun ok_20 H locs hP hD hS => ?_)
    have hP : va_P (dC, dI) vwCl [(o_rows, .inl (cI, 54, .inl vo_rows)), (o_turns, .inl (cI, 9, .inl vo_turns)), (o_amounts, .inl (cJ, 9, .inr (.inl vo_amounts))), (o_drank, .inl (cJ, 9, .inr (.inl vo_drank))), (o, .inr (6, [.ref o_page, .int vo_pageMany, .int vo_readMany, .int vo_state, .int vo_readMost, .ref o_readRows, .int vo_glasses, .int vo_towersRead, .int vo_poured, .ref o_rows, .ref o_turns, .ref o_amounts, .ref o_drank, .long vo_spilt, .ref o_takes, .ref o_leans, .ref o_would, .int vo_done, .int vo_seedNow, .int vo_keptTower, .int vo_keptPoured, .long vo_keptSpilt, .ref o_keptAmounts, .ref o_keptDrank, .ref o_keptTurns, .long u13]))] H := hP
    have hD : va_D A [(o_rows, .inl (cI, 54, .inl vo_rows)), (o_turns, .inl (cI, 9, .inl vo_turns)), (o_amounts, .inl (cJ, 9, .inr (.inl vo_amounts))), (o_drank, .inl (cJ, 9, .inr (.inl vo_drank))), (o, .inr (6, [.ref o_page, .int vo_pageMany, .int vo_readMany, .int vo_state, .int vo_readMost, .ref o_readRows, .int vo_glasses, .int vo_towersRead, .int vo_poured, .ref o_rows, .ref o_turns, .ref o_amounts, .ref o_drank, .long vo_spilt, .ref o_takes, .ref o_leans, .ref o_would, .int vo_done, .int vo_seedNow, .int vo_keptTower, .int vo_keptPoured, .long vo_keptSpilt, .ref o_keptAmounts, .ref o_keptDrank, .ref o_keptTurns, .long u13]))] := hD
    refine lv_aload_n hx hb dX6_sayGlass_67 rfl (lv_at hl 0 rfl) ?_
    refine lv_aload_n hx hb dX6_sayGlass_68 rfl (lv_at hl 0 rfl) ?_
    refine va_get (D := (dC, dI)) (ci := 6) (v := .ref o_drank) (C := RX6) (T := TX6) (N := 26) hx hb hts hwX6 hown hK hP 4 rfl rfl 12 (by decide) hf_26 (fun _ h9 => h9) rfl dX6_sayGlass_69 ?_
    refine lv_iload_n hx hb dX6_sayGlass_72 rfl (lv_at hl 1 rfl) ?_
    have h_21 : vp_in p1 9 := zin (by omega) (by omega)
    refine va_lald hx hb hK hP 3 1 rfl rfl h_21 dX6_sayGlass_73 ?_
    refine lv_iconst (v := (1 : Int32)) hx hb dX6_sayGlass_74 (by decide) ?_
    obtain ⟨r14, ev_22⟩ : ∃ x0, (m_X6_term (vo_drank p1.toNatClampNeg) (1 : Int32)) = x0 := ⟨_, rfl⟩
    replace hT := cut_n ev_22 hT
    refine zz_cl [] [0, 1, 2, 3, 4] (wr := [(o_rows, .inl (cI, 54, .inl vo_rows)), (o_turns, .inl (cI, 9, .inl vo_turns)), (o_amounts, .inl (cJ, 9, .inr (.inl vo_amounts))), (o_drank, .inl (cJ, 9, .inr (.inl vo_drank))), (o, .inr (6, [.ref o_page, .int vo_pageMany, .int vo_readMany, .int vo_state, .int vo_readMost, .ref o_readRows, .int vo_glasses, .int vo_towersRead, .int vo_poured, .ref o_rows, .ref o_turns, .ref o_amounts, .ref o_drank, .long vo_spilt, .ref o_takes, .ref o_leans, .ref o_would, .int vo_done, .int vo_seedNow, .int vo_keptTower, .int vo_keptPoured, .long vo_keptSpilt, .ref o_keptAmounts, .ref o_keptDrank, .ref o_keptTurns, .long u13]))]) (w1 := []) (va_runS (As := [.long (vo_drank p1.toNatClampNeg), .int (1 : Int32)]) (rest := [.ref o]) ⟨hx, hb, hml, hown, hts⟩ (k_X6_term l dC dI cI cJ cC H.size (vo_drank p1.toNatClampNeg) (1 : Int32) r14 ev_22) (va_cwS 2 hts gX6_sayGlass_X6_term rfl rfl rfl (by decide +kernel) ⟨Nat.le_of_ble_eq_true rfl, Nat.le_of_ble_eq_true rfl⟩) (zz_preS [] hK hP hD rfl rfl) rfl rfl hl.1 rfl (lv_room (Nat.le_of_ble_eq_true rfl)) dX6_sayGlass_75 ⟨Nat.zero_le _, Nat.zero_le _⟩) hP hD hS hA rfl rfl rfl (by decide) (fun ok_23 H locs hP hD hS => ?_)
    have hP : va_P (dC, dI) vwCl [(o_rows, .inl (cI, 54, .inl vo_rows)), (o_turns, .inl (cI, 9, .inl vo_turns)), (o_amounts, .inl (cJ, 9, .inr (.inl vo_amounts))), (o_drank, .inl (cJ, 9, .inr (.inl vo_drank))), (o, .inr (6, [.ref o_page, .int vo_pageMany, .int vo_readMany, .int vo_state, .int vo_readMost, .ref o_readRows, .int vo_glasses, .int vo_towersRead, .int vo_poured, .ref o_rows, .ref o_turns, .ref o_amounts, .ref o_drank, .long vo_spilt, .ref o_takes, .ref o_leans, .ref o_would, .int vo_done, .int vo_seedNow, .int vo_keptTower, .int vo_keptPoured, .long vo_keptSpilt, .ref o_keptAmounts, .ref o_keptDrank, .ref o_keptTurns, .long u13]))] H := hP
    have hD : va_D A [(o_rows, .inl (cI, 54, .inl vo_rows)), (o_turns, .inl (cI, 9, .inl vo_turns)), (o_amounts, .inl (cJ, 9, .inr (.inl vo_amounts))), (o_drank, .inl (cJ, 9, .inr (.inl vo_drank))), (o, .inr (6, [.ref o_page, .int vo_pageMany, .int vo_readMany, .int vo_state, .int vo_readMost, .ref o_readRows, .int vo_glasses, .int vo_towersRead, .int vo_poured, .ref o_rows, .ref o_turns, .ref o_amounts, .ref o_drank, .long vo_spilt, .ref o_takes, .ref o_leans, .ref o_would, .int vo_done, .int vo_seedNow, .int vo_keptTower, .int vo_keptPoured, .long vo_keptSpilt, .ref o_keptAmounts, .ref o_keptDrank, .ref o_keptTurns, .long u13]))] := hD
    obtain ⟨u15, ev_24⟩ : ∃ x0, (m_X6_say u13 r14) = x0 := ⟨_, rfl⟩
    replace hT := cut_n ev_24 hT
    refine zz_cv [4] [0, 1, 2, 3] (wr := [(o_rows, .inl (cI, 54, .inl vo_rows)), (o_turns, .inl (cI, 9, .inl vo_turns)), (o_amounts, .inl (cJ, 9, .inr (.inl vo_amounts))), (o_drank, .inl (cJ, 9, .inr (.inl vo_drank)))]) (w1 := [(o, .inr (6, [.ref o_page, .int vo_pageMany, .int vo_readMany, .int vo_state, .int vo_readMost, .ref o_readRows, .int vo_glasses, .int vo_towersRead, .int vo_poured, .ref o_rows, .ref o_turns, .ref o_amounts, .ref o_drank, .long vo_spilt, .ref o_takes, .ref o_leans, .ref o_would, .int vo_done, .int vo_seedNow, .int vo_keptTower, .int vo_keptPoured, .long vo_keptSpilt, .ref o_keptAmounts, .ref o_keptDrank, .ref o_keptTurns, .long u15]))]) (va_runV (As := [.long r14]) (rest := []) ⟨hx, hb, hml, hown, hts⟩ (k_X6_say l dC dI cI cJ cC H.size o o_page o_readRows o_rows o_turns o_amounts o_drank o_takes o_leans o_would o_keptAmounts o_keptDrank o_keptTurns vo_pageMany vo_readMany vo_state vo_readMost vo_glasses vo_towersRead vo_poured vo_spilt vo_done vo_seedNow vo_keptTower vo_keptPoured vo_keptSpilt u13 r14 u15 ev_24) (cwV 1 hts gX6_sayGlass_X6_say rfl rfl rfl (by decide +kernel) ⟨Nat.le_of_ble_eq_true rfl, Nat.le_of_ble_eq_true rfl⟩) (zz_preV [4] hK hP hD rfl rfl (va_recv hK hP (ci := 6) (q0 := 4) rfl rfl)) rfl rfl hl.1 rfl (lv_room (Nat.le_of_ble_eq_true rfl)) dX6_sayGlass_78 ⟨Nat.zero_le _, Nat.zero_le _⟩) hP hD hS hA rfl rfl rfl (by decide) (fun ok_25 H locs hP hD hS => ?_)
    have hP : va_P (dC, dI) vwCl [(o_rows, .inl (cI, 54, .inl vo_rows)), (o_turns, .inl (cI, 9, .inl vo_turns)), (o_amounts, .inl (cJ, 9, .inr (.inl vo_amounts))), (o_drank, .inl (cJ, 9, .inr (.inl vo_drank))), (o, .inr (6, [.ref o_page, .int vo_pageMany, .int vo_readMany, .int vo_state, .int vo_readMost, .ref o_readRows, .int vo_glasses, .int vo_towersRead, .int vo_poured, .ref o_rows, .ref o_turns, .ref o_amounts, .ref o_drank, .long vo_spilt, .ref o_takes, .ref o_leans, .ref o_would, .int vo_done, .int vo_seedNow, .int vo_keptTower, .int vo_keptPoured, .long vo_keptSpilt, .ref o_keptAmounts, .ref o_keptDrank, .ref o_keptTurns, .long u15]))] H := hP
    have hD : va_D A [(o_rows, .inl (cI, 54, .inl vo_rows)), (o_turns, .inl (cI, 9, .inl vo_turns)), (o_amounts, .inl (cJ, 9, .inr (.inl vo_amounts))), (o_drank, .inl (cJ, 9, .inr (.inl vo_drank))), (o, .inr (6, [.ref o_page, .int vo_pageMany, .int vo_readMany, .int vo_state, .int vo_readMost, .ref o_readRows, .int vo_glasses, .int vo_towersRead, .int vo_poured, .ref o_rows, .ref o_turns, .ref o_amounts, .ref o_drank, .long vo_spilt, .ref o_takes, .ref o_leans, .ref o_would, .int vo_done, .int vo_seedNow, .int vo_keptTower, .int vo_keptPoured, .long vo_keptSpilt, .ref o_keptAmounts, .ref o_keptDrank, .ref o_keptTurns, .long u15]))] := hD
    have hP9 := hP
    have hD9 := hD
    have hS9 := hS
    have hT : u15 = qo_hash := hT
    subst hT
    subst hQ
    exact zz_vret hx hb hr [4, 0, 1, 2, 3] hK hP9 hD9 hS9 rfl rfl trivial hlocks dX6_sayGlass_81
  · rintro ⟨b1, b2⟩ H locs ls ⟨i1, j1, hm, -⟩
    try dsimp only at *
    omega
  · intro k2 hex2 ih2
    rintro ⟨b1, b2⟩ H locs ls ⟨i1, j1, hm2, hT, hP, hD, hS, hl⟩
    have hP : va_P (dC, dI) vwCl [(o, .inr (6, [.ref o_page, .int vo_pageMany, .int vo_readMany, .int vo_state, .int vo_readMost, .ref o_readRows, .int vo_glasses, .int vo_towersRead, .int vo_poured, .ref o_rows, .ref o_turns, .ref o_amounts, .ref o_drank, .long vo_spilt, .ref o_takes, .ref o_leans, .ref o_would, .int vo_done, .int vo_seedNow, .int vo_keptTower, .int vo_keptPoured, .long vo_keptSpilt, .ref o_keptAmounts, .ref o_keptDrank, .ref o_keptTurns, .long b2])), (o_rows, .inl (cI, 54, .inl vo_rows)), (o_turns, .inl (cI, 9, .inl vo_turns)), (o_amounts, .inl (cJ, 9, .inr (.inl vo_amounts))), (o_drank, .inl (cJ, 9, .inr (.inl vo_drank)))] H := hP
    have hD : va_D A [(o, .inr (6, [.ref o_page, .int vo_pageMany, .int vo_readMany, .int vo_state, .int vo_readMost, .ref o_readRows, .int vo_glasses, .int vo_towersRead, .int vo_poured, .ref o_rows, .ref o_turns, .ref o_amounts, .ref o_drank, .long vo_spilt, .ref o_takes, .ref o_leans, .ref o_would, .int vo_done, .int vo_seedNow, .int vo_keptTower, .int vo_keptPoured, .long vo_keptSpilt, .ref o_keptAmounts, .ref o_keptDrank, .ref o_keptTurns, .long b2])), (o_rows, .inl (cI, 54, .inl vo_rows)), (o_turns, .inl (cI, 9, .inl vo_turns)), (o_amounts, .inl (cJ, 9, .inr (.inl vo_amounts))), (o_drank, .inl (cJ, 9, .inr (.inl vo_drank)))] := hD
    have hl : lv_has ls 3 [(2, .int b1), (0, .ref o), (1, .int p1)] := hl
    have hT : lp_X6_sayGlass_2 (rs_X6_sayGlass_2 vo_amounts p1 vo_drank) vo_rows vo_turns vo_amounts p1 (k2 + 1) b1 b2 = qo_hash := hT
    have i1 : 0 ≤ b1.toInt := i1
    have j1 : b1.toInt ≤ 9 := j1
    have hm2 : 9 - b1.toInt < (((k2 + 1) : Nat) : Int) := hm2
    try simp only [Int.natCast_add, Int.natCast_one, Nat.cast_add, Nat.cast_one] at hm2
    refine lv_iload_n hx hb dX6_sayGlass_2 rfl (lv_at hl 0 rfl) ?_
    refine lv_bipush (v := (9 : Int32)) hx hb dX6_sayGlass_3 (by decide) ?_
    refine lv_icmp_ge (tgt := 25) hx hb dX6_sayGlass_5 (by decide) (fun c_1 => ?_) (fun c_1 => ?_)
    · replace hT := cutT c_1 hT
      have g_27 := zleT (by decide : ((9 : Int32)).toInt = 9) (rfl : (b1).toInt = _) c_1
      exact hex2 (b1, b2) _ _ _ ⟨(by omega : 0 ≤ b1.toInt), (by omega : b1.toInt ≤ 9), hT, hP.sub [0, 1, 2, 3, 4] rfl, hD.sub [0, 1, 2, 3, 4] rfl rfl, hS, lv_sub hl [1, 2] rfl⟩
    · replace hT := cutF c_1 hT
      have g_28 := zleF (by decide : ((9 : Int32)).toInt = 9) (rfl : (b1).toInt = _) c_1
      refine lv_aload_n hx hb dX6_sayGlass_8 rfl (lv_at hl 1 rfl) ?_
      refine lv_aload_n hx hb dX6_sayGlass_9 rfl (lv_at hl 1 rfl) ?_
      refine lv_iload_n hx hb dX6_sayGlass_10 rfl (lv_at hl 2 rfl) ?_
      refine lv_iload_n hx hb dX6_sayGlass_11 rfl (lv_at hl 0 rfl) ?_
      obtain ⟨r5, ev_2⟩ : ∃ x0, (m_X6_tellGlass vo_rows vo_turns vo_amounts p1 b1) = x0 := ⟨_, rfl⟩
      replace hT := cut_n ev_2 hT
      refine zz_ci [0, 1, 2, 3] [4] (wr := [(o_drank, .inl (cJ, 9, .inr (.inl vo_drank)))]) (w1 := [(o, .inr (6, [.ref o_page, .int vo_pageMany, .int vo_readMany, .int vo_state, .int vo_readMost, .ref o_readRows, .int vo_glasses, .int vo_towersRead, .int vo_poured, .ref o_rows, .ref o_turns, .ref o_amounts, .ref o_drank, .long vo_spilt, .ref o_takes, .ref o_leans, .ref o_would, .int vo_done, .int vo_seedNow, .int vo_keptTower, .int vo_keptPoured, .long vo_keptSpilt, .ref o_keptAmounts, .ref o_keptDrank, .ref o_keptTurns, .long b2])), (o_rows, .inl (cI, 54, .inl vo_rows)), (o_turns, .inl (cI, 9, .inl vo_turns)), (o_amounts, .inl (cJ, 9, .inr (.inl vo_amounts)))]) (va_runV (As := [.int p1, .int b1]) (rest := [.ref o]) ⟨hx, hb, hml, hown, hts⟩ (k_X6_tellGlass l dC dI cI cJ cC H.size o o_page o_readRows o_rows o_turns o_amounts o_drank o_takes o_leans o_would o_keptAmounts o_keptDrank o_keptTurns vo_pageMany vo_readMany vo_state vo_readMost vo_glasses vo_towersRead vo_poured vo_spilt vo_done vo_seedNow vo_keptTower vo_keptPoured vo_keptSpilt b2 vo_rows vo_turns vo_amounts p1 b1 r5 ev_2 h10 h19) (cwV 2 hts gX6_sayGlass_X6_tellGlass rfl rfl rfl (by decide +kernel) ⟨Nat.le_of_ble_eq_true rfl, Nat.le_of_ble_eq_true rfl⟩) (zz_preV [0, 1, 2, 3] hK hP hD rfl rfl (va_recv hK hP (ci := 6) (q0 := 0) rfl rfl)) rfl rfl hl.1 rfl (lv_room (Nat.le_of_ble_eq_true rfl)) dX6_sayGlass_12 ⟨Nat.zero_le _, Nat.zero_le _⟩) hP hD hS hA rfl rfl rfl (by decide) (fun ok_3 H locs hP hD hS => ?_)
      have hP : va_P (dC, dI) vwCl [(o_drank, .inl (cJ, 9, .inr (.inl vo_drank))), (o, .inr (6, [.ref o_page, .int vo_pageMany, .int vo_readMany, .int vo_state, .int vo_readMost, .ref o_readRows, .int vo_glasses, .int vo_towersRead, .int vo_poured, .ref o_rows, .ref o_turns, .ref o_amounts, .ref o_drank, .long vo_spilt, .ref o_takes, .ref o_leans, .ref o_would, .int vo_done, .int vo_seedNow, .int vo_keptTower, .int vo_keptPoured, .long vo_keptSpilt, .ref o_keptAmounts, .ref o_keptDrank, .ref o_keptTurns, .long b2])), (o_rows, .inl (cI, 54, .inl vo_rows)), (o_turns, .inl (cI, 9, .inl vo_turns)), (o_amounts, .inl (cJ, 9, .inr (.inl vo_amounts)))] H := hP
      have hD : va_D A [(o_drank, .inl (cJ, 9, .inr (.inl vo_drank))), (o, .inr (6, [.ref o_page, .int vo_pageMany, .int vo_readMany, .int vo_state, .int vo_readMost, .ref o_readRows, .int vo_glasses, .int vo_towersRead, .int vo_poured, .ref o_rows, .ref o_turns, .ref o_amounts, .ref o_drank, .long vo_spilt, .ref o_takes, .ref o_leans, .ref o_would, .int vo_done, .int vo_seedNow, .int vo_keptTower, .int vo_keptPoured, .long vo_keptSpilt, .ref o_keptAmounts, .ref o_keptDrank, .ref o_keptTurns, .long b2])), (o_rows, .inl (cI, 54, .inl vo_rows)), (o_turns, .inl (cI, 9, .inl vo_turns)), (o_amounts, .inl (cJ, 9, .inr (.inl vo_amounts)))] := hD
      refine lv_i2l (v := (r5.toInt64)) hx hb dX6_sayGlass_15 rfl ?_
      obtain ⟨u6, ev_4⟩ : ∃ x0, (m_X6_say b2 (r5.toInt64)) = x0 := ⟨_, rfl⟩
      replace hT := cut_n ev_4 hT
      refine zz_cv [1] [0, 2, 3, 4] (wr := [(o_drank, .inl (cJ, 9, .inr (.inl vo_drank))), (o_rows, .inl (cI, 54, .inl vo_rows)), (o_turns, .inl (cI, 9, .inl vo_turns)), (o_amounts, .inl (cJ, 9, .inr (.inl vo_amounts)))]) (w1 := [(o, .inr (6, [.ref o_page, .int vo_pageMany, .int vo_readMany, .int vo_state, .int vo_readMost, .ref o_readRows, .int vo_glasses, .int vo_towersRead, .int vo_poured, .ref o_rows, .ref o_turns, .ref o_amounts, .ref o_drank, .long vo_spilt, .ref o_takes, .ref o_leans, .ref o_would, .int vo_done, .int vo_seedNow, .int vo_keptTower, .int vo_keptPoured, .long vo_keptSpilt, .ref o_keptAmounts, .ref o_keptDrank, .ref o_keptTurns, .long u6]))]) (va_runV (As := [.long (r5.toInt64)]) (rest := []) ⟨hx, hb, hml, hown, hts⟩ (k_X6_say l dC dI cI cJ cC H.size o o_page o_readRows o_rows o_turns o_amounts o_drank o_takes o_leans o_would o_keptAmounts o_keptDrank o_keptTurns vo_pageMany vo_readMany vo_state vo_readMost vo_glasses vo_towersRead vo_poured vo_spilt vo_done vo_seedNow vo_keptTower vo_keptPoured vo_keptSpilt b2 (r5.toInt64) u6 ev_4) (cwV 1 hts gX6_sayGlass_X6_say rfl rfl rfl (by decide +kernel) ⟨Nat.le_of_ble_eq_true rfl, Nat.le_of_ble_eq_true rfl⟩) (zz_preV [1] hK hP hD rfl rfl (va_recv hK hP (ci := 6) (q0 := 1) rfl rfl)) rfl rfl hl.1 rfl (lv_room (Nat.le_of_ble_eq_true rfl)) dX6_sayGlass_16 ⟨Nat.zero_le _, Nat.zero_le _⟩) hP hD hS hA rfl rfl rfl (by decide) (fun ok_5 H locs hP hD hS => ?_)
      have hP : va_P (dC, dI) vwCl [(o_drank, .inl (cJ, 9, .inr (.inl vo_drank))), (o_rows, .inl (cI, 54, .inl vo_rows)), (o_turns, .inl (cI, 9, .inl vo_turns)), (o_amounts, .inl (cJ, 9, .inr (.inl vo_amounts))), (o, .inr (6, [.ref o_page, .int vo_pageMany, .int vo_readMany, .int vo_state, .int vo_readMost, .ref o_readRows, .int vo_glasses, .int vo_towersRead, .int vo_poured, .ref o_rows, .ref o_turns, .ref o_amounts, .ref o_drank, .long vo_spilt, .ref o_takes, .ref o_leans, .ref o_would, .int vo_done, .int vo_seedNow, .int vo_keptTower, .int vo_keptPoured, .long vo_keptSpilt, .ref o_keptAmounts, .ref o_keptDrank, .ref o_keptTurns, .long u6]))] H := hP
      have hD : va_D A [(o_drank, .inl (cJ, 9, .inr (.inl vo_drank))), (o_rows, .inl (cI, 54, .inl vo_rows)), (o_turns, .inl (cI, 9, .inl vo_turns)), (o_amounts, .inl (cJ, 9, .inr (.inl vo_amounts))), (o, .inr (6, [.ref o_page, .int vo_pageMany, .int vo_readMany, .int vo_state, .int vo_readMost, .ref o_readRows, .int vo_glasses, .int vo_towersRead, .int vo_poured, .ref o_rows, .ref o_turns, .ref o_amounts, .ref o_drank, .long vo_spilt, .ref o_takes, .ref o_leans, .ref o_would, .int vo_done, .int vo_seedNow, .int vo_keptTower, .int vo_keptPoured, .long vo_keptSpilt, .ref o_keptAmounts, .ref o_keptDrank, .ref o_keptTurns, .long u6]))] := hD
      obtain ⟨v7, ev7⟩ : ∃ y : Int32, (b1 + (1 : Int32)) = y := ⟨_, rfl⟩
      replace hT := cut_n ev7 hT
      try have fv7 := zaddE (rfl : (b1).toInt = _) (by decide : ((1 : Int32)).toInt = 1) ev7 (by omega) (by omega)
      refine lv_iinc (v := v7) (lv' := [(2, .int v7), (0, .ref o), (1, .int p1)]) hx hb dX6_sayGlass_19 hl (k := 0) rfl (by rw [← ev7]; rfl) (by decide) rfl (fun ls hl => ?_)
      refine lv_goto (tgt := 2) hx hb dX6_sayGlass_22 (by decide) ?_
      exact ih2 (v7, u6) _ _ _ ⟨(by omega : 0 ≤ v7.toInt), (by omega : v7.toInt ≤ 9), (by omega : 9 - v7.toInt < ((k2 : Nat) : Int)), hT, hP.sub [4, 1, 2, 3, 0] rfl, hD.sub [4, 1, 2, 3, 0] rfl rfl, hS, lv_sub hl [0, 1, 2] rfl⟩

def rs_X6_digest_8 (vo_takes : Nat → Int64) (vo_leans : Nat → Int32) (vo_would : Nat → Int64) (x26 : Int32) (x27 : Int64) : Int64 × Int64 × (Nat → Int64) × (Nat → Int32) × (Nat → Int64) :=
 (x27, x27, vo_takes, vo_leans, vo_would)
def lp_X6_digest_8 (ct8 : Int32 → Int64 → (Int64 × Int64 × (Nat → Int64) × (Nat → Int32) × (Nat → Int64))) (vo_pageMany : Int32) (vo_glasses : Int32) (vo_towersRead : Int32) (vo_poured : Int32) (vo_done : Int32) (vo_rows : Nat → Int32) (vo_amounts : Nat → Int64) : Nat → Int32 → Int64 → (Int64 × Int64 × (Nat → Int64) × (Nat → Int32) × (Nat → Int64))
  | 0, _, _ => default
  | k + 1, b24, b25 =>
  if (6 : Int32) ≤ b24 then
   (ct8 b24 b25)
  else
   cut (m_X6_countOf vo_pageMany vo_glasses vo_towersRead vo_poured vo_done vo_rows vo_amounts b24) (fun (r28 : Int32) =>
   cut (m_X6_say b25 (r28.toInt64)) (fun (u29 : Int64) =>
   cut (b24 + (1 : Int32)) (fun (v30 : Int32) =>
   (lp_X6_digest_8 ct8 vo_pageMany vo_glasses vo_towersRead vo_poured vo_done vo_rows vo_amounts k v30 u29))))
def rs_X6_digest_7 (vo_takes : Nat → Int64) (vo_leans : Nat → Int32) (vo_would : Nat → Int64) (vo_pageMany : Int32) (vo_glasses : Int32) (vo_towersRead : Int32) (vo_poured : Int32) (vo_done : Int32) (vo_rows : Nat → Int32) (vo_amounts : Nat → Int64) (x20 : Int32) (x21 : Int64) : Int64 × Int64 × (Nat → Int64) × (Nat → Int32) × (Nat → Int64) :=
 (lp_X6_digest_8 (rs_X6_digest_8 vo_takes vo_leans vo_would) vo_pageMany vo_glasses vo_towersRead vo_poured vo_done vo_rows vo_amounts 8 (0 : Int32) x21)
def lp_X6_digest_7 (vo_pageMany : Int32) (ct7 : Int32 → Int64 → (Int64 × Int64 × (Nat → Int64) × (Nat → Int32) × (Nat → Int64))) (vo_page : Nat → Int32) : Nat → Int32 → Int64 → (Int64 × Int64 × (Nat → Int64) × (Nat → Int32) × (Nat → Int64))
  | 0, _, _ => default
  | k + 1, b18, b19 =>
  if vo_pageMany ≤ b18 then
   (ct7 b18 b19)
  else
   cut (m_X6_say b19 ((vo_page b18.toNatClampNeg).toInt64)) (fun (u22 : Int64) =>
   cut (b18 + (1 : Int32)) (fun (v23 : Int32) =>
   (lp_X6_digest_7 vo_pageMany ct7 vo_page k v23 u22)))
def rs_X6_digest_10 (u38 : Nat → Int64) (u39 : Nat → Int32) (u40 : Nat → Int64) (x50 : Int32) (x51 : Int64) : Int64 × Int64 × (Nat → Int64) × (Nat → Int32) × (Nat → Int64) :=
 (x51, x51, u38, u39, u40)
def lp_X6_digest_10 (ct10 : Int32 → Int64 → (Int64 × Int64 × (Nat → Int64) × (Nat → Int32) × (Nat → Int64))) (vo_pageMany : Int32) (vo_glasses : Int32) (vo_towersRead : Int32) (vo_poured : Int32) (vo_done : Int32) (vo_rows : Nat → Int32) (vo_amounts : Nat → Int64) : Nat → Int32 → Int64 → (Int64 × Int64 × (Nat → Int64) × (Nat → Int32) × (Nat → Int64))
  | 0, _, _ => default
  | k + 1, b48, b49 =>
  if (6 : Int32) ≤ b48 then
   (ct10 b48 b49)
  else
   cut (m_X6_countOf vo_pageMany vo_glasses vo_towersRead vo_poured vo_done vo_rows vo_amounts b48) (fun (r52 : Int32) =>
   cut (m_X6_say b49 (r52.toInt64)) (fun (u53 : Int64) =>
   cut (b48 + (1 : Int32)) (fun (v54 : Int32) =>
   (lp_X6_digest_10 ct10 vo_pageMany vo_glasses vo_towersRead vo_poured vo_done vo_rows vo_amounts k v54 u53))))
def rs_X6_digest_9 (u38 : Nat → Int64) (u39 : Nat → Int32) (u40 : Nat → Int64) (vo_pageMany : Int32) (vo_glasses : Int32) (vo_towersRead : Int32) (vo_poured : Int32) (vo_done : Int32) (vo_rows : Nat → Int32) (vo_amounts : Nat → Int64) (x44 : Int32) (x45 : Int64) : Int64 × Int64 × (Nat → Int64) × (Nat → Int32) × (Nat → Int64) :=
 (lp_X6_digest_10 (rs_X6_digest_10 u38 u39 u40) vo_pageMany vo_glasses vo_towersRead vo_poured vo_done vo_rows vo_amounts 8 (0 : Int32) x45)
def lp_X6_digest_9 (vo_pageMany : Int32) (ct9 : Int32 → Int64 → (Int64 × Int64 × (Nat → Int64) × (Nat → Int32) × (Nat → Int64))) (vo_page : Nat → Int32) : Nat → Int32 → Int64 → (Int64 × Int64 × (Nat → Int64) × (Nat → Int32) × (Nat → Int64))
  | 0, _, _ => default
  | k + 1, b42, b43 =>
  if vo_pageMany ≤ b42 then
   (ct9 b42 b43)
  else
   cut (m_X6_say b43 ((vo_page b42.toNatClampNeg).toInt64)) (fun (u46 : Int64) =>
   cut (b42 + (1 : Int32)) (fun (v47 : Int32) =>
   (lp_X6_digest_9 vo_pageMany ct9 vo_page k v47 u46)))
def rs_X6_digest_6 (vo_spilt : Int64) (vo_glasses : Int32) (vo_amounts : Nat → Int64) (vo_rows : Nat → Int32) (vo_takes : Nat → Int64) (vo_leans : Nat → Int32) (vo_would : Nat → Int64) (vo_poured : Int32) (vo_pageMany : Int32) (vo_towersRead : Int32) (vo_done : Int32) (vo_page : Nat → Int32) (x3 : Int32) (x4 : Int64) : Int64 × Int64 × (Nat → Int64) × (Nat → Int32) × (Nat → Int64) :=
 cut (m_X6_term vo_spilt (0 : Int32)) (fun (r7 : Int64) =>
 cut (m_X6_say x4 r7) (fun (u8 : Int64) =>
 cut (m_X6_term vo_spilt (1 : Int32)) (fun (r9 : Int64) =>
 cut (m_X6_say u8 r9) (fun (u10 : Int64) =>
 cut (m_X6_together vo_glasses vo_amounts) (fun (r11 : Int64) =>
 cut (m_X6_term r11 (0 : Int32)) (fun (r12 : Int64) =>
 cut (m_X6_say u10 r12) (fun (u13 : Int64) =>
 cut (m_X6_together vo_glasses vo_amounts) (fun (r14 : Int64) =>
 cut (m_X6_term r14 (1 : Int32)) (fun (r15 : Int64) =>
 cut (m_X6_say u13 r15) (fun (u16 : Int64) =>
 cut (m_X6_lacks vo_glasses) (fun (r17 : Int32) =>
 if r17 = (0 : Int32) then
  cut4 (m_X6_needOf vo_glasses vo_rows vo_amounts vo_takes vo_leans vo_would (((1 : Int32) <<< (vo_glasses &&& 31)) - (1 : Int32)) (0 : Int32)) (fun (r31 : Int32) (u32 : Nat → Int64) (u33 : Nat → Int32) (u34 : Nat → Int64) =>
  cut (m_X6_say u16 (r31.toInt64)) (fun (u35 : Int64) =>
  cut (
   if vo_poured ≤ (999 : Int32) then
    vo_poured
   else
    (999 : Int32)) (fun (j36 : Int32) =>
  cut4 (m_X6_chipsOf vo_glasses vo_rows vo_amounts u32 u33 u34 j36) (fun (r37 : Int32) (u38 : Nat → Int64) (u39 : Nat → Int32) (u40 : Nat → Int64) =>
  cut (m_X6_say u35 (r37.toInt64)) (fun (u41 : Int64) =>
  (lp_X6_digest_9 vo_pageMany (rs_X6_digest_9 u38 u39 u40 vo_pageMany vo_glasses vo_towersRead vo_poured vo_done vo_rows vo_amounts) vo_page 72 (0 : Int32) u41))))))
 else
  (lp_X6_digest_7 vo_pageMany (rs_X6_digest_7 vo_takes vo_leans vo_would vo_pageMany vo_glasses vo_towersRead vo_poured vo_done vo_rows vo_amounts) vo_page 72 (0 : Int32) u16))))))))))))
def lp_X6_digest_6 (vo_glasses : Int32) (ct6 : Int32 → Int64 → (Int64 × Int64 × (Nat → Int64) × (Nat → Int32) × (Nat → Int64))) (vo_rows : Nat → Int32) (vo_turns : Nat → Int32) (vo_amounts : Nat → Int64) (vo_drank : Nat → Int64) : Nat → Int32 → Int64 → (Int64 × Int64 × (Nat → Int64) × (Nat → Int32) × (Nat → Int64))
  | 0, _, _ => default
  | k + 1, b1, b2 =>
  if vo_glasses ≤ b1 then
   (ct6 b1 b2)
  else
   cut (m_X6_sayGlass b2 vo_rows vo_turns vo_amounts vo_drank b1) (fun (u5 : Int64) =>
   cut (b1 + (1 : Int32)) (fun (v6 : Int32) =>
   (lp_X6_digest_6 vo_glasses ct6 vo_rows vo_turns vo_amounts vo_drank k v6 u5)))
def m_X6_digest (vo_pageMany : Int32) (vo_glasses : Int32) (vo_towersRead : Int32) (vo_poured : Int32) (vo_spilt : Int64) (vo_done : Int32) (vo_page : Nat → Int32) (vo_rows : Nat → Int32) (vo_turns : Nat → Int32) (vo_amounts : Nat → Int64) (vo_drank : Nat → Int64) (vo_takes : Nat → Int64) (vo_leans : Nat → Int32) (vo_would : Nat → Int64) : Int64 × Int64 × (Nat → Int64) × (Nat → Int32) × (Nat → Int64) :=
 (lp_X6_digest_6 vo_glasses (rs_X6_digest_6 vo_spilt vo_glasses vo_amounts vo_rows vo_takes vo_leans vo_would vo_poured vo_pageMany vo_towersRead vo_done vo_page) vo_rows vo_turns vo_amounts vo_drank 11 (0 : Int32) (631 : Int64))
set_option maxHeartbeats 4000000 in
set_option maxRecDepth 100000 in
theorem k_X6_digest (l : Launch) (dC : Nat → ClassId) (dI : Nat → Nat → Nat) (cI cJ cC : ClassId) (sz : Nat) (o o_page o_readRows o_rows o_turns o_amounts o_drank o_takes o_leans o_would o_keptAmounts o_keptDrank o_keptTurns : Nat) (vo_pageMany : Int32) (vo_readMany : Int32) (vo_state : Int32) (vo_readMost : Int32) (vo_glasses : Int32) (vo_towersRead : Int32) (vo_poured : Int32) (vo_spilt : Int64) (vo_done : Int32) (vo_seedNow : Int32) (vo_keptTower : Int32) (vo_keptPoured : Int32) (vo_keptSpilt : Int64) (vo_hash : Int64) (vo_page : Nat → Int32) (vo_rows : Nat → Int32) (vo_turns : Nat → Int32) (vo_amounts : Nat → Int64) (vo_drank : Nat → Int64) (vo_takes : Nat → Int64) (vo_leans : Nat → Int32) (vo_would : Nat → Int64) (r : Int64) (qo_hash : Int64) (qo_takes : Nat → Int64) (qo_leans : Nat → Int32) (qo_would : Nat → Int64) (hT : m_X6_digest vo_pageMany vo_glasses vo_towersRead vo_poured vo_spilt vo_done vo_page vo_rows vo_turns vo_amounts vo_drank vo_takes vo_leans vo_would = (r, qo_hash, qo_takes, qo_leans, qo_would)) (hg0 : 0 ≤ vo_glasses.toInt) (hg9 : vo_glasses.toInt ≤ 9) (hrw : zRw vo_rows) (hln : zLn vo_leans) (hp0 : 0 ≤ vo_pageMany.toInt) (hp70 : vo_pageMany.toInt ≤ 70) : Met l yX6_digest wsX6_digest ({ frames := 5, cells := 0, slots := 0, locals := 115 }) (zPc [.ref o] (dC, dI) (zTy cI cJ cC) [(o, .inr (6, [.ref o_page, .int vo_pageMany, .int vo_readMany, .int vo_state, .int vo_readMost, .ref o_readRows, .int vo_glasses, .int vo_towersRead, .int vo_poured, .ref o_rows, .ref o_turns, .ref o_amounts, .ref o_drank, .long vo_spilt, .ref o_takes, .ref o_leans, .ref o_would, .int vo_done, .int vo_seedNow, .int vo_keptTower, .int vo_keptPoured, .long vo_keptSpilt, .ref o_keptAmounts, .ref o_keptDrank, .ref o_keptTurns, .long vo_hash])), (o_page, .inl (cI, 70, .inl vo_page)), (o_rows, .inl (cI, 54, .inl vo_rows)), (o_turns, .inl (cI, 9, .inl vo_turns)), (o_amounts, .inl (cJ, 9, .inr (.inl vo_amounts))), (o_drank, .inl (cJ, 9, .inr (.inl vo_drank))), (o_takes, .inl (cJ, 9, .inr (.inl vo_takes))), (o_leans, .inl (cI, 9, .inl vo_leans)), (o_would, .inl (cJ, 9, .inr (.inl vo_would)))] sz) (zQl r ((zLn qo_leans)) (dC, dI) (zTy cI cJ cC) [(o, .inr (6, [.ref o_page, .int vo_pageMany, .int vo_readMany, .int vo_state, .int vo_readMost, .ref o_readRows, .int vo_glasses, .int vo_towersRead, .int vo_poured, .ref o_rows, .ref o_turns, .ref o_amounts, .ref o_drank, .long vo_spilt, .ref o_takes, .ref o_leans, .ref o_would, .int vo_done, .int vo_seedNow, .int vo_keptTower, .int vo_keptPoured, .long vo_keptSpilt, .ref o_keptAmounts, .ref o_keptDrank, .ref o_keptTurns, .long qo_hash])), (o_page, .inl (cI, 70, .inl vo_page)), (o_rows, .inl (cI, 54, .inl vo_rows)), (o_turns, .inl (cI, 9, .inl vo_turns)), (o_amounts, .inl (cJ, 9, .inr (.inl vo_amounts))), (o_drank, .inl (cJ, 9, .inr (.inl vo_drank))), (o_takes, .inl (cJ, 9, .inr (.inl qo_takes))), (o_leans, .inl (cI, 9, .inl qo_leans)), (o_would, .inl (cJ, 9, .inr (.inl qo_would)))] (va_A [(o, .inr (6, [.ref o_page, .int vo_pageMany, .int vo_readMany, .int vo_state, .int vo_readMost, .ref o_readRows, .int vo_glasses, .int vo_towersRead, .int vo_poured, .ref o_rows, .ref o_turns, .ref o_amounts, .ref o_drank, .long vo_spilt, .ref o_takes, .ref o_leans, .ref o_would, .int vo_done, .int vo_seedNow, .int vo_keptTower, .int vo_keptPoured, .long vo_keptSpilt, .ref o_keptAmounts, .ref o_keptDrank, .ref o_keptTurns, .long vo_hash])), (o_page, .inl (cI, 70, .inl vo_page)), (o_rows, .inl (cI, 54, .inl vo_rows)), (o_turns, .inl (cI, 9, .inl vo_turns)), (o_amounts, .inl (cJ, 9, .inr (.inl vo_amounts))), (o_drank, .inl (cJ, 9, .inr (.inl vo_drank))), (o_takes, .inl (cJ, 9, .inr (.inl vo_takes))), (o_leans, .inl (cI, 9, .inl vo_leans)), (o_would, .inl (cJ, 9, .inr (.inl vo_would)))] sz)) 0 0 (va_A [(o, .inr (6, [.ref o_page, .int vo_pageMany, .int vo_readMany, .int vo_state, .int vo_readMost, .ref o_readRows, .int vo_glasses, .int vo_towersRead, .int vo_poured, .ref o_rows, .ref o_turns, .ref o_amounts, .ref o_drank, .long vo_spilt, .ref o_takes, .ref o_leans, .ref o_would, .int vo_done, .int vo_seedNow, .int vo_keptTower, .int vo_keptPoured, .long vo_keptSpilt, .ref o_keptAmounts, .ref o_keptDrank, .ref o_keptTurns, .long vo_hash])), (o_page, .inl (cI, 70, .inl vo_page)), (o_rows, .inl (cI, 54, .inl vo_rows)), (o_turns, .inl (cI, 9, .inl vo_turns)), (o_amounts, .inl (cJ, 9, .inr (.inl vo_amounts))), (o_drank, .inl (cJ, 9, .inr (.inl vo_drank))), (o_takes, .inl (cJ, 9, .inr (.inl vo_takes))), (o_leans, .inl (cI, 9, .inl vo_leans)), (o_would, .inl (cJ, 9, .inr (.inl vo_would)))] sz) := by
  refine Met.ofW (cc := cX6_digest) (maxL := 2) (ret := (some .long)) (by decide) rfl ?_
  intro p e s m args below meth c s₁ B hml hv
  obtain ⟨rfl, hsz, hP, hK, hD0⟩ := hv
  have hx := B.exec
  have hb := B.bytes
  have hr := B.returns
  have hts := atoms_spec (ws := wsX6_digest) B.pre
  have hown : s.vm.findClass RX6 = some m.cls := findClass_of_methodNamed B.named
  have hlocks := B.notSynchronized
  subst hsz
  have hD := hD0.self (sz := s.heap.size)
  generalize hAe : va_A [(o, .inr (6, [.ref o_page, .int vo_pageMany, .int vo_readMany, .int vo_state, .int vo_readMost, .ref o_readRows, .int vo_glasses, .int vo_towersRead, .int vo_poured, .ref o_rows, .ref o_turns, .ref o_amounts, .ref o_drank, .long vo_spilt, .ref o_takes, .ref o_leans, .ref o_would, .int vo_done, .int vo_seedNow, .int vo_keptTower, .int vo_keptPoured, .long vo_keptSpilt, .ref o_keptAmounts, .ref o_keptDrank, .ref o_keptTurns, .long vo_hash])), (o_page, .inl (cI, 70, .inl vo_page)), (o_rows, .inl (cI, 54, .inl vo_rows)), (o_turns, .inl (cI, 9, .inl vo_turns)), (o_amounts, .inl (cJ, 9, .inr (.inl vo_amounts))), (o_drank, .inl (cJ, 9, .inr (.inl vo_drank))), (o_takes, .inl (cJ, 9, .inr (.inl vo_takes))), (o_leans, .inl (cI, 9, .inl vo_leans)), (o_would, .inl (cJ, 9, .inr (.inl vo_would)))] s.heap.size = A at hD ⊢
  have hA : ∀ q : Nat, s.heap.size ≤ q → A q := fun q h => by rw [← hAe]; exact Or.inr h
  have hS : va_S A s.heap s.heap [] := va_S.rf
  have hP : va_P (dC, dI) vwCl [(o, .inr (6, [.ref o_page, .int vo_pageMany, .int vo_readMany, .int vo_state, .int vo_readMost, .ref o_readRows, .int vo_glasses, .int vo_towersRead, .int vo_poured, .ref o_rows, .ref o_turns, .ref o_amounts, .ref o_drank, .long vo_spilt, .ref o_takes, .ref o_leans, .ref o_would, .int vo_done, .int vo_seedNow, .int vo_keptTower, .int vo_keptPoured, .long vo_keptSpilt, .ref o_keptAmounts, .ref o_keptDrank, .ref o_keptTurns, .long vo_hash])), (o_page, .inl (cI, 70, .inl vo_page)), (o_rows, .inl (cI, 54, .inl vo_rows)), (o_turns, .inl (cI, 9, .inl vo_turns)), (o_amounts, .inl (cJ, 9, .inr (.inl vo_amounts))), (o_drank, .inl (cJ, 9, .inr (.inl vo_drank))), (o_takes, .inl (cJ, 9, .inr (.inl vo_takes))), (o_leans, .inl (cI, 9, .inl vo_leans)), (o_would, .inl (cJ, 9, .inr (.inl vo_would)))] s.heap := hP
  have hK : va_K (dC, dI) vwCl (zTy cI cJ cC) s := hK
  have hl := lv_entry ([.ref o]) (n := 2) (Nat.le_of_ble_eq_true rfl)
  rw [lg_entry_eq]
  generalize (lg_sl ([.ref o]) ++ List.replicate (2 - (lg_sl ([.ref o])).length) Slot.unset).toArray = ls at hl ⊢
  have hl : lv_has ls 2 [(0, .ref o)] := hl
  refine zz_start hP hS (fun Q hQ H locs hP hS => ?_)
  have hwX6 : ∀ w ∈ u_ws RX6 TX6 26, w ∈ wsX6_digest := by decide +kernel
  have hc_239 := (hts (.constantLong RX6 239 (631)) (by decide +kernel))
  have hf_106 := (hts (.fieldLink RX6 106 "PouredTopmostModel" "spilt" "J") (by decide +kernel))
  have hf_110 := (hts (.fieldLink RX6 110 "PouredTopmostModel" "poured" "I") (by decide +kernel))
  have hf_232 := (hts (.fieldLink RX6 232 "PouredTopmostModel" "hash" "J") (by decide +kernel))
  have hf_53 := (hts (.fieldLink RX6 53 "PouredTopmostModel" "pageMany" "I") (by decide +kernel))
  have hf_7 := (hts (.fieldLink RX6 7 "PouredTopmostModel" "page" "[I") (by decide +kernel))
  have hf_97 := (hts (.fieldLink RX6 97 "PouredTopmostModel" "glasses" "I") (by decide +kernel))
  refine lv_aload_n hx hb dX6_digest_0 rfl (lv_at hl 0 rfl) ?_
  refine lv_ldc2 (v := (631 : Int64)) hx hb hown hc_239 dX6_digest_1 ?_
  refine va_put (D := (dC, dI)) (ci := 6) (v := .long (631 : Int64)) (ty := .long) (C := RX6) (T := TX6) (N := 26) hx hb hts hwX6 tyX6 tyX6_ok nmX6 hown hK hP hD hS 0 rfl rfl 25 (by decide) hf_232 (fun _ h9 => h9) rfl (by decide +kernel) rfl rfl (Nat.le_of_ble_eq_true rfl) dX6_digest_4 (fun H locs hP hD hS => ?_)
  have hP : va_P (dC, dI) vwCl [(o, .inr (6, [.ref o_page, .int vo_pageMany, .int vo_readMany, .int vo_state, .int vo_readMost, .ref o_readRows, .int vo_glasses, .int vo_towersRead, .int vo_poured, .ref o_rows, .ref o_turns, .ref o_amounts, .ref o_drank, .long vo_spilt, .ref o_takes, .ref o_leans, .ref o_would, .int vo_done, .int vo_seedNow, .int vo_keptTower, .int vo_keptPoured, .long vo_keptSpilt, .ref o_keptAmounts, .ref o_keptDrank, .ref o_keptTurns, .long (631 : Int64)])), (o_page, .inl (cI, 70, .inl vo_page)), (o_rows, .inl (cI, 54, .inl vo_rows)), (o_turns, .inl (cI, 9, .inl vo_turns)), (o_amounts, .inl (cJ, 9, .inr (.inl vo_amounts))), (o_drank, .inl (cJ, 9, .inr (.inl vo_drank))), (o_takes, .inl (cJ, 9, .inr (.inl vo_takes))), (o_leans, .inl (cI, 9, .inl vo_leans)), (o_would, .inl (cJ, 9, .inr (.inl vo_would)))] H := hP
  have hD : va_D A [(o, .inr (6, [.ref o_page, .int vo_pageMany, .int vo_readMany, .int vo_state, .int vo_readMost, .ref o_readRows, .int vo_glasses, .int vo_towersRead, .int vo_poured, .ref o_rows, .ref o_turns, .ref o_amounts, .ref o_drank, .long vo_spilt, .ref o_takes, .ref o_leans, .ref o_would, .int vo_done, .int vo_seedNow, .int vo_keptTower, .int vo_keptPoured, .long vo_keptSpilt, .ref o_keptAmounts, .ref o_keptDrank, .ref o_keptTurns, .long (631 : Int64)])), (o_page, .inl (cI, 70, .inl vo_page)), (o_rows, .inl (cI, 54, .inl vo_rows)), (o_turns, .inl (cI, 9, .inl vo_turns)), (o_amounts, .inl (cJ, 9, .inr (.inl vo_amounts))), (o_drank, .inl (cJ, 9, .inr (.inl vo_drank))), (o_takes, .inl (cJ, 9, .inr (.inl vo_takes))), (o_leans, .inl (cI, 9, .inl vo_leans)), (o_would, .inl (cJ, 9, .inr (.inl vo_would)))] := hD
  refine lv_iconst (v := (0 : Int32)) hx hb dX6_digest_7 (by decide) ?_
  refine lv_istore_n (lv' := [(1, .int (0 : Int32)), (0, .ref o)]) hx hb dX6_digest_8 rfl hl (by decide) rfl (fun ls hl => ?_)
  have hz_58 : ((0 : Int32)).toInt = 0 := by decide
  refine zz_loop (α := Int32 × Int64) 28 (fun k a H locs ls => (0 ≤ a.1.toInt) ∧ (a.1.toInt ≤ vo_glasses.toInt) ∧ (vo_glasses.toInt - a.1.toInt < ((k : Nat) : Int)) ∧ lp_X6_digest_6 vo_glasses (rs_X6_digest_6 vo_spilt vo_glasses vo_amounts vo_rows vo_takes vo_leans vo_would vo_poured vo_pageMany vo_towersRead vo_done vo_page) vo_rows vo_turns vo_amounts vo_drank k a.1 a.2 = (r, qo_hash, qo_takes, qo_leans, qo_would) ∧ va_P (dC, dI) vwCl [(o, .inr (6, [.ref o_page, .int vo_pageMany, .int vo_readMany, .int vo_state, .int vo_readMost, .ref o_readRows, .int vo_glasses, .int vo_towersRead, .int vo_poured, .ref o_rows, .ref o_turns, .ref o_amounts, .ref o_drank, .long vo_spilt, .ref o_takes, .ref o_leans, .ref o_would, .int vo_done, .int vo_seedNow, .int vo_keptTower, .int vo_keptPoured, .long vo_keptSpilt, .ref o_keptAmounts, .ref o_keptDrank, .ref o_keptTurns, .long a.2])), (o_page, .inl (cI, 70, .inl vo_page)), (o_rows, .inl (cI, 54, .inl vo_rows)), (o_turns, .inl (cI, 9, .inl vo_turns)), (o_amounts, .inl (cJ, 9, .inr (.inl vo_amounts))), (o_drank, .inl (cJ, 9, .inr (.inl vo_drank))), (o_takes, .inl (cJ, 9, .inr (.inl vo_takes))), (o_leans, .inl (cI, 9, .inl vo_leans)), (o_would, .inl (cJ, 9, .inr (.inl vo_would)))] H ∧ va_D A [(o, .inr (6, [.ref o_page, .int vo_pageMany, .int vo_readMany, .int vo_state, .int vo_readMost, .ref o_readRows, .int vo_glasses, .int vo_towersRead, .int vo_poured, .ref o_rows, .ref o_turns, .ref o_amounts, .ref o_drank, .long vo_spilt, .ref o_takes, .ref o_leans, .ref o_would, .int vo_done, .int vo_seedNow, .int vo_keptTower, .int vo_keptPoured, .long vo_keptSpilt, .ref o_keptAmounts, .ref o_keptDrank, .ref o_keptTurns, .long a.2])), (o_page, .inl (cI, 70, .inl vo_page)), (o_rows, .inl (cI, 54, .inl vo_rows)), (o_turns, .inl (cI, 9, .inl vo_turns)), (o_amounts, .inl (cJ, 9, .inr (.inl vo_amounts))), (o_drank, .inl (cJ, 9, .inr (.inl vo_drank))), (o_takes, .inl (cJ, 9, .inr (.inl vo_takes))), (o_leans, .inl (cI, 9, .inl vo_leans)), (o_would, .inl (cJ, 9, .inr (.inl vo_would)))] ∧ va_S A s.heap H locs ∧ lv_has ls 2 [(1, .int a.1), (0, .ref o)]) (fun a H locs ls => (0 ≤ a.1.toInt) ∧ (a.1.toInt ≤ vo_glasses.toInt) ∧ (rs_X6_digest_6 vo_spilt vo_glasses vo_amounts vo_rows vo_takes vo_leans vo_would vo_poured vo_pageMany vo_towersRead vo_done vo_page) a.1 a.2 = (r, qo_hash, qo_takes, qo_leans, qo_would) ∧ va_P (dC, dI) vwCl [(o, .inr (6, [.ref o_page, .int vo_pageMany, .int vo_readMany, .int vo_state, .int vo_readMost, .ref o_readRows, .int vo_glasses, .int vo_towersRead, .int vo_poured, .ref o_rows, .ref o_turns, .ref o_amounts, .ref o_drank, .long vo_spilt, .ref o_takes, .ref o_leans, .ref o_would, .int vo_done, .int vo_seedNow, .int vo_keptTower, .int vo_keptPoured, .long vo_keptSpilt, .ref o_keptAmounts, .ref o_keptDrank, .ref o_keptTurns, .long a.2])), (o_page, .inl (cI, 70, .inl vo_page)), (o_rows, .inl (cI, 54, .inl vo_rows)), (o_turns, .inl (cI, 9, .inl vo_turns)), (o_amounts, .inl (cJ, 9, .inr (.inl vo_amounts))), (o_drank, .inl (cJ, 9, .inr (.inl vo_drank))), (o_takes, .inl (cJ, 9, .inr (.inl vo_takes))), (o_leans, .inl (cI, 9, .inl vo_leans)), (o_would, .inl (cJ, 9, .inr (.inl vo_would)))] H ∧ va_D A [(o, .inr (6, [.ref o_page, .int vo_pageMany, .int vo_readMany, .int vo_state, .int vo_readMost, .ref o_readRows, .int vo_glasses, .int vo_towersRead, .int vo_poured, .ref o_rows, .ref o_turns, .ref o_amounts, .ref o_drank, .long vo_spilt, .ref o_takes, .ref o_leans, .ref o_would, .int vo_done, .int vo_seedNow, .int vo_keptTower, .int vo_keptPoured, .long vo_keptSpilt, .ref o_keptAmounts, .ref o_keptDrank, .ref o_keptTurns, .long a.2])), (o_page, .inl (cI, 70, .inl vo_page)), (o_rows, .inl (cI, 54, .inl vo_rows)), (o_turns, .inl (cI, 9, .inl vo_turns)), (o_amounts, .inl (cJ, 9, .inr (.inl vo_amounts))), (o_drank, .inl (cJ, 9, .inr (.inl vo_drank))), (o_takes, .inl (cJ, 9, .inr (.inl vo_takes))), (o_leans, .inl (cI, 9, .inl vo_leans)), (o_would, .inl (cJ, 9, .inr (.inl vo_would)))] ∧ va_S A s.heap H locs ∧ lv_has ls 2 [(0, .ref o)]) ?_ ?_ ?_ 11 ((0 : Int32), (631 : Int64)) ⟨(by omega : 0 ≤ (0 : Int32).toInt), (by omega : (0 : Int32).toInt ≤ vo_glasses.toInt), (by omega : vo_glasses.toInt - (0 : Int32).toInt < ((11 : Nat) : Int)), hT, hP.sub [0, 1, 2, 3, 4, 5, 6, 7, 8] rfl, hD.sub [0, 1, 2, 3, 4, 5, 6, 7, 8] rfl rfl, hS, lv_sub hl [0, 1] rfl⟩
  · rintro ⟨x3, x4⟩ H locs ls ⟨i1, j1, hT, hP, hD, hS, hl⟩
    have hP : va_P (dC, dI) vwCl [(o, .inr (6, [.ref o_page, .int vo_pageMany, .int vo_readMany, .int vo_state, .int vo_readMost, .ref o_readRows, .int vo_glasses, .int vo_towersRead, .int vo_poured, .ref o_rows, .ref o_turns, .ref o_amounts, .ref o_drank, .long vo_spilt, .ref o_takes, .ref o_leans, .ref o_would, .int vo_done, .int vo_seedNow, .int vo_keptTower, .int vo_keptPoured, .long vo_keptSpilt, .ref o_keptAmounts, .ref o_keptDrank, .ref o_keptTurns, .long x4])), (o_page, .inl (cI, 70, .inl vo_page)), (o_rows, .inl (cI, 54, .inl vo_rows)), (o_turns, .inl (cI, 9, .inl vo_turns)), (o_amounts, .inl (cJ, 9, .inr (.inl vo_amounts))), (o_drank, .inl (cJ, 9, .inr (.inl vo_drank))), (o_takes, .inl (cJ, 9, .inr (.inl vo_takes))), (o_leans, .inl (cI, 9, .inl vo_leans)), (o_would, .inl (cJ, 9, .inr (.inl vo_would)))] H := hP
    have hD : va_D A [(o, .inr (6, [.ref o_page, .int vo_pageMany, .int vo_readMany, .int vo_state, .int vo_readMost, .ref o_readRows, .int vo_glasses, .int vo_towersRead, .int vo_poured, .ref o_rows, .ref o_turns, .ref o_amounts, .ref o_drank, .long vo_spilt, .ref o_takes, .ref o_leans, .ref o_would, .int vo_done, .int vo_seedNow, .int vo_keptTower, .int vo_keptPoured, .long vo_keptSpilt, .ref o_keptAmounts, .ref o_keptDrank, .ref o_keptTurns, .long x4])), (o_page, .inl (cI, 70, .inl vo_page)), (o_rows, .inl (cI, 54, .inl vo_rows)), (o_turns, .inl (cI, 9, .inl vo_turns)), (o_amounts, .inl (cJ, 9, .inr (.inl vo_amounts))), (o_drank, .inl (cJ, 9, .inr (.inl vo_drank))), (o_takes, .inl (cJ, 9, .inr (.inl vo_takes))), (o_leans, .inl (cI, 9, .inl vo_leans)), (o_would, .inl (cJ, 9, .inr (.inl vo_would)))] := hD
    have hl : lv_has ls 2 [(0, .ref o)] := hl
    have hT : (rs_X6_digest_6 vo_spilt vo_glasses vo_amounts vo_rows vo_takes vo_leans vo_would vo_poured vo_pageMany vo_towersRead vo_done vo_page) x3 x4 = (r, qo_hash, qo_takes, qo_leans, qo_would) := hT
    have i1 : 0 ≤ x3.toInt := i1
    have j1 : x3.toInt ≤ vo_glasses.toInt := j1
    refine lv_aload_n hx hb dX6_digest_28 rfl (lv_at hl 0 rfl) ?_
    refine lv_aload_n hx hb dX6_digest_29 rfl (lv_at hl 0 rfl) ?_
    refine va_get (D := (dC, dI)) (ci := 6) (v := .long vo_spilt) (C := RX6) (T := TX6) (N := 26) hx hb hts hwX6 hown hK hP 0 rfl rfl 13 (by decide) hf_106 (fun _ h9 => h9) rfl dX6_digest_30 ?_
    refine lv_iconst (v := (0 : Int32)) hx hb dX6_digest_33 (by decide) ?_
    obtain ⟨r7, ev_4⟩ : ∃ x0, (m_X6_term vo_spilt (0 : Int32)) = x0 := ⟨_, rfl⟩
    replace hT := cut_n ev_4 hT
    refine zz_cl [] [0, 1, 2, 3, 4, 5, 6, 7, 8] (wr := [(o, .inr (6, [.ref o_page, .int vo_pageMany, .int vo_readMany, .int vo_state, .int vo_readMost, .ref o_readRows, .int vo_glasses, .int vo_towersRead, .int vo_poured, .ref o_rows, .ref o_turns, .ref o_amounts, .ref o_drank, .long vo_spilt, .ref o_takes, .ref o_leans, .ref o_would, .int vo_done, .int vo_seedNow, .int vo_keptTower, .int vo_keptPoured, .long vo_keptSpilt, .ref o_keptAmounts, .ref o_keptDrank, .ref o_keptTurns, .long x4])), (o_page, .inl (cI, 70, .inl vo_page)), (o_rows, .inl (cI, 54, .inl vo_rows)), (o_turns, .inl (cI, 9, .inl vo_turns)), (o_amounts, .inl (cJ, 9, .inr (.inl vo_amounts))), (o_drank, .inl (cJ, 9, .inr (.inl vo_drank))), (o_takes, .inl (cJ, 9, .inr (.inl vo_takes))), (o_leans, .inl (cI, 9, .inl vo_leans)), (o_would, .inl (cJ, 9, .inr (.inl vo_would)))]) (w1 := []) (va_runS (As := [.long vo_spilt, .int (0 : Int32)]) (rest := [.ref o]) ⟨hx, hb, hml, hown, hts⟩ (k_X6_term l dC dI cI cJ cC H.size vo_spilt (0 : Int32) r7 ev_4) (va_cwS 2 hts gX6_digest_X6_term rfl rfl rfl (by decide +kernel) ⟨Nat.le_of_ble_eq_true rfl, Nat.le_of_ble_eq_true rfl⟩) (zz_preS [] hK hP hD rfl rfl) rfl rfl hl.1 rfl (lv_room (Nat.le_of_ble_eq_true rfl)) dX6_digest_34 ⟨Nat.zero_le _, Nat.zero_le _⟩) hP hD hS hA rfl rfl rfl (by decide) (fun ok_5 H locs hP hD hS => ?_)
    have hP : va_P (dC, dI) vwCl [(o, .inr (6, [.ref o_page, .int vo_pageMany, .int vo_readMany, .int vo_state, .int vo_readMost, .ref o_readRows, .int vo_glasses, .int vo_towersRead, .int vo_poured, .ref o_rows, .ref o_turns, .ref o_amounts, .ref o_drank, .long vo_spilt, .ref o_takes, .ref o_leans, .ref o_would, .int vo_done, .int vo_seedNow, .int vo_keptTower, .int vo_keptPoured, .long vo_keptSpilt, .ref o_keptAmounts, .ref o_keptDrank, .ref o_keptTurns, .long x4])), (o_page, .inl (cI, 70, .inl vo_page)), (o_rows, .inl (cI, 54, .inl vo_rows)), (o_turns, .inl (cI, 9, .inl vo_turns)), (o_amounts, .inl (cJ, 9, .inr (.inl vo_amounts))), (o_drank, .inl (cJ, 9, .inr (.inl vo_drank))), (o_takes, .inl (cJ, 9, .inr (.inl vo_takes))), (o_leans, .inl (cI, 9, .inl vo_leans)), (o_would, .inl (cJ, 9, .inr (.inl vo_would)))] H := hP
    have hD : va_D A [(o, .inr (6, [.ref o_page, .int vo_pageMany, .int vo_readMany, .int vo_state, .int vo_readMost, .ref o_readRows, .int vo_glasses, .int vo_towersRead, .int vo_poured, .ref o_rows, .ref o_turns, .ref o_amounts, .ref o_drank, .long vo_spilt, .ref o_takes, .ref o_leans, .ref o_would, .int vo_done, .int vo_seedNow, .int vo_keptTower, .int vo_keptPoured, .long vo_keptSpilt, .ref o_keptAmounts, .ref o_keptDrank, .ref o_keptTurns, .long x4])), (o_page, .inl (cI, 70, .inl vo_page)), (o_rows, .inl (cI, 54, .inl vo_rows)), (o_turns, .inl (cI, 9, .inl vo_turns)), (o_amounts, .inl (cJ, 9, .inr (.inl vo_amounts))), (o_drank, .inl (cJ, 9, .inr (.inl vo_drank))), (o_takes, .inl (cJ, 9, .inr (.inl vo_takes))), (o_leans, .inl (cI, 9, .inl vo_leans)), (o_would, .inl (cJ, 9, .inr (.inl vo_would)))] := hD
    obtain ⟨u8, ev_6⟩ : ∃ x0, (m_X6_say x4 r7) = x0 := ⟨_, rfl⟩
    replace hT := cut_n ev_6 hT
    refine zz_cv [0] [1, 2, 3, 4, 5, 6, 7, 8] (wr := [(o_page, .inl (cI, 70, .inl vo_page)), (o_rows, .inl (cI, 54, .inl vo_rows)), (o_turns, .inl (cI, 9, .inl vo_turns)), (o_amounts, .inl (cJ, 9, .inr (.inl vo_amounts))), (o_drank, .inl (cJ, 9, .inr (.inl vo_drank))), (o_takes, .inl (cJ, 9, .inr (.inl vo_takes))), (o_leans, .inl (cI, 9, .inl vo_leans)), (o_would, .inl (cJ, 9, .inr (.inl vo_would)))]) (w1 := [(o, .inr (6, [.ref o_page, .int vo_pageMany, .int vo_readMany, .int vo_state, .int vo_readMost, .ref o_readRows, .int vo_glasses, .int vo_towersRead, .int vo_poured, .ref o_rows, .ref o_turns, .ref o_amounts, .ref o_drank, .long vo_spilt, .ref o_takes, .ref o_leans, .ref o_would, .int vo_done, .int vo_seedNow, .int vo_keptTower, .int vo_keptPoured, .long vo_keptSpilt, .ref o_keptAmounts, .ref o_keptDrank, .ref o_keptTurns, .long u8]))]) (va_runV (As := [.long r7]) (rest := []) ⟨hx, hb, hml, hown, hts⟩ (k_X6_say l dC dI cI cJ cC H.size o o_page o_readRows o_rows o_turns o_amounts o_drank o_takes o_leans o_would o_keptAmounts o_keptDrank o_keptTurns vo_pageMany vo_readMany vo_state vo_readMost vo_glasses vo_towersRead vo_poured vo_spilt vo_done vo_seedNow vo_keptTower vo_keptPoured vo_keptSpilt x4 r7 u8 ev_6) (cwV 1 hts gX6_digest_X6_say rfl rfl rfl (by decide +kernel) ⟨Nat.le_of_ble_eq_true rfl, Nat.le_of_ble_eq_true rfl⟩) (zz_preV [0] hK hP hD rfl rfl (va_recv hK hP (ci := 6) (q0 := 0) rfl rfl)) rfl rfl hl.1 rfl (lv_room (Nat.le_of_ble_eq_true rfl)) dX6_digest_37 ⟨Nat.zero_le _, Nat.zero_le _⟩) hP hD hS hA rfl rfl rfl (by decide) (fun ok_7 H locs hP hD hS => ?_)
    have hP : va_P (dC, dI) vwCl [(o_page, .inl (cI, 70, .inl vo_page)), (o_rows, .inl (cI, 54, .inl vo_rows)), (o_turns, .inl (cI, 9, .inl vo_turns)), (o_amounts, .inl (cJ, 9, .inr (.inl vo_amounts))), (o_drank, .inl (cJ, 9, .inr (.inl vo_drank))), (o_takes, .inl (cJ, 9, .inr (.inl vo_takes))), (o_leans, .inl (cI, 9, .inl vo_leans)), (o_would, .inl (cJ, 9, .inr (.inl vo_would))), (o, .inr (6, [.ref o_page, .int vo_pageMany, .int vo_readMany, .int vo_state, .int vo_readMost, .ref o_readRows, .int vo_glasses, .int vo_towersRead, .int vo_poured, .ref o_rows, .ref o_turns, .ref o_amounts, .ref o_drank, .long vo_spilt, .ref o_takes, .ref o_leans, .ref o_would, .int vo_done, .int vo_seedNow, .int vo_keptTower, .int vo_keptPoured, .long vo_keptSpilt, .ref o_keptAmounts, .ref o_keptDrank, .ref o_keptTurns, .long u8]))] H := hP
    have hD : va_D A [(o_page, .inl (cI, 70, .inl vo_page)), (o_rows, .inl (cI, 54, .inl vo_rows)), (o_turns, .inl (cI, 9, .inl vo_turns)), (o_amounts, .inl (cJ, 9, .inr (.inl vo_amounts))), (o_drank, .inl (cJ, 9, .inr (.inl vo_drank))), (o_takes, .inl (cJ, 9, .inr (.inl vo_takes))), (o_leans, .inl (cI, 9, .inl vo_leans)), (o_would, .inl (cJ, 9, .inr (.inl vo_would))), (o, .inr (6, [.ref o_page, .int vo_pageMany, .int vo_readMany, .int vo_state, .int vo_readMost, .ref o_readRows, .int vo_glasses, .int vo_towersRead, .int vo_poured, .ref o_rows, .ref o_turns, .ref o_amounts, .ref o_drank, .long vo_spilt, .ref o_takes, .ref o_leans, .ref o_would, .int vo_done, .int vo_seedNow, .int vo_keptTower, .int vo_keptPoured, .long vo_keptSpilt, .ref o_keptAmounts, .ref o_keptDrank, .ref o_keptTurns, .long u8]))] := hD
    refine lv_aload_n hx hb dX6_digest_40 rfl (lv_at hl 0 rfl) ?_
    refine lv_aload_n hx hb dX6_digest_41 rfl (lv_at hl 0 rfl) ?_
    refine va_get (D := (dC, dI)) (ci := 6) (v := .long vo_spilt) (C := RX6) (T := TX6) (N := 26) hx hb hts hwX6 hown hK hP 8 rfl rfl 13 (by decide) hf_106 (fun _ h9 => h9) rfl dX6_digest_42 ?_
    refine lv_iconst (v := (1 : Int32)) hx hb dX6_digest_45 (by decide) ?_
    obtain ⟨r9, ev_8⟩ : ∃ x0, (m_X6_term vo_spilt (1 : Int32)) = x0 := ⟨_, rfl⟩
    replace hT := cut_n ev_8 hT
    refine zz_cl [] [0, 1, 2, 3, 4, 5, 6, 7, 8] (wr := [(o_page, .inl (cI, 70, .inl vo_page)), (o_rows, .inl (cI, 54, .inl vo_rows)), (o_turns, .inl (cI, 9, .inl vo_turns)), (o_amounts, .inl (cJ, 9, .inr (.inl vo_amounts))), (o_drank, .inl (cJ, 9, .inr (.inl vo_drank))), (o_takes, .inl (cJ, 9, .inr (.inl vo_takes))), (o_leans, .inl (cI, 9, .inl vo_leans)), (o_would, .inl (cJ, 9, .inr (.inl vo_would))), (o, .inr (6, [.ref o_page, .int vo_pageMany, .int vo_readMany, .int vo_state, .int vo_readMost, .ref o_readRows, .int vo_glasses, .int vo_towersRead, .int vo_poured, .ref o_rows, .ref o_turns, .ref o_amounts, .ref o_drank, .long vo_spilt, .ref o_takes, .ref o_leans, .ref o_would, .int vo_done, .int vo_seedNow, .int vo_keptTower, .int vo_keptPoured, .long vo_keptSpilt, .ref o_keptAmounts, .ref o_keptDrank, .ref o_keptTurns, .long u8]))]) (w1 := []) (va_runS (As := [.long vo_spilt, .int (1 : Int32)]) (rest := [.ref o]) ⟨hx, hb, hml, hown, hts⟩ (k_X6_term l dC dI cI cJ cC H.size vo_spilt (1 : Int32) r9 ev_8) (va_cwS 2 hts gX6_digest_X6_term rfl rfl rfl (by decide +kernel) ⟨Nat.le_of_ble_eq_true rfl, Nat.le_of_ble_eq_true rfl⟩) (zz_preS [] hK hP hD rfl rfl) rfl rfl hl.1 rfl (lv_room (Nat.le_of_ble_eq_true rfl)) dX6_digest_46 ⟨Nat.zero_le _, Nat.zero_le _⟩) hP hD hS hA rfl rfl rfl (by decide) (fun ok_9 H locs hP hD hS => ?_)
    have hP : va_P (dC, dI) vwCl [(o_page, .inl (cI, 70, .inl vo_page)), (o_rows, .inl (cI, 54, .inl vo_rows)), (o_turns, .inl (cI, 9, .inl vo_turns)), (o_amounts, .inl (cJ, 9, .inr (.inl vo_amounts))), (o_drank, .inl (cJ, 9, .inr (.inl vo_drank))), (o_takes, .inl (cJ, 9, .inr (.inl vo_takes))), (o_leans, .inl (cI, 9, .inl vo_leans)), (o_would, .inl (cJ, 9, .inr (.inl vo_would))), (o, .inr (6, [.ref o_page, .int vo_pageMany, .int vo_readMany, .int vo_state, .int vo_readMost, .ref o_readRows, .int vo_glasses, .int vo_towersRead, .int vo_poured, .ref o_rows, .ref o_turns, .ref o_amounts, .ref o_drank, .long vo_spilt, .ref o_takes, .ref o_leans, .ref o_would, .int vo_done, .int vo_seedNow, .int vo_keptTower, .int vo_keptPoured, .long vo_keptSpilt, .ref o_keptAmounts, .ref o_keptDrank, .ref o_keptTurns, .long u8]))] H := hP
    have hD : va_D A [(o_page, .inl (cI, 70, .inl vo_page)), (o_rows, .inl (cI, 54, .inl vo_rows)), (o_turns, .inl (cI, 9, .inl vo_turns)), (o_amounts, .inl (cJ, 9, .inr (.inl vo_amounts))), (o_drank, .inl (cJ, 9, .inr (.inl vo_drank))), (o_takes, .inl (cJ, 9, .inr (.inl vo_takes))), (o_leans, .inl (cI, 9, .inl vo_leans)), (o_would, .inl (cJ, 9, .inr (.inl vo_would))), (o, .inr (6, [.ref o_page, .int vo_pageMany, .int vo_readMany, .int vo_state, .int vo_readMost, .ref o_readRows, .int vo_glasses, .int vo_towersRead, .int vo_poured, .ref o_rows, .ref o_turns, .ref o_amounts, .ref o_drank, .long vo_spilt, .ref o_takes, .ref o_leans, .ref o_would, .int vo_done, .int vo_seedNow, .int vo_keptTower, .int vo_keptPoured, .long vo_keptSpilt, .ref o_keptAmounts, .ref o_keptDrank, .ref o_keptTurns, .long u8]))] := hD
    obtain ⟨u10, ev_10⟩ : ∃ x0, (m_X6_say u8 r9) = x0 := ⟨_, rfl⟩
    replace hT := cut_n ev_10 hT
    refine zz_cv [8] [0, 1, 2, 3, 4, 5, 6, 7] (wr := [(o_page, .inl (cI, 70, .inl vo_page)), (o_rows, .inl (cI, 54, .inl vo_rows)), (o_turns, .inl (cI, 9, .inl vo_turns)), (o_amounts, .inl (cJ, 9, .inr (.inl vo_amounts))), (o_drank, .inl (cJ, 9, .inr (.inl vo_drank))), (o_takes, .inl (cJ, 9, .inr (.inl vo_takes))), (o_leans, .inl (cI, 9, .inl vo_leans)), (o_would, .inl (cJ, 9, .inr (.inl vo_would)))]) (w1 := [(o, .inr (6, [.ref o_page, .int vo_pageMany, .int vo_readMany, .int vo_state, .int vo_readMost, .ref o_readRows, .int vo_glasses, .int vo_towersRead, .int vo_poured, .ref o_rows, .ref o_turns, .ref o_amounts, .ref o_drank, .long vo_spilt, .ref o_takes, .ref o_leans, .ref o_would, .int vo_done, .int vo_seedNow, .int vo_keptTower, .int vo_keptPoured, .long vo_keptSpilt, .ref o_keptAmounts, .ref o_keptDrank, .ref o_keptTurns, .long u10]))]) (va_runV (As := [.long r9]) (rest := []) ⟨hx, hb, hml, hown, hts⟩ (k_X6_say l dC dI cI cJ cC H.size o o_page o_readRows o_rows o_turns o_amounts o_drank o_takes o_leans o_would o_keptAmounts o_keptDrank o_keptTurns vo_pageMany vo_readMany vo_state vo_readMost vo_glasses vo_towersRead vo_poured vo_spilt vo_done vo_seedNow vo_keptTower vo_keptPoured vo_keptSpilt u8 r9 u10 ev_10) (cwV 1 hts gX6_digest_X6_say rfl rfl rfl (by decide +kernel) ⟨Nat.le_of_ble_eq_true rfl, Nat.le_of_ble_eq_true rfl⟩) (zz_preV [8] hK hP hD rfl rfl (va_recv hK hP (ci := 6) (q0 := 8) rfl rfl)) rfl rfl hl.1 rfl (lv_room (Nat.le_of_ble_eq_true rfl)) dX6_digest_49 ⟨Nat.zero_le _, Nat.zero_le _⟩) hP hD hS hA rfl rfl rfl (by decide) (fun ok_11 H locs hP hD hS => ?_)
    have hP : va_P (dC, dI) vwCl [(o_page, .inl (cI, 70, .inl vo_page)), (o_rows, .inl (cI, 54, .inl vo_rows)), (o_turns, .inl (cI, 9, .inl vo_turns)), (o_amounts, .inl (cJ, 9, .inr (.inl vo_amounts))), (o_drank, .inl (cJ, 9, .inr (.inl vo_drank))), (o_takes, .inl (cJ, 9, .inr (.inl vo_takes))), (o_leans, .inl (cI, 9, .inl vo_leans)), (o_would, .inl (cJ, 9, .inr (.inl vo_would))), (o, .inr (6, [.ref o_page, .int vo_pageMany, .int vo_readMany, .int vo_state, .int vo_readMost, .ref o_readRows, .int vo_glasses, .int vo_towersRead, .int vo_poured, .ref o_rows, .ref o_turns, .ref o_amounts, .ref o_drank, .long vo_spilt, .ref o_takes, .ref o_leans, .ref o_would, .int vo_done, .int vo_seedNow, .int vo_keptTower, .int vo_keptPoured, .long vo_keptSpilt, .ref o_keptAmounts, .ref o_keptDrank, .ref o_keptTurns, .long u10]))] H := hP
    have hD : va_D A [(o_page, .inl (cI, 70, .inl vo_page)), (o_rows, .inl (cI, 54, .inl vo_rows)), (o_turns, .inl (cI, 9, .inl vo_turns)), (o_amounts, .inl (cJ, 9, .inr (.inl vo_amounts))), (o_drank, .inl (cJ, 9, .inr (.inl vo_drank))), (o_takes, .inl (cJ, 9, .inr (.inl vo_takes))), (o_leans, .inl (cI, 9, .inl vo_leans)), (o_would, .inl (cJ, 9, .inr (.inl vo_would))), (o, .inr (6, [.ref o_page, .int vo_pageMany, .int vo_readMany, .int vo_state, .int vo_readMost, .ref o_readRows, .int vo_glasses, .int vo_towersRead, .int vo_poured, .ref o_rows, .ref o_turns, .ref o_amounts, .ref o_drank, .long vo_spilt, .ref o_takes, .ref o_leans, .ref o_would, .int vo_done, .int vo_seedNow, .int vo_keptTower, .int vo_keptPoured, .long vo_keptSpilt, .ref o_keptAmounts, .ref o_keptDrank, .ref o_keptTurns, .long u10]))] := hD
    refine lv_aload_n hx hb dX6_digest_52 rfl (lv_at hl 0 rfl) ?_
    refine lv_aload_n hx hb dX6_digest_53 rfl (lv_at hl 0 rfl) ?_
    obtain ⟨r11, ev_12⟩ : ∃ x0, (m_X6_together vo_glasses vo_amounts) = x0 := ⟨_, rfl⟩
    replace hT := cut_n ev_12 hT
    refine zz_cl [8, 3] [0, 1, 2, 4, 5, 6, 7] (wr := [(o_page, .inl (cI, 70, .inl vo_page)), (o_rows, .inl (cI, 54, .inl vo_rows)), (o_turns, .inl (cI, 9, .inl vo_turns)), (o_drank, .inl (cJ, 9, .inr (.inl vo_drank))), (o_takes, .inl (cJ, 9, .inr (.inl vo_takes))), (o_leans, .inl (cI, 9, .inl vo_leans)), (o_would, .inl (cJ, 9, .inr (.inl vo_would)))]) (w1 := [(o, .inr (6, [.ref o_page, .int vo_pageMany, .int vo_readMany, .int vo_state, .int vo_readMost, .ref o_readRows, .int vo_glasses, .int vo_towersRead, .int vo_poured, .ref o_rows, .ref o_turns, .ref o_amounts, .ref o_drank, .long vo_spilt, .ref o_takes, .ref o_leans, .ref o_would, .int vo_done, .int vo_seedNow, .int vo_keptTower, .int vo_keptPoured, .long vo_keptSpilt, .ref o_keptAmounts, .ref o_keptDrank, .ref o_keptTurns, .long u10])), (o_amounts, .inl (cJ, 9, .inr (.inl vo_amounts)))]) (va_runV (As := []) (rest := [.ref o]) ⟨hx, hb, hml, hown, hts⟩ (k_X6_together l dC dI cI cJ cC H.size o o_page o_readRows o_rows o_turns o_amounts o_drank o_takes o_leans o_would o_keptAmounts o_keptDrank o_keptTurns vo_pageMany vo_readMany vo_state vo_readMost vo_glasses vo_towersRead vo_poured vo_spilt vo_done vo_seedNow vo_keptTower vo_keptPoured vo_keptSpilt u10 vo_amounts r11 ev_12 hg0 hg9) (cwV 0 hts gX6_digest_X6_together rfl rfl rfl (by decide +kernel) ⟨Nat.le_of_ble_eq_true rfl, Nat.le_of_ble_eq_true rfl⟩) (zz_preV [8, 3] hK hP hD rfl rfl (va_recv hK hP (ci := 6) (q0 := 8) rfl rfl)) rfl rfl hl.1 rfl (lv_room (Nat.le_of_ble_eq_true rfl)) dX6_digest_54 ⟨Nat.zero_le _, Nat.zero_le _⟩) hP hD hS hA rfl rfl rfl (by decide) (fun ok_13 H locs hP hD hS => ?_)
    have hP : va_P (dC, dI) vwCl [(o_page, .inl (cI, 70, .inl vo_page)), (o_rows, .inl (cI, 54, .inl vo_rows)), (o_turns, .inl (cI, 9, .inl vo_turns)), (o_drank, .inl (cJ, 9, .inr (.inl vo_drank))), (o_takes, .inl (cJ, 9, .inr (.inl vo_takes))), (o_leans, .inl (cI, 9, .inl vo_leans)), (o_would, .inl (cJ, 9, .inr (.inl vo_would))), (o, .inr (6, [.ref o_page, .int vo_pageMany, .int vo_readMany, .int vo_state, .int vo_readMost, .ref o_readRows, .int vo_glasses, .int vo_towersRead, .int vo_poured, .ref o_rows, .ref o_turns, .ref o_amounts, .ref o_drank, .long vo_spilt, .ref o_takes, .ref o_leans, .ref o_would, .int vo_done, .int vo_seedNow, .int vo_keptTower, .int vo_keptPoured, .long vo_keptSpilt, .ref o_keptAmounts, .ref o_keptDrank, .ref o_keptTurns, .long u10])), (o_amounts, .inl (cJ, 9, .inr (.inl vo_amounts)))] H := hP
    have hD : va_D A [(o_page, .inl (cI, 70, .inl vo_page)), (o_rows, .inl (cI, 54, .inl vo_rows)), (o_turns, .inl (cI, 9, .inl vo_turns)), (o_drank, .inl (cJ, 9, .inr (.inl vo_drank))), (o_takes, .inl (cJ, 9, .inr (.inl vo_takes))), (o_leans, .inl (cI, 9, .inl vo_leans)), (o_would, .inl (cJ, 9, .inr (.inl vo_would))), (o, .inr (6, [.ref o_page, .int vo_pageMany, .int vo_readMany, .int vo_state, .int vo_readMost, .ref o_readRows, .int vo_glasses, .int vo_towersRead, .int vo_poured, .ref o_rows, .ref o_turns, .ref o_amounts, .ref o_drank, .long vo_spilt, .ref o_takes, .ref o_leans, .ref o_would, .int vo_done, .int vo_seedNow, .int vo_keptTower, .int vo_keptPoured, .long vo_keptSpilt, .ref o_keptAmounts, .ref o_keptDrank, .ref o_keptTurns, .long u10])), (o_amounts, .inl (cJ, 9, .inr (.inl vo_amounts)))] := hD
    refine lv_iconst (v := (0 : Int32)) hx hb dX6_digest_57 (by decide) ?_
    obtain ⟨r12, ev_14⟩ : ∃ x0, (m_X6_term r11 (0 : Int32)) = x0 := ⟨_, rfl⟩
    replace hT := cut_n ev_14 hT
    refine zz_cl [] [0, 1, 2, 3, 4, 5, 6, 7, 8] (wr := [(o_page, .inl (cI, 70, .inl vo_page)), (o_rows, .inl (cI, 54, .inl vo_rows)), (o_turns, .inl (cI, 9, .inl vo_turns)), (o_drank, .inl (cJ, 9, .inr (.inl vo_drank))), (o_takes, .inl (cJ, 9, .inr (.inl vo_takes))), (o_leans, .inl (cI, 9, .inl vo_leans)), (o_would, .inl (cJ, 9, .inr (.inl vo_would))), (o, .inr (6, [.ref o_page, .int vo_pageMany, .int vo_readMany, .int vo_state, .int vo_readMost, .ref o_readRows, .int vo_glasses, .int vo_towersRead, .int vo_poured, .ref o_rows, .ref o_turns, .ref o_amounts, .ref o_drank, .long vo_spilt, .ref o_takes, .ref o_leans, .ref o_would, .int vo_done, .int vo_seedNow, .int vo_keptTower, .int vo_keptPoured, .long vo_keptSpilt, .ref o_keptAmounts, .ref o_keptDrank, .ref o_keptTurns, .long u10])), (o_amounts, .inl (cJ, 9, .inr (.inl vo_amounts)))]) (w1 := []) (va_runS (As := [.long r11, .int (0 : Int32)]) (rest := [.ref o]) ⟨hx, hb, hml, hown, hts⟩ (k_X6_term l dC dI cI cJ cC H.size r11 (0 : Int32) r12 ev_14) (va_cwS 2 hts gX6_digest_X6_term rfl rfl rfl (by decide +kernel) ⟨Nat.le_of_ble_eq_true rfl, Nat.le_of_ble_eq_true rfl⟩) (zz_preS [] hK hP hD rfl rfl) rfl rfl hl.1 rfl (lv_room (Nat.le_of_ble_eq_true rfl)) dX6_digest_58 ⟨Nat.zero_le _, Nat.zero_le _⟩) hP hD hS hA rfl rfl rfl (by decide) (fun ok_15 H locs hP hD hS => ?_)
    have hP : va_P (dC, dI) vwCl [(o_page, .inl (cI, 70, .inl vo_page)), (o_rows, .inl (cI, 54, .inl vo_rows)), (o_turns, .inl (cI, 9, .inl vo_turns)), (o_drank, .inl (cJ, 9, .inr (.inl vo_drank))), (o_takes, .inl (cJ, 9, .inr (.inl vo_takes))), (o_leans, .inl (cI, 9, .inl vo_leans)), (o_would, .inl (cJ, 9, .inr (.inl vo_would))), (o, .inr (6, [.ref o_page, .int vo_pageMany, .int vo_readMany, .int vo_state, .int vo_readMost, .ref o_readRows, .int vo_glasses, .int vo_towersRead, .int vo_poured, .ref o_rows, .ref o_turns, .ref o_amounts, .ref o_drank, .long vo_spilt, .ref o_takes, .ref o_leans, .ref o_would, .int vo_done, .int vo_seedNow, .int vo_keptTower, .int vo_keptPoured, .long vo_keptSpilt, .ref o_keptAmounts, .ref o_keptDrank, .ref o_keptTurns, .long u10])), (o_amounts, .inl (cJ, 9, .inr (.inl vo_amounts)))] H := hP
    have hD : va_D A [(o_page, .inl (cI, 70, .inl vo_page)), (o_rows, .inl (cI, 54, .inl vo_rows)), (o_turns, .inl (cI, 9, .inl vo_turns)), (o_drank, .inl (cJ, 9, .inr (.inl vo_drank))), (o_takes, .inl (cJ, 9, .inr (.inl vo_takes))), (o_leans, .inl (cI, 9, .inl vo_leans)), (o_would, .inl (cJ, 9, .inr (.inl vo_would))), (o, .inr (6, [.ref o_page, .int vo_pageMany, .int vo_readMany, .int vo_state, .int vo_readMost, .ref o_readRows, .int vo_glasses, .int vo_towersRead, .int vo_poured, .ref o_rows, .ref o_turns, .ref o_amounts, .ref o_drank, .long vo_spilt, .ref o_takes, .ref o_leans, .ref o_would, .int vo_done, .int vo_seedNow, .int vo_keptTower, .int vo_keptPoured, .long vo_keptSpilt, .ref o_keptAmounts, .ref o_keptDrank, .ref o_keptTurns, .long u10])), (o_amounts, .inl (cJ, 9, .inr (.inl vo_amounts)))] := hD
    obtain ⟨u13, ev_16⟩ : ∃ x0, (m_X6_say u10 r12) = x0 := ⟨_, rfl⟩
    replace hT := cut_n ev_16 hT
    refine zz_cv [7] [0, 1, 2, 3, 4, 5, 6, 8] (wr := [(o_page, .inl (cI, 70, .inl vo_page)), (o_rows, .inl (cI, 54, .inl vo_rows)), (o_turns, .inl (cI, 9, .inl vo_turns)), (o_drank, .inl (cJ, 9, .inr (.inl vo_drank))), (o_takes, .inl (cJ, 9, .inr (.inl vo_takes))), (o_leans, .inl (cI, 9, .inl vo_leans)), (o_would, .inl (cJ, 9, .inr (.inl vo_would))), (o_amounts, .inl (cJ, 9, .inr (.inl vo_amounts)))]) (w1 := [(o, .inr (6, [.ref o_page, .int vo_pageMany, .int vo_readMany, .int vo_state, .int vo_readMost, .ref o_readRows, .int vo_glasses, .int vo_towersRead, .int vo_poured, .ref o_rows, .ref o_turns, .ref o_amounts, .ref o_drank, .long vo_spilt, .ref o_takes, .ref o_leans, .ref o_would, .int vo_done, .int vo_seedNow, .int vo_keptTower, .int vo_keptPoured, .long vo_keptSpilt, .ref o_keptAmounts, .ref o_keptDrank, .ref o_keptTurns, .long u13]))]) (va_runV (As := [.long r12]) (rest := []) ⟨hx, hb, hml, hown, hts⟩ (k_X6_say l dC dI cI cJ cC H.size o o_page o_readRows o_rows o_turns o_amounts o_drank o_takes o_leans o_would o_keptAmounts o_keptDrank o_keptTurns vo_pageMany vo_readMany vo_state vo_readMost vo_glasses vo_towersRead vo_poured vo_spilt vo_done vo_seedNow vo_keptTower vo_keptPoured vo_keptSpilt u10 r12 u13 ev_16) (cwV 1 hts gX6_digest_X6_say rfl rfl rfl (by decide +kernel) ⟨Nat.le_of_ble_eq_true rfl, Nat.le_of_ble_eq_true rfl⟩) (zz_preV [7] hK hP hD rfl rfl (va_recv hK hP (ci := 6) (q0 := 7) rfl rfl)) rfl rfl hl.1 rfl (lv_room (Nat.le_of_ble_eq_true rfl)) dX6_digest_61 ⟨Nat.zero_le _, Nat.zero_le _⟩) hP hD hS hA rfl rfl rfl (by decide) (fun ok_17 H locs hP hD hS => ?_)
    have hP : va_P (dC, dI) vwCl [(o_page, .inl (cI, 70, .inl vo_page)), (o_rows, .inl (cI, 54, .inl vo_rows)), (o_turns, .inl (cI, 9, .inl vo_turns)), (o_drank, .inl (cJ, 9, .inr (.inl vo_drank))), (o_takes, .inl (cJ, 9, .inr (.inl vo_takes))), (o_leans, .inl (cI, 9, .inl vo_leans)), (o_would, .inl (cJ, 9, .inr (.inl vo_would))), (o_amounts, .inl (cJ, 9, .inr (.inl vo_amounts))), (o, .inr (6, [.ref o_page, .int vo_pageMany, .int vo_readMany, .int vo_state, .int vo_readMost, .ref o_readRows, .int vo_glasses, .int vo_towersRead, .int vo_poured, .ref o_rows, .ref o_turns, .ref o_amounts, .ref o_drank, .long vo_spilt, .ref o_takes, .ref o_leans, .ref o_would, .int vo_done, .int vo_seedNow, .int vo_keptTower, .int vo_keptPoured, .long vo_keptSpilt, .ref o_keptAmounts, .ref o_keptDrank, .ref o_keptTurns, .long u13]))] H := hP
    have hD : va_D A [(o_page, .inl (cI, 70, .inl vo_page)), (o_rows, .inl (cI, 54, .inl vo_rows)), (o_turns, .inl (cI, 9, .inl vo_turns)), (o_drank, .inl (cJ, 9, .inr (.inl vo_drank))), (o_takes, .inl (cJ, 9, .inr (.inl vo_takes))), (o_leans, .inl (cI, 9, .inl vo_leans)), (o_would, .inl (cJ, 9, .inr (.inl vo_would))), (o_amounts, .inl (cJ, 9, .inr (.inl vo_amounts))), (o, .inr (6, [.ref o_page, .int vo_pageMany, .int vo_readMany, .int vo_state, .int vo_readMost, .ref o_readRows, .int vo_glasses, .int vo_towersRead, .int vo_poured, .ref o_rows, .ref o_turns, .ref o_amounts, .ref o_drank, .long vo_spilt, .ref o_takes, .ref o_leans, .ref o_would, .int vo_done, .int vo_seedNow, .int vo_keptTower, .int vo_keptPoured, .long vo_keptSpilt, .ref o_keptAmounts, .ref o_keptDrank, .ref o_keptTurns, .long u13]))] := hD
    refine lv_aload_n hx hb dX6_digest_64 rfl (lv_at hl 0 rfl) ?_
    refine lv_aload_n hx hb dX6_digest_65 rfl (lv_at hl 0 rfl) ?_
    obtain ⟨r14, ev_18⟩ : ∃ x0, (m_X6_together vo_glasses vo_amounts) = x0 := ⟨_, rfl⟩
    replace hT := cut_n ev_18 hT
    refine zz_cl [8, 7] [0, 1, 2, 3, 4, 5, 6] (wr := [(o_page, .inl (cI, 70, .inl vo_page)), (o_rows, .inl (cI, 54, .inl vo_rows)), (o_turns, .inl (cI, 9, .inl vo_turns)), (o_drank, .inl (cJ, 9, .inr (.inl vo_drank))), (o_takes, .inl (cJ, 9, .inr (.inl vo_takes))), (o_leans, .inl (cI, 9, .inl vo_leans)), (o_would, .inl (cJ, 9, .inr (.inl vo_would)))]) (w1 := [(o, .inr (6, [.ref o_page, .int vo_pageMany, .int vo_readMany, .int vo_state, .int vo_readMost, .ref o_readRows, .int vo_glasses, .int vo_towersRead, .int vo_poured, .ref o_rows, .ref o_turns, .ref o_amounts, .ref o_drank, .long vo_spilt, .ref o_takes, .ref o_leans, .ref o_would, .int vo_done, .int vo_seedNow, .int vo_keptTower, .int vo_keptPoured, .long vo_keptSpilt, .ref o_keptAmounts, .ref o_keptDrank, .ref o_keptTurns, .long u13])), (o_amounts, .inl (cJ, 9, .inr (.inl vo_amounts)))]) (va_runV (As := []) (rest := [.ref o]) ⟨hx, hb, hml, hown, hts⟩ (k_X6_together l dC dI cI cJ cC H.size o o_page o_readRows o_rows o_turns o_amounts o_drank o_takes o_leans o_would o_keptAmounts o_keptDrank o_keptTurns vo_pageMany vo_readMany vo_state vo_readMost vo_glasses vo_towersRead vo_poured vo_spilt vo_done vo_seedNow vo_keptTower vo_keptPoured vo_keptSpilt u13 vo_amounts r14 ev_18 hg0 hg9) (cwV 0 hts gX6_digest_X6_together rfl rfl rfl (by decide +kernel) ⟨Nat.le_of_ble_eq_true rfl, Nat.le_of_ble_eq_true rfl⟩) (zz_preV [8, 7] hK hP hD rfl rfl (va_recv hK hP (ci := 6) (q0 := 8) rfl rfl)) rfl rfl hl.1 rfl (lv_room (Nat.le_of_ble_eq_true rfl)) dX6_digest_66 ⟨Nat.zero_le _, Nat.zero_le _⟩) hP hD hS hA rfl rfl rfl (by decide) (fun ok_19 H locs hP hD hS => ?_)
    have hP : va_P (dC, dI) vwCl [(o_page, .inl (cI, 70, .inl vo_page)), (o_rows, .inl (cI, 54, .inl vo_rows)), (o_turns, .inl (cI, 9, .inl vo_turns)), (o_drank, .inl (cJ, 9, .inr (.inl vo_drank))), (o_takes, .inl (cJ, 9, .inr (.inl vo_takes))), (o_leans, .inl (cI, 9, .inl vo_leans)), (o_would, .inl (cJ, 9, .inr (.inl vo_would))), (o, .inr (6, [.ref o_page, .int vo_pageMany, .int vo_readMany, .int vo_state, .int vo_readMost, .ref o_readRows, .int vo_glasses, .int vo_towersRead, .int vo_poured, .ref o_rows, .ref o_turns, .ref o_amounts, .ref o_drank, .long vo_spilt, .ref o_takes, .ref o_leans, .ref o_would, .int vo_done, .int vo_seedNow, .int vo_keptTower, .int vo_keptPoured, .long vo_keptSpilt, .ref o_keptAmounts, .ref o_keptDrank, .ref o_keptTurns, .long u13])), (o_amounts, .inl (cJ, 9, .inr (.inl vo_amounts)))] H := hP
    have hD : va_D A [(o_page, .inl (cI, 70, .inl vo_page)), (o_rows, .inl (cI, 54, .inl vo_rows)), (o_turns, .inl (cI, 9, .inl vo_turns)), (o_drank, .inl (cJ, 9, .inr (.inl vo_drank))), (o_takes, .inl (cJ, 9, .inr (.inl vo_takes))), (o_leans, .inl (cI, 9, .inl vo_leans)), (o_would, .inl (cJ, 9, .inr (.inl vo_would))), (o, .inr (6, [.ref o_page, .int vo_pageMany, .int vo_readMany, .int vo_state, .int vo_readMost, .ref o_readRows, .int vo_glasses, .int vo_towersRead, .int vo_poured, .ref o_rows, .ref o_turns, .ref o_amounts, .ref o_drank, .long vo_spilt, .ref o_takes, .ref o_leans, .ref o_would, .int vo_done, .int vo_seedNow, .int vo_keptTower, .int vo_keptPoured, .long vo_keptSpilt, .ref o_keptAmounts, .ref o_keptDrank, .ref o_keptTurns, .long u13])), (o_amounts, .inl (cJ, 9, .inr (.inl vo_amounts)))] := hD
    refine lv_iconst (v := (1 : Int32)) hx hb dX6_digest_69 (by decide) ?_
    obtain ⟨r15, ev_20⟩ : ∃ x0, (m_X6_term r14 (1 : Int32)) = x0 := ⟨_, rfl⟩
    replace hT := cut_n ev_20 hT
    refine zz_cl [] [0, 1, 2, 3, 4, 5, 6, 7, 8] (wr := [(o_page, .inl (cI, 70, .inl vo_page)), (o_rows, .inl (cI, 54, .inl vo_rows)), (o_turns, .inl (cI, 9, .inl vo_turns)), (o_drank, .inl (cJ, 9, .inr (.inl vo_drank))), (o_takes, .inl (cJ, 9, .inr (.inl vo_takes))), (o_leans, .inl (cI, 9, .inl vo_leans)), (o_would, .inl (cJ, 9, .inr (.inl vo_would))), (o, .inr (6, [.ref o_page, .int vo_pageMany, .int vo_readMany, .int vo_state, .int vo_readMost, .ref o_readRows, .int vo_glasses, .int vo_towersRead, .int vo_poured, .ref o_rows, .ref o_turns, .ref o_amounts, .ref o_drank, .long vo_spilt, .ref o_takes, .ref o_leans, .ref o_would, .int vo_done, .int vo_seedNow, .int vo_keptTower, .int vo_keptPoured, .long vo_keptSpilt, .ref o_keptAmounts, .ref o_keptDrank, .ref o_keptTurns, .long u13])), (o_amounts, .inl (cJ, 9, .inr (.inl vo_amounts)))]) (w1 := []) (va_runS (As := [.long r14, .int (1 : Int32)]) (rest := [.ref o]) ⟨hx, hb, hml, hown, hts⟩ (k_X6_term l dC dI cI cJ cC H.size r14 (1 : Int32) r15 ev_20) (va_cwS 2 hts gX6_digest_X6_term rfl rfl rfl (by decide +kernel) ⟨Nat.le_of_ble_eq_true rfl, Nat.le_of_ble_eq_true rfl⟩) (zz_preS [] hK hP hD rfl rfl) rfl rfl hl.1 rfl (lv_room (Nat.le_of_ble_eq_true rfl)) dX6_digest_70 ⟨Nat.zero_le _, Nat.zero_le _⟩) hP hD hS hA rfl rfl rfl (by decide) (fun ok_21 H locs hP hD hS => ?_)
    have hP : va_P (dC, dI) vwCl [(o_page, .inl (cI, 70, .inl vo_page)), (o_rows, .inl (cI, 54, .inl vo_rows)), (o_turns, .inl (cI, 9, .inl vo_turns)), (o_drank, .inl (cJ, 9, .inr (.inl vo_drank))), (o_takes, .inl (cJ, 9, .inr (.inl vo_takes))), (o_leans, .inl (cI, 9, .inl vo_leans)), (o_would, .inl (cJ, 9, .inr (.inl vo_would))), (o, .inr (6, [.ref o_page, .int vo_pageMany, .int vo_readMany, .int vo_state, .int vo_readMost, .ref o_readRows, .int vo_glasses, .int vo_towersRead, .int vo_poured, .ref o_rows, .ref o_turns, .ref o_amounts, .ref o_drank, .long vo_spilt, .ref o_takes, .ref o_leans, .ref o_would, .int vo_done, .int vo_seedNow, .int vo_keptTower, .int vo_keptPoured, .long vo_keptSpilt, .ref o_keptAmounts, .ref o_keptDrank, .ref o_keptTurns, .long u13])), (o_amounts, .inl (cJ, 9, .inr (.inl vo_amounts)))] H := hP
    have hD : va_D A [(o_page, .inl (cI, 70, .inl vo_page)), (o_rows, .inl (cI, 54, .inl vo_rows)), (o_turns, .inl (cI, 9, .inl vo_turns)), (o_drank, .inl (cJ, 9, .inr (.inl vo_drank))), (o_takes, .inl (cJ, 9, .inr (.inl vo_takes))), (o_leans, .inl (cI, 9, .inl vo_leans)), (o_would, .inl (cJ, 9, .inr (.inl vo_would))), (o, .inr (6, [.ref o_page, .int vo_pageMany, .int vo_readMany, .int vo_state, .int vo_readMost, .ref o_readRows, .int vo_glasses, .int vo_towersRead, .int vo_poured, .ref o_rows, .ref o_turns, .ref o_amounts, .ref o_drank, .long vo_spilt, .ref o_takes, .ref o_leans, .ref o_would, .int vo_done, .int vo_seedNow, .int vo_keptTower, .int vo_keptPoured, .long vo_keptSpilt, .ref o_keptAmounts, .ref o_keptDrank, .ref o_keptTurns, .long u13])), (o_amounts, .inl (cJ, 9, .inr (.inl vo_amounts)))] := hD
    obtain ⟨u16, ev_22⟩ : ∃ x0, (m_X6_say u13 r15) = x0 := ⟨_, rfl⟩
    replace hT := cut_n ev_22 hT
    refine zz_cv [7] [0, 1, 2, 3, 4, 5, 6, 8] (wr := [(o_page, .inl (cI, 70, .inl vo_page)), (o_rows, .inl (cI, 54, .inl vo_rows)), (o_turns, .inl (cI, 9, .inl vo_turns)), (o_drank, .inl (cJ, 9, .inr (.inl vo_drank))), (o_takes, .inl (cJ, 9, .inr (.inl vo_takes))), (o_leans, .inl (cI, 9, .inl vo_leans)), (o_would, .inl (cJ, 9, .inr (.inl vo_would))), (o_amounts, .inl (cJ, 9, .inr (.inl vo_amounts)))]) (w1 := [(o, .inr (6, [.ref o_page, .int vo_pageMany, .int vo_readMany, .int vo_state, .int vo_readMost, .ref o_readRows, .int vo_glasses, .int vo_towersRead, .int vo_poured, .ref o_rows, .ref o_turns, .ref o_amounts, .ref o_drank, .long vo_spilt, .ref o_takes, .ref o_leans, .ref o_would, .int vo_done, .int vo_seedNow, .int vo_keptTower, .int vo_keptPoured, .long vo_keptSpilt, .ref o_keptAmounts, .ref o_keptDrank, .ref o_keptTurns, .long u16]))]) (va_runV (As := [.long r15]) (rest := []) ⟨hx, hb, hml, hown, hts⟩ (k_X6_say l dC dI cI cJ cC H.size o o_page o_readRows o_rows o_turns o_amounts o_drank o_takes o_leans o_would o_keptAmounts o_keptDrank o_keptTurns vo_pageMany vo_readMany vo_state vo_readMost vo_glasses vo_towersRead vo_poured vo_spilt vo_done vo_seedNow vo_keptTower vo_keptPoured vo_keptSpilt u13 r15 u16 ev_22) (cwV 1 hts gX6_digest_X6_say rfl rfl rfl (by decide +kernel) ⟨Nat.le_of_ble_eq_true rfl, Nat.le_of_ble_eq_true rfl⟩) (zz_preV [7] hK hP hD rfl rfl (va_recv hK hP (ci := 6) (q0 := 7) rfl rfl)) rfl rfl hl.1 rfl (lv_room (Nat.le_of_ble_eq_true rfl)) dX6_digest_73 ⟨Nat.zero_le _, Nat.zero_le _⟩) hP hD hS hA rfl rfl rfl (by decide) (fun ok_23 H locs hP hD hS => ?_)
    have hP : va_P (dC, dI) vwCl [(o_page, .inl (cI, 70, .inl vo_page)), (o_rows, .inl (cI, 54, .inl vo_rows)), (o_turns, .inl (cI, 9, .inl vo_turns)), (o_drank, .inl (cJ, 9, .inr (.inl vo_drank))), (o_takes, .inl (cJ, 9, .inr (.inl vo_takes))), (o_leans, .inl (cI, 9, .inl vo_leans)), (o_would, .inl (cJ, 9, .inr (.inl vo_would))), (o_amounts, .inl (cJ, 9, .inr (.inl vo_amounts))), (o, .inr (6, [.ref o_page, .int vo_pageMany, .int vo_readMany, .int vo_state, .int vo_readMost, .ref o_readRows, .int vo_glasses, .int vo_towersRead, .int vo_poured, .ref o_rows, .ref o_turns, .ref o_amounts, .ref o_drank, .long vo_spilt, .ref o_takes, .ref o_leans, .ref o_would, .int vo_done, .int vo_seedNow, .int vo_keptTower, .int vo_keptPoured, .long vo_keptSpilt, .ref o_keptAmounts, .ref o_keptDrank, .ref o_keptTurns, .long u16]))] H := hP
    have hD : va_D A [(o_page, .inl (cI, 70, .inl vo_page)), (o_rows, .inl (cI, 54, .inl vo_rows)), (o_turns, .inl (cI, 9, .inl vo_turns)), (o_drank, .inl (cJ, 9, .inr (.inl vo_drank))), (o_takes, .inl (cJ, 9, .inr (.inl vo_takes))), (o_leans, .inl (cI, 9, .inl vo_leans)), (o_would, .inl (cJ, 9, .inr (.inl vo_would))), (o_amounts, .inl (cJ, 9, .inr (.inl vo_amounts))), (o, .inr (6, [.ref o_page, .int vo_pageMany, .int vo_readMany, .int vo_state, .int vo_readMost, .ref o_readRows, .int vo_glasses, .int vo_towersRead, .int vo_poured, .ref o_rows, .ref o_turns, .ref o_amounts, .ref o_drank, .long vo_spilt, .ref o_takes, .ref o_leans, .ref o_would, .int vo_done, .int vo_seedNow, .int vo_keptTower, .int vo_keptPoured, .long vo_keptSpilt, .ref o_keptAmounts, .ref o_keptDrank, .ref o_keptTurns, .long u16]))] := hD
    refine lv_aload_n hx hb dX6_digest_76 rfl (lv_at hl 0 rfl) ?_
    obtain ⟨r17, ev_24⟩ : ∃ x0, (m_X6_lacks vo_glasses) = x0 := ⟨_, rfl⟩
    replace hT := cut_n ev_24 hT
    refine zz_ci [8] [0, 1, 2, 3, 4, 5, 6, 7] (wr := [(o_page, .inl (cI, 70, .inl vo_page)), (o_rows, .inl (cI, 54, .inl vo_rows)), (o_turns, .inl (cI, 9, .inl vo_turns)), (o_drank, .inl (cJ, 9, .inr (.inl vo_drank))), (o_takes, .inl (cJ, 9, .inr (.inl vo_takes))), (o_leans, .inl (cI, 9, .inl vo_leans)), (o_would, .inl (cJ, 9, .inr (.inl vo_would))), (o_amounts, .inl (cJ, 9, .inr (.inl vo_amounts)))]) (w1 := [(o, .inr (6, [.ref o_page, .int vo_pageMany, .int vo_readMany, .int vo_state, .int vo_readMost, .ref o_readRows, .int vo_glasses, .int vo_towersRead, .int vo_poured, .ref o_rows, .ref o_turns, .ref o_amounts, .ref o_drank, .long vo_spilt, .ref o_takes, .ref o_leans, .ref o_would, .int vo_done, .int vo_seedNow, .int vo_keptTower, .int vo_keptPoured, .long vo_keptSpilt, .ref o_keptAmounts, .ref o_keptDrank, .ref o_keptTurns, .long u16]))]) (va_runV (As := []) (rest := []) ⟨hx, hb, hml, hown, hts⟩ (k_X6_lacks l dC dI cI cJ cC H.size o o_page o_readRows o_rows o_turns o_amounts o_drank o_takes o_leans o_would o_keptAmounts o_keptDrank o_keptTurns vo_pageMany vo_readMany vo_state vo_readMost vo_glasses vo_towersRead vo_poured vo_spilt vo_done vo_seedNow vo_keptTower vo_keptPoured vo_keptSpilt u16 r17 ev_24) (cwV 0 hts gX6_digest_X6_lacks rfl rfl rfl (by decide +kernel) ⟨Nat.le_of_ble_eq_true rfl, Nat.le_of_ble_eq_true rfl⟩) (zz_preV [8] hK hP hD rfl rfl (va_recv hK hP (ci := 6) (q0 := 8) rfl rfl)) rfl rfl hl.1 rfl (lv_room (Nat.le_of_ble_eq_true rfl)) dX6_digest_77 ⟨Nat.zero_le _, Nat.zero_le _⟩) hP hD hS hA rfl rfl rfl (by decide) (fun ok_25 H locs hP hD hS => ?_)
    have hP : va_P (dC, dI) vwCl [(o_page, .inl (cI, 70, .inl vo_page)), (o_rows, .inl (cI, 54, .inl vo_rows)), (o_turns, .inl (cI, 9, .inl vo_turns)), (o_drank, .inl (cJ, 9, .inr (.inl vo_drank))), (o_takes, .inl (cJ, 9, .inr (.inl vo_takes))), (o_leans, .inl (cI, 9, .inl vo_leans)), (o_would, .inl (cJ, 9, .inr (.inl vo_would))), (o_amounts, .inl (cJ, 9, .inr (.inl vo_amounts))), (o, .inr (6, [.ref o_page, .int vo_pageMany, .int vo_readMany, .int vo_state, .int vo_readMost, .ref o_readRows, .int vo_glasses, .int vo_towersRead, .int vo_poured, .ref o_rows, .ref o_turns, .ref o_amounts, .ref o_drank, .long vo_spilt, .ref o_takes, .ref o_leans, .ref o_would, .int vo_done, .int vo_seedNow, .int vo_keptTower, .int vo_keptPoured, .long vo_keptSpilt, .ref o_keptAmounts, .ref o_keptDrank, .ref o_keptTurns, .long u16]))] H := hP
    have hD : va_D A [(o_page, .inl (cI, 70, .inl vo_page)), (o_rows, .inl (cI, 54, .inl vo_rows)), (o_turns, .inl (cI, 9, .inl vo_turns)), (o_drank, .inl (cJ, 9, .inr (.inl vo_drank))), (o_takes, .inl (cJ, 9, .inr (.inl vo_takes))), (o_leans, .inl (cI, 9, .inl vo_leans)), (o_would, .inl (cJ, 9, .inr (.inl vo_would))), (o_amounts, .inl (cJ, 9, .inr (.inl vo_amounts))), (o, .inr (6, [.ref o_page, .int vo_pageMany, .int vo_readMany, .int vo_state, .int vo_readMost, .ref o_readRows, .int vo_glasses, .int vo_towersRead, .int vo_poured, .ref o_rows, .ref o_turns, .ref o_amounts, .ref o_drank, .long vo_spilt, .ref o_takes, .ref o_leans, .ref o_would, .int vo_done, .int vo_seedNow, .int vo_keptTower, .int vo_keptPoured, .long vo_keptSpilt, .ref o_keptAmounts, .ref o_keptDrank, .ref o_keptTurns, .long u16]))] := hD
    obtain ⟨k_26, k_27, k_28⟩ := ok_25
    refine lv_if_ne (tgt := 130) hx hb dX6_digest_80 (by decide) (fun c_29 => ?_) (fun c_29 => ?_)
    · replace hT := cutF c_29 hT
      have g_59 := zeqF (rfl : (r17).toInt = _) (by decide : ((0 : Int32)).toInt = 0) c_29
      refine lv_iconst (v := (0 : Int32)) hx hb dX6_digest_130 (by decide) ?_
      refine lv_istore_n (lv' := [(1, .int (0 : Int32)), (0, .ref o)]) hx hb dX6_digest_131 rfl hl (by decide) rfl (fun ls hl => ?_)
      have hz_60 : ((0 : Int32)).toInt = 0 := by decide
      refine zz_loop (α := Int32 × Int64) 157 (fun k a H locs ls => (0 ≤ a.1.toInt) ∧ (a.1.toInt ≤ vo_pageMany.toInt) ∧ (vo_pageMany.toInt - a.1.toInt < ((k : Nat) : Int)) ∧ lp_X6_digest_7 vo_pageMany (rs_X6_digest_7 vo_takes vo_leans vo_would vo_pageMany vo_glasses vo_towersRead vo_poured vo_done vo_rows vo_amounts) vo_page k a.1 a.2 = (r, qo_hash, qo_takes, qo_leans, qo_would) ∧ va_P (dC, dI) vwCl [(o_page, .inl (cI, 70, .inl vo_page)), (o_rows, .inl (cI, 54, .inl vo_rows)), (o_turns, .inl (cI, 9, .inl vo_turns)), (o_drank, .inl (cJ, 9, .inr (.inl vo_drank))), (o_takes, .inl (cJ, 9, .inr (.inl vo_takes))), (o_leans, .inl (cI, 9, .inl vo_leans)), (o_would, .inl (cJ, 9, .inr (.inl vo_would))), (o_amounts, .inl (cJ, 9, .inr (.inl vo_amounts))), (o, .inr (6, [.ref o_page, .int vo_pageMany, .int vo_readMany, .int vo_state, .int vo_readMost, .ref o_readRows, .int vo_glasses, .int vo_towersRead, .int vo_poured, .ref o_rows, .ref o_turns, .ref o_amounts, .ref o_drank, .long vo_spilt, .ref o_takes, .ref o_leans, .ref o_would, .int vo_done, .int vo_seedNow, .int vo_keptTower, .int vo_keptPoured, .long vo_keptSpilt, .ref o_keptAmounts, .ref o_keptDrank, .ref o_keptTurns, .long a.2]))] H ∧ va_D A [(o_page, .inl (cI, 70, .inl vo_page)), (o_rows, .inl (cI, 54, .inl vo_rows)), (o_turns, .inl (cI, 9, .inl vo_turns)), (o_drank, .inl (cJ, 9, .inr (.inl vo_drank))), (o_takes, .inl (cJ, 9, .inr (.inl vo_takes))), (o_leans, .inl (cI, 9, .inl vo_leans)), (o_would, .inl (cJ, 9, .inr (.inl vo_would))), (o_amounts, .inl (cJ, 9, .inr (.inl vo_amounts))), (o, .inr (6, [.ref o_page, .int vo_pageMany, .int vo_readMany, .int vo_state, .int vo_readMost, .ref o_readRows, .int vo_glasses, .int vo_towersRead, .int vo_poured, .ref o_rows, .ref o_turns, .ref o_amounts, .ref o_drank, .long vo_spilt, .ref o_takes, .ref o_leans, .ref o_would, .int vo_done, .int vo_seedNow, .int vo_keptTower, .int vo_keptPoured, .long vo_keptSpilt, .ref o_keptAmounts, .ref o_keptDrank, .ref o_keptTurns, .long a.2]))] ∧ va_S A s.heap H locs ∧ lv_has ls 2 [(1, .int a.1), (0, .ref o)]) (fun a H locs ls => (0 ≤ a.1.toInt) ∧ (a.1.toInt ≤ vo_pageMany.toInt) ∧ (rs_X6_digest_7 vo_takes vo_leans vo_would vo_pageMany vo_glasses vo_towersRead vo_poured vo_done vo_rows vo_amounts) a.1 a.2 = (r, qo_hash, qo_takes, qo_leans, qo_would) ∧ va_P (dC, dI) vwCl [(o_page, .inl (cI, 70, .inl vo_page)), (o_rows, .inl (cI, 54, .inl vo_rows)), (o_turns, .inl (cI, 9, .inl vo_turns)), (o_drank, .inl (cJ, 9, .inr (.inl vo_drank))), (o_takes, .inl (cJ, 9, .inr (.inl vo_takes))), (o_leans, .inl (cI, 9, .inl vo_leans)), (o_would, .inl (cJ, 9, .inr (.inl vo_would))), (o_amounts, .inl (cJ, 9, .inr (.inl vo_amounts))), (o, .inr (6, [.ref o_page, .int vo_pageMany, .int vo_readMany, .int vo_state, .int vo_readMost, .ref o_readRows, .int vo_glasses, .int vo_towersRead, .int vo_poured, .ref o_rows, .ref o_turns, .ref o_amounts, .ref o_drank, .long vo_spilt, .ref o_takes, .ref o_leans, .ref o_would, .int vo_done, .int vo_seedNow, .int vo_keptTower, .int vo_keptPoured, .long vo_keptSpilt, .ref o_keptAmounts, .ref o_keptDrank, .ref o_keptTurns, .long a.2]))] H ∧ va_D A [(o_page, .inl (cI, 70, .inl vo_page)), (o_rows, .inl (cI, 54, .inl vo_rows)), (o_turns, .inl (cI, 9, .inl vo_turns)), (o_drank, .inl (cJ, 9, .inr (.inl vo_drank))), (o_takes, .inl (cJ, 9, .inr (.inl vo_takes))), (o_leans, .inl (cI, 9, .inl vo_leans)), (o_would, .inl (cJ, 9, .inr (.inl vo_would))), (o_amounts, .inl (cJ, 9, .inr (.inl vo_amounts))), (o, .inr (6, [.ref o_page, .int vo_pageMany, .int vo_readMany, .int vo_state, .int vo_readMost, .ref o_readRows, .int vo_glasses, .int vo_towersRead, .int vo_poured, .ref o_rows, .ref o_turns, .ref o_amounts, .ref o_drank, .long vo_spilt, .ref o_takes, .ref o_leans, .ref o_would, .int vo_done, .int vo_seedNow, .int vo_keptTower, .int vo_keptPoured, .long vo_keptSpilt, .ref o_keptAmounts, .ref o_keptDrank, .ref o_keptTurns, .long a.2]))] ∧ va_S A s.heap H locs ∧ lv_has ls 2 [(0, .ref o)]) ?_ ?_ ?_ 72 ((0 : Int32), u16) ⟨(by omega : 0 ≤ (0 : Int32).toInt), (by omega : (0 : Int32).toInt ≤ vo_pageMany.toInt), (by omega : vo_pageMany.toInt - (0 : Int32).toInt < ((72 : Nat) : Int)), hT, hP.sub [0, 1, 2, 3, 4, 5, 6, 7, 8] rfl, hD.sub [0, 1, 2, 3, 4, 5, 6, 7, 8] rfl rfl, hS, lv_sub hl [0, 1] rfl⟩
      · rintro ⟨x20, x21⟩ H locs ls ⟨i2, j2, hT, hP, hD, hS, hl⟩
        have hP : va_P (dC, dI) vwCl [(o_page, .inl (cI, 70, .inl vo_page)), (o_rows, .inl (cI, 54, .inl vo_rows)), (o_turns, .inl (cI, 9, .inl vo_turns)), (o_drank, .inl (cJ, 9, .inr (.inl vo_drank))), (o_takes, .inl (cJ, 9, .inr (.inl vo_takes))), (o_leans, .inl (cI, 9, .inl vo_leans)), (o_would, .inl (cJ, 9, .inr (.inl vo_would))), (o_amounts, .inl (cJ, 9, .inr (.inl vo_amounts))), (o, .inr (6, [.ref o_page, .int vo_pageMany, .int vo_readMany, .int vo_state, .int vo_readMost, .ref o_readRows, .int vo_glasses, .int vo_towersRead, .int vo_poured, .ref o_rows, .ref o_turns, .ref o_amounts, .ref o_drank, .long vo_spilt, .ref o_takes, .ref o_leans, .ref o_would, .int vo_done, .int vo_seedNow, .int vo_keptTower, .int vo_keptPoured, .long vo_keptSpilt, .ref o_keptAmounts, .ref o_keptDrank, .ref o_keptTurns, .long x21]))] H := hP
        have hD : va_D A [(o_page, .inl (cI, 70, .inl vo_page)), (o_rows, .inl (cI, 54, .inl vo_rows)), (o_turns, .inl (cI, 9, .inl vo_turns)), (o_drank, .inl (cJ, 9, .inr (.inl vo_drank))), (o_takes, .inl (cJ, 9, .inr (.inl vo_takes))), (o_leans, .inl (cI, 9, .inl vo_leans)), (o_would, .inl (cJ, 9, .inr (.inl vo_would))), (o_amounts, .inl (cJ, 9, .inr (.inl vo_amounts))), (o, .inr (6, [.ref o_page, .int vo_pageMany, .int vo_readMany, .int vo_state, .int vo_readMost, .ref o_readRows, .int vo_glasses, .int vo_towersRead, .int vo_poured, .ref o_rows, .ref o_turns, .ref o_amounts, .ref o_drank, .long vo_spilt, .ref o_takes, .ref o_leans, .ref o_would, .int vo_done, .int vo_seedNow, .int vo_keptTower, .int vo_keptPoured, .long vo_keptSpilt, .ref o_keptAmounts, .ref o_keptDrank, .ref o_keptTurns, .long x21]))] := hD
        have hl : lv_has ls 2 [(0, .ref o)] := hl
        have hT : (rs_X6_digest_7 vo_takes vo_leans vo_would vo_pageMany vo_glasses vo_towersRead vo_poured vo_done vo_rows vo_amounts) x20 x21 = (r, qo_hash, qo_takes, qo_leans, qo_would) := hT
        have i2 : 0 ≤ x20.toInt := i2
        have j2 : x20.toInt ≤ vo_pageMany.toInt := j2
        refine lv_iconst (v := (0 : Int32)) hx hb dX6_digest_157 (by decide) ?_
        refine lv_istore_n (lv' := [(1, .int (0 : Int32)), (0, .ref o)]) hx hb dX6_digest_158 rfl hl (by decide) rfl (fun ls hl => ?_)
        have hz_61 : ((0 : Int32)).toInt = 0 := by decide
        refine zz_loop (α := Int32 × Int64) 181 (fun k a H locs ls => (0 ≤ a.1.toInt) ∧ (a.1.toInt ≤ 6) ∧ (6 - a.1.toInt < ((k : Nat) : Int)) ∧ lp_X6_digest_8 (rs_X6_digest_8 vo_takes vo_leans vo_would) vo_pageMany vo_glasses vo_towersRead vo_poured vo_done vo_rows vo_amounts k a.1 a.2 = (r, qo_hash, qo_takes, qo_leans, qo_would) ∧ va_P (dC, dI) vwCl [(o_page, .inl (cI, 70, .inl vo_page)), (o_rows, .inl (cI, 54, .inl vo_rows)), (o_turns, .inl (cI, 9, .inl vo_turns)), (o_drank, .inl (cJ, 9, .inr (.inl vo_drank))), (o_takes, .inl (cJ, 9, .inr (.inl vo_takes))), (o_leans, .inl (cI, 9, .inl vo_leans)), (o_would, .inl (cJ, 9, .inr (.inl vo_would))), (o_amounts, .inl (cJ, 9, .inr (.inl vo_amounts))), (o, .inr (6, [.ref o_page, .int vo_pageMany, .int vo_readMany, .int vo_state, .int vo_readMost, .ref o_readRows, .int vo_glasses, .int vo_towersRead, .int vo_poured, .ref o_rows, .ref o_turns, .ref o_amounts, .ref o_drank, .long vo_spilt, .ref o_takes, .ref o_leans, .ref o_would, .int vo_done, .int vo_seedNow, .int vo_keptTower, .int vo_keptPoured, .long vo_keptSpilt, .ref o_keptAmounts, .ref o_keptDrank, .ref o_keptTurns, .long a.2]))] H ∧ va_D A [(o_page, .inl (cI, 70, .inl vo_page)), (o_rows, .inl (cI, 54, .inl vo_rows)), (o_turns, .inl (cI, 9, .inl vo_turns)), (o_drank, .inl (cJ, 9, .inr (.inl vo_drank))), (o_takes, .inl (cJ, 9, .inr (.inl vo_takes))), (o_leans, .inl (cI, 9, .inl vo_leans)), (o_would, .inl (cJ, 9, .inr (.inl vo_would))), (o_amounts, .inl (cJ, 9, .inr (.inl vo_amounts))), (o, .inr (6, [.ref o_page, .int vo_pageMany, .int vo_readMany, .int vo_state, .int vo_readMost, .ref o_readRows, .int vo_glasses, .int vo_towersRead, .int vo_poured, .ref o_rows, .ref o_turns, .ref o_amounts, .ref o_drank, .long vo_spilt, .ref o_takes, .ref o_leans, .ref o_would, .int vo_done, .int vo_seedNow, .int vo_keptTower, .int vo_keptPoured, .long vo_keptSpilt, .ref o_keptAmounts, .ref o_keptDrank, .ref o_keptTurns, .long a.2]))] ∧ va_S A s.heap H locs ∧ lv_has ls 2 [(1, .int a.1), (0, .ref o)]) (fun a H locs ls => (0 ≤ a.1.toInt) ∧ (a.1.toInt ≤ 6) ∧ (rs_X6_digest_8 vo_takes vo_leans vo_would) a.1 a.2 = (r, qo_hash, qo_takes, qo_leans, qo_would) ∧ va_P (dC, dI) vwCl [(o_page, .inl (cI, 70, .inl vo_page)), (o_rows, .inl (cI, 54, .inl vo_rows)), (o_turns, .inl (cI, 9, .inl vo_turns)), (o_drank, .inl (cJ, 9, .inr (.inl vo_drank))), (o_takes, .inl (cJ, 9, .inr (.inl vo_takes))), (o_leans, .inl (cI, 9, .inl vo_leans)), (o_would, .inl (cJ, 9, .inr (.inl vo_would))), (o_amounts, .inl (cJ, 9, .inr (.inl vo_amounts))), (o, .inr (6, [.ref o_page, .int vo_pageMany, .int vo_readMany, .int vo_state, .int vo_readMost, .ref o_readRows, .int vo_glasses, .int vo_towersRead, .int vo_poured, .ref o_rows, .ref o_turns, .ref o_amounts, .ref o_drank, .long vo_spilt, .ref o_takes, .ref o_leans, .ref o_would, .int vo_done, .int vo_seedNow, .int vo_keptTower, .int vo_keptPoured, .long vo_keptSpilt, .ref o_keptAmounts, .ref o_keptDrank, .ref o_keptTurns, .long a.2]))] H ∧ va_D A [(o_page, .inl (cI, 70, .inl vo_page)), (o_rows, .inl (cI, 54, .inl vo_rows)), (o_turns, .inl (cI, 9, .inl vo_turns)), (o_drank, .inl (cJ, 9, .inr (.inl vo_drank))), (o_takes, .inl (cJ, 9, .inr (.inl vo_takes))), (o_leans, .inl (cI, 9, .inl vo_leans)), (o_would, .inl (cJ, 9, .inr (.inl vo_would))), (o_amounts, .inl (cJ, 9, .inr (.inl vo_amounts))), (o, .inr (6, [.ref o_page, .int vo_pageMany, .int vo_readMany, .int vo_state, .int vo_readMost, .ref o_readRows, .int vo_glasses, .int vo_towersRead, .int vo_poured, .ref o_rows, .ref o_turns, .ref o_amounts, .ref o_drank, .long vo_spilt, .ref o_takes, .ref o_leans, .ref o_would, .int vo_done, .int vo_seedNow, .int vo_keptTower, .int vo_keptPoured, .long vo_keptSpilt, .ref o_keptAmounts, .ref o_keptDrank, .ref o_keptTurns, .long a.2]))] ∧ va_S A s.heap H locs ∧ lv_has ls 2 [(0, .ref o)]) ?_ ?_ ?_ 8 ((0 : Int32), x21) ⟨(by omega : 0 ≤ (0 : Int32).toInt), (by omega : (0 : Int32).toInt ≤ 6), (by omega : 6 - (0 : Int32).toInt < ((8 : Nat) : Int)), hT, hP.sub [0, 1, 2, 3, 4, 5, 6, 7, 8] rfl, hD.sub [0, 1, 2, 3, 4, 5, 6, 7, 8] rfl rfl, hS, lv_sub hl [0, 1] rfl⟩
        · rintro ⟨x26, x27⟩ H locs ls ⟨i3, j3, hT, hP, hD, hS, hl⟩
          have hP : va_P (dC, dI) vwCl [(o_page, .inl (cI, 70, .inl vo_page)), (o_rows, .inl (cI, 54, .inl vo_rows)), (o_turns, .inl (cI, 9, .inl vo_turns)), (o_drank, .inl (cJ, 9, .inr (.inl vo_drank))), (o_takes, .inl (cJ, 9, .inr (.inl vo_takes))), (o_leans, .inl (cI, 9, .inl vo_leans)), (o_would, .inl (cJ, 9, .inr (.inl vo_would))), (o_amounts, .inl (cJ, 9, .inr (.inl vo_amounts))), (o, .inr (6, [.ref o_page, .int vo_pageMany, .int vo_readMany, .int vo_state, .int vo_readMost, .ref o_readRows, .int vo_glasses, .int vo_towersRead, .int vo_poured, .ref o_rows, .ref o_turns, .ref o_amounts, .ref o_drank, .long vo_spilt, .ref o_takes, .ref o_leans, .ref o_would, .int vo_done, .int vo_seedNow, .int vo_keptTower, .int vo_keptPoured, .long vo_keptSpilt, .ref o_keptAmounts, .ref o_keptDrank, .ref o_keptTurns, .long x27]))] H := hP
          have hD : va_D A [(o_page, .inl (cI, 70, .inl vo_page)), (o_rows, .inl (cI, 54, .inl vo_rows)), (o_turns, .inl (cI, 9, .inl vo_turns)), (o_drank, .inl (cJ, 9, .inr (.inl vo_drank))), (o_takes, .inl (cJ, 9, .inr (.inl vo_takes))), (o_leans, .inl (cI, 9, .inl vo_leans)), (o_would, .inl (cJ, 9, .inr (.inl vo_would))), (o_amounts, .inl (cJ, 9, .inr (.inl vo_amounts))), (o, .inr (6, [.ref o_page, .int vo_pageMany, .int vo_readMany, .int vo_state, .int vo_readMost, .ref o_readRows, .int vo_glasses, .int vo_towersRead, .int vo_poured, .ref o_rows, .ref o_turns, .ref o_amounts, .ref o_drank, .long vo_spilt, .ref o_takes, .ref o_leans, .ref o_would, .int vo_done, .int vo_seedNow, .int vo_keptTower, .int vo_keptPoured, .long vo_keptSpilt, .ref o_keptAmounts, .ref o_keptDrank, .ref o_keptTurns, .long x27]))] := hD
          have hl : lv_has ls 2 [(0, .ref o)] := hl
          have hT : (rs_X6_digest_8 vo_takes vo_leans vo_would) x26 x27 = (r, qo_hash, qo_takes, qo_leans, qo_would) := hT
          have i3 : 0 ≤ x26.toInt := i3
          have j3 : x26.toInt ≤ 6 := j3
          refine lv_aload_n hx hb dX6_digest_181 rfl (lv_at hl 0 rfl) ?_
          refine va_get (D := (dC, dI)) (ci := 6) (v := .long x27) (C := RX6) (T := TX6) (N := 26) hx hb hts hwX6 hown hK hP 8 rfl rfl 25 (by decide) hf_232 (fun _ h9 => h9) rfl dX6_digest_182 ?_
          have hP9 := hP
          have hD9 := hD
          have hS9 := hS
          have hT : (x27, x27, vo_takes, vo_leans, vo_would) = (r, qo_hash, qo_takes, qo_leans, qo_would) := hT
          cases hT
          subst hQ
          exact zz_lret hx hb hr [8, 0, 1, 2, 7, 3, 4, 5, 6] hK hP9 hD9 hS9 rfl rfl (by assumption) hlocks dX6_digest_185
        · rintro ⟨b24, b25⟩ H locs ls ⟨i3, j3, hm, -⟩
          try dsimp only at *
          omega
        · intro k8 hex8 ih8
          rintro ⟨b24, b25⟩ H locs ls ⟨i3, j3, hm8, hT, hP, hD, hS, hl⟩
          have hP : va_P (dC, dI) vwCl [(o_page, .inl (cI, 70, .inl vo_page)), (o_rows, .inl (cI, 54, .inl vo_rows)), (o_turns, .inl (cI, 9, .inl vo_turns)), (o_drank, .inl (cJ, 9, .inr (.inl vo_drank))), (o_takes, .inl (cJ, 9, .inr (.inl vo_takes))), (o_leans, .inl (cI, 9, .inl vo_leans)), (o_would, .inl (cJ, 9, .inr (.inl vo_would))), (o_amounts, .inl (cJ, 9, .inr (.inl vo_amounts))), (o, .inr (6, [.ref o_page, .int vo_pageMany, .int vo_readMany, .int vo_state, .int vo_readMost, .ref o_readRows, .int vo_glasses, .int vo_towersRead, .int vo_poured, .ref o_rows, .ref o_turns, .ref o_amounts, .ref o_drank, .long vo_spilt, .ref o_takes, .ref o_leans, .ref o_would, .int vo_done, .int vo_seedNow, .int vo_keptTower, .int vo_keptPoured, .long vo_keptSpilt, .ref o_keptAmounts, .ref o_keptDrank, .ref o_keptTurns, .long b25]))] H := hP
          have hD : va_D A [(o_page, .inl (cI, 70, .inl vo_page)), (o_rows, .inl (cI, 54, .inl vo_rows)), (o_turns, .inl (cI, 9, .inl vo_turns)), (o_drank, .inl (cJ, 9, .inr (.inl vo_drank))), (o_takes, .inl (cJ, 9, .inr (.inl vo_takes))), (o_leans, .inl (cI, 9, .inl vo_leans)), (o_would, .inl (cJ, 9, .inr (.inl vo_would))), (o_amounts, .inl (cJ, 9, .inr (.inl vo_amounts))), (o, .inr (6, [.ref o_page, .int vo_pageMany, .int vo_readMany, .int vo_state, .int vo_readMost, .ref o_readRows, .int vo_glasses, .int vo_towersRead, .int vo_poured, .ref o_rows, .ref o_turns, .ref o_amounts, .ref o_drank, .long vo_spilt, .ref o_takes, .ref o_leans, .ref o_would, .int vo_done, .int vo_seedNow, .int vo_keptTower, .int vo_keptPoured, .long vo_keptSpilt, .ref o_keptAmounts, .ref o_keptDrank, .ref o_keptTurns, .long b25]))] := hD
          have hl : lv_has ls 2 [(1, .int b24), (0, .ref o)] := hl
          have hT : lp_X6_digest_8 (rs_X6_digest_8 vo_takes vo_leans vo_would) vo_pageMany vo_glasses vo_towersRead vo_poured vo_done vo_rows vo_amounts (k8 + 1) b24 b25 = (r, qo_hash, qo_takes, qo_leans, qo_would) := hT
          have i3 : 0 ≤ b24.toInt := i3
          have j3 : b24.toInt ≤ 6 := j3
          have hm8 : 6 - b24.toInt < (((k8 + 1) : Nat) : Int) := hm8
          try simp only [Int.natCast_add, Int.natCast_one, Nat.cast_add, Nat.cast_one] at hm8
          refine lv_iload_n hx hb dX6_digest_159 rfl (lv_at hl 0 rfl) ?_
          refine lv_bipush (v := (6 : Int32)) hx hb dX6_digest_160 (by decide) ?_
          refine lv_icmp_ge (tgt := 181) hx hb dX6_digest_162 (by decide) (fun c_34 => ?_) (fun c_34 => ?_)
          · replace hT := cutT c_34 hT
            have g_62 := zleT (by decide : ((6 : Int32)).toInt = 6) (rfl : (b24).toInt = _) c_34
            exact hex8 (b24, b25) _ _ _ ⟨(by omega : 0 ≤ b24.toInt), (by omega : b24.toInt ≤ 6), hT, hP.sub [0, 1, 2, 3, 4, 5, 6, 7, 8] rfl, hD.sub [0, 1, 2, 3, 4, 5, 6, 7, 8] rfl rfl, hS, lv_sub hl [1] rfl⟩
          · replace hT := cutF c_34 hT
            have g_63 := zleF (by decide : ((6 : Int32)).toInt = 6) (rfl : (b24).toInt = _) c_34
            refine lv_aload_n hx hb dX6_digest_165 rfl (lv_at hl 1 rfl) ?_
            refine lv_aload_n hx hb dX6_digest_166 rfl (lv_at hl 1 rfl) ?_
            refine lv_iload_n hx hb dX6_digest_167 rfl (lv_at hl 0 rfl) ?_
            obtain ⟨r28, ev_35⟩ : ∃ x0, (m_X6_countOf vo_pageMany vo_glasses vo_towersRead vo_poured vo_done vo_rows vo_amounts b24) = x0 := ⟨_, rfl⟩
            replace hT := cut_n ev_35 hT
            refine zz_ci [8, 1, 7] [0, 2, 3, 4, 5, 6] (wr := [(o_page, .inl (cI, 70, .inl vo_page)), (o_turns, .inl (cI, 9, .inl vo_turns)), (o_drank, .inl (cJ, 9, .inr (.inl vo_drank))), (o_takes, .inl (cJ, 9, .inr (.inl vo_takes))), (o_leans, .inl (cI, 9, .inl vo_leans)), (o_would, .inl (cJ, 9, .inr (.inl vo_would)))]) (w1 := [(o, .inr (6, [.ref o_page, .int vo_pageMany, .int vo_readMany, .int vo_state, .int vo_readMost, .ref o_readRows, .int vo_glasses, .int vo_towersRead, .int vo_poured, .ref o_rows, .ref o_turns, .ref o_amounts, .ref o_drank, .long vo_spilt, .ref o_takes, .ref o_leans, .ref o_would, .int vo_done, .int vo_seedNow, .int vo_keptTower, .int vo_keptPoured, .long vo_keptSpilt, .ref o_keptAmounts, .ref o_keptDrank, .ref o_keptTurns, .long b25])), (o_rows, .inl (cI, 54, .inl vo_rows)), (o_amounts, .inl (cJ, 9, .inr (.inl vo_amounts)))]) (va_runV (As := [.int b24]) (rest := [.ref o]) ⟨hx, hb, hml, hown, hts⟩ (k_X6_countOf l dC dI cI cJ cC H.size o o_page o_readRows o_rows o_turns o_amounts o_drank o_takes o_leans o_would o_keptAmounts o_keptDrank o_keptTurns vo_pageMany vo_readMany vo_state vo_readMost vo_glasses vo_towersRead vo_poured vo_spilt vo_done vo_seedNow vo_keptTower vo_keptPoured vo_keptSpilt b25 vo_rows vo_amounts b24 r28 ev_35 hg0 hg9) (cwV 1 hts gX6_digest_X6_countOf rfl rfl rfl (by decide +kernel) ⟨Nat.le_of_ble_eq_true rfl, Nat.le_of_ble_eq_true rfl⟩) (zz_preV [8, 1, 7] hK hP hD rfl rfl (va_recv hK hP (ci := 6) (q0 := 8) rfl rfl)) rfl rfl hl.1 rfl (lv_room (Nat.le_of_ble_eq_true rfl)) dX6_digest_168 ⟨Nat.zero_le _, Nat.zero_le _⟩) hP hD hS hA rfl rfl rfl (by decide) (fun ok_36 H locs hP hD hS => ?_)
            have hP : va_P (dC, dI) vwCl [(o_page, .inl (cI, 70, .inl vo_page)), (o_turns, .inl (cI, 9, .inl vo_turns)), (o_drank, .inl (cJ, 9, .inr (.inl vo_drank))), (o_takes, .inl (cJ, 9, .inr (.inl vo_takes))), (o_leans, .inl (cI, 9, .inl vo_leans)), (o_would, .inl (cJ, 9, .inr (.inl vo_would))), (o, .inr (6, [.ref o_page, .int vo_pageMany, .int vo_readMany, .int vo_state, .int vo_readMost, .ref o_readRows, .int vo_glasses, .int vo_towersRead, .int vo_poured, .ref o_rows, .ref o_turns, .ref o_amounts, .ref o_drank, .long vo_spilt, .ref o_takes, .ref o_leans, .ref o_would, .int vo_done, .int vo_seedNow, .int vo_keptTower, .int vo_keptPoured, .long vo_keptSpilt, .ref o_keptAmounts, .ref o_keptDrank, .ref o_keptTurns, .long b25])), (o_rows, .inl (cI, 54, .inl vo_rows)), (o_amounts, .inl (cJ, 9, .inr (.inl vo_amounts)))] H := hP
            have hD : va_D A [(o_page, .inl (cI, 70, .inl vo_page)), (o_turns, .inl (cI, 9, .inl vo_turns)), (o_drank, .inl (cJ, 9, .inr (.inl vo_drank))), (o_takes, .inl (cJ, 9, .inr (.inl vo_takes))), (o_leans, .inl (cI, 9, .inl vo_leans)), (o_would, .inl (cJ, 9, .inr (.inl vo_would))), (o, .inr (6, [.ref o_page, .int vo_pageMany, .int vo_readMany, .int vo_state, .int vo_readMost, .ref o_readRows, .int vo_glasses, .int vo_towersRead, .int vo_poured, .ref o_rows, .ref o_turns, .ref o_amounts, .ref o_drank, .long vo_spilt, .ref o_takes, .ref o_leans, .ref o_would, .int vo_done, .int vo_seedNow, .int vo_keptTower, .int vo_keptPoured, .long vo_keptSpilt, .ref o_keptAmounts, .ref o_keptDrank, .ref o_keptTurns, .long b25])), (o_rows, .inl (cI, 54, .inl vo_rows)), (o_amounts, .inl (cJ, 9, .inr (.inl vo_amounts)))] := hD
            refine lv_i2l (v := (r28.toInt64)) hx hb dX6_digest_171 rfl ?_
            obtain ⟨u29, ev_37⟩ : ∃ x0, (m_X6_say b25 (r28.toInt64)) = x0 := ⟨_, rfl⟩
            replace hT := cut_n ev_37 hT
            refine zz_cv [6] [0, 1, 2, 3, 4, 5, 7, 8] (wr := [(o_page, .inl (cI, 70, .inl vo_page)), (o_turns, .inl (cI, 9, .inl vo_turns)), (o_drank, .inl (cJ, 9, .inr (.inl vo_drank))), (o_takes, .inl (cJ, 9, .inr (.inl vo_takes))), (o_leans, .inl (cI, 9, .inl vo_leans)), (o_would, .inl (cJ, 9, .inr (.inl vo_would))), (o_rows, .inl (cI, 54, .inl vo_rows)), (o_amounts, .inl (cJ, 9, .inr (.inl vo_amounts)))]) (w1 := [(o, .inr (6, [.ref o_page, .int vo_pageMany, .int vo_readMany, .int vo_state, .int vo_readMost, .ref o_readRows, .int vo_glasses, .int vo_towersRead, .int vo_poured, .ref o_rows, .ref o_turns, .ref o_amounts, .ref o_drank, .long vo_spilt, .ref o_takes, .ref o_leans, .ref o_would, .int vo_done, .int vo_seedNow, .int vo_keptTower, .int vo_keptPoured, .long vo_keptSpilt, .ref o_keptAmounts, .ref o_keptDrank, .ref o_keptTurns, .long u29]))]) (va_runV (As := [.long (r28.toInt64)]) (rest := []) ⟨hx, hb, hml, hown, hts⟩ (k_X6_say l dC dI cI cJ cC H.size o o_page o_readRows o_rows o_turns o_amounts o_drank o_takes o_leans o_would o_keptAmounts o_keptDrank o_keptTurns vo_pageMany vo_readMany vo_state vo_readMost vo_glasses vo_towersRead vo_poured vo_spilt vo_done vo_seedNow vo_keptTower vo_keptPoured vo_keptSpilt b25 (r28.toInt64) u29 ev_37) (cwV 1 hts gX6_digest_X6_say rfl rfl rfl (by decide +kernel) ⟨Nat.le_of_ble_eq_true rfl, Nat.le_of_ble_eq_true rfl⟩) (zz_preV [6] hK hP hD rfl rfl (va_recv hK hP (ci := 6) (q0 := 6) rfl rfl)) rfl rfl hl.1 rfl (lv_room (Nat.le_of_ble_eq_true rfl)) dX6_digest_172 ⟨Nat.zero_le _, Nat.zero_le _⟩) hP hD hS hA rfl rfl rfl (by decide) (fun ok_38 H locs hP hD hS => ?_)
            have hP : va_P (dC, dI) vwCl [(o_page, .inl (cI, 70, .inl vo_page)), (o_turns, .inl (cI, 9, .inl vo_turns)), (o_drank, .inl (cJ, 9, .inr (.inl vo_drank))), (o_takes, .inl (cJ, 9, .inr (.inl vo_takes))), (o_leans, .inl (cI, 9, .inl vo_leans)), (o_would, .inl (cJ, 9, .inr (.inl vo_would))), (o_rows, .inl (cI, 54, .inl vo_rows)), (o_amounts, .inl (cJ, 9, .inr (.inl vo_amounts))), (o, .inr (6, [.ref o_page, .int vo_pageMany, .int vo_readMany, .int vo_state, .int vo_readMost, .ref o_readRows, .int vo_glasses, .int vo_towersRead, .int vo_poured, .ref o_rows, .ref o_turns, .ref o_amounts, .ref o_drank, .long vo_spilt, .ref o_takes, .ref o_leans, .ref o_would, .int vo_done, .int vo_seedNow, .int vo_keptTower, .int vo_keptPoured, .long vo_keptSpilt, .ref o_keptAmounts, .ref o_keptDrank, .ref o_keptTurns, .long u29]))] H := hP
            have hD : va_D A [(o_page, .inl (cI, 70, .inl vo_page)), (o_turns, .inl (cI, 9, .inl vo_turns)), (o_drank, .inl (cJ, 9, .inr (.inl vo_drank))), (o_takes, .inl (cJ, 9, .inr (.inl vo_takes))), (o_leans, .inl (cI, 9, .inl vo_leans)), (o_would, .inl (cJ, 9, .inr (.inl vo_would))), (o_rows, .inl (cI, 54, .inl vo_rows)), (o_amounts, .inl (cJ, 9, .inr (.inl vo_amounts))), (o, .inr (6, [.ref o_page, .int vo_pageMany, .int vo_readMany, .int vo_state, .int vo_readMost, .ref o_readRows, .int vo_glasses, .int vo_towersRead, .int vo_poured, .ref o_rows, .ref o_turns, .ref o_amounts, .ref o_drank, .long vo_spilt, .ref o_takes, .ref o_leans, .ref o_would, .int vo_done, .int vo_seedNow, .int vo_keptTower, .int vo_keptPoured, .long vo_keptSpilt, .ref o_keptAmounts, .ref o_keptDrank, .ref o_keptTurns, .long u29]))] := hD
            obtain ⟨v30, ev30⟩ : ∃ y : Int32, (b24 + (1 : Int32)) = y := ⟨_, rfl⟩
            replace hT := cut_n ev30 hT
            try have fv30 := zaddE (rfl : (b24).toInt = _) (by decide : ((1 : Int32)).toInt = 1) ev30 (by omega) (by omega)
            refine lv_iinc (v := v30) (lv' := [(1, .int v30), (0, .ref o)]) hx hb dX6_digest_175 hl (k := 0) rfl (by rw [← ev30]; rfl) (by decide) rfl (fun ls hl => ?_)
            refine lv_goto (tgt := 159) hx hb dX6_digest_178 (by decide) ?_
            exact ih8 (v30, u29) _ _ _ ⟨(by omega : 0 ≤ v30.toInt), (by omega : v30.toInt ≤ 6), (by omega : 6 - v30.toInt < ((k8 : Nat) : Int)), hT, hP.sub [0, 6, 1, 2, 3, 4, 5, 7, 8] rfl, hD.sub [0, 6, 1, 2, 3, 4, 5, 7, 8] rfl rfl, hS, lv_sub hl [0, 1] rfl⟩
      · rintro ⟨b18, b19⟩ H locs ls ⟨i2, j2, hm, -⟩
        try dsimp only at *
        omega
      · intro k7 hex7 ih7
        rintro ⟨b18, b19⟩ H locs ls ⟨i2, j2, hm7, hT, hP, hD, hS, hl⟩
        have hP : va_P (dC, dI) vwCl [(o_page, .inl (cI, 70, .inl vo_page)), (o_rows, .inl (cI, 54, .inl vo_rows)), (o_turns, .inl (cI, 9, .inl vo_turns)), (o_drank, .inl (cJ, 9, .inr (.inl vo_drank))), (o_takes, .inl (cJ, 9, .inr (.inl vo_takes))), (o_leans, .inl (cI, 9, .inl vo_leans)), (o_would, .inl (cJ, 9, .inr (.inl vo_would))), (o_amounts, .inl (cJ, 9, .inr (.inl vo_amounts))), (o, .inr (6, [.ref o_page, .int vo_pageMany, .int vo_readMany, .int vo_state, .int vo_readMost, .ref o_readRows, .int vo_glasses, .int vo_towersRead, .int vo_poured, .ref o_rows, .ref o_turns, .ref o_amounts, .ref o_drank, .long vo_spilt, .ref o_takes, .ref o_leans, .ref o_would, .int vo_done, .int vo_seedNow, .int vo_keptTower, .int vo_keptPoured, .long vo_keptSpilt, .ref o_keptAmounts, .ref o_keptDrank, .ref o_keptTurns, .long b19]))] H := hP
        have hD : va_D A [(o_page, .inl (cI, 70, .inl vo_page)), (o_rows, .inl (cI, 54, .inl vo_rows)), (o_turns, .inl (cI, 9, .inl vo_turns)), (o_drank, .inl (cJ, 9, .inr (.inl vo_drank))), (o_takes, .inl (cJ, 9, .inr (.inl vo_takes))), (o_leans, .inl (cI, 9, .inl vo_leans)), (o_would, .inl (cJ, 9, .inr (.inl vo_would))), (o_amounts, .inl (cJ, 9, .inr (.inl vo_amounts))), (o, .inr (6, [.ref o_page, .int vo_pageMany, .int vo_readMany, .int vo_state, .int vo_readMost, .ref o_readRows, .int vo_glasses, .int vo_towersRead, .int vo_poured, .ref o_rows, .ref o_turns, .ref o_amounts, .ref o_drank, .long vo_spilt, .ref o_takes, .ref o_leans, .ref o_would, .int vo_done, .int vo_seedNow, .int vo_keptTower, .int vo_keptPoured, .long vo_keptSpilt, .ref o_keptAmounts, .ref o_keptDrank, .ref o_keptTurns, .long b19]))] := hD
        have hl : lv_has ls 2 [(1, .int b18), (0, .ref o)] := hl
        have hT : lp_X6_digest_7 vo_pageMany (rs_X6_digest_7 vo_takes vo_leans vo_would vo_pageMany vo_glasses vo_towersRead vo_poured vo_done vo_rows vo_amounts) vo_page (k7 + 1) b18 b19 = (r, qo_hash, qo_takes, qo_leans, qo_would) := hT
        have i2 : 0 ≤ b18.toInt := i2
        have j2 : b18.toInt ≤ vo_pageMany.toInt := j2
        have hm7 : vo_pageMany.toInt - b18.toInt < (((k7 + 1) : Nat) : Int) := hm7
        try simp only [Int.natCast_add, Int.natCast_one, Nat.cast_add, Nat.cast_one] at hm7
        refine lv_iload_n hx hb dX6_digest_132 rfl (lv_at hl 0 rfl) ?_
        refine lv_aload_n hx hb dX6_digest_133 rfl (lv_at hl 1 rfl) ?_
        refine va_get (D := (dC, dI)) (ci := 6) (v := .int vo_pageMany) (C := RX6) (T := TX6) (N := 26) hx hb hts hwX6 hown hK hP 8 rfl rfl 1 (by decide) hf_53 (fun _ h9 => h9) rfl dX6_digest_134 ?_
        refine lv_icmp_ge (tgt := 157) hx hb dX6_digest_137 (by decide) (fun c_30 => ?_) (fun c_30 => ?_)
        · replace hT := cutT c_30 hT
          have g_64 := zleT (rfl : (vo_pageMany).toInt = _) (rfl : (b18).toInt = _) c_30
          exact hex7 (b18, b19) _ _ _ ⟨(by omega : 0 ≤ b18.toInt), (by omega : b18.toInt ≤ vo_pageMany.toInt), hT, hP.sub [0, 1, 2, 3, 4, 5, 6, 7, 8] rfl, hD.sub [0, 1, 2, 3, 4, 5, 6, 7, 8] rfl rfl, hS, lv_sub hl [1] rfl⟩
        · replace hT := cutF c_30 hT
          have g_65 := zleF (rfl : (vo_pageMany).toInt = _) (rfl : (b18).toInt = _) c_30
          refine lv_aload_n hx hb dX6_digest_140 rfl (lv_at hl 1 rfl) ?_
          refine lv_aload_n hx hb dX6_digest_141 rfl (lv_at hl 1 rfl) ?_
          refine va_get (D := (dC, dI)) (ci := 6) (v := .ref o_page) (C := RX6) (T := TX6) (N := 26) hx hb hts hwX6 hown hK hP 8 rfl rfl 0 (by decide) hf_7 (fun _ h9 => h9) rfl dX6_digest_142 ?_
          refine lv_iload_n hx hb dX6_digest_145 rfl (lv_at hl 0 rfl) ?_
          have h_31 : vp_in b18 70 := zin (by omega) (by omega)
          refine va_iald hx hb hK hP 0 0 rfl rfl h_31 dX6_digest_146 ?_
          refine lv_i2l (v := ((vo_page b18.toNatClampNeg).toInt64)) hx hb dX6_digest_147 rfl ?_
          obtain ⟨u22, ev_32⟩ : ∃ x0, (m_X6_say b19 ((vo_page b18.toNatClampNeg).toInt64)) = x0 := ⟨_, rfl⟩
          replace hT := cut_n ev_32 hT
          refine zz_cv [8] [0, 1, 2, 3, 4, 5, 6, 7] (wr := [(o_page, .inl (cI, 70, .inl vo_page)), (o_rows, .inl (cI, 54, .inl vo_rows)), (o_turns, .inl (cI, 9, .inl vo_turns)), (o_drank, .inl (cJ, 9, .inr (.inl vo_drank))), (o_takes, .inl (cJ, 9, .inr (.inl vo_takes))), (o_leans, .inl (cI, 9, .inl vo_leans)), (o_would, .inl (cJ, 9, .inr (.inl vo_would))), (o_amounts, .inl (cJ, 9, .inr (.inl vo_amounts)))]) (w1 := [(o, .inr (6, [.ref o_page, .int vo_pageMany, .int vo_readMany, .int vo_state, .int vo_readMost, .ref o_readRows, .int vo_glasses, .int vo_towersRead, .int vo_poured, .ref o_rows, .ref o_turns, .ref o_amounts, .ref o_drank, .long vo_spilt, .ref o_takes, .ref o_leans, .ref o_would, .int vo_done, .int vo_seedNow, .int vo_keptTower, .int vo_keptPoured, .long vo_keptSpilt, .ref o_keptAmounts, .ref o_keptDrank, .ref o_keptTurns, .long u22]))]) (va_runV (As := [.long ((vo_page b18.toNatClampNeg).toInt64)]) (rest := []) ⟨hx, hb, hml, hown, hts⟩ (k_X6_say l dC dI cI cJ cC H.size o o_page o_readRows o_rows o_turns o_amounts o_drank o_takes o_leans o_would o_keptAmounts o_keptDrank o_keptTurns vo_pageMany vo_readMany vo_state vo_readMost vo_glasses vo_towersRead vo_poured vo_spilt vo_done vo_seedNow vo_keptTower vo_keptPoured vo_keptSpilt b19 ((vo_page b18.toNatClampNeg).toInt64) u22 ev_32) (cwV 1 hts gX6_digest_X6_say rfl rfl rfl (by decide +kernel) ⟨Nat.le_of_ble_eq_true rfl, Nat.le_of_ble_eq_true rfl⟩) (zz_preV [8] hK hP hD rfl rfl (va_recv hK hP (ci := 6) (q0 := 8) rfl rfl)) rfl rfl hl.1 rfl (lv_room (Nat.le_of_ble_eq_true rfl)) dX6_digest_148 ⟨Nat.zero_le _, Nat.zero_le _⟩) hP hD hS hA rfl rfl rfl (by decide) (fun ok_33 H locs hP hD hS => ?_)
          have hP : va_P (dC, dI) vwCl [(o_page, .inl (cI, 70, .inl vo_page)), (o_rows, .inl (cI, 54, .inl vo_rows)), (o_turns, .inl (cI, 9, .inl vo_turns)), (o_drank, .inl (cJ, 9, .inr (.inl vo_drank))), (o_takes, .inl (cJ, 9, .inr (.inl vo_takes))), (o_leans, .inl (cI, 9, .inl vo_leans)), (o_would, .inl (cJ, 9, .inr (.inl vo_would))), (o_amounts, .inl (cJ, 9, .inr (.inl vo_amounts))), (o, .inr (6, [.ref o_page, .int vo_pageMany, .int vo_readMany, .int vo_state, .int vo_readMost, .ref o_readRows, .int vo_glasses, .int vo_towersRead, .int vo_poured, .ref o_rows, .ref o_turns, .ref o_amounts, .ref o_drank, .long vo_spilt, .ref o_takes, .ref o_leans, .ref o_would, .int vo_done, .int vo_seedNow, .int vo_keptTower, .int vo_keptPoured, .long vo_keptSpilt, .ref o_keptAmounts, .ref o_keptDrank, .ref o_keptTurns, .long u22]))] H := hP
          have hD : va_D A [(o_page, .inl (cI, 70, .inl vo_page)), (o_rows, .inl (cI, 54, .inl vo_rows)), (o_turns, .inl (cI, 9, .inl vo_turns)), (o_drank, .inl (cJ, 9, .inr (.inl vo_drank))), (o_takes, .inl (cJ, 9, .inr (.inl vo_takes))), (o_leans, .inl (cI, 9, .inl vo_leans)), (o_would, .inl (cJ, 9, .inr (.inl vo_would))), (o_amounts, .inl (cJ, 9, .inr (.inl vo_amounts))), (o, .inr (6, [.ref o_page, .int vo_pageMany, .int vo_readMany, .int vo_state, .int vo_readMost, .ref o_readRows, .int vo_glasses, .int vo_towersRead, .int vo_poured, .ref o_rows, .ref o_turns, .ref o_amounts, .ref o_drank, .long vo_spilt, .ref o_takes, .ref o_leans, .ref o_would, .int vo_done, .int vo_seedNow, .int vo_keptTower, .int vo_keptPoured, .long vo_keptSpilt, .ref o_keptAmounts, .ref o_keptDrank, .ref o_keptTurns, .long u22]))] := hD
          obtain ⟨v23, ev23⟩ : ∃ y : Int32, (b18 + (1 : Int32)) = y := ⟨_, rfl⟩
          replace hT := cut_n ev23 hT
          try have fv23 := zaddE (rfl : (b18).toInt = _) (by decide : ((1 : Int32)).toInt = 1) ev23 (by omega) (by omega)
          refine lv_iinc (v := v23) (lv' := [(1, .int v23), (0, .ref o)]) hx hb dX6_digest_151 hl (k := 0) rfl (by rw [← ev23]; rfl) (by decide) rfl (fun ls hl => ?_)
          refine lv_goto (tgt := 132) hx hb dX6_digest_154 (by decide) ?_
          exact ih7 (v23, u22) _ _ _ ⟨(by omega : 0 ≤ v23.toInt), (by omega : v23.toInt ≤ vo_pageMany.toInt), (by omega : vo_pageMany.toInt - v23.toInt < ((k7 : Nat) : Int)), hT, hP.sub [0, 1, 2, 3, 4, 5, 6, 7, 8] rfl, hD.sub [0, 1, 2, 3, 4, 5, 6, 7, 8] rfl rfl, hS, lv_sub hl [0, 1] rfl⟩
    · replace hT := cutT c_29 hT
      have g_66 := zeqT (rfl : (r17).toInt = _) (by decide : ((0 : Int32)).toInt = 0) c_29
      refine lv_aload_n hx hb dX6_digest_83 rfl (lv_at hl 0 rfl) ?_
      refine lv_aload_n hx hb dX6_digest_84 rfl (lv_at hl 0 rfl) ?_
      refine lv_iconst (v := (1 : Int32)) hx hb dX6_digest_85 (by decide) ?_
      refine lv_aload_n hx hb dX6_digest_86 rfl (lv_at hl 0 rfl) ?_
      refine va_get (D := (dC, dI)) (ci := 6) (v := .int vo_glasses) (C := RX6) (T := TX6) (N := 26) hx hb hts hwX6 hown hK hP 8 rfl rfl 6 (by decide) hf_97 (fun _ h9 => h9) rfl dX6_digest_87 ?_
      refine lv_ishl hx hb dX6_digest_90 ?_
      refine lv_iconst (v := (1 : Int32)) hx hb dX6_digest_91 (by decide) ?_
      refine lv_isub hx hb dX6_digest_92 ?_
      refine lv_iconst (v := (0 : Int32)) hx hb dX6_digest_93 (by decide) ?_
      obtain ⟨r31, u32, u33, u34, ev_39⟩ : ∃ x0 x1 x2 x3, (m_X6_needOf vo_glasses vo_rows vo_amounts vo_takes vo_leans vo_would (((1 : Int32) <<< (vo_glasses &&& 31)) - (1 : Int32)) (0 : Int32)) = (x0, x1, x2, x3) := ⟨_, _, _, _, rfl⟩
      replace hT := cut4_n ev_39 hT
      refine zz_ci [8, 1, 7, 4, 5, 6] [0, 2, 3] (wr := [(o_page, .inl (cI, 70, .inl vo_page)), (o_turns, .inl (cI, 9, .inl vo_turns)), (o_drank, .inl (cJ, 9, .inr (.inl vo_drank)))]) (w1 := [(o, .inr (6, [.ref o_page, .int vo_pageMany, .int vo_readMany, .int vo_state, .int vo_readMost, .ref o_readRows, .int vo_glasses, .int vo_towersRead, .int vo_poured, .ref o_rows, .ref o_turns, .ref o_amounts, .ref o_drank, .long vo_spilt, .ref o_takes, .ref o_leans, .ref o_would, .int vo_done, .int vo_seedNow, .int vo_keptTower, .int vo_keptPoured, .long vo_keptSpilt, .ref o_keptAmounts, .ref o_keptDrank, .ref o_keptTurns, .long u16])), (o_rows, .inl (cI, 54, .inl vo_rows)), (o_amounts, .inl (cJ, 9, .inr (.inl vo_amounts))), (o_takes, .inl (cJ, 9, .inr (.inl u32))), (o_leans, .inl (cI, 9, .inl u33)), (o_would, .inl (cJ, 9, .inr (.inl u34)))]) (va_runV (As := [.int (((1 : Int32) <<< (vo_glasses &&& 31)) - (1 : Int32)), .int (0 : Int32)]) (rest := [.ref o]) ⟨hx, hb, hml, hown, hts⟩ (k_X6_needOf l dC dI cI cJ cC H.size o o_page o_readRows o_rows o_turns o_amounts o_drank o_takes o_leans o_would o_keptAmounts o_keptDrank o_keptTurns vo_pageMany vo_readMany vo_state vo_readMost vo_glasses vo_towersRead vo_poured vo_spilt vo_done vo_seedNow vo_keptTower vo_keptPoured vo_keptSpilt u16 vo_rows vo_amounts vo_takes vo_leans vo_would (((1 : Int32) <<< (vo_glasses &&& 31)) - (1 : Int32)) (0 : Int32) r31 u32 u33 u34 ev_39 hg0 hg9 hrw hln (by first | omega | decide) (by first | omega | decide)) (cwV 2 hts gX6_digest_X6_needOf rfl rfl rfl (by decide +kernel) ⟨Nat.le_of_ble_eq_true rfl, Nat.le_of_ble_eq_true rfl⟩) (zz_preV [8, 1, 7, 4, 5, 6] hK hP hD rfl rfl (va_recv hK hP (ci := 6) (q0 := 8) rfl rfl)) rfl rfl hl.1 rfl (lv_room (Nat.le_of_ble_eq_true rfl)) dX6_digest_94 ⟨Nat.zero_le _, Nat.zero_le _⟩) hP hD hS hA rfl rfl rfl (by decide) (fun ok_40 H locs hP hD hS => ?_)
      have hP : va_P (dC, dI) vwCl [(o_page, .inl (cI, 70, .inl vo_page)), (o_turns, .inl (cI, 9, .inl vo_turns)), (o_drank, .inl (cJ, 9, .inr (.inl vo_drank))), (o, .inr (6, [.ref o_page, .int vo_pageMany, .int vo_readMany, .int vo_state, .int vo_readMost, .ref o_readRows, .int vo_glasses, .int vo_towersRead, .int vo_poured, .ref o_rows, .ref o_turns, .ref o_amounts, .ref o_drank, .long vo_spilt, .ref o_takes, .ref o_leans, .ref o_would, .int vo_done, .int vo_seedNow, .int vo_keptTower, .int vo_keptPoured, .long vo_keptSpilt, .ref o_keptAmounts, .ref o_keptDrank, .ref o_keptTurns, .long u16])), (o_rows, .inl (cI, 54, .inl vo_rows)), (o_amounts, .inl (cJ, 9, .inr (.inl vo_amounts))), (o_takes, .inl (cJ, 9, .inr (.inl u32))), (o_leans, .inl (cI, 9, .inl u33)), (o_would, .inl (cJ, 9, .inr (.inl u34)))] H := hP
      have hD : va_D A [(o_page, .inl (cI, 70, .inl vo_page)), (o_turns, .inl (cI, 9, .inl vo_turns)), (o_drank, .inl (cJ, 9, .inr (.inl vo_drank))), (o, .inr (6, [.ref o_page, .int vo_pageMany, .int vo_readMany, .int vo_state, .int vo_readMost, .ref o_readRows, .int vo_glasses, .int vo_towersRead, .int vo_poured, .ref o_rows, .ref o_turns, .ref o_amounts, .ref o_drank, .long vo_spilt, .ref o_takes, .ref o_leans, .ref o_would, .int vo_done, .int vo_seedNow, .int vo_keptTower, .int vo_keptPoured, .long vo_keptSpilt, .ref o_keptAmounts, .ref o_keptDrank, .ref o_keptTurns, .long u16])), (o_rows, .inl (cI, 54, .inl vo_rows)), (o_amounts, .inl (cJ, 9, .inr (.inl vo_amounts))), (o_takes, .inl (cJ, 9, .inr (.inl u32))), (o_leans, .inl (cI, 9, .inl u33)), (o_would, .inl (cJ, 9, .inr (.inl u34)))] := hD
      try have e_41 := zsubE (v := (((1 : Int32) <<< (vo_glasses &&& 31)) - (1 : Int32))) (rfl : (((1 : Int32) <<< (vo_glasses &&& 31))).toInt = _) (by decide : ((1 : Int32)).toInt = 1) rfl (by omega) (by omega)
      refine lv_i2l (v := (r31.toInt64)) hx hb dX6_digest_97 rfl ?_
      obtain ⟨u35, ev_42⟩ : ∃ x0, (m_X6_say u16 (r31.toInt64)) = x0 := ⟨_, rfl⟩
      replace hT := cut_n ev_42 hT
      refine zz_cv [3] [0, 1, 2, 4, 5, 6, 7, 8] (wr := [(o_page, .inl (cI, 70, .inl vo_page)), (o_turns, .inl (cI, 9, .inl vo_turns)), (o_drank, .inl (cJ, 9, .inr (.inl vo_drank))), (o_rows, .inl (cI, 54, .inl vo_rows)), (o_amounts, .inl (cJ, 9, .inr (.inl vo_amounts))), (o_takes, .inl (cJ, 9, .inr (.inl u32))), (o_leans, .inl (cI, 9, .inl u33)), (o_would, .inl (cJ, 9, .inr (.inl u34)))]) (w1 := [(o, .inr (6, [.ref o_page, .int vo_pageMany, .int vo_readMany, .int vo_state, .int vo_readMost, .ref o_readRows, .int vo_glasses, .int vo_towersRead, .int vo_poured, .ref o_rows, .ref o_turns, .ref o_amounts, .ref o_drank, .long vo_spilt, .ref o_takes, .ref o_leans, .ref o_would, .int vo_done, .int vo_seedNow, .int vo_keptTower, .int vo_keptPoured, .long vo_keptSpilt, .ref o_keptAmounts, .ref o_keptDrank, .ref o_keptTurns, .long u35]))]) (va_runV (As := [.long (r31.toInt64)]) (rest := []) ⟨hx, hb, hml, hown, hts⟩ (k_X6_say l dC dI cI cJ cC H.size o o_page o_readRows o_rows o_turns o_amounts o_drank o_takes o_leans o_would o_keptAmounts o_keptDrank o_keptTurns vo_pageMany vo_readMany vo_state vo_readMost vo_glasses vo_towersRead vo_poured vo_spilt vo_done vo_seedNow vo_keptTower vo_keptPoured vo_keptSpilt u16 (r31.toInt64) u35 ev_42) (cwV 1 hts gX6_digest_X6_say rfl rfl rfl (by decide +kernel) ⟨Nat.le_of_ble_eq_true rfl, Nat.le_of_ble_eq_true rfl⟩) (zz_preV [3] hK hP hD rfl rfl (va_recv hK hP (ci := 6) (q0 := 3) rfl rfl)) rfl rfl hl.1 rfl (lv_room (Nat.le_of_ble_eq_true rfl)) dX6_digest_98 ⟨Nat.zero_le _, Nat.zero_le _⟩) hP hD hS hA rfl rfl rfl (by decide) (fun ok_43 H locs hP hD hS => ?_)
      have hP : va_P (dC, dI) vwCl [(o_page, .inl (cI, 70, .inl vo_page)), (o_turns, .inl (cI, 9, .inl vo_turns)), (o_drank, .inl (cJ, 9, .inr (.inl vo_drank))), (o_rows, .inl (cI, 54, .inl vo_rows)), (o_amounts, .inl (cJ, 9, .inr (.inl vo_amounts))), (o_takes, .inl (cJ, 9, .inr (.inl u32))), (o_leans, .inl (cI, 9, .inl u33)), (o_would, .inl (cJ, 9, .inr (.inl u34))), (o, .inr (6, [.ref o_page, .int vo_pageMany, .int vo_readMany, .int vo_state, .int vo_readMost, .ref o_readRows, .int vo_glasses, .int vo_towersRead, .int vo_poured, .ref o_rows, .ref o_turns, .ref o_amounts, .ref o_drank, .long vo_spilt, .ref o_takes, .ref o_leans, .ref o_would, .int vo_done, .int vo_seedNow, .int vo_keptTower, .int vo_keptPoured, .long vo_keptSpilt, .ref o_keptAmounts, .ref o_keptDrank, .ref o_keptTurns, .long u35]))] H := hP
      have hD : va_D A [(o_page, .inl (cI, 70, .inl vo_page)), (o_turns, .inl (cI, 9, .inl vo_turns)), (o_drank, .inl (cJ, 9, .inr (.inl vo_drank))), (o_rows, .inl (cI, 54, .inl vo_rows)), (o_amounts, .inl (cJ, 9, .inr (.inl vo_amounts))), (o_takes, .inl (cJ, 9, .inr (.inl u32))), (o_leans, .inl (cI, 9, .inl u33)), (o_would, .inl (cJ, 9, .inr (.inl u34))), (o, .inr (6, [.ref o_page, .int vo_pageMany, .int vo_readMany, .int vo_state, .int vo_readMost, .ref o_readRows, .int vo_glasses, .int vo_towersRead, .int vo_poured, .ref o_rows, .ref o_turns, .ref o_amounts, .ref o_drank, .long vo_spilt, .ref o_takes, .ref o_leans, .ref o_would, .int vo_done, .int vo_seedNow, .int vo_keptTower, .int vo_keptPoured, .long vo_keptSpilt, .ref o_keptAmounts, .ref o_keptDrank, .ref o_keptTurns, .long u35]))] := hD
      refine lv_aload_n hx hb dX6_digest_101 rfl (lv_at hl 0 rfl) ?_
      refine lv_aload_n hx hb dX6_digest_102 rfl (lv_at hl 0 rfl) ?_
      refine lv_aload_n hx hb dX6_digest_103 rfl (lv_at hl 0 rfl) ?_
      refine va_get (D := (dC, dI)) (ci := 6) (v := .int vo_poured) (C := RX6) (T := TX6) (N := 26) hx hb hts hwX6 hown hK hP 8 rfl rfl 8 (by decide) hf_110 (fun _ h9 => h9) rfl dX6_digest_104 ?_
      refine lv_sipush (v := (999 : Int32)) hx hb dX6_digest_107 (by decide) ?_
      refine zz_join1 hT 123 (fun v => [.int v, .ref o, .ref o]) (fun v H locs ls => va_P (dC, dI) vwCl [(o_page, .inl (cI, 70, .inl vo_page)), (o_turns, .inl (cI, 9, .inl vo_turns)), (o_drank, .inl (cJ, 9, .inr (.inl vo_drank))), (o_rows, .inl (cI, 54, .inl vo_rows)), (o_amounts, .inl (cJ, 9, .inr (.inl vo_amounts))), (o_takes, .inl (cJ, 9, .inr (.inl u32))), (o_leans, .inl (cI, 9, .inl u33)), (o_would, .inl (cJ, 9, .inr (.inl u34))), (o, .inr (6, [.ref o_page, .int vo_pageMany, .int vo_readMany, .int vo_state, .int vo_readMost, .ref o_readRows, .int vo_glasses, .int vo_towersRead, .int vo_poured, .ref o_rows, .ref o_turns, .ref o_amounts, .ref o_drank, .long vo_spilt, .ref o_takes, .ref o_leans, .ref o_would, .int vo_done, .int vo_seedNow, .int vo_keptTower, .int vo_keptPoured, .long vo_keptSpilt, .ref o_keptAmounts, .ref o_keptDrank, .ref o_keptTurns, .long u35]))] H ∧ va_D A [(o_page, .inl (cI, 70, .inl vo_page)), (o_turns, .inl (cI, 9, .inl vo_turns)), (o_drank, .inl (cJ, 9, .inr (.inl vo_drank))), (o_rows, .inl (cI, 54, .inl vo_rows)), (o_amounts, .inl (cJ, 9, .inr (.inl vo_amounts))), (o_takes, .inl (cJ, 9, .inr (.inl u32))), (o_leans, .inl (cI, 9, .inl u33)), (o_would, .inl (cJ, 9, .inr (.inl u34))), (o, .inr (6, [.ref o_page, .int vo_pageMany, .int vo_readMany, .int vo_state, .int vo_readMost, .ref o_readRows, .int vo_glasses, .int vo_towersRead, .int vo_poured, .ref o_rows, .ref o_turns, .ref o_amounts, .ref o_drank, .long vo_spilt, .ref o_takes, .ref o_leans, .ref o_would, .int vo_done, .int vo_seedNow, .int vo_keptTower, .int vo_keptPoured, .long vo_keptSpilt, .ref o_keptAmounts, .ref o_keptDrank, .ref o_keptTurns, .long u35]))] ∧ va_S A s.heap H locs ∧ lv_has ls 2 [(0, .ref o)]) ?_ ?_
      · rintro j36 ej_67 H locs ls ⟨hP, hD, hS, hl⟩
        replace hT := cut_n ej_67 hT
        have hP : va_P (dC, dI) vwCl [(o_page, .inl (cI, 70, .inl vo_page)), (o_turns, .inl (cI, 9, .inl vo_turns)), (o_drank, .inl (cJ, 9, .inr (.inl vo_drank))), (o_rows, .inl (cI, 54, .inl vo_rows)), (o_amounts, .inl (cJ, 9, .inr (.inl vo_amounts))), (o_takes, .inl (cJ, 9, .inr (.inl u32))), (o_leans, .inl (cI, 9, .inl u33)), (o_would, .inl (cJ, 9, .inr (.inl u34))), (o, .inr (6, [.ref o_page, .int vo_pageMany, .int vo_readMany, .int vo_state, .int vo_readMost, .ref o_readRows, .int vo_glasses, .int vo_towersRead, .int vo_poured, .ref o_rows, .ref o_turns, .ref o_amounts, .ref o_drank, .long vo_spilt, .ref o_takes, .ref o_leans, .ref o_would, .int vo_done, .int vo_seedNow, .int vo_keptTower, .int vo_keptPoured, .long vo_keptSpilt, .ref o_keptAmounts, .ref o_keptDrank, .ref o_keptTurns, .long u35]))] H := hP
        have hD : va_D A [(o_page, .inl (cI, 70, .inl vo_page)), (o_turns, .inl (cI, 9, .inl vo_turns)), (o_drank, .inl (cJ, 9, .inr (.inl vo_drank))), (o_rows, .inl (cI, 54, .inl vo_rows)), (o_amounts, .inl (cJ, 9, .inr (.inl vo_amounts))), (o_takes, .inl (cJ, 9, .inr (.inl u32))), (o_leans, .inl (cI, 9, .inl u33)), (o_would, .inl (cJ, 9, .inr (.inl u34))), (o, .inr (6, [.ref o_page, .int vo_pageMany, .int vo_readMany, .int vo_state, .int vo_readMost, .ref o_readRows, .int vo_glasses, .int vo_towersRead, .int vo_poured, .ref o_rows, .ref o_turns, .ref o_amounts, .ref o_drank, .long vo_spilt, .ref o_takes, .ref o_leans, .ref o_would, .int vo_done, .int vo_seedNow, .int vo_keptTower, .int vo_keptPoured, .long vo_keptSpilt, .ref o_keptAmounts, .ref o_keptDrank, .ref o_keptTurns, .long u35]))] := hD
        have hl : lv_has ls 2 [(0, .ref o)] := hl
        obtain ⟨r37, u38, u39, u40, ev_45⟩ : ∃ x0 x1 x2 x3, (m_X6_chipsOf vo_glasses vo_rows vo_amounts u32 u33 u34 j36) = (x0, x1, x2, x3) := ⟨_, _, _, _, rfl⟩
        replace hT := cut4_n ev_45 hT
        refine zz_ci [8, 3, 4, 5, 6, 7] [0, 1, 2] (wr := [(o_page, .inl (cI, 70, .inl vo_page)), (o_turns, .inl (cI, 9, .inl vo_turns)), (o_drank, .inl (cJ, 9, .inr (.inl vo_drank)))]) (w1 := [(o, .inr (6, [.ref o_page, .int vo_pageMany, .int vo_readMany, .int vo_state, .int vo_readMost, .ref o_readRows, .int vo_glasses, .int vo_towersRead, .int vo_poured, .ref o_rows, .ref o_turns, .ref o_amounts, .ref o_drank, .long vo_spilt, .ref o_takes, .ref o_leans, .ref o_would, .int vo_done, .int vo_seedNow, .int vo_keptTower, .int vo_keptPoured, .long vo_keptSpilt, .ref o_keptAmounts, .ref o_keptDrank, .ref o_keptTurns, .long u35])), (o_rows, .inl (cI, 54, .inl vo_rows)), (o_amounts, .inl (cJ, 9, .inr (.inl vo_amounts))), (o_takes, .inl (cJ, 9, .inr (.inl u38))), (o_leans, .inl (cI, 9, .inl u39)), (o_would, .inl (cJ, 9, .inr (.inl u40)))]) (va_runV (As := [.int j36]) (rest := [.ref o]) ⟨hx, hb, hml, hown, hts⟩ (k_X6_chipsOf l dC dI cI cJ cC H.size o o_page o_readRows o_rows o_turns o_amounts o_drank o_takes o_leans o_would o_keptAmounts o_keptDrank o_keptTurns vo_pageMany vo_readMany vo_state vo_readMost vo_glasses vo_towersRead vo_poured vo_spilt vo_done vo_seedNow vo_keptTower vo_keptPoured vo_keptSpilt u35 vo_rows vo_amounts u32 u33 u34 j36 r37 u38 u39 u40 ev_45 hg0 hg9 hrw ok_40) (cwV 1 hts gX6_digest_X6_chipsOf rfl rfl rfl (by decide +kernel) ⟨Nat.le_of_ble_eq_true rfl, Nat.le_of_ble_eq_true rfl⟩) (zz_preV [8, 3, 4, 5, 6, 7] hK hP hD rfl rfl (va_recv hK hP (ci := 6) (q0 := 8) rfl rfl)) rfl rfl hl.1 rfl (lv_room (Nat.le_of_ble_eq_true rfl)) dX6_digest_123 ⟨Nat.zero_le _, Nat.zero_le _⟩) hP hD hS hA rfl rfl rfl (by decide) (fun ok_46 H locs hP hD hS => ?_)
        have hP : va_P (dC, dI) vwCl [(o_page, .inl (cI, 70, .inl vo_page)), (o_turns, .inl (cI, 9, .inl vo_turns)), (o_drank, .inl (cJ, 9, .inr (.inl vo_drank))), (o, .inr (6, [.ref o_page, .int vo_pageMany, .int vo_readMany, .int vo_state, .int vo_readMost, .ref o_readRows, .int vo_glasses, .int vo_towersRead, .int vo_poured, .ref o_rows, .ref o_turns, .ref o_amounts, .ref o_drank, .long vo_spilt, .ref o_takes, .ref o_leans, .ref o_would, .int vo_done, .int vo_seedNow, .int vo_keptTower, .int vo_keptPoured, .long vo_keptSpilt, .ref o_keptAmounts, .ref o_keptDrank, .ref o_keptTurns, .long u35])), (o_rows, .inl (cI, 54, .inl vo_rows)), (o_amounts, .inl (cJ, 9, .inr (.inl vo_amounts))), (o_takes, .inl (cJ, 9, .inr (.inl u38))), (o_leans, .inl (cI, 9, .inl u39)), (o_would, .inl (cJ, 9, .inr (.inl u40)))] H := hP
        have hD : va_D A [(o_page, .inl (cI, 70, .inl vo_page)), (o_turns, .inl (cI, 9, .inl vo_turns)), (o_drank, .inl (cJ, 9, .inr (.inl vo_drank))), (o, .inr (6, [.ref o_page, .int vo_pageMany, .int vo_readMany, .int vo_state, .int vo_readMost, .ref o_readRows, .int vo_glasses, .int vo_towersRead, .int vo_poured, .ref o_rows, .ref o_turns, .ref o_amounts, .ref o_drank, .long vo_spilt, .ref o_takes, .ref o_leans, .ref o_would, .int vo_done, .int vo_seedNow, .int vo_keptTower, .int vo_keptPoured, .long vo_keptSpilt, .ref o_keptAmounts, .ref o_keptDrank, .ref o_keptTurns, .long u35])), (o_rows, .inl (cI, 54, .inl vo_rows)), (o_amounts, .inl (cJ, 9, .inr (.inl vo_amounts))), (o_takes, .inl (cJ, 9, .inr (.inl u38))), (o_leans, .inl (cI, 9, .inl u39)), (o_would, .inl (cJ, 9, .inr (.inl u40)))] := hD
        refine lv_i2l (v := (r37.toInt64)) hx hb dX6_digest_126 rfl ?_
        obtain ⟨u41, ev_47⟩ : ∃ x0, (m_X6_say u35 (r37.toInt64)) = x0 := ⟨_, rfl⟩
        replace hT := cut_n ev_47 hT
        refine zz_cv [3] [0, 1, 2, 4, 5, 6, 7, 8] (wr := [(o_page, .inl (cI, 70, .inl vo_page)), (o_turns, .inl (cI, 9, .inl vo_turns)), (o_drank, .inl (cJ, 9, .inr (.inl vo_drank))), (o_rows, .inl (cI, 54, .inl vo_rows)), (o_amounts, .inl (cJ, 9, .inr (.inl vo_amounts))), (o_takes, .inl (cJ, 9, .inr (.inl u38))), (o_leans, .inl (cI, 9, .inl u39)), (o_would, .inl (cJ, 9, .inr (.inl u40)))]) (w1 := [(o, .inr (6, [.ref o_page, .int vo_pageMany, .int vo_readMany, .int vo_state, .int vo_readMost, .ref o_readRows, .int vo_glasses, .int vo_towersRead, .int vo_poured, .ref o_rows, .ref o_turns, .ref o_amounts, .ref o_drank, .long vo_spilt, .ref o_takes, .ref o_leans, .ref o_would, .int vo_done, .int vo_seedNow, .int vo_keptTower, .int vo_keptPoured, .long vo_keptSpilt, .ref o_keptAmounts, .ref o_keptDrank, .ref o_keptTurns, .long u41]))]) (va_runV (As := [.long (r37.toInt64)]) (rest := []) ⟨hx, hb, hml, hown, hts⟩ (k_X6_say l dC dI cI cJ cC H.size o o_page o_readRows o_rows o_turns o_amounts o_drank o_takes o_leans o_would o_keptAmounts o_keptDrank o_keptTurns vo_pageMany vo_readMany vo_state vo_readMost vo_glasses vo_towersRead vo_poured vo_spilt vo_done vo_seedNow vo_keptTower vo_keptPoured vo_keptSpilt u35 (r37.toInt64) u41 ev_47) (cwV 1 hts gX6_digest_X6_say rfl rfl rfl (by decide +kernel) ⟨Nat.le_of_ble_eq_true rfl, Nat.le_of_ble_eq_true rfl⟩) (zz_preV [3] hK hP hD rfl rfl (va_recv hK hP (ci := 6) (q0 := 3) rfl rfl)) rfl rfl hl.1 rfl (lv_room (Nat.le_of_ble_eq_true rfl)) dX6_digest_127 ⟨Nat.zero_le _, Nat.zero_le _⟩) hP hD hS hA rfl rfl rfl (by decide) (fun ok_48 H locs hP hD hS => ?_)
        have hP : va_P (dC, dI) vwCl [(o_page, .inl (cI, 70, .inl vo_page)), (o_turns, .inl (cI, 9, .inl vo_turns)), (o_drank, .inl (cJ, 9, .inr (.inl vo_drank))), (o_rows, .inl (cI, 54, .inl vo_rows)), (o_amounts, .inl (cJ, 9, .inr (.inl vo_amounts))), (o_takes, .inl (cJ, 9, .inr (.inl u38))), (o_leans, .inl (cI, 9, .inl u39)), (o_would, .inl (cJ, 9, .inr (.inl u40))), (o, .inr (6, [.ref o_page, .int vo_pageMany, .int vo_readMany, .int vo_state, .int vo_readMost, .ref o_readRows, .int vo_glasses, .int vo_towersRead, .int vo_poured, .ref o_rows, .ref o_turns, .ref o_amounts, .ref o_drank, .long vo_spilt, .ref o_takes, .ref o_leans, .ref o_would, .int vo_done, .int vo_seedNow, .int vo_keptTower, .int vo_keptPoured, .long vo_keptSpilt, .ref o_keptAmounts, .ref o_keptDrank, .ref o_keptTurns, .long u41]))] H := hP
        have hD : va_D A [(o_page, .inl (cI, 70, .inl vo_page)), (o_turns, .inl (cI, 9, .inl vo_turns)), (o_drank, .inl (cJ, 9, .inr (.inl vo_drank))), (o_rows, .inl (cI, 54, .inl vo_rows)), (o_amounts, .inl (cJ, 9, .inr (.inl vo_amounts))), (o_takes, .inl (cJ, 9, .inr (.inl u38))), (o_leans, .inl (cI, 9, .inl u39)), (o_would, .inl (cJ, 9, .inr (.inl u40))), (o, .inr (6, [.ref o_page, .int vo_pageMany, .int vo_readMany, .int vo_state, .int vo_readMost, .ref o_readRows, .int vo_glasses, .int vo_towersRead, .int vo_poured, .ref o_rows, .ref o_turns, .ref o_amounts, .ref o_drank, .long vo_spilt, .ref o_takes, .ref o_leans, .ref o_would, .int vo_done, .int vo_seedNow, .int vo_keptTower, .int vo_keptPoured, .long vo_keptSpilt, .ref o_keptAmounts, .ref o_keptDrank, .ref o_keptTurns, .long u41]))] := hD
        refine lv_iconst (v := (0 : Int32)) hx hb dX6_digest_130 (by decide) ?_
        refine lv_istore_n (lv' := [(1, .int (0 : Int32)), (0, .ref o)]) hx hb dX6_digest_131 rfl hl (by decide) rfl (fun ls hl => ?_)
        have hz_68 : ((0 : Int32)).toInt = 0 := by decide
        refine zz_loop (α := Int32 × Int64) 157 (fun k a H locs ls => (0 ≤ a.1.toInt) ∧ (a.1.toInt ≤ vo_pageMany.toInt) ∧ (vo_pageMany.toInt - a.1.toInt < ((k : Nat) : Int)) ∧ lp_X6_digest_9 vo_pageMany (rs_X6_digest_9 u38 u39 u40 vo_pageMany vo_glasses vo_towersRead vo_poured vo_done vo_rows vo_amounts) vo_page k a.1 a.2 = (r, qo_hash, qo_takes, qo_leans, qo_would) ∧ va_P (dC, dI) vwCl [(o_page, .inl (cI, 70, .inl vo_page)), (o_turns, .inl (cI, 9, .inl vo_turns)), (o_drank, .inl (cJ, 9, .inr (.inl vo_drank))), (o_rows, .inl (cI, 54, .inl vo_rows)), (o_amounts, .inl (cJ, 9, .inr (.inl vo_amounts))), (o_takes, .inl (cJ, 9, .inr (.inl u38))), (o_leans, .inl (cI, 9, .inl u39)), (o_would, .inl (cJ, 9, .inr (.inl u40))), (o, .inr (6, [.ref o_page, .int vo_pageMany, .int vo_readMany, .int vo_state, .int vo_readMost, .ref o_readRows, .int vo_glasses, .int vo_towersRead, .int vo_poured, .ref o_rows, .ref o_turns, .ref o_amounts, .ref o_drank, .long vo_spilt, .ref o_takes, .ref o_leans, .ref o_would, .int vo_done, .int vo_seedNow, .int vo_keptTower, .int vo_keptPoured, .long vo_keptSpilt, .ref o_keptAmounts, .ref o_keptDrank, .ref o_keptTurns, .long a.2]))] H ∧ va_D A [(o_page, .inl (cI, 70, .inl vo_page)), (o_turns, .inl (cI, 9, .inl vo_turns)), (o_drank, .inl (cJ, 9, .inr (.inl vo_drank))), (o_rows, .inl (cI, 54, .inl vo_rows)), (o_amounts, .inl (cJ, 9, .inr (.inl vo_amounts))), (o_takes, .inl (cJ, 9, .inr (.inl u38))), (o_leans, .inl (cI, 9, .inl u39)), (o_would, .inl (cJ, 9, .inr (.inl u40))), (o, .inr (6, [.ref o_page, .int vo_pageMany, .int vo_readMany, .int vo_state, .int vo_readMost, .ref o_readRows, .int vo_glasses, .int vo_towersRead, .int vo_poured, .ref o_rows, .ref o_turns, .ref o_amounts, .ref o_drank, .long vo_spilt, .ref o_takes, .ref o_leans, .ref o_would, .int vo_done, .int vo_seedNow, .int vo_keptTower, .int vo_keptPoured, .long vo_keptSpilt, .ref o_keptAmounts, .ref o_keptDrank, .ref o_keptTurns, .long a.2]))] ∧ va_S A s.heap H locs ∧ lv_has ls 2 [(1, .int a.1), (0, .ref o)]) (fun a H locs ls => (0 ≤ a.1.toInt) ∧ (a.1.toInt ≤ vo_pageMany.toInt) ∧ (rs_X6_digest_9 u38 u39 u40 vo_pageMany vo_glasses vo_towersRead vo_poured vo_done vo_rows vo_amounts) a.1 a.2 = (r, qo_hash, qo_takes, qo_leans, qo_would) ∧ va_P (dC, dI) vwCl [(o_page, .inl (cI, 70, .inl vo_page)), (o_turns, .inl (cI, 9, .inl vo_turns)), (o_drank, .inl (cJ, 9, .inr (.inl vo_drank))), (o_rows, .inl (cI, 54, .inl vo_rows)), (o_amounts, .inl (cJ, 9, .inr (.inl vo_amounts))), (o_takes, .inl (cJ, 9, .inr (.inl u38))), (o_leans, .inl (cI, 9, .inl u39)), (o_would, .inl (cJ, 9, .inr (.inl u40))), (o, .inr (6, [.ref o_page, .int vo_pageMany, .int vo_readMany, .int vo_state, .int vo_readMost, .ref o_readRows, .int vo_glasses, .int vo_towersRead, .int vo_poured, .ref o_rows, .ref o_turns, .ref o_amounts, .ref o_drank, .long vo_spilt, .ref o_takes, .ref o_leans, .ref o_would, .int vo_done, .int vo_seedNow, .int vo_keptTower, .int vo_keptPoured, .long vo_keptSpilt, .ref o_keptAmounts, .ref o_keptDrank, .ref o_keptTurns, .long a.2]))] H ∧ va_D A [(o_page, .inl (cI, 70, .inl vo_page)), (o_turns, .inl (cI, 9, .inl vo_turns)), (o_drank, .inl (cJ, 9, .inr (.inl vo_drank))), (o_rows, .inl (cI, 54, .inl vo_rows)), (o_amounts, .inl (cJ, 9, .inr (.inl vo_amounts))), (o_takes, .inl (cJ, 9, .inr (.inl u38))), (o_leans, .inl (cI, 9, .inl u39)), (o_would, .inl (cJ, 9, .inr (.inl u40))), (o, .inr (6, [.ref o_page, .int vo_pageMany, .int vo_readMany, .int vo_state, .int vo_readMost, .ref o_readRows, .int vo_glasses, .int vo_towersRead, .int vo_poured, .ref o_rows, .ref o_turns, .ref o_amounts, .ref o_drank, .long vo_spilt, .ref o_takes, .ref o_leans, .ref o_would, .int vo_done, .int vo_seedNow, .int vo_keptTower, .int vo_keptPoured, .long vo_keptSpilt, .ref o_keptAmounts, .ref o_keptDrank, .ref o_keptTurns, .long a.2]))] ∧ va_S A s.heap H locs ∧ lv_has ls 2 [(0, .ref o)]) ?_ ?_ ?_ 72 ((0 : Int32), u41) ⟨(by omega : 0 ≤ (0 : Int32).toInt), (by omega : (0 : Int32).toInt ≤ vo_pageMany.toInt), (by omega : vo_pageMany.toInt - (0 : Int32).toInt < ((72 : Nat) : Int)), hT, hP.sub [0, 1, 2, 3, 4, 5, 6, 7, 8] rfl, hD.sub [0, 1, 2, 3, 4, 5, 6, 7, 8] rfl rfl, hS, lv_sub hl [0, 1] rfl⟩
        · rintro ⟨x44, x45⟩ H locs ls ⟨i2, j2, hT, hP, hD, hS, hl⟩
          have hP : va_P (dC, dI) vwCl [(o_page, .inl (cI, 70, .inl vo_page)), (o_turns, .inl (cI, 9, .inl vo_turns)), (o_drank, .inl (cJ, 9, .inr (.inl vo_drank))), (o_rows, .inl (cI, 54, .inl vo_rows)), (o_amounts, .inl (cJ, 9, .inr (.inl vo_amounts))), (o_takes, .inl (cJ, 9, .inr (.inl u38))), (o_leans, .inl (cI, 9, .inl u39)), (o_would, .inl (cJ, 9, .inr (.inl u40))), (o, .inr (6, [.ref o_page, .int vo_pageMany, .int vo_readMany, .int vo_state, .int vo_readMost, .ref o_readRows, .int vo_glasses, .int vo_towersRead, .int vo_poured, .ref o_rows, .ref o_turns, .ref o_amounts, .ref o_drank, .long vo_spilt, .ref o_takes, .ref o_leans, .ref o_would, .int vo_done, .int vo_seedNow, .int vo_keptTower, .int vo_keptPoured, .long vo_keptSpilt, .ref o_keptAmounts, .ref o_keptDrank, .ref o_keptTurns, .long x45]))] H := hP
          have hD : va_D A [(o_page, .inl (cI, 70, .inl vo_page)), (o_turns, .inl (cI, 9, .inl vo_turns)), (o_drank, .inl (cJ, 9, .inr (.inl vo_drank))), (o_rows, .inl (cI, 54, .inl vo_rows)), (o_amounts, .inl (cJ, 9, .inr (.inl vo_amounts))), (o_takes, .inl (cJ, 9, .inr (.inl u38))), (o_leans, .inl (cI, 9, .inl u39)), (o_would, .inl (cJ, 9, .inr (.inl u40))), (o, .inr (6, [.ref o_page, .int vo_pageMany, .int vo_readMany, .int vo_state, .int vo_readMost, .ref o_readRows, .int vo_glasses, .int vo_towersRead, .int vo_poured, .ref o_rows, .ref o_turns, .ref o_amounts, .ref o_drank, .long vo_spilt, .ref o_takes, .ref o_leans, .ref o_would, .int vo_done, .int vo_seedNow, .int vo_keptTower, .int vo_keptPoured, .long vo_keptSpilt, .ref o_keptAmounts, .ref o_keptDrank, .ref o_keptTurns, .long x45]))] := hD
          have hl : lv_has ls 2 [(0, .ref o)] := hl
          have hT : (rs_X6_digest_9 u38 u39 u40 vo_pageMany vo_glasses vo_towersRead vo_poured vo_done vo_rows vo_amounts) x44 x45 = (r, qo_hash, qo_takes, qo_leans, qo_would) := hT
          have i2 : 0 ≤ x44.toInt := i2
          have j2 : x44.toInt ≤ vo_pageMany.toInt := j2
          refine lv_iconst (v := (0 : Int32)) hx hb dX6_digest_157 (by decide) ?_
          refine lv_istore_n (lv' := [(1, .int (0 : Int32)), (0, .ref o)]) hx hb dX6_digest_158 rfl hl (by decide) rfl (fun ls hl => ?_)
          have hz_69 : ((0 : Int32)).toInt = 0 := by decide
          refine zz_loop (α := Int32 × Int64) 181 (fun k a H locs ls => (0 ≤ a.1.toInt) ∧ (a.1.toInt ≤ 6) ∧ (6 - a.1.toInt < ((k : Nat) : Int)) ∧ lp_X6_digest_10 (rs_X6_digest_10 u38 u39 u40) vo_pageMany vo_glasses vo_towersRead vo_poured vo_done vo_rows vo_amounts k a.1 a.2 = (r, qo_hash, qo_takes, qo_leans, qo_would) ∧ va_P (dC, dI) vwCl [(o_page, .inl (cI, 70, .inl vo_page)), (o_turns, .inl (cI, 9, .inl vo_turns)), (o_drank, .inl (cJ, 9, .inr (.inl vo_drank))), (o_rows, .inl (cI, 54, .inl vo_rows)), (o_amounts, .inl (cJ, 9, .inr (.inl vo_amounts))), (o_takes, .inl (cJ, 9, .inr (.inl u38))), (o_leans, .inl (cI, 9, .inl u39)), (o_would, .inl (cJ, 9, .inr (.inl u40))), (o, .inr (6, [.ref o_page, .int vo_pageMany, .int vo_readMany, .int vo_state, .int vo_readMost, .ref o_readRows, .int vo_glasses, .int vo_towersRead, .int vo_poured, .ref o_rows, .ref o_turns, .ref o_amounts, .ref o_drank, .long vo_spilt, .ref o_takes, .ref o_leans, .ref o_would, .int vo_done, .int vo_seedNow, .int vo_keptTower, .int vo_keptPoured, .long vo_keptSpilt, .ref o_keptAmounts, .ref o_keptDrank, .ref o_keptTurns, .long a.2]))] H ∧ va_D A [(o_page, .inl (cI, 70, .inl vo_page)), (o_turns, .inl (cI, 9, .inl vo_turns)), (o_drank, .inl (cJ, 9, .inr (.inl vo_drank))), (o_rows, .inl (cI, 54, .inl vo_rows)), (o_amounts, .inl (cJ, 9, .inr (.inl vo_amounts))), (o_takes, .inl (cJ, 9, .inr (.inl u38))), (o_leans, .inl (cI, 9, .inl u39)), (o_would, .inl (cJ, 9, .inr (.inl u40))), (o, .inr (6, [.ref o_page, .int vo_pageMany, .int vo_readMany, .int vo_state, .int vo_readMost, .ref o_readRows, .int vo_glasses, .int vo_towersRead, .int vo_poured, .ref o_rows, .ref o_turns, .ref o_amounts, .ref o_drank, .long vo_spilt, .ref o_takes, .ref o_leans, .ref o_would, .int vo_done, .int vo_seedNow, .int vo_keptTower, .int vo_keptPoured, .long vo_keptSpilt, .ref o_keptAmounts, .ref o_keptDrank, .ref o_keptTurns, .long a.2]))] ∧ va_S A s.heap H locs ∧ lv_has ls 2 [(1, .int a.1), (0, .ref o)]) (fun a H locs ls => (0 ≤ a.1.toInt) ∧ (a.1.toInt ≤ 6) ∧ (rs_X6_digest_10 u38 u39 u40) a.1 a.2 = (r, qo_hash, qo_takes, qo_leans, qo_would) ∧ va_P (dC, dI) vwCl [(o_page, .inl (cI, 70, .inl vo_page)), (o_turns, .inl (cI, 9, .inl vo_turns)), (o_drank, .inl (cJ, 9, .inr (.inl vo_drank))), (o_rows, .inl (cI, 54, .inl vo_rows)), (o_amounts, .inl (cJ, 9, .inr (.inl vo_amounts))), (o_takes, .inl (cJ, 9, .inr (.inl u38))), (o_leans, .inl (cI, 9, .inl u39)), (o_would, .inl (cJ, 9, .inr (.inl u40))), (o, .inr (6, [.ref o_page, .int vo_pageMany, .int vo_readMany, .int vo_state, .int vo_readMost, .ref o_readRows, .int vo_glasses, .int vo_towersRead, .int vo_poured, .ref o_rows, .ref o_turns, .ref o_amounts, .ref o_drank, .long vo_spilt, .ref o_takes, .ref o_leans, .ref o_would, .int vo_done, .int vo_seedNow, .int vo_keptTower, .int vo_keptPoured, .long vo_keptSpilt, .ref o_keptAmounts, .ref o_keptDrank, .ref o_keptTurns, .long a.2]))] H ∧ va_D A [(o_page, .inl (cI, 70, .inl vo_page)), (o_turns, .inl (cI, 9, .inl vo_turns)), (o_drank, .inl (cJ, 9, .inr (.inl vo_drank))), (o_rows, .inl (cI, 54, .inl vo_rows)), (o_amounts, .inl (cJ, 9, .inr (.inl vo_amounts))), (o_takes, .inl (cJ, 9, .inr (.inl u38))), (o_leans, .inl (cI, 9, .inl u39)), (o_would, .inl (cJ, 9, .inr (.inl u40))), (o, .inr (6, [.ref o_page, .int vo_pageMany, .int vo_readMany, .int vo_state, .int vo_readMost, .ref o_readRows, .int vo_glasses, .int vo_towersRead, .int vo_poured, .ref o_rows, .ref o_turns, .ref o_amounts, .ref o_drank, .long vo_spilt, .ref o_takes, .ref o_leans, .ref o_would, .int vo_done, .int vo_seedNow, .int vo_keptTower, .int vo_keptPoured, .long vo_keptSpilt, .ref o_keptAmounts, .ref o_keptDrank, .ref o_keptTurns, .long a.2]))] ∧ va_S A s.heap H locs ∧ lv_has ls 2 [(0, .ref o)]) ?_ ?_ ?_ 8 ((0 : Int32), x45) ⟨(by omega : 0 ≤ (0 : Int32).toInt), (by omega : (0 : Int32).toInt ≤ 6), (by omega : 6 - (0 : Int32).toInt < ((8 : Nat) : Int)), hT, hP.sub [0, 1, 2, 3, 4, 5, 6, 7, 8] rfl, hD.sub [0, 1, 2, 3, 4, 5, 6, 7, 8] rfl rfl, hS, lv_sub hl [0, 1] rfl⟩
          · rintro ⟨x50, x51⟩ H locs ls ⟨i3, j3, hT, hP, hD, hS, hl⟩
            have hP : va_P (dC, dI) vwCl [(o_page, .inl (cI, 70, .inl vo_page)), (o_turns, .inl (cI, 9, .inl vo_turns)), (o_drank, .inl (cJ, 9, .inr (.inl vo_drank))), (o_rows, .inl (cI, 54, .inl vo_rows)), (o_amounts, .inl (cJ, 9, .inr (.inl vo_amounts))), (o_takes, .inl (cJ, 9, .inr (.inl u38))), (o_leans, .inl (cI, 9, .inl u39)), (o_would, .inl (cJ, 9, .inr (.inl u40))), (o, .inr (6, [.ref o_page, .int vo_pageMany, .int vo_readMany, .int vo_state, .int vo_readMost, .ref o_readRows, .int vo_glasses, .int vo_towersRead, .int vo_poured, .ref o_rows, .ref o_turns, .ref o_amounts, .ref o_drank, .long vo_spilt, .ref o_takes, .ref o_leans, .ref o_would, .int vo_done, .int vo_seedNow, .int vo_keptTower, .int vo_keptPoured, .long vo_keptSpilt, .ref o_keptAmounts, .ref o_keptDrank, .ref o_keptTurns, .long x51]))] H := hP
            have hD : va_D A [(o_page, .inl (cI, 70, .inl vo_page)), (o_turns, .inl (cI, 9, .inl vo_turns)), (o_drank, .inl (cJ, 9, .inr (.inl vo_drank))), (o_rows, .inl (cI, 54, .inl vo_rows)), (o_amounts, .inl (cJ, 9, .inr (.inl vo_amounts))), (o_takes, .inl (cJ, 9, .inr (.inl u38))), (o_leans, .inl (cI, 9, .inl u39)), (o_would, .inl (cJ, 9, .inr (.inl u40))), (o, .inr (6, [.ref o_page, .int vo_pageMany, .int vo_readMany, .int vo_state, .int vo_readMost, .ref o_readRows, .int vo_glasses, .int vo_towersRead, .int vo_poured, .ref o_rows, .ref o_turns, .ref o_amounts, .ref o_drank, .long vo_spilt, .ref o_takes, .ref o_leans, .ref o_would, .int vo_done, .int vo_seedNow, .int vo_keptTower, .int vo_keptPoured, .long vo_keptSpilt, .ref o_keptAmounts, .ref o_keptDrank, .ref o_keptTurns, .long x51]))] := hD
            have hl : lv_has ls 2 [(0, .ref o)] := hl
            have hT : (rs_X6_digest_10 u38 u39 u40) x50 x51 = (r, qo_hash, qo_takes, qo_leans, qo_would) := hT
            have i3 : 0 ≤ x50.toInt := i3
            have j3 : x50.toInt ≤ 6 := j3
            refine lv_aload_n hx hb dX6_digest_181 rfl (lv_at hl 0 rfl) ?_
            refine va_get (D := (dC, dI)) (ci := 6) (v := .long x51) (C := RX6) (T := TX6) (N := 26) hx hb hts hwX6 hown hK hP 8 rfl rfl 25 (by decide) hf_232 (fun _ h9 => h9) rfl dX6_digest_182 ?_
            have hP9 := hP
            have hD9 := hD
            have hS9 := hS
            have hT : (x51, x51, u38, u39, u40) = (r, qo_hash, qo_takes, qo_leans, qo_would) := hT
            cases hT
            subst hQ
            exact zz_lret hx hb hr [8, 0, 3, 1, 4, 2, 5, 6, 7] hK hP9 hD9 hS9 rfl rfl (by assumption) hlocks dX6_digest_185
          · rintro ⟨b48, b49⟩ H locs ls ⟨i3, j3, hm, -⟩
            try dsimp only at *
            omega
          · intro k10 hex10 ih10
            rintro ⟨b48, b49⟩ H locs ls ⟨i3, j3, hm10, hT, hP, hD, hS, hl⟩
            have hP : va_P (dC, dI) vwCl [(o_page, .inl (cI, 70, .inl vo_page)), (o_turns, .inl (cI, 9, .inl vo_turns)), (o_drank, .inl (cJ, 9, .inr (.inl vo_drank))), (o_rows, .inl (cI, 54, .inl vo_rows)), (o_amounts, .inl (cJ, 9, .inr (.inl vo_amounts))), (o_takes, .inl (cJ, 9, .inr (.inl u38))), (o_leans, .inl (cI, 9, .inl u39)), (o_would, .inl (cJ, 9, .inr (.inl u40))), (o, .inr (6, [.ref o_page, .int vo_pageMany, .int vo_readMany, .int vo_state, .int vo_readMost, .ref o_readRows, .int vo_glasses, .int vo_towersRead, .int vo_poured, .ref o_rows, .ref o_turns, .ref o_amounts, .ref o_drank, .long vo_spilt, .ref o_takes, .ref o_leans, .ref o_would, .int vo_done, .int vo_seedNow, .int vo_keptTower, .int vo_keptPoured, .long vo_keptSpilt, .ref o_keptAmounts, .ref o_keptDrank, .ref o_keptTurns, .long b49]))] H := hP
            have hD : va_D A [(o_page, .inl (cI, 70, .inl vo_page)), (o_turns, .inl (cI, 9, .inl vo_turns)), (o_drank, .inl (cJ, 9, .inr (.inl vo_drank))), (o_rows, .inl (cI, 54, .inl vo_rows)), (o_amounts, .inl (cJ, 9, .inr (.inl vo_amounts))), (o_takes, .inl (cJ, 9, .inr (.inl u38))), (o_leans, .inl (cI, 9, .inl u39)), (o_would, .inl (cJ, 9, .inr (.inl u40))), (o, .inr (6, [.ref o_page, .int vo_pageMany, .int vo_readMany, .int vo_state, .int vo_readMost, .ref o_readRows, .int vo_glasses, .int vo_towersRead, .int vo_poured, .ref o_rows, .ref o_turns, .ref o_amounts, .ref o_drank, .long vo_spilt, .ref o_takes, .ref o_leans, .ref o_would, .int vo_done, .int vo_seedNow, .int vo_keptTower, .int vo_keptPoured, .long vo_keptSpilt, .ref o_keptAmounts, .ref o_keptDrank, .ref o_keptTurns, .long b49]))] := hD
            have hl : lv_has ls 2 [(1, .int b48), (0, .ref o)] := hl
            have hT : lp_X6_digest_10 (rs_X6_digest_10 u38 u39 u40) vo_pageMany vo_glasses vo_towersRead vo_poured vo_done vo_rows vo_amounts (k10 + 1) b48 b49 = (r, qo_hash, qo_takes, qo_leans, qo_would) := hT
            have i3 : 0 ≤ b48.toInt := i3
            have j3 : b48.toInt ≤ 6 := j3
            have hm10 : 6 - b48.toInt < (((k10 + 1) : Nat) : Int) := hm10
            try simp only [Int.natCast_add, Int.natCast_one, Nat.cast_add, Nat.cast_one] at hm10
            refine lv_iload_n hx hb dX6_digest_159 rfl (lv_at hl 0 rfl) ?_
            refine lv_bipush (v := (6 : Int32)) hx hb dX6_digest_160 (by decide) ?_
            refine lv_icmp_ge (tgt := 181) hx hb dX6_digest_162 (by decide) (fun c_53 => ?_) (fun c_53 => ?_)
            · replace hT := cutT c_53 hT
              have g_70 := zleT (by decide : ((6 : Int32)).toInt = 6) (rfl : (b48).toInt = _) c_53
              exact hex10 (b48, b49) _ _ _ ⟨(by omega : 0 ≤ b48.toInt), (by omega : b48.toInt ≤ 6), hT, hP.sub [0, 1, 2, 3, 4, 5, 6, 7, 8] rfl, hD.sub [0, 1, 2, 3, 4, 5, 6, 7, 8] rfl rfl, hS, lv_sub hl [1] rfl⟩
            · replace hT := cutF c_53 hT
              have g_71 := zleF (by decide : ((6 : Int32)).toInt = 6) (rfl : (b48).toInt = _) c_53
              refine lv_aload_n hx hb dX6_digest_165 rfl (lv_at hl 1 rfl) ?_
              refine lv_aload_n hx hb dX6_digest_166 rfl (lv_at hl 1 rfl) ?_
              refine lv_iload_n hx hb dX6_digest_167 rfl (lv_at hl 0 rfl) ?_
              obtain ⟨r52, ev_54⟩ : ∃ x0, (m_X6_countOf vo_pageMany vo_glasses vo_towersRead vo_poured vo_done vo_rows vo_amounts b48) = x0 := ⟨_, rfl⟩
              replace hT := cut_n ev_54 hT
              refine zz_ci [8, 3, 4] [0, 1, 2, 5, 6, 7] (wr := [(o_page, .inl (cI, 70, .inl vo_page)), (o_turns, .inl (cI, 9, .inl vo_turns)), (o_drank, .inl (cJ, 9, .inr (.inl vo_drank))), (o_takes, .inl (cJ, 9, .inr (.inl u38))), (o_leans, .inl (cI, 9, .inl u39)), (o_would, .inl (cJ, 9, .inr (.inl u40)))]) (w1 := [(o, .inr (6, [.ref o_page, .int vo_pageMany, .int vo_readMany, .int vo_state, .int vo_readMost, .ref o_readRows, .int vo_glasses, .int vo_towersRead, .int vo_poured, .ref o_rows, .ref o_turns, .ref o_amounts, .ref o_drank, .long vo_spilt, .ref o_takes, .ref o_leans, .ref o_would, .int vo_done, .int vo_seedNow, .int vo_keptTower, .int vo_keptPoured, .long vo_keptSpilt, .ref o_keptAmounts, .ref o_keptDrank, .ref o_keptTurns, .long b49])), (o_rows, .inl (cI, 54, .inl vo_rows)), (o_amounts, .inl (cJ, 9, .inr (.inl vo_amounts)))]) (va_runV (As := [.int b48]) (rest := [.ref o]) ⟨hx, hb, hml, hown, hts⟩ (k_X6_countOf l dC dI cI cJ cC H.size o o_page o_readRows o_rows o_turns o_amounts o_drank o_takes o_leans o_would o_keptAmounts o_keptDrank o_keptTurns vo_pageMany vo_readMany vo_state vo_readMost vo_glasses vo_towersRead vo_poured vo_spilt vo_done vo_seedNow vo_keptTower vo_keptPoured vo_keptSpilt b49 vo_rows vo_amounts b48 r52 ev_54 hg0 hg9) (cwV 1 hts gX6_digest_X6_countOf rfl rfl rfl (by decide +kernel) ⟨Nat.le_of_ble_eq_true rfl, Nat.le_of_ble_eq_true rfl⟩) (zz_preV [8, 3, 4] hK hP hD rfl rfl (va_recv hK hP (ci := 6) (q0 := 8) rfl rfl)) rfl rfl hl.1 rfl (lv_room (Nat.le_of_ble_eq_true rfl)) dX6_digest_168 ⟨Nat.zero_le _, Nat.zero_le _⟩) hP hD hS hA rfl rfl rfl (by decide) (fun ok_55 H locs hP hD hS => ?_)
              have hP : va_P (dC, dI) vwCl [(o_page, .inl (cI, 70, .inl vo_page)), (o_turns, .inl (cI, 9, .inl vo_turns)), (o_drank, .inl (cJ, 9, .inr (.inl vo_drank))), (o_takes, .inl (cJ, 9, .inr (.inl u38))), (o_leans, .inl (cI, 9, .inl u39)), (o_would, .inl (cJ, 9, .inr (.inl u40))), (o, .inr (6, [.ref o_page, .int vo_pageMany, .int vo_readMany, .int vo_state, .int vo_readMost, .ref o_readRows, .int vo_glasses, .int vo_towersRead, .int vo_poured, .ref o_rows, .ref o_turns, .ref o_amounts, .ref o_drank, .long vo_spilt, .ref o_takes, .ref o_leans, .ref o_would, .int vo_done, .int vo_seedNow, .int vo_keptTower, .int vo_keptPoured, .long vo_keptSpilt, .ref o_keptAmounts, .ref o_keptDrank, .ref o_keptTurns, .long b49])), (o_rows, .inl (cI, 54, .inl vo_rows)), (o_amounts, .inl (cJ, 9, .inr (.inl vo_amounts)))] H := hP
              have hD : va_D A [(o_page, .inl (cI, 70, .inl vo_page)), (o_turns, .inl (cI, 9, .inl vo_turns)), (o_drank, .inl (cJ, 9, .inr (.inl vo_drank))), (o_takes, .inl (cJ, 9, .inr (.inl u38))), (o_leans, .inl (cI, 9, .inl u39)), (o_would, .inl (cJ, 9, .inr (.inl u40))), (o, .inr (6, [.ref o_page, .int vo_pageMany, .int vo_readMany, .int vo_state, .int vo_readMost, .ref o_readRows, .int vo_glasses, .int vo_towersRead, .int vo_poured, .ref o_rows, .ref o_turns, .ref o_amounts, .ref o_drank, .long vo_spilt, .ref o_takes, .ref o_leans, .ref o_would, .int vo_done, .int vo_seedNow, .int vo_keptTower, .int vo_keptPoured, .long vo_keptSpilt, .ref o_keptAmounts, .ref o_keptDrank, .ref o_keptTurns, .long b49])), (o_rows, .inl (cI, 54, .inl vo_rows)), (o_amounts, .inl (cJ, 9, .inr (.inl vo_amounts)))] := hD
              refine lv_i2l (v := (r52.toInt64)) hx hb dX6_digest_171 rfl ?_
              obtain ⟨u53, ev_56⟩ : ∃ x0, (m_X6_say b49 (r52.toInt64)) = x0 := ⟨_, rfl⟩
              replace hT := cut_n ev_56 hT
              refine zz_cv [6] [0, 1, 2, 3, 4, 5, 7, 8] (wr := [(o_page, .inl (cI, 70, .inl vo_page)), (o_turns, .inl (cI, 9, .inl vo_turns)), (o_drank, .inl (cJ, 9, .inr (.inl vo_drank))), (o_takes, .inl (cJ, 9, .inr (.inl u38))), (o_leans, .inl (cI, 9, .inl u39)), (o_would, .inl (cJ, 9, .inr (.inl u40))), (o_rows, .inl (cI, 54, .inl vo_rows)), (o_amounts, .inl (cJ, 9, .inr (.inl vo_amounts)))]) (w1 := [(o, .inr (6, [.ref o_page, .int vo_pageMany, .int vo_readMany, .int vo_state, .int vo_readMost, .ref o_readRows, .int vo_glasses, .int vo_towersRead, .int vo_poured, .ref o_rows, .ref o_turns, .ref o_amounts, .ref o_drank, .long vo_spilt, .ref o_takes, .ref o_leans, .ref o_would, .int vo_done, .int vo_seedNow, .int vo_keptTower, .int vo_keptPoured, .long vo_keptSpilt, .ref o_keptAmounts, .ref o_keptDrank, .ref o_keptTurns, .long u53]))]) (va_runV (As := [.long (r52.toInt64)]) (rest := []) ⟨hx, hb, hml, hown, hts⟩ (k_X6_say l dC dI cI cJ cC H.size o o_page o_readRows o_rows o_turns o_amounts o_drank o_takes o_leans o_would o_keptAmounts o_keptDrank o_keptTurns vo_pageMany vo_readMany vo_state vo_readMost vo_glasses vo_towersRead vo_poured vo_spilt vo_done vo_seedNow vo_keptTower vo_keptPoured vo_keptSpilt b49 (r52.toInt64) u53 ev_56) (cwV 1 hts gX6_digest_X6_say rfl rfl rfl (by decide +kernel) ⟨Nat.le_of_ble_eq_true rfl, Nat.le_of_ble_eq_true rfl⟩) (zz_preV [6] hK hP hD rfl rfl (va_recv hK hP (ci := 6) (q0 := 6) rfl rfl)) rfl rfl hl.1 rfl (lv_room (Nat.le_of_ble_eq_true rfl)) dX6_digest_172 ⟨Nat.zero_le _, Nat.zero_le _⟩) hP hD hS hA rfl rfl rfl (by decide) (fun ok_57 H locs hP hD hS => ?_)
              have hP : va_P (dC, dI) vwCl [(o_page, .inl (cI, 70, .inl vo_page)), (o_turns, .inl (cI, 9, .inl vo_turns)), (o_drank, .inl (cJ, 9, .inr (.inl vo_drank))), (o_takes, .inl (cJ, 9, .inr (.inl u38))), (o_leans, .inl (cI, 9, .inl u39)), (o_would, .inl (cJ, 9, .inr (.inl u40))), (o_rows, .inl (cI, 54, .inl vo_rows)), (o_amounts, .inl (cJ, 9, .inr (.inl vo_amounts))), (o, .inr (6, [.ref o_page, .int vo_pageMany, .int vo_readMany, .int vo_state, .int vo_readMost, .ref o_readRows, .int vo_glasses, .int vo_towersRead, .int vo_poured, .ref o_rows, .ref o_turns, .ref o_amounts, .ref o_drank, .long vo_spilt, .ref o_takes, .ref o_leans, .ref o_would, .int vo_done, .int vo_seedNow, .int vo_keptTower, .int vo_keptPoured, .long vo_keptSpilt, .ref o_keptAmounts, .ref o_keptDrank, .ref o_keptTurns, .long u53]))] H := hP
              have hD : va_D A [(o_page, .inl (cI, 70, .inl vo_page)), (o_turns, .inl (cI, 9, .inl vo_turns)), (o_drank, .inl (cJ, 9, .inr (.inl vo_drank))), (o_takes, .inl (cJ, 9, .inr (.inl u38))), (o_leans, .inl (cI, 9, .inl u39)), (o_would, .inl (cJ, 9, .inr (.inl u40))), (o_rows, .inl (cI, 54, .inl vo_rows)), (o_amounts, .inl (cJ, 9, .inr (.inl vo_amounts))), (o, .inr (6, [.ref o_page, .int vo_pageMany, .int vo_readMany, .int vo_state, .int vo_readMost, .ref o_readRows, .int vo_glasses, .int vo_towersRead, .int vo_poured, .ref o_rows, .ref o_turns, .ref o_amounts, .ref o_drank, .long vo_spilt, .ref o_takes, .ref o_leans, .ref o_would, .int vo_done, .int vo_seedNow, .int vo_keptTower, .int vo_keptPoured, .long vo_keptSpilt, .ref o_keptAmounts, .ref o_keptDrank, .ref o_keptTurns, .long u53]))] := hD
              obtain ⟨v54, ev54⟩ : ∃ y : Int32, (b48 + (1 : Int32)) = y := ⟨_, rfl⟩
              replace hT := cut_n ev54 hT
              try have fv54 := zaddE (rfl : (b48).toInt = _) (by decide : ((1 : Int32)).toInt = 1) ev54 (by omega) (by omega)
              refine lv_iinc (v := v54) (lv' := [(1, .int v54), (0, .ref o)]) hx hb dX6_digest_175 hl (k := 0) rfl (by rw [← ev54]; rfl) (by decide) rfl (fun ls hl => ?_)
              refine lv_goto (tgt := 159) hx hb dX6_digest_178 (by decide) ?_
              exact ih10 (v54, u53) _ _ _ ⟨(by omega : 0 ≤ v54.toInt), (by omega : v54.toInt ≤ 6), (by omega : 6 - v54.toInt < ((k10 : Nat) : Int)), hT, hP.sub [0, 1, 2, 6, 7, 3, 4, 5, 8] rfl, hD.sub [0, 1, 2, 6, 7, 3, 4, 5, 8] rfl rfl, hS, lv_sub hl [0, 1] rfl⟩
        · rintro ⟨b42, b43⟩ H locs ls ⟨i2, j2, hm, -⟩
          try dsimp only at *
          omega
        · intro k9 hex9 ih9
          rintro ⟨b42, b43⟩ H locs ls ⟨i2, j2, hm9, hT, hP, hD, hS, hl⟩
          have hP : va_P (dC, dI) vwCl [(o_page, .inl (cI, 70, .inl vo_page)), (o_turns, .inl (cI, 9, .inl vo_turns)), (o_drank, .inl (cJ, 9, .inr (.inl vo_drank))), (o_rows, .inl (cI, 54, .inl vo_rows)), (o_amounts, .inl (cJ, 9, .inr (.inl vo_amounts))), (o_takes, .inl (cJ, 9, .inr (.inl u38))), (o_leans, .inl (cI, 9, .inl u39)), (o_would, .inl (cJ, 9, .inr (.inl u40))), (o, .inr (6, [.ref o_page, .int vo_pageMany, .int vo_readMany, .int vo_state, .int vo_readMost, .ref o_readRows, .int vo_glasses, .int vo_towersRead, .int vo_poured, .ref o_rows, .ref o_turns, .ref o_amounts, .ref o_drank, .long vo_spilt, .ref o_takes, .ref o_leans, .ref o_would, .int vo_done, .int vo_seedNow, .int vo_keptTower, .int vo_keptPoured, .long vo_keptSpilt, .ref o_keptAmounts, .ref o_keptDrank, .ref o_keptTurns, .long b43]))] H := hP
          have hD : va_D A [(o_page, .inl (cI, 70, .inl vo_page)), (o_turns, .inl (cI, 9, .inl vo_turns)), (o_drank, .inl (cJ, 9, .inr (.inl vo_drank))), (o_rows, .inl (cI, 54, .inl vo_rows)), (o_amounts, .inl (cJ, 9, .inr (.inl vo_amounts))), (o_takes, .inl (cJ, 9, .inr (.inl u38))), (o_leans, .inl (cI, 9, .inl u39)), (o_would, .inl (cJ, 9, .inr (.inl u40))), (o, .inr (6, [.ref o_page, .int vo_pageMany, .int vo_readMany, .int vo_state, .int vo_readMost, .ref o_readRows, .int vo_glasses, .int vo_towersRead, .int vo_poured, .ref o_rows, .ref o_turns, .ref o_amounts, .ref o_drank, .long vo_spilt, .ref o_takes, .ref o_leans, .ref o_would, .int vo_done, .int vo_seedNow, .int vo_keptTower, .int vo_keptPoured, .long vo_keptSpilt, .ref o_keptAmounts, .ref o_keptDrank, .ref o_keptTurns, .long b43]))] := hD
          have hl : lv_has ls 2 [(1, .int b42), (0, .ref o)] := hl
          have hT : lp_X6_digest_9 vo_pageMany (rs_X6_digest_9 u38 u39 u40 vo_pageMany vo_glasses vo_towersRead vo_poured vo_done vo_rows vo_amounts) vo_page (k9 + 1) b42 b43 = (r, qo_hash, qo_takes, qo_leans, qo_would) := hT
          have i2 : 0 ≤ b42.toInt := i2
          have j2 : b42.toInt ≤ vo_pageMany.toInt := j2
          have hm9 : vo_pageMany.toInt - b42.toInt < (((k9 + 1) : Nat) : Int) := hm9
          try simp only [Int.natCast_add, Int.natCast_one, Nat.cast_add, Nat.cast_one] at hm9
          refine lv_iload_n hx hb dX6_digest_132 rfl (lv_at hl 0 rfl) ?_
          refine lv_aload_n hx hb dX6_digest_133 rfl (lv_at hl 1 rfl) ?_
          refine va_get (D := (dC, dI)) (ci := 6) (v := .int vo_pageMany) (C := RX6) (T := TX6) (N := 26) hx hb hts hwX6 hown hK hP 8 rfl rfl 1 (by decide) hf_53 (fun _ h9 => h9) rfl dX6_digest_134 ?_
          refine lv_icmp_ge (tgt := 157) hx hb dX6_digest_137 (by decide) (fun c_49 => ?_) (fun c_49 => ?_)
          · replace hT := cutT c_49 hT
            have g_72 := zleT (rfl : (vo_pageMany).toInt = _) (rfl : (b42).toInt = _) c_49
            exact hex9 (b42, b43) _ _ _ ⟨(by omega : 0 ≤ b42.toInt), (by omega : b42.toInt ≤ vo_pageMany.toInt), hT, hP.sub [0, 1, 2, 3, 4, 5, 6, 7, 8] rfl, hD.sub [0, 1, 2, 3, 4, 5, 6, 7, 8] rfl rfl, hS, lv_sub hl [1] rfl⟩
          · replace hT := cutF c_49 hT
            have g_73 := zleF (rfl : (vo_pageMany).toInt = _) (rfl : (b42).toInt = _) c_49
            refine lv_aload_n hx hb dX6_digest_140 rfl (lv_at hl 1 rfl) ?_
            refine lv_aload_n hx hb dX6_digest_141 rfl (lv_at hl 1 rfl) ?_
            refine va_get (D := (dC, dI)) (ci := 6) (v := .ref o_page) (C := RX6) (T := TX6) (N := 26) hx hb hts hwX6 hown hK hP 8 rfl rfl 0 (by decide) hf_7 (fun _ h9 => h9) rfl dX6_digest_142 ?_
            refine lv_iload_n hx hb dX6_digest_145 rfl (lv_at hl 0 rfl) ?_
            have h_50 : vp_in b42 70 := zin (by omega) (by omega)
            refine va_iald hx hb hK hP 0 0 rfl rfl h_50 dX6_digest_146 ?_
            refine lv_i2l (v := ((vo_page b42.toNatClampNeg).toInt64)) hx hb dX6_digest_147 rfl ?_
            obtain ⟨u46, ev_51⟩ : ∃ x0, (m_X6_say b43 ((vo_page b42.toNatClampNeg).toInt64)) = x0 := ⟨_, rfl⟩
            replace hT := cut_n ev_51 hT
            refine zz_cv [8] [0, 1, 2, 3, 4, 5, 6, 7] (wr := [(o_page, .inl (cI, 70, .inl vo_page)), (o_turns, .inl (cI, 9, .inl vo_turns)), (o_drank, .inl (cJ, 9, .inr (.inl vo_drank))), (o_rows, .inl (cI, 54, .inl vo_rows)), (o_amounts, .inl (cJ, 9, .inr (.inl vo_amounts))), (o_takes, .inl (cJ, 9, .inr (.inl u38))), (o_leans, .inl (cI, 9, .inl u39)), (o_would, .inl (cJ, 9, .inr (.inl u40)))]) (w1 := [(o, .inr (6, [.ref o_page, .int vo_pageMany, .int vo_readMany, .int vo_state, .int vo_readMost, .ref o_readRows, .int vo_glasses, .int vo_towersRead, .int vo_poured, .ref o_rows, .ref o_turns, .ref o_amounts, .ref o_drank, .long vo_spilt, .ref o_takes, .ref o_leans, .ref o_would, .int vo_done, .int vo_seedNow, .int vo_keptTower, .int vo_keptPoured, .long vo_keptSpilt, .ref o_keptAmounts, .ref o_keptDrank, .ref o_keptTurns, .long u46]))]) (va_runV (As := [.long ((vo_page b42.toNatClampNeg).toInt64)]) (rest := []) ⟨hx, hb, hml, hown, hts⟩ (k_X6_say l dC dI cI cJ cC H.size o o_page o_readRows o_rows o_turns o_amounts o_drank o_takes o_leans o_would o_keptAmounts o_keptDrank o_keptTurns vo_pageMany vo_readMany vo_state vo_readMost vo_glasses vo_towersRead vo_poured vo_spilt vo_done vo_seedNow vo_keptTower vo_keptPoured vo_keptSpilt b43 ((vo_page b42.toNatClampNeg).toInt64) u46 ev_51) (cwV 1 hts gX6_digest_X6_say rfl rfl rfl (by decide +kernel) ⟨Nat.le_of_ble_eq_true rfl, Nat.le_of_ble_eq_true rfl⟩) (zz_preV [8] hK hP hD rfl rfl (va_recv hK hP (ci := 6) (q0 := 8) rfl rfl)) rfl rfl hl.1 rfl (lv_room (Nat.le_of_ble_eq_true rfl)) dX6_digest_148 ⟨Nat.zero_le _, Nat.zero_le _⟩) hP hD hS hA rfl rfl rfl (by decide) (fun ok_52 H locs hP hD hS => ?_)
            have hP : va_P (dC, dI) vwCl [(o_page, .inl (cI, 70, .inl vo_page)), (o_turns, .inl (cI, 9, .inl vo_turns)), (o_drank, .inl (cJ, 9, .inr (.inl vo_drank))), (o_rows, .inl (cI, 54, .inl vo_rows)), (o_amounts, .inl (cJ, 9, .inr (.inl vo_amounts))), (o_takes, .inl (cJ, 9, .inr (.inl u38))), (o_leans, .inl (cI, 9, .inl u39)), (o_would, .inl (cJ, 9, .inr (.inl u40))), (o, .inr (6, [.ref o_page, .int vo_pageMany, .int vo_readMany, .int vo_state, .int vo_readMost, .ref o_readRows, .int vo_glasses, .int vo_towersRead, .int vo_poured, .ref o_rows, .ref o_turns, .ref o_amounts, .ref o_drank, .long vo_spilt, .ref o_takes, .ref o_leans, .ref o_would, .int vo_done, .int vo_seedNow, .int vo_keptTower, .int vo_keptPoured, .long vo_keptSpilt, .ref o_keptAmounts, .ref o_keptDrank, .ref o_keptTurns, .long u46]))] H := hP
            have hD : va_D A [(o_page, .inl (cI, 70, .inl vo_page)), (o_turns, .inl (cI, 9, .inl vo_turns)), (o_drank, .inl (cJ, 9, .inr (.inl vo_drank))), (o_rows, .inl (cI, 54, .inl vo_rows)), (o_amounts, .inl (cJ, 9, .inr (.inl vo_amounts))), (o_takes, .inl (cJ, 9, .inr (.inl u38))), (o_leans, .inl (cI, 9, .inl u39)), (o_would, .inl (cJ, 9, .inr (.inl u40))), (o, .inr (6, [.ref o_page, .int vo_pageMany, .int vo_readMany, .int vo_state, .int vo_readMost, .ref o_readRows, .int vo_glasses, .int vo_towersRead, .int vo_poured, .ref o_rows, .ref o_turns, .ref o_amounts, .ref o_drank, .long vo_spilt, .ref o_takes, .ref o_leans, .ref o_would, .int vo_done, .int vo_seedNow, .int vo_keptTower, .int vo_keptPoured, .long vo_keptSpilt, .ref o_keptAmounts, .ref o_keptDrank, .ref o_keptTurns, .long u46]))] := hD
            obtain ⟨v47, ev47⟩ : ∃ y : Int32, (b42 + (1 : Int32)) = y := ⟨_, rfl⟩
            replace hT := cut_n ev47 hT
            try have fv47 := zaddE (rfl : (b42).toInt = _) (by decide : ((1 : Int32)).toInt = 1) ev47 (by omega) (by omega)
            refine lv_iinc (v := v47) (lv' := [(1, .int v47), (0, .ref o)]) hx hb dX6_digest_151 hl (k := 0) rfl (by rw [← ev47]; rfl) (by decide) rfl (fun ls hl => ?_)
            refine lv_goto (tgt := 132) hx hb dX6_digest_154 (by decide) ?_
            exact ih9 (v47, u46) _ _ _ ⟨(by omega : 0 ≤ v47.toInt), (by omega : v47.toInt ≤ vo_pageMany.toInt), (by omega : vo_pageMany.toInt - v47.toInt < ((k9 : Nat) : Int)), hT, hP.sub [0, 1, 2, 3, 4, 5, 6, 7, 8] rfl, hD.sub [0, 1, 2, 3, 4, 5, 6, 7, 8] rfl rfl, hS, lv_sub hl [0, 1] rfl⟩
      · intro xv hT hM
        refine lv_icmp_le (tgt := 119) hx hb dX6_digest_110 (by decide) (fun c_44 => ?_) (fun c_44 => ?_)
        · replace hT := cutT c_44 hT
          have g_74 := zleT (rfl : (vo_poured).toInt = _) (by decide : ((999 : Int32)).toInt = 999) c_44
          refine lv_aload_n hx hb dX6_digest_119 rfl (lv_at hl 0 rfl) ?_
          refine va_get (D := (dC, dI)) (ci := 6) (v := .int vo_poured) (C := RX6) (T := TX6) (N := 26) hx hb hts hwX6 hown hK hP 8 rfl rfl 8 (by decide) hf_110 (fun _ h9 => h9) rfl dX6_digest_120 ?_
          have hP9 := hP
          have hD9 := hD
          have hS9 := hS
          have hl9 := hl
          have hM9 := hM
          have hT : vo_poured = xv := hT
          subst hT
          exact hM9 _ _ _ ⟨hP9.sub [0, 1, 2, 3, 4, 5, 6, 7, 8] rfl, hD9.sub [0, 1, 2, 3, 4, 5, 6, 7, 8] rfl rfl, hS9, lv_sub hl9 [0] rfl⟩
        · replace hT := cutF c_44 hT
          have g_75 := zleF (rfl : (vo_poured).toInt = _) (by decide : ((999 : Int32)).toInt = 999) c_44
          refine lv_sipush (v := (999 : Int32)) hx hb dX6_digest_113 (by decide) ?_
          refine lv_goto (tgt := 123) hx hb dX6_digest_116 (by decide) ?_
          have hP9 := hP
          have hD9 := hD
          have hS9 := hS
          have hl9 := hl
          have hM9 := hM
          have hT : (999 : Int32) = xv := hT
          subst hT
          exact hM9 _ _ _ ⟨hP9.sub [0, 1, 2, 3, 4, 5, 6, 7, 8] rfl, hD9.sub [0, 1, 2, 3, 4, 5, 6, 7, 8] rfl rfl, hS9, lv_sub hl9 [0] rfl⟩
  · rintro ⟨b1, b2⟩ H locs ls ⟨i1, j1, hm, -⟩
    try dsimp only at *
    omega
  · intro k6 hex6 ih6
    rintro ⟨b1, b2⟩ H locs ls ⟨i1, j1, hm6, hT, hP, hD, hS, hl⟩
    have hP : va_P (dC, dI) vwCl [(o, .inr (6, [.ref o_page, .int vo_pageMany, .int vo_readMany, .int vo_state, .int vo_readMost, .ref o_readRows, .int vo_glasses, .int vo_towersRead, .int vo_poured, .ref o_rows, .ref o_turns, .ref o_amounts, .ref o_drank, .long vo_spilt, .ref o_takes, .ref o_leans, .ref o_would, .int vo_done, .int vo_seedNow, .int vo_keptTower, .int vo_keptPoured, .long vo_keptSpilt, .ref o_keptAmounts, .ref o_keptDrank, .ref o_keptTurns, .long b2])), (o_page, .inl (cI, 70, .inl vo_page)), (o_rows, .inl (cI, 54, .inl vo_rows)), (o_turns, .inl (cI, 9, .inl vo_turns)), (o_amounts, .inl (cJ, 9, .inr (.inl vo_amounts))), (o_drank, .inl (cJ, 9, .inr (.inl vo_drank))), (o_takes, .inl (cJ, 9, .inr (.inl vo_takes))), (o_leans, .inl (cI, 9, .inl vo_leans)), (o_would, .inl (cJ, 9, .inr (.inl vo_would)))] H := hP
    have hD : va_D A [(o, .inr (6, [.ref o_page, .int vo_pageMany, .int vo_readMany, .int vo_state, .int vo_readMost, .ref o_readRows, .int vo_glasses, .int vo_towersRead, .int vo_poured, .ref o_rows, .ref o_turns, .ref o_amounts, .ref o_drank, .long vo_spilt, .ref o_takes, .ref o_leans, .ref o_would, .int vo_done, .int vo_seedNow, .int vo_keptTower, .int vo_keptPoured, .long vo_keptSpilt, .ref o_keptAmounts, .ref o_keptDrank, .ref o_keptTurns, .long b2])), (o_page, .inl (cI, 70, .inl vo_page)), (o_rows, .inl (cI, 54, .inl vo_rows)), (o_turns, .inl (cI, 9, .inl vo_turns)), (o_amounts, .inl (cJ, 9, .inr (.inl vo_amounts))), (o_drank, .inl (cJ, 9, .inr (.inl vo_drank))), (o_takes, .inl (cJ, 9, .inr (.inl vo_takes))), (o_leans, .inl (cI, 9, .inl vo_leans)), (o_would, .inl (cJ, 9, .inr (.inl vo_would)))] := hD
    have hl : lv_has ls 2 [(1, .int b1), (0, .ref o)] := hl
    have hT : lp_X6_digest_6 vo_glasses (rs_X6_digest_6 vo_spilt vo_glasses vo_amounts vo_rows vo_takes vo_leans vo_would vo_poured vo_pageMany vo_towersRead vo_done vo_page) vo_rows vo_turns vo_amounts vo_drank (k6 + 1) b1 b2 = (r, qo_hash, qo_takes, qo_leans, qo_would) := hT
    have i1 : 0 ≤ b1.toInt := i1
    have j1 : b1.toInt ≤ vo_glasses.toInt := j1
    have hm6 : vo_glasses.toInt - b1.toInt < (((k6 + 1) : Nat) : Int) := hm6
    try simp only [Int.natCast_add, Int.natCast_one, Nat.cast_add, Nat.cast_one] at hm6
    refine lv_iload_n hx hb dX6_digest_9 rfl (lv_at hl 0 rfl) ?_
    refine lv_aload_n hx hb dX6_digest_10 rfl (lv_at hl 1 rfl) ?_
    refine va_get (D := (dC, dI)) (ci := 6) (v := .int vo_glasses) (C := RX6) (T := TX6) (N := 26) hx hb hts hwX6 hown hK hP 0 rfl rfl 6 (by decide) hf_97 (fun _ h9 => h9) rfl dX6_digest_11 ?_
    refine lv_icmp_ge (tgt := 28) hx hb dX6_digest_14 (by decide) (fun c_1 => ?_) (fun c_1 => ?_)
    · replace hT := cutT c_1 hT
      have g_76 := zleT (rfl : (vo_glasses).toInt = _) (rfl : (b1).toInt = _) c_1
      exact hex6 (b1, b2) _ _ _ ⟨(by omega : 0 ≤ b1.toInt), (by omega : b1.toInt ≤ vo_glasses.toInt), hT, hP.sub [0, 1, 2, 3, 4, 5, 6, 7, 8] rfl, hD.sub [0, 1, 2, 3, 4, 5, 6, 7, 8] rfl rfl, hS, lv_sub hl [1] rfl⟩
    · replace hT := cutF c_1 hT
      have g_77 := zleF (rfl : (vo_glasses).toInt = _) (rfl : (b1).toInt = _) c_1
      refine lv_aload_n hx hb dX6_digest_17 rfl (lv_at hl 1 rfl) ?_
      refine lv_iload_n hx hb dX6_digest_18 rfl (lv_at hl 0 rfl) ?_
      obtain ⟨u5, ev_2⟩ : ∃ x0, (m_X6_sayGlass b2 vo_rows vo_turns vo_amounts vo_drank b1) = x0 := ⟨_, rfl⟩
      replace hT := cut_n ev_2 hT
      refine zz_cv [0, 2, 3, 4, 5] [1, 6, 7, 8] (wr := [(o_page, .inl (cI, 70, .inl vo_page)), (o_takes, .inl (cJ, 9, .inr (.inl vo_takes))), (o_leans, .inl (cI, 9, .inl vo_leans)), (o_would, .inl (cJ, 9, .inr (.inl vo_would)))]) (w1 := [(o, .inr (6, [.ref o_page, .int vo_pageMany, .int vo_readMany, .int vo_state, .int vo_readMost, .ref o_readRows, .int vo_glasses, .int vo_towersRead, .int vo_poured, .ref o_rows, .ref o_turns, .ref o_amounts, .ref o_drank, .long vo_spilt, .ref o_takes, .ref o_leans, .ref o_would, .int vo_done, .int vo_seedNow, .int vo_keptTower, .int vo_keptPoured, .long vo_keptSpilt, .ref o_keptAmounts, .ref o_keptDrank, .ref o_keptTurns, .long u5])), (o_rows, .inl (cI, 54, .inl vo_rows)), (o_turns, .inl (cI, 9, .inl vo_turns)), (o_amounts, .inl (cJ, 9, .inr (.inl vo_amounts))), (o_drank, .inl (cJ, 9, .inr (.inl vo_drank)))]) (va_runV (As := [.int b1]) (rest := []) ⟨hx, hb, hml, hown, hts⟩ (k_X6_sayGlass l dC dI cI cJ cC H.size o o_page o_readRows o_rows o_turns o_amounts o_drank o_takes o_leans o_would o_keptAmounts o_keptDrank o_keptTurns vo_pageMany vo_readMany vo_state vo_readMost vo_glasses vo_towersRead vo_poured vo_spilt vo_done vo_seedNow vo_keptTower vo_keptPoured vo_keptSpilt b2 vo_rows vo_turns vo_amounts vo_drank b1 u5 ev_2 (by first | omega | decide) (by first | omega | decide)) (cwV 1 hts gX6_digest_X6_sayGlass rfl rfl rfl (by decide +kernel) ⟨Nat.le_of_ble_eq_true rfl, Nat.le_of_ble_eq_true rfl⟩) (zz_preV [0, 2, 3, 4, 5] hK hP hD rfl rfl (va_recv hK hP (ci := 6) (q0 := 0) rfl rfl)) rfl rfl hl.1 rfl (lv_room (Nat.le_of_ble_eq_true rfl)) dX6_digest_19 ⟨Nat.zero_le _, Nat.zero_le _⟩) hP hD hS hA rfl rfl rfl (by decide) (fun ok_3 H locs hP hD hS => ?_)
      have hP : va_P (dC, dI) vwCl [(o_page, .inl (cI, 70, .inl vo_page)), (o_takes, .inl (cJ, 9, .inr (.inl vo_takes))), (o_leans, .inl (cI, 9, .inl vo_leans)), (o_would, .inl (cJ, 9, .inr (.inl vo_would))), (o, .inr (6, [.ref o_page, .int vo_pageMany, .int vo_readMany, .int vo_state, .int vo_readMost, .ref o_readRows, .int vo_glasses, .int vo_towersRead, .int vo_poured, .ref o_rows, .ref o_turns, .ref o_amounts, .ref o_drank, .long vo_spilt, .ref o_takes, .ref o_leans, .ref o_would, .int vo_done, .int vo_seedNow, .int vo_keptTower, .int vo_keptPoured, .long vo_keptSpilt, .ref o_keptAmounts, .ref o_keptDrank, .ref o_keptTurns, .long u5])), (o_rows, .inl (cI, 54, .inl vo_rows)), (o_turns, .inl (cI, 9, .inl vo_turns)), (o_amounts, .inl (cJ, 9, .inr (.inl vo_amounts))), (o_drank, .inl (cJ, 9, .inr (.inl vo_drank)))] H := hP
      have hD : va_D A [(o_page, .inl (cI, 70, .inl vo_page)), (o_takes, .inl (cJ, 9, .inr (.inl vo_takes))), (o_leans, .inl (cI, 9, .inl vo_leans)), (o_would, .inl (cJ, 9, .inr (.inl vo_would))), (o, .inr (6, [.ref o_page, .int vo_pageMany, .int vo_readMany, .int vo_state, .int vo_readMost, .ref o_readRows, .int vo_glasses, .int vo_towersRead, .int vo_poured, .ref o_rows, .ref o_turns, .ref o_amounts, .ref o_drank, .long vo_spilt, .ref o_takes, .ref o_leans, .ref o_would, .int vo_done, .int vo_seedNow, .int vo_keptTower, .int vo_keptPoured, .long vo_keptSpilt, .ref o_keptAmounts, .ref o_keptDrank, .ref o_keptTurns, .long u5])), (o_rows, .inl (cI, 54, .inl vo_rows)), (o_turns, .inl (cI, 9, .inl vo_turns)), (o_amounts, .inl (cJ, 9, .inr (.inl vo_amounts))), (o_drank, .inl (cJ, 9, .inr (.inl vo_drank)))] := hD
      obtain ⟨v6, ev6⟩ : ∃ y : Int32, (b1 + (1 : Int32)) = y := ⟨_, rfl⟩
      replace hT := cut_n ev6 hT
      try have fv6 := zaddE (rfl : (b1).toInt = _) (by decide : ((1 : Int32)).toInt = 1) ev6 (by omega) (by omega)
      refine lv_iinc (v := v6) (lv' := [(1, .int v6), (0, .ref o)]) hx hb dX6_digest_22 hl (k := 0) rfl (by rw [← ev6]; rfl) (by decide) rfl (fun ls hl => ?_)
      refine lv_goto (tgt := 9) hx hb dX6_digest_25 (by decide) ?_
      exact ih6 (v6, u5) _ _ _ ⟨(by omega : 0 ≤ v6.toInt), (by omega : v6.toInt ≤ vo_glasses.toInt), (by omega : vo_glasses.toInt - v6.toInt < ((k6 : Nat) : Int)), hT, hP.sub [4, 0, 5, 6, 7, 8, 1, 2, 3] rfl, hD.sub [4, 0, 5, 6, 7, 8, 1, 2, 3] rfl rfl, hS, lv_sub hl [0, 1] rfl⟩
