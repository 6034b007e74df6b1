def m_J1_canEncode_9a6ad (p1 : Int32) : Int32 :=
 if p1 < (0 : Int32) then
  (0 : Int32)
 else
  if (255 : Int32) < p1 then
   (0 : Int32)
  else
   (1 : Int32)
set_option maxHeartbeats 4000000 in
set_option maxRecDepth 100000 in
theorem k_J1_canEncode_9a6ad (l : Launch) (dC : Nat → ClassId) (dI : Nat → Nat → Nat) (cI cJ cC : ClassId) (sz : Nat) (p1 : Int32) (r : Int32) (hT : m_J1_canEncode_9a6ad p1 = r) : Met l yJ1_canEncode_9a6ad wsJ1_canEncode_9a6ad ({ frames := 0, cells := 0, slots := 0, locals := 0 }) (zPc [.int p1] (dC, dI) (zTy cI cJ cC) [] sz) (zQi r ((zB01 r)) (dC, dI) (zTy cI cJ cC) [] (va_A [] sz)) 0 0 (va_A [] sz) := by
  refine Met.ofW (cc := cJ1_canEncode_9a6ad) (maxL := 1) (ret := (some .boolean)) (by decide) rfl ?_
  intro p e s m args below meth c s₁ B hml hv
  obtain ⟨rfl, hsz, hP, hK, hD0⟩ := hv
  have hx := B.exec
  have hb := B.bytes
  have hr := B.returns
  have hts := atoms_spec (ws := wsJ1_canEncode_9a6ad) B.pre
  have hown : s.vm.findClass RJ1 = some m.cls := findClass_of_methodNamed B.named
  have hlocks := B.notSynchronized
  subst hsz
  have hD := hD0.self (sz := s.heap.size)
  generalize hAe : va_A [] s.heap.size = A at hD ⊢
  have hA : ∀ q : Nat, s.heap.size ≤ q → A q := fun q h => by rw [← hAe]; exact Or.inr h
  have hS : va_S A s.heap s.heap [] := va_S.rf
  have hP : va_P (dC, dI) vwCl [] s.heap := hP
  have hK : va_K (dC, dI) vwCl (zTy cI cJ cC) s := hK
  have hl := lv_entry ([.int p1]) (n := 1) (Nat.le_of_ble_eq_true rfl)
  rw [lg_entry_eq]
  generalize (lg_sl ([.int p1]) ++ List.replicate (1 - (lg_sl ([.int p1])).length) Slot.unset).toArray = ls at hl ⊢
  have hl : lv_has ls 1 [(0, .int p1)] := hl
  refine zz_start hP hS (fun Q hQ H locs hP hS => ?_)
  refine lv_iload_n hx hb dJ1_canEncode_9a6ad_0 rfl (lv_at hl 0 rfl) ?_
  refine lv_if_lt (tgt := 15) hx hb dJ1_canEncode_9a6ad_1 (by decide) (fun c_1 => ?_) (fun c_1 => ?_)
  · replace hT := cutT c_1 hT
    have g_3 := zltT (rfl : (p1).toInt = _) (by decide : ((0 : Int32)).toInt = 0) c_1
    refine lv_iconst (v := (0 : Int32)) hx hb dJ1_canEncode_9a6ad_15 (by decide) ?_
    have hP9 := hP
    have hD9 := hD
    have hS9 := hS
    have hT : (0 : Int32) = r := hT
    subst hT
    subst hQ
    exact zz_zret hx hb hr rfl [] hK hP9 hD9 hS9 rfl rfl (Or.inl rfl) hlocks dJ1_canEncode_9a6ad_16
  · replace hT := cutF c_1 hT
    have g_4 := zltF (rfl : (p1).toInt = _) (by decide : ((0 : Int32)).toInt = 0) c_1
    refine lv_iload_n hx hb dJ1_canEncode_9a6ad_4 rfl (lv_at hl 0 rfl) ?_
    refine lv_sipush (v := (255 : Int32)) hx hb dJ1_canEncode_9a6ad_5 (by decide) ?_
    refine lv_icmp_gt (tgt := 15) hx hb dJ1_canEncode_9a6ad_8 (by decide) (fun c_2 => ?_) (fun c_2 => ?_)
    · replace hT := cutT c_2 hT
      have g_5 := zltT (by decide : ((255 : Int32)).toInt = 255) (rfl : (p1).toInt = _) c_2
      refine lv_iconst (v := (0 : Int32)) hx hb dJ1_canEncode_9a6ad_15 (by decide) ?_
      have hP9 := hP
      have hD9 := hD
      have hS9 := hS
      have hT : (0 : Int32) = r := hT
      subst hT
      subst hQ
      exact zz_zret hx hb hr rfl [] hK hP9 hD9 hS9 rfl rfl (Or.inl rfl) hlocks dJ1_canEncode_9a6ad_16
    · replace hT := cutF c_2 hT
      have g_6 := zltF (by decide : ((255 : Int32)).toInt = 255) (rfl : (p1).toInt = _) c_2
      refine lv_iconst (v := (1 : Int32)) hx hb dJ1_canEncode_9a6ad_11 (by decide) ?_
      refine lv_goto (tgt := 16) hx hb dJ1_canEncode_9a6ad_12 (by decide) ?_
      have hP9 := hP
      have hD9 := hD
      have hS9 := hS
      have hT : (1 : Int32) = r := hT
      subst hT
      subst hQ
      exact zz_zret hx hb hr rfl [] hK hP9 hD9 hS9 rfl rfl (Or.inr rfl) hlocks dJ1_canEncode_9a6ad_16

def rs_J1_indexOfChar_4cfef_2  (x3 : Int32) : Int32 :=
 (-1 : Int32)
def lp_J1_indexOfChar_4cfef_2 (p4 : Int32) (ct2 : Int32 → (Int32)) (v1 : Int32) : Nat → Int32 → (Int32)
  | 0, _ => default
  | k + 1, b2 =>
  if p4 ≤ b2 then
   (ct2 b2)
  else
   if (zKl b2.toNatClampNeg) = v1 then
    b2
   else
    cut (b2 + (1 : Int32)) (fun (v4 : Int32) =>
    (lp_J1_indexOfChar_4cfef_2 p4 ct2 v1 k v4))
def m_J1_indexOfChar_4cfef (p2 : Int32) (p3 : Int32) (p4 : Int32) : Int32 :=
 cut (p2.toInt8.toInt32) (fun (v1 : Int32) =>
 (lp_J1_indexOfChar_4cfef_2 p4 rs_J1_indexOfChar_4cfef_2 v1 6 p3))
set_option maxHeartbeats 4000000 in
set_option maxRecDepth 100000 in
theorem k_J1_indexOfChar_4cfef (l : Launch) (dC : Nat → ClassId) (dI : Nat → Nat → Nat) (cI cJ cC : ClassId) (sz : Nat) (aK aV : Nat) (p2 : Int32) (p3 : Int32) (p4 : Int32) (r : Int32) (hT : m_J1_indexOfChar_4cfef p2 p3 p4 = r) (h30 : 0 ≤ p3.toInt) (h34 : p3.toInt ≤ 4) (h44 : p4.toInt = 4) : Met l yJ1_indexOfChar_4cfef wsJ1_indexOfChar_4cfef ({ frames := 0, cells := 0, slots := 0, locals := 0 }) (zPcX aK aV [.ref aV, .int p2, .int p3, .int p4] (dC, dI) (zTy cI cJ cC) [] sz) (zQi r (True) (dC, dI) (zTy cI cJ cC) [] (va_A [] sz)) 0 0 (va_A [] sz) := by
  refine Met.ofW (cc := cJ1_indexOfChar_4cfef) (maxL := 6) (ret := (some .int)) (by decide) rfl ?_
  intro p e s m args below meth c s₁ B hml hv
  obtain ⟨rfl, hsz, hP, hK, hD0, hX⟩ := hv
  have hx := B.exec
  have hb := B.bytes
  have hr := B.returns
  have hts := atoms_spec (ws := wsJ1_indexOfChar_4cfef) B.pre
  have hown : s.vm.findClass RJ1 = some m.cls := findClass_of_methodNamed B.named
  have hlocks := B.notSynchronized
  subst hsz
  have hD := hD0.self (sz := s.heap.size)
  generalize hAe : va_A [] s.heap.size = A at hD hX ⊢
  have hA : ∀ q : Nat, s.heap.size ≤ q → A q := fun q h => by rw [← hAe]; exact Or.inr h
  have hS : va_S A s.heap s.heap [] := va_S.rf
  have hP : va_P (dC, dI) vwCl [] s.heap := hP
  have hK : va_K (dC, dI) vwCl (zTy cI cJ cC) s := hK
  have hl := lv_entry ([.ref aV, .int p2, .int p3, .int p4]) (n := 6) (Nat.le_of_ble_eq_true rfl)
  rw [lg_entry_eq]
  generalize (lg_sl ([.ref aV, .int p2, .int p3, .int p4]) ++ List.replicate (6 - (lg_sl ([.ref aV, .int p2, .int p3, .int p4])).length) Slot.unset).toArray = ls at hl ⊢
  have hl : lv_has ls 6 [(0, .ref aV), (1, .int p2), (2, .int p3), (3, .int p4)] := hl
  refine zz_start hP hS (fun Q hQ H locs hP hS => ?_)
  refine lv_iload_n hx hb dJ1_indexOfChar_4cfef_0 rfl (lv_at hl 1 rfl) ?_
  refine lv_i2b (v := (p2.toInt8.toInt32)) hx hb dJ1_indexOfChar_4cfef_1 rfl ?_
  refine lv_topi (fun v1 ev1 => ?_)
  replace hT := cut_n ev1.symm hT
  refine lv_istore (lv' := [(4, .int v1), (0, .ref aV), (1, .int p2), (2, .int p3), (3, .int p4)]) hx hb dJ1_indexOfChar_4cfef_2 hl (by decide) rfl (fun ls hl => ?_)
  refine lv_iload_n hx hb dJ1_indexOfChar_4cfef_4 rfl (lv_at hl 3 rfl) ?_
  refine lv_istore (lv' := [(5, .int p3), (4, .int v1), (0, .ref aV), (1, .int p2), (2, .int p3), (3, .int p4)]) hx hb dJ1_indexOfChar_4cfef_5 hl (by decide) rfl (fun ls hl => ?_)
  refine zz_loop (α := Int32) 31 (fun k a H locs ls => (0 ≤ a.toInt) ∧ (a.toInt ≤ 4) ∧ (4 - a.toInt < ((k : Nat) : Int)) ∧ lp_J1_indexOfChar_4cfef_2 p4 rs_J1_indexOfChar_4cfef_2 v1 k a = r ∧ va_P (dC, dI) vwCl [] H ∧ va_D A [] ∧ va_S A s.heap H locs ∧ lv_has ls 6 [(5, .int a), (4, .int v1), (0, .ref aV), (3, .int p4)]) (fun a H locs ls => (0 ≤ a.toInt) ∧ (a.toInt ≤ 4) ∧ rs_J1_indexOfChar_4cfef_2 a = r ∧ va_P (dC, dI) vwCl [] H ∧ va_D A [] ∧ va_S A s.heap H locs ∧ lv_has ls 6 []) ?_ ?_ ?_ 6 p3 ⟨(by omega : 0 ≤ p3.toInt), (by omega : p3.toInt ≤ 4), (by omega : 4 - p3.toInt < ((6 : Nat) : Int)), hT, hP.sub [] rfl, hD.sub [] rfl rfl, hS, lv_sub hl [0, 1, 2, 5] rfl⟩
  · rintro x3 H locs ls ⟨i1, j1, hT, hP, hD, hS, hl⟩
    have hP : va_P (dC, dI) vwCl [] H := hP
    have hD : va_D A [] := hD
    have hl : lv_has ls 6 [] := hl
    have hT : rs_J1_indexOfChar_4cfef_2 x3 = r := hT
    have i1 : 0 ≤ x3.toInt := i1
    have j1 : x3.toInt ≤ 4 := j1
    refine lv_iconst (v := (-1 : Int32)) hx hb dJ1_indexOfChar_4cfef_31 (by decide) ?_
    have hP9 := hP
    have hD9 := hD
    have hS9 := hS
    have hT : (-1 : Int32) = r := hT
    subst hT
    subst hQ
    exact zz_iret hx hb hr [] hK hP9 hD9 hS9 rfl rfl trivial hlocks dJ1_indexOfChar_4cfef_32
  · rintro b2 H locs ls ⟨i1, j1, hm, -⟩
    try dsimp only at *
    omega
  · intro k2 hex2 ih2
    rintro b2 H locs ls ⟨i1, j1, hm2, hT, hP, hD, hS, hl⟩
    have hP : va_P (dC, dI) vwCl [] H := hP
    have hD : va_D A [] := hD
    have hl : lv_has ls 6 [(5, .int b2), (4, .int v1), (0, .ref aV), (3, .int p4)] := hl
    have hT : lp_J1_indexOfChar_4cfef_2 p4 rs_J1_indexOfChar_4cfef_2 v1 (k2 + 1) b2 = r := hT
    have i1 : 0 ≤ b2.toInt := i1
    have j1 : b2.toInt ≤ 4 := j1
    have hm2 : 4 - b2.toInt < (((k2 + 1) : Nat) : Int) := hm2
    try simp only [Int.natCast_add, Int.natCast_one, Nat.cast_add, Nat.cast_one] at hm2
    refine lv_iload hx hb dJ1_indexOfChar_4cfef_7 (lv_at hl 0 rfl) ?_
    refine lv_iload_n hx hb dJ1_indexOfChar_4cfef_9 rfl (lv_at hl 3 rfl) ?_
    refine lv_icmp_ge (tgt := 31) hx hb dJ1_indexOfChar_4cfef_10 (by decide) (fun c_1 => ?_) (fun c_1 => ?_)
    · replace hT := cutT c_1 hT
      have g_4 := zleT (rfl : (p4).toInt = _) (rfl : (b2).toInt = _) c_1
      exact hex2 b2 _ _ _ ⟨(by omega : 0 ≤ b2.toInt), (by omega : b2.toInt ≤ 4), hT, hP.sub [] rfl, hD.sub [] rfl rfl, hS, lv_sub hl [] rfl⟩
    · replace hT := cutF c_1 hT
      have g_5 := zleF (rfl : (p4).toInt = _) (rfl : (b2).toInt = _) c_1
      refine lv_aload_n hx hb dJ1_indexOfChar_4cfef_13 rfl (lv_at hl 2 rfl) ?_
      refine lv_iload hx hb dJ1_indexOfChar_4cfef_14 (lv_at hl 0 rfl) ?_
      have h_2 : vp_in b2 4 := zin (by omega) (by omega)
      refine va_tb (v := .int (zKl b2.toNatClampNeg)) hx hb (hX.1.1 0 (by decide)).2.2.2 hS h_2 rfl dJ1_indexOfChar_4cfef_16 ?_
      refine lv_iload hx hb dJ1_indexOfChar_4cfef_17 (lv_at hl 1 rfl) ?_
      refine lv_icmp_ne (tgt := 25) hx hb dJ1_indexOfChar_4cfef_19 (by decide) (fun c_3 => ?_) (fun c_3 => ?_)
      · replace hT := cutF c_3 hT
        have g_6 := zeqF (rfl : ((zKl b2.toNatClampNeg)).toInt = _) (rfl : (v1).toInt = _) c_3
        obtain ⟨v4, ev4⟩ : ∃ y : Int32, (b2 + (1 : Int32)) = y := ⟨_, rfl⟩
        replace hT := cut_n ev4 hT
        try have fv4 := zaddE (rfl : (b2).toInt = _) (by decide : ((1 : Int32)).toInt = 1) ev4 (by omega) (by omega)
        refine lv_iinc (v := v4) (lv' := [(5, .int v4), (4, .int v1), (0, .ref aV), (3, .int p4)]) hx hb dJ1_indexOfChar_4cfef_25 hl (k := 0) rfl (by rw [← ev4]; rfl) (by decide) rfl (fun ls hl => ?_)
        refine lv_goto (tgt := 7) hx hb dJ1_indexOfChar_4cfef_28 (by decide) ?_
        exact ih2 v4 _ _ _ ⟨(by omega : 0 ≤ v4.toInt), (by omega : v4.toInt ≤ 4), (by omega : 4 - v4.toInt < ((k2 : Nat) : Int)), hT, hP.sub [] rfl, hD.sub [] rfl rfl, hS, lv_sub hl [0, 1, 2, 3] rfl⟩
      · replace hT := cutT c_3 hT
        have g_7 := zeqT (rfl : ((zKl b2.toNatClampNeg)).toInt = _) (rfl : (v1).toInt = _) c_3
        refine lv_iload hx hb dJ1_indexOfChar_4cfef_22 (lv_at hl 0 rfl) ?_
        have hP9 := hP
        have hD9 := hD
        have hS9 := hS
        have hT : b2 = r := hT
        subst hT
        subst hQ
        exact zz_iret hx hb hr [] hK hP9 hD9 hS9 rfl rfl trivial hlocks dJ1_indexOfChar_4cfef_24

def m_J1_indexOf_4cfef (p2 : Int32) (p3 : Int32) (p4 : Int32) : Int32 :=
 cut (m_J1_canEncode_9a6ad p2) (fun (r1 : Int32) =>
 if r1 = (0 : Int32) then
  (-1 : Int32)
 else
  cut (if p3 < (0 : Int32) then (0 : Int32) else p3) (fun (v2 : Int32) =>
  cut (if (4 : Int32) < p4 then (4 : Int32) else p4) (fun (v3 : Int32) =>
  if v2 < v3 then
   cut (m_J1_indexOfChar_4cfef p2 v2 v3) (fun (r4 : Int32) =>
   r4)
  else
   (-1 : Int32))))
set_option maxHeartbeats 4000000 in
set_option maxRecDepth 100000 in
theorem k_J1_indexOf_4cfef (l : Launch) (dC : Nat → ClassId) (dI : Nat → Nat → Nat) (cI cJ cC : ClassId) (sz : Nat) (aK aV : Nat) (p2 : Int32) (p3 : Int32) (p4 : Int32) (r : Int32) (hT : m_J1_indexOf_4cfef p2 p3 p4 = r) (h30 : p3 = 0) (h44 : p4 = 4) : Met l yJ1_indexOf_4cfef wsJ1_indexOf_4cfef ({ frames := 1, cells := 0, slots := 0, locals := 40 }) (zPcX aK aV [.ref aV, .int p2, .int p3, .int p4] (dC, dI) (zTy cI cJ cC) [] sz) (zQi r (True) (dC, dI) (zTy cI cJ cC) [] (va_A [] sz)) 0 0 (va_A [] sz) := by
  refine Met.ofW (cc := cJ1_indexOf_4cfef) (maxL := 4) (ret := (some .int)) (by decide) rfl ?_
  intro p e s m args below meth c s₁ B hml hv
  obtain ⟨rfl, hsz, hP, hK, hD0, hX⟩ := hv
  have hx := B.exec
  have hb := B.bytes
  have hr := B.returns
  have hts := atoms_spec (ws := wsJ1_indexOf_4cfef) B.pre
  have hown : s.vm.findClass RJ1 = some m.cls := findClass_of_methodNamed B.named
  have hlocks := B.notSynchronized
  subst hsz
  have hD := hD0.self (sz := s.heap.size)
  generalize hAe : va_A [] s.heap.size = A at hD hX ⊢
  have hA : ∀ q : Nat, s.heap.size ≤ q → A q := fun q h => by rw [← hAe]; exact Or.inr h
  have hS : va_S A s.heap s.heap [] := va_S.rf
  have hP : va_P (dC, dI) vwCl [] s.heap := hP
  have hK : va_K (dC, dI) vwCl (zTy cI cJ cC) s := hK
  have hl := lv_entry ([.ref aV, .int p2, .int p3, .int p4]) (n := 4) (Nat.le_of_ble_eq_true rfl)
  rw [lg_entry_eq]
  generalize (lg_sl ([.ref aV, .int p2, .int p3, .int p4]) ++ List.replicate (4 - (lg_sl ([.ref aV, .int p2, .int p3, .int p4])).length) Slot.unset).toArray = ls at hl ⊢
  have hl : lv_has ls 4 [(0, .ref aV), (1, .int p2), (2, .int p3), (3, .int p4)] := hl
  refine zz_start hP hS (fun Q hQ H locs hP hS => ?_)
  refine lv_iload_n hx hb dJ1_indexOf_4cfef_0 rfl (lv_at hl 1 rfl) ?_
  obtain ⟨r1, ev_1⟩ : ∃ x0, (m_J1_canEncode_9a6ad p2) = x0 := ⟨_, rfl⟩
  replace hT := cut_n ev_1 hT
  refine zz_ci [] [] (wr := []) (w1 := []) (va_runS (As := [.int p2]) (rest := []) ⟨hx, hb, hml, hown, hts⟩ (k_J1_canEncode_9a6ad l dC dI cI cJ cC H.size p2 r1 ev_1) (va_cwS 1 hts gJ1_indexOf_4cfef_J1_canEncode_9a6ad rfl rfl rfl (by decide +kernel) ⟨Nat.le_of_ble_eq_true rfl, Nat.le_of_ble_eq_true rfl⟩) (zz_preS [] hK hP hD rfl rfl) rfl rfl hl.1 rfl (lv_room (Nat.le_of_ble_eq_true rfl)) dJ1_indexOf_4cfef_1 ⟨Nat.zero_le _, Nat.zero_le _⟩) hP hD hS hA rfl rfl rfl (by decide) (fun ok_2 H locs hP hD hS => ?_)
  have hP : va_P (dC, dI) vwCl [] H := hP
  have hD : va_D A [] := hD
  refine lv_if_ne (tgt := 9) hx hb dJ1_indexOf_4cfef_4 (by decide) (fun c_3 => ?_) (fun c_3 => ?_)
  · replace hT := cutF c_3 hT
    have g_7 := zeqF (rfl : (r1).toInt = _) (by decide : ((0 : Int32)).toInt = 0) c_3
    refine lv_iload_n hx hb dJ1_indexOf_4cfef_9 rfl (lv_at hl 2 rfl) ?_
    refine lv_iconst (v := (0 : Int32)) hx hb dJ1_indexOf_4cfef_10 (by decide) ?_
    refine va_mmax hx hb (by rw [hml]; exact hl.1.symm) hown (hts (.methodLink RJ1 92 Lib.Math.max.name) (by decide +kernel)) (hts (.static Lib.Math.max.name) (by decide +kernel)) (hts (.initialized "java/lang/Math") (by decide +kernel)) (hts (.code Lib.Math.max.name Lib.Math.max.code 2 (some .int)) (by decide +kernel)) (Nat.le_of_ble_eq_true rfl) (Nat.le_of_ble_eq_true rfl) (Nat.zero_le _) (Nat.zero_le _) dJ1_indexOf_4cfef_11 ?_
    refine lv_topi (fun v2 ev2 => ?_)
    replace hT := cut_n ev2.symm hT
    refine lv_istore_n (lv' := [(2, .int v2), (0, .ref aV), (1, .int p2), (3, .int p4)]) hx hb dJ1_indexOf_4cfef_14 rfl hl (by decide) rfl (fun ls hl => ?_)
    refine lv_iload_n hx hb dJ1_indexOf_4cfef_15 rfl (lv_at hl 3 rfl) ?_
    refine lv_aload_n hx hb dJ1_indexOf_4cfef_16 rfl (lv_at hl 1 rfl) ?_
    refine va_tlen (v := (4 : Int32)) hx hb (hX.1.1 0 (by decide)).2.2.2 hS rfl dJ1_indexOf_4cfef_17 ?_
    refine va_mmin hx hb (by rw [hml]; exact hl.1.symm) hown (hts (.methodLink RJ1 38 Lib.Math.min.name) (by decide +kernel)) (hts (.static Lib.Math.min.name) (by decide +kernel)) (hts (.initialized "java/lang/Math") (by decide +kernel)) (hts (.code Lib.Math.min.name Lib.Math.min.code 2 (some .int)) (by decide +kernel)) (Nat.le_of_ble_eq_true rfl) (Nat.le_of_ble_eq_true rfl) (Nat.zero_le _) (Nat.zero_le _) dJ1_indexOf_4cfef_18 ?_
    refine lv_topi (fun v3 ev3 => ?_)
    replace hT := cut_n ev3.symm hT
    refine lv_istore_n (lv' := [(3, .int v3), (2, .int v2), (0, .ref aV), (1, .int p2)]) hx hb dJ1_indexOf_4cfef_21 rfl hl (by decide) rfl (fun ls hl => ?_)
    have hq1 : v2.toInt = 0 := by rw [ev2, h30]; decide
    have hq2 : v3.toInt = 4 := by rw [ev3, h44]; decide
    refine lv_iload_n hx hb dJ1_indexOf_4cfef_22 rfl (lv_at hl 1 rfl) ?_
    refine lv_iload_n hx hb dJ1_indexOf_4cfef_23 rfl (lv_at hl 0 rfl) ?_
    refine lv_icmp_lt (tgt := 29) hx hb dJ1_indexOf_4cfef_24 (by decide) (fun c_4 => ?_) (fun c_4 => ?_)
    · replace hT := cutT c_4 hT
      have g_8 := zltT (rfl : (v2).toInt = _) (rfl : (v3).toInt = _) c_4
      refine lv_aload_n hx hb dJ1_indexOf_4cfef_29 rfl (lv_at hl 2 rfl) ?_
      refine lv_iload_n hx hb dJ1_indexOf_4cfef_30 rfl (lv_at hl 3 rfl) ?_
      refine lv_iload_n hx hb dJ1_indexOf_4cfef_31 rfl (lv_at hl 1 rfl) ?_
      refine lv_iload_n hx hb dJ1_indexOf_4cfef_32 rfl (lv_at hl 0 rfl) ?_
      obtain ⟨r4, ev_5⟩ : ∃ x0, (m_J1_indexOfChar_4cfef p2 v2 v3) = x0 := ⟨_, rfl⟩
      replace hT := cut_n ev_5 hT
      refine zz_ci [] [] (wr := []) (w1 := []) (va_runS (As := [.ref aV, .int p2, .int v2, .int v3]) (rest := []) ⟨hx, hb, hml, hown, hts⟩ (k_J1_indexOfChar_4cfef l dC dI cI cJ cC H.size aK aV p2 v2 v3 r4 ev_5 (by first | omega | decide) (by first | omega | decide) (by first | omega | decide)) (va_cwS 4 hts gJ1_indexOf_4cfef_J1_indexOfChar_4cfef rfl rfl rfl (by decide +kernel) ⟨Nat.le_of_ble_eq_true rfl, Nat.le_of_ble_eq_true rfl⟩) (zz_preSX [] hK hP hD hS hA hX rfl rfl) rfl rfl hl.1 rfl (lv_room (Nat.le_of_ble_eq_true rfl)) dJ1_indexOf_4cfef_33 ⟨Nat.zero_le _, Nat.zero_le _⟩) hP hD hS hA rfl rfl rfl (by decide) (fun ok_6 H locs hP hD hS => ?_)
      have hP : va_P (dC, dI) vwCl [] H := hP
      have hD : va_D A [] := hD
      have hP9 := hP
      have hD9 := hD
      have hS9 := hS
      have hT : r4 = r := hT
      subst hT
      subst hQ
      exact zz_iret hx hb hr [] hK hP9 hD9 hS9 rfl rfl trivial hlocks dJ1_indexOf_4cfef_36
    · replace hT := cutF c_4 hT
      have g_9 := zltF (rfl : (v2).toInt = _) (rfl : (v3).toInt = _) c_4
      refine lv_iconst (v := (-1 : Int32)) hx hb dJ1_indexOf_4cfef_27 (by decide) ?_
      have hP9 := hP
      have hD9 := hD
      have hS9 := hS
      have hT : (-1 : Int32) = r := hT
      subst hT
      subst hQ
      exact zz_iret hx hb hr [] hK hP9 hD9 hS9 rfl rfl trivial hlocks dJ1_indexOf_4cfef_28
  · replace hT := cutT c_3 hT
    have g_10 := zeqT (rfl : (r1).toInt = _) (by decide : ((0 : Int32)).toInt = 0) c_3
    refine lv_iconst (v := (-1 : Int32)) hx hb dJ1_indexOf_4cfef_7 (by decide) ?_
    have hP9 := hP
    have hD9 := hD
    have hS9 := hS
    have hT : (-1 : Int32) = r := hT
    subst hT
    subst hQ
    exact zz_iret hx hb hr [] hK hP9 hD9 hS9 rfl rfl trivial hlocks dJ1_indexOf_4cfef_8

def m_J0_coder_7d493  : Int32 :=
 (0 : Int32)
set_option maxHeartbeats 4000000 in
set_option maxRecDepth 100000 in
theorem k_J0_coder_7d493 (l : Launch) (dC : Nat → ClassId) (dI : Nat → Nat → Nat) (cI cJ cC : ClassId) (sz : Nat) (aK aV : Nat) (r : Int32) (hT : m_J0_coder_7d493 = r) : Met l yJ0_coder_7d493 wsJ0_coder_7d493 ({ frames := 0, cells := 0, slots := 0, locals := 0 }) (zPcX aK aV [.ref aK] (dC, dI) (zTy cI cJ cC) [] sz) (zQi r (True) (dC, dI) (zTy cI cJ cC) [] (va_A [] sz)) 0 0 (va_A [] sz) := by
  refine Met.ofW (cc := cJ0_coder_7d493) (maxL := 1) (ret := (some .byte)) (by decide) rfl ?_
  intro p e s m args below meth c s₁ B hml hv
  obtain ⟨rfl, hsz, hP, hK, hD0, hX⟩ := hv
  have hx := B.exec
  have hb := B.bytes
  have hr := B.returns
  have hts := atoms_spec (ws := wsJ0_coder_7d493) B.pre
  have hown : s.vm.findClass RJ0 = some m.cls := findClass_of_methodNamed B.named
  have hlocks := B.notSynchronized
  subst hsz
  have hD := hD0.self (sz := s.heap.size)
  generalize hAe : va_A [] s.heap.size = A at hD hX ⊢
  have hA : ∀ q : Nat, s.heap.size ≤ q → A q := fun q h => by rw [← hAe]; exact Or.inr h
  have hS : va_S A s.heap s.heap [] := va_S.rf
  have hP : va_P (dC, dI) vwCl [] s.heap := hP
  have hK : va_K (dC, dI) vwCl (zTy cI cJ cC) s := hK
  have hl := lv_entry ([.ref aK]) (n := 1) (Nat.le_of_ble_eq_true rfl)
  rw [lg_entry_eq]
  generalize (lg_sl ([.ref aK]) ++ List.replicate (1 - (lg_sl ([.ref aK])).length) Slot.unset).toArray = ls at hl ⊢
  have hl : lv_has ls 1 [(0, .ref aK)] := hl
  refine zz_start hP hS (fun Q hQ H locs hP hS => ?_)
  have hf_15 := (hts (.fieldLink RJ0 15 "java/lang/String" "coder" "B") (by decide +kernel))
  have hf_38 := (hts (.fieldLink RJ0 38 "java/lang/String" "COMPACT_STRINGS" "Z") (by decide +kernel))
  refine va_gets hx hb hX.2.1 hS hown hf_38 (fun _ h9 => h9) dJ0_coder_7d493_0 ?_
  refine lv_if_eq (tgt := 13) hx hb dJ0_coder_7d493_3 (by decide) (fun c_1 => ?_) (fun c_1 => ?_)
  · exact absurd c_1 (by decide)
  · refine lv_aload_n hx hb dJ0_coder_7d493_6 rfl (lv_at hl 0 rfl) ?_
    refine vk_getf hx hb (hX.1.1 0 (by decide)).2.1 hS hown hf_15 (fun _ h9 => h9) dJ0_coder_7d493_7 ?_
    refine lv_goto (tgt := 14) hx hb dJ0_coder_7d493_10 (by decide) ?_
    have hP9 := hP
    have hD9 := hD
    have hS9 := hS
    have hT : (0 : Int32) = r := hT
    subst hT
    subst hQ
    exact zz_zret hx hb hr rfl [] hK hP9 hD9 hS9 rfl rfl trivial hlocks dJ0_coder_7d493_14

def m_J0_length_8abf5  : Int32 :=
 cut (m_J0_coder_7d493) (fun (r1 : Int32) =>
 ((4 : Int32) >>> (r1 &&& 31)))
set_option maxHeartbeats 4000000 in
set_option maxRecDepth 100000 in
theorem k_J0_length_8abf5 (l : Launch) (dC : Nat → ClassId) (dI : Nat → Nat → Nat) (cI cJ cC : ClassId) (sz : Nat) (aK aV : Nat) (r : Int32) (hT : m_J0_length_8abf5 = r) : Met l yJ0_length_8abf5 wsJ0_length_8abf5 ({ frames := 1, cells := 0, slots := 0, locals := 20 }) (zPcX aK aV [.ref aK] (dC, dI) (zTy cI cJ cC) [] sz) (zQi r (True) (dC, dI) (zTy cI cJ cC) [] (va_A [] sz)) 0 0 (va_A [] sz) := by
  refine Met.ofW (cc := cJ0_length_8abf5) (maxL := 1) (ret := (some .int)) (by decide) rfl ?_
  intro p e s m args below meth c s₁ B hml hv
  obtain ⟨rfl, hsz, hP, hK, hD0, hX⟩ := hv
  have hx := B.exec
  have hb := B.bytes
  have hr := B.returns
  have hts := atoms_spec (ws := wsJ0_length_8abf5) B.pre
  have hown : s.vm.findClass RJ0 = some m.cls := findClass_of_methodNamed B.named
  have hlocks := B.notSynchronized
  subst hsz
  have hD := hD0.self (sz := s.heap.size)
  generalize hAe : va_A [] s.heap.size = A at hD hX ⊢
  have hA : ∀ q : Nat, s.heap.size ≤ q → A q := fun q h => by rw [← hAe]; exact Or.inr h
  have hS : va_S A s.heap s.heap [] := va_S.rf
  have hP : va_P (dC, dI) vwCl [] s.heap := hP
  have hK : va_K (dC, dI) vwCl (zTy cI cJ cC) s := hK
  have hl := lv_entry ([.ref aK]) (n := 1) (Nat.le_of_ble_eq_true rfl)
  rw [lg_entry_eq]
  generalize (lg_sl ([.ref aK]) ++ List.replicate (1 - (lg_sl ([.ref aK])).length) Slot.unset).toArray = ls at hl ⊢
  have hl : lv_has ls 1 [(0, .ref aK)] := hl
  refine zz_start hP hS (fun Q hQ H locs hP hS => ?_)
  have hf_9 := (hts (.fieldLink RJ0 9 "java/lang/String" "value" "[B") (by decide +kernel))
  refine lv_aload_n hx hb dJ0_length_8abf5_0 rfl (lv_at hl 0 rfl) ?_
  refine vk_getf hx hb (hX.1.1 0 (by decide)).2.2.1 hS hown hf_9 (fun _ h9 => h9) dJ0_length_8abf5_1 ?_
  refine va_tlen (v := (4 : Int32)) hx hb (hX.1.1 0 (by decide)).2.2.2 hS rfl dJ0_length_8abf5_4 ?_
  refine lv_aload_n hx hb dJ0_length_8abf5_5 rfl (lv_at hl 0 rfl) ?_
  obtain ⟨r1, ev_1⟩ : ∃ x0, (m_J0_coder_7d493) = x0 := ⟨_, rfl⟩
  replace hT := cut_n ev_1 hT
  refine zz_ci [] [] (wr := []) (w1 := []) (va_runV (As := []) (rest := [.int (4 : Int32)]) ⟨hx, hb, hml, hown, hts⟩ (k_J0_coder_7d493 l dC dI cI cJ cC H.size aK aV r1 ev_1) (cwV 0 hts gJ0_length_8abf5_J0_coder_7d493 rfl rfl rfl (by decide +kernel) ⟨Nat.le_of_ble_eq_true rfl, Nat.le_of_ble_eq_true rfl⟩) (zz_preVX [] hK hP hD hS hA hX rfl rfl (vk_recv hX.1 (i := 0) (by decide) hS)) rfl rfl hl.1 rfl (lv_room (Nat.le_of_ble_eq_true rfl)) dJ0_length_8abf5_6 ⟨Nat.zero_le _, Nat.zero_le _⟩) hP hD hS hA rfl rfl rfl (by decide) (fun ok_2 H locs hP hD hS => ?_)
  have hP : va_P (dC, dI) vwCl [] H := hP
  have hD : va_D A [] := hD
  refine lv_ishr hx hb dJ0_length_8abf5_9 ?_
  have hP9 := hP
  have hD9 := hD
  have hS9 := hS
  have hT : ((4 : Int32) >>> (r1 &&& 31)) = r := hT
  subst hT
  subst hQ
  exact zz_iret hx hb hr [] hK hP9 hD9 hS9 rfl rfl trivial hlocks dJ0_length_8abf5_10

def m_J0_isLatin1_aae02  : Int32 :=
 (1 : Int32)
set_option maxHeartbeats 4000000 in
set_option maxRecDepth 100000 in
theorem k_J0_isLatin1_aae02 (l : Launch) (dC : Nat → ClassId) (dI : Nat → Nat → Nat) (cI cJ cC : ClassId) (sz : Nat) (aK aV : Nat) (r : Int32) (hT : m_J0_isLatin1_aae02 = r) : Met l yJ0_isLatin1_aae02 wsJ0_isLatin1_aae02 ({ frames := 0, cells := 0, slots := 0, locals := 0 }) (zPcX aK aV [.ref aK] (dC, dI) (zTy cI cJ cC) [] sz) (zQi r ((zB01 r)) (dC, dI) (zTy cI cJ cC) [] (va_A [] sz)) 0 0 (va_A [] sz) := by
  refine Met.ofW (cc := cJ0_isLatin1_aae02) (maxL := 1) (ret := (some .boolean)) (by decide) rfl ?_
  intro p e s m args below meth c s₁ B hml hv
  obtain ⟨rfl, hsz, hP, hK, hD0, hX⟩ := hv
  have hx := B.exec
  have hb := B.bytes
  have hr := B.returns
  have hts := atoms_spec (ws := wsJ0_isLatin1_aae02) B.pre
  have hown : s.vm.findClass RJ0 = some m.cls := findClass_of_methodNamed B.named
  have hlocks := B.notSynchronized
  subst hsz
  have hD := hD0.self (sz := s.heap.size)
  generalize hAe : va_A [] s.heap.size = A at hD hX ⊢
  have hA : ∀ q : Nat, s.heap.size ≤ q → A q := fun q h => by rw [← hAe]; exact Or.inr h
  have hS : va_S A s.heap s.heap [] := va_S.rf
  have hP : va_P (dC, dI) vwCl [] s.heap := hP
  have hK : va_K (dC, dI) vwCl (zTy cI cJ cC) s := hK
  have hl := lv_entry ([.ref aK]) (n := 1) (Nat.le_of_ble_eq_true rfl)
  rw [lg_entry_eq]
  generalize (lg_sl ([.ref aK]) ++ List.replicate (1 - (lg_sl ([.ref aK])).length) Slot.unset).toArray = ls at hl ⊢
  have hl : lv_has ls 1 [(0, .ref aK)] := hl
  refine zz_start hP hS (fun Q hQ H locs hP hS => ?_)
  have hf_15 := (hts (.fieldLink RJ0 15 "java/lang/String" "coder" "B") (by decide +kernel))
  have hf_38 := (hts (.fieldLink RJ0 38 "java/lang/String" "COMPACT_STRINGS" "Z") (by decide +kernel))
  refine va_gets hx hb hX.2.1 hS hown hf_38 (fun _ h9 => h9) dJ0_isLatin1_aae02_0 ?_
  refine lv_if_eq (tgt := 17) hx hb dJ0_isLatin1_aae02_3 (by decide) (fun c_1 => ?_) (fun c_1 => ?_)
  · exact absurd c_1 (by decide)
  · refine lv_aload_n hx hb dJ0_isLatin1_aae02_6 rfl (lv_at hl 0 rfl) ?_
    refine vk_getf hx hb (hX.1.1 0 (by decide)).2.1 hS hown hf_15 (fun _ h9 => h9) dJ0_isLatin1_aae02_7 ?_
    refine lv_if_ne (tgt := 17) hx hb dJ0_isLatin1_aae02_10 (by decide) (fun c_2 => ?_) (fun c_2 => ?_)
    · exact absurd c_2 (by decide)
    · refine lv_iconst (v := (1 : Int32)) hx hb dJ0_isLatin1_aae02_13 (by decide) ?_
      refine lv_goto (tgt := 18) hx hb dJ0_isLatin1_aae02_14 (by decide) ?_
      have hP9 := hP
      have hD9 := hD
      have hS9 := hS
      have hT : (1 : Int32) = r := hT
      subst hT
      subst hQ
      exact zz_zret hx hb hr rfl [] hK hP9 hD9 hS9 rfl rfl (Or.inr rfl) hlocks dJ0_isLatin1_aae02_18

def m_J0_indexOf_7cf53 (p1 : Int32) (p2 : Int32) : Int32 :=
 cut (m_J0_isLatin1_aae02) (fun (r1 : Int32) =>
 cut (m_J0_length_8abf5) (fun (r2 : Int32) =>
 cut (m_J1_indexOf_4cfef p1 p2 r2) (fun (r3 : Int32) =>
 r3)))
set_option maxHeartbeats 4000000 in
set_option maxRecDepth 100000 in
theorem k_J0_indexOf_7cf53 (l : Launch) (dC : Nat → ClassId) (dI : Nat → Nat → Nat) (cI cJ cC : ClassId) (sz : Nat) (aK aV : Nat) (p1 : Int32) (p2 : Int32) (r : Int32) (hT : m_J0_indexOf_7cf53 p1 p2 = r) (h20 : p2 = 0) : Met l yJ0_indexOf_7cf53 wsJ0_indexOf_7cf53 ({ frames := 2, cells := 0, slots := 0, locals := 63 }) (zPcX aK aV [.ref aK, .int p1, .int p2] (dC, dI) (zTy cI cJ cC) [] sz) (zQi r (True) (dC, dI) (zTy cI cJ cC) [] (va_A [] sz)) 0 0 (va_A [] sz) := by
  refine Met.ofW (cc := cJ0_indexOf_7cf53) (maxL := 3) (ret := (some .int)) (by decide) rfl ?_
  intro p e s m args below meth c s₁ B hml hv
  obtain ⟨rfl, hsz, hP, hK, hD0, hX⟩ := hv
  have hx := B.exec
  have hb := B.bytes
  have hr := B.returns
  have hts := atoms_spec (ws := wsJ0_indexOf_7cf53) B.pre
  have hown : s.vm.findClass RJ0 = some m.cls := findClass_of_methodNamed B.named
  have hlocks := B.notSynchronized
  subst hsz
  have hD := hD0.self (sz := s.heap.size)
  generalize hAe : va_A [] s.heap.size = A at hD hX ⊢
  have hA : ∀ q : Nat, s.heap.size ≤ q → A q := fun q h => by rw [← hAe]; exact Or.inr h
  have hS : va_S A s.heap s.heap [] := va_S.rf
  have hP : va_P (dC, dI) vwCl [] s.heap := hP
  have hK : va_K (dC, dI) vwCl (zTy cI cJ cC) s := hK
  have hl := lv_entry ([.ref aK, .int p1, .int p2]) (n := 3) (Nat.le_of_ble_eq_true rfl)
  rw [lg_entry_eq]
  generalize (lg_sl ([.ref aK, .int p1, .int p2]) ++ List.replicate (3 - (lg_sl ([.ref aK, .int p1, .int p2])).length) Slot.unset).toArray = ls at hl ⊢
  have hl : lv_has ls 3 [(0, .ref aK), (1, .int p1), (2, .int p2)] := hl
  refine zz_start hP hS (fun Q hQ H locs hP hS => ?_)
  have hf_9 := (hts (.fieldLink RJ0 9 "java/lang/String" "value" "[B") (by decide +kernel))
  refine lv_aload_n hx hb dJ0_indexOf_7cf53_0 rfl (lv_at hl 0 rfl) ?_
  obtain ⟨r1, ev_1⟩ : ∃ x0, (m_J0_isLatin1_aae02) = x0 := ⟨_, rfl⟩
  replace hT := cut_n ev_1 hT
  refine zz_ci [] [] (wr := []) (w1 := []) (va_runV (As := []) (rest := []) ⟨hx, hb, hml, hown, hts⟩ (k_J0_isLatin1_aae02 l dC dI cI cJ cC H.size aK aV r1 ev_1) (cwV 0 hts gJ0_indexOf_7cf53_J0_isLatin1_aae02 rfl rfl rfl (by decide +kernel) ⟨Nat.le_of_ble_eq_true rfl, Nat.le_of_ble_eq_true rfl⟩) (zz_preVX [] hK hP hD hS hA hX rfl rfl (vk_recv hX.1 (i := 0) (by decide) hS)) rfl rfl hl.1 rfl (lv_room (Nat.le_of_ble_eq_true rfl)) dJ0_indexOf_7cf53_1 ⟨Nat.zero_le _, Nat.zero_le _⟩) hP hD hS hA rfl rfl rfl (by decide) (fun ok_2 H locs hP hD hS => ?_)
  have hP : va_P (dC, dI) vwCl [] H := hP
  have hD : va_D A [] := hD
  refine lv_if_eq (tgt := 23) hx hb dJ0_indexOf_7cf53_4 (by decide) (fun c_3 => ?_) (fun c_3 => ?_)
  · exact absurd c_3 (by rw [← ev_1]; decide)
  · refine lv_aload_n hx hb dJ0_indexOf_7cf53_7 rfl (lv_at hl 0 rfl) ?_
    refine vk_getf hx hb (hX.1.1 0 (by decide)).2.2.1 hS hown hf_9 (fun _ h9 => h9) dJ0_indexOf_7cf53_8 ?_
    refine lv_iload_n hx hb dJ0_indexOf_7cf53_11 rfl (lv_at hl 1 rfl) ?_
    refine lv_iload_n hx hb dJ0_indexOf_7cf53_12 rfl (lv_at hl 2 rfl) ?_
    refine lv_aload_n hx hb dJ0_indexOf_7cf53_13 rfl (lv_at hl 0 rfl) ?_
    obtain ⟨r2, ev_4⟩ : ∃ x0, (m_J0_length_8abf5) = x0 := ⟨_, rfl⟩
    replace hT := cut_n ev_4 hT
    refine zz_ci [] [] (wr := []) (w1 := []) (va_runV (As := []) (rest := [.int p2, .int p1, .ref aV]) ⟨hx, hb, hml, hown, hts⟩ (k_J0_length_8abf5 l dC dI cI cJ cC H.size aK aV r2 ev_4) (cwV 0 hts gJ0_indexOf_7cf53_J0_length_8abf5 rfl rfl rfl (by decide +kernel) ⟨Nat.le_of_ble_eq_true rfl, Nat.le_of_ble_eq_true rfl⟩) (zz_preVX [] hK hP hD hS hA hX rfl rfl (vk_recv hX.1 (i := 0) (by decide) hS)) rfl rfl hl.1 rfl (lv_room (Nat.le_of_ble_eq_true rfl)) dJ0_indexOf_7cf53_14 ⟨Nat.zero_le _, Nat.zero_le _⟩) hP hD hS hA rfl rfl rfl (by decide) (fun ok_5 H locs hP hD hS => ?_)
    have hP : va_P (dC, dI) vwCl [] H := hP
    have hD : va_D A [] := hD
    obtain ⟨r3, ev_6⟩ : ∃ x0, (m_J1_indexOf_4cfef p1 p2 r2) = x0 := ⟨_, rfl⟩
    replace hT := cut_n ev_6 hT
    refine zz_ci [] [] (wr := []) (w1 := []) (va_runS (As := [.ref aV, .int p1, .int p2, .int r2]) (rest := []) ⟨hx, hb, hml, hown, hts⟩ (k_J1_indexOf_4cfef l dC dI cI cJ cC H.size aK aV p1 p2 r2 r3 ev_6 h20 (by rw [← ev_4]; decide)) (va_cwS 4 hts gJ0_indexOf_7cf53_J1_indexOf_4cfef rfl rfl rfl (by decide +kernel) ⟨Nat.le_of_ble_eq_true rfl, Nat.le_of_ble_eq_true rfl⟩) (zz_preSX [] hK hP hD hS hA hX rfl rfl) rfl rfl hl.1 rfl (lv_room (Nat.le_of_ble_eq_true rfl)) dJ0_indexOf_7cf53_17 ⟨Nat.zero_le _, Nat.zero_le _⟩) hP hD hS hA rfl rfl rfl (by decide) (fun ok_7 H locs hP hD hS => ?_)
    have hP : va_P (dC, dI) vwCl [] H := hP
    have hD : va_D A [] := hD
    refine lv_goto (tgt := 36) hx hb dJ0_indexOf_7cf53_20 (by decide) ?_
    have hP9 := hP
    have hD9 := hD
    have hS9 := hS
    have hT : r3 = r := hT
    subst hT
    subst hQ
    exact zz_iret hx hb hr [] hK hP9 hD9 hS9 rfl rfl trivial hlocks dJ0_indexOf_7cf53_36

def m_J0_indexOf_0f7a4 (p1 : Int32) : Int32 :=
 cut (m_J0_indexOf_7cf53 p1 (0 : Int32)) (fun (r1 : Int32) =>
 r1)
set_option maxHeartbeats 4000000 in
set_option maxRecDepth 100000 in
theorem k_J0_indexOf_0f7a4 (l : Launch) (dC : Nat → ClassId) (dI : Nat → Nat → Nat) (cI cJ cC : ClassId) (sz : Nat) (aK aV : Nat) (p1 : Int32) (r : Int32) (hT : m_J0_indexOf_0f7a4 p1 = r) : Met l yJ0_indexOf_0f7a4 wsJ0_indexOf_0f7a4 ({ frames := 3, cells := 0, slots := 0, locals := 85 }) (zPcX aK aV [.ref aK, .int p1] (dC, dI) (zTy cI cJ cC) [] sz) (zQi r (True) (dC, dI) (zTy cI cJ cC) [] (va_A [] sz)) 0 0 (va_A [] sz) := by
  refine Met.ofW (cc := cJ0_indexOf_0f7a4) (maxL := 2) (ret := (some .int)) (by decide) rfl ?_
  intro p e s m args below meth c s₁ B hml hv
  obtain ⟨rfl, hsz, hP, hK, hD0, hX⟩ := hv
  have hx := B.exec
  have hb := B.bytes
  have hr := B.returns
  have hts := atoms_spec (ws := wsJ0_indexOf_0f7a4) B.pre
  have hown : s.vm.findClass RJ0 = some m.cls := findClass_of_methodNamed B.named
  have hlocks := B.notSynchronized
  subst hsz
  have hD := hD0.self (sz := s.heap.size)
  generalize hAe : va_A [] s.heap.size = A at hD hX ⊢
  have hA : ∀ q : Nat, s.heap.size ≤ q → A q := fun q h => by rw [← hAe]; exact Or.inr h
  have hS : va_S A s.heap s.heap [] := va_S.rf
  have hP : va_P (dC, dI) vwCl [] s.heap := hP
  have hK : va_K (dC, dI) vwCl (zTy cI cJ cC) s := hK
  have hl := lv_entry ([.ref aK, .int p1]) (n := 2) (Nat.le_of_ble_eq_true rfl)
  rw [lg_entry_eq]
  generalize (lg_sl ([.ref aK, .int p1]) ++ List.replicate (2 - (lg_sl ([.ref aK, .int p1])).length) Slot.unset).toArray = ls at hl ⊢
  have hl : lv_has ls 2 [(0, .ref aK), (1, .int p1)] := hl
  refine zz_start hP hS (fun Q hQ H locs hP hS => ?_)
  refine lv_aload_n hx hb dJ0_indexOf_0f7a4_0 rfl (lv_at hl 0 rfl) ?_
  refine lv_iload_n hx hb dJ0_indexOf_0f7a4_1 rfl (lv_at hl 1 rfl) ?_
  refine lv_iconst (v := (0 : Int32)) hx hb dJ0_indexOf_0f7a4_2 (by decide) ?_
  obtain ⟨r1, ev_1⟩ : ∃ x0, (m_J0_indexOf_7cf53 p1 (0 : Int32)) = x0 := ⟨_, rfl⟩
  replace hT := cut_n ev_1 hT
  refine zz_ci [] [] (wr := []) (w1 := []) (va_runV (As := [.int p1, .int (0 : Int32)]) (rest := []) ⟨hx, hb, hml, hown, hts⟩ (k_J0_indexOf_7cf53 l dC dI cI cJ cC H.size aK aV p1 (0 : Int32) r1 ev_1 (rfl)) (cwV 2 hts gJ0_indexOf_0f7a4_J0_indexOf_7cf53 rfl rfl rfl (by decide +kernel) ⟨Nat.le_of_ble_eq_true rfl, Nat.le_of_ble_eq_true rfl⟩) (zz_preVX [] hK hP hD hS hA hX rfl rfl (vk_recv hX.1 (i := 0) (by decide) hS)) rfl rfl hl.1 rfl (lv_room (Nat.le_of_ble_eq_true rfl)) dJ0_indexOf_0f7a4_3 ⟨Nat.zero_le _, Nat.zero_le _⟩) hP hD hS hA rfl rfl rfl (by decide) (fun ok_2 H locs hP hD hS => ?_)
  have hP : va_P (dC, dI) vwCl [] H := hP
  have hD : va_D A [] := hD
  have hP9 := hP
  have hD9 := hD
  have hS9 := hS
  have hT : r1 = r := hT
  subst hT
  subst hQ
  exact zz_iret hx hb hr [] hK hP9 hD9 hS9 rfl rfl trivial hlocks dJ0_indexOf_0f7a4_6

def m_X3_tellHolds (vo_size : Int32) (vo_kinds : Nat → Int32) (vo_holds : Nat → Int32) (vo_takes : Nat → Int32) (p1 : Int32) : (Nat → Int32) × (Nat → Int32) :=
 if vo_size ≤ (0 : Int32) then
  (vo_holds, vo_takes)
 else
  cut (upd vo_holds (vo_size - (1 : Int32)).toNatClampNeg p1) (fun (a1 : Nat → Int32) =>
  cut (m_X5_takenBy (vo_kinds (vo_size - (1 : Int32)).toNatClampNeg) p1) (fun (r2 : Int32) =>
  cut (upd vo_takes (vo_size - (1 : Int32)).toNatClampNeg r2) (fun (a3 : Nat → Int32) =>
  (a1, a3))))
set_option maxHeartbeats 4000000 in
set_option maxRecDepth 100000 in
theorem k_X3_tellHolds (l : Launch) (dC : Nat → ClassId) (dI : Nat → Nat → Nat) (cI cJ cC : ClassId) (sz : Nat) (aK aV : Nat) (o o_kinds o_holds o_takes o_shareCounts o_shares : Nat) (vo_size : Int32) (vo_kinds : Nat → Int32) (vo_holds : Nat → Int32) (vo_takes : Nat → Int32) (p1 : Int32) (qo_holds : Nat → Int32) (qo_takes : Nat → Int32) (hT : m_X3_tellHolds vo_size vo_kinds vo_holds vo_takes p1 = (qo_holds, qo_takes)) (hs9 : vo_size.toInt ≤ 9) : Met l yX3_tellHolds wsX3_tellHolds ({ frames := 1, cells := 0, slots := 0, locals := 21 }) (zPcX aK aV [.ref o, .int p1] (dC, dI) (zTy cI cJ cC) [(o, .inr (3, [.ref o_kinds, .ref o_holds, .ref o_takes, .ref o_shareCounts, .ref o_shares, .int vo_size])), (o_kinds, .inl (cI, 9, .inl vo_kinds)), (o_holds, .inl (cI, 9, .inl vo_holds)), (o_takes, .inl (cI, 9, .inl vo_takes))] sz) (zQv (True) (dC, dI) (zTy cI cJ cC) [(o, .inr (3, [.ref o_kinds, .ref o_holds, .ref o_takes, .ref o_shareCounts, .ref o_shares, .int vo_size])), (o_kinds, .inl (cI, 9, .inl vo_kinds)), (o_holds, .inl (cI, 9, .inl qo_holds)), (o_takes, .inl (cI, 9, .inl qo_takes))] (va_A [(o, .inr (3, [.ref o_kinds, .ref o_holds, .ref o_takes, .ref o_shareCounts, .ref o_shares, .int vo_size])), (o_kinds, .inl (cI, 9, .inl vo_kinds)), (o_holds, .inl (cI, 9, .inl vo_holds)), (o_takes, .inl (cI, 9, .inl vo_takes))] sz)) 0 0 (va_A [(o, .inr (3, [.ref o_kinds, .ref o_holds, .ref o_takes, .ref o_shareCounts, .ref o_shares, .int vo_size])), (o_kinds, .inl (cI, 9, .inl vo_kinds)), (o_holds, .inl (cI, 9, .inl vo_holds)), (o_takes, .inl (cI, 9, .inl vo_takes))] sz) := by
  refine Met.ofW (cc := cX3_tellHolds) (maxL := 2) (ret := none) (by decide) rfl ?_
  intro p e s m args below meth c s₁ B hml hv
  obtain ⟨rfl, hsz, hP, hK, hD0, hX⟩ := hv
  have hx := B.exec
  have hb := B.bytes
  have hr := B.returns
  have hts := atoms_spec (ws := wsX3_tellHolds) B.pre
  have hown : s.vm.findClass RX3 = some m.cls := findClass_of_methodNamed B.named
  have hlocks := B.notSynchronized
  subst hsz
  have hD := hD0.self (sz := s.heap.size)
  generalize hAe : va_A [(o, .inr (3, [.ref o_kinds, .ref o_holds, .ref o_takes, .ref o_shareCounts, .ref o_shares, .int vo_size])), (o_kinds, .inl (cI, 9, .inl vo_kinds)), (o_holds, .inl (cI, 9, .inl vo_holds)), (o_takes, .inl (cI, 9, .inl vo_takes))] s.heap.size = A at hD hX ⊢
  have hA : ∀ q : Nat, s.heap.size ≤ q → A q := fun q h => by rw [← hAe]; exact Or.inr h
  have hS : va_S A s.heap s.heap [] := va_S.rf
  have hP : va_P (dC, dI) vwCl [(o, .inr (3, [.ref o_kinds, .ref o_holds, .ref o_takes, .ref o_shareCounts, .ref o_shares, .int vo_size])), (o_kinds, .inl (cI, 9, .inl vo_kinds)), (o_holds, .inl (cI, 9, .inl vo_holds)), (o_takes, .inl (cI, 9, .inl vo_takes))] s.heap := hP
  have hK : va_K (dC, dI) vwCl (zTy cI cJ cC) s := hK
  have hl := lv_entry ([.ref o, .int p1]) (n := 2) (Nat.le_of_ble_eq_true rfl)
  rw [lg_entry_eq]
  generalize (lg_sl ([.ref o, .int p1]) ++ List.replicate (2 - (lg_sl ([.ref o, .int p1])).length) Slot.unset).toArray = ls at hl ⊢
  have hl : lv_has ls 2 [(0, .ref o), (1, .int p1)] := hl
  refine zz_start hP hS (fun Q hQ H locs hP hS => ?_)
  have hwX3 : ∀ w ∈ u_ws RX3 TX3 6, w ∈ wsX3_tellHolds := by decide +kernel
  have hf_15 := (hts (.fieldLink RX3 15 "PouredTopmost$Stand" "holds" "[I") (by decide +kernel))
  have hf_18 := (hts (.fieldLink RX3 18 "PouredTopmost$Stand" "takes" "[I") (by decide +kernel))
  have hf_33 := (hts (.fieldLink RX3 33 "PouredTopmost$Stand" "size" "I") (by decide +kernel))
  have hf_9 := (hts (.fieldLink RX3 9 "PouredTopmost$Stand" "kinds" "[I") (by decide +kernel))
  refine lv_aload_n hx hb dX3_tellHolds_0 rfl (lv_at hl 0 rfl) ?_
  refine va_get (D := (dC, dI)) (ci := 3) (v := .int vo_size) (C := RX3) (T := TX3) (N := 6) hx hb hts hwX3 hown hK hP 0 rfl rfl 5 (by decide) hf_33 (fun _ h9 => h9) rfl dX3_tellHolds_1 ?_
  refine lv_if_le (tgt := 45) hx hb dX3_tellHolds_4 (by decide) (fun c_1 => ?_) (fun c_1 => ?_)
  · replace hT := cutT c_1 hT
    have g_10 := zleT (rfl : (vo_size).toInt = _) (by decide : ((0 : Int32)).toInt = 0) c_1
    have hP9 := hP
    have hD9 := hD
    have hS9 := hS
    have hT : (vo_holds, vo_takes) = (qo_holds, qo_takes) := hT
    cases hT
    subst hQ
    exact zz_vret hx hb hr [0, 1, 2, 3] hK hP9 hD9 hS9 rfl rfl trivial hlocks dX3_tellHolds_45
  · replace hT := cutF c_1 hT
    have g_11 := zleF (rfl : (vo_size).toInt = _) (by decide : ((0 : Int32)).toInt = 0) c_1
    refine lv_aload_n hx hb dX3_tellHolds_7 rfl (lv_at hl 0 rfl) ?_
    refine va_get (D := (dC, dI)) (ci := 3) (v := .ref o_holds) (C := RX3) (T := TX3) (N := 6) hx hb hts hwX3 hown hK hP 0 rfl rfl 1 (by decide) hf_15 (fun _ h9 => h9) rfl dX3_tellHolds_8 ?_
    refine lv_aload_n hx hb dX3_tellHolds_11 rfl (lv_at hl 0 rfl) ?_
    refine va_get (D := (dC, dI)) (ci := 3) (v := .int vo_size) (C := RX3) (T := TX3) (N := 6) hx hb hts hwX3 hown hK hP 0 rfl rfl 5 (by decide) hf_33 (fun _ h9 => h9) rfl dX3_tellHolds_12 ?_
    refine lv_iconst (v := (1 : Int32)) hx hb dX3_tellHolds_15 (by decide) ?_
    refine lv_isub hx hb dX3_tellHolds_16 ?_
    refine lv_iload_n hx hb dX3_tellHolds_17 rfl (lv_at hl 1 rfl) ?_
    have e_3 := zsubE (v := (vo_size - (1 : Int32))) (rfl : (vo_size).toInt = _) (by decide : ((1 : Int32)).toInt = 1) rfl (by omega) (by omega)
    have h_2 : vp_in (vo_size - (1 : Int32)) 9 := zin (by omega) (by omega)
    refine va_iast hx hb hK hP hD hS 2 0 rfl rfl h_2 dX3_tellHolds_18 (fun H locs hP hD hS => ?_)
    obtain ⟨a1, ea1⟩ : ∃ z, (upd vo_holds (vo_size - (1 : Int32)).toNatClampNeg p1) = z := ⟨_, rfl⟩
    replace hT := cut_n ea1 hT
    have hP : va_P (dC, dI) vwCl [(o, .inr (3, [.ref o_kinds, .ref o_holds, .ref o_takes, .ref o_shareCounts, .ref o_shares, .int vo_size])), (o_kinds, .inl (cI, 9, .inl vo_kinds)), (o_holds, .inl (cI, 9, .inl a1)), (o_takes, .inl (cI, 9, .inl vo_takes))] H := by rw [← ea1]; exact hP
    have hD : va_D A [(o, .inr (3, [.ref o_kinds, .ref o_holds, .ref o_takes, .ref o_shareCounts, .ref o_shares, .int vo_size])), (o_kinds, .inl (cI, 9, .inl vo_kinds)), (o_holds, .inl (cI, 9, .inl a1)), (o_takes, .inl (cI, 9, .inl vo_takes))] := by rw [← ea1]; exact hD
    refine lv_aload_n hx hb dX3_tellHolds_19 rfl (lv_at hl 0 rfl) ?_
    refine va_get (D := (dC, dI)) (ci := 3) (v := .ref o_takes) (C := RX3) (T := TX3) (N := 6) hx hb hts hwX3 hown hK hP 0 rfl rfl 2 (by decide) hf_18 (fun _ h9 => h9) rfl dX3_tellHolds_20 ?_
    refine lv_aload_n hx hb dX3_tellHolds_23 rfl (lv_at hl 0 rfl) ?_
    refine va_get (D := (dC, dI)) (ci := 3) (v := .int vo_size) (C := RX3) (T := TX3) (N := 6) hx hb hts hwX3 hown hK hP 0 rfl rfl 5 (by decide) hf_33 (fun _ h9 => h9) rfl dX3_tellHolds_24 ?_
    refine lv_iconst (v := (1 : Int32)) hx hb dX3_tellHolds_27 (by decide) ?_
    refine lv_isub hx hb dX3_tellHolds_28 ?_
    refine lv_aload_n hx hb dX3_tellHolds_29 rfl (lv_at hl 0 rfl) ?_
    refine va_get (D := (dC, dI)) (ci := 3) (v := .ref o_kinds) (C := RX3) (T := TX3) (N := 6) hx hb hts hwX3 hown hK hP 0 rfl rfl 0 (by decide) hf_9 (fun _ h9 => h9) rfl dX3_tellHolds_30 ?_
    refine lv_aload_n hx hb dX3_tellHolds_33 rfl (lv_at hl 0 rfl) ?_
    refine va_get (D := (dC, dI)) (ci := 3) (v := .int vo_size) (C := RX3) (T := TX3) (N := 6) hx hb hts hwX3 hown hK hP 0 rfl rfl 5 (by decide) hf_33 (fun _ h9 => h9) rfl dX3_tellHolds_34 ?_
    refine lv_iconst (v := (1 : Int32)) hx hb dX3_tellHolds_37 (by decide) ?_
    refine lv_isub hx hb dX3_tellHolds_38 ?_
    have e_5 := zsubE (v := (vo_size - (1 : Int32))) (rfl : (vo_size).toInt = _) (by decide : ((1 : Int32)).toInt = 1) rfl (by omega) (by omega)
    have h_4 : vp_in (vo_size - (1 : Int32)) 9 := zin (by omega) (by omega)
    refine va_iald hx hb hK hP 1 0 rfl rfl h_4 dX3_tellHolds_39 ?_
    refine lv_iload_n hx hb dX3_tellHolds_40 rfl (lv_at hl 1 rfl) ?_
    obtain ⟨r2, ev_6⟩ : ∃ x0, (m_X5_takenBy (vo_kinds (vo_size - (1 : Int32)).toNatClampNeg) p1) = x0 := ⟨_, rfl⟩
    replace hT := cut_n ev_6 hT
    refine zz_ci [] [0, 1, 2, 3] (wr := [(o, .inr (3, [.ref o_kinds, .ref o_holds, .ref o_takes, .ref o_shareCounts, .ref o_shares, .int vo_size])), (o_kinds, .inl (cI, 9, .inl vo_kinds)), (o_holds, .inl (cI, 9, .inl a1)), (o_takes, .inl (cI, 9, .inl vo_takes))]) (w1 := []) (va_runSN (As := [.int (vo_kinds (vo_size - (1 : Int32)).toNatClampNeg), .int p1]) (rest := [.int (vo_size - (1 : Int32)), .ref o_takes]) ⟨hx, hb, hml, hown, hts⟩ (k_X5_takenBy l dC dI cI cJ cC H.size (vo_kinds (vo_size - (1 : Int32)).toNatClampNeg) p1 r2 ev_6) ⟨va_cnB (host := RX5) 2 hts gX3_tellHolds_X5_takenBy_n41 rfl rfl rfl hX.2.2.2 (hts (.initialized RX5) (by decide +kernel)) (by decide +kernel) ⟨Nat.le_of_ble_eq_true rfl, Nat.le_of_ble_eq_true rfl⟩, hts (.static yX5_takenBy) (by decide +kernel), trivial⟩ (zz_preS [] hK hP hD rfl rfl) rfl rfl hl.1 rfl (lv_room (Nat.le_of_ble_eq_true rfl)) dX3_tellHolds_41 ⟨Nat.zero_le _, Nat.zero_le _⟩) hP hD hS hA rfl rfl rfl (by decide) (fun ok_7 H locs hP hD hS => ?_)
    have hP : va_P (dC, dI) vwCl [(o, .inr (3, [.ref o_kinds, .ref o_holds, .ref o_takes, .ref o_shareCounts, .ref o_shares, .int vo_size])), (o_kinds, .inl (cI, 9, .inl vo_kinds)), (o_holds, .inl (cI, 9, .inl a1)), (o_takes, .inl (cI, 9, .inl vo_takes))] H := hP
    have hD : va_D A [(o, .inr (3, [.ref o_kinds, .ref o_holds, .ref o_takes, .ref o_shareCounts, .ref o_shares, .int vo_size])), (o_kinds, .inl (cI, 9, .inl vo_kinds)), (o_holds, .inl (cI, 9, .inl a1)), (o_takes, .inl (cI, 9, .inl vo_takes))] := hD
    have e_9 := zsubE (v := (vo_size - (1 : Int32))) (rfl : (vo_size).toInt = _) (by decide : ((1 : Int32)).toInt = 1) rfl (by omega) (by omega)
    have h_8 : vp_in (vo_size - (1 : Int32)) 9 := zin (by omega) (by omega)
    refine va_iast hx hb hK hP hD hS 3 0 rfl rfl h_8 dX3_tellHolds_44 (fun H locs hP hD hS => ?_)
    obtain ⟨a3, ea3⟩ : ∃ z, (upd vo_takes (vo_size - (1 : Int32)).toNatClampNeg r2) = z := ⟨_, rfl⟩
    replace hT := cut_n ea3 hT
    have hP : va_P (dC, dI) vwCl [(o, .inr (3, [.ref o_kinds, .ref o_holds, .ref o_takes, .ref o_shareCounts, .ref o_shares, .int vo_size])), (o_kinds, .inl (cI, 9, .inl vo_kinds)), (o_holds, .inl (cI, 9, .inl a1)), (o_takes, .inl (cI, 9, .inl a3))] H := by rw [← ea3]; exact hP
    have hD : va_D A [(o, .inr (3, [.ref o_kinds, .ref o_holds, .ref o_takes, .ref o_shareCounts, .ref o_shares, .int vo_size])), (o_kinds, .inl (cI, 9, .inl vo_kinds)), (o_holds, .inl (cI, 9, .inl a1)), (o_takes, .inl (cI, 9, .inl a3))] := by rw [← ea3]; exact hD
    have hP9 := hP
    have hD9 := hD
    have hS9 := hS
    have hT : (a1, a3) = (qo_holds, qo_takes) := hT
    cases hT
    subst hQ
    exact zz_vret hx hb hr [0, 1, 2, 3] hK hP9 hD9 hS9 rfl rfl trivial hlocks dX3_tellHolds_45

def m_X2_readsKind (vo_place : Int32) (vo_read_size : Int32) (vo_read_kinds : Nat → Int32) (p1 : Int32) : Int32 × Int32 × (Nat → Int32) :=
 cut (m_J0_indexOf_0f7a4 p1) (fun (r1 : Int32) =>
 cut (r1 + (1 : Int32)) (fun (v2 : Int32) =>
 if v2 = (0 : Int32) then
  ((0 : Int32), vo_place, vo_read_kinds)
 else
  cut (m_X3_tellKind vo_read_size vo_read_kinds v2) (fun (u3 : Nat → Int32) =>
  ((1 : Int32), (1 : Int32), u3))))
set_option maxHeartbeats 4000000 in
set_option maxRecDepth 100000 in
theorem k_X2_readsKind (l : Launch) (dC : Nat → ClassId) (dI : Nat → Nat → Nat) (cI cJ cC : ClassId) (sz : Nat) (aK aV : Nat) (o o_read o_read_kinds o_read_holds o_read_takes o_read_shareCounts o_read_shares : Nat) (vo_place : Int32) (vo_read_size : Int32) (vo_read_kinds : Nat → Int32) (p1 : Int32) (r : Int32) (qo_place : Int32) (qo_read_kinds : Nat → Int32) (hT : m_X2_readsKind vo_place vo_read_size vo_read_kinds p1 = (r, qo_place, qo_read_kinds)) (hr9 : vo_read_size.toInt ≤ 9) : Met l yX2_readsKind wsX2_readsKind ({ frames := 4, cells := 0, slots := 0, locals := 106 }) (zPcX aK aV [.ref o, .int p1] (dC, dI) (zTy cI cJ cC) [(o, .inr (2, [.ref o_read, .int vo_place])), (o_read, .inr (3, [.ref o_read_kinds, .ref o_read_holds, .ref o_read_takes, .ref o_read_shareCounts, .ref o_read_shares, .int vo_read_size])), (o_read_kinds, .inl (cI, 9, .inl vo_read_kinds))] sz) (zQi r ((zB01 r)) (dC, dI) (zTy cI cJ cC) [(o, .inr (2, [.ref o_read, .int qo_place])), (o_read, .inr (3, [.ref o_read_kinds, .ref o_read_holds, .ref o_read_takes, .ref o_read_shareCounts, .ref o_read_shares, .int vo_read_size])), (o_read_kinds, .inl (cI, 9, .inl qo_read_kinds))] (va_A [(o, .inr (2, [.ref o_read, .int vo_place])), (o_read, .inr (3, [.ref o_read_kinds, .ref o_read_holds, .ref o_read_takes, .ref o_read_shareCounts, .ref o_read_shares, .int vo_read_size])), (o_read_kinds, .inl (cI, 9, .inl vo_read_kinds))] sz)) 0 0 (va_A [(o, .inr (2, [.ref o_read, .int vo_place])), (o_read, .inr (3, [.ref o_read_kinds, .ref o_read_holds, .ref o_read_takes, .ref o_read_shareCounts, .ref o_read_shares, .int vo_read_size])), (o_read_kinds, .inl (cI, 9, .inl vo_read_kinds))] sz) := by
  refine Met.ofW (cc := cX2_readsKind) (maxL := 3) (ret := (some .boolean)) (by decide) rfl ?_
  intro p e s m args below meth c s₁ B hml hv
  obtain ⟨rfl, hsz, hP, hK, hD0, hX⟩ := hv
  have hx := B.exec
  have hb := B.bytes
  have hr := B.returns
  have hts := atoms_spec (ws := wsX2_readsKind) B.pre
  have hown : s.vm.findClass RX2 = some m.cls := findClass_of_methodNamed B.named
  have hlocks := B.notSynchronized
  subst hsz
  have hD := hD0.self (sz := s.heap.size)
  generalize hAe : va_A [(o, .inr (2, [.ref o_read, .int vo_place])), (o_read, .inr (3, [.ref o_read_kinds, .ref o_read_holds, .ref o_read_takes, .ref o_read_shareCounts, .ref o_read_shares, .int vo_read_size])), (o_read_kinds, .inl (cI, 9, .inl vo_read_kinds))] s.heap.size = A at hD hX ⊢
  have hA : ∀ q : Nat, s.heap.size ≤ q → A q := fun q h => by rw [← hAe]; exact Or.inr h
  have hS : va_S A s.heap s.heap [] := va_S.rf
  have hP : va_P (dC, dI) vwCl [(o, .inr (2, [.ref o_read, .int vo_place])), (o_read, .inr (3, [.ref o_read_kinds, .ref o_read_holds, .ref o_read_takes, .ref o_read_shareCounts, .ref o_read_shares, .int vo_read_size])), (o_read_kinds, .inl (cI, 9, .inl vo_read_kinds))] s.heap := hP
  have hK : va_K (dC, dI) vwCl (zTy cI cJ cC) s := hK
  have hl := lv_entry ([.ref o, .int p1]) (n := 3) (Nat.le_of_ble_eq_true rfl)
  rw [lg_entry_eq]
  generalize (lg_sl ([.ref o, .int p1]) ++ List.replicate (3 - (lg_sl ([.ref o, .int p1])).length) Slot.unset).toArray = ls at hl ⊢
  have hl : lv_has ls 3 [(0, .ref o), (1, .int p1)] := hl
  refine zz_start hP hS (fun Q hQ H locs hP hS => ?_)
  have hwX2 : ∀ w ∈ u_ws RX2 TX2 2, w ∈ wsX2_readsKind := by decide +kernel
  have hf_12 := (hts (.fieldLink RX2 12 "PouredTopmost$Reader" "read" "LPouredTopmost$Stand;") (by decide +kernel))
  have hf_26 := (hts (.fieldLink RX2 26 "PouredTopmost$Reader" "place" "I") (by decide +kernel))
  refine va_ldcS hx hb hown hX.2.2.1 dX2_readsKind_0 ?_
  refine lv_iload_n hx hb dX2_readsKind_2 rfl (lv_at hl 1 rfl) ?_
  obtain ⟨r1, ev_1⟩ : ∃ x0, (m_J0_indexOf_0f7a4 p1) = x0 := ⟨_, rfl⟩
  replace hT := cut_n ev_1 hT
  refine zz_ci [] [0, 1, 2] (wr := [(o, .inr (2, [.ref o_read, .int vo_place])), (o_read, .inr (3, [.ref o_read_kinds, .ref o_read_holds, .ref o_read_takes, .ref o_read_shareCounts, .ref o_read_shares, .int vo_read_size])), (o_read_kinds, .inl (cI, 9, .inl vo_read_kinds))]) (w1 := []) (va_runV (As := [.int p1]) (rest := []) ⟨hx, hb, hml, hown, hts⟩ (k_J0_indexOf_0f7a4 l dC dI cI cJ cC H.size aK aV p1 r1 ev_1) (cwV 1 hts gX2_readsKind_J0_indexOf_0f7a4 rfl rfl rfl (by decide +kernel) ⟨Nat.le_of_ble_eq_true rfl, Nat.le_of_ble_eq_true rfl⟩) (zz_preVX [] hK hP hD hS hA hX rfl rfl (vk_recv hX.1 (i := 0) (by decide) hS)) rfl rfl hl.1 rfl (lv_room (Nat.le_of_ble_eq_true rfl)) dX2_readsKind_3 ⟨Nat.zero_le _, Nat.zero_le _⟩) hP hD hS hA rfl rfl rfl (by decide) (fun ok_2 H locs hP hD hS => ?_)
  have hP : va_P (dC, dI) vwCl [(o, .inr (2, [.ref o_read, .int vo_place])), (o_read, .inr (3, [.ref o_read_kinds, .ref o_read_holds, .ref o_read_takes, .ref o_read_shareCounts, .ref o_read_shares, .int vo_read_size])), (o_read_kinds, .inl (cI, 9, .inl vo_read_kinds))] H := hP
  have hD : va_D A [(o, .inr (2, [.ref o_read, .int vo_place])), (o_read, .inr (3, [.ref o_read_kinds, .ref o_read_holds, .ref o_read_takes, .ref o_read_shareCounts, .ref o_read_shares, .int vo_read_size])), (o_read_kinds, .inl (cI, 9, .inl vo_read_kinds))] := hD
  refine lv_iconst (v := (1 : Int32)) hx hb dX2_readsKind_6 (by decide) ?_
  refine lv_iadd hx hb dX2_readsKind_7 ?_
  refine lv_topi (fun v2 ev2 => ?_)
  replace hT := cut_n ev2.symm hT
  try have fv2 := zaddE (rfl : (r1).toInt = _) (by decide : ((1 : Int32)).toInt = 1) ev2.symm (by omega) (by omega)
  refine lv_istore_n (lv' := [(2, .int v2), (0, .ref o), (1, .int p1)]) hx hb dX2_readsKind_8 rfl hl (by decide) rfl (fun ls hl => ?_)
  refine lv_iload_n hx hb dX2_readsKind_9 rfl (lv_at hl 0 rfl) ?_
  refine lv_if_ne (tgt := 15) hx hb dX2_readsKind_10 (by decide) (fun c_3 => ?_) (fun c_3 => ?_)
  · replace hT := cutF c_3 hT
    have g_6 := zeqF (rfl : (v2).toInt = _) (by decide : ((0 : Int32)).toInt = 0) c_3
    refine lv_aload_n hx hb dX2_readsKind_15 rfl (lv_at hl 1 rfl) ?_
    refine va_get (D := (dC, dI)) (ci := 2) (v := .ref o_read) (C := RX2) (T := TX2) (N := 2) hx hb hts hwX2 hown hK hP 0 rfl rfl 0 (by decide) hf_12 (fun _ h9 => h9) rfl dX2_readsKind_16 ?_
    refine lv_iload_n hx hb dX2_readsKind_19 rfl (lv_at hl 0 rfl) ?_
    obtain ⟨u3, ev_4⟩ : ∃ x0, (m_X3_tellKind vo_read_size vo_read_kinds v2) = x0 := ⟨_, rfl⟩
    replace hT := cut_n ev_4 hT
    refine zz_cv [1, 2] [0] (wr := [(o, .inr (2, [.ref o_read, .int vo_place]))]) (w1 := [(o_read, .inr (3, [.ref o_read_kinds, .ref o_read_holds, .ref o_read_takes, .ref o_read_shareCounts, .ref o_read_shares, .int vo_read_size])), (o_read_kinds, .inl (cI, 9, .inl u3))]) (va_runV (As := [.int v2]) (rest := []) ⟨hx, hb, hml, hown, hts⟩ (k_X3_tellKind l dC dI cI cJ cC H.size o_read o_read_kinds o_read_holds o_read_takes o_read_shareCounts o_read_shares vo_read_size vo_read_kinds v2 u3 ev_4 hr9) (cwV 1 hts gX2_readsKind_X3_tellKind rfl rfl rfl (by decide +kernel) ⟨Nat.le_of_ble_eq_true rfl, Nat.le_of_ble_eq_true rfl⟩) (zz_preV [1, 2] hK hP hD rfl rfl (va_recv hK hP (ci := 3) (q0 := 1) rfl rfl)) rfl rfl hl.1 rfl (lv_room (Nat.le_of_ble_eq_true rfl)) dX2_readsKind_20 ⟨Nat.zero_le _, Nat.zero_le _⟩) hP hD hS hA rfl rfl rfl (by decide) (fun ok_5 H locs hP hD hS => ?_)
    have hP : va_P (dC, dI) vwCl [(o, .inr (2, [.ref o_read, .int vo_place])), (o_read, .inr (3, [.ref o_read_kinds, .ref o_read_holds, .ref o_read_takes, .ref o_read_shareCounts, .ref o_read_shares, .int vo_read_size])), (o_read_kinds, .inl (cI, 9, .inl u3))] H := hP
    have hD : va_D A [(o, .inr (2, [.ref o_read, .int vo_place])), (o_read, .inr (3, [.ref o_read_kinds, .ref o_read_holds, .ref o_read_takes, .ref o_read_shareCounts, .ref o_read_shares, .int vo_read_size])), (o_read_kinds, .inl (cI, 9, .inl u3))] := hD
    refine lv_aload_n hx hb dX2_readsKind_23 rfl (lv_at hl 1 rfl) ?_
    refine lv_iconst (v := (1 : Int32)) hx hb dX2_readsKind_24 (by decide) ?_
    refine va_put (D := (dC, dI)) (ci := 2) (v := .int (1 : Int32)) (ty := .int) (C := RX2) (T := TX2) (N := 2) hx hb hts hwX2 tyX2 tyX2_ok nmX2 hown hK hP hD hS 0 rfl rfl 1 (by decide) hf_26 (fun _ h9 => h9) rfl (by decide +kernel) rfl rfl (Nat.le_of_ble_eq_true rfl) dX2_readsKind_25 (fun H locs hP hD hS => ?_)
    have hP : va_P (dC, dI) vwCl [(o, .inr (2, [.ref o_read, .int (1 : Int32)])), (o_read, .inr (3, [.ref o_read_kinds, .ref o_read_holds, .ref o_read_takes, .ref o_read_shareCounts, .ref o_read_shares, .int vo_read_size])), (o_read_kinds, .inl (cI, 9, .inl u3))] H := hP
    have hD : va_D A [(o, .inr (2, [.ref o_read, .int (1 : Int32)])), (o_read, .inr (3, [.ref o_read_kinds, .ref o_read_holds, .ref o_read_takes, .ref o_read_shareCounts, .ref o_read_shares, .int vo_read_size])), (o_read_kinds, .inl (cI, 9, .inl u3))] := hD
    refine lv_iconst (v := (1 : Int32)) hx hb dX2_readsKind_28 (by decide) ?_
    have hP9 := hP
    have hD9 := hD
    have hS9 := hS
    have hT : ((1 : Int32), (1 : Int32), u3) = (r, qo_place, qo_read_kinds) := hT
    cases hT
    subst hQ
    exact zz_zret hx hb hr rfl [0, 1, 2] hK hP9 hD9 hS9 rfl rfl (Or.inr rfl) hlocks dX2_readsKind_29
  · replace hT := cutT c_3 hT
    have g_7 := zeqT (rfl : (v2).toInt = _) (by decide : ((0 : Int32)).toInt = 0) c_3
    refine lv_iconst (v := (0 : Int32)) hx hb dX2_readsKind_13 (by decide) ?_
    have hP9 := hP
    have hD9 := hD
    have hS9 := hS
    have hT : ((0 : Int32), vo_place, vo_read_kinds) = (r, qo_place, qo_read_kinds) := hT
    cases hT
    subst hQ
    exact zz_zret hx hb hr rfl [0, 1, 2] hK hP9 hD9 hS9 rfl rfl (Or.inl rfl) hlocks dX2_readsKind_14

def m_X2_readsHolds (vo_place : Int32) (vo_read_size : Int32) (vo_read_kinds : Nat → Int32) (vo_read_holds : Nat → Int32) (vo_read_takes : Nat → Int32) (p1 : Int32) : Int32 × Int32 × (Nat → Int32) × (Nat → Int32) :=
 if p1 < (49 : Int32) then
  ((0 : Int32), vo_place, vo_read_holds, vo_read_takes)
 else
  if p1 ≤ (57 : Int32) then
   cut2 (m_X3_tellHolds vo_read_size vo_read_kinds vo_read_holds vo_read_takes (p1 - (48 : Int32))) (fun (u1 : Nat → Int32) (u2 : Nat → Int32) =>
   ((1 : Int32), (2 : Int32), u1, u2))
  else
   ((0 : Int32), vo_place, vo_read_holds, vo_read_takes)
set_option maxHeartbeats 4000000 in
set_option maxRecDepth 100000 in
theorem k_X2_readsHolds (l : Launch) (dC : Nat → ClassId) (dI : Nat → Nat → Nat) (cI cJ cC : ClassId) (sz : Nat) (aK aV : Nat) (o o_read o_read_kinds o_read_holds o_read_takes o_read_shareCounts o_read_shares : Nat) (vo_place : Int32) (vo_read_size : Int32) (vo_read_kinds : Nat → Int32) (vo_read_holds : Nat → Int32) (vo_read_takes : Nat → Int32) (p1 : Int32) (r : Int32) (qo_place : Int32) (qo_read_holds : Nat → Int32) (qo_read_takes : Nat → Int32) (hT : m_X2_readsHolds vo_place vo_read_size vo_read_kinds vo_read_holds vo_read_takes p1 = (r, qo_place, qo_read_holds, qo_read_takes)) (hr9 : vo_read_size.toInt ≤ 9) : Met l yX2_readsHolds wsX2_readsHolds ({ frames := 2, cells := 0, slots := 0, locals := 42 }) (zPcX aK aV [.ref o, .int p1] (dC, dI) (zTy cI cJ cC) [(o, .inr (2, [.ref o_read, .int vo_place])), (o_read, .inr (3, [.ref o_read_kinds, .ref o_read_holds, .ref o_read_takes, .ref o_read_shareCounts, .ref o_read_shares, .int vo_read_size])), (o_read_kinds, .inl (cI, 9, .inl vo_read_kinds)), (o_read_holds, .inl (cI, 9, .inl vo_read_holds)), (o_read_takes, .inl (cI, 9, .inl vo_read_takes))] sz) (zQi r ((zB01 r)) (dC, dI) (zTy cI cJ cC) [(o, .inr (2, [.ref o_read, .int qo_place])), (o_read, .inr (3, [.ref o_read_kinds, .ref o_read_holds, .ref o_read_takes, .ref o_read_shareCounts, .ref o_read_shares, .int vo_read_size])), (o_read_kinds, .inl (cI, 9, .inl vo_read_kinds)), (o_read_holds, .inl (cI, 9, .inl qo_read_holds)), (o_read_takes, .inl (cI, 9, .inl qo_read_takes))] (va_A [(o, .inr (2, [.ref o_read, .int vo_place])), (o_read, .inr (3, [.ref o_read_kinds, .ref o_read_holds, .ref o_read_takes, .ref o_read_shareCounts, .ref o_read_shares, .int vo_read_size])), (o_read_kinds, .inl (cI, 9, .inl vo_read_kinds)), (o_read_holds, .inl (cI, 9, .inl vo_read_holds)), (o_read_takes, .inl (cI, 9, .inl vo_read_takes))] sz)) 0 0 (va_A [(o, .inr (2, [.ref o_read, .int vo_place])), (o_read, .inr (3, [.ref o_read_kinds, .ref o_read_holds, .ref o_read_takes, .ref o_read_shareCounts, .ref o_read_shares, .int vo_read_size])), (o_read_kinds, .inl (cI, 9, .inl vo_read_kinds)), (o_read_holds, .inl (cI, 9, .inl vo_read_holds)), (o_read_takes, .inl (cI, 9, .inl vo_read_takes))] sz) := by
  refine Met.ofW (cc := cX2_readsHolds) (maxL := 2) (ret := (some .boolean)) (by decide) rfl ?_
  intro p e s m args below meth c s₁ B hml hv
  obtain ⟨rfl, hsz, hP, hK, hD0, hX⟩ := hv
  have hx := B.exec
  have hb := B.bytes
  have hr := B.returns
  have hts := atoms_spec (ws := wsX2_readsHolds) B.pre
  have hown : s.vm.findClass RX2 = some m.cls := findClass_of_methodNamed B.named
  have hlocks := B.notSynchronized
  subst hsz
  have hD := hD0.self (sz := s.heap.size)
  generalize hAe : va_A [(o, .inr (2, [.ref o_read, .int vo_place])), (o_read, .inr (3, [.ref o_read_kinds, .ref o_read_holds, .ref o_read_takes, .ref o_read_shareCounts, .ref o_read_shares, .int vo_read_size])), (o_read_kinds, .inl (cI, 9, .inl vo_read_kinds)), (o_read_holds, .inl (cI, 9, .inl vo_read_holds)), (o_read_takes, .inl (cI, 9, .inl vo_read_takes))] s.heap.size = A at hD hX ⊢
  have hA : ∀ q : Nat, s.heap.size ≤ q → A q := fun q h => by rw [← hAe]; exact Or.inr h
  have hS : va_S A s.heap s.heap [] := va_S.rf
  have hP : va_P (dC, dI) vwCl [(o, .inr (2, [.ref o_read, .int vo_place])), (o_read, .inr (3, [.ref o_read_kinds, .ref o_read_holds, .ref o_read_takes, .ref o_read_shareCounts, .ref o_read_shares, .int vo_read_size])), (o_read_kinds, .inl (cI, 9, .inl vo_read_kinds)), (o_read_holds, .inl (cI, 9, .inl vo_read_holds)), (o_read_takes, .inl (cI, 9, .inl vo_read_takes))] s.heap := hP
  have hK : va_K (dC, dI) vwCl (zTy cI cJ cC) s := hK
  have hl := lv_entry ([.ref o, .int p1]) (n := 2) (Nat.le_of_ble_eq_true rfl)
  rw [lg_entry_eq]
  generalize (lg_sl ([.ref o, .int p1]) ++ List.replicate (2 - (lg_sl ([.ref o, .int p1])).length) Slot.unset).toArray = ls at hl ⊢
  have hl : lv_has ls 2 [(0, .ref o), (1, .int p1)] := hl
  refine zz_start hP hS (fun Q hQ H locs hP hS => ?_)
  have hwX2 : ∀ w ∈ u_ws RX2 TX2 2, w ∈ wsX2_readsHolds := by decide +kernel
  have hf_12 := (hts (.fieldLink RX2 12 "PouredTopmost$Reader" "read" "LPouredTopmost$Stand;") (by decide +kernel))
  have hf_26 := (hts (.fieldLink RX2 26 "PouredTopmost$Reader" "place" "I") (by decide +kernel))
  refine lv_iload_n hx hb dX2_readsHolds_0 rfl (lv_at hl 1 rfl) ?_
  refine lv_bipush (v := (49 : Int32)) hx hb dX2_readsHolds_1 (by decide) ?_
  refine lv_icmp_lt (tgt := 12) hx hb dX2_readsHolds_3 (by decide) (fun c_1 => ?_) (fun c_1 => ?_)
  · replace hT := cutT c_1 hT
    have g_5 := zltT (rfl : (p1).toInt = _) (by decide : ((49 : Int32)).toInt = 49) c_1
    refine lv_iconst (v := (0 : Int32)) hx hb dX2_readsHolds_12 (by decide) ?_
    have hP9 := hP
    have hD9 := hD
    have hS9 := hS
    have hT : ((0 : Int32), vo_place, vo_read_holds, vo_read_takes) = (r, qo_place, qo_read_holds, qo_read_takes) := hT
    cases hT
    subst hQ
    exact zz_zret hx hb hr rfl [0, 1, 2, 3, 4] hK hP9 hD9 hS9 rfl rfl (Or.inl rfl) hlocks dX2_readsHolds_13
  · replace hT := cutF c_1 hT
    have g_6 := zltF (rfl : (p1).toInt = _) (by decide : ((49 : Int32)).toInt = 49) c_1
    refine lv_iload_n hx hb dX2_readsHolds_6 rfl (lv_at hl 1 rfl) ?_
    refine lv_bipush (v := (57 : Int32)) hx hb dX2_readsHolds_7 (by decide) ?_
    refine lv_icmp_le (tgt := 14) hx hb dX2_readsHolds_9 (by decide) (fun c_2 => ?_) (fun c_2 => ?_)
    · replace hT := cutT c_2 hT
      have g_7 := zleT (rfl : (p1).toInt = _) (by decide : ((57 : Int32)).toInt = 57) c_2
      refine lv_aload_n hx hb dX2_readsHolds_14 rfl (lv_at hl 0 rfl) ?_
      refine va_get (D := (dC, dI)) (ci := 2) (v := .ref o_read) (C := RX2) (T := TX2) (N := 2) hx hb hts hwX2 hown hK hP 0 rfl rfl 0 (by decide) hf_12 (fun _ h9 => h9) rfl dX2_readsHolds_15 ?_
      refine lv_iload_n hx hb dX2_readsHolds_18 rfl (lv_at hl 1 rfl) ?_
      refine lv_bipush (v := (48 : Int32)) hx hb dX2_readsHolds_19 (by decide) ?_
      refine lv_isub hx hb dX2_readsHolds_21 ?_
      obtain ⟨u1, u2, ev_3⟩ : ∃ x0 x1, (m_X3_tellHolds vo_read_size vo_read_kinds vo_read_holds vo_read_takes (p1 - (48 : Int32))) = (x0, x1) := ⟨_, _, rfl⟩
      replace hT := cut2_n ev_3 hT
      refine zz_cv [1, 2, 3, 4] [0] (wr := [(o, .inr (2, [.ref o_read, .int vo_place]))]) (w1 := [(o_read, .inr (3, [.ref o_read_kinds, .ref o_read_holds, .ref o_read_takes, .ref o_read_shareCounts, .ref o_read_shares, .int vo_read_size])), (o_read_kinds, .inl (cI, 9, .inl vo_read_kinds)), (o_read_holds, .inl (cI, 9, .inl u1)), (o_read_takes, .inl (cI, 9, .inl u2))]) (va_runV (As := [.int (p1 - (48 : Int32))]) (rest := []) ⟨hx, hb, hml, hown, hts⟩ (k_X3_tellHolds l dC dI cI cJ cC H.size aK aV o_read o_read_kinds o_read_holds o_read_takes o_read_shareCounts o_read_shares vo_read_size vo_read_kinds vo_read_holds vo_read_takes (p1 - (48 : Int32)) u1 u2 ev_3 hr9) (cwV 1 hts gX2_readsHolds_X3_tellHolds rfl rfl rfl (by decide +kernel) ⟨Nat.le_of_ble_eq_true rfl, Nat.le_of_ble_eq_true rfl⟩) (zz_preVX [1, 2, 3, 4] hK hP hD hS hA hX rfl rfl (va_recv hK hP (ci := 3) (q0 := 1) rfl rfl)) rfl rfl hl.1 rfl (lv_room (Nat.le_of_ble_eq_true rfl)) dX2_readsHolds_22 ⟨Nat.zero_le _, Nat.zero_le _⟩) hP hD hS hA rfl rfl rfl (by decide) (fun ok_4 H locs hP hD hS => ?_)
      have hP : va_P (dC, dI) vwCl [(o, .inr (2, [.ref o_read, .int vo_place])), (o_read, .inr (3, [.ref o_read_kinds, .ref o_read_holds, .ref o_read_takes, .ref o_read_shareCounts, .ref o_read_shares, .int vo_read_size])), (o_read_kinds, .inl (cI, 9, .inl vo_read_kinds)), (o_read_holds, .inl (cI, 9, .inl u1)), (o_read_takes, .inl (cI, 9, .inl u2))] H := hP
      have hD : va_D A [(o, .inr (2, [.ref o_read, .int vo_place])), (o_read, .inr (3, [.ref o_read_kinds, .ref o_read_holds, .ref o_read_takes, .ref o_read_shareCounts, .ref o_read_shares, .int vo_read_size])), (o_read_kinds, .inl (cI, 9, .inl vo_read_kinds)), (o_read_holds, .inl (cI, 9, .inl u1)), (o_read_takes, .inl (cI, 9, .inl u2))] := hD
      refine lv_aload_n hx hb dX2_readsHolds_25 rfl (lv_at hl 0 rfl) ?_
      refine lv_iconst (v := (2 : Int32)) hx hb dX2_readsHolds_26 (by decide) ?_
      refine va_put (D := (dC, dI)) (ci := 2) (v := .int (2 : Int32)) (ty := .int) (C := RX2) (T := TX2) (N := 2) hx hb hts hwX2 tyX2 tyX2_ok nmX2 hown hK hP hD hS 0 rfl rfl 1 (by decide) hf_26 (fun _ h9 => h9) rfl (by decide +kernel) rfl rfl (Nat.le_of_ble_eq_true rfl) dX2_readsHolds_27 (fun H locs hP hD hS => ?_)
      have hP : va_P (dC, dI) vwCl [(o, .inr (2, [.ref o_read, .int (2 : Int32)])), (o_read, .inr (3, [.ref o_read_kinds, .ref o_read_holds, .ref o_read_takes, .ref o_read_shareCounts, .ref o_read_shares, .int vo_read_size])), (o_read_kinds, .inl (cI, 9, .inl vo_read_kinds)), (o_read_holds, .inl (cI, 9, .inl u1)), (o_read_takes, .inl (cI, 9, .inl u2))] H := hP
      have hD : va_D A [(o, .inr (2, [.ref o_read, .int (2 : Int32)])), (o_read, .inr (3, [.ref o_read_kinds, .ref o_read_holds, .ref o_read_takes, .ref o_read_shareCounts, .ref o_read_shares, .int vo_read_size])), (o_read_kinds, .inl (cI, 9, .inl vo_read_kinds)), (o_read_holds, .inl (cI, 9, .inl u1)), (o_read_takes, .inl (cI, 9, .inl u2))] := hD
      refine lv_iconst (v := (1 : Int32)) hx hb dX2_readsHolds_30 (by decide) ?_
      have hP9 := hP
      have hD9 := hD
      have hS9 := hS
      have hT : ((1 : Int32), (2 : Int32), u1, u2) = (r, qo_place, qo_read_holds, qo_read_takes) := hT
      cases hT
      subst hQ
      exact zz_zret hx hb hr rfl [0, 1, 2, 3, 4] hK hP9 hD9 hS9 rfl rfl (Or.inr rfl) hlocks dX2_readsHolds_31
    · replace hT := cutF c_2 hT
      have g_8 := zleF (rfl : (p1).toInt = _) (by decide : ((57 : Int32)).toInt = 57) c_2
      refine lv_iconst (v := (0 : Int32)) hx hb dX2_readsHolds_12 (by decide) ?_
      have hP9 := hP
      have hD9 := hD
      have hS9 := hS
      have hT : ((0 : Int32), vo_place, vo_read_holds, vo_read_takes) = (r, qo_place, qo_read_holds, qo_read_takes) := hT
      cases hT
      subst hQ
      exact zz_zret hx hb hr rfl [0, 1, 2, 3, 4] hK hP9 hD9 hS9 rfl rfl (Or.inl rfl) hlocks dX2_readsHolds_13

def m_X2_readsColon (vo_place : Int32) (p1 : Int32) : Int32 × Int32 :=
 if p1 = (58 : Int32) then
  ((1 : Int32), (3 : Int32))
 else
  ((0 : Int32), vo_place)
set_option maxHeartbeats 4000000 in
set_option maxRecDepth 100000 in
theorem k_X2_readsColon (l : Launch) (dC : Nat → ClassId) (dI : Nat → Nat → Nat) (cI cJ cC : ClassId) (sz : Nat) (o o_read : Nat) (vo_place : Int32) (p1 : Int32) (r : Int32) (qo_place : Int32) (hT : m_X2_readsColon vo_place p1 = (r, qo_place)) : Met l yX2_readsColon wsX2_readsColon ({ frames := 0, cells := 0, slots := 0, locals := 0 }) (zPc [.ref o, .int p1] (dC, dI) (zTy cI cJ cC) [(o, .inr (2, [.ref o_read, .int vo_place]))] sz) (zQi r ((zB01 r)) (dC, dI) (zTy cI cJ cC) [(o, .inr (2, [.ref o_read, .int qo_place]))] (va_A [(o, .inr (2, [.ref o_read, .int vo_place]))] sz)) 0 0 (va_A [(o, .inr (2, [.ref o_read, .int vo_place]))] sz) := by
  refine Met.ofW (cc := cX2_readsColon) (maxL := 2) (ret := (some .boolean)) (by decide) rfl ?_
  intro p e s m args below meth c s₁ B hml hv
  obtain ⟨rfl, hsz, hP, hK, hD0⟩ := hv
  have hx := B.exec
  have hb := B.bytes
  have hr := B.returns
  have hts := atoms_spec (ws := wsX2_readsColon) B.pre
  have hown : s.vm.findClass RX2 = some m.cls := findClass_of_methodNamed B.named
  have hlocks := B.notSynchronized
  subst hsz
  have hD := hD0.self (sz := s.heap.size)
  generalize hAe : va_A [(o, .inr (2, [.ref o_read, .int vo_place]))] s.heap.size = A at hD ⊢
  have hA : ∀ q : Nat, s.heap.size ≤ q → A q := fun q h => by rw [← hAe]; exact Or.inr h
  have hS : va_S A s.heap s.heap [] := va_S.rf
  have hP : va_P (dC, dI) vwCl [(o, .inr (2, [.ref o_read, .int vo_place]))] s.heap := hP
  have hK : va_K (dC, dI) vwCl (zTy cI cJ cC) s := hK
  have hl := lv_entry ([.ref o, .int p1]) (n := 2) (Nat.le_of_ble_eq_true rfl)
  rw [lg_entry_eq]
  generalize (lg_sl ([.ref o, .int p1]) ++ List.replicate (2 - (lg_sl ([.ref o, .int p1])).length) Slot.unset).toArray = ls at hl ⊢
  have hl : lv_has ls 2 [(0, .ref o), (1, .int p1)] := hl
  refine zz_start hP hS (fun Q hQ H locs hP hS => ?_)
  have hwX2 : ∀ w ∈ u_ws RX2 TX2 2, w ∈ wsX2_readsColon := by decide +kernel
  have hf_26 := (hts (.fieldLink RX2 26 "PouredTopmost$Reader" "place" "I") (by decide +kernel))
  refine lv_iload_n hx hb dX2_readsColon_0 rfl (lv_at hl 1 rfl) ?_
  refine lv_bipush (v := (58 : Int32)) hx hb dX2_readsColon_1 (by decide) ?_
  refine lv_icmp_eq (tgt := 8) hx hb dX2_readsColon_3 (by decide) (fun c_1 => ?_) (fun c_1 => ?_)
  · replace hT := cutT c_1 hT
    have g_2 := zeqT (rfl : (p1).toInt = _) (by decide : ((58 : Int32)).toInt = 58) c_1
    refine lv_aload_n hx hb dX2_readsColon_8 rfl (lv_at hl 0 rfl) ?_
    refine lv_iconst (v := (3 : Int32)) hx hb dX2_readsColon_9 (by decide) ?_
    refine va_put (D := (dC, dI)) (ci := 2) (v := .int (3 : Int32)) (ty := .int) (C := RX2) (T := TX2) (N := 2) hx hb hts hwX2 tyX2 tyX2_ok nmX2 hown hK hP hD hS 0 rfl rfl 1 (by decide) hf_26 (fun _ h9 => h9) rfl (by decide +kernel) rfl rfl (Nat.le_of_ble_eq_true rfl) dX2_readsColon_10 (fun H locs hP hD hS => ?_)
    have hP : va_P (dC, dI) vwCl [(o, .inr (2, [.ref o_read, .int (3 : Int32)]))] H := hP
    have hD : va_D A [(o, .inr (2, [.ref o_read, .int (3 : Int32)]))] := hD
    refine lv_iconst (v := (1 : Int32)) hx hb dX2_readsColon_13 (by decide) ?_
    have hP9 := hP
    have hD9 := hD
    have hS9 := hS
    have hT : ((1 : Int32), (3 : Int32)) = (r, qo_place) := hT
    cases hT
    subst hQ
    exact zz_zret hx hb hr rfl [0] hK hP9 hD9 hS9 rfl rfl (Or.inr rfl) hlocks dX2_readsColon_14
  · replace hT := cutF c_1 hT
    have g_3 := zeqF (rfl : (p1).toInt = _) (by decide : ((58 : Int32)).toInt = 58) c_1
    refine lv_iconst (v := (0 : Int32)) hx hb dX2_readsColon_6 (by decide) ?_
    have hP9 := hP
    have hD9 := hD
    have hS9 := hS
    have hT : ((0 : Int32), vo_place) = (r, qo_place) := hT
    cases hT
    subst hQ
    exact zz_zret hx hb hr rfl [0] hK hP9 hD9 hS9 rfl rfl (Or.inl rfl) hlocks dX2_readsColon_7

def m_X2_readsShare (vo_read_size : Int32) (vo_read_shareCounts : Nat → Int32) (vo_read_shares : Nat → Int32) (p1 : Int32) : Int32 × (Nat → Int32) × (Nat → Int32) :=
 if p1 = (45 : Int32) then
  cut3 (m_X3_tellShare vo_read_size vo_read_shareCounts vo_read_shares (9 : Int32)) (fun (r5 : Int32) (u6 : Nat → Int32) (u7 : Nat → Int32) =>
  (r5, u6, u7))
 else
  cut (p1 - (48 : Int32)) (fun (v1 : Int32) =>
  if v1 < vo_read_size then
   ((0 : Int32), vo_read_shareCounts, vo_read_shares)
  else
   if (9 : Int32) ≤ v1 then
    ((0 : Int32), vo_read_shareCounts, vo_read_shares)
   else
    cut3 (m_X3_tellShare vo_read_size vo_read_shareCounts vo_read_shares v1) (fun (r2 : Int32) (u3 : Nat → Int32) (u4 : Nat → Int32) =>
    if r2 = (0 : Int32) then
     ((0 : Int32), u3, u4)
    else
     ((1 : Int32), u3, u4)))
set_option maxHeartbeats 4000000 in
set_option maxRecDepth 100000 in
theorem k_X2_readsShare (l : Launch) (dC : Nat → ClassId) (dI : Nat → Nat → Nat) (cI cJ cC : ClassId) (sz : Nat) (o o_read o_read_kinds o_read_holds o_read_takes o_read_shareCounts o_read_shares : Nat) (vo_place : Int32) (vo_read_size : Int32) (vo_read_shareCounts : Nat → Int32) (vo_read_shares : Nat → Int32) (p1 : Int32) (r : Int32) (qo_read_shareCounts : Nat → Int32) (qo_read_shares : Nat → Int32) (hT : m_X2_readsShare vo_read_size vo_read_shareCounts vo_read_shares p1 = (r, qo_read_shareCounts, qo_read_shares)) (hr0 : 0 ≤ vo_read_size.toInt) (hr9 : vo_read_size.toInt ≤ 9) (hrc : zSc vo_read_shareCounts) : Met l yX2_readsShare wsX2_readsShare ({ frames := 2, cells := 0, slots := 0, locals := 42 }) (zPc [.ref o, .int p1] (dC, dI) (zTy cI cJ cC) [(o, .inr (2, [.ref o_read, .int vo_place])), (o_read, .inr (3, [.ref o_read_kinds, .ref o_read_holds, .ref o_read_takes, .ref o_read_shareCounts, .ref o_read_shares, .int vo_read_size])), (o_read_shareCounts, .inl (cI, 9, .inl vo_read_shareCounts)), (o_read_shares, .inl (cI, 27, .inl vo_read_shares))] sz) (zQi r ((zB01 r) ∧ (zSc qo_read_shareCounts)) (dC, dI) (zTy cI cJ cC) [(o, .inr (2, [.ref o_read, .int vo_place])), (o_read, .inr (3, [.ref o_read_kinds, .ref o_read_holds, .ref o_read_takes, .ref o_read_shareCounts, .ref o_read_shares, .int vo_read_size])), (o_read_shareCounts, .inl (cI, 9, .inl qo_read_shareCounts)), (o_read_shares, .inl (cI, 27, .inl qo_read_shares))] (va_A [(o, .inr (2, [.ref o_read, .int vo_place])), (o_read, .inr (3, [.ref o_read_kinds, .ref o_read_holds, .ref o_read_takes, .ref o_read_shareCounts, .ref o_read_shares, .int vo_read_size])), (o_read_shareCounts, .inl (cI, 9, .inl vo_read_shareCounts)), (o_read_shares, .inl (cI, 27, .inl vo_read_shares))] sz)) 0 0 (va_A [(o, .inr (2, [.ref o_read, .int vo_place])), (o_read, .inr (3, [.ref o_read_kinds, .ref o_read_holds, .ref o_read_takes, .ref o_read_shareCounts, .ref o_read_shares, .int vo_read_size])), (o_read_shareCounts, .inl (cI, 9, .inl vo_read_shareCounts)), (o_read_shares, .inl (cI, 27, .inl vo_read_shares))] sz) := by
  refine Met.ofW (cc := cX2_readsShare) (maxL := 3) (ret := (some .boolean)) (by decide) rfl ?_
  intro p e s m args below meth c s₁ B hml hv
  obtain ⟨rfl, hsz, hP, hK, hD0⟩ := hv
  have hx := B.exec
  have hb := B.bytes
  have hr := B.returns
  have hts := atoms_spec (ws := wsX2_readsShare) B.pre
  have hown : s.vm.findClass RX2 = some m.cls := findClass_of_methodNamed B.named
  have hlocks := B.notSynchronized
  subst hsz
  have hD := hD0.self (sz := s.heap.size)
  generalize hAe : va_A [(o, .inr (2, [.ref o_read, .int vo_place])), (o_read, .inr (3, [.ref o_read_kinds, .ref o_read_holds, .ref o_read_takes, .ref o_read_shareCounts, .ref o_read_shares, .int vo_read_size])), (o_read_shareCounts, .inl (cI, 9, .inl vo_read_shareCounts)), (o_read_shares, .inl (cI, 27, .inl vo_read_shares))] s.heap.size = A at hD ⊢
  have hA : ∀ q : Nat, s.heap.size ≤ q → A q := fun q h => by rw [← hAe]; exact Or.inr h
  have hS : va_S A s.heap s.heap [] := va_S.rf
  have hP : va_P (dC, dI) vwCl [(o, .inr (2, [.ref o_read, .int vo_place])), (o_read, .inr (3, [.ref o_read_kinds, .ref o_read_holds, .ref o_read_takes, .ref o_read_shareCounts, .ref o_read_shares, .int vo_read_size])), (o_read_shareCounts, .inl (cI, 9, .inl vo_read_shareCounts)), (o_read_shares, .inl (cI, 27, .inl vo_read_shares))] s.heap := hP
  have hK : va_K (dC, dI) vwCl (zTy cI cJ cC) s := hK
  have hl := lv_entry ([.ref o, .int p1]) (n := 3) (Nat.le_of_ble_eq_true rfl)
  rw [lg_entry_eq]
  generalize (lg_sl ([.ref o, .int p1]) ++ List.replicate (3 - (lg_sl ([.ref o, .int p1])).length) Slot.unset).toArray = ls at hl ⊢
  have hl : lv_has ls 3 [(0, .ref o), (1, .int p1)] := hl
  refine zz_start hP hS (fun Q hQ H locs hP hS => ?_)
  have hwX2 : ∀ w ∈ u_ws RX2 TX2 2, w ∈ wsX2_readsShare := by decide +kernel
  have hwX3 : ∀ w ∈ u_ws RX3 TX3 6, w ∈ wsX2_readsShare := by decide +kernel
  have hf_12 := (hts (.fieldLink RX2 12 "PouredTopmost$Reader" "read" "LPouredTopmost$Stand;") (by decide +kernel))
  have hf_18 := (hts (.fieldLink RX2 18 "PouredTopmost$Stand" "size" "I") (by decide +kernel))
  refine lv_iload_n hx hb dX2_readsShare_0 rfl (lv_at hl 1 rfl) ?_
  refine lv_bipush (v := (45 : Int32)) hx hb dX2_readsShare_1 (by decide) ?_
  refine lv_icmp_ne (tgt := 16) hx hb dX2_readsShare_3 (by decide) (fun c_1 => ?_) (fun c_1 => ?_)
  · replace hT := cutF c_1 hT
    have g_13 := zeqF (rfl : (p1).toInt = _) (by decide : ((45 : Int32)).toInt = 45) c_1
    refine lv_iload_n hx hb dX2_readsShare_16 rfl (lv_at hl 1 rfl) ?_
    refine lv_bipush (v := (48 : Int32)) hx hb dX2_readsShare_17 (by decide) ?_
    refine lv_isub hx hb dX2_readsShare_19 ?_
    refine lv_topi (fun v1 ev1 => ?_)
    replace hT := cut_n ev1.symm hT
    try have fv1 := zsubE (rfl : (p1).toInt = _) (by decide : ((48 : Int32)).toInt = 48) ev1.symm (by omega) (by omega)
    refine lv_istore_n (lv' := [(2, .int v1), (0, .ref o), (1, .int p1)]) hx hb dX2_readsShare_20 rfl hl (by decide) rfl (fun ls hl => ?_)
    refine lv_iload_n hx hb dX2_readsShare_21 rfl (lv_at hl 0 rfl) ?_
    refine lv_aload_n hx hb dX2_readsShare_22 rfl (lv_at hl 1 rfl) ?_
    refine va_get (D := (dC, dI)) (ci := 2) (v := .ref o_read) (C := RX2) (T := TX2) (N := 2) hx hb hts hwX2 hown hK hP 0 rfl rfl 0 (by decide) hf_12 (fun _ h9 => h9) rfl dX2_readsShare_23 ?_
    refine va_get (D := (dC, dI)) (ci := 3) (v := .int vo_read_size) (C := RX3) (T := TX3) (N := 6) hx hb hts hwX3 hown hK hP 1 rfl rfl 5 (by decide) hf_18 (fun _ h9 => h9) rfl dX2_readsShare_26 ?_
    refine lv_icmp_lt (tgt := 53) hx hb dX2_readsShare_29 (by decide) (fun c_2 => ?_) (fun c_2 => ?_)
    · replace hT := cutT c_2 hT
      have g_14 := zltT (rfl : (v1).toInt = _) (rfl : (vo_read_size).toInt = _) c_2
      refine lv_iconst (v := (0 : Int32)) hx hb dX2_readsShare_53 (by decide) ?_
      have hP9 := hP
      have hD9 := hD
      have hS9 := hS
      have hT : ((0 : Int32), vo_read_shareCounts, vo_read_shares) = (r, qo_read_shareCounts, qo_read_shares) := hT
      cases hT
      subst hQ
      exact zz_zret hx hb hr rfl [0, 1, 2, 3] hK hP9 hD9 hS9 rfl rfl ⟨(Or.inl rfl), (by first | assumption | omega)⟩ hlocks dX2_readsShare_54
    · replace hT := cutF c_2 hT
      have g_15 := zltF (rfl : (v1).toInt = _) (rfl : (vo_read_size).toInt = _) c_2
      refine lv_iload_n hx hb dX2_readsShare_32 rfl (lv_at hl 0 rfl) ?_
      refine lv_bipush (v := (9 : Int32)) hx hb dX2_readsShare_33 (by decide) ?_
      refine lv_icmp_ge (tgt := 53) hx hb dX2_readsShare_35 (by decide) (fun c_3 => ?_) (fun c_3 => ?_)
      · replace hT := cutT c_3 hT
        have g_16 := zleT (by decide : ((9 : Int32)).toInt = 9) (rfl : (v1).toInt = _) c_3
        refine lv_iconst (v := (0 : Int32)) hx hb dX2_readsShare_53 (by decide) ?_
        have hP9 := hP
        have hD9 := hD
        have hS9 := hS
        have hT : ((0 : Int32), vo_read_shareCounts, vo_read_shares) = (r, qo_read_shareCounts, qo_read_shares) := hT
        cases hT
        subst hQ
        exact zz_zret hx hb hr rfl [0, 1, 2, 3] hK hP9 hD9 hS9 rfl rfl ⟨(Or.inl rfl), (by first | assumption | omega)⟩ hlocks dX2_readsShare_54
      · replace hT := cutF c_3 hT
        have g_17 := zleF (by decide : ((9 : Int32)).toInt = 9) (rfl : (v1).toInt = _) c_3
        refine lv_aload_n hx hb dX2_readsShare_38 rfl (lv_at hl 1 rfl) ?_
        refine va_get (D := (dC, dI)) (ci := 2) (v := .ref o_read) (C := RX2) (T := TX2) (N := 2) hx hb hts hwX2 hown hK hP 0 rfl rfl 0 (by decide) hf_12 (fun _ h9 => h9) rfl dX2_readsShare_39 ?_
        refine lv_iload_n hx hb dX2_readsShare_42 rfl (lv_at hl 0 rfl) ?_
        obtain ⟨r2, u3, u4, ev_4⟩ : ∃ x0 x1 x2, (m_X3_tellShare vo_read_size vo_read_shareCounts vo_read_shares v1) = (x0, x1, x2) := ⟨_, _, _, rfl⟩
        replace hT := cut3_n ev_4 hT
        refine zz_ci [1, 2, 3] [0] (wr := [(o, .inr (2, [.ref o_read, .int vo_place]))]) (w1 := [(o_read, .inr (3, [.ref o_read_kinds, .ref o_read_holds, .ref o_read_takes, .ref o_read_shareCounts, .ref o_read_shares, .int vo_read_size])), (o_read_shareCounts, .inl (cI, 9, .inl u3)), (o_read_shares, .inl (cI, 27, .inl u4))]) (va_runV (As := [.int v1]) (rest := []) ⟨hx, hb, hml, hown, hts⟩ (k_X3_tellShare l dC dI cI cJ cC H.size o_read o_read_kinds o_read_holds o_read_takes o_read_shareCounts o_read_shares vo_read_size vo_read_shareCounts vo_read_shares v1 r2 u3 u4 ev_4 hr0 hr9 hrc) (cwV 1 hts gX2_readsShare_X3_tellShare rfl rfl rfl (by decide +kernel) ⟨Nat.le_of_ble_eq_true rfl, Nat.le_of_ble_eq_true rfl⟩) (zz_preV [1, 2, 3] hK hP hD rfl rfl (va_recv hK hP (ci := 3) (q0 := 1) rfl rfl)) rfl rfl hl.1 rfl (lv_room (Nat.le_of_ble_eq_true rfl)) dX2_readsShare_43 ⟨Nat.zero_le _, Nat.zero_le _⟩) hP hD hS hA rfl rfl rfl (by decide) (fun ok_5 H locs hP hD hS => ?_)
        have hP : va_P (dC, dI) vwCl [(o, .inr (2, [.ref o_read, .int vo_place])), (o_read, .inr (3, [.ref o_read_kinds, .ref o_read_holds, .ref o_read_takes, .ref o_read_shareCounts, .ref o_read_shares, .int vo_read_size])), (o_read_shareCounts, .inl (cI, 9, .inl u3)), (o_read_shares, .inl (cI, 27, .inl u4))] H := hP
        have hD : va_D A [(o, .inr (2, [.ref o_read, .int vo_place])), (o_read, .inr (3, [.ref o_read_kinds, .ref o_read_holds, .ref o_read_takes, .ref o_read_shareCounts, .ref o_read_shares, .int vo_read_size])), (o_read_shareCounts, .inl (cI, 9, .inl u3)), (o_read_shares, .inl (cI, 27, .inl u4))] := hD
        obtain ⟨k_6, k_7⟩ := ok_5
        refine lv_if_eq (tgt := 53) hx hb dX2_readsShare_46 (by decide) (fun c_8 => ?_) (fun c_8 => ?_)
        · replace hT := cutT c_8 hT
          have g_18 := zeqT (rfl : (r2).toInt = _) (by decide : ((0 : Int32)).toInt = 0) c_8
          refine lv_iconst (v := (0 : Int32)) hx hb dX2_readsShare_53 (by decide) ?_
          have hP9 := hP
          have hD9 := hD
          have hS9 := hS
          have hT : ((0 : Int32), u3, u4) = (r, qo_read_shareCounts, qo_read_shares) := hT
          cases hT
          subst hQ
          exact zz_zret hx hb hr rfl [0, 1, 2, 3] hK hP9 hD9 hS9 rfl rfl ⟨(Or.inl rfl), (by first | assumption | omega)⟩ hlocks dX2_readsShare_54
        · replace hT := cutF c_8 hT
          have g_19 := zeqF (rfl : (r2).toInt = _) (by decide : ((0 : Int32)).toInt = 0) c_8
          refine lv_iconst (v := (1 : Int32)) hx hb dX2_readsShare_49 (by decide) ?_
          refine lv_goto (tgt := 54) hx hb dX2_readsShare_50 (by decide) ?_
          have hP9 := hP
          have hD9 := hD
          have hS9 := hS
          have hT : ((1 : Int32), u3, u4) = (r, qo_read_shareCounts, qo_read_shares) := hT
          cases hT
          subst hQ
          exact zz_zret hx hb hr rfl [0, 1, 2, 3] hK hP9 hD9 hS9 rfl rfl ⟨(Or.inr rfl), (by first | assumption | omega)⟩ hlocks dX2_readsShare_54
  · replace hT := cutT c_1 hT
    have g_20 := zeqT (rfl : (p1).toInt = _) (by decide : ((45 : Int32)).toInt = 45) c_1
    refine lv_aload_n hx hb dX2_readsShare_6 rfl (lv_at hl 0 rfl) ?_
    refine va_get (D := (dC, dI)) (ci := 2) (v := .ref o_read) (C := RX2) (T := TX2) (N := 2) hx hb hts hwX2 hown hK hP 0 rfl rfl 0 (by decide) hf_12 (fun _ h9 => h9) rfl dX2_readsShare_7 ?_
    refine lv_bipush (v := (9 : Int32)) hx hb dX2_readsShare_10 (by decide) ?_
    obtain ⟨r5, u6, u7, ev_9⟩ : ∃ x0 x1 x2, (m_X3_tellShare vo_read_size vo_read_shareCounts vo_read_shares (9 : Int32)) = (x0, x1, x2) := ⟨_, _, _, rfl⟩
    replace hT := cut3_n ev_9 hT
    refine zz_ci [1, 2, 3] [0] (wr := [(o, .inr (2, [.ref o_read, .int vo_place]))]) (w1 := [(o_read, .inr (3, [.ref o_read_kinds, .ref o_read_holds, .ref o_read_takes, .ref o_read_shareCounts, .ref o_read_shares, .int vo_read_size])), (o_read_shareCounts, .inl (cI, 9, .inl u6)), (o_read_shares, .inl (cI, 27, .inl u7))]) (va_runV (As := [.int (9 : Int32)]) (rest := []) ⟨hx, hb, hml, hown, hts⟩ (k_X3_tellShare l dC dI cI cJ cC H.size o_read o_read_kinds o_read_holds o_read_takes o_read_shareCounts o_read_shares vo_read_size vo_read_shareCounts vo_read_shares (9 : Int32) r5 u6 u7 ev_9 hr0 hr9 hrc) (cwV 1 hts gX2_readsShare_X3_tellShare rfl rfl rfl (by decide +kernel) ⟨Nat.le_of_ble_eq_true rfl, Nat.le_of_ble_eq_true rfl⟩) (zz_preV [1, 2, 3] hK hP hD rfl rfl (va_recv hK hP (ci := 3) (q0 := 1) rfl rfl)) rfl rfl hl.1 rfl (lv_room (Nat.le_of_ble_eq_true rfl)) dX2_readsShare_12 ⟨Nat.zero_le _, Nat.zero_le _⟩) hP hD hS hA rfl rfl rfl (by decide) (fun ok_10 H locs hP hD hS => ?_)
    have hP : va_P (dC, dI) vwCl [(o, .inr (2, [.ref o_read, .int vo_place])), (o_read, .inr (3, [.ref o_read_kinds, .ref o_read_holds, .ref o_read_takes, .ref o_read_shareCounts, .ref o_read_shares, .int vo_read_size])), (o_read_shareCounts, .inl (cI, 9, .inl u6)), (o_read_shares, .inl (cI, 27, .inl u7))] H := hP
    have hD : va_D A [(o, .inr (2, [.ref o_read, .int vo_place])), (o_read, .inr (3, [.ref o_read_kinds, .ref o_read_holds, .ref o_read_takes, .ref o_read_shareCounts, .ref o_read_shares, .int vo_read_size])), (o_read_shareCounts, .inl (cI, 9, .inl u6)), (o_read_shares, .inl (cI, 27, .inl u7))] := hD
    obtain ⟨k_11, k_12⟩ := ok_10
    have hP9 := hP
    have hD9 := hD
    have hS9 := hS
    have hT : (r5, u6, u7) = (r, qo_read_shareCounts, qo_read_shares) := hT
    cases hT
    subst hQ
    exact zz_zret hx hb hr (zB01.nar k_11) [0, 1, 2, 3] hK hP9 hD9 hS9 rfl rfl ⟨k_11, (by first | assumption | omega)⟩ hlocks dX2_readsShare_15

def m_X2_mayEndGlass (vo_place : Int32) (vo_read_size : Int32) (vo_read_shareCounts : Nat → Int32) : Int32 :=
 if vo_place = (2 : Int32) then
  (1 : Int32)
 else
  if vo_place = (3 : Int32) then
   cut (m_X3_lastShareCount vo_read_size vo_read_shareCounts) (fun (r1 : Int32) =>
   if r1 ≤ (0 : Int32) then
    (0 : Int32)
   else
    (1 : Int32))
  else
   (0 : Int32)
set_option maxHeartbeats 4000000 in
set_option maxRecDepth 100000 in
theorem k_X2_mayEndGlass (l : Launch) (dC : Nat → ClassId) (dI : Nat → Nat → Nat) (cI cJ cC : ClassId) (sz : Nat) (o o_read o_read_kinds o_read_holds o_read_takes o_read_shareCounts o_read_shares : Nat) (vo_place : Int32) (vo_read_size : Int32) (vo_read_shareCounts : Nat → Int32) (r : Int32) (hT : m_X2_mayEndGlass vo_place vo_read_size vo_read_shareCounts = r) (hr9 : vo_read_size.toInt ≤ 9) (hrc : zSc vo_read_shareCounts) : Met l yX2_mayEndGlass wsX2_mayEndGlass ({ frames := 1, cells := 0, slots := 0, locals := 20 }) (zPc [.ref o] (dC, dI) (zTy cI cJ cC) [(o, .inr (2, [.ref o_read, .int vo_place])), (o_read, .inr (3, [.ref o_read_kinds, .ref o_read_holds, .ref o_read_takes, .ref o_read_shareCounts, .ref o_read_shares, .int vo_read_size])), (o_read_shareCounts, .inl (cI, 9, .inl vo_read_shareCounts))] sz) (zQi r ((zB01 r)) (dC, dI) (zTy cI cJ cC) [(o, .inr (2, [.ref o_read, .int vo_place])), (o_read, .inr (3, [.ref o_read_kinds, .ref o_read_holds, .ref o_read_takes, .ref o_read_shareCounts, .ref o_read_shares, .int vo_read_size])), (o_read_shareCounts, .inl (cI, 9, .inl vo_read_shareCounts))] (va_A [(o, .inr (2, [.ref o_read, .int vo_place])), (o_read, .inr (3, [.ref o_read_kinds, .ref o_read_holds, .ref o_read_takes, .ref o_read_shareCounts, .ref o_read_shares, .int vo_read_size])), (o_read_shareCounts, .inl (cI, 9, .inl vo_read_shareCounts))] sz)) 0 0 (va_A [(o, .inr (2, [.ref o_read, .int vo_place])), (o_read, .inr (3, [.ref o_read_kinds, .ref o_read_holds, .ref o_read_takes, .ref o_read_shareCounts, .ref o_read_shares, .int vo_read_size])), (o_read_shareCounts, .inl (cI, 9, .inl vo_read_shareCounts))] sz) := by
  refine Met.ofW (cc := cX2_mayEndGlass) (maxL := 1) (ret := (some .boolean)) (by decide) rfl ?_
  intro p e s m args below meth c s₁ B hml hv
  obtain ⟨rfl, hsz, hP, hK, hD0⟩ := hv
  have hx := B.exec
  have hb := B.bytes
  have hr := B.returns
  have hts := atoms_spec (ws := wsX2_mayEndGlass) B.pre
  have hown : s.vm.findClass RX2 = some m.cls := findClass_of_methodNamed B.named
  have hlocks := B.notSynchronized
  subst hsz
  have hD := hD0.self (sz := s.heap.size)
  generalize hAe : va_A [(o, .inr (2, [.ref o_read, .int vo_place])), (o_read, .inr (3, [.ref o_read_kinds, .ref o_read_holds, .ref o_read_takes, .ref o_read_shareCounts, .ref o_read_shares, .int vo_read_size])), (o_read_shareCounts, .inl (cI, 9, .inl vo_read_shareCounts))] s.heap.size = A at hD ⊢
  have hA : ∀ q : Nat, s.heap.size ≤ q → A q := fun q h => by rw [← hAe]; exact Or.inr h
  have hS : va_S A s.heap s.heap [] := va_S.rf
  have hP : va_P (dC, dI) vwCl [(o, .inr (2, [.ref o_read, .int vo_place])), (o_read, .inr (3, [.ref o_read_kinds, .ref o_read_holds, .ref o_read_takes, .ref o_read_shareCounts, .ref o_read_shares, .int vo_read_size])), (o_read_shareCounts, .inl (cI, 9, .inl vo_read_shareCounts))] s.heap := hP
  have hK : va_K (dC, dI) vwCl (zTy cI cJ cC) s := hK
  have hl := lv_entry ([.ref o]) (n := 1) (Nat.le_of_ble_eq_true rfl)
  rw [lg_entry_eq]
  generalize (lg_sl ([.ref o]) ++ List.replicate (1 - (lg_sl ([.ref o])).length) Slot.unset).toArray = ls at hl ⊢
  have hl : lv_has ls 1 [(0, .ref o)] := hl
  refine zz_start hP hS (fun Q hQ H locs hP hS => ?_)
  have hwX2 : ∀ w ∈ u_ws RX2 TX2 2, w ∈ wsX2_mayEndGlass := by decide +kernel
  have hf_12 := (hts (.fieldLink RX2 12 "PouredTopmost$Reader" "read" "LPouredTopmost$Stand;") (by decide +kernel))
  have hf_26 := (hts (.fieldLink RX2 26 "PouredTopmost$Reader" "place" "I") (by decide +kernel))
  refine lv_aload_n hx hb dX2_mayEndGlass_0 rfl (lv_at hl 0 rfl) ?_
  refine va_get (D := (dC, dI)) (ci := 2) (v := .int vo_place) (C := RX2) (T := TX2) (N := 2) hx hb hts hwX2 hown hK hP 0 rfl rfl 1 (by decide) hf_26 (fun _ h9 => h9) rfl dX2_mayEndGlass_1 ?_
  refine lv_iconst (v := (2 : Int32)) hx hb dX2_mayEndGlass_4 (by decide) ?_
  refine lv_icmp_eq (tgt := 26) hx hb dX2_mayEndGlass_5 (by decide) (fun c_1 => ?_) (fun c_1 => ?_)
  · replace hT := cutT c_1 hT
    have g_9 := zeqT (rfl : (vo_place).toInt = _) (by decide : ((2 : Int32)).toInt = 2) c_1
    refine lv_iconst (v := (1 : Int32)) hx hb dX2_mayEndGlass_26 (by decide) ?_
    refine lv_goto (tgt := 31) hx hb dX2_mayEndGlass_27 (by decide) ?_
    have hP9 := hP
    have hD9 := hD
    have hS9 := hS
    have hT : (1 : Int32) = r := hT
    subst hT
    subst hQ
    exact zz_zret hx hb hr rfl [0, 1, 2] hK hP9 hD9 hS9 rfl rfl (Or.inr rfl) hlocks dX2_mayEndGlass_31
  · replace hT := cutF c_1 hT
    have g_10 := zeqF (rfl : (vo_place).toInt = _) (by decide : ((2 : Int32)).toInt = 2) c_1
    refine lv_aload_n hx hb dX2_mayEndGlass_8 rfl (lv_at hl 0 rfl) ?_
    refine va_get (D := (dC, dI)) (ci := 2) (v := .int vo_place) (C := RX2) (T := TX2) (N := 2) hx hb hts hwX2 hown hK hP 0 rfl rfl 1 (by decide) hf_26 (fun _ h9 => h9) rfl dX2_mayEndGlass_9 ?_
    refine lv_iconst (v := (3 : Int32)) hx hb dX2_mayEndGlass_12 (by decide) ?_
    refine lv_icmp_ne (tgt := 30) hx hb dX2_mayEndGlass_13 (by decide) (fun c_2 => ?_) (fun c_2 => ?_)
    · replace hT := cutF c_2 hT
      have g_11 := zeqF (rfl : (vo_place).toInt = _) (by decide : ((3 : Int32)).toInt = 3) c_2
      refine lv_iconst (v := (0 : Int32)) hx hb dX2_mayEndGlass_30 (by decide) ?_
      have hP9 := hP
      have hD9 := hD
      have hS9 := hS
      have hT : (0 : Int32) = r := hT
      subst hT
      subst hQ
      exact zz_zret hx hb hr rfl [0, 1, 2] hK hP9 hD9 hS9 rfl rfl (Or.inl rfl) hlocks dX2_mayEndGlass_31
    · replace hT := cutT c_2 hT
      have g_12 := zeqT (rfl : (vo_place).toInt = _) (by decide : ((3 : Int32)).toInt = 3) c_2
      refine lv_aload_n hx hb dX2_mayEndGlass_16 rfl (lv_at hl 0 rfl) ?_
      refine va_get (D := (dC, dI)) (ci := 2) (v := .ref o_read) (C := RX2) (T := TX2) (N := 2) hx hb hts hwX2 hown hK hP 0 rfl rfl 0 (by decide) hf_12 (fun _ h9 => h9) rfl dX2_mayEndGlass_17 ?_
      obtain ⟨r1, ev_3⟩ : ∃ x0, (m_X3_lastShareCount vo_read_size vo_read_shareCounts) = x0 := ⟨_, rfl⟩
      replace hT := cut_n ev_3 hT
      refine zz_ci [1, 2] [0] (wr := [(o, .inr (2, [.ref o_read, .int vo_place]))]) (w1 := [(o_read, .inr (3, [.ref o_read_kinds, .ref o_read_holds, .ref o_read_takes, .ref o_read_shareCounts, .ref o_read_shares, .int vo_read_size])), (o_read_shareCounts, .inl (cI, 9, .inl vo_read_shareCounts))]) (va_runV (As := []) (rest := []) ⟨hx, hb, hml, hown, hts⟩ (k_X3_lastShareCount l dC dI cI cJ cC H.size o_read o_read_kinds o_read_holds o_read_takes o_read_shareCounts o_read_shares vo_read_size vo_read_shareCounts r1 ev_3 hr9 hrc) (cwV 0 hts gX2_mayEndGlass_X3_lastShareCount rfl rfl rfl (by decide +kernel) ⟨Nat.le_of_ble_eq_true rfl, Nat.le_of_ble_eq_true rfl⟩) (zz_preV [1, 2] hK hP hD rfl rfl (va_recv hK hP (ci := 3) (q0 := 1) rfl rfl)) rfl rfl hl.1 rfl (lv_room (Nat.le_of_ble_eq_true rfl)) dX2_mayEndGlass_20 ⟨Nat.zero_le _, Nat.zero_le _⟩) hP hD hS hA rfl rfl rfl (by decide) (fun ok_4 H locs hP hD hS => ?_)
      have hP : va_P (dC, dI) vwCl [(o, .inr (2, [.ref o_read, .int vo_place])), (o_read, .inr (3, [.ref o_read_kinds, .ref o_read_holds, .ref o_read_takes, .ref o_read_shareCounts, .ref o_read_shares, .int vo_read_size])), (o_read_shareCounts, .inl (cI, 9, .inl vo_read_shareCounts))] H := hP
      have hD : va_D A [(o, .inr (2, [.ref o_read, .int vo_place])), (o_read, .inr (3, [.ref o_read_kinds, .ref o_read_holds, .ref o_read_takes, .ref o_read_shareCounts, .ref o_read_shares, .int vo_read_size])), (o_read_shareCounts, .inl (cI, 9, .inl vo_read_shareCounts))] := hD
      obtain ⟨k_5, k_6, k_7⟩ := ok_4
      refine lv_if_le (tgt := 30) hx hb dX2_mayEndGlass_23 (by decide) (fun c_8 => ?_) (fun c_8 => ?_)
      · replace hT := cutT c_8 hT
        have g_13 := zleT (rfl : (r1).toInt = _) (by decide : ((0 : Int32)).toInt = 0) c_8
        refine lv_iconst (v := (0 : Int32)) hx hb dX2_mayEndGlass_30 (by decide) ?_
        have hP9 := hP
        have hD9 := hD
        have hS9 := hS
        have hT : (0 : Int32) = r := hT
        subst hT
        subst hQ
        exact zz_zret hx hb hr rfl [0, 1, 2] hK hP9 hD9 hS9 rfl rfl (Or.inl rfl) hlocks dX2_mayEndGlass_31
      · replace hT := cutF c_8 hT
        have g_14 := zleF (rfl : (r1).toInt = _) (by decide : ((0 : Int32)).toInt = 0) c_8
        refine lv_iconst (v := (1 : Int32)) hx hb dX2_mayEndGlass_26 (by decide) ?_
        refine lv_goto (tgt := 31) hx hb dX2_mayEndGlass_27 (by decide) ?_
        have hP9 := hP
        have hD9 := hD
        have hS9 := hS
        have hT : (1 : Int32) = r := hT
        subst hT
        subst hQ
        exact zz_zret hx hb hr rfl [0, 1, 2] hK hP9 hD9 hS9 rfl rfl (Or.inr rfl) hlocks dX2_mayEndGlass_31

def m_X2_readsNext (vo_place : Int32) (vo_read_size : Int32) (vo_read_kinds : Nat → Int32) (vo_read_shareCounts : Nat → Int32) (p1 : Int32) : Int32 × Int32 × Int32 × (Nat → Int32) × (Nat → Int32) :=
 if p1 = (47 : Int32) then
  cut4 (m_X3_putGlass vo_read_size vo_read_kinds vo_read_shareCounts) (fun (r1 : Int32) (u2 : Int32) (u3 : Nat → Int32) (u4 : Nat → Int32) =>
  if r1 = (0 : Int32) then
   ((0 : Int32), vo_place, u2, u3, u4)
  else
   ((1 : Int32), (0 : Int32), u2, u3, u4))
 else
  ((0 : Int32), vo_place, vo_read_size, vo_read_kinds, vo_read_shareCounts)
set_option maxHeartbeats 4000000 in
set_option maxRecDepth 100000 in
theorem k_X2_readsNext (l : Launch) (dC : Nat → ClassId) (dI : Nat → Nat → Nat) (cI cJ cC : ClassId) (sz : Nat) (o o_read o_read_kinds o_read_holds o_read_takes o_read_shareCounts o_read_shares : Nat) (vo_place : Int32) (vo_read_size : Int32) (vo_read_kinds : Nat → Int32) (vo_read_shareCounts : Nat → Int32) (p1 : Int32) (r : Int32) (qo_place : Int32) (qo_read_size : Int32) (qo_read_kinds : Nat → Int32) (qo_read_shareCounts : Nat → Int32) (hT : m_X2_readsNext vo_place vo_read_size vo_read_kinds vo_read_shareCounts p1 = (r, qo_place, qo_read_size, qo_read_kinds, qo_read_shareCounts)) (hr0 : 0 ≤ vo_read_size.toInt) (hr9 : vo_read_size.toInt ≤ 9) (hrc : zSc vo_read_shareCounts) : Met l yX2_readsNext wsX2_readsNext ({ frames := 1, cells := 0, slots := 0, locals := 20 }) (zPc [.ref o, .int p1] (dC, dI) (zTy cI cJ cC) [(o, .inr (2, [.ref o_read, .int vo_place])), (o_read, .inr (3, [.ref o_read_kinds, .ref o_read_holds, .ref o_read_takes, .ref o_read_shareCounts, .ref o_read_shares, .int vo_read_size])), (o_read_kinds, .inl (cI, 9, .inl vo_read_kinds)), (o_read_shareCounts, .inl (cI, 9, .inl vo_read_shareCounts))] sz) (zQi r ((zB01 r) ∧ (0 ≤ qo_read_size.toInt) ∧ (qo_read_size.toInt ≤ 9) ∧ (zSc qo_read_shareCounts)) (dC, dI) (zTy cI cJ cC) [(o, .inr (2, [.ref o_read, .int qo_place])), (o_read, .inr (3, [.ref o_read_kinds, .ref o_read_holds, .ref o_read_takes, .ref o_read_shareCounts, .ref o_read_shares, .int qo_read_size])), (o_read_kinds, .inl (cI, 9, .inl qo_read_kinds)), (o_read_shareCounts, .inl (cI, 9, .inl qo_read_shareCounts))] (va_A [(o, .inr (2, [.ref o_read, .int vo_place])), (o_read, .inr (3, [.ref o_read_kinds, .ref o_read_holds, .ref o_read_takes, .ref o_read_shareCounts, .ref o_read_shares, .int vo_read_size])), (o_read_kinds, .inl (cI, 9, .inl vo_read_kinds)), (o_read_shareCounts, .inl (cI, 9, .inl vo_read_shareCounts))] sz)) 0 0 (va_A [(o, .inr (2, [.ref o_read, .int vo_place])), (o_read, .inr (3, [.ref o_read_kinds, .ref o_read_holds, .ref o_read_takes, .ref o_read_shareCounts, .ref o_read_shares, .int vo_read_size])), (o_read_kinds, .inl (cI, 9, .inl vo_read_kinds)), (o_read_shareCounts, .inl (cI, 9, .inl vo_read_shareCounts))] sz) := by
  refine Met.ofW (cc := cX2_readsNext) (maxL := 2) (ret := (some .boolean)) (by decide) rfl ?_
  intro p e s m args below meth c s₁ B hml hv
  obtain ⟨rfl, hsz, hP, hK, hD0⟩ := hv
  have hx := B.exec
  have hb := B.bytes
  have hr := B.returns
  have hts := atoms_spec (ws := wsX2_readsNext) B.pre
  have hown : s.vm.findClass RX2 = some m.cls := findClass_of_methodNamed B.named
  have hlocks := B.notSynchronized
  subst hsz
  have hD := hD0.self (sz := s.heap.size)
  generalize hAe : va_A [(o, .inr (2, [.ref o_read, .int vo_place])), (o_read, .inr (3, [.ref o_read_kinds, .ref o_read_holds, .ref o_read_takes, .ref o_read_shareCounts, .ref o_read_shares, .int vo_read_size])), (o_read_kinds, .inl (cI, 9, .inl vo_read_kinds)), (o_read_shareCounts, .inl (cI, 9, .inl vo_read_shareCounts))] s.heap.size = A at hD ⊢
  have hA : ∀ q : Nat, s.heap.size ≤ q → A q := fun q h => by rw [← hAe]; exact Or.inr h
  have hS : va_S A s.heap s.heap [] := va_S.rf
  have hP : va_P (dC, dI) vwCl [(o, .inr (2, [.ref o_read, .int vo_place])), (o_read, .inr (3, [.ref o_read_kinds, .ref o_read_holds, .ref o_read_takes, .ref o_read_shareCounts, .ref o_read_shares, .int vo_read_size])), (o_read_kinds, .inl (cI, 9, .inl vo_read_kinds)), (o_read_shareCounts, .inl (cI, 9, .inl vo_read_shareCounts))] s.heap := hP
  have hK : va_K (dC, dI) vwCl (zTy cI cJ cC) s := hK
  have hl := lv_entry ([.ref o, .int p1]) (n := 2) (Nat.le_of_ble_eq_true rfl)
  rw [lg_entry_eq]
  generalize (lg_sl ([.ref o, .int p1]) ++ List.replicate (2 - (lg_sl ([.ref o, .int p1])).length) Slot.unset).toArray = ls at hl ⊢
  have hl : lv_has ls 2 [(0, .ref o), (1, .int p1)] := hl
  refine zz_start hP hS (fun Q hQ H locs hP hS => ?_)
  have hwX2 : ∀ w ∈ u_ws RX2 TX2 2, w ∈ wsX2_readsNext := by decide +kernel
  have hf_12 := (hts (.fieldLink RX2 12 "PouredTopmost$Reader" "read" "LPouredTopmost$Stand;") (by decide +kernel))
  have hf_26 := (hts (.fieldLink RX2 26 "PouredTopmost$Reader" "place" "I") (by decide +kernel))
  refine lv_iload_n hx hb dX2_readsNext_0 rfl (lv_at hl 1 rfl) ?_
  refine lv_bipush (v := (47 : Int32)) hx hb dX2_readsNext_1 (by decide) ?_
  refine lv_icmp_ne (tgt := 16) hx hb dX2_readsNext_3 (by decide) (fun c_1 => ?_) (fun c_1 => ?_)
  · replace hT := cutF c_1 hT
    have g_9 := zeqF (rfl : (p1).toInt = _) (by decide : ((47 : Int32)).toInt = 47) c_1
    refine lv_iconst (v := (0 : Int32)) hx hb dX2_readsNext_16 (by decide) ?_
    have hP9 := hP
    have hD9 := hD
    have hS9 := hS
    have hT : ((0 : Int32), vo_place, vo_read_size, vo_read_kinds, vo_read_shareCounts) = (r, qo_place, qo_read_size, qo_read_kinds, qo_read_shareCounts) := hT
    cases hT
    subst hQ
    exact zz_zret hx hb hr rfl [0, 1, 2, 3] hK hP9 hD9 hS9 rfl rfl ⟨(Or.inl rfl), (by first | assumption | omega), (by first | assumption | omega), (by first | assumption | omega)⟩ hlocks dX2_readsNext_17
  · replace hT := cutT c_1 hT
    have g_10 := zeqT (rfl : (p1).toInt = _) (by decide : ((47 : Int32)).toInt = 47) c_1
    refine lv_aload_n hx hb dX2_readsNext_6 rfl (lv_at hl 0 rfl) ?_
    refine va_get (D := (dC, dI)) (ci := 2) (v := .ref o_read) (C := RX2) (T := TX2) (N := 2) hx hb hts hwX2 hown hK hP 0 rfl rfl 0 (by decide) hf_12 (fun _ h9 => h9) rfl dX2_readsNext_7 ?_
    obtain ⟨r1, u2, u3, u4, ev_2⟩ : ∃ x0 x1 x2 x3, (m_X3_putGlass vo_read_size vo_read_kinds vo_read_shareCounts) = (x0, x1, x2, x3) := ⟨_, _, _, _, rfl⟩
    replace hT := cut4_n ev_2 hT
    refine zz_ci [1, 2, 3] [0] (wr := [(o, .inr (2, [.ref o_read, .int vo_place]))]) (w1 := [(o_read, .inr (3, [.ref o_read_kinds, .ref o_read_holds, .ref o_read_takes, .ref o_read_shareCounts, .ref o_read_shares, .int u2])), (o_read_kinds, .inl (cI, 9, .inl u3)), (o_read_shareCounts, .inl (cI, 9, .inl u4))]) (va_runV (As := []) (rest := []) ⟨hx, hb, hml, hown, hts⟩ (k_X3_putGlass l dC dI cI cJ cC H.size o_read o_read_kinds o_read_holds o_read_takes o_read_shareCounts o_read_shares vo_read_size vo_read_kinds vo_read_shareCounts r1 u2 u3 u4 ev_2 hr0 hr9 hrc) (cwV 0 hts gX2_readsNext_X3_putGlass rfl rfl rfl (by decide +kernel) ⟨Nat.le_of_ble_eq_true rfl, Nat.le_of_ble_eq_true rfl⟩) (zz_preV [1, 2, 3] hK hP hD rfl rfl (va_recv hK hP (ci := 3) (q0 := 1) rfl rfl)) rfl rfl hl.1 rfl (lv_room (Nat.le_of_ble_eq_true rfl)) dX2_readsNext_10 ⟨Nat.zero_le _, Nat.zero_le _⟩) hP hD hS hA rfl rfl rfl (by decide) (fun ok_3 H locs hP hD hS => ?_)
    have hP : va_P (dC, dI) vwCl [(o, .inr (2, [.ref o_read, .int vo_place])), (o_read, .inr (3, [.ref o_read_kinds, .ref o_read_holds, .ref o_read_takes, .ref o_read_shareCounts, .ref o_read_shares, .int u2])), (o_read_kinds, .inl (cI, 9, .inl u3)), (o_read_shareCounts, .inl (cI, 9, .inl u4))] H := hP
    have hD : va_D A [(o, .inr (2, [.ref o_read, .int vo_place])), (o_read, .inr (3, [.ref o_read_kinds, .ref o_read_holds, .ref o_read_takes, .ref o_read_shareCounts, .ref o_read_shares, .int u2])), (o_read_kinds, .inl (cI, 9, .inl u3)), (o_read_shareCounts, .inl (cI, 9, .inl u4))] := hD
    obtain ⟨k_4, k_5, k_6, k_7⟩ := ok_3
    refine lv_if_ne (tgt := 18) hx hb dX2_readsNext_13 (by decide) (fun c_8 => ?_) (fun c_8 => ?_)
    · replace hT := cutF c_8 hT
      have g_11 := zeqF (rfl : (r1).toInt = _) (by decide : ((0 : Int32)).toInt = 0) c_8
      refine lv_aload_n hx hb dX2_readsNext_18 rfl (lv_at hl 0 rfl) ?_
      refine lv_iconst (v := (0 : Int32)) hx hb dX2_readsNext_19 (by decide) ?_
      refine va_put (D := (dC, dI)) (ci := 2) (v := .int (0 : Int32)) (ty := .int) (C := RX2) (T := TX2) (N := 2) hx hb hts hwX2 tyX2 tyX2_ok nmX2 hown hK hP hD hS 0 rfl rfl 1 (by decide) hf_26 (fun _ h9 => h9) rfl (by decide +kernel) rfl rfl (Nat.le_of_ble_eq_true rfl) dX2_readsNext_20 (fun H locs hP hD hS => ?_)
      have hP : va_P (dC, dI) vwCl [(o, .inr (2, [.ref o_read, .int (0 : Int32)])), (o_read, .inr (3, [.ref o_read_kinds, .ref o_read_holds, .ref o_read_takes, .ref o_read_shareCounts, .ref o_read_shares, .int u2])), (o_read_kinds, .inl (cI, 9, .inl u3)), (o_read_shareCounts, .inl (cI, 9, .inl u4))] H := hP
      have hD : va_D A [(o, .inr (2, [.ref o_read, .int (0 : Int32)])), (o_read, .inr (3, [.ref o_read_kinds, .ref o_read_holds, .ref o_read_takes, .ref o_read_shareCounts, .ref o_read_shares, .int u2])), (o_read_kinds, .inl (cI, 9, .inl u3)), (o_read_shareCounts, .inl (cI, 9, .inl u4))] := hD
      refine lv_iconst (v := (1 : Int32)) hx hb dX2_readsNext_23 (by decide) ?_
      have hP9 := hP
      have hD9 := hD
      have hS9 := hS
      have hT : ((1 : Int32), (0 : Int32), u2, u3, u4) = (r, qo_place, qo_read_size, qo_read_kinds, qo_read_shareCounts) := hT
      cases hT
      subst hQ
      exact zz_zret hx hb hr rfl [0, 1, 2, 3] hK hP9 hD9 hS9 rfl rfl ⟨(Or.inr rfl), (by first | assumption | omega), (by first | assumption | omega), (by first | assumption | omega)⟩ hlocks dX2_readsNext_24
    · replace hT := cutT c_8 hT
      have g_12 := zeqT (rfl : (r1).toInt = _) (by decide : ((0 : Int32)).toInt = 0) c_8
      refine lv_iconst (v := (0 : Int32)) hx hb dX2_readsNext_16 (by decide) ?_
      have hP9 := hP
      have hD9 := hD
      have hS9 := hS
      have hT : ((0 : Int32), vo_place, u2, u3, u4) = (r, qo_place, qo_read_size, qo_read_kinds, qo_read_shareCounts) := hT
      cases hT
      subst hQ
      exact zz_zret hx hb hr rfl [0, 1, 2, 3] hK hP9 hD9 hS9 rfl rfl ⟨(Or.inl rfl), (by first | assumption | omega), (by first | assumption | omega), (by first | assumption | omega)⟩ hlocks dX2_readsNext_17

def m_X2_start (vo_read_kinds : Nat → Int32) (vo_read_shareCounts : Nat → Int32) : Int32 × Int32 × (Nat → Int32) × (Nat → Int32) :=
 cut4 (m_X3_putGlass (0 : Int32) vo_read_kinds vo_read_shareCounts) (fun (r1 : Int32) (u2 : Int32) (u3 : Nat → Int32) (u4 : Nat → Int32) =>
 ((0 : Int32), u2, u3, u4))
set_option maxHeartbeats 4000000 in
set_option maxRecDepth 100000 in
theorem k_X2_start (l : Launch) (dC : Nat → ClassId) (dI : Nat → Nat → Nat) (cI cJ cC : ClassId) (sz : Nat) (o o_read o_read_kinds o_read_holds o_read_takes o_read_shareCounts o_read_shares : Nat) (vo_place : Int32) (vo_read_size : Int32) (vo_read_kinds : Nat → Int32) (vo_read_shareCounts : Nat → Int32) (qo_place : Int32) (qo_read_size : Int32) (qo_read_kinds : Nat → Int32) (qo_read_shareCounts : Nat → Int32) (hT : m_X2_start vo_read_kinds vo_read_shareCounts = (qo_place, qo_read_size, qo_read_kinds, qo_read_shareCounts)) (hrc : zSc vo_read_shareCounts) : Met l yX2_start wsX2_start ({ frames := 1, cells := 0, slots := 0, locals := 20 }) (zPc [.ref o] (dC, dI) (zTy cI cJ cC) [(o, .inr (2, [.ref o_read, .int vo_place])), (o_read, .inr (3, [.ref o_read_kinds, .ref o_read_holds, .ref o_read_takes, .ref o_read_shareCounts, .ref o_read_shares, .int vo_read_size])), (o_read_kinds, .inl (cI, 9, .inl vo_read_kinds)), (o_read_shareCounts, .inl (cI, 9, .inl vo_read_shareCounts))] sz) (zQv ((0 ≤ qo_read_size.toInt) ∧ (qo_read_size.toInt ≤ 9) ∧ (zSc qo_read_shareCounts)) (dC, dI) (zTy cI cJ cC) [(o, .inr (2, [.ref o_read, .int qo_place])), (o_read, .inr (3, [.ref o_read_kinds, .ref o_read_holds, .ref o_read_takes, .ref o_read_shareCounts, .ref o_read_shares, .int qo_read_size])), (o_read_kinds, .inl (cI, 9, .inl qo_read_kinds)), (o_read_shareCounts, .inl (cI, 9, .inl qo_read_shareCounts))] (va_A [(o, .inr (2, [.ref o_read, .int vo_place])), (o_read, .inr (3, [.ref o_read_kinds, .ref o_read_holds, .ref o_read_takes, .ref o_read_shareCounts, .ref o_read_shares, .int vo_read_size])), (o_read_kinds, .inl (cI, 9, .inl vo_read_kinds)), (o_read_shareCounts, .inl (cI, 9, .inl vo_read_shareCounts))] sz)) 0 0 (va_A [(o, .inr (2, [.ref o_read, .int vo_place])), (o_read, .inr (3, [.ref o_read_kinds, .ref o_read_holds, .ref o_read_takes, .ref o_read_shareCounts, .ref o_read_shares, .int vo_read_size])), (o_read_kinds, .inl (cI, 9, .inl vo_read_kinds)), (o_read_shareCounts, .inl (cI, 9, .inl vo_read_shareCounts))] sz) := by
  refine Met.ofW (cc := cX2_start) (maxL := 1) (ret := none) (by decide) rfl ?_
  intro p e s m args below meth c s₁ B hml hv
  obtain ⟨rfl, hsz, hP, hK, hD0⟩ := hv
  have hx := B.exec
  have hb := B.bytes
  have hr := B.returns
  have hts := atoms_spec (ws := wsX2_start) B.pre
  have hown : s.vm.findClass RX2 = some m.cls := findClass_of_methodNamed B.named
  have hlocks := B.notSynchronized
  subst hsz
  have hD := hD0.self (sz := s.heap.size)
  generalize hAe : va_A [(o, .inr (2, [.ref o_read, .int vo_place])), (o_read, .inr (3, [.ref o_read_kinds, .ref o_read_holds, .ref o_read_takes, .ref o_read_shareCounts, .ref o_read_shares, .int vo_read_size])), (o_read_kinds, .inl (cI, 9, .inl vo_read_kinds)), (o_read_shareCounts, .inl (cI, 9, .inl vo_read_shareCounts))] s.heap.size = A at hD ⊢
  have hA : ∀ q : Nat, s.heap.size ≤ q → A q := fun q h => by rw [← hAe]; exact Or.inr h
  have hS : va_S A s.heap s.heap [] := va_S.rf
  have hP : va_P (dC, dI) vwCl [(o, .inr (2, [.ref o_read, .int vo_place])), (o_read, .inr (3, [.ref o_read_kinds, .ref o_read_holds, .ref o_read_takes, .ref o_read_shareCounts, .ref o_read_shares, .int vo_read_size])), (o_read_kinds, .inl (cI, 9, .inl vo_read_kinds)), (o_read_shareCounts, .inl (cI, 9, .inl vo_read_shareCounts))] s.heap := hP
  have hK : va_K (dC, dI) vwCl (zTy cI cJ cC) s := hK
  have hl := lv_entry ([.ref o]) (n := 1) (Nat.le_of_ble_eq_true rfl)
  rw [lg_entry_eq]
  generalize (lg_sl ([.ref o]) ++ List.replicate (1 - (lg_sl ([.ref o])).length) Slot.unset).toArray = ls at hl ⊢
  have hl : lv_has ls 1 [(0, .ref o)] := hl
  refine zz_start hP hS (fun Q hQ H locs hP hS => ?_)
  have hwX2 : ∀ w ∈ u_ws RX2 TX2 2, w ∈ wsX2_start := by decide +kernel
  have hwX3 : ∀ w ∈ u_ws RX3 TX3 6, w ∈ wsX2_start := by decide +kernel
  have hf_12 := (hts (.fieldLink RX2 12 "PouredTopmost$Reader" "read" "LPouredTopmost$Stand;") (by decide +kernel))
  have hf_18 := (hts (.fieldLink RX2 18 "PouredTopmost$Stand" "size" "I") (by decide +kernel))
  have hf_26 := (hts (.fieldLink RX2 26 "PouredTopmost$Reader" "place" "I") (by decide +kernel))
  refine lv_aload_n hx hb dX2_start_0 rfl (lv_at hl 0 rfl) ?_
  refine va_get (D := (dC, dI)) (ci := 2) (v := .ref o_read) (C := RX2) (T := TX2) (N := 2) hx hb hts hwX2 hown hK hP 0 rfl rfl 0 (by decide) hf_12 (fun _ h9 => h9) rfl dX2_start_1 ?_
  refine lv_iconst (v := (0 : Int32)) hx hb dX2_start_4 (by decide) ?_
  refine va_put (D := (dC, dI)) (ci := 3) (v := .int (0 : Int32)) (ty := .int) (C := RX3) (T := TX3) (N := 6) hx hb hts hwX3 tyX3 tyX3_ok nmX3 hown hK hP hD hS 1 rfl rfl 5 (by decide) hf_18 (fun _ h9 => h9) rfl (by decide +kernel) rfl rfl (Nat.le_of_ble_eq_true rfl) dX2_start_5 (fun H locs hP hD hS => ?_)
  have hP : va_P (dC, dI) vwCl [(o, .inr (2, [.ref o_read, .int vo_place])), (o_read, .inr (3, [.ref o_read_kinds, .ref o_read_holds, .ref o_read_takes, .ref o_read_shareCounts, .ref o_read_shares, .int (0 : Int32)])), (o_read_kinds, .inl (cI, 9, .inl vo_read_kinds)), (o_read_shareCounts, .inl (cI, 9, .inl vo_read_shareCounts))] H := hP
  have hD : va_D A [(o, .inr (2, [.ref o_read, .int vo_place])), (o_read, .inr (3, [.ref o_read_kinds, .ref o_read_holds, .ref o_read_takes, .ref o_read_shareCounts, .ref o_read_shares, .int (0 : Int32)])), (o_read_kinds, .inl (cI, 9, .inl vo_read_kinds)), (o_read_shareCounts, .inl (cI, 9, .inl vo_read_shareCounts))] := hD
  refine lv_aload_n hx hb dX2_start_8 rfl (lv_at hl 0 rfl) ?_
  refine va_get (D := (dC, dI)) (ci := 2) (v := .ref o_read) (C := RX2) (T := TX2) (N := 2) hx hb hts hwX2 hown hK hP 0 rfl rfl 0 (by decide) hf_12 (fun _ h9 => h9) rfl dX2_start_9 ?_
  obtain ⟨r1, u2, u3, u4, ev_1⟩ : ∃ x0 x1 x2 x3, (m_X3_putGlass (0 : Int32) vo_read_kinds vo_read_shareCounts) = (x0, x1, x2, x3) := ⟨_, _, _, _, rfl⟩
  replace hT := cut4_n ev_1 hT
  refine zz_ci [1, 2, 3] [0] (wr := [(o, .inr (2, [.ref o_read, .int vo_place]))]) (w1 := [(o_read, .inr (3, [.ref o_read_kinds, .ref o_read_holds, .ref o_read_takes, .ref o_read_shareCounts, .ref o_read_shares, .int u2])), (o_read_kinds, .inl (cI, 9, .inl u3)), (o_read_shareCounts, .inl (cI, 9, .inl u4))]) (va_runV (As := []) (rest := []) ⟨hx, hb, hml, hown, hts⟩ (k_X3_putGlass l dC dI cI cJ cC H.size o_read o_read_kinds o_read_holds o_read_takes o_read_shareCounts o_read_shares (0 : Int32) vo_read_kinds vo_read_shareCounts r1 u2 u3 u4 ev_1 (by first | omega | decide) (by first | omega | decide) hrc) (cwV 0 hts gX2_start_X3_putGlass rfl rfl rfl (by decide +kernel) ⟨Nat.le_of_ble_eq_true rfl, Nat.le_of_ble_eq_true rfl⟩) (zz_preV [1, 2, 3] hK hP hD rfl rfl (va_recv hK hP (ci := 3) (q0 := 1) rfl rfl)) rfl rfl hl.1 rfl (lv_room (Nat.le_of_ble_eq_true rfl)) dX2_start_12 ⟨Nat.zero_le _, Nat.zero_le _⟩) hP hD hS hA rfl rfl rfl (by decide) (fun ok_2 H locs hP hD hS => ?_)
  have hP : va_P (dC, dI) vwCl [(o, .inr (2, [.ref o_read, .int vo_place])), (o_read, .inr (3, [.ref o_read_kinds, .ref o_read_holds, .ref o_read_takes, .ref o_read_shareCounts, .ref o_read_shares, .int u2])), (o_read_kinds, .inl (cI, 9, .inl u3)), (o_read_shareCounts, .inl (cI, 9, .inl u4))] H := hP
  have hD : va_D A [(o, .inr (2, [.ref o_read, .int vo_place])), (o_read, .inr (3, [.ref o_read_kinds, .ref o_read_holds, .ref o_read_takes, .ref o_read_shareCounts, .ref o_read_shares, .int u2])), (o_read_kinds, .inl (cI, 9, .inl u3)), (o_read_shareCounts, .inl (cI, 9, .inl u4))] := hD
  obtain ⟨k_3, k_4, k_5, k_6⟩ := ok_2
  refine lv_pop hx hb dX2_start_15 rfl ?_
  refine lv_aload_n hx hb dX2_start_16 rfl (lv_at hl 0 rfl) ?_
  refine lv_iconst (v := (0 : Int32)) hx hb dX2_start_17 (by decide) ?_
  refine va_put (D := (dC, dI)) (ci := 2) (v := .int (0 : Int32)) (ty := .int) (C := RX2) (T := TX2) (N := 2) hx hb hts hwX2 tyX2 tyX2_ok nmX2 hown hK hP hD hS 0 rfl rfl 1 (by decide) hf_26 (fun _ h9 => h9) rfl (by decide +kernel) rfl rfl (Nat.le_of_ble_eq_true rfl) dX2_start_18 (fun H locs hP hD hS => ?_)
  have hP : va_P (dC, dI) vwCl [(o, .inr (2, [.ref o_read, .int (0 : Int32)])), (o_read, .inr (3, [.ref o_read_kinds, .ref o_read_holds, .ref o_read_takes, .ref o_read_shareCounts, .ref o_read_shares, .int u2])), (o_read_kinds, .inl (cI, 9, .inl u3)), (o_read_shareCounts, .inl (cI, 9, .inl u4))] H := hP
  have hD : va_D A [(o, .inr (2, [.ref o_read, .int (0 : Int32)])), (o_read, .inr (3, [.ref o_read_kinds, .ref o_read_holds, .ref o_read_takes, .ref o_read_shareCounts, .ref o_read_shares, .int u2])), (o_read_kinds, .inl (cI, 9, .inl u3)), (o_read_shareCounts, .inl (cI, 9, .inl u4))] := hD
  have hP9 := hP
  have hD9 := hD
  have hS9 := hS
  have hT : ((0 : Int32), u2, u3, u4) = (qo_place, qo_read_size, qo_read_kinds, qo_read_shareCounts) := hT
  cases hT
  subst hQ
  exact zz_vret hx hb hr [0, 1, 2, 3] hK hP9 hD9 hS9 rfl rfl ⟨(by first | assumption | omega), (by first | assumption | omega), (by first | assumption | omega)⟩ hlocks dX2_start_21

def m_X2_goesOnWith (vo_place : Int32) (vo_read_size : Int32) (vo_read_kinds : Nat → Int32) (vo_read_holds : Nat → Int32) (vo_read_takes : Nat → Int32) (vo_read_shareCounts : Nat → Int32) (vo_read_shares : Nat → Int32) (p1 : Int32) : Int32 × Int32 × Int32 × (Nat → Int32) × (Nat → Int32) × (Nat → Int32) × (Nat → Int32) × (Nat → Int32) :=
 if vo_place = (0 : Int32) then
  cut3 (m_X2_readsKind vo_place vo_read_size vo_read_kinds p1) (fun (r1 : Int32) (u2 : Int32) (u3 : Nat → Int32) =>
  if r1 = (0 : Int32) then
   cut4 (m_X2_readsHolds u2 vo_read_size u3 vo_read_holds vo_read_takes p1) (fun (r4 : Int32) (u5 : Int32) (u6 : Nat → Int32) (u7 : Nat → Int32) =>
   if r4 = (0 : Int32) then
    ((0 : Int32), u5, vo_read_size, u3, u6, u7, vo_read_shareCounts, vo_read_shares)
   else
    ((1 : Int32), u5, vo_read_size, u3, u6, u7, vo_read_shareCounts, vo_read_shares))
  else
   ((1 : Int32), u2, vo_read_size, u3, vo_read_holds, vo_read_takes, vo_read_shareCounts, vo_read_shares))
 else
 if vo_place = (1 : Int32) then
  cut4 (m_X2_readsHolds vo_place vo_read_size vo_read_kinds vo_read_holds vo_read_takes p1) (fun (r8 : Int32) (u9 : Int32) (u10 : Nat → Int32) (u11 : Nat → Int32) =>
  (r8, u9, vo_read_size, vo_read_kinds, u10, u11, vo_read_shareCounts, vo_read_shares))
 else
 if vo_place = (2 : Int32) then
  cut2 (m_X2_readsColon vo_place p1) (fun (r12 : Int32) (u13 : Int32) =>
  if r12 = (0 : Int32) then
   cut5 (m_X2_readsNext u13 vo_read_size vo_read_kinds vo_read_shareCounts p1) (fun (r14 : Int32) (u15 : Int32) (u16 : Int32) (u17 : Nat → Int32) (u18 : Nat → Int32) =>
   if r14 = (0 : Int32) then
    ((0 : Int32), u15, u16, u17, vo_read_holds, vo_read_takes, u18, vo_read_shares)
   else
    ((1 : Int32), u15, u16, u17, vo_read_holds, vo_read_takes, u18, vo_read_shares))
  else
   ((1 : Int32), u13, vo_read_size, vo_read_kinds, vo_read_holds, vo_read_takes, vo_read_shareCounts, vo_read_shares))
 else
 cut3 (m_X2_readsShare vo_read_size vo_read_shareCounts vo_read_shares p1) (fun (r19 : Int32) (u20 : Nat → Int32) (u21 : Nat → Int32) =>
 if r19 = (0 : Int32) then
  cut (m_X2_mayEndGlass vo_place vo_read_size u20) (fun (r22 : Int32) =>
  if r22 = (0 : Int32) then
   ((0 : Int32), vo_place, vo_read_size, vo_read_kinds, vo_read_holds, vo_read_takes, u20, u21)
  else
   cut5 (m_X2_readsNext vo_place vo_read_size vo_read_kinds u20 p1) (fun (r23 : Int32) (u24 : Int32) (u25 : Int32) (u26 : Nat → Int32) (u27 : Nat → Int32) =>
   if r23 = (0 : Int32) then
    ((0 : Int32), u24, u25, u26, vo_read_holds, vo_read_takes, u27, u21)
   else
    ((1 : Int32), u24, u25, u26, vo_read_holds, vo_read_takes, u27, u21)))
 else
  ((1 : Int32), vo_place, vo_read_size, vo_read_kinds, vo_read_holds, vo_read_takes, u20, u21))
set_option maxHeartbeats 4000000 in
set_option maxRecDepth 100000 in
theorem k_X2_goesOnWith (l : Launch) (dC : Nat → ClassId) (dI : Nat → Nat → Nat) (cI cJ cC : ClassId) (sz : Nat) (aK aV : Nat) (o o_read o_read_kinds o_read_holds o_read_takes o_read_shareCounts o_read_shares : Nat) (vo_place : Int32) (vo_read_size : Int32) (vo_read_kinds : Nat → Int32) (vo_read_holds : Nat → Int32) (vo_read_takes : Nat → Int32) (vo_read_shareCounts : Nat → Int32) (vo_read_shares : Nat → Int32) (p1 : Int32) (r : Int32) (qo_place : Int32) (qo_read_size : Int32) (qo_read_kinds : Nat → Int32) (qo_read_holds : Nat → Int32) (qo_read_takes : Nat → Int32) (qo_read_shareCounts : Nat → Int32) (qo_read_shares : Nat → Int32) (hT : m_X2_goesOnWith vo_place vo_read_size vo_read_kinds vo_read_holds vo_read_takes vo_read_shareCounts vo_read_shares p1 = (r, qo_place, qo_read_size, qo_read_kinds, qo_read_holds, qo_read_takes, qo_read_shareCounts, qo_read_shares)) (hr0 : 0 ≤ vo_read_size.toInt) (hr9 : vo_read_size.toInt ≤ 9) (hrc : zSc vo_read_shareCounts) : Met l yX2_goesOnWith wsX2_goesOnWith ({ frames := 5, cells := 0, slots := 0, locals := 128 }) (zPcX aK aV [.ref o, .int p1] (dC, dI) (zTy cI cJ cC) [(o, .inr (2, [.ref o_read, .int vo_place])), (o_read, .inr (3, [.ref o_read_kinds, .ref o_read_holds, .ref o_read_takes, .ref o_read_shareCounts, .ref o_read_shares, .int vo_read_size])), (o_read_kinds, .inl (cI, 9, .inl vo_read_kinds)), (o_read_holds, .inl (cI, 9, .inl vo_read_holds)), (o_read_takes, .inl (cI, 9, .inl vo_read_takes)), (o_read_shareCounts, .inl (cI, 9, .inl vo_read_shareCounts)), (o_read_shares, .inl (cI, 27, .inl vo_read_shares))] sz) (zQi r ((zB01 r) ∧ (0 ≤ qo_read_size.toInt) ∧ (qo_read_size.toInt ≤ 9) ∧ (zSc qo_read_shareCounts)) (dC, dI) (zTy cI cJ cC) [(o, .inr (2, [.ref o_read, .int qo_place])), (o_read, .inr (3, [.ref o_read_kinds, .ref o_read_holds, .ref o_read_takes, .ref o_read_shareCounts, .ref o_read_shares, .int qo_read_size])), (o_read_kinds, .inl (cI, 9, .inl qo_read_kinds)), (o_read_holds, .inl (cI, 9, .inl qo_read_holds)), (o_read_takes, .inl (cI, 9, .inl qo_read_takes)), (o_read_shareCounts, .inl (cI, 9, .inl qo_read_shareCounts)), (o_read_shares, .inl (cI, 27, .inl qo_read_shares))] (va_A [(o, .inr (2, [.ref o_read, .int vo_place])), (o_read, .inr (3, [.ref o_read_kinds, .ref o_read_holds, .ref o_read_takes, .ref o_read_shareCounts, .ref o_read_shares, .int vo_read_size])), (o_read_kinds, .inl (cI, 9, .inl vo_read_kinds)), (o_read_holds, .inl (cI, 9, .inl vo_read_holds)), (o_read_takes, .inl (cI, 9, .inl vo_read_takes)), (o_read_shareCounts, .inl (cI, 9, .inl vo_read_shareCounts)), (o_read_shares, .inl (cI, 27, .inl vo_read_shares))] sz)) 0 0 (va_A [(o, .inr (2, [.ref o_read, .int vo_place])), (o_read, .inr (3, [.ref o_read_kinds, .ref o_read_holds, .ref o_read_takes, .ref o_read_shareCounts, .ref o_read_shares, .int vo_read_size])), (o_read_kinds, .inl (cI, 9, .inl vo_read_kinds)), (o_read_holds, .inl (cI, 9, .inl vo_read_holds)), (o_read_takes, .inl (cI, 9, .inl vo_read_takes)), (o_read_shareCounts, .inl (cI, 9, .inl vo_read_shareCounts)), (o_read_shares, .inl (cI, 27, .inl vo_read_shares))] sz) := by
  refine Met.ofW (cc := cX2_goesOnWith) (maxL := 2) (ret := (some .boolean)) (by decide) rfl ?_
  intro p e s m args below meth c s₁ B hml hv
  obtain ⟨rfl, hsz, hP, hK, hD0, hX⟩ := hv
  have hx := B.exec
  have hb := B.bytes
  have hr := B.returns
  have hts := atoms_spec (ws := wsX2_goesOnWith) B.pre
  have hown : s.vm.findClass RX2 = some m.cls := findClass_of_methodNamed B.named
  have hlocks := B.notSynchronized
  subst hsz
  have hD := hD0.self (sz := s.heap.size)
  generalize hAe : va_A [(o, .inr (2, [.ref o_read, .int vo_place])), (o_read, .inr (3, [.ref o_read_kinds, .ref o_read_holds, .ref o_read_takes, .ref o_read_shareCounts, .ref o_read_shares, .int vo_read_size])), (o_read_kinds, .inl (cI, 9, .inl vo_read_kinds)), (o_read_holds, .inl (cI, 9, .inl vo_read_holds)), (o_read_takes, .inl (cI, 9, .inl vo_read_takes)), (o_read_shareCounts, .inl (cI, 9, .inl vo_read_shareCounts)), (o_read_shares, .inl (cI, 27, .inl vo_read_shares))] s.heap.size = A at hD hX ⊢
  have hA : ∀ q : Nat, s.heap.size ≤ q → A q := fun q h => by rw [← hAe]; exact Or.inr h
  have hS : va_S A s.heap s.heap [] := va_S.rf
  have hP : va_P (dC, dI) vwCl [(o, .inr (2, [.ref o_read, .int vo_place])), (o_read, .inr (3, [.ref o_read_kinds, .ref o_read_holds, .ref o_read_takes, .ref o_read_shareCounts, .ref o_read_shares, .int vo_read_size])), (o_read_kinds, .inl (cI, 9, .inl vo_read_kinds)), (o_read_holds, .inl (cI, 9, .inl vo_read_holds)), (o_read_takes, .inl (cI, 9, .inl vo_read_takes)), (o_read_shareCounts, .inl (cI, 9, .inl vo_read_shareCounts)), (o_read_shares, .inl (cI, 27, .inl vo_read_shares))] s.heap := hP
  have hK : va_K (dC, dI) vwCl (zTy cI cJ cC) s := hK
  have hl := lv_entry ([.ref o, .int p1]) (n := 2) (Nat.le_of_ble_eq_true rfl)
  rw [lg_entry_eq]
  generalize (lg_sl ([.ref o, .int p1]) ++ List.replicate (2 - (lg_sl ([.ref o, .int p1])).length) Slot.unset).toArray = ls at hl ⊢
  have hl : lv_has ls 2 [(0, .ref o), (1, .int p1)] := hl
  refine zz_start hP hS (fun Q hQ H locs hP hS => ?_)
  have hwX2 : ∀ w ∈ u_ws RX2 TX2 2, w ∈ wsX2_goesOnWith := by decide +kernel
  have hf_26 := (hts (.fieldLink RX2 26 "PouredTopmost$Reader" "place" "I") (by decide +kernel))
  refine lv_aload_n hx hb dX2_goesOnWith_0 rfl (lv_at hl 0 rfl) ?_
  refine va_get (D := (dC, dI)) (ci := 2) (v := .int vo_place) (C := RX2) (T := TX2) (N := 2) hx hb hts hwX2 hown hK hP 0 rfl rfl 1 (by decide) hf_26 (fun _ h9 => h9) rfl dX2_goesOnWith_1 ?_
  by_cases c_1 : vo_place = (0 : Int32)
  · replace hT := cutT c_1 hT
    have g_37 := zeqT (rfl : (vo_place).toInt = _) (by decide : ((0 : Int32)).toInt = 0) c_1
    refine lv_tableIn (off := 28) (tgt := 32) hx hb dX2_goesOnWith_4 (by rw [c_1]; decide) (by rw [c_1]; decide) (by rw [c_1]; rfl) (by decide) ?_
    refine lv_aload_n hx hb dX2_goesOnWith_32 rfl (lv_at hl 0 rfl) ?_
    refine lv_iload_n hx hb dX2_goesOnWith_33 rfl (lv_at hl 1 rfl) ?_
    obtain ⟨r1, u2, u3, ev_2⟩ : ∃ x0 x1 x2, (m_X2_readsKind vo_place vo_read_size vo_read_kinds p1) = (x0, x1, x2) := ⟨_, _, _, rfl⟩
    replace hT := cut3_n ev_2 hT
    refine zz_ci [0, 1, 2] [3, 4, 5, 6] (wr := [(o_read_holds, .inl (cI, 9, .inl vo_read_holds)), (o_read_takes, .inl (cI, 9, .inl vo_read_takes)), (o_read_shareCounts, .inl (cI, 9, .inl vo_read_shareCounts)), (o_read_shares, .inl (cI, 27, .inl vo_read_shares))]) (w1 := [(o, .inr (2, [.ref o_read, .int u2])), (o_read, .inr (3, [.ref o_read_kinds, .ref o_read_holds, .ref o_read_takes, .ref o_read_shareCounts, .ref o_read_shares, .int vo_read_size])), (o_read_kinds, .inl (cI, 9, .inl u3))]) (va_runV (As := [.int p1]) (rest := []) ⟨hx, hb, hml, hown, hts⟩ (k_X2_readsKind l dC dI cI cJ cC H.size aK aV o o_read o_read_kinds o_read_holds o_read_takes o_read_shareCounts o_read_shares vo_place vo_read_size vo_read_kinds p1 r1 u2 u3 ev_2 hr9) (cwV 1 hts gX2_goesOnWith_X2_readsKind rfl rfl rfl (by decide +kernel) ⟨Nat.le_of_ble_eq_true rfl, Nat.le_of_ble_eq_true rfl⟩) (zz_preVX [0, 1, 2] hK hP hD hS hA hX rfl rfl (va_recv hK hP (ci := 2) (q0 := 0) rfl rfl)) rfl rfl hl.1 rfl (lv_room (Nat.le_of_ble_eq_true rfl)) dX2_goesOnWith_34 ⟨Nat.zero_le _, Nat.zero_le _⟩) hP hD hS hA rfl rfl rfl (by decide) (fun ok_3 H locs hP hD hS => ?_)
    have hP : va_P (dC, dI) vwCl [(o_read_holds, .inl (cI, 9, .inl vo_read_holds)), (o_read_takes, .inl (cI, 9, .inl vo_read_takes)), (o_read_shareCounts, .inl (cI, 9, .inl vo_read_shareCounts)), (o_read_shares, .inl (cI, 27, .inl vo_read_shares)), (o, .inr (2, [.ref o_read, .int u2])), (o_read, .inr (3, [.ref o_read_kinds, .ref o_read_holds, .ref o_read_takes, .ref o_read_shareCounts, .ref o_read_shares, .int vo_read_size])), (o_read_kinds, .inl (cI, 9, .inl u3))] H := hP
    have hD : va_D A [(o_read_holds, .inl (cI, 9, .inl vo_read_holds)), (o_read_takes, .inl (cI, 9, .inl vo_read_takes)), (o_read_shareCounts, .inl (cI, 9, .inl vo_read_shareCounts)), (o_read_shares, .inl (cI, 27, .inl vo_read_shares)), (o, .inr (2, [.ref o_read, .int u2])), (o_read, .inr (3, [.ref o_read_kinds, .ref o_read_holds, .ref o_read_takes, .ref o_read_shareCounts, .ref o_read_shares, .int vo_read_size])), (o_read_kinds, .inl (cI, 9, .inl u3))] := hD
    refine lv_if_ne (tgt := 48) hx hb dX2_goesOnWith_37 (by decide) (fun c_4 => ?_) (fun c_4 => ?_)
    · replace hT := cutF c_4 hT
      have g_38 := zeqF (rfl : (r1).toInt = _) (by decide : ((0 : Int32)).toInt = 0) c_4
      refine lv_iconst (v := (1 : Int32)) hx hb dX2_goesOnWith_48 (by decide) ?_
      refine lv_goto (tgt := 53) hx hb dX2_goesOnWith_49 (by decide) ?_
      have hP9 := hP
      have hD9 := hD
      have hS9 := hS
      have hT : ((1 : Int32), u2, vo_read_size, u3, vo_read_holds, vo_read_takes, vo_read_shareCounts, vo_read_shares) = (r, qo_place, qo_read_size, qo_read_kinds, qo_read_holds, qo_read_takes, qo_read_shareCounts, qo_read_shares) := hT
      cases hT
      subst hQ
      exact zz_zret hx hb hr rfl [4, 5, 6, 0, 1, 2, 3] hK hP9 hD9 hS9 rfl rfl ⟨(Or.inr rfl), (by first | assumption | omega), (by first | assumption | omega), (by first | assumption | omega)⟩ hlocks dX2_goesOnWith_53
    · replace hT := cutT c_4 hT
      have g_39 := zeqT (rfl : (r1).toInt = _) (by decide : ((0 : Int32)).toInt = 0) c_4
      refine lv_aload_n hx hb dX2_goesOnWith_40 rfl (lv_at hl 0 rfl) ?_
      refine lv_iload_n hx hb dX2_goesOnWith_41 rfl (lv_at hl 1 rfl) ?_
      obtain ⟨r4, u5, u6, u7, ev_5⟩ : ∃ x0 x1 x2 x3, (m_X2_readsHolds u2 vo_read_size u3 vo_read_holds vo_read_takes p1) = (x0, x1, x2, x3) := ⟨_, _, _, _, rfl⟩
      replace hT := cut4_n ev_5 hT
      refine zz_ci [4, 5, 6, 0, 1] [2, 3] (wr := [(o_read_shareCounts, .inl (cI, 9, .inl vo_read_shareCounts)), (o_read_shares, .inl (cI, 27, .inl vo_read_shares))]) (w1 := [(o, .inr (2, [.ref o_read, .int u5])), (o_read, .inr (3, [.ref o_read_kinds, .ref o_read_holds, .ref o_read_takes, .ref o_read_shareCounts, .ref o_read_shares, .int vo_read_size])), (o_read_kinds, .inl (cI, 9, .inl u3)), (o_read_holds, .inl (cI, 9, .inl u6)), (o_read_takes, .inl (cI, 9, .inl u7))]) (va_runV (As := [.int p1]) (rest := []) ⟨hx, hb, hml, hown, hts⟩ (k_X2_readsHolds l dC dI cI cJ cC H.size aK aV o o_read o_read_kinds o_read_holds o_read_takes o_read_shareCounts o_read_shares u2 vo_read_size u3 vo_read_holds vo_read_takes p1 r4 u5 u6 u7 ev_5 hr9) (cwV 1 hts gX2_goesOnWith_X2_readsHolds rfl rfl rfl (by decide +kernel) ⟨Nat.le_of_ble_eq_true rfl, Nat.le_of_ble_eq_true rfl⟩) (zz_preVX [4, 5, 6, 0, 1] hK hP hD hS hA hX rfl rfl (va_recv hK hP (ci := 2) (q0 := 4) rfl rfl)) rfl rfl hl.1 rfl (lv_room (Nat.le_of_ble_eq_true rfl)) dX2_goesOnWith_42 ⟨Nat.zero_le _, Nat.zero_le _⟩) hP hD hS hA rfl rfl rfl (by decide) (fun ok_6 H locs hP hD hS => ?_)
      have hP : va_P (dC, dI) vwCl [(o_read_shareCounts, .inl (cI, 9, .inl vo_read_shareCounts)), (o_read_shares, .inl (cI, 27, .inl vo_read_shares)), (o, .inr (2, [.ref o_read, .int u5])), (o_read, .inr (3, [.ref o_read_kinds, .ref o_read_holds, .ref o_read_takes, .ref o_read_shareCounts, .ref o_read_shares, .int vo_read_size])), (o_read_kinds, .inl (cI, 9, .inl u3)), (o_read_holds, .inl (cI, 9, .inl u6)), (o_read_takes, .inl (cI, 9, .inl u7))] H := hP
      have hD : va_D A [(o_read_shareCounts, .inl (cI, 9, .inl vo_read_shareCounts)), (o_read_shares, .inl (cI, 27, .inl vo_read_shares)), (o, .inr (2, [.ref o_read, .int u5])), (o_read, .inr (3, [.ref o_read_kinds, .ref o_read_holds, .ref o_read_takes, .ref o_read_shareCounts, .ref o_read_shares, .int vo_read_size])), (o_read_kinds, .inl (cI, 9, .inl u3)), (o_read_holds, .inl (cI, 9, .inl u6)), (o_read_takes, .inl (cI, 9, .inl u7))] := hD
      refine lv_if_eq (tgt := 52) hx hb dX2_goesOnWith_45 (by decide) (fun c_7 => ?_) (fun c_7 => ?_)
      · replace hT := cutT c_7 hT
        have g_40 := zeqT (rfl : (r4).toInt = _) (by decide : ((0 : Int32)).toInt = 0) c_7
        refine lv_iconst (v := (0 : Int32)) hx hb dX2_goesOnWith_52 (by decide) ?_
        have hP9 := hP
        have hD9 := hD
        have hS9 := hS
        have hT : ((0 : Int32), u5, vo_read_size, u3, u6, u7, vo_read_shareCounts, vo_read_shares) = (r, qo_place, qo_read_size, qo_read_kinds, qo_read_holds, qo_read_takes, qo_read_shareCounts, qo_read_shares) := hT
        cases hT
        subst hQ
        exact zz_zret hx hb hr rfl [2, 3, 4, 5, 6, 0, 1] hK hP9 hD9 hS9 rfl rfl ⟨(Or.inl rfl), (by first | assumption | omega), (by first | assumption | omega), (by first | assumption | omega)⟩ hlocks dX2_goesOnWith_53
      · replace hT := cutF c_7 hT
        have g_41 := zeqF (rfl : (r4).toInt = _) (by decide : ((0 : Int32)).toInt = 0) c_7
        refine lv_iconst (v := (1 : Int32)) hx hb dX2_goesOnWith_48 (by decide) ?_
        refine lv_goto (tgt := 53) hx hb dX2_goesOnWith_49 (by decide) ?_
        have hP9 := hP
        have hD9 := hD
        have hS9 := hS
        have hT : ((1 : Int32), u5, vo_read_size, u3, u6, u7, vo_read_shareCounts, vo_read_shares) = (r, qo_place, qo_read_size, qo_read_kinds, qo_read_holds, qo_read_takes, qo_read_shareCounts, qo_read_shares) := hT
        cases hT
        subst hQ
        exact zz_zret hx hb hr rfl [2, 3, 4, 5, 6, 0, 1] hK hP9 hD9 hS9 rfl rfl ⟨(Or.inr rfl), (by first | assumption | omega), (by first | assumption | omega), (by first | assumption | omega)⟩ hlocks dX2_goesOnWith_53
  replace hT := cutF c_1 hT
  have g_42 := zeqF (rfl : (vo_place).toInt = _) (by decide : ((0 : Int32)).toInt = 0) c_1
  by_cases c_8 : vo_place = (1 : Int32)
  · replace hT := cutT c_8 hT
    have g_43 := zeqT (rfl : (vo_place).toInt = _) (by decide : ((1 : Int32)).toInt = 1) c_8
    refine lv_tableIn (off := 50) (tgt := 54) hx hb dX2_goesOnWith_4 (by rw [c_8]; decide) (by rw [c_8]; decide) (by rw [c_8]; rfl) (by decide) ?_
    refine lv_aload_n hx hb dX2_goesOnWith_54 rfl (lv_at hl 0 rfl) ?_
    refine lv_iload_n hx hb dX2_goesOnWith_55 rfl (lv_at hl 1 rfl) ?_
    obtain ⟨r8, u9, u10, u11, ev_9⟩ : ∃ x0 x1 x2 x3, (m_X2_readsHolds vo_place vo_read_size vo_read_kinds vo_read_holds vo_read_takes p1) = (x0, x1, x2, x3) := ⟨_, _, _, _, rfl⟩
    replace hT := cut4_n ev_9 hT
    refine zz_ci [0, 1, 2, 3, 4] [5, 6] (wr := [(o_read_shareCounts, .inl (cI, 9, .inl vo_read_shareCounts)), (o_read_shares, .inl (cI, 27, .inl vo_read_shares))]) (w1 := [(o, .inr (2, [.ref o_read, .int u9])), (o_read, .inr (3, [.ref o_read_kinds, .ref o_read_holds, .ref o_read_takes, .ref o_read_shareCounts, .ref o_read_shares, .int vo_read_size])), (o_read_kinds, .inl (cI, 9, .inl vo_read_kinds)), (o_read_holds, .inl (cI, 9, .inl u10)), (o_read_takes, .inl (cI, 9, .inl u11))]) (va_runV (As := [.int p1]) (rest := []) ⟨hx, hb, hml, hown, hts⟩ (k_X2_readsHolds l dC dI cI cJ cC H.size aK aV o o_read o_read_kinds o_read_holds o_read_takes o_read_shareCounts o_read_shares vo_place vo_read_size vo_read_kinds vo_read_holds vo_read_takes p1 r8 u9 u10 u11 ev_9 hr9) (cwV 1 hts gX2_goesOnWith_X2_readsHolds rfl rfl rfl (by decide +kernel) ⟨Nat.le_of_ble_eq_true rfl, Nat.le_of_ble_eq_true rfl⟩) (zz_preVX [0, 1, 2, 3, 4] hK hP hD hS hA hX rfl rfl (va_recv hK hP (ci := 2) (q0 := 0) rfl rfl)) rfl rfl hl.1 rfl (lv_room (Nat.le_of_ble_eq_true rfl)) dX2_goesOnWith_56 ⟨Nat.zero_le _, Nat.zero_le _⟩) hP hD hS hA rfl rfl rfl (by decide) (fun ok_10 H locs hP hD hS => ?_)
    have hP : va_P (dC, dI) vwCl [(o_read_shareCounts, .inl (cI, 9, .inl vo_read_shareCounts)), (o_read_shares, .inl (cI, 27, .inl vo_read_shares)), (o, .inr (2, [.ref o_read, .int u9])), (o_read, .inr (3, [.ref o_read_kinds, .ref o_read_holds, .ref o_read_takes, .ref o_read_shareCounts, .ref o_read_shares, .int vo_read_size])), (o_read_kinds, .inl (cI, 9, .inl vo_read_kinds)), (o_read_holds, .inl (cI, 9, .inl u10)), (o_read_takes, .inl (cI, 9, .inl u11))] H := hP
    have hD : va_D A [(o_read_shareCounts, .inl (cI, 9, .inl vo_read_shareCounts)), (o_read_shares, .inl (cI, 27, .inl vo_read_shares)), (o, .inr (2, [.ref o_read, .int u9])), (o_read, .inr (3, [.ref o_read_kinds, .ref o_read_holds, .ref o_read_takes, .ref o_read_shareCounts, .ref o_read_shares, .int vo_read_size])), (o_read_kinds, .inl (cI, 9, .inl vo_read_kinds)), (o_read_holds, .inl (cI, 9, .inl u10)), (o_read_takes, .inl (cI, 9, .inl u11))] := hD
    have hP9 := hP
    have hD9 := hD
    have hS9 := hS
    have hT : (r8, u9, vo_read_size, vo_read_kinds, u10, u11, vo_read_shareCounts, vo_read_shares) = (r, qo_place, qo_read_size, qo_read_kinds, qo_read_holds, qo_read_takes, qo_read_shareCounts, qo_read_shares) := hT
    cases hT
    subst hQ
    exact zz_zret hx hb hr (zB01.nar ok_10) [2, 3, 4, 5, 6, 0, 1] hK hP9 hD9 hS9 rfl rfl ⟨ok_10, (by first | assumption | omega), (by first | assumption | omega), (by first | assumption | omega)⟩ hlocks dX2_goesOnWith_59
  replace hT := cutF c_8 hT
  have g_44 := zeqF (rfl : (vo_place).toInt = _) (by decide : ((1 : Int32)).toInt = 1) c_8
  by_cases c_11 : vo_place = (2 : Int32)
  · replace hT := cutT c_11 hT
    have g_45 := zeqT (rfl : (vo_place).toInt = _) (by decide : ((2 : Int32)).toInt = 2) c_11
    refine lv_tableIn (off := 56) (tgt := 60) hx hb dX2_goesOnWith_4 (by rw [c_11]; decide) (by rw [c_11]; decide) (by rw [c_11]; rfl) (by decide) ?_
    refine lv_aload_n hx hb dX2_goesOnWith_60 rfl (lv_at hl 0 rfl) ?_
    refine lv_iload_n hx hb dX2_goesOnWith_61 rfl (lv_at hl 1 rfl) ?_
    obtain ⟨r12, u13, ev_12⟩ : ∃ x0 x1, (m_X2_readsColon vo_place p1) = (x0, x1) := ⟨_, _, rfl⟩
    replace hT := cut2_n ev_12 hT
    refine zz_ci [0] [1, 2, 3, 4, 5, 6] (wr := [(o_read, .inr (3, [.ref o_read_kinds, .ref o_read_holds, .ref o_read_takes, .ref o_read_shareCounts, .ref o_read_shares, .int vo_read_size])), (o_read_kinds, .inl (cI, 9, .inl vo_read_kinds)), (o_read_holds, .inl (cI, 9, .inl vo_read_holds)), (o_read_takes, .inl (cI, 9, .inl vo_read_takes)), (o_read_shareCounts, .inl (cI, 9, .inl vo_read_shareCounts)), (o_read_shares, .inl (cI, 27, .inl vo_read_shares))]) (w1 := [(o, .inr (2, [.ref o_read, .int u13]))]) (va_runV (As := [.int p1]) (rest := []) ⟨hx, hb, hml, hown, hts⟩ (k_X2_readsColon l dC dI cI cJ cC H.size o o_read vo_place p1 r12 u13 ev_12) (cwV 1 hts gX2_goesOnWith_X2_readsColon rfl rfl rfl (by decide +kernel) ⟨Nat.le_of_ble_eq_true rfl, Nat.le_of_ble_eq_true rfl⟩) (zz_preV [0] hK hP hD rfl rfl (va_recv hK hP (ci := 2) (q0 := 0) rfl rfl)) rfl rfl hl.1 rfl (lv_room (Nat.le_of_ble_eq_true rfl)) dX2_goesOnWith_62 ⟨Nat.zero_le _, Nat.zero_le _⟩) hP hD hS hA rfl rfl rfl (by decide) (fun ok_13 H locs hP hD hS => ?_)
    have hP : va_P (dC, dI) vwCl [(o_read, .inr (3, [.ref o_read_kinds, .ref o_read_holds, .ref o_read_takes, .ref o_read_shareCounts, .ref o_read_shares, .int vo_read_size])), (o_read_kinds, .inl (cI, 9, .inl vo_read_kinds)), (o_read_holds, .inl (cI, 9, .inl vo_read_holds)), (o_read_takes, .inl (cI, 9, .inl vo_read_takes)), (o_read_shareCounts, .inl (cI, 9, .inl vo_read_shareCounts)), (o_read_shares, .inl (cI, 27, .inl vo_read_shares)), (o, .inr (2, [.ref o_read, .int u13]))] H := hP
    have hD : va_D A [(o_read, .inr (3, [.ref o_read_kinds, .ref o_read_holds, .ref o_read_takes, .ref o_read_shareCounts, .ref o_read_shares, .int vo_read_size])), (o_read_kinds, .inl (cI, 9, .inl vo_read_kinds)), (o_read_holds, .inl (cI, 9, .inl vo_read_holds)), (o_read_takes, .inl (cI, 9, .inl vo_read_takes)), (o_read_shareCounts, .inl (cI, 9, .inl vo_read_shareCounts)), (o_read_shares, .inl (cI, 27, .inl vo_read_shares)), (o, .inr (2, [.ref o_read, .int u13]))] := hD
    refine lv_if_ne (tgt := 76) hx hb dX2_goesOnWith_65 (by decide) (fun c_14 => ?_) (fun c_14 => ?_)
    · replace hT := cutF c_14 hT
      have g_46 := zeqF (rfl : (r12).toInt = _) (by decide : ((0 : Int32)).toInt = 0) c_14
      refine lv_iconst (v := (1 : Int32)) hx hb dX2_goesOnWith_76 (by decide) ?_
      refine lv_goto (tgt := 81) hx hb dX2_goesOnWith_77 (by decide) ?_
      have hP9 := hP
      have hD9 := hD
      have hS9 := hS
      have hT : ((1 : Int32), u13, vo_read_size, vo_read_kinds, vo_read_holds, vo_read_takes, vo_read_shareCounts, vo_read_shares) = (r, qo_place, qo_read_size, qo_read_kinds, qo_read_holds, qo_read_takes, qo_read_shareCounts, qo_read_shares) := hT
      cases hT
      subst hQ
      exact zz_zret hx hb hr rfl [6, 0, 1, 2, 3, 4, 5] hK hP9 hD9 hS9 rfl rfl ⟨(Or.inr rfl), (by first | assumption | omega), (by first | assumption | omega), (by first | assumption | omega)⟩ hlocks dX2_goesOnWith_81
    · replace hT := cutT c_14 hT
      have g_47 := zeqT (rfl : (r12).toInt = _) (by decide : ((0 : Int32)).toInt = 0) c_14
      refine lv_aload_n hx hb dX2_goesOnWith_68 rfl (lv_at hl 0 rfl) ?_
      refine lv_iload_n hx hb dX2_goesOnWith_69 rfl (lv_at hl 1 rfl) ?_
      obtain ⟨r14, u15, u16, u17, u18, ev_15⟩ : ∃ x0 x1 x2 x3 x4, (m_X2_readsNext u13 vo_read_size vo_read_kinds vo_read_shareCounts p1) = (x0, x1, x2, x3, x4) := ⟨_, _, _, _, _, rfl⟩
      replace hT := cut5_n ev_15 hT
      refine zz_ci [6, 0, 1, 4] [2, 3, 5] (wr := [(o_read_holds, .inl (cI, 9, .inl vo_read_holds)), (o_read_takes, .inl (cI, 9, .inl vo_read_takes)), (o_read_shares, .inl (cI, 27, .inl vo_read_shares))]) (w1 := [(o, .inr (2, [.ref o_read, .int u15])), (o_read, .inr (3, [.ref o_read_kinds, .ref o_read_holds, .ref o_read_takes, .ref o_read_shareCounts, .ref o_read_shares, .int u16])), (o_read_kinds, .inl (cI, 9, .inl u17)), (o_read_shareCounts, .inl (cI, 9, .inl u18))]) (va_runV (As := [.int p1]) (rest := []) ⟨hx, hb, hml, hown, hts⟩ (k_X2_readsNext l dC dI cI cJ cC H.size o o_read o_read_kinds o_read_holds o_read_takes o_read_shareCounts o_read_shares u13 vo_read_size vo_read_kinds vo_read_shareCounts p1 r14 u15 u16 u17 u18 ev_15 hr0 hr9 hrc) (cwV 1 hts gX2_goesOnWith_X2_readsNext rfl rfl rfl (by decide +kernel) ⟨Nat.le_of_ble_eq_true rfl, Nat.le_of_ble_eq_true rfl⟩) (zz_preV [6, 0, 1, 4] hK hP hD rfl rfl (va_recv hK hP (ci := 2) (q0 := 6) rfl rfl)) rfl rfl hl.1 rfl (lv_room (Nat.le_of_ble_eq_true rfl)) dX2_goesOnWith_70 ⟨Nat.zero_le _, Nat.zero_le _⟩) hP hD hS hA rfl rfl rfl (by decide) (fun ok_16 H locs hP hD hS => ?_)
      have hP : va_P (dC, dI) vwCl [(o_read_holds, .inl (cI, 9, .inl vo_read_holds)), (o_read_takes, .inl (cI, 9, .inl vo_read_takes)), (o_read_shares, .inl (cI, 27, .inl vo_read_shares)), (o, .inr (2, [.ref o_read, .int u15])), (o_read, .inr (3, [.ref o_read_kinds, .ref o_read_holds, .ref o_read_takes, .ref o_read_shareCounts, .ref o_read_shares, .int u16])), (o_read_kinds, .inl (cI, 9, .inl u17)), (o_read_shareCounts, .inl (cI, 9, .inl u18))] H := hP
      have hD : va_D A [(o_read_holds, .inl (cI, 9, .inl vo_read_holds)), (o_read_takes, .inl (cI, 9, .inl vo_read_takes)), (o_read_shares, .inl (cI, 27, .inl vo_read_shares)), (o, .inr (2, [.ref o_read, .int u15])), (o_read, .inr (3, [.ref o_read_kinds, .ref o_read_holds, .ref o_read_takes, .ref o_read_shareCounts, .ref o_read_shares, .int u16])), (o_read_kinds, .inl (cI, 9, .inl u17)), (o_read_shareCounts, .inl (cI, 9, .inl u18))] := hD
      obtain ⟨k_17, k_18, k_19, k_20⟩ := ok_16
      refine lv_if_eq (tgt := 80) hx hb dX2_goesOnWith_73 (by decide) (fun c_21 => ?_) (fun c_21 => ?_)
      · replace hT := cutT c_21 hT
        have g_48 := zeqT (rfl : (r14).toInt = _) (by decide : ((0 : Int32)).toInt = 0) c_21
        refine lv_iconst (v := (0 : Int32)) hx hb dX2_goesOnWith_80 (by decide) ?_
        have hP9 := hP
        have hD9 := hD
        have hS9 := hS
        have hT : ((0 : Int32), u15, u16, u17, vo_read_holds, vo_read_takes, u18, vo_read_shares) = (r, qo_place, qo_read_size, qo_read_kinds, qo_read_holds, qo_read_takes, qo_read_shareCounts, qo_read_shares) := hT
        cases hT
        subst hQ
        exact zz_zret hx hb hr rfl [3, 4, 5, 0, 1, 6, 2] hK hP9 hD9 hS9 rfl rfl ⟨(Or.inl rfl), (by first | assumption | omega), (by first | assumption | omega), (by first | assumption | omega)⟩ hlocks dX2_goesOnWith_81
      · replace hT := cutF c_21 hT
        have g_49 := zeqF (rfl : (r14).toInt = _) (by decide : ((0 : Int32)).toInt = 0) c_21
        refine lv_iconst (v := (1 : Int32)) hx hb dX2_goesOnWith_76 (by decide) ?_
        refine lv_goto (tgt := 81) hx hb dX2_goesOnWith_77 (by decide) ?_
        have hP9 := hP
        have hD9 := hD
        have hS9 := hS
        have hT : ((1 : Int32), u15, u16, u17, vo_read_holds, vo_read_takes, u18, vo_read_shares) = (r, qo_place, qo_read_size, qo_read_kinds, qo_read_holds, qo_read_takes, qo_read_shareCounts, qo_read_shares) := hT
        cases hT
        subst hQ
        exact zz_zret hx hb hr rfl [3, 4, 5, 0, 1, 6, 2] hK hP9 hD9 hS9 rfl rfl ⟨(Or.inr rfl), (by first | assumption | omega), (by first | assumption | omega), (by first | assumption | omega)⟩ hlocks dX2_goesOnWith_81
  replace hT := cutF c_11 hT
  have g_50 := zeqF (rfl : (vo_place).toInt = _) (by decide : ((2 : Int32)).toInt = 2) c_11
  refine lv_tableOut (tgt := 82) hx hb dX2_goesOnWith_4 (by omega) (by decide) ?_
  refine lv_aload_n hx hb dX2_goesOnWith_82 rfl (lv_at hl 0 rfl) ?_
  refine lv_iload_n hx hb dX2_goesOnWith_83 rfl (lv_at hl 1 rfl) ?_
  obtain ⟨r19, u20, u21, ev_22⟩ : ∃ x0 x1 x2, (m_X2_readsShare vo_read_size vo_read_shareCounts vo_read_shares p1) = (x0, x1, x2) := ⟨_, _, _, rfl⟩
  replace hT := cut3_n ev_22 hT
  refine zz_ci [0, 1, 5, 6] [2, 3, 4] (wr := [(o_read_kinds, .inl (cI, 9, .inl vo_read_kinds)), (o_read_holds, .inl (cI, 9, .inl vo_read_holds)), (o_read_takes, .inl (cI, 9, .inl vo_read_takes))]) (w1 := [(o, .inr (2, [.ref o_read, .int vo_place])), (o_read, .inr (3, [.ref o_read_kinds, .ref o_read_holds, .ref o_read_takes, .ref o_read_shareCounts, .ref o_read_shares, .int vo_read_size])), (o_read_shareCounts, .inl (cI, 9, .inl u20)), (o_read_shares, .inl (cI, 27, .inl u21))]) (va_runV (As := [.int p1]) (rest := []) ⟨hx, hb, hml, hown, hts⟩ (k_X2_readsShare l dC dI cI cJ cC H.size o o_read o_read_kinds o_read_holds o_read_takes o_read_shareCounts o_read_shares vo_place vo_read_size vo_read_shareCounts vo_read_shares p1 r19 u20 u21 ev_22 hr0 hr9 hrc) (cwV 1 hts gX2_goesOnWith_X2_readsShare rfl rfl rfl (by decide +kernel) ⟨Nat.le_of_ble_eq_true rfl, Nat.le_of_ble_eq_true rfl⟩) (zz_preV [0, 1, 5, 6] hK hP hD rfl rfl (va_recv hK hP (ci := 2) (q0 := 0) rfl rfl)) rfl rfl hl.1 rfl (lv_room (Nat.le_of_ble_eq_true rfl)) dX2_goesOnWith_84 ⟨Nat.zero_le _, Nat.zero_le _⟩) hP hD hS hA rfl rfl rfl (by decide) (fun ok_23 H locs hP hD hS => ?_)
  have hP : va_P (dC, dI) vwCl [(o_read_kinds, .inl (cI, 9, .inl vo_read_kinds)), (o_read_holds, .inl (cI, 9, .inl vo_read_holds)), (o_read_takes, .inl (cI, 9, .inl vo_read_takes)), (o, .inr (2, [.ref o_read, .int vo_place])), (o_read, .inr (3, [.ref o_read_kinds, .ref o_read_holds, .ref o_read_takes, .ref o_read_shareCounts, .ref o_read_shares, .int vo_read_size])), (o_read_shareCounts, .inl (cI, 9, .inl u20)), (o_read_shares, .inl (cI, 27, .inl u21))] H := hP
  have hD : va_D A [(o_read_kinds, .inl (cI, 9, .inl vo_read_kinds)), (o_read_holds, .inl (cI, 9, .inl vo_read_holds)), (o_read_takes, .inl (cI, 9, .inl vo_read_takes)), (o, .inr (2, [.ref o_read, .int vo_place])), (o_read, .inr (3, [.ref o_read_kinds, .ref o_read_holds, .ref o_read_takes, .ref o_read_shareCounts, .ref o_read_shares, .int vo_read_size])), (o_read_shareCounts, .inl (cI, 9, .inl u20)), (o_read_shares, .inl (cI, 27, .inl u21))] := hD
  obtain ⟨k_24, k_25⟩ := ok_23
  refine lv_if_ne (tgt := 105) hx hb dX2_goesOnWith_87 (by decide) (fun c_26 => ?_) (fun c_26 => ?_)
  · replace hT := cutF c_26 hT
    have g_51 := zeqF (rfl : (r19).toInt = _) (by decide : ((0 : Int32)).toInt = 0) c_26
    refine lv_iconst (v := (1 : Int32)) hx hb dX2_goesOnWith_105 (by decide) ?_
    refine lv_goto (tgt := 110) hx hb dX2_goesOnWith_106 (by decide) ?_
    have hP9 := hP
    have hD9 := hD
    have hS9 := hS
    have hT : ((1 : Int32), vo_place, vo_read_size, vo_read_kinds, vo_read_holds, vo_read_takes, u20, u21) = (r, qo_place, qo_read_size, qo_read_kinds, qo_read_holds, qo_read_takes, qo_read_shareCounts, qo_read_shares) := hT
    cases hT
    subst hQ
    exact zz_zret hx hb hr rfl [3, 4, 0, 1, 2, 5, 6] hK hP9 hD9 hS9 rfl rfl ⟨(Or.inr rfl), (by first | assumption | omega), (by first | assumption | omega), (by first | assumption | omega)⟩ hlocks dX2_goesOnWith_110
  · replace hT := cutT c_26 hT
    have g_52 := zeqT (rfl : (r19).toInt = _) (by decide : ((0 : Int32)).toInt = 0) c_26
    refine lv_aload_n hx hb dX2_goesOnWith_90 rfl (lv_at hl 0 rfl) ?_
    obtain ⟨r22, ev_27⟩ : ∃ x0, (m_X2_mayEndGlass vo_place vo_read_size u20) = x0 := ⟨_, rfl⟩
    replace hT := cut_n ev_27 hT
    refine zz_ci [3, 4, 5] [0, 1, 2, 6] (wr := [(o_read_kinds, .inl (cI, 9, .inl vo_read_kinds)), (o_read_holds, .inl (cI, 9, .inl vo_read_holds)), (o_read_takes, .inl (cI, 9, .inl vo_read_takes)), (o_read_shares, .inl (cI, 27, .inl u21))]) (w1 := [(o, .inr (2, [.ref o_read, .int vo_place])), (o_read, .inr (3, [.ref o_read_kinds, .ref o_read_holds, .ref o_read_takes, .ref o_read_shareCounts, .ref o_read_shares, .int vo_read_size])), (o_read_shareCounts, .inl (cI, 9, .inl u20))]) (va_runV (As := []) (rest := []) ⟨hx, hb, hml, hown, hts⟩ (k_X2_mayEndGlass l dC dI cI cJ cC H.size o o_read o_read_kinds o_read_holds o_read_takes o_read_shareCounts o_read_shares vo_place vo_read_size u20 r22 ev_27 hr9 k_25) (cwV 0 hts gX2_goesOnWith_X2_mayEndGlass rfl rfl rfl (by decide +kernel) ⟨Nat.le_of_ble_eq_true rfl, Nat.le_of_ble_eq_true rfl⟩) (zz_preV [3, 4, 5] hK hP hD rfl rfl (va_recv hK hP (ci := 2) (q0 := 3) rfl rfl)) rfl rfl hl.1 rfl (lv_room (Nat.le_of_ble_eq_true rfl)) dX2_goesOnWith_91 ⟨Nat.zero_le _, Nat.zero_le _⟩) hP hD hS hA rfl rfl rfl (by decide) (fun ok_28 H locs hP hD hS => ?_)
    have hP : va_P (dC, dI) vwCl [(o_read_kinds, .inl (cI, 9, .inl vo_read_kinds)), (o_read_holds, .inl (cI, 9, .inl vo_read_holds)), (o_read_takes, .inl (cI, 9, .inl vo_read_takes)), (o_read_shares, .inl (cI, 27, .inl u21)), (o, .inr (2, [.ref o_read, .int vo_place])), (o_read, .inr (3, [.ref o_read_kinds, .ref o_read_holds, .ref o_read_takes, .ref o_read_shareCounts, .ref o_read_shares, .int vo_read_size])), (o_read_shareCounts, .inl (cI, 9, .inl u20))] H := hP
    have hD : va_D A [(o_read_kinds, .inl (cI, 9, .inl vo_read_kinds)), (o_read_holds, .inl (cI, 9, .inl vo_read_holds)), (o_read_takes, .inl (cI, 9, .inl vo_read_takes)), (o_read_shares, .inl (cI, 27, .inl u21)), (o, .inr (2, [.ref o_read, .int vo_place])), (o_read, .inr (3, [.ref o_read_kinds, .ref o_read_holds, .ref o_read_takes, .ref o_read_shareCounts, .ref o_read_shares, .int vo_read_size])), (o_read_shareCounts, .inl (cI, 9, .inl u20))] := hD
    refine lv_if_eq (tgt := 109) hx hb dX2_goesOnWith_94 (by decide) (fun c_29 => ?_) (fun c_29 => ?_)
    · replace hT := cutT c_29 hT
      have g_53 := zeqT (rfl : (r22).toInt = _) (by decide : ((0 : Int32)).toInt = 0) c_29
      refine lv_iconst (v := (0 : Int32)) hx hb dX2_goesOnWith_109 (by decide) ?_
      have hP9 := hP
      have hD9 := hD
      have hS9 := hS
      have hT : ((0 : Int32), vo_place, vo_read_size, vo_read_kinds, vo_read_holds, vo_read_takes, u20, u21) = (r, qo_place, qo_read_size, qo_read_kinds, qo_read_holds, qo_read_takes, qo_read_shareCounts, qo_read_shares) := hT
      cases hT
      subst hQ
      exact zz_zret hx hb hr rfl [4, 5, 0, 1, 2, 6, 3] hK hP9 hD9 hS9 rfl rfl ⟨(Or.inl rfl), (by first | assumption | omega), (by first | assumption | omega), (by first | assumption | omega)⟩ hlocks dX2_goesOnWith_110
    · replace hT := cutF c_29 hT
      have g_54 := zeqF (rfl : (r22).toInt = _) (by decide : ((0 : Int32)).toInt = 0) c_29
      refine lv_aload_n hx hb dX2_goesOnWith_97 rfl (lv_at hl 0 rfl) ?_
      refine lv_iload_n hx hb dX2_goesOnWith_98 rfl (lv_at hl 1 rfl) ?_
      obtain ⟨r23, u24, u25, u26, u27, ev_30⟩ : ∃ x0 x1 x2 x3 x4, (m_X2_readsNext vo_place vo_read_size vo_read_kinds u20 p1) = (x0, x1, x2, x3, x4) := ⟨_, _, _, _, _, rfl⟩
      replace hT := cut5_n ev_30 hT
      refine zz_ci [4, 5, 0, 6] [1, 2, 3] (wr := [(o_read_holds, .inl (cI, 9, .inl vo_read_holds)), (o_read_takes, .inl (cI, 9, .inl vo_read_takes)), (o_read_shares, .inl (cI, 27, .inl u21))]) (w1 := [(o, .inr (2, [.ref o_read, .int u24])), (o_read, .inr (3, [.ref o_read_kinds, .ref o_read_holds, .ref o_read_takes, .ref o_read_shareCounts, .ref o_read_shares, .int u25])), (o_read_kinds, .inl (cI, 9, .inl u26)), (o_read_shareCounts, .inl (cI, 9, .inl u27))]) (va_runV (As := [.int p1]) (rest := []) ⟨hx, hb, hml, hown, hts⟩ (k_X2_readsNext l dC dI cI cJ cC H.size o o_read o_read_kinds o_read_holds o_read_takes o_read_shareCounts o_read_shares vo_place vo_read_size vo_read_kinds u20 p1 r23 u24 u25 u26 u27 ev_30 hr0 hr9 k_25) (cwV 1 hts gX2_goesOnWith_X2_readsNext rfl rfl rfl (by decide +kernel) ⟨Nat.le_of_ble_eq_true rfl, Nat.le_of_ble_eq_true rfl⟩) (zz_preV [4, 5, 0, 6] hK hP hD rfl rfl (va_recv hK hP (ci := 2) (q0 := 4) rfl rfl)) rfl rfl hl.1 rfl (lv_room (Nat.le_of_ble_eq_true rfl)) dX2_goesOnWith_99 ⟨Nat.zero_le _, Nat.zero_le _⟩) hP hD hS hA rfl rfl rfl (by decide) (fun ok_31 H locs hP hD hS => ?_)
      have hP : va_P (dC, dI) vwCl [(o_read_holds, .inl (cI, 9, .inl vo_read_holds)), (o_read_takes, .inl (cI, 9, .inl vo_read_takes)), (o_read_shares, .inl (cI, 27, .inl u21)), (o, .inr (2, [.ref o_read, .int u24])), (o_read, .inr (3, [.ref o_read_kinds, .ref o_read_holds, .ref o_read_takes, .ref o_read_shareCounts, .ref o_read_shares, .int u25])), (o_read_kinds, .inl (cI, 9, .inl u26)), (o_read_shareCounts, .inl (cI, 9, .inl u27))] H := hP
      have hD : va_D A [(o_read_holds, .inl (cI, 9, .inl vo_read_holds)), (o_read_takes, .inl (cI, 9, .inl vo_read_takes)), (o_read_shares, .inl (cI, 27, .inl u21)), (o, .inr (2, [.ref o_read, .int u24])), (o_read, .inr (3, [.ref o_read_kinds, .ref o_read_holds, .ref o_read_takes, .ref o_read_shareCounts, .ref o_read_shares, .int u25])), (o_read_kinds, .inl (cI, 9, .inl u26)), (o_read_shareCounts, .inl (cI, 9, .inl u27))] := hD
      obtain ⟨k_32, k_33, k_34, k_35⟩ := ok_31
      refine lv_if_eq (tgt := 109) hx hb dX2_goesOnWith_102 (by decide) (fun c_36 => ?_) (fun c_36 => ?_)
      · replace hT := cutT c_36 hT
        have g_55 := zeqT (rfl : (r23).toInt = _) (by decide : ((0 : Int32)).toInt = 0) c_36
        refine lv_iconst (v := (0 : Int32)) hx hb dX2_goesOnWith_109 (by decide) ?_
        have hP9 := hP
        have hD9 := hD
        have hS9 := hS
        have hT : ((0 : Int32), u24, u25, u26, vo_read_holds, vo_read_takes, u27, u21) = (r, qo_place, qo_read_size, qo_read_kinds, qo_read_holds, qo_read_takes, qo_read_shareCounts, qo_read_shares) := hT
        cases hT
        subst hQ
        exact zz_zret hx hb hr rfl [3, 4, 5, 0, 1, 6, 2] hK hP9 hD9 hS9 rfl rfl ⟨(Or.inl rfl), (by first | assumption | omega), (by first | assumption | omega), (by first | assumption | omega)⟩ hlocks dX2_goesOnWith_110
      · replace hT := cutF c_36 hT
        have g_56 := zeqF (rfl : (r23).toInt = _) (by decide : ((0 : Int32)).toInt = 0) c_36
        refine lv_iconst (v := (1 : Int32)) hx hb dX2_goesOnWith_105 (by decide) ?_
        refine lv_goto (tgt := 110) hx hb dX2_goesOnWith_106 (by decide) ?_
        have hP9 := hP
        have hD9 := hD
        have hS9 := hS
        have hT : ((1 : Int32), u24, u25, u26, vo_read_holds, vo_read_takes, u27, u21) = (r, qo_place, qo_read_size, qo_read_kinds, qo_read_holds, qo_read_takes, qo_read_shareCounts, qo_read_shares) := hT
        cases hT
        subst hQ
        exact zz_zret hx hb hr rfl [3, 4, 5, 0, 1, 6, 2] hK hP9 hD9 hS9 rfl rfl ⟨(Or.inr rfl), (by first | assumption | omega), (by first | assumption | omega), (by first | assumption | omega)⟩ hlocks dX2_goesOnWith_110

def m_X2_mayEnd (vo_place : Int32) (vo_read_size : Int32) (vo_read_shareCounts : Nat → Int32) (vo_read_shares : Nat → Int32) : Int32 :=
 cut (m_X2_mayEndGlass vo_place vo_read_size vo_read_shareCounts) (fun (r1 : Int32) =>
 if r1 = (0 : Int32) then
  (0 : Int32)
 else
  cut (m_X3_hasAllShares vo_read_size vo_read_shareCounts vo_read_shares) (fun (r2 : Int32) =>
  if r2 = (0 : Int32) then
   (0 : Int32)
  else
   (1 : Int32)))
set_option maxHeartbeats 4000000 in
set_option maxRecDepth 100000 in
theorem k_X2_mayEnd (l : Launch) (dC : Nat → ClassId) (dI : Nat → Nat → Nat) (cI cJ cC : ClassId) (sz : Nat) (o o_read o_read_kinds o_read_holds o_read_takes o_read_shareCounts o_read_shares : Nat) (vo_place : Int32) (vo_read_size : Int32) (vo_read_shareCounts : Nat → Int32) (vo_read_shares : Nat → Int32) (r : Int32) (hT : m_X2_mayEnd vo_place vo_read_size vo_read_shareCounts vo_read_shares = r) (hr0 : 0 ≤ vo_read_size.toInt) (hr9 : vo_read_size.toInt ≤ 9) (hrc : zSc vo_read_shareCounts) : Met l yX2_mayEnd wsX2_mayEnd ({ frames := 3, cells := 0, slots := 0, locals := 66 }) (zPc [.ref o] (dC, dI) (zTy cI cJ cC) [(o, .inr (2, [.ref o_read, .int vo_place])), (o_read, .inr (3, [.ref o_read_kinds, .ref o_read_holds, .ref o_read_takes, .ref o_read_shareCounts, .ref o_read_shares, .int vo_read_size])), (o_read_shareCounts, .inl (cI, 9, .inl vo_read_shareCounts)), (o_read_shares, .inl (cI, 27, .inl vo_read_shares))] sz) (zQi r ((zB01 r)) (dC, dI) (zTy cI cJ cC) [(o, .inr (2, [.ref o_read, .int vo_place])), (o_read, .inr (3, [.ref o_read_kinds, .ref o_read_holds, .ref o_read_takes, .ref o_read_shareCounts, .ref o_read_shares, .int vo_read_size])), (o_read_shareCounts, .inl (cI, 9, .inl vo_read_shareCounts)), (o_read_shares, .inl (cI, 27, .inl vo_read_shares))] (va_A [(o, .inr (2, [.ref o_read, .int vo_place])), (o_read, .inr (3, [.ref o_read_kinds, .ref o_read_holds, .ref o_read_takes, .ref o_read_shareCounts, .ref o_read_shares, .int vo_read_size])), (o_read_shareCounts, .inl (cI, 9, .inl vo_read_shareCounts)), (o_read_shares, .inl (cI, 27, .inl vo_read_shares))] sz)) 0 0 (va_A [(o, .inr (2, [.ref o_read, .int vo_place])), (o_read, .inr (3, [.ref o_read_kinds, .ref o_read_holds, .ref o_read_takes, .ref o_read_shareCounts, .ref o_read_shares, .int vo_read_size])), (o_read_shareCounts, .inl (cI, 9, .inl vo_read_shareCounts)), (o_read_shares, .inl (cI, 27, .inl vo_read_shares))] sz) := by
  refine Met.ofW (cc := cX2_mayEnd) (maxL := 1) (ret := (some .boolean)) (by decide) rfl ?_
  intro p e s m args below meth c s₁ B hml hv
  obtain ⟨rfl, hsz, hP, hK, hD0⟩ := hv
  have hx := B.exec
  have hb := B.bytes
  have hr := B.returns
  have hts := atoms_spec (ws := wsX2_mayEnd) B.pre
  have hown : s.vm.findClass RX2 = some m.cls := findClass_of_methodNamed B.named
  have hlocks := B.notSynchronized
  subst hsz
  have hD := hD0.self (sz := s.heap.size)
  generalize hAe : va_A [(o, .inr (2, [.ref o_read, .int vo_place])), (o_read, .inr (3, [.ref o_read_kinds, .ref o_read_holds, .ref o_read_takes, .ref o_read_shareCounts, .ref o_read_shares, .int vo_read_size])), (o_read_shareCounts, .inl (cI, 9, .inl vo_read_shareCounts)), (o_read_shares, .inl (cI, 27, .inl vo_read_shares))] s.heap.size = A at hD ⊢
  have hA : ∀ q : Nat, s.heap.size ≤ q → A q := fun q h => by rw [← hAe]; exact Or.inr h
  have hS : va_S A s.heap s.heap [] := va_S.rf
  have hP : va_P (dC, dI) vwCl [(o, .inr (2, [.ref o_read, .int vo_place])), (o_read, .inr (3, [.ref o_read_kinds, .ref o_read_holds, .ref o_read_takes, .ref o_read_shareCounts, .ref o_read_shares, .int vo_read_size])), (o_read_shareCounts, .inl (cI, 9, .inl vo_read_shareCounts)), (o_read_shares, .inl (cI, 27, .inl vo_read_shares))] s.heap := hP
  have hK : va_K (dC, dI) vwCl (zTy cI cJ cC) s := hK
  have hl := lv_entry ([.ref o]) (n := 1) (Nat.le_of_ble_eq_true rfl)
  rw [lg_entry_eq]
  generalize (lg_sl ([.ref o]) ++ List.replicate (1 - (lg_sl ([.ref o])).length) Slot.unset).toArray = ls at hl ⊢
  have hl : lv_has ls 1 [(0, .ref o)] := hl
  refine zz_start hP hS (fun Q hQ H locs hP hS => ?_)
  have hwX2 : ∀ w ∈ u_ws RX2 TX2 2, w ∈ wsX2_mayEnd := by decide +kernel
  have hf_12 := (hts (.fieldLink RX2 12 "PouredTopmost$Reader" "read" "LPouredTopmost$Stand;") (by decide +kernel))
  refine lv_aload_n hx hb dX2_mayEnd_0 rfl (lv_at hl 0 rfl) ?_
  obtain ⟨r1, ev_1⟩ : ∃ x0, (m_X2_mayEndGlass vo_place vo_read_size vo_read_shareCounts) = x0 := ⟨_, rfl⟩
  replace hT := cut_n ev_1 hT
  refine zz_ci [0, 1, 2] [3] (wr := [(o_read_shares, .inl (cI, 27, .inl vo_read_shares))]) (w1 := [(o, .inr (2, [.ref o_read, .int vo_place])), (o_read, .inr (3, [.ref o_read_kinds, .ref o_read_holds, .ref o_read_takes, .ref o_read_shareCounts, .ref o_read_shares, .int vo_read_size])), (o_read_shareCounts, .inl (cI, 9, .inl vo_read_shareCounts))]) (va_runV (As := []) (rest := []) ⟨hx, hb, hml, hown, hts⟩ (k_X2_mayEndGlass l dC dI cI cJ cC H.size o o_read o_read_kinds o_read_holds o_read_takes o_read_shareCounts o_read_shares vo_place vo_read_size vo_read_shareCounts r1 ev_1 hr9 hrc) (cwV 0 hts gX2_mayEnd_X2_mayEndGlass rfl rfl rfl (by decide +kernel) ⟨Nat.le_of_ble_eq_true rfl, Nat.le_of_ble_eq_true rfl⟩) (zz_preV [0, 1, 2] hK hP hD rfl rfl (va_recv hK hP (ci := 2) (q0 := 0) rfl rfl)) rfl rfl hl.1 rfl (lv_room (Nat.le_of_ble_eq_true rfl)) dX2_mayEnd_1 ⟨Nat.zero_le _, Nat.zero_le _⟩) hP hD hS hA rfl rfl rfl (by decide) (fun ok_2 H locs hP hD hS => ?_)
  have hP : va_P (dC, dI) vwCl [(o_read_shares, .inl (cI, 27, .inl vo_read_shares)), (o, .inr (2, [.ref o_read, .int vo_place])), (o_read, .inr (3, [.ref o_read_kinds, .ref o_read_holds, .ref o_read_takes, .ref o_read_shareCounts, .ref o_read_shares, .int vo_read_size])), (o_read_shareCounts, .inl (cI, 9, .inl vo_read_shareCounts))] H := hP
  have hD : va_D A [(o_read_shares, .inl (cI, 27, .inl vo_read_shares)), (o, .inr (2, [.ref o_read, .int vo_place])), (o_read, .inr (3, [.ref o_read_kinds, .ref o_read_holds, .ref o_read_takes, .ref o_read_shareCounts, .ref o_read_shares, .int vo_read_size])), (o_read_shareCounts, .inl (cI, 9, .inl vo_read_shareCounts))] := hD
  refine lv_if_eq (tgt := 21) hx hb dX2_mayEnd_4 (by decide) (fun c_3 => ?_) (fun c_3 => ?_)
  · replace hT := cutT c_3 hT
    have g_7 := zeqT (rfl : (r1).toInt = _) (by decide : ((0 : Int32)).toInt = 0) c_3
    refine lv_iconst (v := (0 : Int32)) hx hb dX2_mayEnd_21 (by decide) ?_
    have hP9 := hP
    have hD9 := hD
    have hS9 := hS
    have hT : (0 : Int32) = r := hT
    subst hT
    subst hQ
    exact zz_zret hx hb hr rfl [1, 2, 3, 0] hK hP9 hD9 hS9 rfl rfl (Or.inl rfl) hlocks dX2_mayEnd_22
  · replace hT := cutF c_3 hT
    have g_8 := zeqF (rfl : (r1).toInt = _) (by decide : ((0 : Int32)).toInt = 0) c_3
    refine lv_aload_n hx hb dX2_mayEnd_7 rfl (lv_at hl 0 rfl) ?_
    refine va_get (D := (dC, dI)) (ci := 2) (v := .ref o_read) (C := RX2) (T := TX2) (N := 2) hx hb hts hwX2 hown hK hP 1 rfl rfl 0 (by decide) hf_12 (fun _ h9 => h9) rfl dX2_mayEnd_8 ?_
    obtain ⟨r2, ev_4⟩ : ∃ x0, (m_X3_hasAllShares vo_read_size vo_read_shareCounts vo_read_shares) = x0 := ⟨_, rfl⟩
    replace hT := cut_n ev_4 hT
    refine zz_ci [2, 3, 0] [1] (wr := [(o, .inr (2, [.ref o_read, .int vo_place]))]) (w1 := [(o_read, .inr (3, [.ref o_read_kinds, .ref o_read_holds, .ref o_read_takes, .ref o_read_shareCounts, .ref o_read_shares, .int vo_read_size])), (o_read_shareCounts, .inl (cI, 9, .inl vo_read_shareCounts)), (o_read_shares, .inl (cI, 27, .inl vo_read_shares))]) (va_runV (As := []) (rest := []) ⟨hx, hb, hml, hown, hts⟩ (k_X3_hasAllShares l dC dI cI cJ cC H.size o_read o_read_kinds o_read_holds o_read_takes o_read_shareCounts o_read_shares vo_read_size vo_read_shareCounts vo_read_shares r2 ev_4 hr0 hr9 hrc) (cwV 0 hts gX2_mayEnd_X3_hasAllShares rfl rfl rfl (by decide +kernel) ⟨Nat.le_of_ble_eq_true rfl, Nat.le_of_ble_eq_true rfl⟩) (zz_preV [2, 3, 0] hK hP hD rfl rfl (va_recv hK hP (ci := 3) (q0 := 2) rfl rfl)) rfl rfl hl.1 rfl (lv_room (Nat.le_of_ble_eq_true rfl)) dX2_mayEnd_11 ⟨Nat.zero_le _, Nat.zero_le _⟩) hP hD hS hA rfl rfl rfl (by decide) (fun ok_5 H locs hP hD hS => ?_)
    have hP : va_P (dC, dI) vwCl [(o, .inr (2, [.ref o_read, .int vo_place])), (o_read, .inr (3, [.ref o_read_kinds, .ref o_read_holds, .ref o_read_takes, .ref o_read_shareCounts, .ref o_read_shares, .int vo_read_size])), (o_read_shareCounts, .inl (cI, 9, .inl vo_read_shareCounts)), (o_read_shares, .inl (cI, 27, .inl vo_read_shares))] H := hP
    have hD : va_D A [(o, .inr (2, [.ref o_read, .int vo_place])), (o_read, .inr (3, [.ref o_read_kinds, .ref o_read_holds, .ref o_read_takes, .ref o_read_shareCounts, .ref o_read_shares, .int vo_read_size])), (o_read_shareCounts, .inl (cI, 9, .inl vo_read_shareCounts)), (o_read_shares, .inl (cI, 27, .inl vo_read_shares))] := hD
    refine lv_if_eq (tgt := 21) hx hb dX2_mayEnd_14 (by decide) (fun c_6 => ?_) (fun c_6 => ?_)
    · replace hT := cutT c_6 hT
      have g_9 := zeqT (rfl : (r2).toInt = _) (by decide : ((0 : Int32)).toInt = 0) c_6
      refine lv_iconst (v := (0 : Int32)) hx hb dX2_mayEnd_21 (by decide) ?_
      have hP9 := hP
      have hD9 := hD
      have hS9 := hS
      have hT : (0 : Int32) = r := hT
      subst hT
      subst hQ
      exact zz_zret hx hb hr rfl [0, 1, 2, 3] hK hP9 hD9 hS9 rfl rfl (Or.inl rfl) hlocks dX2_mayEnd_22
    · replace hT := cutF c_6 hT
      have g_10 := zeqF (rfl : (r2).toInt = _) (by decide : ((0 : Int32)).toInt = 0) c_6
      refine lv_iconst (v := (1 : Int32)) hx hb dX2_mayEnd_17 (by decide) ?_
      refine lv_goto (tgt := 22) hx hb dX2_mayEnd_18 (by decide) ?_
      have hP9 := hP
      have hD9 := hD
      have hS9 := hS
      have hT : (1 : Int32) = r := hT
      subst hT
      subst hQ
      exact zz_zret hx hb hr rfl [0, 1, 2, 3] hK hP9 hD9 hS9 rfl rfl (Or.inr rfl) hlocks dX2_mayEnd_22

def rs_X5_fault_2 (vo_page_size : Int32) (x13 : Int32) (x14 : Int32) (x15 : Int32) (x16 : Nat → Int32) (x17 : Nat → Int32) (x18 : Nat → Int32) (x19 : Nat → Int32) (x20 : Nat → Int32) : Int32 × Int32 × Int32 × (Nat → Int32) × (Nat → Int32) × (Nat → Int32) × (Nat → Int32) × (Nat → Int32) :=
 (vo_page_size, x14, x15, x16, x17, x18, x19, x20)
def lp_X5_fault_2 (vo_page_size : Int32) (ct2 : Int32 → Int32 → Int32 → (Nat → Int32) → (Nat → Int32) → (Nat → Int32) → (Nat → Int32) → (Nat → Int32) → (Int32 × Int32 × Int32 × (Nat → Int32) × (Nat → Int32) × (Nat → Int32) × (Nat → Int32) × (Nat → Int32))) (vo_page_codes : Nat → Int32) : Nat → Int32 → Int32 → Int32 → (Nat → Int32) → (Nat → Int32) → (Nat → Int32) → (Nat → Int32) → (Nat → Int32) → (Int32 × Int32 × Int32 × (Nat → Int32) × (Nat → Int32) × (Nat → Int32) × (Nat → Int32) × (Nat → Int32))
  | 0, _, _, _, _, _, _, _, _ => default
  | k + 1, b5, b6, b7, b8, b9, b10, b11, b12 =>
  if vo_page_size ≤ b5 then
   (ct2 b5 b6 b7 b8 b9 b10 b11 b12)
  else
   cut (m_X1_codeAt vo_page_size vo_page_codes b5) (fun (r21 : Int32) =>
   cut8 (m_X2_goesOnWith b6 b7 b8 b9 b10 b11 b12 r21) (fun (r22 : Int32) (u23 : Int32) (u24 : Int32) (u25 : Nat → Int32) (u26 : Nat → Int32) (u27 : Nat → Int32) (u28 : Nat → Int32) (u29 : Nat → Int32) =>
   if r22 = (0 : Int32) then
    (b5, u23, u24, u25, u26, u27, u28, u29)
   else
    cut (b5 + (1 : Int32)) (fun (v30 : Int32) =>
    (lp_X5_fault_2 vo_page_size ct2 vo_page_codes k v30 u23 u24 u25 u26 u27 u28 u29))))
def m_X5_fault (vo_page_size : Int32) (vo_page_codes : Nat → Int32) (vo_reader_read_kinds : Nat → Int32) (vo_reader_read_holds : Nat → Int32) (vo_reader_read_takes : Nat → Int32) (vo_reader_read_shareCounts : Nat → Int32) (vo_reader_read_shares : Nat → Int32) : Int32 × Int32 × Int32 × (Nat → Int32) × (Nat → Int32) × (Nat → Int32) × (Nat → Int32) × (Nat → Int32) :=
 cut4 (m_X2_start vo_reader_read_kinds vo_reader_read_shareCounts) (fun (u1 : Int32) (u2 : Int32) (u3 : Nat → Int32) (u4 : Nat → Int32) =>
 (lp_X5_fault_2 vo_page_size (rs_X5_fault_2 vo_page_size) vo_page_codes 72 (0 : Int32) u1 u2 u3 vo_reader_read_holds vo_reader_read_takes u4 vo_reader_read_shares))
set_option maxHeartbeats 4000000 in
set_option maxRecDepth 100000 in
theorem k_X5_fault (l : Launch) (dC : Nat → ClassId) (dI : Nat → Nat → Nat) (cI cJ cC : ClassId) (sz : Nat) (aK aV : Nat) (o o_page o_reader o_stand o_trialStand o_table o_kept o_trial o_page_codes o_reader_read o_reader_read_kinds o_reader_read_holds o_reader_read_takes o_reader_read_shareCounts o_reader_read_shares : Nat) (vo_imageKept : Int32) (vo_towersRead : Int32) (vo_changesDone : Int32) (vo_page_size : Int32) (vo_page_codes : Nat → Int32) (vo_reader_place : Int32) (vo_reader_read_size : Int32) (vo_reader_read_kinds : Nat → Int32) (vo_reader_read_holds : Nat → Int32) (vo_reader_read_takes : Nat → Int32) (vo_reader_read_shareCounts : Nat → Int32) (vo_reader_read_shares : Nat → Int32) (r : Int32) (qo_reader_place : Int32) (qo_reader_read_size : Int32) (qo_reader_read_kinds : Nat → Int32) (qo_reader_read_holds : Nat → Int32) (qo_reader_read_takes : Nat → Int32) (qo_reader_read_shareCounts : Nat → Int32) (qo_reader_read_shares : Nat → Int32) (hT : m_X5_fault vo_page_size vo_page_codes vo_reader_read_kinds vo_reader_read_holds vo_reader_read_takes vo_reader_read_shareCounts vo_reader_read_shares = (r, qo_reader_place, qo_reader_read_size, qo_reader_read_kinds, qo_reader_read_holds, qo_reader_read_takes, qo_reader_read_shareCounts, qo_reader_read_shares)) (hp0 : 0 ≤ vo_page_size.toInt) (hp70 : vo_page_size.toInt ≤ 70) (hpc : ∀ j, narrow .char (.int (vo_page_codes j)) = .int (vo_page_codes j)) (hrc : zSc vo_reader_read_shareCounts) : Met l yX5_fault wsX5_fault ({ frames := 6, cells := 0, slots := 0, locals := 149 }) (zPcX aK aV [.ref o] (dC, dI) (zTy cI cJ cC) [(o, .inr (5, [.ref o_page, .ref o_reader, .ref o_stand, .ref o_trialStand, .ref o_table, .ref o_kept, .ref o_trial, .int vo_imageKept, .int vo_towersRead, .int vo_changesDone])), (o_page, .inr (1, [.ref o_page_codes, .int vo_page_size])), (o_page_codes, .inl (cC, 70, .inl vo_page_codes)), (o_reader, .inr (2, [.ref o_reader_read, .int vo_reader_place])), (o_reader_read, .inr (3, [.ref o_reader_read_kinds, .ref o_reader_read_holds, .ref o_reader_read_takes, .ref o_reader_read_shareCounts, .ref o_reader_read_shares, .int vo_reader_read_size])), (o_reader_read_kinds, .inl (cI, 9, .inl vo_reader_read_kinds)), (o_reader_read_holds, .inl (cI, 9, .inl vo_reader_read_holds)), (o_reader_read_takes, .inl (cI, 9, .inl vo_reader_read_takes)), (o_reader_read_shareCounts, .inl (cI, 9, .inl vo_reader_read_shareCounts)), (o_reader_read_shares, .inl (cI, 27, .inl vo_reader_read_shares))] sz) (zQi r ((0 ≤ qo_reader_read_size.toInt) ∧ (qo_reader_read_size.toInt ≤ 9) ∧ (zSc qo_reader_read_shareCounts)) (dC, dI) (zTy cI cJ cC) [(o, .inr (5, [.ref o_page, .ref o_reader, .ref o_stand, .ref o_trialStand, .ref o_table, .ref o_kept, .ref o_trial, .int vo_imageKept, .int vo_towersRead, .int vo_changesDone])), (o_page, .inr (1, [.ref o_page_codes, .int vo_page_size])), (o_page_codes, .inl (cC, 70, .inl vo_page_codes)), (o_reader, .inr (2, [.ref o_reader_read, .int qo_reader_place])), (o_reader_read, .inr (3, [.ref o_reader_read_kinds, .ref o_reader_read_holds, .ref o_reader_read_takes, .ref o_reader_read_shareCounts, .ref o_reader_read_shares, .int qo_reader_read_size])), (o_reader_read_kinds, .inl (cI, 9, .inl qo_reader_read_kinds)), (o_reader_read_holds, .inl (cI, 9, .inl qo_reader_read_holds)), (o_reader_read_takes, .inl (cI, 9, .inl qo_reader_read_takes)), (o_reader_read_shareCounts, .inl (cI, 9, .inl qo_reader_read_shareCounts)), (o_reader_read_shares, .inl (cI, 27, .inl qo_reader_read_shares))] (va_A [(o, .inr (5, [.ref o_page, .ref o_reader, .ref o_stand, .ref o_trialStand, .ref o_table, .ref o_kept, .ref o_trial, .int vo_imageKept, .int vo_towersRead, .int vo_changesDone])), (o_page, .inr (1, [.ref o_page_codes, .int vo_page_size])), (o_page_codes, .inl (cC, 70, .inl vo_page_codes)), (o_reader, .inr (2, [.ref o_reader_read, .int vo_reader_place])), (o_reader_read, .inr (3, [.ref o_reader_read_kinds, .ref o_reader_read_holds, .ref o_reader_read_takes, .ref o_reader_read_shareCounts, .ref o_reader_read_shares, .int vo_reader_read_size])), (o_reader_read_kinds, .inl (cI, 9, .inl vo_reader_read_kinds)), (o_reader_read_holds, .inl (cI, 9, .inl vo_reader_read_holds)), (o_reader_read_takes, .inl (cI, 9, .inl vo_reader_read_takes)), (o_reader_read_shareCounts, .inl (cI, 9, .inl vo_reader_read_shareCounts)), (o_reader_read_shares, .inl (cI, 27, .inl vo_reader_read_shares))] sz)) 0 0 (va_A [(o, .inr (5, [.ref o_page, .ref o_reader, .ref o_stand, .ref o_trialStand, .ref o_table, .ref o_kept, .ref o_trial, .int vo_imageKept, .int vo_towersRead, .int vo_changesDone])), (o_page, .inr (1, [.ref o_page_codes, .int vo_page_size])), (o_page_codes, .inl (cC, 70, .inl vo_page_codes)), (o_reader, .inr (2, [.ref o_reader_read, .int vo_reader_place])), (o_reader_read, .inr (3, [.ref o_reader_read_kinds, .ref o_reader_read_holds, .ref o_reader_read_takes, .ref o_reader_read_shareCounts, .ref o_reader_read_shares, .int vo_reader_read_size])), (o_reader_read_kinds, .inl (cI, 9, .inl vo_reader_read_kinds)), (o_reader_read_holds, .inl (cI, 9, .inl vo_reader_read_holds)), (o_reader_read_takes, .inl (cI, 9, .inl vo_reader_read_takes)), (o_reader_read_shareCounts, .inl (cI, 9, .inl vo_reader_read_shareCounts)), (o_reader_read_shares, .inl (cI, 27, .inl vo_reader_read_shares))] sz) := by
  refine Met.ofW (cc := cX5_fault) (maxL := 2) (ret := (some .int)) (by decide) rfl ?_
  intro p e s m args below meth c s₁ B hml hv
  obtain ⟨rfl, hsz, hP, hK, hD0, hX⟩ := hv
  have hx := B.exec
  have hb := B.bytes
  have hr := B.returns
  have hts := atoms_spec (ws := wsX5_fault) B.pre
  have hown : s.vm.findClass RX5 = some m.cls := findClass_of_methodNamed B.named
  have hlocks := B.notSynchronized
  subst hsz
  have hD := hD0.self (sz := s.heap.size)
  generalize hAe : va_A [(o, .inr (5, [.ref o_page, .ref o_reader, .ref o_stand, .ref o_trialStand, .ref o_table, .ref o_kept, .ref o_trial, .int vo_imageKept, .int vo_towersRead, .int vo_changesDone])), (o_page, .inr (1, [.ref o_page_codes, .int vo_page_size])), (o_page_codes, .inl (cC, 70, .inl vo_page_codes)), (o_reader, .inr (2, [.ref o_reader_read, .int vo_reader_place])), (o_reader_read, .inr (3, [.ref o_reader_read_kinds, .ref o_reader_read_holds, .ref o_reader_read_takes, .ref o_reader_read_shareCounts, .ref o_reader_read_shares, .int vo_reader_read_size])), (o_reader_read_kinds, .inl (cI, 9, .inl vo_reader_read_kinds)), (o_reader_read_holds, .inl (cI, 9, .inl vo_reader_read_holds)), (o_reader_read_takes, .inl (cI, 9, .inl vo_reader_read_takes)), (o_reader_read_shareCounts, .inl (cI, 9, .inl vo_reader_read_shareCounts)), (o_reader_read_shares, .inl (cI, 27, .inl vo_reader_read_shares))] s.heap.size = A at hD hX ⊢
  have hA : ∀ q : Nat, s.heap.size ≤ q → A q := fun q h => by rw [← hAe]; exact Or.inr h
  have hS : va_S A s.heap s.heap [] := va_S.rf
  have hP : va_P (dC, dI) vwCl [(o, .inr (5, [.ref o_page, .ref o_reader, .ref o_stand, .ref o_trialStand, .ref o_table, .ref o_kept, .ref o_trial, .int vo_imageKept, .int vo_towersRead, .int vo_changesDone])), (o_page, .inr (1, [.ref o_page_codes, .int vo_page_size])), (o_page_codes, .inl (cC, 70, .inl vo_page_codes)), (o_reader, .inr (2, [.ref o_reader_read, .int vo_reader_place])), (o_reader_read, .inr (3, [.ref o_reader_read_kinds, .ref o_reader_read_holds, .ref o_reader_read_takes, .ref o_reader_read_shareCounts, .ref o_reader_read_shares, .int vo_reader_read_size])), (o_reader_read_kinds, .inl (cI, 9, .inl vo_reader_read_kinds)), (o_reader_read_holds, .inl (cI, 9, .inl vo_reader_read_holds)), (o_reader_read_takes, .inl (cI, 9, .inl vo_reader_read_takes)), (o_reader_read_shareCounts, .inl (cI, 9, .inl vo_reader_read_shareCounts)), (o_reader_read_shares, .inl (cI, 27, .inl vo_reader_read_shares))] s.heap := hP
  have hK : va_K (dC, dI) vwCl (zTy cI cJ cC) s := hK
  have hl := lv_entry ([.ref o]) (n := 2) (Nat.le_of_ble_eq_true rfl)
  rw [lg_entry_eq]
  generalize (lg_sl ([.ref o]) ++ List.replicate (2 - (lg_sl ([.ref o])).length) Slot.unset).toArray = ls at hl ⊢
  have hl : lv_has ls 2 [(0, .ref o)] := hl
  refine zz_start hP hS (fun Q hQ H locs hP hS => ?_)
  have hwX1 : ∀ w ∈ u_ws RX1 TX1 2, w ∈ wsX5_fault := by decide +kernel
  have hwX5 : ∀ w ∈ u_ws RX5 TX5 10, w ∈ wsX5_fault := by decide +kernel
  have hf_12 := (hts (.fieldLink RX5 12 "PouredTopmost" "page" "LPouredTopmost$Page;") (by decide +kernel))
  have hf_19 := (hts (.fieldLink RX5 19 "PouredTopmost" "reader" "LPouredTopmost$Reader;") (by decide +kernel))
  have hf_54 := (hts (.fieldLink RX5 54 "PouredTopmost$Page" "size" "I") (by decide +kernel))
  refine lv_aload_n hx hb dX5_fault_0 rfl (lv_at hl 0 rfl) ?_
  refine va_get (D := (dC, dI)) (ci := 5) (v := .ref o_reader) (C := RX5) (T := TX5) (N := 10) hx hb hts hwX5 hown hK hP 0 rfl rfl 1 (by decide) hf_19 (fun _ h9 => h9) rfl dX5_fault_1 ?_
  obtain ⟨u1, u2, u3, u4, ev_1⟩ : ∃ x0 x1 x2 x3, (m_X2_start vo_reader_read_kinds vo_reader_read_shareCounts) = (x0, x1, x2, x3) := ⟨_, _, _, _, rfl⟩
  replace hT := cut4_n ev_1 hT
  refine zz_cv [3, 4, 5, 8] [0, 1, 2, 6, 7, 9] (wr := [(o, .inr (5, [.ref o_page, .ref o_reader, .ref o_stand, .ref o_trialStand, .ref o_table, .ref o_kept, .ref o_trial, .int vo_imageKept, .int vo_towersRead, .int vo_changesDone])), (o_page, .inr (1, [.ref o_page_codes, .int vo_page_size])), (o_page_codes, .inl (cC, 70, .inl vo_page_codes)), (o_reader_read_holds, .inl (cI, 9, .inl vo_reader_read_holds)), (o_reader_read_takes, .inl (cI, 9, .inl vo_reader_read_takes)), (o_reader_read_shares, .inl (cI, 27, .inl vo_reader_read_shares))]) (w1 := [(o_reader, .inr (2, [.ref o_reader_read, .int u1])), (o_reader_read, .inr (3, [.ref o_reader_read_kinds, .ref o_reader_read_holds, .ref o_reader_read_takes, .ref o_reader_read_shareCounts, .ref o_reader_read_shares, .int u2])), (o_reader_read_kinds, .inl (cI, 9, .inl u3)), (o_reader_read_shareCounts, .inl (cI, 9, .inl u4))]) (va_runV (As := []) (rest := []) ⟨hx, hb, hml, hown, hts⟩ (k_X2_start l dC dI cI cJ cC H.size o_reader o_reader_read o_reader_read_kinds o_reader_read_holds o_reader_read_takes o_reader_read_shareCounts o_reader_read_shares vo_reader_place vo_reader_read_size vo_reader_read_kinds vo_reader_read_shareCounts u1 u2 u3 u4 ev_1 hrc) (cwV 0 hts gX5_fault_X2_start rfl rfl rfl (by decide +kernel) ⟨Nat.le_of_ble_eq_true rfl, Nat.le_of_ble_eq_true rfl⟩) (zz_preV [3, 4, 5, 8] hK hP hD rfl rfl (va_recv hK hP (ci := 2) (q0 := 3) rfl rfl)) rfl rfl hl.1 rfl (lv_room (Nat.le_of_ble_eq_true rfl)) dX5_fault_4 ⟨Nat.zero_le _, Nat.zero_le _⟩) hP hD hS hA rfl rfl rfl (by decide) (fun ok_2 H locs hP hD hS => ?_)
  have hP : va_P (dC, dI) vwCl [(o, .inr (5, [.ref o_page, .ref o_reader, .ref o_stand, .ref o_trialStand, .ref o_table, .ref o_kept, .ref o_trial, .int vo_imageKept, .int vo_towersRead, .int vo_changesDone])), (o_page, .inr (1, [.ref o_page_codes, .int vo_page_size])), (o_page_codes, .inl (cC, 70, .inl vo_page_codes)), (o_reader_read_holds, .inl (cI, 9, .inl vo_reader_read_holds)), (o_reader_read_takes, .inl (cI, 9, .inl vo_reader_read_takes)), (o_reader_read_shares, .inl (cI, 27, .inl vo_reader_read_shares)), (o_reader, .inr (2, [.ref o_reader_read, .int u1])), (o_reader_read, .inr (3, [.ref o_reader_read_kinds, .ref o_reader_read_holds, .ref o_reader_read_takes, .ref o_reader_read_shareCounts, .ref o_reader_read_shares, .int u2])), (o_reader_read_kinds, .inl (cI, 9, .inl u3)), (o_reader_read_shareCounts, .inl (cI, 9, .inl u4))] H := hP
  have hD : va_D A [(o, .inr (5, [.ref o_page, .ref o_reader, .ref o_stand, .ref o_trialStand, .ref o_table, .ref o_kept, .ref o_trial, .int vo_imageKept, .int vo_towersRead, .int vo_changesDone])), (o_page, .inr (1, [.ref o_page_codes, .int vo_page_size])), (o_page_codes, .inl (cC, 70, .inl vo_page_codes)), (o_reader_read_holds, .inl (cI, 9, .inl vo_reader_read_holds)), (o_reader_read_takes, .inl (cI, 9, .inl vo_reader_read_takes)), (o_reader_read_shares, .inl (cI, 27, .inl vo_reader_read_shares)), (o_reader, .inr (2, [.ref o_reader_read, .int u1])), (o_reader_read, .inr (3, [.ref o_reader_read_kinds, .ref o_reader_read_holds, .ref o_reader_read_takes, .ref o_reader_read_shareCounts, .ref o_reader_read_shares, .int u2])), (o_reader_read_kinds, .inl (cI, 9, .inl u3)), (o_reader_read_shareCounts, .inl (cI, 9, .inl u4))] := hD
  obtain ⟨k_3, k_4, k_5⟩ := ok_2
  refine lv_iconst (v := (0 : Int32)) hx hb dX5_fault_7 (by decide) ?_
  refine lv_istore_n (lv' := [(1, .int (0 : Int32)), (0, .ref o)]) hx hb dX5_fault_8 rfl hl (by decide) rfl (fun ls hl => ?_)
  have hz_16 : ((0 : Int32)).toInt = 0 := by decide
  refine zz_loop (α := Int32 × Int32 × Int32 × (Nat → Int32) × (Nat → Int32) × (Nat → Int32) × (Nat → Int32) × (Nat → Int32)) 46 (fun k a H locs ls => (0 ≤ a.1.toInt) ∧ (a.1.toInt ≤ vo_page_size.toInt) ∧ (0 ≤ a.2.2.1.toInt) ∧ (a.2.2.1.toInt ≤ 9) ∧ (zSc a.2.2.2.2.2.2.1) ∧ (vo_page_size.toInt - a.1.toInt < ((k : Nat) : Int)) ∧ lp_X5_fault_2 vo_page_size (rs_X5_fault_2 vo_page_size) vo_page_codes k a.1 a.2.1 a.2.2.1 a.2.2.2.1 a.2.2.2.2.1 a.2.2.2.2.2.1 a.2.2.2.2.2.2.1 a.2.2.2.2.2.2.2 = (r, qo_reader_place, qo_reader_read_size, qo_reader_read_kinds, qo_reader_read_holds, qo_reader_read_takes, qo_reader_read_shareCounts, qo_reader_read_shares) ∧ va_P (dC, dI) vwCl [(o, .inr (5, [.ref o_page, .ref o_reader, .ref o_stand, .ref o_trialStand, .ref o_table, .ref o_kept, .ref o_trial, .int vo_imageKept, .int vo_towersRead, .int vo_changesDone])), (o_page, .inr (1, [.ref o_page_codes, .int vo_page_size])), (o_page_codes, .inl (cC, 70, .inl vo_page_codes)), (o_reader_read_holds, .inl (cI, 9, .inl a.2.2.2.2.1)), (o_reader_read_takes, .inl (cI, 9, .inl a.2.2.2.2.2.1)), (o_reader_read_shares, .inl (cI, 27, .inl a.2.2.2.2.2.2.2)), (o_reader, .inr (2, [.ref o_reader_read, .int a.2.1])), (o_reader_read, .inr (3, [.ref o_reader_read_kinds, .ref o_reader_read_holds, .ref o_reader_read_takes, .ref o_reader_read_shareCounts, .ref o_reader_read_shares, .int a.2.2.1])), (o_reader_read_kinds, .inl (cI, 9, .inl a.2.2.2.1)), (o_reader_read_shareCounts, .inl (cI, 9, .inl a.2.2.2.2.2.2.1))] H ∧ va_D A [(o, .inr (5, [.ref o_page, .ref o_reader, .ref o_stand, .ref o_trialStand, .ref o_table, .ref o_kept, .ref o_trial, .int vo_imageKept, .int vo_towersRead, .int vo_changesDone])), (o_page, .inr (1, [.ref o_page_codes, .int vo_page_size])), (o_page_codes, .inl (cC, 70, .inl vo_page_codes)), (o_reader_read_holds, .inl (cI, 9, .inl a.2.2.2.2.1)), (o_reader_read_takes, .inl (cI, 9, .inl a.2.2.2.2.2.1)), (o_reader_read_shares, .inl (cI, 27, .inl a.2.2.2.2.2.2.2)), (o_reader, .inr (2, [.ref o_reader_read, .int a.2.1])), (o_reader_read, .inr (3, [.ref o_reader_read_kinds, .ref o_reader_read_holds, .ref o_reader_read_takes, .ref o_reader_read_shareCounts, .ref o_reader_read_shares, .int a.2.2.1])), (o_reader_read_kinds, .inl (cI, 9, .inl a.2.2.2.1)), (o_reader_read_shareCounts, .inl (cI, 9, .inl a.2.2.2.2.2.2.1))] ∧ va_S A s.heap H locs ∧ lv_has ls 2 [(1, .int a.1), (0, .ref o)]) (fun a H locs ls => (0 ≤ a.1.toInt) ∧ (a.1.toInt ≤ vo_page_size.toInt) ∧ (0 ≤ a.2.2.1.toInt) ∧ (a.2.2.1.toInt ≤ 9) ∧ (zSc a.2.2.2.2.2.2.1) ∧ (rs_X5_fault_2 vo_page_size) a.1 a.2.1 a.2.2.1 a.2.2.2.1 a.2.2.2.2.1 a.2.2.2.2.2.1 a.2.2.2.2.2.2.1 a.2.2.2.2.2.2.2 = (r, qo_reader_place, qo_reader_read_size, qo_reader_read_kinds, qo_reader_read_holds, qo_reader_read_takes, qo_reader_read_shareCounts, qo_reader_read_shares) ∧ va_P (dC, dI) vwCl [(o, .inr (5, [.ref o_page, .ref o_reader, .ref o_stand, .ref o_trialStand, .ref o_table, .ref o_kept, .ref o_trial, .int vo_imageKept, .int vo_towersRead, .int vo_changesDone])), (o_page, .inr (1, [.ref o_page_codes, .int vo_page_size])), (o_page_codes, .inl (cC, 70, .inl vo_page_codes)), (o_reader_read_holds, .inl (cI, 9, .inl a.2.2.2.2.1)), (o_reader_read_takes, .inl (cI, 9, .inl a.2.2.2.2.2.1)), (o_reader_read_shares, .inl (cI, 27, .inl a.2.2.2.2.2.2.2)), (o_reader, .inr (2, [.ref o_reader_read, .int a.2.1])), (o_reader_read, .inr (3, [.ref o_reader_read_kinds, .ref o_reader_read_holds, .ref o_reader_read_takes, .ref o_reader_read_shareCounts, .ref o_reader_read_shares, .int a.2.2.1])), (o_reader_read_kinds, .inl (cI, 9, .inl a.2.2.2.1)), (o_reader_read_shareCounts, .inl (cI, 9, .inl a.2.2.2.2.2.2.1))] H ∧ va_D A [(o, .inr (5, [.ref o_page, .ref o_reader, .ref o_stand, .ref o_trialStand, .ref o_table, .ref o_kept, .ref o_trial, .int vo_imageKept, .int vo_towersRead, .int vo_changesDone])), (o_page, .inr (1, [.ref o_page_codes, .int vo_page_size])), (o_page_codes, .inl (cC, 70, .inl vo_page_codes)), (o_reader_read_holds, .inl (cI, 9, .inl a.2.2.2.2.1)), (o_reader_read_takes, .inl (cI, 9, .inl a.2.2.2.2.2.1)), (o_reader_read_shares, .inl (cI, 27, .inl a.2.2.2.2.2.2.2)), (o_reader, .inr (2, [.ref o_reader_read, .int a.2.1])), (o_reader_read, .inr (3, [.ref o_reader_read_kinds, .ref o_reader_read_holds, .ref o_reader_read_takes, .ref o_reader_read_shareCounts, .ref o_reader_read_shares, .int a.2.2.1])), (o_reader_read_kinds, .inl (cI, 9, .inl a.2.2.2.1)), (o_reader_read_shareCounts, .inl (cI, 9, .inl a.2.2.2.2.2.2.1))] ∧ va_S A s.heap H locs ∧ lv_has ls 2 [(0, .ref o)]) ?_ ?_ ?_ 72 ((0 : Int32), u1, u2, u3, vo_reader_read_holds, vo_reader_read_takes, u4, vo_reader_read_shares) ⟨(by omega : 0 ≤ (0 : Int32).toInt), (by omega : (0 : Int32).toInt ≤ vo_page_size.toInt), (by omega : 0 ≤ u2.toInt), (by omega : u2.toInt ≤ 9), (by assumption : zSc u4), (by omega : vo_page_size.toInt - (0 : Int32).toInt < ((72 : Nat) : Int)), hT, hP.sub [0, 1, 2, 3, 4, 5, 6, 7, 8, 9] rfl, hD.sub [0, 1, 2, 3, 4, 5, 6, 7, 8, 9] rfl rfl, hS, lv_sub hl [0, 1] rfl⟩
  · rintro ⟨x13, x14, x15, x16, x17, x18, x19, x20⟩ H locs ls ⟨i1, j1, hy1, hy2, hy3, hT, hP, hD, hS, hl⟩
    have hP : va_P (dC, dI) vwCl [(o, .inr (5, [.ref o_page, .ref o_reader, .ref o_stand, .ref o_trialStand, .ref o_table, .ref o_kept, .ref o_trial, .int vo_imageKept, .int vo_towersRead, .int vo_changesDone])), (o_page, .inr (1, [.ref o_page_codes, .int vo_page_size])), (o_page_codes, .inl (cC, 70, .inl vo_page_codes)), (o_reader_read_holds, .inl (cI, 9, .inl x17)), (o_reader_read_takes, .inl (cI, 9, .inl x18)), (o_reader_read_shares, .inl (cI, 27, .inl x20)), (o_reader, .inr (2, [.ref o_reader_read, .int x14])), (o_reader_read, .inr (3, [.ref o_reader_read_kinds, .ref o_reader_read_holds, .ref o_reader_read_takes, .ref o_reader_read_shareCounts, .ref o_reader_read_shares, .int x15])), (o_reader_read_kinds, .inl (cI, 9, .inl x16)), (o_reader_read_shareCounts, .inl (cI, 9, .inl x19))] H := hP
    have hD : va_D A [(o, .inr (5, [.ref o_page, .ref o_reader, .ref o_stand, .ref o_trialStand, .ref o_table, .ref o_kept, .ref o_trial, .int vo_imageKept, .int vo_towersRead, .int vo_changesDone])), (o_page, .inr (1, [.ref o_page_codes, .int vo_page_size])), (o_page_codes, .inl (cC, 70, .inl vo_page_codes)), (o_reader_read_holds, .inl (cI, 9, .inl x17)), (o_reader_read_takes, .inl (cI, 9, .inl x18)), (o_reader_read_shares, .inl (cI, 27, .inl x20)), (o_reader, .inr (2, [.ref o_reader_read, .int x14])), (o_reader_read, .inr (3, [.ref o_reader_read_kinds, .ref o_reader_read_holds, .ref o_reader_read_takes, .ref o_reader_read_shareCounts, .ref o_reader_read_shares, .int x15])), (o_reader_read_kinds, .inl (cI, 9, .inl x16)), (o_reader_read_shareCounts, .inl (cI, 9, .inl x19))] := hD
    have hl : lv_has ls 2 [(0, .ref o)] := hl
    have hT : (rs_X5_fault_2 vo_page_size) x13 x14 x15 x16 x17 x18 x19 x20 = (r, qo_reader_place, qo_reader_read_size, qo_reader_read_kinds, qo_reader_read_holds, qo_reader_read_takes, qo_reader_read_shareCounts, qo_reader_read_shares) := hT
    have i1 : 0 ≤ x13.toInt := i1
    have j1 : x13.toInt ≤ vo_page_size.toInt := j1
    have hy1 : 0 ≤ x15.toInt := hy1
    have hy2 : x15.toInt ≤ 9 := hy2
    have hy3 : zSc x19 := hy3
    refine lv_aload_n hx hb dX5_fault_46 rfl (lv_at hl 0 rfl) ?_
    refine va_get (D := (dC, dI)) (ci := 5) (v := .ref o_page) (C := RX5) (T := TX5) (N := 10) hx hb hts hwX5 hown hK hP 0 rfl rfl 0 (by decide) hf_12 (fun _ h9 => h9) rfl dX5_fault_47 ?_
    refine va_get (D := (dC, dI)) (ci := 1) (v := .int vo_page_size) (C := RX1) (T := TX1) (N := 2) hx hb hts hwX1 hown hK hP 1 rfl rfl 1 (by decide) hf_54 (fun _ h9 => h9) rfl dX5_fault_50 ?_
    have hP9 := hP
    have hD9 := hD
    have hS9 := hS
    have hT : (vo_page_size, x14, x15, x16, x17, x18, x19, x20) = (r, qo_reader_place, qo_reader_read_size, qo_reader_read_kinds, qo_reader_read_holds, qo_reader_read_takes, qo_reader_read_shareCounts, qo_reader_read_shares) := hT
    cases hT
    subst hQ
    exact zz_iret hx hb hr [0, 1, 2, 6, 7, 8, 3, 4, 9, 5] hK hP9 hD9 hS9 rfl rfl ⟨(by first | assumption | omega), (by first | assumption | omega), (by first | assumption | omega)⟩ hlocks dX5_fault_53
  · rintro ⟨b5, b6, b7, b8, b9, b10, b11, b12⟩ H locs ls ⟨i1, j1, hy1, hy2, hy3, hm, -⟩
    try dsimp only at *
    omega
  · intro k2 hex2 ih2
    rintro ⟨b5, b6, b7, b8, b9, b10, b11, b12⟩ H locs ls ⟨i1, j1, hy1, hy2, hy3, hm2, hT, hP, hD, hS, hl⟩
    have hP : va_P (dC, dI) vwCl [(o, .inr (5, [.ref o_page, .ref o_reader, .ref o_stand, .ref o_trialStand, .ref o_table, .ref o_kept, .ref o_trial, .int vo_imageKept, .int vo_towersRead, .int vo_changesDone])), (o_page, .inr (1, [.ref o_page_codes, .int vo_page_size])), (o_page_codes, .inl (cC, 70, .inl vo_page_codes)), (o_reader_read_holds, .inl (cI, 9, .inl b9)), (o_reader_read_takes, .inl (cI, 9, .inl b10)), (o_reader_read_shares, .inl (cI, 27, .inl b12)), (o_reader, .inr (2, [.ref o_reader_read, .int b6])), (o_reader_read, .inr (3, [.ref o_reader_read_kinds, .ref o_reader_read_holds, .ref o_reader_read_takes, .ref o_reader_read_shareCounts, .ref o_reader_read_shares, .int b7])), (o_reader_read_kinds, .inl (cI, 9, .inl b8)), (o_reader_read_shareCounts, .inl (cI, 9, .inl b11))] H := hP
    have hD : va_D A [(o, .inr (5, [.ref o_page, .ref o_reader, .ref o_stand, .ref o_trialStand, .ref o_table, .ref o_kept, .ref o_trial, .int vo_imageKept, .int vo_towersRead, .int vo_changesDone])), (o_page, .inr (1, [.ref o_page_codes, .int vo_page_size])), (o_page_codes, .inl (cC, 70, .inl vo_page_codes)), (o_reader_read_holds, .inl (cI, 9, .inl b9)), (o_reader_read_takes, .inl (cI, 9, .inl b10)), (o_reader_read_shares, .inl (cI, 27, .inl b12)), (o_reader, .inr (2, [.ref o_reader_read, .int b6])), (o_reader_read, .inr (3, [.ref o_reader_read_kinds, .ref o_reader_read_holds, .ref o_reader_read_takes, .ref o_reader_read_shareCounts, .ref o_reader_read_shares, .int b7])), (o_reader_read_kinds, .inl (cI, 9, .inl b8)), (o_reader_read_shareCounts, .inl (cI, 9, .inl b11))] := hD
    have hl : lv_has ls 2 [(1, .int b5), (0, .ref o)] := hl
    have hT : lp_X5_fault_2 vo_page_size (rs_X5_fault_2 vo_page_size) vo_page_codes (k2 + 1) b5 b6 b7 b8 b9 b10 b11 b12 = (r, qo_reader_place, qo_reader_read_size, qo_reader_read_kinds, qo_reader_read_holds, qo_reader_read_takes, qo_reader_read_shareCounts, qo_reader_read_shares) := hT
    have i1 : 0 ≤ b5.toInt := i1
    have j1 : b5.toInt ≤ vo_page_size.toInt := j1
    have hy1 : 0 ≤ b7.toInt := hy1
    have hy2 : b7.toInt ≤ 9 := hy2
    have hy3 : zSc b11 := hy3
    have hm2 : vo_page_size.toInt - b5.toInt < (((k2 + 1) : Nat) : Int) := hm2
    try simp only [Int.natCast_add, Int.natCast_one, Nat.cast_add, Nat.cast_one] at hm2
    refine lv_iload_n hx hb dX5_fault_9 rfl (lv_at hl 0 rfl) ?_
    refine lv_aload_n hx hb dX5_fault_10 rfl (lv_at hl 1 rfl) ?_
    refine va_get (D := (dC, dI)) (ci := 5) (v := .ref o_page) (C := RX5) (T := TX5) (N := 10) hx hb hts hwX5 hown hK hP 0 rfl rfl 0 (by decide) hf_12 (fun _ h9 => h9) rfl dX5_fault_11 ?_
    refine va_get (D := (dC, dI)) (ci := 1) (v := .int vo_page_size) (C := RX1) (T := TX1) (N := 2) hx hb hts hwX1 hown hK hP 1 rfl rfl 1 (by decide) hf_54 (fun _ h9 => h9) rfl dX5_fault_14 ?_
    refine lv_icmp_ge (tgt := 46) hx hb dX5_fault_17 (by decide) (fun c_6 => ?_) (fun c_6 => ?_)
    · replace hT := cutT c_6 hT
      have g_17 := zleT (rfl : (vo_page_size).toInt = _) (rfl : (b5).toInt = _) c_6
      exact hex2 (b5, b6, b7, b8, b9, b10, b11, b12) _ _ _ ⟨(by omega : 0 ≤ b5.toInt), (by omega : b5.toInt ≤ vo_page_size.toInt), (by omega : 0 ≤ b7.toInt), (by omega : b7.toInt ≤ 9), (by assumption : zSc b11), hT, hP.sub [0, 1, 2, 3, 4, 5, 6, 7, 8, 9] rfl, hD.sub [0, 1, 2, 3, 4, 5, 6, 7, 8, 9] rfl rfl, hS, lv_sub hl [1] rfl⟩
    · replace hT := cutF c_6 hT
      have g_18 := zleF (rfl : (vo_page_size).toInt = _) (rfl : (b5).toInt = _) c_6
      refine lv_aload_n hx hb dX5_fault_20 rfl (lv_at hl 1 rfl) ?_
      refine va_get (D := (dC, dI)) (ci := 5) (v := .ref o_reader) (C := RX5) (T := TX5) (N := 10) hx hb hts hwX5 hown hK hP 0 rfl rfl 1 (by decide) hf_19 (fun _ h9 => h9) rfl dX5_fault_21 ?_
      refine lv_aload_n hx hb dX5_fault_24 rfl (lv_at hl 1 rfl) ?_
      refine va_get (D := (dC, dI)) (ci := 5) (v := .ref o_page) (C := RX5) (T := TX5) (N := 10) hx hb hts hwX5 hown hK hP 0 rfl rfl 0 (by decide) hf_12 (fun _ h9 => h9) rfl dX5_fault_25 ?_
      refine lv_iload_n hx hb dX5_fault_28 rfl (lv_at hl 0 rfl) ?_
      obtain ⟨r21, ev_7⟩ : ∃ x0, (m_X1_codeAt vo_page_size vo_page_codes b5) = x0 := ⟨_, rfl⟩
      replace hT := cut_n ev_7 hT
      refine zz_ci [1, 2] [0, 3, 4, 5, 6, 7, 8, 9] (wr := [(o, .inr (5, [.ref o_page, .ref o_reader, .ref o_stand, .ref o_trialStand, .ref o_table, .ref o_kept, .ref o_trial, .int vo_imageKept, .int vo_towersRead, .int vo_changesDone])), (o_reader_read_holds, .inl (cI, 9, .inl b9)), (o_reader_read_takes, .inl (cI, 9, .inl b10)), (o_reader_read_shares, .inl (cI, 27, .inl b12)), (o_reader, .inr (2, [.ref o_reader_read, .int b6])), (o_reader_read, .inr (3, [.ref o_reader_read_kinds, .ref o_reader_read_holds, .ref o_reader_read_takes, .ref o_reader_read_shareCounts, .ref o_reader_read_shares, .int b7])), (o_reader_read_kinds, .inl (cI, 9, .inl b8)), (o_reader_read_shareCounts, .inl (cI, 9, .inl b11))]) (w1 := [(o_page, .inr (1, [.ref o_page_codes, .int vo_page_size])), (o_page_codes, .inl (cC, 70, .inl vo_page_codes))]) (va_runV (As := [.int b5]) (rest := [.ref o_reader]) ⟨hx, hb, hml, hown, hts⟩ (k_X1_codeAt l dC dI cI cJ cC H.size o_page o_page_codes vo_page_size vo_page_codes b5 r21 ev_7 hp70 hpc) (cwV 1 hts gX5_fault_X1_codeAt rfl rfl rfl (by decide +kernel) ⟨Nat.le_of_ble_eq_true rfl, Nat.le_of_ble_eq_true rfl⟩) (zz_preV [1, 2] hK hP hD rfl rfl (va_recv hK hP (ci := 1) (q0 := 1) rfl rfl)) rfl rfl hl.1 rfl (lv_room (Nat.le_of_ble_eq_true rfl)) dX5_fault_29 ⟨Nat.zero_le _, Nat.zero_le _⟩) hP hD hS hA rfl rfl rfl (by decide) (fun ok_8 H locs hP hD hS => ?_)
      have hP : va_P (dC, dI) vwCl [(o, .inr (5, [.ref o_page, .ref o_reader, .ref o_stand, .ref o_trialStand, .ref o_table, .ref o_kept, .ref o_trial, .int vo_imageKept, .int vo_towersRead, .int vo_changesDone])), (o_reader_read_holds, .inl (cI, 9, .inl b9)), (o_reader_read_takes, .inl (cI, 9, .inl b10)), (o_reader_read_shares, .inl (cI, 27, .inl b12)), (o_reader, .inr (2, [.ref o_reader_read, .int b6])), (o_reader_read, .inr (3, [.ref o_reader_read_kinds, .ref o_reader_read_holds, .ref o_reader_read_takes, .ref o_reader_read_shareCounts, .ref o_reader_read_shares, .int b7])), (o_reader_read_kinds, .inl (cI, 9, .inl b8)), (o_reader_read_shareCounts, .inl (cI, 9, .inl b11)), (o_page, .inr (1, [.ref o_page_codes, .int vo_page_size])), (o_page_codes, .inl (cC, 70, .inl vo_page_codes))] H := hP
      have hD : va_D A [(o, .inr (5, [.ref o_page, .ref o_reader, .ref o_stand, .ref o_trialStand, .ref o_table, .ref o_kept, .ref o_trial, .int vo_imageKept, .int vo_towersRead, .int vo_changesDone])), (o_reader_read_holds, .inl (cI, 9, .inl b9)), (o_reader_read_takes, .inl (cI, 9, .inl b10)), (o_reader_read_shares, .inl (cI, 27, .inl b12)), (o_reader, .inr (2, [.ref o_reader_read, .int b6])), (o_reader_read, .inr (3, [.ref o_reader_read_kinds, .ref o_reader_read_holds, .ref o_reader_read_takes, .ref o_reader_read_shareCounts, .ref o_reader_read_shares, .int b7])), (o_reader_read_kinds, .inl (cI, 9, .inl b8)), (o_reader_read_shareCounts, .inl (cI, 9, .inl b11)), (o_page, .inr (1, [.ref o_page_codes, .int vo_page_size])), (o_page_codes, .inl (cC, 70, .inl vo_page_codes))] := hD
      obtain ⟨r22, u23, u24, u25, u26, u27, u28, u29, ev_9⟩ : ∃ x0 x1 x2 x3 x4 x5 x6 x7, (m_X2_goesOnWith b6 b7 b8 b9 b10 b11 b12 r21) = (x0, x1, x2, x3, x4, x5, x6, x7) := ⟨_, _, _, _, _, _, _, _, rfl⟩
      replace hT := cut8_n ev_9 hT
      refine zz_ci [4, 5, 6, 1, 2, 7, 3] [0, 8, 9] (wr := [(o, .inr (5, [.ref o_page, .ref o_reader, .ref o_stand, .ref o_trialStand, .ref o_table, .ref o_kept, .ref o_trial, .int vo_imageKept, .int vo_towersRead, .int vo_changesDone])), (o_page, .inr (1, [.ref o_page_codes, .int vo_page_size])), (o_page_codes, .inl (cC, 70, .inl vo_page_codes))]) (w1 := [(o_reader, .inr (2, [.ref o_reader_read, .int u23])), (o_reader_read, .inr (3, [.ref o_reader_read_kinds, .ref o_reader_read_holds, .ref o_reader_read_takes, .ref o_reader_read_shareCounts, .ref o_reader_read_shares, .int u24])), (o_reader_read_kinds, .inl (cI, 9, .inl u25)), (o_reader_read_holds, .inl (cI, 9, .inl u26)), (o_reader_read_takes, .inl (cI, 9, .inl u27)), (o_reader_read_shareCounts, .inl (cI, 9, .inl u28)), (o_reader_read_shares, .inl (cI, 27, .inl u29))]) (va_runV (As := [.int r21]) (rest := []) ⟨hx, hb, hml, hown, hts⟩ (k_X2_goesOnWith l dC dI cI cJ cC H.size aK aV o_reader o_reader_read o_reader_read_kinds o_reader_read_holds o_reader_read_takes o_reader_read_shareCounts o_reader_read_shares b6 b7 b8 b9 b10 b11 b12 r21 r22 u23 u24 u25 u26 u27 u28 u29 ev_9 (by first | omega | decide) (by first | omega | decide) hy3) (cwV 1 hts gX5_fault_X2_goesOnWith rfl rfl rfl (by decide +kernel) ⟨Nat.le_of_ble_eq_true rfl, Nat.le_of_ble_eq_true rfl⟩) (zz_preVX [4, 5, 6, 1, 2, 7, 3] hK hP hD hS hA hX rfl rfl (va_recv hK hP (ci := 2) (q0 := 4) rfl rfl)) rfl rfl hl.1 rfl (lv_room (Nat.le_of_ble_eq_true rfl)) dX5_fault_32 ⟨Nat.zero_le _, Nat.zero_le _⟩) hP hD hS hA rfl rfl rfl (by decide) (fun ok_10 H locs hP hD hS => ?_)
      have hP : va_P (dC, dI) vwCl [(o, .inr (5, [.ref o_page, .ref o_reader, .ref o_stand, .ref o_trialStand, .ref o_table, .ref o_kept, .ref o_trial, .int vo_imageKept, .int vo_towersRead, .int vo_changesDone])), (o_page, .inr (1, [.ref o_page_codes, .int vo_page_size])), (o_page_codes, .inl (cC, 70, .inl vo_page_codes)), (o_reader, .inr (2, [.ref o_reader_read, .int u23])), (o_reader_read, .inr (3, [.ref o_reader_read_kinds, .ref o_reader_read_holds, .ref o_reader_read_takes, .ref o_reader_read_shareCounts, .ref o_reader_read_shares, .int u24])), (o_reader_read_kinds, .inl (cI, 9, .inl u25)), (o_reader_read_holds, .inl (cI, 9, .inl u26)), (o_reader_read_takes, .inl (cI, 9, .inl u27)), (o_reader_read_shareCounts, .inl (cI, 9, .inl u28)), (o_reader_read_shares, .inl (cI, 27, .inl u29))] H := hP
      have hD : va_D A [(o, .inr (5, [.ref o_page, .ref o_reader, .ref o_stand, .ref o_trialStand, .ref o_table, .ref o_kept, .ref o_trial, .int vo_imageKept, .int vo_towersRead, .int vo_changesDone])), (o_page, .inr (1, [.ref o_page_codes, .int vo_page_size])), (o_page_codes, .inl (cC, 70, .inl vo_page_codes)), (o_reader, .inr (2, [.ref o_reader_read, .int u23])), (o_reader_read, .inr (3, [.ref o_reader_read_kinds, .ref o_reader_read_holds, .ref o_reader_read_takes, .ref o_reader_read_shareCounts, .ref o_reader_read_shares, .int u24])), (o_reader_read_kinds, .inl (cI, 9, .inl u25)), (o_reader_read_holds, .inl (cI, 9, .inl u26)), (o_reader_read_takes, .inl (cI, 9, .inl u27)), (o_reader_read_shareCounts, .inl (cI, 9, .inl u28)), (o_reader_read_shares, .inl (cI, 27, .inl u29))] := hD
      obtain ⟨k_11, k_12, k_13, k_14⟩ := ok_10
      refine lv_if_ne (tgt := 40) hx hb dX5_fault_35 (by decide) (fun c_15 => ?_) (fun c_15 => ?_)
      · replace hT := cutF c_15 hT
        have g_19 := zeqF (rfl : (r22).toInt = _) (by decide : ((0 : Int32)).toInt = 0) c_15
        obtain ⟨v30, ev30⟩ : ∃ y : Int32, (b5 + (1 : Int32)) = y := ⟨_, rfl⟩
        replace hT := cut_n ev30 hT
        try have fv30 := zaddE (rfl : (b5).toInt = _) (by decide : ((1 : Int32)).toInt = 1) ev30 (by omega) (by omega)
        refine lv_iinc (v := v30) (lv' := [(1, .int v30), (0, .ref o)]) hx hb dX5_fault_40 hl (k := 0) rfl (by rw [← ev30]; rfl) (by decide) rfl (fun ls hl => ?_)
        refine lv_goto (tgt := 9) hx hb dX5_fault_43 (by decide) ?_
        exact ih2 (v30, u23, u24, u25, u26, u27, u28, u29) _ _ _ ⟨(by omega : 0 ≤ v30.toInt), (by omega : v30.toInt ≤ vo_page_size.toInt), (by omega : 0 ≤ u24.toInt), (by omega : u24.toInt ≤ 9), (by assumption : zSc u28), (by omega : vo_page_size.toInt - v30.toInt < ((k2 : Nat) : Int)), hT, hP.sub [0, 1, 2, 6, 7, 9, 3, 4, 5, 8] rfl, hD.sub [0, 1, 2, 6, 7, 9, 3, 4, 5, 8] rfl rfl, hS, lv_sub hl [0, 1] rfl⟩
      · replace hT := cutT c_15 hT
        have g_20 := zeqT (rfl : (r22).toInt = _) (by decide : ((0 : Int32)).toInt = 0) c_15
        refine lv_iload_n hx hb dX5_fault_38 rfl (lv_at hl 0 rfl) ?_
        have hP9 := hP
        have hD9 := hD
        have hS9 := hS
        have hT : (b5, u23, u24, u25, u26, u27, u28, u29) = (r, qo_reader_place, qo_reader_read_size, qo_reader_read_kinds, qo_reader_read_holds, qo_reader_read_takes, qo_reader_read_shareCounts, qo_reader_read_shares) := hT
        cases hT
        subst hQ
        exact zz_iret hx hb hr [0, 1, 2, 3, 4, 5, 6, 7, 8, 9] hK hP9 hD9 hS9 rfl rfl ⟨(by first | assumption | omega), (by first | assumption | omega), (by first | assumption | omega)⟩ hlocks dX5_fault_39

def m_X5_tower (vo_imageKept : Int32) (vo_towersRead : Int32) (vo_page_size : Int32) (vo_page_codes : Nat → Int32) (vo_reader_read_kinds : Nat → Int32) (vo_reader_read_holds : Nat → Int32) (vo_reader_read_takes : Nat → Int32) (vo_reader_read_shareCounts : Nat → Int32) (vo_reader_read_shares : Nat → Int32) (vo_stand_size : Int32) (vo_stand_kinds : Nat → Int32) (vo_stand_holds : Nat → Int32) (vo_stand_takes : Nat → Int32) (vo_stand_shareCounts : Nat → Int32) (vo_stand_shares : Nat → Int32) (vo_table_poured : Int32) (vo_table_fill_spilt : Int64) (vo_table_fill_inside : Nat → Int64) (vo_table_drunkFrom : Nat → Int64) (vo_table_turns : Nat → Int32) : Int32 × Int32 × Int32 × Int32 × Int32 × Int32 × (Nat → Int32) × (Nat → Int32) × (Nat → Int32) × (Nat → Int32) × (Nat → Int32) × Int32 × (Nat → Int32) × (Nat → Int32) × (Nat → Int32) × (Nat → Int32) × (Nat → Int32) × Int32 × Int64 × (Nat → Int64) × (Nat → Int64) × (Nat → Int32) :=
 cut8 (m_X5_fault vo_page_size vo_page_codes vo_reader_read_kinds vo_reader_read_holds vo_reader_read_takes vo_reader_read_shareCounts vo_reader_read_shares) (fun (r1 : Int32) (u2 : Int32) (u3 : Int32) (u4 : Nat → Int32) (u5 : Nat → Int32) (u6 : Nat → Int32) (u7 : Nat → Int32) (u8 : Nat → Int32) =>
 if r1 < vo_page_size then
  ((-103 : Int32), vo_imageKept, vo_towersRead, vo_page_size, u2, u3, u4, u5, u6, u7, u8, vo_stand_size, vo_stand_kinds, vo_stand_holds, vo_stand_takes, vo_stand_shareCounts, vo_stand_shares, vo_table_poured, vo_table_fill_spilt, vo_table_fill_inside, vo_table_drunkFrom, vo_table_turns)
 else
  cut (m_X2_mayEnd u2 u3 u7 u8) (fun (r9 : Int32) =>
  if r9 = (0 : Int32) then
   ((-103 : Int32), vo_imageKept, vo_towersRead, vo_page_size, u2, u3, u4, u5, u6, u7, u8, vo_stand_size, vo_stand_kinds, vo_stand_holds, vo_stand_takes, vo_stand_shareCounts, vo_stand_shares, vo_table_poured, vo_table_fill_spilt, vo_table_fill_inside, vo_table_drunkFrom, vo_table_turns)
  else
   cut6 (m_X3_copyFrom vo_stand_kinds vo_stand_holds vo_stand_takes vo_stand_shareCounts vo_stand_shares u3 u4 u5 u6 u7 u8) (fun (u10 : Int32) (u11 : Nat → Int32) (u12 : Nat → Int32) (u13 : Nat → Int32) (u14 : Nat → Int32) (u15 : Nat → Int32) =>
   cut5 (m_X4_makeNew vo_table_fill_inside vo_table_drunkFrom vo_table_turns) (fun (u16 : Int32) (u17 : Int64) (u18 : Nat → Int64) (u19 : Nat → Int64) (u20 : Nat → Int32) =>
   cut (vo_towersRead + (1 : Int32)) (fun (v21 : Int32) =>
   (u10, (0 : Int32), v21, (0 : Int32), u2, u3, u4, u5, u6, u7, u8, u10, u11, u12, u13, u14, u15, u16, u17, u18, u19, u20))))))
set_option maxHeartbeats 4000000 in
set_option maxRecDepth 100000 in
theorem k_X5_tower (l : Launch) (dC : Nat → ClassId) (dI : Nat → Nat → Nat) (cI cJ cC : ClassId) (sz : Nat) (aK aV : Nat) (o o_page o_reader o_stand o_trialStand o_table o_kept o_trial o_page_codes o_reader_read o_reader_read_kinds o_reader_read_holds o_reader_read_takes o_reader_read_shareCounts o_reader_read_shares o_stand_kinds o_stand_holds o_stand_takes o_stand_shareCounts o_stand_shares o_table_fill o_table_drunkFrom o_table_turns o_table_fill_inside : Nat) (vo_imageKept : Int32) (vo_towersRead : Int32) (vo_changesDone : Int32) (vo_page_size : Int32) (vo_page_codes : Nat → Int32) (vo_reader_place : Int32) (vo_reader_read_size : Int32) (vo_reader_read_kinds : Nat → Int32) (vo_reader_read_holds : Nat → Int32) (vo_reader_read_takes : Nat → Int32) (vo_reader_read_shareCounts : Nat → Int32) (vo_reader_read_shares : Nat → Int32) (vo_stand_size : Int32) (vo_stand_kinds : Nat → Int32) (vo_stand_holds : Nat → Int32) (vo_stand_takes : Nat → Int32) (vo_stand_shareCounts : Nat → Int32) (vo_stand_shares : Nat → Int32) (vo_table_poured : Int32) (vo_table_fill_spilt : Int64) (vo_table_fill_inside : Nat → Int64) (vo_table_drunkFrom : Nat → Int64) (vo_table_turns : Nat → Int32) (r : Int32) (qo_imageKept : Int32) (qo_towersRead : Int32) (qo_page_size : Int32) (qo_reader_place : Int32) (qo_reader_read_size : Int32) (qo_reader_read_kinds : Nat → Int32) (qo_reader_read_holds : Nat → Int32) (qo_reader_read_takes : Nat → Int32) (qo_reader_read_shareCounts : Nat → Int32) (qo_reader_read_shares : Nat → Int32) (qo_stand_size : Int32) (qo_stand_kinds : Nat → Int32) (qo_stand_holds : Nat → Int32) (qo_stand_takes : Nat → Int32) (qo_stand_shareCounts : Nat → Int32) (qo_stand_shares : Nat → Int32) (qo_table_poured : Int32) (qo_table_fill_spilt : Int64) (qo_table_fill_inside : Nat → Int64) (qo_table_drunkFrom : Nat → Int64) (qo_table_turns : Nat → Int32) (hT : m_X5_tower vo_imageKept vo_towersRead vo_page_size vo_page_codes vo_reader_read_kinds vo_reader_read_holds vo_reader_read_takes vo_reader_read_shareCounts vo_reader_read_shares vo_stand_size vo_stand_kinds vo_stand_holds vo_stand_takes vo_stand_shareCounts vo_stand_shares vo_table_poured vo_table_fill_spilt vo_table_fill_inside vo_table_drunkFrom vo_table_turns = (r, qo_imageKept, qo_towersRead, qo_page_size, qo_reader_place, qo_reader_read_size, qo_reader_read_kinds, qo_reader_read_holds, qo_reader_read_takes, qo_reader_read_shareCounts, qo_reader_read_shares, qo_stand_size, qo_stand_kinds, qo_stand_holds, qo_stand_takes, qo_stand_shareCounts, qo_stand_shares, qo_table_poured, qo_table_fill_spilt, qo_table_fill_inside, qo_table_drunkFrom, qo_table_turns)) (hp0 : 0 ≤ vo_page_size.toInt) (hp70 : vo_page_size.toInt ≤ 70) (hpc : ∀ j, narrow .char (.int (vo_page_codes j)) = .int (vo_page_codes j)) (hrc : zSc vo_reader_read_shareCounts) (hs0 : 0 ≤ vo_stand_size.toInt) (hs9 : vo_stand_size.toInt ≤ 9) (hsc : zSc vo_stand_shareCounts) : Met l yX5_tower wsX5_tower ({ frames := 7, cells := 0, slots := 0, locals := 170 }) (zPcX aK aV [.ref o] (dC, dI) (zTy cI cJ cC) [(o, .inr (5, [.ref o_page, .ref o_reader, .ref o_stand, .ref o_trialStand, .ref o_table, .ref o_kept, .ref o_trial, .int vo_imageKept, .int vo_towersRead, .int vo_changesDone])), (o_page, .inr (1, [.ref o_page_codes, .int vo_page_size])), (o_page_codes, .inl (cC, 70, .inl vo_page_codes)), (o_reader, .inr (2, [.ref o_reader_read, .int vo_reader_place])), (o_reader_read, .inr (3, [.ref o_reader_read_kinds, .ref o_reader_read_holds, .ref o_reader_read_takes, .ref o_reader_read_shareCounts, .ref o_reader_read_shares, .int vo_reader_read_size])), (o_reader_read_kinds, .inl (cI, 9, .inl vo_reader_read_kinds)), (o_reader_read_holds, .inl (cI, 9, .inl vo_reader_read_holds)), (o_reader_read_takes, .inl (cI, 9, .inl vo_reader_read_takes)), (o_reader_read_shareCounts, .inl (cI, 9, .inl vo_reader_read_shareCounts)), (o_reader_read_shares, .inl (cI, 27, .inl vo_reader_read_shares)), (o_stand, .inr (3, [.ref o_stand_kinds, .ref o_stand_holds, .ref o_stand_takes, .ref o_stand_shareCounts, .ref o_stand_shares, .int vo_stand_size])), (o_stand_kinds, .inl (cI, 9, .inl vo_stand_kinds)), (o_stand_holds, .inl (cI, 9, .inl vo_stand_holds)), (o_stand_takes, .inl (cI, 9, .inl vo_stand_takes)), (o_stand_shareCounts, .inl (cI, 9, .inl vo_stand_shareCounts)), (o_stand_shares, .inl (cI, 27, .inl vo_stand_shares)), (o_table, .inr (4, [.ref o_table_fill, .ref o_table_drunkFrom, .ref o_table_turns, .int vo_table_poured])), (o_table_fill, .inr (0, [.ref o_table_fill_inside, .long vo_table_fill_spilt])), (o_table_fill_inside, .inl (cJ, 9, .inr (.inl vo_table_fill_inside))), (o_table_drunkFrom, .inl (cJ, 9, .inr (.inl vo_table_drunkFrom))), (o_table_turns, .inl (cI, 9, .inl vo_table_turns))] sz) (zQi r ((zSc qo_reader_read_shareCounts) ∧ (0 ≤ qo_stand_size.toInt) ∧ (qo_stand_size.toInt ≤ 9) ∧ (zSc qo_stand_shareCounts) ∧ (0 ≤ qo_page_size.toInt) ∧ (qo_page_size.toInt ≤ 70)) (dC, dI) (zTy cI cJ cC) [(o, .inr (5, [.ref o_page, .ref o_reader, .ref o_stand, .ref o_trialStand, .ref o_table, .ref o_kept, .ref o_trial, .int qo_imageKept, .int qo_towersRead, .int vo_changesDone])), (o_page, .inr (1, [.ref o_page_codes, .int qo_page_size])), (o_page_codes, .inl (cC, 70, .inl vo_page_codes)), (o_reader, .inr (2, [.ref o_reader_read, .int qo_reader_place])), (o_reader_read, .inr (3, [.ref o_reader_read_kinds, .ref o_reader_read_holds, .ref o_reader_read_takes, .ref o_reader_read_shareCounts, .ref o_reader_read_shares, .int qo_reader_read_size])), (o_reader_read_kinds, .inl (cI, 9, .inl qo_reader_read_kinds)), (o_reader_read_holds, .inl (cI, 9, .inl qo_reader_read_holds)), (o_reader_read_takes, .inl (cI, 9, .inl qo_reader_read_takes)), (o_reader_read_shareCounts, .inl (cI, 9, .inl qo_reader_read_shareCounts)), (o_reader_read_shares, .inl (cI, 27, .inl qo_reader_read_shares)), (o_stand, .inr (3, [.ref o_stand_kinds, .ref o_stand_holds, .ref o_stand_takes, .ref o_stand_shareCounts, .ref o_stand_shares, .int qo_stand_size])), (o_stand_kinds, .inl (cI, 9, .inl qo_stand_kinds)), (o_stand_holds, .inl (cI, 9, .inl qo_stand_holds)), (o_stand_takes, .inl (cI, 9, .inl qo_stand_takes)), (o_stand_shareCounts, .inl (cI, 9, .inl qo_stand_shareCounts)), (o_stand_shares, .inl (cI, 27, .inl qo_stand_shares)), (o_table, .inr (4, [.ref o_table_fill, .ref o_table_drunkFrom, .ref o_table_turns, .int qo_table_poured])), (o_table_fill, .inr (0, [.ref o_table_fill_inside, .long qo_table_fill_spilt])), (o_table_fill_inside, .inl (cJ, 9, .inr (.inl qo_table_fill_inside))), (o_table_drunkFrom, .inl (cJ, 9, .inr (.inl qo_table_drunkFrom))), (o_table_turns, .inl (cI, 9, .inl qo_table_turns))] (va_A [(o, .inr (5, [.ref o_page, .ref o_reader, .ref o_stand, .ref o_trialStand, .ref o_table, .ref o_kept, .ref o_trial, .int vo_imageKept, .int vo_towersRead, .int vo_changesDone])), (o_page, .inr (1, [.ref o_page_codes, .int vo_page_size])), (o_page_codes, .inl (cC, 70, .inl vo_page_codes)), (o_reader, .inr (2, [.ref o_reader_read, .int vo_reader_place])), (o_reader_read, .inr (3, [.ref o_reader_read_kinds, .ref o_reader_read_holds, .ref o_reader_read_takes, .ref o_reader_read_shareCounts, .ref o_reader_read_shares, .int vo_reader_read_size])), (o_reader_read_kinds, .inl (cI, 9, .inl vo_reader_read_kinds)), (o_reader_read_holds, .inl (cI, 9, .inl vo_reader_read_holds)), (o_reader_read_takes, .inl (cI, 9, .inl vo_reader_read_takes)), (o_reader_read_shareCounts, .inl (cI, 9, .inl vo_reader_read_shareCounts)), (o_reader_read_shares, .inl (cI, 27, .inl vo_reader_read_shares)), (o_stand, .inr (3, [.ref o_stand_kinds, .ref o_stand_holds, .ref o_stand_takes, .ref o_stand_shareCounts, .ref o_stand_shares, .int vo_stand_size])), (o_stand_kinds, .inl (cI, 9, .inl vo_stand_kinds)), (o_stand_holds, .inl (cI, 9, .inl vo_stand_holds)), (o_stand_takes, .inl (cI, 9, .inl vo_stand_takes)), (o_stand_shareCounts, .inl (cI, 9, .inl vo_stand_shareCounts)), (o_stand_shares, .inl (cI, 27, .inl vo_stand_shares)), (o_table, .inr (4, [.ref o_table_fill, .ref o_table_drunkFrom, .ref o_table_turns, .int vo_table_poured])), (o_table_fill, .inr (0, [.ref o_table_fill_inside, .long vo_table_fill_spilt])), (o_table_fill_inside, .inl (cJ, 9, .inr (.inl vo_table_fill_inside))), (o_table_drunkFrom, .inl (cJ, 9, .inr (.inl vo_table_drunkFrom))), (o_table_turns, .inl (cI, 9, .inl vo_table_turns))] sz)) 0 0 (va_A [(o, .inr (5, [.ref o_page, .ref o_reader, .ref o_stand, .ref o_trialStand, .ref o_table, .ref o_kept, .ref o_trial, .int vo_imageKept, .int vo_towersRead, .int vo_changesDone])), (o_page, .inr (1, [.ref o_page_codes, .int vo_page_size])), (o_page_codes, .inl (cC, 70, .inl vo_page_codes)), (o_reader, .inr (2, [.ref o_reader_read, .int vo_reader_place])), (o_reader_read, .inr (3, [.ref o_reader_read_kinds, .ref o_reader_read_holds, .ref o_reader_read_takes, .ref o_reader_read_shareCounts, .ref o_reader_read_shares, .int vo_reader_read_size])), (o_reader_read_kinds, .inl (cI, 9, .inl vo_reader_read_kinds)), (o_reader_read_holds, .inl (cI, 9, .inl vo_reader_read_holds)), (o_reader_read_takes, .inl (cI, 9, .inl vo_reader_read_takes)), (o_reader_read_shareCounts, .inl (cI, 9, .inl vo_reader_read_shareCounts)), (o_reader_read_shares, .inl (cI, 27, .inl vo_reader_read_shares)), (o_stand, .inr (3, [.ref o_stand_kinds, .ref o_stand_holds, .ref o_stand_takes, .ref o_stand_shareCounts, .ref o_stand_shares, .int vo_stand_size])), (o_stand_kinds, .inl (cI, 9, .inl vo_stand_kinds)), (o_stand_holds, .inl (cI, 9, .inl vo_stand_holds)), (o_stand_takes, .inl (cI, 9, .inl vo_stand_takes)), (o_stand_shareCounts, .inl (cI, 9, .inl vo_stand_shareCounts)), (o_stand_shares, .inl (cI, 27, .inl vo_stand_shares)), (o_table, .inr (4, [.ref o_table_fill, .ref o_table_drunkFrom, .ref o_table_turns, .int vo_table_poured])), (o_table_fill, .inr (0, [.ref o_table_fill_inside, .long vo_table_fill_spilt])), (o_table_fill_inside, .inl (cJ, 9, .inr (.inl vo_table_fill_inside))), (o_table_drunkFrom, .inl (cJ, 9, .inr (.inl vo_table_drunkFrom))), (o_table_turns, .inl (cI, 9, .inl vo_table_turns))] sz) := by
  refine Met.ofW (cc := cX5_tower) (maxL := 1) (ret := (some .int)) (by decide) rfl ?_
  intro p e s m args below meth c s₁ B hml hv
  obtain ⟨rfl, hsz, hP, hK, hD0, hX⟩ := hv
  have hx := B.exec
  have hb := B.bytes
  have hr := B.returns
  have hts := atoms_spec (ws := wsX5_tower) B.pre
  have hown : s.vm.findClass RX5 = some m.cls := findClass_of_methodNamed B.named
  have hlocks := B.notSynchronized
  subst hsz
  have hD := hD0.self (sz := s.heap.size)
  generalize hAe : va_A [(o, .inr (5, [.ref o_page, .ref o_reader, .ref o_stand, .ref o_trialStand, .ref o_table, .ref o_kept, .ref o_trial, .int vo_imageKept, .int vo_towersRead, .int vo_changesDone])), (o_page, .inr (1, [.ref o_page_codes, .int vo_page_size])), (o_page_codes, .inl (cC, 70, .inl vo_page_codes)), (o_reader, .inr (2, [.ref o_reader_read, .int vo_reader_place])), (o_reader_read, .inr (3, [.ref o_reader_read_kinds, .ref o_reader_read_holds, .ref o_reader_read_takes, .ref o_reader_read_shareCounts, .ref o_reader_read_shares, .int vo_reader_read_size])), (o_reader_read_kinds, .inl (cI, 9, .inl vo_reader_read_kinds)), (o_reader_read_holds, .inl (cI, 9, .inl vo_reader_read_holds)), (o_reader_read_takes, .inl (cI, 9, .inl vo_reader_read_takes)), (o_reader_read_shareCounts, .inl (cI, 9, .inl vo_reader_read_shareCounts)), (o_reader_read_shares, .inl (cI, 27, .inl vo_reader_read_shares)), (o_stand, .inr (3, [.ref o_stand_kinds, .ref o_stand_holds, .ref o_stand_takes, .ref o_stand_shareCounts, .ref o_stand_shares, .int vo_stand_size])), (o_stand_kinds, .inl (cI, 9, .inl vo_stand_kinds)), (o_stand_holds, .inl (cI, 9, .inl vo_stand_holds)), (o_stand_takes, .inl (cI, 9, .inl vo_stand_takes)), (o_stand_shareCounts, .inl (cI, 9, .inl vo_stand_shareCounts)), (o_stand_shares, .inl (cI, 27, .inl vo_stand_shares)), (o_table, .inr (4, [.ref o_table_fill, .ref o_table_drunkFrom, .ref o_table_turns, .int vo_table_poured])), (o_table_fill, .inr (0, [.ref o_table_fill_inside, .long vo_table_fill_spilt])), (o_table_fill_inside, .inl (cJ, 9, .inr (.inl vo_table_fill_inside))), (o_table_drunkFrom, .inl (cJ, 9, .inr (.inl vo_table_drunkFrom))), (o_table_turns, .inl (cI, 9, .inl vo_table_turns))] s.heap.size = A at hD hX ⊢
  have hA : ∀ q : Nat, s.heap.size ≤ q → A q := fun q h => by rw [← hAe]; exact Or.inr h
  have hS : va_S A s.heap s.heap [] := va_S.rf
  have hP : va_P (dC, dI) vwCl [(o, .inr (5, [.ref o_page, .ref o_reader, .ref o_stand, .ref o_trialStand, .ref o_table, .ref o_kept, .ref o_trial, .int vo_imageKept, .int vo_towersRead, .int vo_changesDone])), (o_page, .inr (1, [.ref o_page_codes, .int vo_page_size])), (o_page_codes, .inl (cC, 70, .inl vo_page_codes)), (o_reader, .inr (2, [.ref o_reader_read, .int vo_reader_place])), (o_reader_read, .inr (3, [.ref o_reader_read_kinds, .ref o_reader_read_holds, .ref o_reader_read_takes, .ref o_reader_read_shareCounts, .ref o_reader_read_shares, .int vo_reader_read_size])), (o_reader_read_kinds, .inl (cI, 9, .inl vo_reader_read_kinds)), (o_reader_read_holds, .inl (cI, 9, .inl vo_reader_read_holds)), (o_reader_read_takes, .inl (cI, 9, .inl vo_reader_read_takes)), (o_reader_read_shareCounts, .inl (cI, 9, .inl vo_reader_read_shareCounts)), (o_reader_read_shares, .inl (cI, 27, .inl vo_reader_read_shares)), (o_stand, .inr (3, [.ref o_stand_kinds, .ref o_stand_holds, .ref o_stand_takes, .ref o_stand_shareCounts, .ref o_stand_shares, .int vo_stand_size])), (o_stand_kinds, .inl (cI, 9, .inl vo_stand_kinds)), (o_stand_holds, .inl (cI, 9, .inl vo_stand_holds)), (o_stand_takes, .inl (cI, 9, .inl vo_stand_takes)), (o_stand_shareCounts, .inl (cI, 9, .inl vo_stand_shareCounts)), (o_stand_shares, .inl (cI, 27, .inl vo_stand_shares)), (o_table, .inr (4, [.ref o_table_fill, .ref o_table_drunkFrom, .ref o_table_turns, .int vo_table_poured])), (o_table_fill, .inr (0, [.ref o_table_fill_inside, .long vo_table_fill_spilt])), (o_table_fill_inside, .inl (cJ, 9, .inr (.inl vo_table_fill_inside))), (o_table_drunkFrom, .inl (cJ, 9, .inr (.inl vo_table_drunkFrom))), (o_table_turns, .inl (cI, 9, .inl vo_table_turns))] s.heap := hP
  have hK : va_K (dC, dI) vwCl (zTy cI cJ cC) s := hK
  have hl := lv_entry ([.ref o]) (n := 1) (Nat.le_of_ble_eq_true rfl)
  rw [lg_entry_eq]
  generalize (lg_sl ([.ref o]) ++ List.replicate (1 - (lg_sl ([.ref o])).length) Slot.unset).toArray = ls at hl ⊢
  have hl : lv_has ls 1 [(0, .ref o)] := hl
  refine zz_start hP hS (fun Q hQ H locs hP hS => ?_)
  have hwX1 : ∀ w ∈ u_ws RX1 TX1 2, w ∈ wsX5_tower := by decide +kernel
  have hwX2 : ∀ w ∈ u_ws RX2 TX2 2, w ∈ wsX5_tower := by decide +kernel
  have hwX3 : ∀ w ∈ u_ws RX3 TX3 6, w ∈ wsX5_tower := by decide +kernel
  have hwX5 : ∀ w ∈ u_ws RX5 TX5 10, w ∈ wsX5_tower := by decide +kernel
  have hf_101 := (hts (.fieldLink RX5 101 "PouredTopmost$Stand" "size" "I") (by decide +kernel))
  have hf_12 := (hts (.fieldLink RX5 12 "PouredTopmost" "page" "LPouredTopmost$Page;") (by decide +kernel))
  have hf_19 := (hts (.fieldLink RX5 19 "PouredTopmost" "reader" "LPouredTopmost$Reader;") (by decide +kernel))
  have hf_26 := (hts (.fieldLink RX5 26 "PouredTopmost" "stand" "LPouredTopmost$Stand;") (by decide +kernel))
  have hf_36 := (hts (.fieldLink RX5 36 "PouredTopmost" "table" "LPouredTopmost$Table;") (by decide +kernel))
  have hf_54 := (hts (.fieldLink RX5 54 "PouredTopmost$Page" "size" "I") (by decide +kernel))
  have hf_84 := (hts (.fieldLink RX5 84 "PouredTopmost$Reader" "read" "LPouredTopmost$Stand;") (by decide +kernel))
  have hf_94 := (hts (.fieldLink RX5 94 "PouredTopmost" "imageKept" "Z") (by decide +kernel))
  have hf_98 := (hts (.fieldLink RX5 98 "PouredTopmost" "towersRead" "I") (by decide +kernel))
  refine lv_aload_n hx hb dX5_tower_0 rfl (lv_at hl 0 rfl) ?_
  obtain ⟨r1, u2, u3, u4, u5, u6, u7, u8, ev_1⟩ : ∃ x0 x1 x2 x3 x4 x5 x6 x7, (m_X5_fault vo_page_size vo_page_codes vo_reader_read_kinds vo_reader_read_holds vo_reader_read_takes vo_reader_read_shareCounts vo_reader_read_shares) = (x0, x1, x2, x3, x4, x5, x6, x7) := ⟨_, _, _, _, _, _, _, _, rfl⟩
  replace hT := cut8_n ev_1 hT
  refine zz_ci [0, 1, 2, 3, 4, 5, 6, 7, 8, 9] [10, 11, 12, 13, 14, 15, 16, 17, 18, 19, 20] (wr := [(o_stand, .inr (3, [.ref o_stand_kinds, .ref o_stand_holds, .ref o_stand_takes, .ref o_stand_shareCounts, .ref o_stand_shares, .int vo_stand_size])), (o_stand_kinds, .inl (cI, 9, .inl vo_stand_kinds)), (o_stand_holds, .inl (cI, 9, .inl vo_stand_holds)), (o_stand_takes, .inl (cI, 9, .inl vo_stand_takes)), (o_stand_shareCounts, .inl (cI, 9, .inl vo_stand_shareCounts)), (o_stand_shares, .inl (cI, 27, .inl vo_stand_shares)), (o_table, .inr (4, [.ref o_table_fill, .ref o_table_drunkFrom, .ref o_table_turns, .int vo_table_poured])), (o_table_fill, .inr (0, [.ref o_table_fill_inside, .long vo_table_fill_spilt])), (o_table_fill_inside, .inl (cJ, 9, .inr (.inl vo_table_fill_inside))), (o_table_drunkFrom, .inl (cJ, 9, .inr (.inl vo_table_drunkFrom))), (o_table_turns, .inl (cI, 9, .inl vo_table_turns))]) (w1 := [(o, .inr (5, [.ref o_page, .ref o_reader, .ref o_stand, .ref o_trialStand, .ref o_table, .ref o_kept, .ref o_trial, .int vo_imageKept, .int vo_towersRead, .int vo_changesDone])), (o_page, .inr (1, [.ref o_page_codes, .int vo_page_size])), (o_page_codes, .inl (cC, 70, .inl vo_page_codes)), (o_reader, .inr (2, [.ref o_reader_read, .int u2])), (o_reader_read, .inr (3, [.ref o_reader_read_kinds, .ref o_reader_read_holds, .ref o_reader_read_takes, .ref o_reader_read_shareCounts, .ref o_reader_read_shares, .int u3])), (o_reader_read_kinds, .inl (cI, 9, .inl u4)), (o_reader_read_holds, .inl (cI, 9, .inl u5)), (o_reader_read_takes, .inl (cI, 9, .inl u6)), (o_reader_read_shareCounts, .inl (cI, 9, .inl u7)), (o_reader_read_shares, .inl (cI, 27, .inl u8))]) (va_runV (As := []) (rest := []) ⟨hx, hb, hml, hown, hts⟩ (k_X5_fault l dC dI cI cJ cC H.size aK aV o o_page o_reader o_stand o_trialStand o_table o_kept o_trial o_page_codes o_reader_read o_reader_read_kinds o_reader_read_holds o_reader_read_takes o_reader_read_shareCounts o_reader_read_shares vo_imageKept vo_towersRead vo_changesDone vo_page_size vo_page_codes vo_reader_place vo_reader_read_size vo_reader_read_kinds vo_reader_read_holds vo_reader_read_takes vo_reader_read_shareCounts vo_reader_read_shares r1 u2 u3 u4 u5 u6 u7 u8 ev_1 hp0 hp70 hpc hrc) (cwV 0 hts gX5_tower_X5_fault rfl rfl rfl (by decide +kernel) ⟨Nat.le_of_ble_eq_true rfl, Nat.le_of_ble_eq_true rfl⟩) (zz_preVX [0, 1, 2, 3, 4, 5, 6, 7, 8, 9] hK hP hD hS hA hX rfl rfl (va_recv hK hP (ci := 5) (q0 := 0) rfl rfl)) rfl rfl hl.1 rfl (lv_room (Nat.le_of_ble_eq_true rfl)) dX5_tower_1 ⟨Nat.zero_le _, Nat.zero_le _⟩) hP hD hS hA rfl rfl rfl (by decide) (fun ok_2 H locs hP hD hS => ?_)
  have hP : va_P (dC, dI) vwCl [(o_stand, .inr (3, [.ref o_stand_kinds, .ref o_stand_holds, .ref o_stand_takes, .ref o_stand_shareCounts, .ref o_stand_shares, .int vo_stand_size])), (o_stand_kinds, .inl (cI, 9, .inl vo_stand_kinds)), (o_stand_holds, .inl (cI, 9, .inl vo_stand_holds)), (o_stand_takes, .inl (cI, 9, .inl vo_stand_takes)), (o_stand_shareCounts, .inl (cI, 9, .inl vo_stand_shareCounts)), (o_stand_shares, .inl (cI, 27, .inl vo_stand_shares)), (o_table, .inr (4, [.ref o_table_fill, .ref o_table_drunkFrom, .ref o_table_turns, .int vo_table_poured])), (o_table_fill, .inr (0, [.ref o_table_fill_inside, .long vo_table_fill_spilt])), (o_table_fill_inside, .inl (cJ, 9, .inr (.inl vo_table_fill_inside))), (o_table_drunkFrom, .inl (cJ, 9, .inr (.inl vo_table_drunkFrom))), (o_table_turns, .inl (cI, 9, .inl vo_table_turns)), (o, .inr (5, [.ref o_page, .ref o_reader, .ref o_stand, .ref o_trialStand, .ref o_table, .ref o_kept, .ref o_trial, .int vo_imageKept, .int vo_towersRead, .int vo_changesDone])), (o_page, .inr (1, [.ref o_page_codes, .int vo_page_size])), (o_page_codes, .inl (cC, 70, .inl vo_page_codes)), (o_reader, .inr (2, [.ref o_reader_read, .int u2])), (o_reader_read, .inr (3, [.ref o_reader_read_kinds, .ref o_reader_read_holds, .ref o_reader_read_takes, .ref o_reader_read_shareCounts, .ref o_reader_read_shares, .int u3])), (o_reader_read_kinds, .inl (cI, 9, .inl u4)), (o_reader_read_holds, .inl (cI, 9, .inl u5)), (o_reader_read_takes, .inl (cI, 9, .inl u6)), (o_reader_read_shareCounts, .inl (cI, 9, .inl u7)), (o_reader_read_shares, .inl (cI, 27, .inl u8))] H := hP
  have hD : va_D A [(o_stand, .inr (3, [.ref o_stand_kinds, .ref o_stand_holds, .ref o_stand_takes, .ref o_stand_shareCounts, .ref o_stand_shares, .int vo_stand_size])), (o_stand_kinds, .inl (cI, 9, .inl vo_stand_kinds)), (o_stand_holds, .inl (cI, 9, .inl vo_stand_holds)), (o_stand_takes, .inl (cI, 9, .inl vo_stand_takes)), (o_stand_shareCounts, .inl (cI, 9, .inl vo_stand_shareCounts)), (o_stand_shares, .inl (cI, 27, .inl vo_stand_shares)), (o_table, .inr (4, [.ref o_table_fill, .ref o_table_drunkFrom, .ref o_table_turns, .int vo_table_poured])), (o_table_fill, .inr (0, [.ref o_table_fill_inside, .long vo_table_fill_spilt])), (o_table_fill_inside, .inl (cJ, 9, .inr (.inl vo_table_fill_inside))), (o_table_drunkFrom, .inl (cJ, 9, .inr (.inl vo_table_drunkFrom))), (o_table_turns, .inl (cI, 9, .inl vo_table_turns)), (o, .inr (5, [.ref o_page, .ref o_reader, .ref o_stand, .ref o_trialStand, .ref o_table, .ref o_kept, .ref o_trial, .int vo_imageKept, .int vo_towersRead, .int vo_changesDone])), (o_page, .inr (1, [.ref o_page_codes, .int vo_page_size])), (o_page_codes, .inl (cC, 70, .inl vo_page_codes)), (o_reader, .inr (2, [.ref o_reader_read, .int u2])), (o_reader_read, .inr (3, [.ref o_reader_read_kinds, .ref o_reader_read_holds, .ref o_reader_read_takes, .ref o_reader_read_shareCounts, .ref o_reader_read_shares, .int u3])), (o_reader_read_kinds, .inl (cI, 9, .inl u4)), (o_reader_read_holds, .inl (cI, 9, .inl u5)), (o_reader_read_takes, .inl (cI, 9, .inl u6)), (o_reader_read_shareCounts, .inl (cI, 9, .inl u7)), (o_reader_read_shares, .inl (cI, 27, .inl u8))] := hD
  obtain ⟨k_3, k_4, k_5⟩ := ok_2
  refine lv_aload_n hx hb dX5_tower_4 rfl (lv_at hl 0 rfl) ?_
  refine va_get (D := (dC, dI)) (ci := 5) (v := .ref o_page) (C := RX5) (T := TX5) (N := 10) hx hb hts hwX5 hown hK hP 11 rfl rfl 0 (by decide) hf_12 (fun _ h9 => h9) rfl dX5_tower_5 ?_
  refine va_get (D := (dC, dI)) (ci := 1) (v := .int vo_page_size) (C := RX1) (T := TX1) (N := 2) hx hb hts hwX1 hown hK hP 12 rfl rfl 1 (by decide) hf_54 (fun _ h9 => h9) rfl dX5_tower_8 ?_
  refine lv_icmp_lt (tgt := 24) hx hb dX5_tower_11 (by decide) (fun c_6 => ?_) (fun c_6 => ?_)
  · replace hT := cutT c_6 hT
    have g_16 := zltT (rfl : (r1).toInt = _) (rfl : (vo_page_size).toInt = _) c_6
    refine lv_bipush (v := (-103 : Int32)) hx hb dX5_tower_24 (by decide) ?_
    have hP9 := hP
    have hD9 := hD
    have hS9 := hS
    have hT : ((-103 : Int32), vo_imageKept, vo_towersRead, vo_page_size, u2, u3, u4, u5, u6, u7, u8, vo_stand_size, vo_stand_kinds, vo_stand_holds, vo_stand_takes, vo_stand_shareCounts, vo_stand_shares, vo_table_poured, vo_table_fill_spilt, vo_table_fill_inside, vo_table_drunkFrom, vo_table_turns) = (r, qo_imageKept, qo_towersRead, qo_page_size, qo_reader_place, qo_reader_read_size, qo_reader_read_kinds, qo_reader_read_holds, qo_reader_read_takes, qo_reader_read_shareCounts, qo_reader_read_shares, qo_stand_size, qo_stand_kinds, qo_stand_holds, qo_stand_takes, qo_stand_shareCounts, qo_stand_shares, qo_table_poured, qo_table_fill_spilt, qo_table_fill_inside, qo_table_drunkFrom, qo_table_turns) := hT
    cases hT
    subst hQ
    exact zz_iret hx hb hr [11, 12, 13, 14, 15, 16, 17, 18, 19, 20, 0, 1, 2, 3, 4, 5, 6, 7, 8, 9, 10] hK hP9 hD9 hS9 rfl rfl ⟨(by first | assumption | omega), (by first | assumption | omega), (by first | assumption | omega), (by first | assumption | omega), (by first | omega | decide), (by first | omega | decide)⟩ hlocks dX5_tower_26
  · replace hT := cutF c_6 hT
    have g_17 := zltF (rfl : (r1).toInt = _) (rfl : (vo_page_size).toInt = _) c_6
    refine lv_aload_n hx hb dX5_tower_14 rfl (lv_at hl 0 rfl) ?_
    refine va_get (D := (dC, dI)) (ci := 5) (v := .ref o_reader) (C := RX5) (T := TX5) (N := 10) hx hb hts hwX5 hown hK hP 11 rfl rfl 1 (by decide) hf_19 (fun _ h9 => h9) rfl dX5_tower_15 ?_
    obtain ⟨r9, ev_7⟩ : ∃ x0, (m_X2_mayEnd u2 u3 u7 u8) = x0 := ⟨_, rfl⟩
    replace hT := cut_n ev_7 hT
    refine zz_ci [14, 15, 19, 20] [0, 1, 2, 3, 4, 5, 6, 7, 8, 9, 10, 11, 12, 13, 16, 17, 18] (wr := [(o_stand, .inr (3, [.ref o_stand_kinds, .ref o_stand_holds, .ref o_stand_takes, .ref o_stand_shareCounts, .ref o_stand_shares, .int vo_stand_size])), (o_stand_kinds, .inl (cI, 9, .inl vo_stand_kinds)), (o_stand_holds, .inl (cI, 9, .inl vo_stand_holds)), (o_stand_takes, .inl (cI, 9, .inl vo_stand_takes)), (o_stand_shareCounts, .inl (cI, 9, .inl vo_stand_shareCounts)), (o_stand_shares, .inl (cI, 27, .inl vo_stand_shares)), (o_table, .inr (4, [.ref o_table_fill, .ref o_table_drunkFrom, .ref o_table_turns, .int vo_table_poured])), (o_table_fill, .inr (0, [.ref o_table_fill_inside, .long vo_table_fill_spilt])), (o_table_fill_inside, .inl (cJ, 9, .inr (.inl vo_table_fill_inside))), (o_table_drunkFrom, .inl (cJ, 9, .inr (.inl vo_table_drunkFrom))), (o_table_turns, .inl (cI, 9, .inl vo_table_turns)), (o, .inr (5, [.ref o_page, .ref o_reader, .ref o_stand, .ref o_trialStand, .ref o_table, .ref o_kept, .ref o_trial, .int vo_imageKept, .int vo_towersRead, .int vo_changesDone])), (o_page, .inr (1, [.ref o_page_codes, .int vo_page_size])), (o_page_codes, .inl (cC, 70, .inl vo_page_codes)), (o_reader_read_kinds, .inl (cI, 9, .inl u4)), (o_reader_read_holds, .inl (cI, 9, .inl u5)), (o_reader_read_takes, .inl (cI, 9, .inl u6))]) (w1 := [(o_reader, .inr (2, [.ref o_reader_read, .int u2])), (o_reader_read, .inr (3, [.ref o_reader_read_kinds, .ref o_reader_read_holds, .ref o_reader_read_takes, .ref o_reader_read_shareCounts, .ref o_reader_read_shares, .int u3])), (o_reader_read_shareCounts, .inl (cI, 9, .inl u7)), (o_reader_read_shares, .inl (cI, 27, .inl u8))]) (va_runV (As := []) (rest := []) ⟨hx, hb, hml, hown, hts⟩ (k_X2_mayEnd l dC dI cI cJ cC H.size o_reader o_reader_read o_reader_read_kinds o_reader_read_holds o_reader_read_takes o_reader_read_shareCounts o_reader_read_shares u2 u3 u7 u8 r9 ev_7 k_3 k_4 k_5) (cwV 0 hts gX5_tower_X2_mayEnd rfl rfl rfl (by decide +kernel) ⟨Nat.le_of_ble_eq_true rfl, Nat.le_of_ble_eq_true rfl⟩) (zz_preV [14, 15, 19, 20] hK hP hD rfl rfl (va_recv hK hP (ci := 2) (q0 := 14) rfl rfl)) rfl rfl hl.1 rfl (lv_room (Nat.le_of_ble_eq_true rfl)) dX5_tower_18 ⟨Nat.zero_le _, Nat.zero_le _⟩) hP hD hS hA rfl rfl rfl (by decide) (fun ok_8 H locs hP hD hS => ?_)
    have hP : va_P (dC, dI) vwCl [(o_stand, .inr (3, [.ref o_stand_kinds, .ref o_stand_holds, .ref o_stand_takes, .ref o_stand_shareCounts, .ref o_stand_shares, .int vo_stand_size])), (o_stand_kinds, .inl (cI, 9, .inl vo_stand_kinds)), (o_stand_holds, .inl (cI, 9, .inl vo_stand_holds)), (o_stand_takes, .inl (cI, 9, .inl vo_stand_takes)), (o_stand_shareCounts, .inl (cI, 9, .inl vo_stand_shareCounts)), (o_stand_shares, .inl (cI, 27, .inl vo_stand_shares)), (o_table, .inr (4, [.ref o_table_fill, .ref o_table_drunkFrom, .ref o_table_turns, .int vo_table_poured])), (o_table_fill, .inr (0, [.ref o_table_fill_inside, .long vo_table_fill_spilt])), (o_table_fill_inside, .inl (cJ, 9, .inr (.inl vo_table_fill_inside))), (o_table_drunkFrom, .inl (cJ, 9, .inr (.inl vo_table_drunkFrom))), (o_table_turns, .inl (cI, 9, .inl vo_table_turns)), (o, .inr (5, [.ref o_page, .ref o_reader, .ref o_stand, .ref o_trialStand, .ref o_table, .ref o_kept, .ref o_trial, .int vo_imageKept, .int vo_towersRead, .int vo_changesDone])), (o_page, .inr (1, [.ref o_page_codes, .int vo_page_size])), (o_page_codes, .inl (cC, 70, .inl vo_page_codes)), (o_reader_read_kinds, .inl (cI, 9, .inl u4)), (o_reader_read_holds, .inl (cI, 9, .inl u5)), (o_reader_read_takes, .inl (cI, 9, .inl u6)), (o_reader, .inr (2, [.ref o_reader_read, .int u2])), (o_reader_read, .inr (3, [.ref o_reader_read_kinds, .ref o_reader_read_holds, .ref o_reader_read_takes, .ref o_reader_read_shareCounts, .ref o_reader_read_shares, .int u3])), (o_reader_read_shareCounts, .inl (cI, 9, .inl u7)), (o_reader_read_shares, .inl (cI, 27, .inl u8))] H := hP
    have hD : va_D A [(o_stand, .inr (3, [.ref o_stand_kinds, .ref o_stand_holds, .ref o_stand_takes, .ref o_stand_shareCounts, .ref o_stand_shares, .int vo_stand_size])), (o_stand_kinds, .inl (cI, 9, .inl vo_stand_kinds)), (o_stand_holds, .inl (cI, 9, .inl vo_stand_holds)), (o_stand_takes, .inl (cI, 9, .inl vo_stand_takes)), (o_stand_shareCounts, .inl (cI, 9, .inl vo_stand_shareCounts)), (o_stand_shares, .inl (cI, 27, .inl vo_stand_shares)), (o_table, .inr (4, [.ref o_table_fill, .ref o_table_drunkFrom, .ref o_table_turns, .int vo_table_poured])), (o_table_fill, .inr (0, [.ref o_table_fill_inside, .long vo_table_fill_spilt])), (o_table_fill_inside, .inl (cJ, 9, .inr (.inl vo_table_fill_inside))), (o_table_drunkFrom, .inl (cJ, 9, .inr (.inl vo_table_drunkFrom))), (o_table_turns, .inl (cI, 9, .inl vo_table_turns)), (o, .inr (5, [.ref o_page, .ref o_reader, .ref o_stand, .ref o_trialStand, .ref o_table, .ref o_kept, .ref o_trial, .int vo_imageKept, .int vo_towersRead, .int vo_changesDone])), (o_page, .inr (1, [.ref o_page_codes, .int vo_page_size])), (o_page_codes, .inl (cC, 70, .inl vo_page_codes)), (o_reader_read_kinds, .inl (cI, 9, .inl u4)), (o_reader_read_holds, .inl (cI, 9, .inl u5)), (o_reader_read_takes, .inl (cI, 9, .inl u6)), (o_reader, .inr (2, [.ref o_reader_read, .int u2])), (o_reader_read, .inr (3, [.ref o_reader_read_kinds, .ref o_reader_read_holds, .ref o_reader_read_takes, .ref o_reader_read_shareCounts, .ref o_reader_read_shares, .int u3])), (o_reader_read_shareCounts, .inl (cI, 9, .inl u7)), (o_reader_read_shares, .inl (cI, 27, .inl u8))] := hD
    refine lv_if_ne (tgt := 27) hx hb dX5_tower_21 (by decide) (fun c_9 => ?_) (fun c_9 => ?_)
    · replace hT := cutF c_9 hT
      have g_18 := zeqF (rfl : (r9).toInt = _) (by decide : ((0 : Int32)).toInt = 0) c_9
      refine lv_aload_n hx hb dX5_tower_27 rfl (lv_at hl 0 rfl) ?_
      refine va_get (D := (dC, dI)) (ci := 5) (v := .ref o_stand) (C := RX5) (T := TX5) (N := 10) hx hb hts hwX5 hown hK hP 11 rfl rfl 2 (by decide) hf_26 (fun _ h9 => h9) rfl dX5_tower_28 ?_
      refine lv_aload_n hx hb dX5_tower_31 rfl (lv_at hl 0 rfl) ?_
      refine va_get (D := (dC, dI)) (ci := 5) (v := .ref o_reader) (C := RX5) (T := TX5) (N := 10) hx hb hts hwX5 hown hK hP 11 rfl rfl 1 (by decide) hf_19 (fun _ h9 => h9) rfl dX5_tower_32 ?_
      refine va_get (D := (dC, dI)) (ci := 2) (v := .ref o_reader_read) (C := RX2) (T := TX2) (N := 2) hx hb hts hwX2 hown hK hP 17 rfl rfl 0 (by decide) hf_84 (fun _ h9 => h9) rfl dX5_tower_35 ?_
      obtain ⟨u10, u11, u12, u13, u14, u15, ev_10⟩ : ∃ x0 x1 x2 x3 x4 x5, (m_X3_copyFrom vo_stand_kinds vo_stand_holds vo_stand_takes vo_stand_shareCounts vo_stand_shares u3 u4 u5 u6 u7 u8) = (x0, x1, x2, x3, x4, x5) := ⟨_, _, _, _, _, _, rfl⟩
      replace hT := cut6_n ev_10 hT
      refine zz_cv [0, 1, 2, 3, 4, 5, 18, 14, 15, 16, 19, 20] [6, 7, 8, 9, 10, 11, 12, 13, 17] (wr := [(o_table, .inr (4, [.ref o_table_fill, .ref o_table_drunkFrom, .ref o_table_turns, .int vo_table_poured])), (o_table_fill, .inr (0, [.ref o_table_fill_inside, .long vo_table_fill_spilt])), (o_table_fill_inside, .inl (cJ, 9, .inr (.inl vo_table_fill_inside))), (o_table_drunkFrom, .inl (cJ, 9, .inr (.inl vo_table_drunkFrom))), (o_table_turns, .inl (cI, 9, .inl vo_table_turns)), (o, .inr (5, [.ref o_page, .ref o_reader, .ref o_stand, .ref o_trialStand, .ref o_table, .ref o_kept, .ref o_trial, .int vo_imageKept, .int vo_towersRead, .int vo_changesDone])), (o_page, .inr (1, [.ref o_page_codes, .int vo_page_size])), (o_page_codes, .inl (cC, 70, .inl vo_page_codes)), (o_reader, .inr (2, [.ref o_reader_read, .int u2]))]) (w1 := [(o_stand, .inr (3, [.ref o_stand_kinds, .ref o_stand_holds, .ref o_stand_takes, .ref o_stand_shareCounts, .ref o_stand_shares, .int u10])), (o_stand_kinds, .inl (cI, 9, .inl u11)), (o_stand_holds, .inl (cI, 9, .inl u12)), (o_stand_takes, .inl (cI, 9, .inl u13)), (o_stand_shareCounts, .inl (cI, 9, .inl u14)), (o_stand_shares, .inl (cI, 27, .inl u15)), (o_reader_read, .inr (3, [.ref o_reader_read_kinds, .ref o_reader_read_holds, .ref o_reader_read_takes, .ref o_reader_read_shareCounts, .ref o_reader_read_shares, .int u3])), (o_reader_read_kinds, .inl (cI, 9, .inl u4)), (o_reader_read_holds, .inl (cI, 9, .inl u5)), (o_reader_read_takes, .inl (cI, 9, .inl u6)), (o_reader_read_shareCounts, .inl (cI, 9, .inl u7)), (o_reader_read_shares, .inl (cI, 27, .inl u8))]) (va_runV (As := [.ref o_reader_read]) (rest := []) ⟨hx, hb, hml, hown, hts⟩ (k_X3_copyFrom l dC dI cI cJ cC H.size o_stand o_stand_kinds o_stand_holds o_stand_takes o_stand_shareCounts o_stand_shares o_reader_read o_reader_read_kinds o_reader_read_holds o_reader_read_takes o_reader_read_shareCounts o_reader_read_shares vo_stand_size vo_stand_kinds vo_stand_holds vo_stand_takes vo_stand_shareCounts vo_stand_shares u3 u4 u5 u6 u7 u8 u10 u11 u12 u13 u14 u15 ev_10 k_5 hsc) (cwV 1 hts gX5_tower_X3_copyFrom rfl rfl rfl (by decide +kernel) ⟨Nat.le_of_ble_eq_true rfl, Nat.le_of_ble_eq_true rfl⟩) (zz_preV [0, 1, 2, 3, 4, 5, 18, 14, 15, 16, 19, 20] hK hP hD rfl rfl (va_recv hK hP (ci := 3) (q0 := 0) rfl rfl)) rfl rfl hl.1 rfl (lv_room (Nat.le_of_ble_eq_true rfl)) dX5_tower_38 ⟨Nat.zero_le _, Nat.zero_le _⟩) hP hD hS hA rfl rfl rfl (by decide) (fun ok_11 H locs hP hD hS => ?_)
      have hP : va_P (dC, dI) vwCl [(o_table, .inr (4, [.ref o_table_fill, .ref o_table_drunkFrom, .ref o_table_turns, .int vo_table_poured])), (o_table_fill, .inr (0, [.ref o_table_fill_inside, .long vo_table_fill_spilt])), (o_table_fill_inside, .inl (cJ, 9, .inr (.inl vo_table_fill_inside))), (o_table_drunkFrom, .inl (cJ, 9, .inr (.inl vo_table_drunkFrom))), (o_table_turns, .inl (cI, 9, .inl vo_table_turns)), (o, .inr (5, [.ref o_page, .ref o_reader, .ref o_stand, .ref o_trialStand, .ref o_table, .ref o_kept, .ref o_trial, .int vo_imageKept, .int vo_towersRead, .int vo_changesDone])), (o_page, .inr (1, [.ref o_page_codes, .int vo_page_size])), (o_page_codes, .inl (cC, 70, .inl vo_page_codes)), (o_reader, .inr (2, [.ref o_reader_read, .int u2])), (o_stand, .inr (3, [.ref o_stand_kinds, .ref o_stand_holds, .ref o_stand_takes, .ref o_stand_shareCounts, .ref o_stand_shares, .int u10])), (o_stand_kinds, .inl (cI, 9, .inl u11)), (o_stand_holds, .inl (cI, 9, .inl u12)), (o_stand_takes, .inl (cI, 9, .inl u13)), (o_stand_shareCounts, .inl (cI, 9, .inl u14)), (o_stand_shares, .inl (cI, 27, .inl u15)), (o_reader_read, .inr (3, [.ref o_reader_read_kinds, .ref o_reader_read_holds, .ref o_reader_read_takes, .ref o_reader_read_shareCounts, .ref o_reader_read_shares, .int u3])), (o_reader_read_kinds, .inl (cI, 9, .inl u4)), (o_reader_read_holds, .inl (cI, 9, .inl u5)), (o_reader_read_takes, .inl (cI, 9, .inl u6)), (o_reader_read_shareCounts, .inl (cI, 9, .inl u7)), (o_reader_read_shares, .inl (cI, 27, .inl u8))] H := hP
      have hD : va_D A [(o_table, .inr (4, [.ref o_table_fill, .ref o_table_drunkFrom, .ref o_table_turns, .int vo_table_poured])), (o_table_fill, .inr (0, [.ref o_table_fill_inside, .long vo_table_fill_spilt])), (o_table_fill_inside, .inl (cJ, 9, .inr (.inl vo_table_fill_inside))), (o_table_drunkFrom, .inl (cJ, 9, .inr (.inl vo_table_drunkFrom))), (o_table_turns, .inl (cI, 9, .inl vo_table_turns)), (o, .inr (5, [.ref o_page, .ref o_reader, .ref o_stand, .ref o_trialStand, .ref o_table, .ref o_kept, .ref o_trial, .int vo_imageKept, .int vo_towersRead, .int vo_changesDone])), (o_page, .inr (1, [.ref o_page_codes, .int vo_page_size])), (o_page_codes, .inl (cC, 70, .inl vo_page_codes)), (o_reader, .inr (2, [.ref o_reader_read, .int u2])), (o_stand, .inr (3, [.ref o_stand_kinds, .ref o_stand_holds, .ref o_stand_takes, .ref o_stand_shareCounts, .ref o_stand_shares, .int u10])), (o_stand_kinds, .inl (cI, 9, .inl u11)), (o_stand_holds, .inl (cI, 9, .inl u12)), (o_stand_takes, .inl (cI, 9, .inl u13)), (o_stand_shareCounts, .inl (cI, 9, .inl u14)), (o_stand_shares, .inl (cI, 27, .inl u15)), (o_reader_read, .inr (3, [.ref o_reader_read_kinds, .ref o_reader_read_holds, .ref o_reader_read_takes, .ref o_reader_read_shareCounts, .ref o_reader_read_shares, .int u3])), (o_reader_read_kinds, .inl (cI, 9, .inl u4)), (o_reader_read_holds, .inl (cI, 9, .inl u5)), (o_reader_read_takes, .inl (cI, 9, .inl u6)), (o_reader_read_shareCounts, .inl (cI, 9, .inl u7)), (o_reader_read_shares, .inl (cI, 27, .inl u8))] := hD
      obtain ⟨k_12, k_13⟩ := ok_11
      refine lv_aload_n hx hb dX5_tower_41 rfl (lv_at hl 0 rfl) ?_
      refine va_get (D := (dC, dI)) (ci := 5) (v := .ref o_table) (C := RX5) (T := TX5) (N := 10) hx hb hts hwX5 hown hK hP 5 rfl rfl 4 (by decide) hf_36 (fun _ h9 => h9) rfl dX5_tower_42 ?_
      obtain ⟨u16, u17, u18, u19, u20, ev_14⟩ : ∃ x0 x1 x2 x3 x4, (m_X4_makeNew vo_table_fill_inside vo_table_drunkFrom vo_table_turns) = (x0, x1, x2, x3, x4) := ⟨_, _, _, _, _, rfl⟩
      replace hT := cut5_n ev_14 hT
      refine zz_cv [0, 1, 2, 3, 4] [5, 6, 7, 8, 9, 10, 11, 12, 13, 14, 15, 16, 17, 18, 19, 20] (wr := [(o, .inr (5, [.ref o_page, .ref o_reader, .ref o_stand, .ref o_trialStand, .ref o_table, .ref o_kept, .ref o_trial, .int vo_imageKept, .int vo_towersRead, .int vo_changesDone])), (o_page, .inr (1, [.ref o_page_codes, .int vo_page_size])), (o_page_codes, .inl (cC, 70, .inl vo_page_codes)), (o_reader, .inr (2, [.ref o_reader_read, .int u2])), (o_stand, .inr (3, [.ref o_stand_kinds, .ref o_stand_holds, .ref o_stand_takes, .ref o_stand_shareCounts, .ref o_stand_shares, .int u10])), (o_stand_kinds, .inl (cI, 9, .inl u11)), (o_stand_holds, .inl (cI, 9, .inl u12)), (o_stand_takes, .inl (cI, 9, .inl u13)), (o_stand_shareCounts, .inl (cI, 9, .inl u14)), (o_stand_shares, .inl (cI, 27, .inl u15)), (o_reader_read, .inr (3, [.ref o_reader_read_kinds, .ref o_reader_read_holds, .ref o_reader_read_takes, .ref o_reader_read_shareCounts, .ref o_reader_read_shares, .int u3])), (o_reader_read_kinds, .inl (cI, 9, .inl u4)), (o_reader_read_holds, .inl (cI, 9, .inl u5)), (o_reader_read_takes, .inl (cI, 9, .inl u6)), (o_reader_read_shareCounts, .inl (cI, 9, .inl u7)), (o_reader_read_shares, .inl (cI, 27, .inl u8))]) (w1 := [(o_table, .inr (4, [.ref o_table_fill, .ref o_table_drunkFrom, .ref o_table_turns, .int u16])), (o_table_fill, .inr (0, [.ref o_table_fill_inside, .long u17])), (o_table_fill_inside, .inl (cJ, 9, .inr (.inl u18))), (o_table_drunkFrom, .inl (cJ, 9, .inr (.inl u19))), (o_table_turns, .inl (cI, 9, .inl u20))]) (va_runV (As := []) (rest := []) ⟨hx, hb, hml, hown, hts⟩ (k_X4_makeNew l dC dI cI cJ cC H.size o_table o_table_fill o_table_drunkFrom o_table_turns o_table_fill_inside vo_table_poured vo_table_fill_spilt vo_table_fill_inside vo_table_drunkFrom vo_table_turns u16 u17 u18 u19 u20 ev_14) (cwV 0 hts gX5_tower_X4_makeNew rfl rfl rfl (by decide +kernel) ⟨Nat.le_of_ble_eq_true rfl, Nat.le_of_ble_eq_true rfl⟩) (zz_preV [0, 1, 2, 3, 4] hK hP hD rfl rfl (va_recv hK hP (ci := 4) (q0 := 0) rfl rfl)) rfl rfl hl.1 rfl (lv_room (Nat.le_of_ble_eq_true rfl)) dX5_tower_45 ⟨Nat.zero_le _, Nat.zero_le _⟩) hP hD hS hA rfl rfl rfl (by decide) (fun ok_15 H locs hP hD hS => ?_)
      have hP : va_P (dC, dI) vwCl [(o, .inr (5, [.ref o_page, .ref o_reader, .ref o_stand, .ref o_trialStand, .ref o_table, .ref o_kept, .ref o_trial, .int vo_imageKept, .int vo_towersRead, .int vo_changesDone])), (o_page, .inr (1, [.ref o_page_codes, .int vo_page_size])), (o_page_codes, .inl (cC, 70, .inl vo_page_codes)), (o_reader, .inr (2, [.ref o_reader_read, .int u2])), (o_stand, .inr (3, [.ref o_stand_kinds, .ref o_stand_holds, .ref o_stand_takes, .ref o_stand_shareCounts, .ref o_stand_shares, .int u10])), (o_stand_kinds, .inl (cI, 9, .inl u11)), (o_stand_holds, .inl (cI, 9, .inl u12)), (o_stand_takes, .inl (cI, 9, .inl u13)), (o_stand_shareCounts, .inl (cI, 9, .inl u14)), (o_stand_shares, .inl (cI, 27, .inl u15)), (o_reader_read, .inr (3, [.ref o_reader_read_kinds, .ref o_reader_read_holds, .ref o_reader_read_takes, .ref o_reader_read_shareCounts, .ref o_reader_read_shares, .int u3])), (o_reader_read_kinds, .inl (cI, 9, .inl u4)), (o_reader_read_holds, .inl (cI, 9, .inl u5)), (o_reader_read_takes, .inl (cI, 9, .inl u6)), (o_reader_read_shareCounts, .inl (cI, 9, .inl u7)), (o_reader_read_shares, .inl (cI, 27, .inl u8)), (o_table, .inr (4, [.ref o_table_fill, .ref o_table_drunkFrom, .ref o_table_turns, .int u16])), (o_table_fill, .inr (0, [.ref o_table_fill_inside, .long u17])), (o_table_fill_inside, .inl (cJ, 9, .inr (.inl u18))), (o_table_drunkFrom, .inl (cJ, 9, .inr (.inl u19))), (o_table_turns, .inl (cI, 9, .inl u20))] H := hP
      have hD : va_D A [(o, .inr (5, [.ref o_page, .ref o_reader, .ref o_stand, .ref o_trialStand, .ref o_table, .ref o_kept, .ref o_trial, .int vo_imageKept, .int vo_towersRead, .int vo_changesDone])), (o_page, .inr (1, [.ref o_page_codes, .int vo_page_size])), (o_page_codes, .inl (cC, 70, .inl vo_page_codes)), (o_reader, .inr (2, [.ref o_reader_read, .int u2])), (o_stand, .inr (3, [.ref o_stand_kinds, .ref o_stand_holds, .ref o_stand_takes, .ref o_stand_shareCounts, .ref o_stand_shares, .int u10])), (o_stand_kinds, .inl (cI, 9, .inl u11)), (o_stand_holds, .inl (cI, 9, .inl u12)), (o_stand_takes, .inl (cI, 9, .inl u13)), (o_stand_shareCounts, .inl (cI, 9, .inl u14)), (o_stand_shares, .inl (cI, 27, .inl u15)), (o_reader_read, .inr (3, [.ref o_reader_read_kinds, .ref o_reader_read_holds, .ref o_reader_read_takes, .ref o_reader_read_shareCounts, .ref o_reader_read_shares, .int u3])), (o_reader_read_kinds, .inl (cI, 9, .inl u4)), (o_reader_read_holds, .inl (cI, 9, .inl u5)), (o_reader_read_takes, .inl (cI, 9, .inl u6)), (o_reader_read_shareCounts, .inl (cI, 9, .inl u7)), (o_reader_read_shares, .inl (cI, 27, .inl u8)), (o_table, .inr (4, [.ref o_table_fill, .ref o_table_drunkFrom, .ref o_table_turns, .int u16])), (o_table_fill, .inr (0, [.ref o_table_fill_inside, .long u17])), (o_table_fill_inside, .inl (cJ, 9, .inr (.inl u18))), (o_table_drunkFrom, .inl (cJ, 9, .inr (.inl u19))), (o_table_turns, .inl (cI, 9, .inl u20))] := hD
      refine lv_aload_n hx hb dX5_tower_48 rfl (lv_at hl 0 rfl) ?_
      refine va_get (D := (dC, dI)) (ci := 5) (v := .ref o_page) (C := RX5) (T := TX5) (N := 10) hx hb hts hwX5 hown hK hP 0 rfl rfl 0 (by decide) hf_12 (fun _ h9 => h9) rfl dX5_tower_49 ?_
      refine lv_iconst (v := (0 : Int32)) hx hb dX5_tower_52 (by decide) ?_
      refine va_put (D := (dC, dI)) (ci := 1) (v := .int (0 : Int32)) (ty := .int) (C := RX1) (T := TX1) (N := 2) hx hb hts hwX1 tyX1 tyX1_ok nmX1 hown hK hP hD hS 1 rfl rfl 1 (by decide) hf_54 (fun _ h9 => h9) rfl (by decide +kernel) rfl rfl (Nat.le_of_ble_eq_true rfl) dX5_tower_53 (fun H locs hP hD hS => ?_)
      have hP : va_P (dC, dI) vwCl [(o, .inr (5, [.ref o_page, .ref o_reader, .ref o_stand, .ref o_trialStand, .ref o_table, .ref o_kept, .ref o_trial, .int vo_imageKept, .int vo_towersRead, .int vo_changesDone])), (o_page, .inr (1, [.ref o_page_codes, .int (0 : Int32)])), (o_page_codes, .inl (cC, 70, .inl vo_page_codes)), (o_reader, .inr (2, [.ref o_reader_read, .int u2])), (o_stand, .inr (3, [.ref o_stand_kinds, .ref o_stand_holds, .ref o_stand_takes, .ref o_stand_shareCounts, .ref o_stand_shares, .int u10])), (o_stand_kinds, .inl (cI, 9, .inl u11)), (o_stand_holds, .inl (cI, 9, .inl u12)), (o_stand_takes, .inl (cI, 9, .inl u13)), (o_stand_shareCounts, .inl (cI, 9, .inl u14)), (o_stand_shares, .inl (cI, 27, .inl u15)), (o_reader_read, .inr (3, [.ref o_reader_read_kinds, .ref o_reader_read_holds, .ref o_reader_read_takes, .ref o_reader_read_shareCounts, .ref o_reader_read_shares, .int u3])), (o_reader_read_kinds, .inl (cI, 9, .inl u4)), (o_reader_read_holds, .inl (cI, 9, .inl u5)), (o_reader_read_takes, .inl (cI, 9, .inl u6)), (o_reader_read_shareCounts, .inl (cI, 9, .inl u7)), (o_reader_read_shares, .inl (cI, 27, .inl u8)), (o_table, .inr (4, [.ref o_table_fill, .ref o_table_drunkFrom, .ref o_table_turns, .int u16])), (o_table_fill, .inr (0, [.ref o_table_fill_inside, .long u17])), (o_table_fill_inside, .inl (cJ, 9, .inr (.inl u18))), (o_table_drunkFrom, .inl (cJ, 9, .inr (.inl u19))), (o_table_turns, .inl (cI, 9, .inl u20))] H := hP
      have hD : va_D A [(o, .inr (5, [.ref o_page, .ref o_reader, .ref o_stand, .ref o_trialStand, .ref o_table, .ref o_kept, .ref o_trial, .int vo_imageKept, .int vo_towersRead, .int vo_changesDone])), (o_page, .inr (1, [.ref o_page_codes, .int (0 : Int32)])), (o_page_codes, .inl (cC, 70, .inl vo_page_codes)), (o_reader, .inr (2, [.ref o_reader_read, .int u2])), (o_stand, .inr (3, [.ref o_stand_kinds, .ref o_stand_holds, .ref o_stand_takes, .ref o_stand_shareCounts, .ref o_stand_shares, .int u10])), (o_stand_kinds, .inl (cI, 9, .inl u11)), (o_stand_holds, .inl (cI, 9, .inl u12)), (o_stand_takes, .inl (cI, 9, .inl u13)), (o_stand_shareCounts, .inl (cI, 9, .inl u14)), (o_stand_shares, .inl (cI, 27, .inl u15)), (o_reader_read, .inr (3, [.ref o_reader_read_kinds, .ref o_reader_read_holds, .ref o_reader_read_takes, .ref o_reader_read_shareCounts, .ref o_reader_read_shares, .int u3])), (o_reader_read_kinds, .inl (cI, 9, .inl u4)), (o_reader_read_holds, .inl (cI, 9, .inl u5)), (o_reader_read_takes, .inl (cI, 9, .inl u6)), (o_reader_read_shareCounts, .inl (cI, 9, .inl u7)), (o_reader_read_shares, .inl (cI, 27, .inl u8)), (o_table, .inr (4, [.ref o_table_fill, .ref o_table_drunkFrom, .ref o_table_turns, .int u16])), (o_table_fill, .inr (0, [.ref o_table_fill_inside, .long u17])), (o_table_fill_inside, .inl (cJ, 9, .inr (.inl u18))), (o_table_drunkFrom, .inl (cJ, 9, .inr (.inl u19))), (o_table_turns, .inl (cI, 9, .inl u20))] := hD
      refine lv_aload_n hx hb dX5_tower_56 rfl (lv_at hl 0 rfl) ?_
      refine lv_iconst (v := (0 : Int32)) hx hb dX5_tower_57 (by decide) ?_
      refine va_put (D := (dC, dI)) (ci := 5) (v := .int (0 : Int32)) (ty := .boolean) (C := RX5) (T := TX5) (N := 10) hx hb hts hwX5 tyX5 tyX5_ok nmX5 hown hK hP hD hS 0 rfl rfl 7 (by decide) hf_94 (fun _ h9 => h9) rfl (by decide +kernel) rfl rfl (Nat.le_of_ble_eq_true rfl) dX5_tower_58 (fun H locs hP hD hS => ?_)
      have hP : va_P (dC, dI) vwCl [(o, .inr (5, [.ref o_page, .ref o_reader, .ref o_stand, .ref o_trialStand, .ref o_table, .ref o_kept, .ref o_trial, .int (0 : Int32), .int vo_towersRead, .int vo_changesDone])), (o_page, .inr (1, [.ref o_page_codes, .int (0 : Int32)])), (o_page_codes, .inl (cC, 70, .inl vo_page_codes)), (o_reader, .inr (2, [.ref o_reader_read, .int u2])), (o_stand, .inr (3, [.ref o_stand_kinds, .ref o_stand_holds, .ref o_stand_takes, .ref o_stand_shareCounts, .ref o_stand_shares, .int u10])), (o_stand_kinds, .inl (cI, 9, .inl u11)), (o_stand_holds, .inl (cI, 9, .inl u12)), (o_stand_takes, .inl (cI, 9, .inl u13)), (o_stand_shareCounts, .inl (cI, 9, .inl u14)), (o_stand_shares, .inl (cI, 27, .inl u15)), (o_reader_read, .inr (3, [.ref o_reader_read_kinds, .ref o_reader_read_holds, .ref o_reader_read_takes, .ref o_reader_read_shareCounts, .ref o_reader_read_shares, .int u3])), (o_reader_read_kinds, .inl (cI, 9, .inl u4)), (o_reader_read_holds, .inl (cI, 9, .inl u5)), (o_reader_read_takes, .inl (cI, 9, .inl u6)), (o_reader_read_shareCounts, .inl (cI, 9, .inl u7)), (o_reader_read_shares, .inl (cI, 27, .inl u8)), (o_table, .inr (4, [.ref o_table_fill, .ref o_table_drunkFrom, .ref o_table_turns, .int u16])), (o_table_fill, .inr (0, [.ref o_table_fill_inside, .long u17])), (o_table_fill_inside, .inl (cJ, 9, .inr (.inl u18))), (o_table_drunkFrom, .inl (cJ, 9, .inr (.inl u19))), (o_table_turns, .inl (cI, 9, .inl u20))] H := hP
      have hD : va_D A [(o, .inr (5, [.ref o_page, .ref o_reader, .ref o_stand, .ref o_trialStand, .ref o_table, .ref o_kept, .ref o_trial, .int (0 : Int32), .int vo_towersRead, .int vo_changesDone])), (o_page, .inr (1, [.ref o_page_codes, .int (0 : Int32)])), (o_page_codes, .inl (cC, 70, .inl vo_page_codes)), (o_reader, .inr (2, [.ref o_reader_read, .int u2])), (o_stand, .inr (3, [.ref o_stand_kinds, .ref o_stand_holds, .ref o_stand_takes, .ref o_stand_shareCounts, .ref o_stand_shares, .int u10])), (o_stand_kinds, .inl (cI, 9, .inl u11)), (o_stand_holds, .inl (cI, 9, .inl u12)), (o_stand_takes, .inl (cI, 9, .inl u13)), (o_stand_shareCounts, .inl (cI, 9, .inl u14)), (o_stand_shares, .inl (cI, 27, .inl u15)), (o_reader_read, .inr (3, [.ref o_reader_read_kinds, .ref o_reader_read_holds, .ref o_reader_read_takes, .ref o_reader_read_shareCounts, .ref o_reader_read_shares, .int u3])), (o_reader_read_kinds, .inl (cI, 9, .inl u4)), (o_reader_read_holds, .inl (cI, 9, .inl u5)), (o_reader_read_takes, .inl (cI, 9, .inl u6)), (o_reader_read_shareCounts, .inl (cI, 9, .inl u7)), (o_reader_read_shares, .inl (cI, 27, .inl u8)), (o_table, .inr (4, [.ref o_table_fill, .ref o_table_drunkFrom, .ref o_table_turns, .int u16])), (o_table_fill, .inr (0, [.ref o_table_fill_inside, .long u17])), (o_table_fill_inside, .inl (cJ, 9, .inr (.inl u18))), (o_table_drunkFrom, .inl (cJ, 9, .inr (.inl u19))), (o_table_turns, .inl (cI, 9, .inl u20))] := hD
      refine lv_aload_n hx hb dX5_tower_61 rfl (lv_at hl 0 rfl) ?_
      refine lv_dup hx hb dX5_tower_62 rfl ?_
      refine va_get (D := (dC, dI)) (ci := 5) (v := .int vo_towersRead) (C := RX5) (T := TX5) (N := 10) hx hb hts hwX5 hown hK hP 0 rfl rfl 8 (by decide) hf_98 (fun _ h9 => h9) rfl dX5_tower_63 ?_
      refine lv_iconst (v := (1 : Int32)) hx hb dX5_tower_66 (by decide) ?_
      refine lv_iadd hx hb dX5_tower_67 ?_
      refine lv_topi (fun v21 ev21 => ?_)
      replace hT := cut_n ev21.symm hT
      try have fv21 := zaddE (rfl : (vo_towersRead).toInt = _) (by decide : ((1 : Int32)).toInt = 1) ev21.symm (by omega) (by omega)
      refine va_put (D := (dC, dI)) (ci := 5) (v := .int v21) (ty := .int) (C := RX5) (T := TX5) (N := 10) hx hb hts hwX5 tyX5 tyX5_ok nmX5 hown hK hP hD hS 0 rfl rfl 8 (by decide) hf_98 (fun _ h9 => h9) rfl (by decide +kernel) rfl rfl (Nat.le_of_ble_eq_true rfl) dX5_tower_68 (fun H locs hP hD hS => ?_)
      have hP : va_P (dC, dI) vwCl [(o, .inr (5, [.ref o_page, .ref o_reader, .ref o_stand, .ref o_trialStand, .ref o_table, .ref o_kept, .ref o_trial, .int (0 : Int32), .int v21, .int vo_changesDone])), (o_page, .inr (1, [.ref o_page_codes, .int (0 : Int32)])), (o_page_codes, .inl (cC, 70, .inl vo_page_codes)), (o_reader, .inr (2, [.ref o_reader_read, .int u2])), (o_stand, .inr (3, [.ref o_stand_kinds, .ref o_stand_holds, .ref o_stand_takes, .ref o_stand_shareCounts, .ref o_stand_shares, .int u10])), (o_stand_kinds, .inl (cI, 9, .inl u11)), (o_stand_holds, .inl (cI, 9, .inl u12)), (o_stand_takes, .inl (cI, 9, .inl u13)), (o_stand_shareCounts, .inl (cI, 9, .inl u14)), (o_stand_shares, .inl (cI, 27, .inl u15)), (o_reader_read, .inr (3, [.ref o_reader_read_kinds, .ref o_reader_read_holds, .ref o_reader_read_takes, .ref o_reader_read_shareCounts, .ref o_reader_read_shares, .int u3])), (o_reader_read_kinds, .inl (cI, 9, .inl u4)), (o_reader_read_holds, .inl (cI, 9, .inl u5)), (o_reader_read_takes, .inl (cI, 9, .inl u6)), (o_reader_read_shareCounts, .inl (cI, 9, .inl u7)), (o_reader_read_shares, .inl (cI, 27, .inl u8)), (o_table, .inr (4, [.ref o_table_fill, .ref o_table_drunkFrom, .ref o_table_turns, .int u16])), (o_table_fill, .inr (0, [.ref o_table_fill_inside, .long u17])), (o_table_fill_inside, .inl (cJ, 9, .inr (.inl u18))), (o_table_drunkFrom, .inl (cJ, 9, .inr (.inl u19))), (o_table_turns, .inl (cI, 9, .inl u20))] H := hP
      have hD : va_D A [(o, .inr (5, [.ref o_page, .ref o_reader, .ref o_stand, .ref o_trialStand, .ref o_table, .ref o_kept, .ref o_trial, .int (0 : Int32), .int v21, .int vo_changesDone])), (o_page, .inr (1, [.ref o_page_codes, .int (0 : Int32)])), (o_page_codes, .inl (cC, 70, .inl vo_page_codes)), (o_reader, .inr (2, [.ref o_reader_read, .int u2])), (o_stand, .inr (3, [.ref o_stand_kinds, .ref o_stand_holds, .ref o_stand_takes, .ref o_stand_shareCounts, .ref o_stand_shares, .int u10])), (o_stand_kinds, .inl (cI, 9, .inl u11)), (o_stand_holds, .inl (cI, 9, .inl u12)), (o_stand_takes, .inl (cI, 9, .inl u13)), (o_stand_shareCounts, .inl (cI, 9, .inl u14)), (o_stand_shares, .inl (cI, 27, .inl u15)), (o_reader_read, .inr (3, [.ref o_reader_read_kinds, .ref o_reader_read_holds, .ref o_reader_read_takes, .ref o_reader_read_shareCounts, .ref o_reader_read_shares, .int u3])), (o_reader_read_kinds, .inl (cI, 9, .inl u4)), (o_reader_read_holds, .inl (cI, 9, .inl u5)), (o_reader_read_takes, .inl (cI, 9, .inl u6)), (o_reader_read_shareCounts, .inl (cI, 9, .inl u7)), (o_reader_read_shares, .inl (cI, 27, .inl u8)), (o_table, .inr (4, [.ref o_table_fill, .ref o_table_drunkFrom, .ref o_table_turns, .int u16])), (o_table_fill, .inr (0, [.ref o_table_fill_inside, .long u17])), (o_table_fill_inside, .inl (cJ, 9, .inr (.inl u18))), (o_table_drunkFrom, .inl (cJ, 9, .inr (.inl u19))), (o_table_turns, .inl (cI, 9, .inl u20))] := hD
      refine lv_aload_n hx hb dX5_tower_71 rfl (lv_at hl 0 rfl) ?_
      refine va_get (D := (dC, dI)) (ci := 5) (v := .ref o_stand) (C := RX5) (T := TX5) (N := 10) hx hb hts hwX5 hown hK hP 0 rfl rfl 2 (by decide) hf_26 (fun _ h9 => h9) rfl dX5_tower_72 ?_
      refine va_get (D := (dC, dI)) (ci := 3) (v := .int u10) (C := RX3) (T := TX3) (N := 6) hx hb hts hwX3 hown hK hP 4 rfl rfl 5 (by decide) hf_101 (fun _ h9 => h9) rfl dX5_tower_75 ?_
      have hP9 := hP
      have hD9 := hD
      have hS9 := hS
      have hT : (u10, (0 : Int32), v21, (0 : Int32), u2, u3, u4, u5, u6, u7, u8, u10, u11, u12, u13, u14, u15, u16, u17, u18, u19, u20) = (r, qo_imageKept, qo_towersRead, qo_page_size, qo_reader_place, qo_reader_read_size, qo_reader_read_kinds, qo_reader_read_holds, qo_reader_read_takes, qo_reader_read_shareCounts, qo_reader_read_shares, qo_stand_size, qo_stand_kinds, qo_stand_holds, qo_stand_takes, qo_stand_shareCounts, qo_stand_shares, qo_table_poured, qo_table_fill_spilt, qo_table_fill_inside, qo_table_drunkFrom, qo_table_turns) := hT
      cases hT
      subst hQ
      exact zz_iret hx hb hr [0, 1, 2, 3, 10, 11, 12, 13, 14, 15, 4, 5, 6, 7, 8, 9, 16, 17, 18, 19, 20] hK hP9 hD9 hS9 rfl rfl ⟨(by first | assumption | omega), (by first | assumption | omega), (by first | assumption | omega), (by first | assumption | omega), (by first | omega | decide), (by first | omega | decide)⟩ hlocks dX5_tower_78
    · replace hT := cutT c_9 hT
      have g_19 := zeqT (rfl : (r9).toInt = _) (by decide : ((0 : Int32)).toInt = 0) c_9
      refine lv_bipush (v := (-103 : Int32)) hx hb dX5_tower_24 (by decide) ?_
      have hP9 := hP
      have hD9 := hD
      have hS9 := hS
      have hT : ((-103 : Int32), vo_imageKept, vo_towersRead, vo_page_size, u2, u3, u4, u5, u6, u7, u8, vo_stand_size, vo_stand_kinds, vo_stand_holds, vo_stand_takes, vo_stand_shareCounts, vo_stand_shares, vo_table_poured, vo_table_fill_spilt, vo_table_fill_inside, vo_table_drunkFrom, vo_table_turns) = (r, qo_imageKept, qo_towersRead, qo_page_size, qo_reader_place, qo_reader_read_size, qo_reader_read_kinds, qo_reader_read_holds, qo_reader_read_takes, qo_reader_read_shareCounts, qo_reader_read_shares, qo_stand_size, qo_stand_kinds, qo_stand_holds, qo_stand_takes, qo_stand_shareCounts, qo_stand_shares, qo_table_poured, qo_table_fill_spilt, qo_table_fill_inside, qo_table_drunkFrom, qo_table_turns) := hT
      cases hT
      subst hQ
      exact zz_iret hx hb hr [11, 12, 13, 17, 18, 14, 15, 16, 19, 20, 0, 1, 2, 3, 4, 5, 6, 7, 8, 9, 10] hK hP9 hD9 hS9 rfl rfl ⟨(by first | assumption | omega), (by first | assumption | omega), (by first | assumption | omega), (by first | assumption | omega), (by first | omega | decide), (by first | omega | decide)⟩ hlocks dX5_tower_26
