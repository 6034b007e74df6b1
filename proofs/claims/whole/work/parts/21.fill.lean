def rs_J7_fill_d0a16_2  (x3 : Int32) (x4 : Nat → Int64) : (Nat → Int64) :=
 x4
def lp_J7_fill_d0a16_2 (ct2 : Int32 → (Nat → Int64) → ((Nat → Int64))) (p2 : Int64) : Nat → Int32 → (Nat → Int64) → ((Nat → Int64))
  | 0, _, _ => default
  | k + 1, b1, b2 =>
  if (9 : Int32) ≤ b1 then
   (ct2 b1 b2)
  else
   cut (vp_updL b2 b1.toNatClampNeg p2) (fun (a5 : Nat → Int64) =>
   cut (b1 + (1 : Int32)) (fun (v6 : Int32) =>
   (lp_J7_fill_d0a16_2 ct2 p2 k v6 a5)))
def m_J7_fill_d0a16 (vp1 : Nat → Int64) (p2 : Int64) : (Nat → Int64) :=
 (lp_J7_fill_d0a16_2 rs_J7_fill_d0a16_2 p2 11 (0 : Int32) vp1)
set_option maxHeartbeats 4000000 in
set_option maxRecDepth 100000 in
theorem k_J7_fill_d0a16 (l : Launch) (dC : Nat → ClassId) (dI : Nat → Nat → Nat) (cI cJ cC : ClassId) (sz : Nat) (p1 : Nat) (vp1 : Nat → Int64) (p2 : Int64) (qp1 : Nat → Int64) (hT : m_J7_fill_d0a16 vp1 p2 = qp1) : Met l yJ7_fill_d0a16 wsJ7_fill_d0a16 ({ frames := 0, cells := 0, slots := 0, locals := 0 }) (zPc [.ref p1, .long p2] (dC, dI) (zTy cI cJ cC) [(p1, .inl (cJ, 9, .inr (.inl vp1)))] sz) (zQv (True) (dC, dI) (zTy cI cJ cC) [(p1, .inl (cJ, 9, .inr (.inl qp1)))] (va_A [(p1, .inl (cJ, 9, .inr (.inl vp1)))] sz)) 0 0 (va_A [(p1, .inl (cJ, 9, .inr (.inl vp1)))] sz) := by
  refine Met.ofW (cc := cJ7_fill_d0a16) (maxL := 5) (ret := none) (by decide) rfl ?_
  intro p e s m args below meth c s₁ B hml hv
  obtain ⟨rfl, hsz, hP, hK, hD0⟩ := hv
  have hx := B.exec
  have hb := B.bytes
  have hr := B.returns
  have hts := atoms_spec (ws := wsJ7_fill_d0a16) B.pre
  have hown : s.vm.findClass RJ7 = some m.cls := findClass_of_methodNamed B.named
  have hlocks := B.notSynchronized
  subst hsz
  have hD := hD0.self (sz := s.heap.size)
  generalize hAe : va_A [(p1, .inl (cJ, 9, .inr (.inl vp1)))] s.heap.size = A at hD ⊢
  have hA : ∀ q : Nat, s.heap.size ≤ q → A q := fun q h => by rw [← hAe]; exact Or.inr h
  have hS : va_S A s.heap s.heap [] := va_S.rf
  have hP : va_P (dC, dI) vwCl [(p1, .inl (cJ, 9, .inr (.inl vp1)))] s.heap := hP
  have hK : va_K (dC, dI) vwCl (zTy cI cJ cC) s := hK
  have hl := lv_entry ([.ref p1, .long p2]) (n := 5) (Nat.le_of_ble_eq_true rfl)
  rw [lg_entry_eq]
  generalize (lg_sl ([.ref p1, .long p2]) ++ List.replicate (5 - (lg_sl ([.ref p1, .long p2])).length) Slot.unset).toArray = ls at hl ⊢
  have hl : lv_has ls 5 [(0, .ref p1), (1, .long p2)] := hl
  refine zz_start hP hS (fun Q hQ H locs hP hS => ?_)
  refine lv_iconst (v := (0 : Int32)) hx hb dJ7_fill_d0a16_0 (by decide) ?_
  refine lv_istore_n (lv' := [(3, .int (0 : Int32)), (0, .ref p1), (1, .long p2)]) hx hb dJ7_fill_d0a16_1 rfl hl (by decide) rfl (fun ls hl => ?_)
  refine lv_aload_n hx hb dJ7_fill_d0a16_2 rfl (lv_at hl 1 rfl) ?_
  refine va_alen (v := (9 : Int32)) hx hb hK hP 0 1 rfl rfl rfl dJ7_fill_d0a16_3 ?_
  refine lv_istore (lv' := [(4, .int (9 : Int32)), (3, .int (0 : Int32)), (0, .ref p1), (1, .long p2)]) hx hb dJ7_fill_d0a16_4 hl (by decide) rfl (fun ls hl => ?_)
  have hz_3 : ((0 : Int32)).toInt = 0 := by decide
  refine zz_loop (α := Int32 × (Nat → Int64)) 22 (fun k a H locs ls => (0 ≤ a.1.toInt) ∧ (a.1.toInt ≤ 9) ∧ (9 - a.1.toInt < ((k : Nat) : Int)) ∧ lp_J7_fill_d0a16_2 rs_J7_fill_d0a16_2 p2 k a.1 a.2 = qp1 ∧ va_P (dC, dI) vwCl [(p1, .inl (cJ, 9, .inr (.inl a.2)))] H ∧ va_D A [(p1, .inl (cJ, 9, .inr (.inl a.2)))] ∧ va_S A s.heap H locs ∧ lv_has ls 5 [(4, .int (9 : Int32)), (3, .int a.1), (0, .ref p1), (1, .long p2)]) (fun a H locs ls => (0 ≤ a.1.toInt) ∧ (a.1.toInt ≤ 9) ∧ rs_J7_fill_d0a16_2 a.1 a.2 = qp1 ∧ va_P (dC, dI) vwCl [(p1, .inl (cJ, 9, .inr (.inl a.2)))] H ∧ va_D A [(p1, .inl (cJ, 9, .inr (.inl a.2)))] ∧ va_S A s.heap H locs ∧ lv_has ls 5 []) ?_ ?_ ?_ 11 ((0 : Int32), vp1) ⟨(by omega : 0 ≤ (0 : Int32).toInt), (by omega : (0 : Int32).toInt ≤ 9), (by omega : 9 - (0 : Int32).toInt < ((11 : Nat) : Int)), hT, hP.sub [0] rfl, hD.sub [0] rfl rfl, hS, lv_sub hl [0, 1, 2, 3] rfl⟩
  · rintro ⟨x3, x4⟩ H locs ls ⟨i1, j1, hT, hP, hD, hS, hl⟩
    have hP : va_P (dC, dI) vwCl [(p1, .inl (cJ, 9, .inr (.inl x4)))] H := hP
    have hD : va_D A [(p1, .inl (cJ, 9, .inr (.inl x4)))] := hD
    have hl : lv_has ls 5 [] := hl
    have hT : rs_J7_fill_d0a16_2 x3 x4 = qp1 := hT
    have i1 : 0 ≤ x3.toInt := i1
    have j1 : x3.toInt ≤ 9 := j1
    have hP9 := hP
    have hD9 := hD
    have hS9 := hS
    have hT : x4 = qp1 := hT
    subst hT
    subst hQ
    exact zz_vret hx hb hr [0] hK hP9 hD9 hS9 rfl rfl trivial hlocks dJ7_fill_d0a16_22
  · rintro ⟨b1, b2⟩ H locs ls ⟨i1, j1, hm, -⟩
    try dsimp only at *
    omega
  · intro k2 hex2 ih2
    rintro ⟨b1, b2⟩ H locs ls ⟨i1, j1, hm2, hT, hP, hD, hS, hl⟩
    have hP : va_P (dC, dI) vwCl [(p1, .inl (cJ, 9, .inr (.inl b2)))] H := hP
    have hD : va_D A [(p1, .inl (cJ, 9, .inr (.inl b2)))] := hD
    have hl : lv_has ls 5 [(4, .int (9 : Int32)), (3, .int b1), (0, .ref p1), (1, .long p2)] := hl
    have hT : lp_J7_fill_d0a16_2 rs_J7_fill_d0a16_2 p2 (k2 + 1) b1 b2 = qp1 := hT
    have i1 : 0 ≤ b1.toInt := i1
    have j1 : b1.toInt ≤ 9 := j1
    have hm2 : 9 - b1.toInt < (((k2 + 1) : Nat) : Int) := hm2
    try simp only [Int.natCast_add, Int.natCast_one, Nat.cast_add, Nat.cast_one] at hm2
    refine lv_iload_n hx hb dJ7_fill_d0a16_6 rfl (lv_at hl 1 rfl) ?_
    refine lv_iload hx hb dJ7_fill_d0a16_7 (lv_at hl 0 rfl) ?_
    refine lv_icmp_ge (tgt := 22) hx hb dJ7_fill_d0a16_9 (by decide) (fun c_1 => ?_) (fun c_1 => ?_)
    · replace hT := cutT c_1 hT
      have g_4 := zleT (by decide : ((9 : Int32)).toInt = 9) (rfl : (b1).toInt = _) c_1
      exact hex2 (b1, b2) _ _ _ ⟨(by omega : 0 ≤ b1.toInt), (by omega : b1.toInt ≤ 9), hT, hP.sub [0] rfl, hD.sub [0] rfl rfl, hS, lv_sub hl [] rfl⟩
    · replace hT := cutF c_1 hT
      have g_5 := zleF (by decide : ((9 : Int32)).toInt = 9) (rfl : (b1).toInt = _) c_1
      refine lv_aload_n hx hb dJ7_fill_d0a16_12 rfl (lv_at hl 2 rfl) ?_
      refine lv_iload_n hx hb dJ7_fill_d0a16_13 rfl (lv_at hl 1 rfl) ?_
      refine lv_lload_n hx hb dJ7_fill_d0a16_14 rfl (lv_at hl 3 rfl) ?_
      have h_2 : vp_in b1 9 := zin (by omega) (by omega)
      refine va_last hx hb hK hP hD hS 0 1 rfl rfl h_2 dJ7_fill_d0a16_15 (fun H locs hP hD hS => ?_)
      obtain ⟨a5, ea5⟩ : ∃ z, (vp_updL b2 b1.toNatClampNeg p2) = z := ⟨_, rfl⟩
      replace hT := cut_n ea5 hT
      have hP : va_P (dC, dI) vwCl [(p1, .inl (cJ, 9, .inr (.inl a5)))] H := by rw [← ea5]; exact hP
      have hD : va_D A [(p1, .inl (cJ, 9, .inr (.inl a5)))] := by rw [← ea5]; exact hD
      obtain ⟨v6, ev6⟩ : ∃ y : Int32, (b1 + (1 : Int32)) = y := ⟨_, rfl⟩
      replace hT := cut_n ev6 hT
      try have fv6 := zaddE (rfl : (b1).toInt = _) (by decide : ((1 : Int32)).toInt = 1) ev6 (by omega) (by omega)
      refine lv_iinc (v := v6) (lv' := [(3, .int v6), (4, .int (9 : Int32)), (0, .ref p1), (1, .long p2)]) hx hb dJ7_fill_d0a16_16 hl (k := 1) rfl (by rw [← ev6]; rfl) (by decide) rfl (fun ls hl => ?_)
      refine lv_goto (tgt := 6) hx hb dJ7_fill_d0a16_19 (by decide) ?_
      exact ih2 (v6, a5) _ _ _ ⟨(by omega : 0 ≤ v6.toInt), (by omega : v6.toInt ≤ 9), (by omega : 9 - v6.toInt < ((k2 : Nat) : Int)), hT, hP.sub [0] rfl, hD.sub [0] rfl rfl, hS, lv_sub hl [1, 0, 2, 3] rfl⟩

def rs_J7_fill_53178_2  (x3 : Int32) (x4 : Nat → Int32) : (Nat → Int32) :=
 x4
def lp_J7_fill_53178_2 (ct2 : Int32 → (Nat → Int32) → ((Nat → Int32))) (p2 : Int32) : Nat → Int32 → (Nat → Int32) → ((Nat → Int32))
  | 0, _, _ => default
  | k + 1, b1, b2 =>
  if (9 : Int32) ≤ b1 then
   (ct2 b1 b2)
  else
   cut (upd b2 b1.toNatClampNeg p2) (fun (a5 : Nat → Int32) =>
   cut (b1 + (1 : Int32)) (fun (v6 : Int32) =>
   (lp_J7_fill_53178_2 ct2 p2 k v6 a5)))
def m_J7_fill_53178 (vp1 : Nat → Int32) (p2 : Int32) : (Nat → Int32) :=
 (lp_J7_fill_53178_2 rs_J7_fill_53178_2 p2 11 (0 : Int32) vp1)
set_option maxHeartbeats 4000000 in
set_option maxRecDepth 100000 in
theorem k_J7_fill_53178 (l : Launch) (dC : Nat → ClassId) (dI : Nat → Nat → Nat) (cI cJ cC : ClassId) (sz : Nat) (p1 : Nat) (vp1 : Nat → Int32) (p2 : Int32) (qp1 : Nat → Int32) (hT : m_J7_fill_53178 vp1 p2 = qp1) : Met l yJ7_fill_53178 wsJ7_fill_53178 ({ frames := 0, cells := 0, slots := 0, locals := 0 }) (zPc [.ref p1, .int p2] (dC, dI) (zTy cI cJ cC) [(p1, .inl (cI, 9, .inl vp1))] sz) (zQv (True) (dC, dI) (zTy cI cJ cC) [(p1, .inl (cI, 9, .inl qp1))] (va_A [(p1, .inl (cI, 9, .inl vp1))] sz)) 0 0 (va_A [(p1, .inl (cI, 9, .inl vp1))] sz) := by
  refine Met.ofW (cc := cJ7_fill_53178) (maxL := 4) (ret := none) (by decide) rfl ?_
  intro p e s m args below meth c s₁ B hml hv
  obtain ⟨rfl, hsz, hP, hK, hD0⟩ := hv
  have hx := B.exec
  have hb := B.bytes
  have hr := B.returns
  have hts := atoms_spec (ws := wsJ7_fill_53178) B.pre
  have hown : s.vm.findClass RJ7 = some m.cls := findClass_of_methodNamed B.named
  have hlocks := B.notSynchronized
  subst hsz
  have hD := hD0.self (sz := s.heap.size)
  generalize hAe : va_A [(p1, .inl (cI, 9, .inl vp1))] s.heap.size = A at hD ⊢
  have hA : ∀ q : Nat, s.heap.size ≤ q → A q := fun q h => by rw [← hAe]; exact Or.inr h
  have hS : va_S A s.heap s.heap [] := va_S.rf
  have hP : va_P (dC, dI) vwCl [(p1, .inl (cI, 9, .inl vp1))] s.heap := hP
  have hK : va_K (dC, dI) vwCl (zTy cI cJ cC) s := hK
  have hl := lv_entry ([.ref p1, .int p2]) (n := 4) (Nat.le_of_ble_eq_true rfl)
  rw [lg_entry_eq]
  generalize (lg_sl ([.ref p1, .int p2]) ++ List.replicate (4 - (lg_sl ([.ref p1, .int p2])).length) Slot.unset).toArray = ls at hl ⊢
  have hl : lv_has ls 4 [(0, .ref p1), (1, .int p2)] := hl
  refine zz_start hP hS (fun Q hQ H locs hP hS => ?_)
  refine lv_iconst (v := (0 : Int32)) hx hb dJ7_fill_53178_0 (by decide) ?_
  refine lv_istore_n (lv' := [(2, .int (0 : Int32)), (0, .ref p1), (1, .int p2)]) hx hb dJ7_fill_53178_1 rfl hl (by decide) rfl (fun ls hl => ?_)
  refine lv_aload_n hx hb dJ7_fill_53178_2 rfl (lv_at hl 1 rfl) ?_
  refine va_alen (v := (9 : Int32)) hx hb hK hP 0 0 rfl rfl rfl dJ7_fill_53178_3 ?_
  refine lv_istore_n (lv' := [(3, .int (9 : Int32)), (2, .int (0 : Int32)), (0, .ref p1), (1, .int p2)]) hx hb dJ7_fill_53178_4 rfl hl (by decide) rfl (fun ls hl => ?_)
  have hz_3 : ((0 : Int32)).toInt = 0 := by decide
  refine zz_loop (α := Int32 × (Nat → Int32)) 20 (fun k a H locs ls => (0 ≤ a.1.toInt) ∧ (a.1.toInt ≤ 9) ∧ (9 - a.1.toInt < ((k : Nat) : Int)) ∧ lp_J7_fill_53178_2 rs_J7_fill_53178_2 p2 k a.1 a.2 = qp1 ∧ va_P (dC, dI) vwCl [(p1, .inl (cI, 9, .inl a.2))] H ∧ va_D A [(p1, .inl (cI, 9, .inl a.2))] ∧ va_S A s.heap H locs ∧ lv_has ls 4 [(3, .int (9 : Int32)), (2, .int a.1), (0, .ref p1), (1, .int p2)]) (fun a H locs ls => (0 ≤ a.1.toInt) ∧ (a.1.toInt ≤ 9) ∧ rs_J7_fill_53178_2 a.1 a.2 = qp1 ∧ va_P (dC, dI) vwCl [(p1, .inl (cI, 9, .inl a.2))] H ∧ va_D A [(p1, .inl (cI, 9, .inl a.2))] ∧ va_S A s.heap H locs ∧ lv_has ls 4 []) ?_ ?_ ?_ 11 ((0 : Int32), vp1) ⟨(by omega : 0 ≤ (0 : Int32).toInt), (by omega : (0 : Int32).toInt ≤ 9), (by omega : 9 - (0 : Int32).toInt < ((11 : Nat) : Int)), hT, hP.sub [0] rfl, hD.sub [0] rfl rfl, hS, lv_sub hl [0, 1, 2, 3] rfl⟩
  · rintro ⟨x3, x4⟩ H locs ls ⟨i1, j1, hT, hP, hD, hS, hl⟩
    have hP : va_P (dC, dI) vwCl [(p1, .inl (cI, 9, .inl x4))] H := hP
    have hD : va_D A [(p1, .inl (cI, 9, .inl x4))] := hD
    have hl : lv_has ls 4 [] := hl
    have hT : rs_J7_fill_53178_2 x3 x4 = qp1 := hT
    have i1 : 0 ≤ x3.toInt := i1
    have j1 : x3.toInt ≤ 9 := j1
    have hP9 := hP
    have hD9 := hD
    have hS9 := hS
    have hT : x4 = qp1 := hT
    subst hT
    subst hQ
    exact zz_vret hx hb hr [0] hK hP9 hD9 hS9 rfl rfl trivial hlocks dJ7_fill_53178_20
  · rintro ⟨b1, b2⟩ H locs ls ⟨i1, j1, hm, -⟩
    try dsimp only at *
    omega
  · intro k2 hex2 ih2
    rintro ⟨b1, b2⟩ H locs ls ⟨i1, j1, hm2, hT, hP, hD, hS, hl⟩
    have hP : va_P (dC, dI) vwCl [(p1, .inl (cI, 9, .inl b2))] H := hP
    have hD : va_D A [(p1, .inl (cI, 9, .inl b2))] := hD
    have hl : lv_has ls 4 [(3, .int (9 : Int32)), (2, .int b1), (0, .ref p1), (1, .int p2)] := hl
    have hT : lp_J7_fill_53178_2 rs_J7_fill_53178_2 p2 (k2 + 1) b1 b2 = qp1 := hT
    have i1 : 0 ≤ b1.toInt := i1
    have j1 : b1.toInt ≤ 9 := j1
    have hm2 : 9 - b1.toInt < (((k2 + 1) : Nat) : Int) := hm2
    try simp only [Int.natCast_add, Int.natCast_one, Nat.cast_add, Nat.cast_one] at hm2
    refine lv_iload_n hx hb dJ7_fill_53178_5 rfl (lv_at hl 1 rfl) ?_
    refine lv_iload_n hx hb dJ7_fill_53178_6 rfl (lv_at hl 0 rfl) ?_
    refine lv_icmp_ge (tgt := 20) hx hb dJ7_fill_53178_7 (by decide) (fun c_1 => ?_) (fun c_1 => ?_)
    · replace hT := cutT c_1 hT
      have g_4 := zleT (by decide : ((9 : Int32)).toInt = 9) (rfl : (b1).toInt = _) c_1
      exact hex2 (b1, b2) _ _ _ ⟨(by omega : 0 ≤ b1.toInt), (by omega : b1.toInt ≤ 9), hT, hP.sub [0] rfl, hD.sub [0] rfl rfl, hS, lv_sub hl [] rfl⟩
    · replace hT := cutF c_1 hT
      have g_5 := zleF (by decide : ((9 : Int32)).toInt = 9) (rfl : (b1).toInt = _) c_1
      refine lv_aload_n hx hb dJ7_fill_53178_10 rfl (lv_at hl 2 rfl) ?_
      refine lv_iload_n hx hb dJ7_fill_53178_11 rfl (lv_at hl 1 rfl) ?_
      refine lv_iload_n hx hb dJ7_fill_53178_12 rfl (lv_at hl 3 rfl) ?_
      have h_2 : vp_in b1 9 := zin (by omega) (by omega)
      refine va_iast hx hb hK hP hD hS 0 0 rfl rfl h_2 dJ7_fill_53178_13 (fun H locs hP hD hS => ?_)
      obtain ⟨a5, ea5⟩ : ∃ z, (upd b2 b1.toNatClampNeg p2) = z := ⟨_, rfl⟩
      replace hT := cut_n ea5 hT
      have hP : va_P (dC, dI) vwCl [(p1, .inl (cI, 9, .inl a5))] H := by rw [← ea5]; exact hP
      have hD : va_D A [(p1, .inl (cI, 9, .inl a5))] := by rw [← ea5]; exact hD
      obtain ⟨v6, ev6⟩ : ∃ y : Int32, (b1 + (1 : Int32)) = y := ⟨_, rfl⟩
      replace hT := cut_n ev6 hT
      try have fv6 := zaddE (rfl : (b1).toInt = _) (by decide : ((1 : Int32)).toInt = 1) ev6 (by omega) (by omega)
      refine lv_iinc (v := v6) (lv' := [(2, .int v6), (3, .int (9 : Int32)), (0, .ref p1), (1, .int p2)]) hx hb dJ7_fill_53178_14 hl (k := 1) rfl (by rw [← ev6]; rfl) (by decide) rfl (fun ls hl => ?_)
      refine lv_goto (tgt := 5) hx hb dJ7_fill_53178_17 (by decide) ?_
      exact ih2 (v6, a5) _ _ _ ⟨(by omega : 0 ≤ v6.toInt), (by omega : v6.toInt ≤ 9), (by omega : 9 - v6.toInt < ((k2 : Nat) : Int)), hT, hP.sub [0] rfl, hD.sub [0] rfl rfl, hS, lv_sub hl [1, 0, 2, 3] rfl⟩

def m_J6_bitCount_0f7a4 (p1 : Int32) : Int32 :=
 cut (p1 - (((p1.toUInt32 >>> ((1 : Int32).toUInt32 &&& Int32.toUInt32 31)).toInt32) &&& (1431655765 : Int32))) (fun (v1 : Int32) =>
 cut ((v1 &&& (858993459 : Int32)) + (((v1.toUInt32 >>> ((2 : Int32).toUInt32 &&& Int32.toUInt32 31)).toInt32) &&& (858993459 : Int32))) (fun (v2 : Int32) =>
 cut ((v2 + ((v2.toUInt32 >>> ((4 : Int32).toUInt32 &&& Int32.toUInt32 31)).toInt32)) &&& (252645135 : Int32)) (fun (v3 : Int32) =>
 cut (v3 + ((v3.toUInt32 >>> ((8 : Int32).toUInt32 &&& Int32.toUInt32 31)).toInt32)) (fun (v4 : Int32) =>
 cut (v4 + ((v4.toUInt32 >>> ((16 : Int32).toUInt32 &&& Int32.toUInt32 31)).toInt32)) (fun (v5 : Int32) =>
 (v5 &&& (63 : Int32)))))))
set_option maxHeartbeats 4000000 in
set_option maxRecDepth 100000 in
theorem k_J6_bitCount_0f7a4 (l : Launch) (dC : Nat → ClassId) (dI : Nat → Nat → Nat) (cI cJ cC : ClassId) (sz : Nat) (p1 : Int32) (r : Int32) (hT : m_J6_bitCount_0f7a4 p1 = r) : Met l yJ6_bitCount_0f7a4 wsJ6_bitCount_0f7a4 ({ frames := 0, cells := 0, slots := 0, locals := 0 }) (zPc [.int p1] (dC, dI) (zTy cI cJ cC) [] sz) (zQi r (True) (dC, dI) (zTy cI cJ cC) [] (va_A [] sz)) 0 0 (va_A [] sz) := by
  refine Met.ofW (cc := cJ6_bitCount_0f7a4) (maxL := 1) (ret := (some .int)) (by decide) rfl ?_
  intro p e s m args below meth c s₁ B hml hv
  obtain ⟨rfl, hsz, hP, hK, hD0⟩ := hv
  have hx := B.exec
  have hb := B.bytes
  have hr := B.returns
  have hts := atoms_spec (ws := wsJ6_bitCount_0f7a4) B.pre
  have hown : s.vm.findClass RJ6 = some m.cls := findClass_of_methodNamed B.named
  have hlocks := B.notSynchronized
  subst hsz
  have hD := hD0.self (sz := s.heap.size)
  generalize hAe : va_A [] s.heap.size = A at hD ⊢
  have hA : ∀ q : Nat, s.heap.size ≤ q → A q := fun q h => by rw [← hAe]; exact Or.inr h
  have hS : va_S A s.heap s.heap [] := va_S.rf
  have hP : va_P (dC, dI) vwCl [] s.heap := hP
  have hK : va_K (dC, dI) vwCl (zTy cI cJ cC) s := hK
  have hl := lv_entry ([.int p1]) (n := 1) (Nat.le_of_ble_eq_true rfl)
  rw [lg_entry_eq]
  generalize (lg_sl ([.int p1]) ++ List.replicate (1 - (lg_sl ([.int p1])).length) Slot.unset).toArray = ls at hl ⊢
  have hl : lv_has ls 1 [(0, .int p1)] := hl
  refine zz_start hP hS (fun Q hQ H locs hP hS => ?_)
  have hc_265 := (hts (.constant RJ6 265 (1431655765)) (by decide +kernel))
  have hc_266 := (hts (.constant RJ6 266 (858993459)) (by decide +kernel))
  have hc_267 := (hts (.constant RJ6 267 (252645135)) (by decide +kernel))
  refine lv_iload_n hx hb dJ6_bitCount_0f7a4_0 rfl (lv_at hl 0 rfl) ?_
  refine lv_iload_n hx hb dJ6_bitCount_0f7a4_1 rfl (lv_at hl 0 rfl) ?_
  refine lv_iconst (v := (1 : Int32)) hx hb dJ6_bitCount_0f7a4_2 (by decide) ?_
  refine lv_iushr (v := ((p1.toUInt32 >>> ((1 : Int32).toUInt32 &&& Int32.toUInt32 31)).toInt32)) hx hb dJ6_bitCount_0f7a4_3 rfl ?_
  refine lv_ldcw (v := (1431655765 : Int32)) hx hb hown hc_265 dJ6_bitCount_0f7a4_4 ?_
  refine lv_iand hx hb dJ6_bitCount_0f7a4_7 ?_
  refine lv_isub hx hb dJ6_bitCount_0f7a4_8 ?_
  refine lv_topi (fun v1 ev1 => ?_)
  replace hT := cut_n ev1.symm hT
  try have fv1 := zsubE (rfl : (p1).toInt = _) (rfl : ((((p1.toUInt32 >>> ((1 : Int32).toUInt32 &&& Int32.toUInt32 31)).toInt32) &&& (1431655765 : Int32))).toInt = _) ev1.symm (by omega) (by omega)
  refine lv_istore_n (lv' := [(0, .int v1)]) hx hb dJ6_bitCount_0f7a4_9 rfl hl (by decide) rfl (fun ls hl => ?_)
  refine lv_iload_n hx hb dJ6_bitCount_0f7a4_10 rfl (lv_at hl 0 rfl) ?_
  refine lv_ldcw (v := (858993459 : Int32)) hx hb hown hc_266 dJ6_bitCount_0f7a4_11 ?_
  refine lv_iand hx hb dJ6_bitCount_0f7a4_14 ?_
  refine lv_iload_n hx hb dJ6_bitCount_0f7a4_15 rfl (lv_at hl 0 rfl) ?_
  refine lv_iconst (v := (2 : Int32)) hx hb dJ6_bitCount_0f7a4_16 (by decide) ?_
  refine lv_iushr (v := ((v1.toUInt32 >>> ((2 : Int32).toUInt32 &&& Int32.toUInt32 31)).toInt32)) hx hb dJ6_bitCount_0f7a4_17 rfl ?_
  refine lv_ldcw (v := (858993459 : Int32)) hx hb hown hc_266 dJ6_bitCount_0f7a4_18 ?_
  refine lv_iand hx hb dJ6_bitCount_0f7a4_21 ?_
  refine lv_iadd hx hb dJ6_bitCount_0f7a4_22 ?_
  refine lv_topi (fun v2 ev2 => ?_)
  replace hT := cut_n ev2.symm hT
  try have fv2 := zaddE (rfl : ((v1 &&& (858993459 : Int32))).toInt = _) (rfl : ((((v1.toUInt32 >>> ((2 : Int32).toUInt32 &&& Int32.toUInt32 31)).toInt32) &&& (858993459 : Int32))).toInt = _) ev2.symm (by omega) (by omega)
  refine lv_istore_n (lv' := [(0, .int v2)]) hx hb dJ6_bitCount_0f7a4_23 rfl hl (by decide) rfl (fun ls hl => ?_)
  refine lv_iload_n hx hb dJ6_bitCount_0f7a4_24 rfl (lv_at hl 0 rfl) ?_
  refine lv_iload_n hx hb dJ6_bitCount_0f7a4_25 rfl (lv_at hl 0 rfl) ?_
  refine lv_iconst (v := (4 : Int32)) hx hb dJ6_bitCount_0f7a4_26 (by decide) ?_
  refine lv_iushr (v := ((v2.toUInt32 >>> ((4 : Int32).toUInt32 &&& Int32.toUInt32 31)).toInt32)) hx hb dJ6_bitCount_0f7a4_27 rfl ?_
  refine lv_iadd hx hb dJ6_bitCount_0f7a4_28 ?_
  refine lv_ldcw (v := (252645135 : Int32)) hx hb hown hc_267 dJ6_bitCount_0f7a4_29 ?_
  refine lv_iand hx hb dJ6_bitCount_0f7a4_32 ?_
  refine lv_topi (fun v3 ev3 => ?_)
  replace hT := cut_n ev3.symm hT
  refine lv_istore_n (lv' := [(0, .int v3)]) hx hb dJ6_bitCount_0f7a4_33 rfl hl (by decide) rfl (fun ls hl => ?_)
  refine lv_iload_n hx hb dJ6_bitCount_0f7a4_34 rfl (lv_at hl 0 rfl) ?_
  refine lv_iload_n hx hb dJ6_bitCount_0f7a4_35 rfl (lv_at hl 0 rfl) ?_
  refine lv_bipush (v := (8 : Int32)) hx hb dJ6_bitCount_0f7a4_36 (by decide) ?_
  refine lv_iushr (v := ((v3.toUInt32 >>> ((8 : Int32).toUInt32 &&& Int32.toUInt32 31)).toInt32)) hx hb dJ6_bitCount_0f7a4_38 rfl ?_
  refine lv_iadd hx hb dJ6_bitCount_0f7a4_39 ?_
  refine lv_topi (fun v4 ev4 => ?_)
  replace hT := cut_n ev4.symm hT
  try have fv4 := zaddE (rfl : (v3).toInt = _) (rfl : (((v3.toUInt32 >>> ((8 : Int32).toUInt32 &&& Int32.toUInt32 31)).toInt32)).toInt = _) ev4.symm (by omega) (by omega)
  refine lv_istore_n (lv' := [(0, .int v4)]) hx hb dJ6_bitCount_0f7a4_40 rfl hl (by decide) rfl (fun ls hl => ?_)
  refine lv_iload_n hx hb dJ6_bitCount_0f7a4_41 rfl (lv_at hl 0 rfl) ?_
  refine lv_iload_n hx hb dJ6_bitCount_0f7a4_42 rfl (lv_at hl 0 rfl) ?_
  refine lv_bipush (v := (16 : Int32)) hx hb dJ6_bitCount_0f7a4_43 (by decide) ?_
  refine lv_iushr (v := ((v4.toUInt32 >>> ((16 : Int32).toUInt32 &&& Int32.toUInt32 31)).toInt32)) hx hb dJ6_bitCount_0f7a4_45 rfl ?_
  refine lv_iadd hx hb dJ6_bitCount_0f7a4_46 ?_
  refine lv_topi (fun v5 ev5 => ?_)
  replace hT := cut_n ev5.symm hT
  try have fv5 := zaddE (rfl : (v4).toInt = _) (rfl : (((v4.toUInt32 >>> ((16 : Int32).toUInt32 &&& Int32.toUInt32 31)).toInt32)).toInt = _) ev5.symm (by omega) (by omega)
  refine lv_istore_n (lv' := [(0, .int v5)]) hx hb dJ6_bitCount_0f7a4_47 rfl hl (by decide) rfl (fun ls hl => ?_)
  refine lv_iload_n hx hb dJ6_bitCount_0f7a4_48 rfl (lv_at hl 0 rfl) ?_
  refine lv_bipush (v := (63 : Int32)) hx hb dJ6_bitCount_0f7a4_49 (by decide) ?_
  refine lv_iand hx hb dJ6_bitCount_0f7a4_51 ?_
  have hP9 := hP
  have hD9 := hD
  have hS9 := hS
  have hT : (v5 &&& (63 : Int32)) = r := hT
  subst hT
  subst hQ
  exact zz_iret hx hb hr [] hK hP9 hD9 hS9 rfl rfl trivial hlocks dJ6_bitCount_0f7a4_52

def m_X0_makeEmpty (vo_inside : Nat → Int64) : Int64 × (Nat → Int64) :=
 cut (m_J7_fill_d0a16 vo_inside (0 : Int64)) (fun (u1 : Nat → Int64) =>
 ((0 : Int64), u1))
set_option maxHeartbeats 4000000 in
set_option maxRecDepth 100000 in
theorem k_X0_makeEmpty (l : Launch) (dC : Nat → ClassId) (dI : Nat → Nat → Nat) (cI cJ cC : ClassId) (sz : Nat) (o o_inside : Nat) (vo_spilt : Int64) (vo_inside : Nat → Int64) (qo_spilt : Int64) (qo_inside : Nat → Int64) (hT : m_X0_makeEmpty vo_inside = (qo_spilt, qo_inside)) : Met l yX0_makeEmpty wsX0_makeEmpty ({ frames := 1, cells := 0, slots := 0, locals := 24 }) (zPc [.ref o] (dC, dI) (zTy cI cJ cC) [(o, .inr (0, [.ref o_inside, .long vo_spilt])), (o_inside, .inl (cJ, 9, .inr (.inl vo_inside)))] sz) (zQv (True) (dC, dI) (zTy cI cJ cC) [(o, .inr (0, [.ref o_inside, .long qo_spilt])), (o_inside, .inl (cJ, 9, .inr (.inl qo_inside)))] (va_A [(o, .inr (0, [.ref o_inside, .long vo_spilt])), (o_inside, .inl (cJ, 9, .inr (.inl vo_inside)))] sz)) 0 0 (va_A [(o, .inr (0, [.ref o_inside, .long vo_spilt])), (o_inside, .inl (cJ, 9, .inr (.inl vo_inside)))] sz) := by
  refine Met.ofW (cc := cX0_makeEmpty) (maxL := 1) (ret := none) (by decide) rfl ?_
  intro p e s m args below meth c s₁ B hml hv
  obtain ⟨rfl, hsz, hP, hK, hD0⟩ := hv
  have hx := B.exec
  have hb := B.bytes
  have hr := B.returns
  have hts := atoms_spec (ws := wsX0_makeEmpty) B.pre
  have hown : s.vm.findClass RX0 = some m.cls := findClass_of_methodNamed B.named
  have hlocks := B.notSynchronized
  subst hsz
  have hD := hD0.self (sz := s.heap.size)
  generalize hAe : va_A [(o, .inr (0, [.ref o_inside, .long vo_spilt])), (o_inside, .inl (cJ, 9, .inr (.inl vo_inside)))] s.heap.size = A at hD ⊢
  have hA : ∀ q : Nat, s.heap.size ≤ q → A q := fun q h => by rw [← hAe]; exact Or.inr h
  have hS : va_S A s.heap s.heap [] := va_S.rf
  have hP : va_P (dC, dI) vwCl [(o, .inr (0, [.ref o_inside, .long vo_spilt])), (o_inside, .inl (cJ, 9, .inr (.inl vo_inside)))] s.heap := hP
  have hK : va_K (dC, dI) vwCl (zTy cI cJ cC) s := hK
  have hl := lv_entry ([.ref o]) (n := 1) (Nat.le_of_ble_eq_true rfl)
  rw [lg_entry_eq]
  generalize (lg_sl ([.ref o]) ++ List.replicate (1 - (lg_sl ([.ref o])).length) Slot.unset).toArray = ls at hl ⊢
  have hl : lv_has ls 1 [(0, .ref o)] := hl
  refine zz_start hP hS (fun Q hQ H locs hP hS => ?_)
  have hwX0 : ∀ w ∈ u_ws RX0 TX0 2, w ∈ wsX0_makeEmpty := by decide +kernel
  have hf_21 := (hts (.fieldLink RX0 21 "PouredTopmost$Fill" "spilt" "J") (by decide +kernel))
  have hf_9 := (hts (.fieldLink RX0 9 "PouredTopmost$Fill" "inside" "[J") (by decide +kernel))
  refine lv_aload_n hx hb dX0_makeEmpty_0 rfl (lv_at hl 0 rfl) ?_
  refine va_get (D := (dC, dI)) (ci := 0) (v := .ref o_inside) (C := RX0) (T := TX0) (N := 2) hx hb hts hwX0 hown hK hP 0 rfl rfl 0 (by decide) hf_9 (fun _ h9 => h9) rfl dX0_makeEmpty_1 ?_
  refine lv_lconst (v := (0 : Int64)) hx hb dX0_makeEmpty_4 (by decide) ?_
  obtain ⟨u1, ev_1⟩ : ∃ x0, (m_J7_fill_d0a16 vo_inside (0 : Int64)) = x0 := ⟨_, rfl⟩
  replace hT := cut_n ev_1 hT
  refine zz_cv [1] [0] (wr := [(o, .inr (0, [.ref o_inside, .long vo_spilt]))]) (w1 := [(o_inside, .inl (cJ, 9, .inr (.inl u1)))]) (va_runS (As := [.ref o_inside, .long (0 : Int64)]) (rest := []) ⟨hx, hb, hml, hown, hts⟩ (k_J7_fill_d0a16 l dC dI cI cJ cC H.size o_inside vo_inside (0 : Int64) u1 ev_1) (va_cwS 2 hts gX0_makeEmpty_J7_fill_d0a16 rfl rfl rfl (by decide +kernel) ⟨Nat.le_of_ble_eq_true rfl, Nat.le_of_ble_eq_true rfl⟩) (zz_preS [1] hK hP hD rfl rfl) rfl rfl hl.1 rfl (lv_room (Nat.le_of_ble_eq_true rfl)) dX0_makeEmpty_5 ⟨Nat.zero_le _, Nat.zero_le _⟩) hP hD hS hA rfl rfl rfl (by decide) (fun ok_2 H locs hP hD hS => ?_)
  have hP : va_P (dC, dI) vwCl [(o, .inr (0, [.ref o_inside, .long vo_spilt])), (o_inside, .inl (cJ, 9, .inr (.inl u1)))] H := hP
  have hD : va_D A [(o, .inr (0, [.ref o_inside, .long vo_spilt])), (o_inside, .inl (cJ, 9, .inr (.inl u1)))] := hD
  refine lv_aload_n hx hb dX0_makeEmpty_8 rfl (lv_at hl 0 rfl) ?_
  refine lv_lconst (v := (0 : Int64)) hx hb dX0_makeEmpty_9 (by decide) ?_
  refine va_put (D := (dC, dI)) (ci := 0) (v := .long (0 : Int64)) (ty := .long) (C := RX0) (T := TX0) (N := 2) hx hb hts hwX0 tyX0 tyX0_ok nmX0 hown hK hP hD hS 0 rfl rfl 1 (by decide) hf_21 (fun _ h9 => h9) rfl (by decide +kernel) rfl rfl (Nat.le_of_ble_eq_true rfl) dX0_makeEmpty_10 (fun H locs hP hD hS => ?_)
  have hP : va_P (dC, dI) vwCl [(o, .inr (0, [.ref o_inside, .long (0 : Int64)])), (o_inside, .inl (cJ, 9, .inr (.inl u1)))] H := hP
  have hD : va_D A [(o, .inr (0, [.ref o_inside, .long (0 : Int64)])), (o_inside, .inl (cJ, 9, .inr (.inl u1)))] := hD
  have hP9 := hP
  have hD9 := hD
  have hS9 := hS
  have hT : ((0 : Int64), u1) = (qo_spilt, qo_inside) := hT
  cases hT
  subst hQ
  exact zz_vret hx hb hr [0, 1] hK hP9 hD9 hS9 rfl rfl trivial hlocks dX0_makeEmpty_13

def m_X0_copyFrom (vo_inside : Nat → Int64) (vp1_spilt : Int64) (vp1_inside : Nat → Int64) : Int64 × (Nat → Int64) :=
 cut (va_cpy vp1_inside vo_inside (0 : Int32).toNatClampNeg (0 : Int32).toNatClampNeg (9 : Int32).toNatClampNeg) (fun (a1 : Nat → Int64) =>
 (vp1_spilt, a1))
set_option maxHeartbeats 4000000 in
set_option maxRecDepth 100000 in
theorem k_X0_copyFrom (l : Launch) (dC : Nat → ClassId) (dI : Nat → Nat → Nat) (cI cJ cC : ClassId) (sz : Nat) (o o_inside p1 p1_inside : Nat) (vo_spilt : Int64) (vo_inside : Nat → Int64) (vp1_spilt : Int64) (vp1_inside : Nat → Int64) (qo_spilt : Int64) (qo_inside : Nat → Int64) (hT : m_X0_copyFrom vo_inside vp1_spilt vp1_inside = (qo_spilt, qo_inside)) : Met l yX0_copyFrom wsX0_copyFrom ({ frames := 1, cells := 0, slots := 0, locals := 60 }) (zPc [.ref o, .ref p1] (dC, dI) (zTy cI cJ cC) [(o, .inr (0, [.ref o_inside, .long vo_spilt])), (o_inside, .inl (cJ, 9, .inr (.inl vo_inside))), (p1, .inr (0, [.ref p1_inside, .long vp1_spilt])), (p1_inside, .inl (cJ, 9, .inr (.inl vp1_inside)))] sz) (zQv (True) (dC, dI) (zTy cI cJ cC) [(o, .inr (0, [.ref o_inside, .long qo_spilt])), (o_inside, .inl (cJ, 9, .inr (.inl qo_inside))), (p1, .inr (0, [.ref p1_inside, .long vp1_spilt])), (p1_inside, .inl (cJ, 9, .inr (.inl vp1_inside)))] (va_A [(o, .inr (0, [.ref o_inside, .long vo_spilt])), (o_inside, .inl (cJ, 9, .inr (.inl vo_inside))), (p1, .inr (0, [.ref p1_inside, .long vp1_spilt])), (p1_inside, .inl (cJ, 9, .inr (.inl vp1_inside)))] sz)) 0 0 (va_A [(o, .inr (0, [.ref o_inside, .long vo_spilt])), (o_inside, .inl (cJ, 9, .inr (.inl vo_inside))), (p1, .inr (0, [.ref p1_inside, .long vp1_spilt])), (p1_inside, .inl (cJ, 9, .inr (.inl vp1_inside)))] sz) := by
  refine Met.ofW (cc := cX0_copyFrom) (maxL := 2) (ret := none) (by decide) rfl ?_
  intro p e s m args below meth c s₁ B hml hv
  obtain ⟨rfl, hsz, hP, hK, hD0⟩ := hv
  have hx := B.exec
  have hb := B.bytes
  have hr := B.returns
  have hts := atoms_spec (ws := wsX0_copyFrom) B.pre
  have hown : s.vm.findClass RX0 = some m.cls := findClass_of_methodNamed B.named
  have hlocks := B.notSynchronized
  subst hsz
  have hD := hD0.self (sz := s.heap.size)
  generalize hAe : va_A [(o, .inr (0, [.ref o_inside, .long vo_spilt])), (o_inside, .inl (cJ, 9, .inr (.inl vo_inside))), (p1, .inr (0, [.ref p1_inside, .long vp1_spilt])), (p1_inside, .inl (cJ, 9, .inr (.inl vp1_inside)))] s.heap.size = A at hD ⊢
  have hA : ∀ q : Nat, s.heap.size ≤ q → A q := fun q h => by rw [← hAe]; exact Or.inr h
  have hS : va_S A s.heap s.heap [] := va_S.rf
  have hP : va_P (dC, dI) vwCl [(o, .inr (0, [.ref o_inside, .long vo_spilt])), (o_inside, .inl (cJ, 9, .inr (.inl vo_inside))), (p1, .inr (0, [.ref p1_inside, .long vp1_spilt])), (p1_inside, .inl (cJ, 9, .inr (.inl vp1_inside)))] s.heap := hP
  have hK : va_K (dC, dI) vwCl (zTy cI cJ cC) s := hK
  have hl := lv_entry ([.ref o, .ref p1]) (n := 2) (Nat.le_of_ble_eq_true rfl)
  rw [lg_entry_eq]
  generalize (lg_sl ([.ref o, .ref p1]) ++ List.replicate (2 - (lg_sl ([.ref o, .ref p1])).length) Slot.unset).toArray = ls at hl ⊢
  have hl : lv_has ls 2 [(0, .ref o), (1, .ref p1)] := hl
  refine zz_start hP hS (fun Q hQ H locs hP hS => ?_)
  have hwX0 : ∀ w ∈ u_ws RX0 TX0 2, w ∈ wsX0_copyFrom := by decide +kernel
  have hm_25 := (hts (.methodLink RX0 25 arraycopyName) (by decide +kernel))
  have hac_i := (hts (.initialized "java/lang/System") (by decide +kernel))
  have hac_n := (hts (.native arraycopyName) (by decide +kernel))
  have hac_s := (hts (.static arraycopyName) (by decide +kernel))
  have hf_21 := (hts (.fieldLink RX0 21 "PouredTopmost$Fill" "spilt" "J") (by decide +kernel))
  have hf_9 := (hts (.fieldLink RX0 9 "PouredTopmost$Fill" "inside" "[J") (by decide +kernel))
  refine lv_aload_n hx hb dX0_copyFrom_0 rfl (lv_at hl 1 rfl) ?_
  refine va_get (D := (dC, dI)) (ci := 0) (v := .ref p1_inside) (C := RX0) (T := TX0) (N := 2) hx hb hts hwX0 hown hK hP 2 rfl rfl 0 (by decide) hf_9 (fun _ h9 => h9) rfl dX0_copyFrom_1 ?_
  refine lv_iconst (v := (0 : Int32)) hx hb dX0_copyFrom_4 (by decide) ?_
  refine lv_aload_n hx hb dX0_copyFrom_5 rfl (lv_at hl 0 rfl) ?_
  refine va_get (D := (dC, dI)) (ci := 0) (v := .ref o_inside) (C := RX0) (T := TX0) (N := 2) hx hb hts hwX0 hown hK hP 0 rfl rfl 0 (by decide) hf_9 (fun _ h9 => h9) rfl dX0_copyFrom_6 ?_
  refine lv_iconst (v := (0 : Int32)) hx hb dX0_copyFrom_9 (by decide) ?_
  refine lv_bipush (v := (9 : Int32)) hx hb dX0_copyFrom_10 (by decide) ?_
  refine va_copyl hx hb (by rw [hml]; exact hl.1.symm) hown hm_25 hac_n hac_s hac_i hK hP hD hS 3 1 1 1 rfl rfl rfl rfl rfl (by decide) (by decide) (by decide) (by decide) (by decide) (fun i hi => rfl) (Nat.le_of_ble_eq_true rfl) (by decide +kernel) dX0_copyFrom_12 (fun H locs hP hD hS => ?_)
  obtain ⟨a1, ea1⟩ : ∃ z, (va_cpy vp1_inside vo_inside (0 : Int32).toNatClampNeg (0 : Int32).toNatClampNeg (9 : Int32).toNatClampNeg) = z := ⟨_, rfl⟩
  replace hT := cut_n ea1 hT
  have hP : va_P (dC, dI) vwCl [(o, .inr (0, [.ref o_inside, .long vo_spilt])), (o_inside, .inl (cJ, 9, .inr (.inl a1))), (p1, .inr (0, [.ref p1_inside, .long vp1_spilt])), (p1_inside, .inl (cJ, 9, .inr (.inl vp1_inside)))] H := by rw [← ea1]; exact hP
  have hD : va_D A [(o, .inr (0, [.ref o_inside, .long vo_spilt])), (o_inside, .inl (cJ, 9, .inr (.inl a1))), (p1, .inr (0, [.ref p1_inside, .long vp1_spilt])), (p1_inside, .inl (cJ, 9, .inr (.inl vp1_inside)))] := by rw [← ea1]; exact hD
  refine lv_aload_n hx hb dX0_copyFrom_15 rfl (lv_at hl 0 rfl) ?_
  refine lv_aload_n hx hb dX0_copyFrom_16 rfl (lv_at hl 1 rfl) ?_
  refine va_get (D := (dC, dI)) (ci := 0) (v := .long vp1_spilt) (C := RX0) (T := TX0) (N := 2) hx hb hts hwX0 hown hK hP 2 rfl rfl 1 (by decide) hf_21 (fun _ h9 => h9) rfl dX0_copyFrom_17 ?_
  refine va_put (D := (dC, dI)) (ci := 0) (v := .long vp1_spilt) (ty := .long) (C := RX0) (T := TX0) (N := 2) hx hb hts hwX0 tyX0 tyX0_ok nmX0 hown hK hP hD hS 0 rfl rfl 1 (by decide) hf_21 (fun _ h9 => h9) rfl (by decide +kernel) rfl rfl (Nat.le_of_ble_eq_true rfl) dX0_copyFrom_20 (fun H locs hP hD hS => ?_)
  have hP : va_P (dC, dI) vwCl [(o, .inr (0, [.ref o_inside, .long vp1_spilt])), (o_inside, .inl (cJ, 9, .inr (.inl a1))), (p1, .inr (0, [.ref p1_inside, .long vp1_spilt])), (p1_inside, .inl (cJ, 9, .inr (.inl vp1_inside)))] H := hP
  have hD : va_D A [(o, .inr (0, [.ref o_inside, .long vp1_spilt])), (o_inside, .inl (cJ, 9, .inr (.inl a1))), (p1, .inr (0, [.ref p1_inside, .long vp1_spilt])), (p1_inside, .inl (cJ, 9, .inr (.inl vp1_inside)))] := hD
  have hP9 := hP
  have hD9 := hD
  have hS9 := hS
  have hT : (vp1_spilt, a1) = (qo_spilt, qo_inside) := hT
  cases hT
  subst hQ
  exact zz_vret hx hb hr [0, 1, 2, 3] hK hP9 hD9 hS9 rfl rfl trivial hlocks dX0_copyFrom_23

def rs_X0_shareOut_2  (x7 : Int32) (x8 : Int64) (x9 : Nat → Int64) : Int64 × (Nat → Int64) :=
 (x8, x9)
def lp_X0_shareOut_2 (v2 : Int32) (ct2 : Int32 → Int64 → (Nat → Int64) → (Int64 × (Nat → Int64))) (vp1_shares : Nat → Int32) (p2 : Int32) (p3 : Int64) (v3 : Int64) (vp1_size : Int32) : Nat → Int32 → Int64 → (Nat → Int64) → (Int64 × (Nat → Int64))
  | 0, _, _, _ => default
  | k + 1, b4, b5, b6 =>
  if v2 ≤ b4 then
   (ct2 b4 b5 b6)
  else
   cut (vp1_shares ((p2 * (3 : Int32)) + b4).toNatClampNeg) (fun (v10 : Int32) =>
   cut (
    if b4 = (0 : Int32) then
     (p3 - (v3 * ((v2 - (1 : Int32)).toInt64)))
    else
     v3) (fun (j11 : Int64) =>
   cut (m_X3_has vp1_size v10) (fun (r12 : Int32) =>
   if r12 = (0 : Int32) then
    cut (b5 + j11) (fun (v13 : Int64) =>
    cut (b4 + (1 : Int32)) (fun (v14 : Int32) =>
    (lp_X0_shareOut_2 v2 ct2 vp1_shares p2 p3 v3 vp1_size k v14 v13 b6)))
   else
    cut (vp_updL b6 v10.toNatClampNeg ((b6 v10.toNatClampNeg) + j11)) (fun (a15 : Nat → Int64) =>
    cut (b4 + (1 : Int32)) (fun (v16 : Int32) =>
    (lp_X0_shareOut_2 v2 ct2 vp1_shares p2 p3 v3 vp1_size k v16 b5 a15))))))
def m_X0_shareOut (vo_spilt : Int64) (vo_inside : Nat → Int64) (vp1_size : Int32) (vp1_kinds : Nat → Int32) (vp1_shareCounts : Nat → Int32) (vp1_shares : Nat → Int32) (p2 : Int32) (p3 : Int64) : Int64 × (Nat → Int64) :=
 cut (m_X3_partsOf vp1_size vp1_kinds vp1_shareCounts p2) (fun (r1 : Int32) =>
 if (0 : Int32) < r1 then
  cut (vp1_shareCounts p2.toNatClampNeg) (fun (v2 : Int32) =>
  cut (p3 / (r1.toInt64)) (fun (v3 : Int64) =>
  (lp_X0_shareOut_2 v2 rs_X0_shareOut_2 vp1_shares p2 p3 v3 vp1_size 5 (0 : Int32) vo_spilt vo_inside)))
 else
  cut (vo_spilt + p3) (fun (v17 : Int64) =>
  (v17, vo_inside)))
set_option maxHeartbeats 4000000 in
set_option maxRecDepth 100000 in
theorem k_X0_shareOut (l : Launch) (dC : Nat → ClassId) (dI : Nat → Nat → Nat) (cI cJ cC : ClassId) (sz : Nat) (o o_inside p1 p1_kinds p1_holds p1_takes p1_shareCounts p1_shares : Nat) (vo_spilt : Int64) (vo_inside : Nat → Int64) (vp1_size : Int32) (vp1_kinds : Nat → Int32) (vp1_shareCounts : Nat → Int32) (vp1_shares : Nat → Int32) (p2 : Int32) (p3 : Int64) (qo_spilt : Int64) (qo_inside : Nat → Int64) (hT : m_X0_shareOut vo_spilt vo_inside vp1_size vp1_kinds vp1_shareCounts vp1_shares p2 p3 = (qo_spilt, qo_inside)) (ht9 : vp1_size.toInt ≤ 9) (htc : zSc vp1_shareCounts) (h1 : 0 ≤ p2.toInt) (h2 : p2.toInt < 9) : Met l yX0_shareOut wsX0_shareOut ({ frames := 2, cells := 0, slots := 0, locals := 42 }) (zPc [.ref o, .ref p1, .int p2, .long p3] (dC, dI) (zTy cI cJ cC) [(o, .inr (0, [.ref o_inside, .long vo_spilt])), (o_inside, .inl (cJ, 9, .inr (.inl vo_inside))), (p1, .inr (3, [.ref p1_kinds, .ref p1_holds, .ref p1_takes, .ref p1_shareCounts, .ref p1_shares, .int vp1_size])), (p1_kinds, .inl (cI, 9, .inl vp1_kinds)), (p1_shareCounts, .inl (cI, 9, .inl vp1_shareCounts)), (p1_shares, .inl (cI, 27, .inl vp1_shares))] sz) (zQv (True) (dC, dI) (zTy cI cJ cC) [(o, .inr (0, [.ref o_inside, .long qo_spilt])), (o_inside, .inl (cJ, 9, .inr (.inl qo_inside))), (p1, .inr (3, [.ref p1_kinds, .ref p1_holds, .ref p1_takes, .ref p1_shareCounts, .ref p1_shares, .int vp1_size])), (p1_kinds, .inl (cI, 9, .inl vp1_kinds)), (p1_shareCounts, .inl (cI, 9, .inl vp1_shareCounts)), (p1_shares, .inl (cI, 27, .inl vp1_shares))] (va_A [(o, .inr (0, [.ref o_inside, .long vo_spilt])), (o_inside, .inl (cJ, 9, .inr (.inl vo_inside))), (p1, .inr (3, [.ref p1_kinds, .ref p1_holds, .ref p1_takes, .ref p1_shareCounts, .ref p1_shares, .int vp1_size])), (p1_kinds, .inl (cI, 9, .inl vp1_kinds)), (p1_shareCounts, .inl (cI, 9, .inl vp1_shareCounts)), (p1_shares, .inl (cI, 27, .inl vp1_shares))] sz)) 0 0 (va_A [(o, .inr (0, [.ref o_inside, .long vo_spilt])), (o_inside, .inl (cJ, 9, .inr (.inl vo_inside))), (p1, .inr (3, [.ref p1_kinds, .ref p1_holds, .ref p1_takes, .ref p1_shareCounts, .ref p1_shares, .int vp1_size])), (p1_kinds, .inl (cI, 9, .inl vp1_kinds)), (p1_shareCounts, .inl (cI, 9, .inl vp1_shareCounts)), (p1_shares, .inl (cI, 27, .inl vp1_shares))] sz) := by
  refine Met.ofW (cc := cX0_shareOut) (maxL := 13) (ret := none) (by decide) rfl ?_
  intro p e s m args below meth c s₁ B hml hv
  obtain ⟨rfl, hsz, hP, hK, hD0⟩ := hv
  have hx := B.exec
  have hb := B.bytes
  have hr := B.returns
  have hts := atoms_spec (ws := wsX0_shareOut) B.pre
  have hown : s.vm.findClass RX0 = some m.cls := findClass_of_methodNamed B.named
  have hlocks := B.notSynchronized
  subst hsz
  have hD := hD0.self (sz := s.heap.size)
  generalize hAe : va_A [(o, .inr (0, [.ref o_inside, .long vo_spilt])), (o_inside, .inl (cJ, 9, .inr (.inl vo_inside))), (p1, .inr (3, [.ref p1_kinds, .ref p1_holds, .ref p1_takes, .ref p1_shareCounts, .ref p1_shares, .int vp1_size])), (p1_kinds, .inl (cI, 9, .inl vp1_kinds)), (p1_shareCounts, .inl (cI, 9, .inl vp1_shareCounts)), (p1_shares, .inl (cI, 27, .inl vp1_shares))] s.heap.size = A at hD ⊢
  have hA : ∀ q : Nat, s.heap.size ≤ q → A q := fun q h => by rw [← hAe]; exact Or.inr h
  have hS : va_S A s.heap s.heap [] := va_S.rf
  have hP : va_P (dC, dI) vwCl [(o, .inr (0, [.ref o_inside, .long vo_spilt])), (o_inside, .inl (cJ, 9, .inr (.inl vo_inside))), (p1, .inr (3, [.ref p1_kinds, .ref p1_holds, .ref p1_takes, .ref p1_shareCounts, .ref p1_shares, .int vp1_size])), (p1_kinds, .inl (cI, 9, .inl vp1_kinds)), (p1_shareCounts, .inl (cI, 9, .inl vp1_shareCounts)), (p1_shares, .inl (cI, 27, .inl vp1_shares))] s.heap := hP
  have hK : va_K (dC, dI) vwCl (zTy cI cJ cC) s := hK
  have hl := lv_entry ([.ref o, .ref p1, .int p2, .long p3]) (n := 13) (Nat.le_of_ble_eq_true rfl)
  rw [lg_entry_eq]
  generalize (lg_sl ([.ref o, .ref p1, .int p2, .long p3]) ++ List.replicate (13 - (lg_sl ([.ref o, .ref p1, .int p2, .long p3])).length) Slot.unset).toArray = ls at hl ⊢
  have hl : lv_has ls 13 [(0, .ref o), (1, .ref p1), (2, .int p2), (3, .long p3)] := hl
  refine zz_start hP hS (fun Q hQ H locs hP hS => ?_)
  have hwX0 : ∀ w ∈ u_ws RX0 TX0 2, w ∈ wsX0_shareOut := by decide +kernel
  have hwX3 : ∀ w ∈ u_ws RX3 TX3 6, w ∈ wsX0_shareOut := by decide +kernel
  have hf_21 := (hts (.fieldLink RX0 21 "PouredTopmost$Fill" "spilt" "J") (by decide +kernel))
  have hf_59 := (hts (.fieldLink RX0 59 "PouredTopmost$Stand" "shareCounts" "[I") (by decide +kernel))
  have hf_62 := (hts (.fieldLink RX0 62 "PouredTopmost$Stand" "shares" "[I") (by decide +kernel))
  have hf_9 := (hts (.fieldLink RX0 9 "PouredTopmost$Fill" "inside" "[J") (by decide +kernel))
  refine lv_aload_n hx hb dX0_shareOut_0 rfl (lv_at hl 1 rfl) ?_
  refine lv_iload_n hx hb dX0_shareOut_1 rfl (lv_at hl 2 rfl) ?_
  obtain ⟨r1, ev_1⟩ : ∃ x0, (m_X3_partsOf vp1_size vp1_kinds vp1_shareCounts p2) = x0 := ⟨_, rfl⟩
  replace hT := cut_n ev_1 hT
  refine zz_ci [2, 3, 4] [0, 1, 5] (wr := [(o, .inr (0, [.ref o_inside, .long vo_spilt])), (o_inside, .inl (cJ, 9, .inr (.inl vo_inside))), (p1_shares, .inl (cI, 27, .inl vp1_shares))]) (w1 := [(p1, .inr (3, [.ref p1_kinds, .ref p1_holds, .ref p1_takes, .ref p1_shareCounts, .ref p1_shares, .int vp1_size])), (p1_kinds, .inl (cI, 9, .inl vp1_kinds)), (p1_shareCounts, .inl (cI, 9, .inl vp1_shareCounts))]) (va_runV (As := [.int p2]) (rest := []) ⟨hx, hb, hml, hown, hts⟩ (k_X3_partsOf l dC dI cI cJ cC H.size p1 p1_kinds p1_holds p1_takes p1_shareCounts p1_shares vp1_size vp1_kinds vp1_shareCounts p2 r1 ev_1 ht9) (cwV 1 hts gX0_shareOut_X3_partsOf rfl rfl rfl (by decide +kernel) ⟨Nat.le_of_ble_eq_true rfl, Nat.le_of_ble_eq_true rfl⟩) (zz_preV [2, 3, 4] hK hP hD rfl rfl (va_recv hK hP (ci := 3) (q0 := 2) rfl rfl)) rfl rfl hl.1 rfl (lv_room (Nat.le_of_ble_eq_true rfl)) dX0_shareOut_2 ⟨Nat.zero_le _, Nat.zero_le _⟩) hP hD hS hA rfl rfl rfl (by decide) (fun ok_2 H locs hP hD hS => ?_)
  have hP : va_P (dC, dI) vwCl [(o, .inr (0, [.ref o_inside, .long vo_spilt])), (o_inside, .inl (cJ, 9, .inr (.inl vo_inside))), (p1_shares, .inl (cI, 27, .inl vp1_shares)), (p1, .inr (3, [.ref p1_kinds, .ref p1_holds, .ref p1_takes, .ref p1_shareCounts, .ref p1_shares, .int vp1_size])), (p1_kinds, .inl (cI, 9, .inl vp1_kinds)), (p1_shareCounts, .inl (cI, 9, .inl vp1_shareCounts))] H := hP
  have hD : va_D A [(o, .inr (0, [.ref o_inside, .long vo_spilt])), (o_inside, .inl (cJ, 9, .inr (.inl vo_inside))), (p1_shares, .inl (cI, 27, .inl vp1_shares)), (p1, .inr (3, [.ref p1_kinds, .ref p1_holds, .ref p1_takes, .ref p1_shareCounts, .ref p1_shares, .int vp1_size])), (p1_kinds, .inl (cI, 9, .inl vp1_kinds)), (p1_shareCounts, .inl (cI, 9, .inl vp1_shareCounts))] := hD
  refine lv_istore (lv' := [(5, .int r1), (0, .ref o), (1, .ref p1), (2, .int p2), (3, .long p3)]) hx hb dX0_shareOut_5 hl (by decide) rfl (fun ls hl => ?_)
  refine lv_iload hx hb dX0_shareOut_7 (lv_at hl 0 rfl) ?_
  refine lv_if_gt (tgt := 23) hx hb dX0_shareOut_9 (by decide) (fun c_3 => ?_) (fun c_3 => ?_)
  · replace hT := cutT c_3 hT
    have g_19 := zltT (by decide : ((0 : Int32)).toInt = 0) (rfl : (r1).toInt = _) c_3
    refine lv_aload_n hx hb dX0_shareOut_23 rfl (lv_at hl 2 rfl) ?_
    refine va_get (D := (dC, dI)) (ci := 3) (v := .ref p1_shareCounts) (C := RX3) (T := TX3) (N := 6) hx hb hts hwX3 hown hK hP 3 rfl rfl 3 (by decide) hf_59 (fun _ h9 => h9) rfl dX0_shareOut_24 ?_
    refine lv_iload_n hx hb dX0_shareOut_27 rfl (lv_at hl 3 rfl) ?_
    have h_4 : vp_in p2 9 := zin (by omega) (by omega)
    refine va_iald hx hb hK hP 5 0 rfl rfl h_4 dX0_shareOut_28 ?_
    have g_5 := htc p2.toNatClampNeg
    refine lv_topi (fun v2 ev2 => ?_)
    replace hT := cut_n ev2.symm hT
    have fv2 : (v2).toInt = (vp1_shareCounts p2.toNatClampNeg).toInt := by rw [ev2]
    refine lv_istore (lv' := [(6, .int v2), (5, .int r1), (0, .ref o), (1, .ref p1), (2, .int p2), (3, .long p3)]) hx hb dX0_shareOut_29 hl (by decide) rfl (fun ls hl => ?_)
    refine lv_lload_n hx hb dX0_shareOut_31 rfl (lv_at hl 5 rfl) ?_
    refine lv_iload hx hb dX0_shareOut_32 (lv_at hl 1 rfl) ?_
    refine lv_i2l (v := (r1.toInt64)) hx hb dX0_shareOut_34 rfl ?_
    have h_6 : ¬ (r1.toInt64) = 0 := z64ne (by assumption)
    refine lv_ldiv hx hb dX0_shareOut_35 h_6 ?_
    refine lv_topl (fun v3 ev3 => ?_)
    replace hT := cut_n ev3.symm hT
    refine lv_lstore (lv' := [(7, .long v3), (6, .int v2), (5, .int r1), (0, .ref o), (1, .ref p1), (2, .int p2), (3, .long p3)]) hx hb dX0_shareOut_36 hl (by decide) rfl (fun ls hl => ?_)
    refine lv_iconst (v := (0 : Int32)) hx hb dX0_shareOut_38 (by decide) ?_
    refine lv_istore (lv' := [(9, .int (0 : Int32)), (7, .long v3), (6, .int v2), (5, .int r1), (0, .ref o), (1, .ref p1), (2, .int p2), (3, .long p3)]) hx hb dX0_shareOut_39 hl (by decide) rfl (fun ls hl => ?_)
    have hz_20 : ((0 : Int32)).toInt = 0 := by decide
    refine zz_loop (α := Int32 × Int64 × (Nat → Int64)) 124 (fun k a H locs ls => (0 ≤ a.1.toInt) ∧ (a.1.toInt ≤ 3) ∧ (3 - a.1.toInt < ((k : Nat) : Int)) ∧ lp_X0_shareOut_2 v2 rs_X0_shareOut_2 vp1_shares p2 p3 v3 vp1_size k a.1 a.2.1 a.2.2 = (qo_spilt, qo_inside) ∧ va_P (dC, dI) vwCl [(o, .inr (0, [.ref o_inside, .long a.2.1])), (o_inside, .inl (cJ, 9, .inr (.inl a.2.2))), (p1_shares, .inl (cI, 27, .inl vp1_shares)), (p1, .inr (3, [.ref p1_kinds, .ref p1_holds, .ref p1_takes, .ref p1_shareCounts, .ref p1_shares, .int vp1_size])), (p1_kinds, .inl (cI, 9, .inl vp1_kinds)), (p1_shareCounts, .inl (cI, 9, .inl vp1_shareCounts))] H ∧ va_D A [(o, .inr (0, [.ref o_inside, .long a.2.1])), (o_inside, .inl (cJ, 9, .inr (.inl a.2.2))), (p1_shares, .inl (cI, 27, .inl vp1_shares)), (p1, .inr (3, [.ref p1_kinds, .ref p1_holds, .ref p1_takes, .ref p1_shareCounts, .ref p1_shares, .int vp1_size])), (p1_kinds, .inl (cI, 9, .inl vp1_kinds)), (p1_shareCounts, .inl (cI, 9, .inl vp1_shareCounts))] ∧ va_S A s.heap H locs ∧ lv_has ls 13 [(9, .int a.1), (7, .long v3), (6, .int v2), (0, .ref o), (1, .ref p1), (2, .int p2), (3, .long p3)]) (fun a H locs ls => (0 ≤ a.1.toInt) ∧ (a.1.toInt ≤ 3) ∧ rs_X0_shareOut_2 a.1 a.2.1 a.2.2 = (qo_spilt, qo_inside) ∧ va_P (dC, dI) vwCl [(o, .inr (0, [.ref o_inside, .long a.2.1])), (o_inside, .inl (cJ, 9, .inr (.inl a.2.2))), (p1_shares, .inl (cI, 27, .inl vp1_shares)), (p1, .inr (3, [.ref p1_kinds, .ref p1_holds, .ref p1_takes, .ref p1_shareCounts, .ref p1_shares, .int vp1_size])), (p1_kinds, .inl (cI, 9, .inl vp1_kinds)), (p1_shareCounts, .inl (cI, 9, .inl vp1_shareCounts))] H ∧ va_D A [(o, .inr (0, [.ref o_inside, .long a.2.1])), (o_inside, .inl (cJ, 9, .inr (.inl a.2.2))), (p1_shares, .inl (cI, 27, .inl vp1_shares)), (p1, .inr (3, [.ref p1_kinds, .ref p1_holds, .ref p1_takes, .ref p1_shareCounts, .ref p1_shares, .int vp1_size])), (p1_kinds, .inl (cI, 9, .inl vp1_kinds)), (p1_shareCounts, .inl (cI, 9, .inl vp1_shareCounts))] ∧ va_S A s.heap H locs ∧ lv_has ls 13 []) ?_ ?_ ?_ 5 ((0 : Int32), vo_spilt, vo_inside) ⟨(by omega : 0 ≤ (0 : Int32).toInt), (by omega : (0 : Int32).toInt ≤ 3), (by omega : 3 - (0 : Int32).toInt < ((5 : Nat) : Int)), hT, hP.sub [0, 1, 2, 3, 4, 5] rfl, hD.sub [0, 1, 2, 3, 4, 5] rfl rfl, hS, lv_sub hl [0, 1, 2, 4, 5, 6, 7] rfl⟩
    · rintro ⟨x7, x8, x9⟩ H locs ls ⟨i1, j1, hT, hP, hD, hS, hl⟩
      have hP : va_P (dC, dI) vwCl [(o, .inr (0, [.ref o_inside, .long x8])), (o_inside, .inl (cJ, 9, .inr (.inl x9))), (p1_shares, .inl (cI, 27, .inl vp1_shares)), (p1, .inr (3, [.ref p1_kinds, .ref p1_holds, .ref p1_takes, .ref p1_shareCounts, .ref p1_shares, .int vp1_size])), (p1_kinds, .inl (cI, 9, .inl vp1_kinds)), (p1_shareCounts, .inl (cI, 9, .inl vp1_shareCounts))] H := hP
      have hD : va_D A [(o, .inr (0, [.ref o_inside, .long x8])), (o_inside, .inl (cJ, 9, .inr (.inl x9))), (p1_shares, .inl (cI, 27, .inl vp1_shares)), (p1, .inr (3, [.ref p1_kinds, .ref p1_holds, .ref p1_takes, .ref p1_shareCounts, .ref p1_shares, .int vp1_size])), (p1_kinds, .inl (cI, 9, .inl vp1_kinds)), (p1_shareCounts, .inl (cI, 9, .inl vp1_shareCounts))] := hD
      have hl : lv_has ls 13 [] := hl
      have hT : rs_X0_shareOut_2 x7 x8 x9 = (qo_spilt, qo_inside) := hT
      have i1 : 0 ≤ x7.toInt := i1
      have j1 : x7.toInt ≤ 3 := j1
      have hP9 := hP
      have hD9 := hD
      have hS9 := hS
      have hT : (x8, x9) = (qo_spilt, qo_inside) := hT
      cases hT
      subst hQ
      exact zz_vret hx hb hr [0, 1, 3, 4, 5, 2] hK hP9 hD9 hS9 rfl rfl trivial hlocks dX0_shareOut_124
    · rintro ⟨b4, b5, b6⟩ H locs ls ⟨i1, j1, hm, -⟩
      try dsimp only at *
      omega
    · intro k2 hex2 ih2
      rintro ⟨b4, b5, b6⟩ H locs ls ⟨i1, j1, hm2, hT, hP, hD, hS, hl⟩
      have hP : va_P (dC, dI) vwCl [(o, .inr (0, [.ref o_inside, .long b5])), (o_inside, .inl (cJ, 9, .inr (.inl b6))), (p1_shares, .inl (cI, 27, .inl vp1_shares)), (p1, .inr (3, [.ref p1_kinds, .ref p1_holds, .ref p1_takes, .ref p1_shareCounts, .ref p1_shares, .int vp1_size])), (p1_kinds, .inl (cI, 9, .inl vp1_kinds)), (p1_shareCounts, .inl (cI, 9, .inl vp1_shareCounts))] H := hP
      have hD : va_D A [(o, .inr (0, [.ref o_inside, .long b5])), (o_inside, .inl (cJ, 9, .inr (.inl b6))), (p1_shares, .inl (cI, 27, .inl vp1_shares)), (p1, .inr (3, [.ref p1_kinds, .ref p1_holds, .ref p1_takes, .ref p1_shareCounts, .ref p1_shares, .int vp1_size])), (p1_kinds, .inl (cI, 9, .inl vp1_kinds)), (p1_shareCounts, .inl (cI, 9, .inl vp1_shareCounts))] := hD
      have hl : lv_has ls 13 [(9, .int b4), (7, .long v3), (6, .int v2), (0, .ref o), (1, .ref p1), (2, .int p2), (3, .long p3)] := hl
      have hT : lp_X0_shareOut_2 v2 rs_X0_shareOut_2 vp1_shares p2 p3 v3 vp1_size (k2 + 1) b4 b5 b6 = (qo_spilt, qo_inside) := hT
      have i1 : 0 ≤ b4.toInt := i1
      have j1 : b4.toInt ≤ 3 := j1
      have hm2 : 3 - b4.toInt < (((k2 + 1) : Nat) : Int) := hm2
      try simp only [Int.natCast_add, Int.natCast_one, Nat.cast_add, Nat.cast_one] at hm2
      refine lv_iload hx hb dX0_shareOut_41 (lv_at hl 0 rfl) ?_
      refine lv_iload hx hb dX0_shareOut_43 (lv_at hl 2 rfl) ?_
      refine lv_icmp_ge (tgt := 124) hx hb dX0_shareOut_45 (by decide) (fun c_7 => ?_) (fun c_7 => ?_)
      · replace hT := cutT c_7 hT
        have g_21 := zleT (rfl : (v2).toInt = _) (rfl : (b4).toInt = _) c_7
        exact hex2 (b4, b5, b6) _ _ _ ⟨(by omega : 0 ≤ b4.toInt), (by omega : b4.toInt ≤ 3), hT, hP.sub [0, 1, 2, 3, 4, 5] rfl, hD.sub [0, 1, 2, 3, 4, 5] rfl rfl, hS, lv_sub hl [] rfl⟩
      · replace hT := cutF c_7 hT
        have g_22 := zleF (rfl : (v2).toInt = _) (rfl : (b4).toInt = _) c_7
        refine lv_aload_n hx hb dX0_shareOut_48 rfl (lv_at hl 4 rfl) ?_
        refine va_get (D := (dC, dI)) (ci := 3) (v := .ref p1_shares) (C := RX3) (T := TX3) (N := 6) hx hb hts hwX3 hown hK hP 3 rfl rfl 4 (by decide) hf_62 (fun _ h9 => h9) rfl dX0_shareOut_49 ?_
        refine lv_iload_n hx hb dX0_shareOut_52 rfl (lv_at hl 5 rfl) ?_
        refine lv_iconst (v := (3 : Int32)) hx hb dX0_shareOut_53 (by decide) ?_
        refine lv_imul hx hb dX0_shareOut_54 ?_
        refine lv_iload hx hb dX0_shareOut_55 (lv_at hl 0 rfl) ?_
        refine lv_iadd hx hb dX0_shareOut_57 ?_
        have e_9 := zmulE (v := (p2 * (3 : Int32))) (rfl : (p2).toInt = _) (by decide : ((3 : Int32)).toInt = 3) rfl (by omega) (by omega)
        have e_10 := zaddE (v := ((p2 * (3 : Int32)) + b4)) e_9 (rfl : (b4).toInt = _) rfl (by omega) (by omega)
        have h_8 : vp_in ((p2 * (3 : Int32)) + b4) 27 := zin (by omega) (by omega)
        refine va_iald hx hb hK hP 2 0 rfl rfl h_8 dX0_shareOut_58 ?_
        refine lv_topi (fun v10 ev10 => ?_)
        replace hT := cut_n ev10.symm hT
        have fv10 : (v10).toInt = (vp1_shares ((p2 * (3 : Int32)) + b4).toNatClampNeg).toInt := by rw [ev10]
        refine lv_istore (lv' := [(10, .int v10), (9, .int b4), (7, .long v3), (6, .int v2), (0, .ref o), (1, .ref p1), (2, .int p2), (3, .long p3)]) hx hb dX0_shareOut_59 hl (by decide) rfl (fun ls hl => ?_)
        refine lv_iload hx hb dX0_shareOut_61 (lv_at hl 1 rfl) ?_
        refine zz_join1 hT 81 (fun v => [.long v]) (fun v H locs ls => va_P (dC, dI) vwCl [(o, .inr (0, [.ref o_inside, .long b5])), (o_inside, .inl (cJ, 9, .inr (.inl b6))), (p1_shares, .inl (cI, 27, .inl vp1_shares)), (p1, .inr (3, [.ref p1_kinds, .ref p1_holds, .ref p1_takes, .ref p1_shareCounts, .ref p1_shares, .int vp1_size])), (p1_kinds, .inl (cI, 9, .inl vp1_kinds)), (p1_shareCounts, .inl (cI, 9, .inl vp1_shareCounts))] H ∧ va_D A [(o, .inr (0, [.ref o_inside, .long b5])), (o_inside, .inl (cJ, 9, .inr (.inl b6))), (p1_shares, .inl (cI, 27, .inl vp1_shares)), (p1, .inr (3, [.ref p1_kinds, .ref p1_holds, .ref p1_takes, .ref p1_shareCounts, .ref p1_shares, .int vp1_size])), (p1_kinds, .inl (cI, 9, .inl vp1_kinds)), (p1_shareCounts, .inl (cI, 9, .inl vp1_shareCounts))] ∧ va_S A s.heap H locs ∧ lv_has ls 13 [(0, .ref o), (1, .ref p1), (2, .int p2), (3, .long p3), (6, .int v2), (7, .long v3), (9, .int b4), (10, .int v10)]) ?_ ?_
        · rintro j11 ej_23 H locs ls ⟨hP, hD, hS, hl⟩
          replace hT := cut_n ej_23 hT
          have hP : va_P (dC, dI) vwCl [(o, .inr (0, [.ref o_inside, .long b5])), (o_inside, .inl (cJ, 9, .inr (.inl b6))), (p1_shares, .inl (cI, 27, .inl vp1_shares)), (p1, .inr (3, [.ref p1_kinds, .ref p1_holds, .ref p1_takes, .ref p1_shareCounts, .ref p1_shares, .int vp1_size])), (p1_kinds, .inl (cI, 9, .inl vp1_kinds)), (p1_shareCounts, .inl (cI, 9, .inl vp1_shareCounts))] H := hP
          have hD : va_D A [(o, .inr (0, [.ref o_inside, .long b5])), (o_inside, .inl (cJ, 9, .inr (.inl b6))), (p1_shares, .inl (cI, 27, .inl vp1_shares)), (p1, .inr (3, [.ref p1_kinds, .ref p1_holds, .ref p1_takes, .ref p1_shareCounts, .ref p1_shares, .int vp1_size])), (p1_kinds, .inl (cI, 9, .inl vp1_kinds)), (p1_shareCounts, .inl (cI, 9, .inl vp1_shareCounts))] := hD
          have hl : lv_has ls 13 [(0, .ref o), (1, .ref p1), (2, .int p2), (3, .long p3), (6, .int v2), (7, .long v3), (9, .int b4), (10, .int v10)] := hl
          refine lv_lstore (lv' := [(11, .long j11), (0, .ref o), (1, .ref p1), (2, .int p2), (3, .long p3), (6, .int v2), (7, .long v3), (9, .int b4), (10, .int v10)]) hx hb dX0_shareOut_81 hl (by decide) rfl (fun ls hl => ?_)
          refine lv_aload_n hx hb dX0_shareOut_83 rfl (lv_at hl 2 rfl) ?_
          refine lv_iload hx hb dX0_shareOut_84 (lv_at hl 8 rfl) ?_
          obtain ⟨r12, ev_12⟩ : ∃ x0, (m_X3_has vp1_size v10) = x0 := ⟨_, rfl⟩
          replace hT := cut_n ev_12 hT
          refine zz_ci [3] [0, 1, 2, 4, 5] (wr := [(o, .inr (0, [.ref o_inside, .long b5])), (o_inside, .inl (cJ, 9, .inr (.inl b6))), (p1_shares, .inl (cI, 27, .inl vp1_shares)), (p1_kinds, .inl (cI, 9, .inl vp1_kinds)), (p1_shareCounts, .inl (cI, 9, .inl vp1_shareCounts))]) (w1 := [(p1, .inr (3, [.ref p1_kinds, .ref p1_holds, .ref p1_takes, .ref p1_shareCounts, .ref p1_shares, .int vp1_size]))]) (va_runV (As := [.int v10]) (rest := []) ⟨hx, hb, hml, hown, hts⟩ (k_X3_has l dC dI cI cJ cC H.size p1 p1_kinds p1_holds p1_takes p1_shareCounts p1_shares vp1_size v10 r12 ev_12) (cwV 1 hts gX0_shareOut_X3_has rfl rfl rfl (by decide +kernel) ⟨Nat.le_of_ble_eq_true rfl, Nat.le_of_ble_eq_true rfl⟩) (zz_preV [3] hK hP hD rfl rfl (va_recv hK hP (ci := 3) (q0 := 3) rfl rfl)) rfl rfl hl.1 rfl (lv_room (Nat.le_of_ble_eq_true rfl)) dX0_shareOut_86 ⟨Nat.zero_le _, Nat.zero_le _⟩) hP hD hS hA rfl rfl rfl (by decide) (fun ok_13 H locs hP hD hS => ?_)
          have hP : va_P (dC, dI) vwCl [(o, .inr (0, [.ref o_inside, .long b5])), (o_inside, .inl (cJ, 9, .inr (.inl b6))), (p1_shares, .inl (cI, 27, .inl vp1_shares)), (p1_kinds, .inl (cI, 9, .inl vp1_kinds)), (p1_shareCounts, .inl (cI, 9, .inl vp1_shareCounts)), (p1, .inr (3, [.ref p1_kinds, .ref p1_holds, .ref p1_takes, .ref p1_shareCounts, .ref p1_shares, .int vp1_size]))] H := hP
          have hD : va_D A [(o, .inr (0, [.ref o_inside, .long b5])), (o_inside, .inl (cJ, 9, .inr (.inl b6))), (p1_shares, .inl (cI, 27, .inl vp1_shares)), (p1_kinds, .inl (cI, 9, .inl vp1_kinds)), (p1_shareCounts, .inl (cI, 9, .inl vp1_shareCounts)), (p1, .inr (3, [.ref p1_kinds, .ref p1_holds, .ref p1_takes, .ref p1_shareCounts, .ref p1_shares, .int vp1_size]))] := hD
          obtain ⟨k_14, k_15⟩ := ok_13
          refine lv_if_eq (tgt := 107) hx hb dX0_shareOut_89 (by decide) (fun c_16 => ?_) (fun c_16 => ?_)
          · replace hT := cutT c_16 hT
            have g_24 := zeqT (rfl : (r12).toInt = _) (by decide : ((0 : Int32)).toInt = 0) c_16
            refine lv_aload_n hx hb dX0_shareOut_107 rfl (lv_at hl 1 rfl) ?_
            refine lv_dup hx hb dX0_shareOut_108 rfl ?_
            refine va_get (D := (dC, dI)) (ci := 0) (v := .long b5) (C := RX0) (T := TX0) (N := 2) hx hb hts hwX0 hown hK hP 0 rfl rfl 1 (by decide) hf_21 (fun _ h9 => h9) rfl dX0_shareOut_109 ?_
            refine lv_lload hx hb dX0_shareOut_112 (lv_at hl 0 rfl) ?_
            refine lv_ladd hx hb dX0_shareOut_114 ?_
            refine lv_topl (fun v13 ev13 => ?_)
            replace hT := cut_n ev13.symm hT
            refine va_put (D := (dC, dI)) (ci := 0) (v := .long v13) (ty := .long) (C := RX0) (T := TX0) (N := 2) hx hb hts hwX0 tyX0 tyX0_ok nmX0 hown hK hP hD hS 0 rfl rfl 1 (by decide) hf_21 (fun _ h9 => h9) rfl (by decide +kernel) rfl rfl (Nat.le_of_ble_eq_true rfl) dX0_shareOut_115 (fun H locs hP hD hS => ?_)
            have hP : va_P (dC, dI) vwCl [(o, .inr (0, [.ref o_inside, .long v13])), (o_inside, .inl (cJ, 9, .inr (.inl b6))), (p1_shares, .inl (cI, 27, .inl vp1_shares)), (p1_kinds, .inl (cI, 9, .inl vp1_kinds)), (p1_shareCounts, .inl (cI, 9, .inl vp1_shareCounts)), (p1, .inr (3, [.ref p1_kinds, .ref p1_holds, .ref p1_takes, .ref p1_shareCounts, .ref p1_shares, .int vp1_size]))] H := hP
            have hD : va_D A [(o, .inr (0, [.ref o_inside, .long v13])), (o_inside, .inl (cJ, 9, .inr (.inl b6))), (p1_shares, .inl (cI, 27, .inl vp1_shares)), (p1_kinds, .inl (cI, 9, .inl vp1_kinds)), (p1_shareCounts, .inl (cI, 9, .inl vp1_shareCounts)), (p1, .inr (3, [.ref p1_kinds, .ref p1_holds, .ref p1_takes, .ref p1_shareCounts, .ref p1_shares, .int vp1_size]))] := hD
            obtain ⟨v14, ev14⟩ : ∃ y : Int32, (b4 + (1 : Int32)) = y := ⟨_, rfl⟩
            replace hT := cut_n ev14 hT
            try have fv14 := zaddE (rfl : (b4).toInt = _) (by decide : ((1 : Int32)).toInt = 1) ev14 (by omega) (by omega)
            refine lv_iinc (v := v14) (lv' := [(9, .int v14), (11, .long j11), (0, .ref o), (1, .ref p1), (2, .int p2), (3, .long p3), (6, .int v2), (7, .long v3), (10, .int v10)]) hx hb dX0_shareOut_118 hl (k := 7) rfl (by rw [← ev14]; rfl) (by decide) rfl (fun ls hl => ?_)
            refine lv_goto (tgt := 41) hx hb dX0_shareOut_121 (by decide) ?_
            exact ih2 (v14, v13, b6) _ _ _ ⟨(by omega : 0 ≤ v14.toInt), (by omega : v14.toInt ≤ 3), (by omega : 3 - v14.toInt < ((k2 : Nat) : Int)), hT, hP.sub [0, 1, 2, 5, 3, 4] rfl, hD.sub [0, 1, 2, 5, 3, 4] rfl rfl, hS, lv_sub hl [0, 7, 6, 2, 3, 4, 5] rfl⟩
          · replace hT := cutF c_16 hT
            have g_25 := zeqF (rfl : (r12).toInt = _) (by decide : ((0 : Int32)).toInt = 0) c_16
            refine lv_aload_n hx hb dX0_shareOut_92 rfl (lv_at hl 1 rfl) ?_
            refine va_get (D := (dC, dI)) (ci := 0) (v := .ref o_inside) (C := RX0) (T := TX0) (N := 2) hx hb hts hwX0 hown hK hP 0 rfl rfl 0 (by decide) hf_9 (fun _ h9 => h9) rfl dX0_shareOut_93 ?_
            refine lv_iload hx hb dX0_shareOut_96 (lv_at hl 8 rfl) ?_
            refine lv_dup2_11 hx hb dX0_shareOut_98 rfl rfl ?_
            have h_17 : vp_in v10 9 := zin (by omega) (by omega)
            refine va_lald hx hb hK hP 1 1 rfl rfl h_17 dX0_shareOut_99 ?_
            refine lv_lload hx hb dX0_shareOut_100 (lv_at hl 0 rfl) ?_
            refine lv_ladd hx hb dX0_shareOut_102 ?_
            have h_18 : vp_in v10 9 := zin (by omega) (by omega)
            refine va_last hx hb hK hP hD hS 1 1 rfl rfl h_18 dX0_shareOut_103 (fun H locs hP hD hS => ?_)
            obtain ⟨a15, ea15⟩ : ∃ z, (vp_updL b6 v10.toNatClampNeg ((b6 v10.toNatClampNeg) + j11)) = z := ⟨_, rfl⟩
            replace hT := cut_n ea15 hT
            have hP : va_P (dC, dI) vwCl [(o, .inr (0, [.ref o_inside, .long b5])), (o_inside, .inl (cJ, 9, .inr (.inl a15))), (p1_shares, .inl (cI, 27, .inl vp1_shares)), (p1_kinds, .inl (cI, 9, .inl vp1_kinds)), (p1_shareCounts, .inl (cI, 9, .inl vp1_shareCounts)), (p1, .inr (3, [.ref p1_kinds, .ref p1_holds, .ref p1_takes, .ref p1_shareCounts, .ref p1_shares, .int vp1_size]))] H := by rw [← ea15]; exact hP
            have hD : va_D A [(o, .inr (0, [.ref o_inside, .long b5])), (o_inside, .inl (cJ, 9, .inr (.inl a15))), (p1_shares, .inl (cI, 27, .inl vp1_shares)), (p1_kinds, .inl (cI, 9, .inl vp1_kinds)), (p1_shareCounts, .inl (cI, 9, .inl vp1_shareCounts)), (p1, .inr (3, [.ref p1_kinds, .ref p1_holds, .ref p1_takes, .ref p1_shareCounts, .ref p1_shares, .int vp1_size]))] := by rw [← ea15]; exact hD
            refine lv_goto (tgt := 118) hx hb dX0_shareOut_104 (by decide) ?_
            obtain ⟨v16, ev16⟩ : ∃ y : Int32, (b4 + (1 : Int32)) = y := ⟨_, rfl⟩
            replace hT := cut_n ev16 hT
            try have fv16 := zaddE (rfl : (b4).toInt = _) (by decide : ((1 : Int32)).toInt = 1) ev16 (by omega) (by omega)
            refine lv_iinc (v := v16) (lv' := [(9, .int v16), (11, .long j11), (0, .ref o), (1, .ref p1), (2, .int p2), (3, .long p3), (6, .int v2), (7, .long v3), (10, .int v10)]) hx hb dX0_shareOut_118 hl (k := 7) rfl (by rw [← ev16]; rfl) (by decide) rfl (fun ls hl => ?_)
            refine lv_goto (tgt := 41) hx hb dX0_shareOut_121 (by decide) ?_
            exact ih2 (v16, b5, a15) _ _ _ ⟨(by omega : 0 ≤ v16.toInt), (by omega : v16.toInt ≤ 3), (by omega : 3 - v16.toInt < ((k2 : Nat) : Int)), hT, hP.sub [0, 1, 2, 5, 3, 4] rfl, hD.sub [0, 1, 2, 5, 3, 4] rfl rfl, hS, lv_sub hl [0, 7, 6, 2, 3, 4, 5] rfl⟩
        · intro xv hT hM
          refine lv_if_ne (tgt := 79) hx hb dX0_shareOut_63 (by decide) (fun c_11 => ?_) (fun c_11 => ?_)
          · replace hT := cutF c_11 hT
            have g_26 := zeqF (rfl : (b4).toInt = _) (by decide : ((0 : Int32)).toInt = 0) c_11
            refine lv_lload hx hb dX0_shareOut_79 (lv_at hl 2 rfl) ?_
            have hP9 := hP
            have hD9 := hD
            have hS9 := hS
            have hl9 := hl
            have hM9 := hM
            have hT : v3 = xv := hT
            subst hT
            exact hM9 _ _ _ ⟨hP9.sub [0, 1, 2, 3, 4, 5] rfl, hD9.sub [0, 1, 2, 3, 4, 5] rfl rfl, hS9, lv_sub hl9 [4, 5, 6, 7, 3, 2, 1, 0] rfl⟩
          · replace hT := cutT c_11 hT
            have g_27 := zeqT (rfl : (b4).toInt = _) (by decide : ((0 : Int32)).toInt = 0) c_11
            refine lv_lload_n hx hb dX0_shareOut_66 rfl (lv_at hl 7 rfl) ?_
            refine lv_lload hx hb dX0_shareOut_67 (lv_at hl 2 rfl) ?_
            refine lv_iload hx hb dX0_shareOut_69 (lv_at hl 3 rfl) ?_
            refine lv_iconst (v := (1 : Int32)) hx hb dX0_shareOut_71 (by decide) ?_
            refine lv_isub hx hb dX0_shareOut_72 ?_
            refine lv_i2l (v := ((v2 - (1 : Int32)).toInt64)) hx hb dX0_shareOut_73 rfl ?_
            refine lv_lmul hx hb dX0_shareOut_74 ?_
            refine lv_lsub hx hb dX0_shareOut_75 ?_
            refine lv_goto (tgt := 81) hx hb dX0_shareOut_76 (by decide) ?_
            have hP9 := hP
            have hD9 := hD
            have hS9 := hS
            have hl9 := hl
            have hM9 := hM
            have hT : (p3 - (v3 * ((v2 - (1 : Int32)).toInt64))) = xv := hT
            subst hT
            exact hM9 _ _ _ ⟨hP9.sub [0, 1, 2, 3, 4, 5] rfl, hD9.sub [0, 1, 2, 3, 4, 5] rfl rfl, hS9, lv_sub hl9 [4, 5, 6, 7, 3, 2, 1, 0] rfl⟩
  · replace hT := cutF c_3 hT
    have g_28 := zltF (by decide : ((0 : Int32)).toInt = 0) (rfl : (r1).toInt = _) c_3
    refine lv_aload_n hx hb dX0_shareOut_12 rfl (lv_at hl 1 rfl) ?_
    refine lv_dup hx hb dX0_shareOut_13 rfl ?_
    refine va_get (D := (dC, dI)) (ci := 0) (v := .long vo_spilt) (C := RX0) (T := TX0) (N := 2) hx hb hts hwX0 hown hK hP 0 rfl rfl 1 (by decide) hf_21 (fun _ h9 => h9) rfl dX0_shareOut_14 ?_
    refine lv_lload_n hx hb dX0_shareOut_17 rfl (lv_at hl 4 rfl) ?_
    refine lv_ladd hx hb dX0_shareOut_18 ?_
    refine lv_topl (fun v17 ev17 => ?_)
    replace hT := cut_n ev17.symm hT
    refine va_put (D := (dC, dI)) (ci := 0) (v := .long v17) (ty := .long) (C := RX0) (T := TX0) (N := 2) hx hb hts hwX0 tyX0 tyX0_ok nmX0 hown hK hP hD hS 0 rfl rfl 1 (by decide) hf_21 (fun _ h9 => h9) rfl (by decide +kernel) rfl rfl (Nat.le_of_ble_eq_true rfl) dX0_shareOut_19 (fun H locs hP hD hS => ?_)
    have hP : va_P (dC, dI) vwCl [(o, .inr (0, [.ref o_inside, .long v17])), (o_inside, .inl (cJ, 9, .inr (.inl vo_inside))), (p1_shares, .inl (cI, 27, .inl vp1_shares)), (p1, .inr (3, [.ref p1_kinds, .ref p1_holds, .ref p1_takes, .ref p1_shareCounts, .ref p1_shares, .int vp1_size])), (p1_kinds, .inl (cI, 9, .inl vp1_kinds)), (p1_shareCounts, .inl (cI, 9, .inl vp1_shareCounts))] H := hP
    have hD : va_D A [(o, .inr (0, [.ref o_inside, .long v17])), (o_inside, .inl (cJ, 9, .inr (.inl vo_inside))), (p1_shares, .inl (cI, 27, .inl vp1_shares)), (p1, .inr (3, [.ref p1_kinds, .ref p1_holds, .ref p1_takes, .ref p1_shareCounts, .ref p1_shares, .int vp1_size])), (p1_kinds, .inl (cI, 9, .inl vp1_kinds)), (p1_shareCounts, .inl (cI, 9, .inl vp1_shareCounts))] := hD
    have hP9 := hP
    have hD9 := hD
    have hS9 := hS
    have hT : (v17, vo_inside) = (qo_spilt, qo_inside) := hT
    cases hT
    subst hQ
    exact zz_vret hx hb hr [0, 1, 3, 4, 5, 2] hK hP9 hD9 hS9 rfl rfl trivial hlocks dX0_shareOut_22

def rs_X0_runOver_2  (x4 : Int32) (x5 : Int64) (x6 : Nat → Int64) : Int64 × (Nat → Int64) :=
 (x5, x6)
def lp_X0_runOver_2 (vp1_size : Int32) (ct2 : Int32 → Int64 → (Nat → Int64) → (Int64 × (Nat → Int64))) (vp1_takes : Nat → Int32) (vp1_kinds : Nat → Int32) (vp1_shareCounts : Nat → Int32) (vp1_shares : Nat → Int32) : Nat → Int32 → Int64 → (Nat → Int64) → (Int64 × (Nat → Int64))
  | 0, _, _, _ => default
  | k + 1, b1, b2, b3 =>
  if vp1_size ≤ b1 then
   (ct2 b1 b2 b3)
  else
   cut ((b3 b1.toNatClampNeg) - (((vp1_takes b1.toNatClampNeg).toInt64) * (5159780352 : Int64))) (fun (v7 : Int64) =>
   if (lg_cmp v7 (0 : Int64)) ≤ (0 : Int32) then
    cut (b1 + (1 : Int32)) (fun (v8 : Int32) =>
    (lp_X0_runOver_2 vp1_size ct2 vp1_takes vp1_kinds vp1_shareCounts vp1_shares k v8 b2 b3))
   else
    cut (vp_updL b3 b1.toNatClampNeg ((b3 b1.toNatClampNeg) - v7)) (fun (a9 : Nat → Int64) =>
    cut2 (m_X0_shareOut b2 a9 vp1_size vp1_kinds vp1_shareCounts vp1_shares b1 v7) (fun (u10 : Int64) (u11 : Nat → Int64) =>
    cut (b1 + (1 : Int32)) (fun (v12 : Int32) =>
    (lp_X0_runOver_2 vp1_size ct2 vp1_takes vp1_kinds vp1_shareCounts vp1_shares k v12 u10 u11)))))
def m_X0_runOver (vo_spilt : Int64) (vo_inside : Nat → Int64) (vp1_size : Int32) (vp1_kinds : Nat → Int32) (vp1_takes : Nat → Int32) (vp1_shareCounts : Nat → Int32) (vp1_shares : Nat → Int32) : Int64 × (Nat → Int64) :=
 (lp_X0_runOver_2 vp1_size rs_X0_runOver_2 vp1_takes vp1_kinds vp1_shareCounts vp1_shares 11 (0 : Int32) vo_spilt vo_inside)
set_option maxHeartbeats 4000000 in
set_option maxRecDepth 100000 in
theorem k_X0_runOver (l : Launch) (dC : Nat → ClassId) (dI : Nat → Nat → Nat) (cI cJ cC : ClassId) (sz : Nat) (o o_inside p1 p1_kinds p1_holds p1_takes p1_shareCounts p1_shares : Nat) (vo_spilt : Int64) (vo_inside : Nat → Int64) (vp1_size : Int32) (vp1_kinds : Nat → Int32) (vp1_takes : Nat → Int32) (vp1_shareCounts : Nat → Int32) (vp1_shares : Nat → Int32) (qo_spilt : Int64) (qo_inside : Nat → Int64) (hT : m_X0_runOver vo_spilt vo_inside vp1_size vp1_kinds vp1_takes vp1_shareCounts vp1_shares = (qo_spilt, qo_inside)) (ht0 : 0 ≤ vp1_size.toInt) (ht9 : vp1_size.toInt ≤ 9) (htc : zSc vp1_shareCounts) : Met l yX0_runOver wsX0_runOver ({ frames := 3, cells := 0, slots := 0, locals := 74 }) (zPc [.ref o, .ref p1] (dC, dI) (zTy cI cJ cC) [(o, .inr (0, [.ref o_inside, .long vo_spilt])), (o_inside, .inl (cJ, 9, .inr (.inl vo_inside))), (p1, .inr (3, [.ref p1_kinds, .ref p1_holds, .ref p1_takes, .ref p1_shareCounts, .ref p1_shares, .int vp1_size])), (p1_kinds, .inl (cI, 9, .inl vp1_kinds)), (p1_takes, .inl (cI, 9, .inl vp1_takes)), (p1_shareCounts, .inl (cI, 9, .inl vp1_shareCounts)), (p1_shares, .inl (cI, 27, .inl vp1_shares))] sz) (zQv (True) (dC, dI) (zTy cI cJ cC) [(o, .inr (0, [.ref o_inside, .long qo_spilt])), (o_inside, .inl (cJ, 9, .inr (.inl qo_inside))), (p1, .inr (3, [.ref p1_kinds, .ref p1_holds, .ref p1_takes, .ref p1_shareCounts, .ref p1_shares, .int vp1_size])), (p1_kinds, .inl (cI, 9, .inl vp1_kinds)), (p1_takes, .inl (cI, 9, .inl vp1_takes)), (p1_shareCounts, .inl (cI, 9, .inl vp1_shareCounts)), (p1_shares, .inl (cI, 27, .inl vp1_shares))] (va_A [(o, .inr (0, [.ref o_inside, .long vo_spilt])), (o_inside, .inl (cJ, 9, .inr (.inl vo_inside))), (p1, .inr (3, [.ref p1_kinds, .ref p1_holds, .ref p1_takes, .ref p1_shareCounts, .ref p1_shares, .int vp1_size])), (p1_kinds, .inl (cI, 9, .inl vp1_kinds)), (p1_takes, .inl (cI, 9, .inl vp1_takes)), (p1_shareCounts, .inl (cI, 9, .inl vp1_shareCounts)), (p1_shares, .inl (cI, 27, .inl vp1_shares))] sz)) 0 0 (va_A [(o, .inr (0, [.ref o_inside, .long vo_spilt])), (o_inside, .inl (cJ, 9, .inr (.inl vo_inside))), (p1, .inr (3, [.ref p1_kinds, .ref p1_holds, .ref p1_takes, .ref p1_shareCounts, .ref p1_shares, .int vp1_size])), (p1_kinds, .inl (cI, 9, .inl vp1_kinds)), (p1_takes, .inl (cI, 9, .inl vp1_takes)), (p1_shareCounts, .inl (cI, 9, .inl vp1_shareCounts)), (p1_shares, .inl (cI, 27, .inl vp1_shares))] sz) := by
  refine Met.ofW (cc := cX0_runOver) (maxL := 5) (ret := none) (by decide) rfl ?_
  intro p e s m args below meth c s₁ B hml hv
  obtain ⟨rfl, hsz, hP, hK, hD0⟩ := hv
  have hx := B.exec
  have hb := B.bytes
  have hr := B.returns
  have hts := atoms_spec (ws := wsX0_runOver) B.pre
  have hown : s.vm.findClass RX0 = some m.cls := findClass_of_methodNamed B.named
  have hlocks := B.notSynchronized
  subst hsz
  have hD := hD0.self (sz := s.heap.size)
  generalize hAe : va_A [(o, .inr (0, [.ref o_inside, .long vo_spilt])), (o_inside, .inl (cJ, 9, .inr (.inl vo_inside))), (p1, .inr (3, [.ref p1_kinds, .ref p1_holds, .ref p1_takes, .ref p1_shareCounts, .ref p1_shares, .int vp1_size])), (p1_kinds, .inl (cI, 9, .inl vp1_kinds)), (p1_takes, .inl (cI, 9, .inl vp1_takes)), (p1_shareCounts, .inl (cI, 9, .inl vp1_shareCounts)), (p1_shares, .inl (cI, 27, .inl vp1_shares))] s.heap.size = A at hD ⊢
  have hA : ∀ q : Nat, s.heap.size ≤ q → A q := fun q h => by rw [← hAe]; exact Or.inr h
  have hS : va_S A s.heap s.heap [] := va_S.rf
  have hP : va_P (dC, dI) vwCl [(o, .inr (0, [.ref o_inside, .long vo_spilt])), (o_inside, .inl (cJ, 9, .inr (.inl vo_inside))), (p1, .inr (3, [.ref p1_kinds, .ref p1_holds, .ref p1_takes, .ref p1_shareCounts, .ref p1_shares, .int vp1_size])), (p1_kinds, .inl (cI, 9, .inl vp1_kinds)), (p1_takes, .inl (cI, 9, .inl vp1_takes)), (p1_shareCounts, .inl (cI, 9, .inl vp1_shareCounts)), (p1_shares, .inl (cI, 27, .inl vp1_shares))] s.heap := hP
  have hK : va_K (dC, dI) vwCl (zTy cI cJ cC) s := hK
  have hl := lv_entry ([.ref o, .ref p1]) (n := 5) (Nat.le_of_ble_eq_true rfl)
  rw [lg_entry_eq]
  generalize (lg_sl ([.ref o, .ref p1]) ++ List.replicate (5 - (lg_sl ([.ref o, .ref p1])).length) Slot.unset).toArray = ls at hl ⊢
  have hl : lv_has ls 5 [(0, .ref o), (1, .ref p1)] := hl
  refine zz_start hP hS (fun Q hQ H locs hP hS => ?_)
  have hwX0 : ∀ w ∈ u_ws RX0 TX0 2, w ∈ wsX0_runOver := by decide +kernel
  have hwX3 : ∀ w ∈ u_ws RX3 TX3 6, w ∈ wsX0_runOver := by decide +kernel
  have hc_37 := (hts (.constantLong RX0 37 (5159780352)) (by decide +kernel))
  have hf_43 := (hts (.fieldLink RX0 43 "PouredTopmost$Stand" "size" "I") (by decide +kernel))
  have hf_47 := (hts (.fieldLink RX0 47 "PouredTopmost$Stand" "takes" "[I") (by decide +kernel))
  have hf_9 := (hts (.fieldLink RX0 9 "PouredTopmost$Fill" "inside" "[J") (by decide +kernel))
  refine lv_iconst (v := (0 : Int32)) hx hb dX0_runOver_0 (by decide) ?_
  refine lv_istore_n (lv' := [(2, .int (0 : Int32)), (0, .ref o), (1, .ref p1)]) hx hb dX0_runOver_1 rfl hl (by decide) rfl (fun ls hl => ?_)
  have hz_9 : ((0 : Int32)).toInt = 0 := by decide
  refine zz_loop (α := Int32 × Int64 × (Nat → Int64)) 58 (fun k a H locs ls => (0 ≤ a.1.toInt) ∧ (a.1.toInt ≤ vp1_size.toInt) ∧ (vp1_size.toInt - a.1.toInt < ((k : Nat) : Int)) ∧ lp_X0_runOver_2 vp1_size rs_X0_runOver_2 vp1_takes vp1_kinds vp1_shareCounts vp1_shares k a.1 a.2.1 a.2.2 = (qo_spilt, qo_inside) ∧ va_P (dC, dI) vwCl [(o, .inr (0, [.ref o_inside, .long a.2.1])), (o_inside, .inl (cJ, 9, .inr (.inl a.2.2))), (p1, .inr (3, [.ref p1_kinds, .ref p1_holds, .ref p1_takes, .ref p1_shareCounts, .ref p1_shares, .int vp1_size])), (p1_kinds, .inl (cI, 9, .inl vp1_kinds)), (p1_takes, .inl (cI, 9, .inl vp1_takes)), (p1_shareCounts, .inl (cI, 9, .inl vp1_shareCounts)), (p1_shares, .inl (cI, 27, .inl vp1_shares))] H ∧ va_D A [(o, .inr (0, [.ref o_inside, .long a.2.1])), (o_inside, .inl (cJ, 9, .inr (.inl a.2.2))), (p1, .inr (3, [.ref p1_kinds, .ref p1_holds, .ref p1_takes, .ref p1_shareCounts, .ref p1_shares, .int vp1_size])), (p1_kinds, .inl (cI, 9, .inl vp1_kinds)), (p1_takes, .inl (cI, 9, .inl vp1_takes)), (p1_shareCounts, .inl (cI, 9, .inl vp1_shareCounts)), (p1_shares, .inl (cI, 27, .inl vp1_shares))] ∧ va_S A s.heap H locs ∧ lv_has ls 5 [(2, .int a.1), (0, .ref o), (1, .ref p1)]) (fun a H locs ls => (0 ≤ a.1.toInt) ∧ (a.1.toInt ≤ vp1_size.toInt) ∧ rs_X0_runOver_2 a.1 a.2.1 a.2.2 = (qo_spilt, qo_inside) ∧ va_P (dC, dI) vwCl [(o, .inr (0, [.ref o_inside, .long a.2.1])), (o_inside, .inl (cJ, 9, .inr (.inl a.2.2))), (p1, .inr (3, [.ref p1_kinds, .ref p1_holds, .ref p1_takes, .ref p1_shareCounts, .ref p1_shares, .int vp1_size])), (p1_kinds, .inl (cI, 9, .inl vp1_kinds)), (p1_takes, .inl (cI, 9, .inl vp1_takes)), (p1_shareCounts, .inl (cI, 9, .inl vp1_shareCounts)), (p1_shares, .inl (cI, 27, .inl vp1_shares))] H ∧ va_D A [(o, .inr (0, [.ref o_inside, .long a.2.1])), (o_inside, .inl (cJ, 9, .inr (.inl a.2.2))), (p1, .inr (3, [.ref p1_kinds, .ref p1_holds, .ref p1_takes, .ref p1_shareCounts, .ref p1_shares, .int vp1_size])), (p1_kinds, .inl (cI, 9, .inl vp1_kinds)), (p1_takes, .inl (cI, 9, .inl vp1_takes)), (p1_shareCounts, .inl (cI, 9, .inl vp1_shareCounts)), (p1_shares, .inl (cI, 27, .inl vp1_shares))] ∧ va_S A s.heap H locs ∧ lv_has ls 5 []) ?_ ?_ ?_ 11 ((0 : Int32), vo_spilt, vo_inside) ⟨(by omega : 0 ≤ (0 : Int32).toInt), (by omega : (0 : Int32).toInt ≤ vp1_size.toInt), (by omega : vp1_size.toInt - (0 : Int32).toInt < ((11 : Nat) : Int)), hT, hP.sub [0, 1, 2, 3, 4, 5, 6] rfl, hD.sub [0, 1, 2, 3, 4, 5, 6] rfl rfl, hS, lv_sub hl [0, 1, 2] rfl⟩
  · rintro ⟨x4, x5, x6⟩ H locs ls ⟨i1, j1, hT, hP, hD, hS, hl⟩
    have hP : va_P (dC, dI) vwCl [(o, .inr (0, [.ref o_inside, .long x5])), (o_inside, .inl (cJ, 9, .inr (.inl x6))), (p1, .inr (3, [.ref p1_kinds, .ref p1_holds, .ref p1_takes, .ref p1_shareCounts, .ref p1_shares, .int vp1_size])), (p1_kinds, .inl (cI, 9, .inl vp1_kinds)), (p1_takes, .inl (cI, 9, .inl vp1_takes)), (p1_shareCounts, .inl (cI, 9, .inl vp1_shareCounts)), (p1_shares, .inl (cI, 27, .inl vp1_shares))] H := hP
    have hD : va_D A [(o, .inr (0, [.ref o_inside, .long x5])), (o_inside, .inl (cJ, 9, .inr (.inl x6))), (p1, .inr (3, [.ref p1_kinds, .ref p1_holds, .ref p1_takes, .ref p1_shareCounts, .ref p1_shares, .int vp1_size])), (p1_kinds, .inl (cI, 9, .inl vp1_kinds)), (p1_takes, .inl (cI, 9, .inl vp1_takes)), (p1_shareCounts, .inl (cI, 9, .inl vp1_shareCounts)), (p1_shares, .inl (cI, 27, .inl vp1_shares))] := hD
    have hl : lv_has ls 5 [] := hl
    have hT : rs_X0_runOver_2 x4 x5 x6 = (qo_spilt, qo_inside) := hT
    have i1 : 0 ≤ x4.toInt := i1
    have j1 : x4.toInt ≤ vp1_size.toInt := j1
    have hP9 := hP
    have hD9 := hD
    have hS9 := hS
    have hT : (x5, x6) = (qo_spilt, qo_inside) := hT
    cases hT
    subst hQ
    exact zz_vret hx hb hr [0, 1, 2, 3, 4, 5, 6] hK hP9 hD9 hS9 rfl rfl trivial hlocks dX0_runOver_58
  · rintro ⟨b1, b2, b3⟩ H locs ls ⟨i1, j1, hm, -⟩
    try dsimp only at *
    omega
  · intro k2 hex2 ih2
    rintro ⟨b1, b2, b3⟩ H locs ls ⟨i1, j1, hm2, hT, hP, hD, hS, hl⟩
    have hP : va_P (dC, dI) vwCl [(o, .inr (0, [.ref o_inside, .long b2])), (o_inside, .inl (cJ, 9, .inr (.inl b3))), (p1, .inr (3, [.ref p1_kinds, .ref p1_holds, .ref p1_takes, .ref p1_shareCounts, .ref p1_shares, .int vp1_size])), (p1_kinds, .inl (cI, 9, .inl vp1_kinds)), (p1_takes, .inl (cI, 9, .inl vp1_takes)), (p1_shareCounts, .inl (cI, 9, .inl vp1_shareCounts)), (p1_shares, .inl (cI, 27, .inl vp1_shares))] H := hP
    have hD : va_D A [(o, .inr (0, [.ref o_inside, .long b2])), (o_inside, .inl (cJ, 9, .inr (.inl b3))), (p1, .inr (3, [.ref p1_kinds, .ref p1_holds, .ref p1_takes, .ref p1_shareCounts, .ref p1_shares, .int vp1_size])), (p1_kinds, .inl (cI, 9, .inl vp1_kinds)), (p1_takes, .inl (cI, 9, .inl vp1_takes)), (p1_shareCounts, .inl (cI, 9, .inl vp1_shareCounts)), (p1_shares, .inl (cI, 27, .inl vp1_shares))] := hD
    have hl : lv_has ls 5 [(2, .int b1), (0, .ref o), (1, .ref p1)] := hl
    have hT : lp_X0_runOver_2 vp1_size rs_X0_runOver_2 vp1_takes vp1_kinds vp1_shareCounts vp1_shares (k2 + 1) b1 b2 b3 = (qo_spilt, qo_inside) := hT
    have i1 : 0 ≤ b1.toInt := i1
    have j1 : b1.toInt ≤ vp1_size.toInt := j1
    have hm2 : vp1_size.toInt - b1.toInt < (((k2 + 1) : Nat) : Int) := hm2
    try simp only [Int.natCast_add, Int.natCast_one, Nat.cast_add, Nat.cast_one] at hm2
    refine lv_iload_n hx hb dX0_runOver_2 rfl (lv_at hl 0 rfl) ?_
    refine lv_aload_n hx hb dX0_runOver_3 rfl (lv_at hl 2 rfl) ?_
    refine va_get (D := (dC, dI)) (ci := 3) (v := .int vp1_size) (C := RX3) (T := TX3) (N := 6) hx hb hts hwX3 hown hK hP 2 rfl rfl 5 (by decide) hf_43 (fun _ h9 => h9) rfl dX0_runOver_4 ?_
    refine lv_icmp_ge (tgt := 58) hx hb dX0_runOver_7 (by decide) (fun c_1 => ?_) (fun c_1 => ?_)
    · replace hT := cutT c_1 hT
      have g_10 := zleT (rfl : (vp1_size).toInt = _) (rfl : (b1).toInt = _) c_1
      exact hex2 (b1, b2, b3) _ _ _ ⟨(by omega : 0 ≤ b1.toInt), (by omega : b1.toInt ≤ vp1_size.toInt), hT, hP.sub [0, 1, 2, 3, 4, 5, 6] rfl, hD.sub [0, 1, 2, 3, 4, 5, 6] rfl rfl, hS, lv_sub hl [] rfl⟩
    · replace hT := cutF c_1 hT
      have g_11 := zleF (rfl : (vp1_size).toInt = _) (rfl : (b1).toInt = _) c_1
      refine lv_aload_n hx hb dX0_runOver_10 rfl (lv_at hl 1 rfl) ?_
      refine va_get (D := (dC, dI)) (ci := 0) (v := .ref o_inside) (C := RX0) (T := TX0) (N := 2) hx hb hts hwX0 hown hK hP 0 rfl rfl 0 (by decide) hf_9 (fun _ h9 => h9) rfl dX0_runOver_11 ?_
      refine lv_iload_n hx hb dX0_runOver_14 rfl (lv_at hl 0 rfl) ?_
      have h_2 : vp_in b1 9 := zin (by omega) (by omega)
      refine va_lald hx hb hK hP 1 1 rfl rfl h_2 dX0_runOver_15 ?_
      refine lv_aload_n hx hb dX0_runOver_16 rfl (lv_at hl 2 rfl) ?_
      refine va_get (D := (dC, dI)) (ci := 3) (v := .ref p1_takes) (C := RX3) (T := TX3) (N := 6) hx hb hts hwX3 hown hK hP 2 rfl rfl 2 (by decide) hf_47 (fun _ h9 => h9) rfl dX0_runOver_17 ?_
      refine lv_iload_n hx hb dX0_runOver_20 rfl (lv_at hl 0 rfl) ?_
      have h_3 : vp_in b1 9 := zin (by omega) (by omega)
      refine va_iald hx hb hK hP 4 0 rfl rfl h_3 dX0_runOver_21 ?_
      refine lv_i2l (v := ((vp1_takes b1.toNatClampNeg).toInt64)) hx hb dX0_runOver_22 rfl ?_
      refine lv_ldc2 (v := (5159780352 : Int64)) hx hb hown hc_37 dX0_runOver_23 ?_
      refine lv_lmul hx hb dX0_runOver_26 ?_
      refine lv_lsub hx hb dX0_runOver_27 ?_
      refine lv_topl (fun v7 ev7 => ?_)
      replace hT := cut_n ev7.symm hT
      refine lv_lstore_n (lv' := [(3, .long v7), (2, .int b1), (0, .ref o), (1, .ref p1)]) hx hb dX0_runOver_28 rfl hl (by decide) rfl (fun ls hl => ?_)
      refine lv_lload_n hx hb dX0_runOver_29 rfl (lv_at hl 0 rfl) ?_
      refine lv_lconst (v := (0 : Int64)) hx hb dX0_runOver_30 (by decide) ?_
      refine W.lcmp hx hb dX0_runOver_31 ?_
      have hz_12 : ((0 : Int64)).toInt = 0 := by decide
      refine lv_if_le (tgt := 52) hx hb dX0_runOver_32 (by decide) (fun c_4 => ?_) (fun c_4 => ?_)
      · replace hT := cutT c_4 hT
        have g_13 := zlc_le.mp c_4
        obtain ⟨v8, ev8⟩ : ∃ y : Int32, (b1 + (1 : Int32)) = y := ⟨_, rfl⟩
        replace hT := cut_n ev8 hT
        try have fv8 := zaddE (rfl : (b1).toInt = _) (by decide : ((1 : Int32)).toInt = 1) ev8 (by omega) (by omega)
        refine lv_iinc (v := v8) (lv' := [(2, .int v8), (3, .long v7), (0, .ref o), (1, .ref p1)]) hx hb dX0_runOver_52 hl (k := 1) rfl (by rw [← ev8]; rfl) (by decide) rfl (fun ls hl => ?_)
        refine lv_goto (tgt := 2) hx hb dX0_runOver_55 (by decide) ?_
        exact ih2 (v8, b2, b3) _ _ _ ⟨(by omega : 0 ≤ v8.toInt), (by omega : v8.toInt ≤ vp1_size.toInt), (by omega : vp1_size.toInt - v8.toInt < ((k2 : Nat) : Int)), hT, hP.sub [0, 1, 2, 3, 4, 5, 6] rfl, hD.sub [0, 1, 2, 3, 4, 5, 6] rfl rfl, hS, lv_sub hl [0, 2, 3] rfl⟩
      · replace hT := cutF c_4 hT
        have g_14 := mt zlc_le.mpr c_4
        refine lv_aload_n hx hb dX0_runOver_35 rfl (lv_at hl 2 rfl) ?_
        refine va_get (D := (dC, dI)) (ci := 0) (v := .ref o_inside) (C := RX0) (T := TX0) (N := 2) hx hb hts hwX0 hown hK hP 0 rfl rfl 0 (by decide) hf_9 (fun _ h9 => h9) rfl dX0_runOver_36 ?_
        refine lv_iload_n hx hb dX0_runOver_39 rfl (lv_at hl 1 rfl) ?_
        refine lv_dup2_11 hx hb dX0_runOver_40 rfl rfl ?_
        have h_5 : vp_in b1 9 := zin (by omega) (by omega)
        refine va_lald hx hb hK hP 1 1 rfl rfl h_5 dX0_runOver_41 ?_
        refine lv_lload_n hx hb dX0_runOver_42 rfl (lv_at hl 0 rfl) ?_
        refine lv_lsub hx hb dX0_runOver_43 ?_
        have h_6 : vp_in b1 9 := zin (by omega) (by omega)
        refine va_last hx hb hK hP hD hS 1 1 rfl rfl h_6 dX0_runOver_44 (fun H locs hP hD hS => ?_)
        obtain ⟨a9, ea9⟩ : ∃ z, (vp_updL b3 b1.toNatClampNeg ((b3 b1.toNatClampNeg) - v7)) = z := ⟨_, rfl⟩
        replace hT := cut_n ea9 hT
        have hP : va_P (dC, dI) vwCl [(o, .inr (0, [.ref o_inside, .long b2])), (o_inside, .inl (cJ, 9, .inr (.inl a9))), (p1, .inr (3, [.ref p1_kinds, .ref p1_holds, .ref p1_takes, .ref p1_shareCounts, .ref p1_shares, .int vp1_size])), (p1_kinds, .inl (cI, 9, .inl vp1_kinds)), (p1_takes, .inl (cI, 9, .inl vp1_takes)), (p1_shareCounts, .inl (cI, 9, .inl vp1_shareCounts)), (p1_shares, .inl (cI, 27, .inl vp1_shares))] H := by rw [← ea9]; exact hP
        have hD : va_D A [(o, .inr (0, [.ref o_inside, .long b2])), (o_inside, .inl (cJ, 9, .inr (.inl a9))), (p1, .inr (3, [.ref p1_kinds, .ref p1_holds, .ref p1_takes, .ref p1_shareCounts, .ref p1_shares, .int vp1_size])), (p1_kinds, .inl (cI, 9, .inl vp1_kinds)), (p1_takes, .inl (cI, 9, .inl vp1_takes)), (p1_shareCounts, .inl (cI, 9, .inl vp1_shareCounts)), (p1_shares, .inl (cI, 27, .inl vp1_shares))] := by rw [← ea9]; exact hD
        refine lv_aload_n hx hb dX0_runOver_45 rfl (lv_at hl 2 rfl) ?_
        refine lv_aload_n hx hb dX0_runOver_46 rfl (lv_at hl 3 rfl) ?_
        refine lv_iload_n hx hb dX0_runOver_47 rfl (lv_at hl 1 rfl) ?_
        refine lv_lload_n hx hb dX0_runOver_48 rfl (lv_at hl 0 rfl) ?_
        obtain ⟨u10, u11, ev_7⟩ : ∃ x0 x1, (m_X0_shareOut b2 a9 vp1_size vp1_kinds vp1_shareCounts vp1_shares b1 v7) = (x0, x1) := ⟨_, _, rfl⟩
        replace hT := cut2_n ev_7 hT
        refine zz_cv [0, 1, 2, 3, 5, 6] [4] (wr := [(p1_takes, .inl (cI, 9, .inl vp1_takes))]) (w1 := [(o, .inr (0, [.ref o_inside, .long u10])), (o_inside, .inl (cJ, 9, .inr (.inl u11))), (p1, .inr (3, [.ref p1_kinds, .ref p1_holds, .ref p1_takes, .ref p1_shareCounts, .ref p1_shares, .int vp1_size])), (p1_kinds, .inl (cI, 9, .inl vp1_kinds)), (p1_shareCounts, .inl (cI, 9, .inl vp1_shareCounts)), (p1_shares, .inl (cI, 27, .inl vp1_shares))]) (va_runV (As := [.ref p1, .int b1, .long v7]) (rest := []) ⟨hx, hb, hml, hown, hts⟩ (k_X0_shareOut l dC dI cI cJ cC H.size o o_inside p1 p1_kinds p1_holds p1_takes p1_shareCounts p1_shares b2 a9 vp1_size vp1_kinds vp1_shareCounts vp1_shares b1 v7 u10 u11 ev_7 ht9 htc (by first | omega | decide) (by first | omega | decide)) (cwV 3 hts gX0_runOver_X0_shareOut rfl rfl rfl (by decide +kernel) ⟨Nat.le_of_ble_eq_true rfl, Nat.le_of_ble_eq_true rfl⟩) (zz_preV [0, 1, 2, 3, 5, 6] hK hP hD rfl rfl (va_recv hK hP (ci := 0) (q0 := 0) rfl rfl)) rfl rfl hl.1 rfl (lv_room (Nat.le_of_ble_eq_true rfl)) dX0_runOver_49 ⟨Nat.zero_le _, Nat.zero_le _⟩) hP hD hS hA rfl rfl rfl (by decide) (fun ok_8 H locs hP hD hS => ?_)
        have hP : va_P (dC, dI) vwCl [(p1_takes, .inl (cI, 9, .inl vp1_takes)), (o, .inr (0, [.ref o_inside, .long u10])), (o_inside, .inl (cJ, 9, .inr (.inl u11))), (p1, .inr (3, [.ref p1_kinds, .ref p1_holds, .ref p1_takes, .ref p1_shareCounts, .ref p1_shares, .int vp1_size])), (p1_kinds, .inl (cI, 9, .inl vp1_kinds)), (p1_shareCounts, .inl (cI, 9, .inl vp1_shareCounts)), (p1_shares, .inl (cI, 27, .inl vp1_shares))] H := hP
        have hD : va_D A [(p1_takes, .inl (cI, 9, .inl vp1_takes)), (o, .inr (0, [.ref o_inside, .long u10])), (o_inside, .inl (cJ, 9, .inr (.inl u11))), (p1, .inr (3, [.ref p1_kinds, .ref p1_holds, .ref p1_takes, .ref p1_shareCounts, .ref p1_shares, .int vp1_size])), (p1_kinds, .inl (cI, 9, .inl vp1_kinds)), (p1_shareCounts, .inl (cI, 9, .inl vp1_shareCounts)), (p1_shares, .inl (cI, 27, .inl vp1_shares))] := hD
        obtain ⟨v12, ev12⟩ : ∃ y : Int32, (b1 + (1 : Int32)) = y := ⟨_, rfl⟩
        replace hT := cut_n ev12 hT
        try have fv12 := zaddE (rfl : (b1).toInt = _) (by decide : ((1 : Int32)).toInt = 1) ev12 (by omega) (by omega)
        refine lv_iinc (v := v12) (lv' := [(2, .int v12), (3, .long v7), (0, .ref o), (1, .ref p1)]) hx hb dX0_runOver_52 hl (k := 1) rfl (by rw [← ev12]; rfl) (by decide) rfl (fun ls hl => ?_)
        refine lv_goto (tgt := 2) hx hb dX0_runOver_55 (by decide) ?_
        exact ih2 (v12, u10, u11) _ _ _ ⟨(by omega : 0 ≤ v12.toInt), (by omega : v12.toInt ≤ vp1_size.toInt), (by omega : vp1_size.toInt - v12.toInt < ((k2 : Nat) : Int)), hT, hP.sub [1, 2, 3, 4, 0, 5, 6] rfl, hD.sub [1, 2, 3, 4, 0, 5, 6] rfl rfl, hS, lv_sub hl [0, 2, 3] rfl⟩

def m_X0_addTo (vo_spilt : Int64) (vo_inside : Nat → Int64) (vp1_size : Int32) (vp1_kinds : Nat → Int32) (vp1_takes : Nat → Int32) (vp1_shareCounts : Nat → Int32) (vp1_shares : Nat → Int32) (p2 : Int32) (p3 : Int32) : Int64 × (Nat → Int64) :=
 cut (m_X3_has vp1_size p2) (fun (r1 : Int32) =>
 if r1 = (0 : Int32) then
  (vo_spilt, vo_inside)
 else
  cut (vp_updL vo_inside p2.toNatClampNeg ((vo_inside p2.toNatClampNeg) + ((p3.toInt64) * (5159780352 : Int64)))) (fun (a2 : Nat → Int64) =>
  cut2 (m_X0_runOver vo_spilt a2 vp1_size vp1_kinds vp1_takes vp1_shareCounts vp1_shares) (fun (u3 : Int64) (u4 : Nat → Int64) =>
  (u3, u4))))
set_option maxHeartbeats 4000000 in
set_option maxRecDepth 100000 in
theorem k_X0_addTo (l : Launch) (dC : Nat → ClassId) (dI : Nat → Nat → Nat) (cI cJ cC : ClassId) (sz : Nat) (o o_inside p1 p1_kinds p1_holds p1_takes p1_shareCounts p1_shares : Nat) (vo_spilt : Int64) (vo_inside : Nat → Int64) (vp1_size : Int32) (vp1_kinds : Nat → Int32) (vp1_takes : Nat → Int32) (vp1_shareCounts : Nat → Int32) (vp1_shares : Nat → Int32) (p2 : Int32) (p3 : Int32) (qo_spilt : Int64) (qo_inside : Nat → Int64) (hT : m_X0_addTo vo_spilt vo_inside vp1_size vp1_kinds vp1_takes vp1_shareCounts vp1_shares p2 p3 = (qo_spilt, qo_inside)) (ht0 : 0 ≤ vp1_size.toInt) (ht9 : vp1_size.toInt ≤ 9) (htc : zSc vp1_shareCounts) : Met l yX0_addTo wsX0_addTo ({ frames := 4, cells := 0, slots := 0, locals := 98 }) (zPc [.ref o, .ref p1, .int p2, .int p3] (dC, dI) (zTy cI cJ cC) [(o, .inr (0, [.ref o_inside, .long vo_spilt])), (o_inside, .inl (cJ, 9, .inr (.inl vo_inside))), (p1, .inr (3, [.ref p1_kinds, .ref p1_holds, .ref p1_takes, .ref p1_shareCounts, .ref p1_shares, .int vp1_size])), (p1_kinds, .inl (cI, 9, .inl vp1_kinds)), (p1_takes, .inl (cI, 9, .inl vp1_takes)), (p1_shareCounts, .inl (cI, 9, .inl vp1_shareCounts)), (p1_shares, .inl (cI, 27, .inl vp1_shares))] sz) (zQv (True) (dC, dI) (zTy cI cJ cC) [(o, .inr (0, [.ref o_inside, .long qo_spilt])), (o_inside, .inl (cJ, 9, .inr (.inl qo_inside))), (p1, .inr (3, [.ref p1_kinds, .ref p1_holds, .ref p1_takes, .ref p1_shareCounts, .ref p1_shares, .int vp1_size])), (p1_kinds, .inl (cI, 9, .inl vp1_kinds)), (p1_takes, .inl (cI, 9, .inl vp1_takes)), (p1_shareCounts, .inl (cI, 9, .inl vp1_shareCounts)), (p1_shares, .inl (cI, 27, .inl vp1_shares))] (va_A [(o, .inr (0, [.ref o_inside, .long vo_spilt])), (o_inside, .inl (cJ, 9, .inr (.inl vo_inside))), (p1, .inr (3, [.ref p1_kinds, .ref p1_holds, .ref p1_takes, .ref p1_shareCounts, .ref p1_shares, .int vp1_size])), (p1_kinds, .inl (cI, 9, .inl vp1_kinds)), (p1_takes, .inl (cI, 9, .inl vp1_takes)), (p1_shareCounts, .inl (cI, 9, .inl vp1_shareCounts)), (p1_shares, .inl (cI, 27, .inl vp1_shares))] sz)) 0 0 (va_A [(o, .inr (0, [.ref o_inside, .long vo_spilt])), (o_inside, .inl (cJ, 9, .inr (.inl vo_inside))), (p1, .inr (3, [.ref p1_kinds, .ref p1_holds, .ref p1_takes, .ref p1_shareCounts, .ref p1_shares, .int vp1_size])), (p1_kinds, .inl (cI, 9, .inl vp1_kinds)), (p1_takes, .inl (cI, 9, .inl vp1_takes)), (p1_shareCounts, .inl (cI, 9, .inl vp1_shareCounts)), (p1_shares, .inl (cI, 27, .inl vp1_shares))] sz) := by
  refine Met.ofW (cc := cX0_addTo) (maxL := 4) (ret := none) (by decide) rfl ?_
  intro p e s m args below meth c s₁ B hml hv
  obtain ⟨rfl, hsz, hP, hK, hD0⟩ := hv
  have hx := B.exec
  have hb := B.bytes
  have hr := B.returns
  have hts := atoms_spec (ws := wsX0_addTo) B.pre
  have hown : s.vm.findClass RX0 = some m.cls := findClass_of_methodNamed B.named
  have hlocks := B.notSynchronized
  subst hsz
  have hD := hD0.self (sz := s.heap.size)
  generalize hAe : va_A [(o, .inr (0, [.ref o_inside, .long vo_spilt])), (o_inside, .inl (cJ, 9, .inr (.inl vo_inside))), (p1, .inr (3, [.ref p1_kinds, .ref p1_holds, .ref p1_takes, .ref p1_shareCounts, .ref p1_shares, .int vp1_size])), (p1_kinds, .inl (cI, 9, .inl vp1_kinds)), (p1_takes, .inl (cI, 9, .inl vp1_takes)), (p1_shareCounts, .inl (cI, 9, .inl vp1_shareCounts)), (p1_shares, .inl (cI, 27, .inl vp1_shares))] s.heap.size = A at hD ⊢
  have hA : ∀ q : Nat, s.heap.size ≤ q → A q := fun q h => by rw [← hAe]; exact Or.inr h
  have hS : va_S A s.heap s.heap [] := va_S.rf
  have hP : va_P (dC, dI) vwCl [(o, .inr (0, [.ref o_inside, .long vo_spilt])), (o_inside, .inl (cJ, 9, .inr (.inl vo_inside))), (p1, .inr (3, [.ref p1_kinds, .ref p1_holds, .ref p1_takes, .ref p1_shareCounts, .ref p1_shares, .int vp1_size])), (p1_kinds, .inl (cI, 9, .inl vp1_kinds)), (p1_takes, .inl (cI, 9, .inl vp1_takes)), (p1_shareCounts, .inl (cI, 9, .inl vp1_shareCounts)), (p1_shares, .inl (cI, 27, .inl vp1_shares))] s.heap := hP
  have hK : va_K (dC, dI) vwCl (zTy cI cJ cC) s := hK
  have hl := lv_entry ([.ref o, .ref p1, .int p2, .int p3]) (n := 4) (Nat.le_of_ble_eq_true rfl)
  rw [lg_entry_eq]
  generalize (lg_sl ([.ref o, .ref p1, .int p2, .int p3]) ++ List.replicate (4 - (lg_sl ([.ref o, .ref p1, .int p2, .int p3])).length) Slot.unset).toArray = ls at hl ⊢
  have hl : lv_has ls 4 [(0, .ref o), (1, .ref p1), (2, .int p2), (3, .int p3)] := hl
  refine zz_start hP hS (fun Q hQ H locs hP hS => ?_)
  have hwX0 : ∀ w ∈ u_ws RX0 TX0 2, w ∈ wsX0_addTo := by decide +kernel
  have hc_37 := (hts (.constantLong RX0 37 (5159780352)) (by decide +kernel))
  have hf_9 := (hts (.fieldLink RX0 9 "PouredTopmost$Fill" "inside" "[J") (by decide +kernel))
  refine lv_aload_n hx hb dX0_addTo_0 rfl (lv_at hl 1 rfl) ?_
  refine lv_iload_n hx hb dX0_addTo_1 rfl (lv_at hl 2 rfl) ?_
  obtain ⟨r1, ev_1⟩ : ∃ x0, (m_X3_has vp1_size p2) = x0 := ⟨_, rfl⟩
  replace hT := cut_n ev_1 hT
  refine zz_ci [2] [0, 1, 3, 4, 5, 6] (wr := [(o, .inr (0, [.ref o_inside, .long vo_spilt])), (o_inside, .inl (cJ, 9, .inr (.inl vo_inside))), (p1_kinds, .inl (cI, 9, .inl vp1_kinds)), (p1_takes, .inl (cI, 9, .inl vp1_takes)), (p1_shareCounts, .inl (cI, 9, .inl vp1_shareCounts)), (p1_shares, .inl (cI, 27, .inl vp1_shares))]) (w1 := [(p1, .inr (3, [.ref p1_kinds, .ref p1_holds, .ref p1_takes, .ref p1_shareCounts, .ref p1_shares, .int vp1_size]))]) (va_runV (As := [.int p2]) (rest := []) ⟨hx, hb, hml, hown, hts⟩ (k_X3_has l dC dI cI cJ cC H.size p1 p1_kinds p1_holds p1_takes p1_shareCounts p1_shares vp1_size p2 r1 ev_1) (cwV 1 hts gX0_addTo_X3_has rfl rfl rfl (by decide +kernel) ⟨Nat.le_of_ble_eq_true rfl, Nat.le_of_ble_eq_true rfl⟩) (zz_preV [2] hK hP hD rfl rfl (va_recv hK hP (ci := 3) (q0 := 2) rfl rfl)) rfl rfl hl.1 rfl (lv_room (Nat.le_of_ble_eq_true rfl)) dX0_addTo_2 ⟨Nat.zero_le _, Nat.zero_le _⟩) hP hD hS hA rfl rfl rfl (by decide) (fun ok_2 H locs hP hD hS => ?_)
  have hP : va_P (dC, dI) vwCl [(o, .inr (0, [.ref o_inside, .long vo_spilt])), (o_inside, .inl (cJ, 9, .inr (.inl vo_inside))), (p1_kinds, .inl (cI, 9, .inl vp1_kinds)), (p1_takes, .inl (cI, 9, .inl vp1_takes)), (p1_shareCounts, .inl (cI, 9, .inl vp1_shareCounts)), (p1_shares, .inl (cI, 27, .inl vp1_shares)), (p1, .inr (3, [.ref p1_kinds, .ref p1_holds, .ref p1_takes, .ref p1_shareCounts, .ref p1_shares, .int vp1_size]))] H := hP
  have hD : va_D A [(o, .inr (0, [.ref o_inside, .long vo_spilt])), (o_inside, .inl (cJ, 9, .inr (.inl vo_inside))), (p1_kinds, .inl (cI, 9, .inl vp1_kinds)), (p1_takes, .inl (cI, 9, .inl vp1_takes)), (p1_shareCounts, .inl (cI, 9, .inl vp1_shareCounts)), (p1_shares, .inl (cI, 27, .inl vp1_shares)), (p1, .inr (3, [.ref p1_kinds, .ref p1_holds, .ref p1_takes, .ref p1_shareCounts, .ref p1_shares, .int vp1_size]))] := hD
  obtain ⟨k_3, k_4⟩ := ok_2
  refine lv_if_eq (tgt := 28) hx hb dX0_addTo_5 (by decide) (fun c_5 => ?_) (fun c_5 => ?_)
  · replace hT := cutT c_5 hT
    have g_10 := zeqT (rfl : (r1).toInt = _) (by decide : ((0 : Int32)).toInt = 0) c_5
    have hP9 := hP
    have hD9 := hD
    have hS9 := hS
    have hT : (vo_spilt, vo_inside) = (qo_spilt, qo_inside) := hT
    cases hT
    subst hQ
    exact zz_vret hx hb hr [0, 1, 6, 2, 3, 4, 5] hK hP9 hD9 hS9 rfl rfl trivial hlocks dX0_addTo_28
  · replace hT := cutF c_5 hT
    have g_11 := zeqF (rfl : (r1).toInt = _) (by decide : ((0 : Int32)).toInt = 0) c_5
    refine lv_aload_n hx hb dX0_addTo_8 rfl (lv_at hl 0 rfl) ?_
    refine va_get (D := (dC, dI)) (ci := 0) (v := .ref o_inside) (C := RX0) (T := TX0) (N := 2) hx hb hts hwX0 hown hK hP 0 rfl rfl 0 (by decide) hf_9 (fun _ h9 => h9) rfl dX0_addTo_9 ?_
    refine lv_iload_n hx hb dX0_addTo_12 rfl (lv_at hl 2 rfl) ?_
    refine lv_dup2_11 hx hb dX0_addTo_13 rfl rfl ?_
    have h_6 : vp_in p2 9 := zin (by omega) (by omega)
    refine va_lald hx hb hK hP 1 1 rfl rfl h_6 dX0_addTo_14 ?_
    refine lv_iload_n hx hb dX0_addTo_15 rfl (lv_at hl 3 rfl) ?_
    refine lv_i2l (v := (p3.toInt64)) hx hb dX0_addTo_16 rfl ?_
    refine lv_ldc2 (v := (5159780352 : Int64)) hx hb hown hc_37 dX0_addTo_17 ?_
    refine lv_lmul hx hb dX0_addTo_20 ?_
    refine lv_ladd hx hb dX0_addTo_21 ?_
    have h_7 : vp_in p2 9 := zin (by omega) (by omega)
    refine va_last hx hb hK hP hD hS 1 1 rfl rfl h_7 dX0_addTo_22 (fun H locs hP hD hS => ?_)
    obtain ⟨a2, ea2⟩ : ∃ z, (vp_updL vo_inside p2.toNatClampNeg ((vo_inside p2.toNatClampNeg) + ((p3.toInt64) * (5159780352 : Int64)))) = z := ⟨_, rfl⟩
    replace hT := cut_n ea2 hT
    have hP : va_P (dC, dI) vwCl [(o, .inr (0, [.ref o_inside, .long vo_spilt])), (o_inside, .inl (cJ, 9, .inr (.inl a2))), (p1_kinds, .inl (cI, 9, .inl vp1_kinds)), (p1_takes, .inl (cI, 9, .inl vp1_takes)), (p1_shareCounts, .inl (cI, 9, .inl vp1_shareCounts)), (p1_shares, .inl (cI, 27, .inl vp1_shares)), (p1, .inr (3, [.ref p1_kinds, .ref p1_holds, .ref p1_takes, .ref p1_shareCounts, .ref p1_shares, .int vp1_size]))] H := by rw [← ea2]; exact hP
    have hD : va_D A [(o, .inr (0, [.ref o_inside, .long vo_spilt])), (o_inside, .inl (cJ, 9, .inr (.inl a2))), (p1_kinds, .inl (cI, 9, .inl vp1_kinds)), (p1_takes, .inl (cI, 9, .inl vp1_takes)), (p1_shareCounts, .inl (cI, 9, .inl vp1_shareCounts)), (p1_shares, .inl (cI, 27, .inl vp1_shares)), (p1, .inr (3, [.ref p1_kinds, .ref p1_holds, .ref p1_takes, .ref p1_shareCounts, .ref p1_shares, .int vp1_size]))] := by rw [← ea2]; exact hD
    refine lv_aload_n hx hb dX0_addTo_23 rfl (lv_at hl 0 rfl) ?_
    refine lv_aload_n hx hb dX0_addTo_24 rfl (lv_at hl 1 rfl) ?_
    obtain ⟨u3, u4, ev_8⟩ : ∃ x0 x1, (m_X0_runOver vo_spilt a2 vp1_size vp1_kinds vp1_takes vp1_shareCounts vp1_shares) = (x0, x1) := ⟨_, _, rfl⟩
    replace hT := cut2_n ev_8 hT
    refine zz_cv [0, 1, 6, 2, 3, 4, 5] [] (wr := []) (w1 := [(o, .inr (0, [.ref o_inside, .long u3])), (o_inside, .inl (cJ, 9, .inr (.inl u4))), (p1, .inr (3, [.ref p1_kinds, .ref p1_holds, .ref p1_takes, .ref p1_shareCounts, .ref p1_shares, .int vp1_size])), (p1_kinds, .inl (cI, 9, .inl vp1_kinds)), (p1_takes, .inl (cI, 9, .inl vp1_takes)), (p1_shareCounts, .inl (cI, 9, .inl vp1_shareCounts)), (p1_shares, .inl (cI, 27, .inl vp1_shares))]) (va_runV (As := [.ref p1]) (rest := []) ⟨hx, hb, hml, hown, hts⟩ (k_X0_runOver l dC dI cI cJ cC H.size o o_inside p1 p1_kinds p1_holds p1_takes p1_shareCounts p1_shares vo_spilt a2 vp1_size vp1_kinds vp1_takes vp1_shareCounts vp1_shares u3 u4 ev_8 ht0 ht9 htc) (cwV 1 hts gX0_addTo_X0_runOver rfl rfl rfl (by decide +kernel) ⟨Nat.le_of_ble_eq_true rfl, Nat.le_of_ble_eq_true rfl⟩) (zz_preV [0, 1, 6, 2, 3, 4, 5] hK hP hD rfl rfl (va_recv hK hP (ci := 0) (q0 := 0) rfl rfl)) rfl rfl hl.1 rfl (lv_room (Nat.le_of_ble_eq_true rfl)) dX0_addTo_25 ⟨Nat.zero_le _, Nat.zero_le _⟩) hP hD hS hA rfl rfl rfl (by decide) (fun ok_9 H locs hP hD hS => ?_)
    have hP : va_P (dC, dI) vwCl [(o, .inr (0, [.ref o_inside, .long u3])), (o_inside, .inl (cJ, 9, .inr (.inl u4))), (p1, .inr (3, [.ref p1_kinds, .ref p1_holds, .ref p1_takes, .ref p1_shareCounts, .ref p1_shares, .int vp1_size])), (p1_kinds, .inl (cI, 9, .inl vp1_kinds)), (p1_takes, .inl (cI, 9, .inl vp1_takes)), (p1_shareCounts, .inl (cI, 9, .inl vp1_shareCounts)), (p1_shares, .inl (cI, 27, .inl vp1_shares))] H := hP
    have hD : va_D A [(o, .inr (0, [.ref o_inside, .long u3])), (o_inside, .inl (cJ, 9, .inr (.inl u4))), (p1, .inr (3, [.ref p1_kinds, .ref p1_holds, .ref p1_takes, .ref p1_shareCounts, .ref p1_shares, .int vp1_size])), (p1_kinds, .inl (cI, 9, .inl vp1_kinds)), (p1_takes, .inl (cI, 9, .inl vp1_takes)), (p1_shareCounts, .inl (cI, 9, .inl vp1_shareCounts)), (p1_shares, .inl (cI, 27, .inl vp1_shares))] := hD
    have hP9 := hP
    have hD9 := hD
    have hS9 := hS
    have hT : (u3, u4) = (qo_spilt, qo_inside) := hT
    cases hT
    subst hQ
    exact zz_vret hx hb hr [0, 1, 2, 3, 4, 5, 6] hK hP9 hD9 hS9 rfl rfl trivial hlocks dX0_addTo_28

def m_X0_takeOut (vo_inside : Nat → Int64) (p1 : Int32) : Int64 × (Nat → Int64) :=
 if p1 < (0 : Int32) then
  ((0 : Int64), vo_inside)
 else
  if p1 < (9 : Int32) then
   cut (vo_inside p1.toNatClampNeg) (fun (v1 : Int64) =>
   cut (vp_updL vo_inside p1.toNatClampNeg (0 : Int64)) (fun (a2 : Nat → Int64) =>
   (v1, a2)))
  else
   ((0 : Int64), vo_inside)
set_option maxHeartbeats 4000000 in
set_option maxRecDepth 100000 in
theorem k_X0_takeOut (l : Launch) (dC : Nat → ClassId) (dI : Nat → Nat → Nat) (cI cJ cC : ClassId) (sz : Nat) (o o_inside : Nat) (vo_spilt : Int64) (vo_inside : Nat → Int64) (p1 : Int32) (r : Int64) (qo_inside : Nat → Int64) (hT : m_X0_takeOut vo_inside p1 = (r, qo_inside)) : Met l yX0_takeOut wsX0_takeOut ({ frames := 0, cells := 0, slots := 0, locals := 0 }) (zPc [.ref o, .int p1] (dC, dI) (zTy cI cJ cC) [(o, .inr (0, [.ref o_inside, .long vo_spilt])), (o_inside, .inl (cJ, 9, .inr (.inl vo_inside)))] sz) (zQl r (True) (dC, dI) (zTy cI cJ cC) [(o, .inr (0, [.ref o_inside, .long vo_spilt])), (o_inside, .inl (cJ, 9, .inr (.inl qo_inside)))] (va_A [(o, .inr (0, [.ref o_inside, .long vo_spilt])), (o_inside, .inl (cJ, 9, .inr (.inl vo_inside)))] sz)) 0 0 (va_A [(o, .inr (0, [.ref o_inside, .long vo_spilt])), (o_inside, .inl (cJ, 9, .inr (.inl vo_inside)))] sz) := by
  refine Met.ofW (cc := cX0_takeOut) (maxL := 4) (ret := (some .long)) (by decide) rfl ?_
  intro p e s m args below meth c s₁ B hml hv
  obtain ⟨rfl, hsz, hP, hK, hD0⟩ := hv
  have hx := B.exec
  have hb := B.bytes
  have hr := B.returns
  have hts := atoms_spec (ws := wsX0_takeOut) B.pre
  have hown : s.vm.findClass RX0 = some m.cls := findClass_of_methodNamed B.named
  have hlocks := B.notSynchronized
  subst hsz
  have hD := hD0.self (sz := s.heap.size)
  generalize hAe : va_A [(o, .inr (0, [.ref o_inside, .long vo_spilt])), (o_inside, .inl (cJ, 9, .inr (.inl vo_inside)))] s.heap.size = A at hD ⊢
  have hA : ∀ q : Nat, s.heap.size ≤ q → A q := fun q h => by rw [← hAe]; exact Or.inr h
  have hS : va_S A s.heap s.heap [] := va_S.rf
  have hP : va_P (dC, dI) vwCl [(o, .inr (0, [.ref o_inside, .long vo_spilt])), (o_inside, .inl (cJ, 9, .inr (.inl vo_inside)))] s.heap := hP
  have hK : va_K (dC, dI) vwCl (zTy cI cJ cC) s := hK
  have hl := lv_entry ([.ref o, .int p1]) (n := 4) (Nat.le_of_ble_eq_true rfl)
  rw [lg_entry_eq]
  generalize (lg_sl ([.ref o, .int p1]) ++ List.replicate (4 - (lg_sl ([.ref o, .int p1])).length) Slot.unset).toArray = ls at hl ⊢
  have hl : lv_has ls 4 [(0, .ref o), (1, .int p1)] := hl
  refine zz_start hP hS (fun Q hQ H locs hP hS => ?_)
  have hwX0 : ∀ w ∈ u_ws RX0 TX0 2, w ∈ wsX0_takeOut := by decide +kernel
  have hf_9 := (hts (.fieldLink RX0 9 "PouredTopmost$Fill" "inside" "[J") (by decide +kernel))
  refine lv_iload_n hx hb dX0_takeOut_0 rfl (lv_at hl 1 rfl) ?_
  refine lv_if_lt (tgt := 13) hx hb dX0_takeOut_1 (by decide) (fun c_1 => ?_) (fun c_1 => ?_)
  · replace hT := cutT c_1 hT
    have g_5 := zltT (rfl : (p1).toInt = _) (by decide : ((0 : Int32)).toInt = 0) c_1
    refine lv_lconst (v := (0 : Int64)) hx hb dX0_takeOut_13 (by decide) ?_
    have hP9 := hP
    have hD9 := hD
    have hS9 := hS
    have hT : ((0 : Int64), vo_inside) = (r, qo_inside) := hT
    cases hT
    subst hQ
    exact zz_lret hx hb hr [0, 1] hK hP9 hD9 hS9 rfl rfl trivial hlocks dX0_takeOut_14
  · replace hT := cutF c_1 hT
    have g_6 := zltF (rfl : (p1).toInt = _) (by decide : ((0 : Int32)).toInt = 0) c_1
    refine lv_iload_n hx hb dX0_takeOut_4 rfl (lv_at hl 1 rfl) ?_
    refine lv_aload_n hx hb dX0_takeOut_5 rfl (lv_at hl 0 rfl) ?_
    refine va_get (D := (dC, dI)) (ci := 0) (v := .ref o_inside) (C := RX0) (T := TX0) (N := 2) hx hb hts hwX0 hown hK hP 0 rfl rfl 0 (by decide) hf_9 (fun _ h9 => h9) rfl dX0_takeOut_6 ?_
    refine va_alen (v := (9 : Int32)) hx hb hK hP 1 1 rfl rfl rfl dX0_takeOut_9 ?_
    refine lv_icmp_lt (tgt := 15) hx hb dX0_takeOut_10 (by decide) (fun c_2 => ?_) (fun c_2 => ?_)
    · replace hT := cutT c_2 hT
      have g_7 := zltT (rfl : (p1).toInt = _) (by decide : ((9 : Int32)).toInt = 9) c_2
      refine lv_aload_n hx hb dX0_takeOut_15 rfl (lv_at hl 0 rfl) ?_
      refine va_get (D := (dC, dI)) (ci := 0) (v := .ref o_inside) (C := RX0) (T := TX0) (N := 2) hx hb hts hwX0 hown hK hP 0 rfl rfl 0 (by decide) hf_9 (fun _ h9 => h9) rfl dX0_takeOut_16 ?_
      refine lv_iload_n hx hb dX0_takeOut_19 rfl (lv_at hl 1 rfl) ?_
      have h_3 : vp_in p1 9 := zin (by omega) (by omega)
      refine va_lald hx hb hK hP 1 1 rfl rfl h_3 dX0_takeOut_20 ?_
      refine lv_topl (fun v1 ev1 => ?_)
      replace hT := cut_n ev1.symm hT
      refine lv_lstore_n (lv' := [(2, .long v1), (0, .ref o), (1, .int p1)]) hx hb dX0_takeOut_21 rfl hl (by decide) rfl (fun ls hl => ?_)
      refine lv_aload_n hx hb dX0_takeOut_22 rfl (lv_at hl 1 rfl) ?_
      refine va_get (D := (dC, dI)) (ci := 0) (v := .ref o_inside) (C := RX0) (T := TX0) (N := 2) hx hb hts hwX0 hown hK hP 0 rfl rfl 0 (by decide) hf_9 (fun _ h9 => h9) rfl dX0_takeOut_23 ?_
      refine lv_iload_n hx hb dX0_takeOut_26 rfl (lv_at hl 2 rfl) ?_
      refine lv_lconst (v := (0 : Int64)) hx hb dX0_takeOut_27 (by decide) ?_
      have h_4 : vp_in p1 9 := zin (by omega) (by omega)
      refine va_last hx hb hK hP hD hS 1 1 rfl rfl h_4 dX0_takeOut_28 (fun H locs hP hD hS => ?_)
      obtain ⟨a2, ea2⟩ : ∃ z, (vp_updL vo_inside p1.toNatClampNeg (0 : Int64)) = z := ⟨_, rfl⟩
      replace hT := cut_n ea2 hT
      have hP : va_P (dC, dI) vwCl [(o, .inr (0, [.ref o_inside, .long vo_spilt])), (o_inside, .inl (cJ, 9, .inr (.inl a2)))] H := by rw [← ea2]; exact hP
      have hD : va_D A [(o, .inr (0, [.ref o_inside, .long vo_spilt])), (o_inside, .inl (cJ, 9, .inr (.inl a2)))] := by rw [← ea2]; exact hD
      refine lv_lload_n hx hb dX0_takeOut_29 rfl (lv_at hl 0 rfl) ?_
      have hP9 := hP
      have hD9 := hD
      have hS9 := hS
      have hT : (v1, a2) = (r, qo_inside) := hT
      cases hT
      subst hQ
      exact zz_lret hx hb hr [0, 1] hK hP9 hD9 hS9 rfl rfl trivial hlocks dX0_takeOut_30
    · replace hT := cutF c_2 hT
      have g_8 := zltF (rfl : (p1).toInt = _) (by decide : ((9 : Int32)).toInt = 9) c_2
      refine lv_lconst (v := (0 : Int64)) hx hb dX0_takeOut_13 (by decide) ?_
      have hP9 := hP
      have hD9 := hD
      have hS9 := hS
      have hT : ((0 : Int64), vo_inside) = (r, qo_inside) := hT
      cases hT
      subst hQ
      exact zz_lret hx hb hr [0, 1] hK hP9 hD9 hS9 rfl rfl trivial hlocks dX0_takeOut_14

def rs_X0_together_2  (x3 : Int32) (x4 : Int64) : Int64 :=
 x4
def lp_X0_together_2 (ct2 : Int32 → Int64 → (Int64)) (vo_inside : Nat → Int64) : Nat → Int32 → Int64 → (Int64)
  | 0, _, _ => default
  | k + 1, b1, b2 =>
  if (9 : Int32) ≤ b1 then
   (ct2 b1 b2)
  else
   cut (vo_inside b1.toNatClampNeg) (fun (v5 : Int64) =>
   cut (b2 + v5) (fun (v6 : Int64) =>
   cut (b1 + (1 : Int32)) (fun (v7 : Int32) =>
   (lp_X0_together_2 ct2 vo_inside k v7 v6))))
def m_X0_together (vo_inside : Nat → Int64) : Int64 :=
 (lp_X0_together_2 rs_X0_together_2 vo_inside 11 (0 : Int32) (0 : Int64))
set_option maxHeartbeats 4000000 in
set_option maxRecDepth 100000 in
theorem k_X0_together (l : Launch) (dC : Nat → ClassId) (dI : Nat → Nat → Nat) (cI cJ cC : ClassId) (sz : Nat) (o o_inside : Nat) (vo_spilt : Int64) (vo_inside : Nat → Int64) (r : Int64) (hT : m_X0_together vo_inside = r) : Met l yX0_together wsX0_together ({ frames := 0, cells := 0, slots := 0, locals := 0 }) (zPc [.ref o] (dC, dI) (zTy cI cJ cC) [(o, .inr (0, [.ref o_inside, .long vo_spilt])), (o_inside, .inl (cJ, 9, .inr (.inl vo_inside)))] sz) (zQl r (True) (dC, dI) (zTy cI cJ cC) [(o, .inr (0, [.ref o_inside, .long vo_spilt])), (o_inside, .inl (cJ, 9, .inr (.inl vo_inside)))] (va_A [(o, .inr (0, [.ref o_inside, .long vo_spilt])), (o_inside, .inl (cJ, 9, .inr (.inl vo_inside)))] sz)) 0 0 (va_A [(o, .inr (0, [.ref o_inside, .long vo_spilt])), (o_inside, .inl (cJ, 9, .inr (.inl vo_inside)))] sz) := by
  refine Met.ofW (cc := cX0_together) (maxL := 8) (ret := (some .long)) (by decide) rfl ?_
  intro p e s m args below meth c s₁ B hml hv
  obtain ⟨rfl, hsz, hP, hK, hD0⟩ := hv
  have hx := B.exec
  have hb := B.bytes
  have hr := B.returns
  have hts := atoms_spec (ws := wsX0_together) B.pre
  have hown : s.vm.findClass RX0 = some m.cls := findClass_of_methodNamed B.named
  have hlocks := B.notSynchronized
  subst hsz
  have hD := hD0.self (sz := s.heap.size)
  generalize hAe : va_A [(o, .inr (0, [.ref o_inside, .long vo_spilt])), (o_inside, .inl (cJ, 9, .inr (.inl vo_inside)))] s.heap.size = A at hD ⊢
  have hA : ∀ q : Nat, s.heap.size ≤ q → A q := fun q h => by rw [← hAe]; exact Or.inr h
  have hS : va_S A s.heap s.heap [] := va_S.rf
  have hP : va_P (dC, dI) vwCl [(o, .inr (0, [.ref o_inside, .long vo_spilt])), (o_inside, .inl (cJ, 9, .inr (.inl vo_inside)))] s.heap := hP
  have hK : va_K (dC, dI) vwCl (zTy cI cJ cC) s := hK
  have hl := lv_entry ([.ref o]) (n := 8) (Nat.le_of_ble_eq_true rfl)
  rw [lg_entry_eq]
  generalize (lg_sl ([.ref o]) ++ List.replicate (8 - (lg_sl ([.ref o])).length) Slot.unset).toArray = ls at hl ⊢
  have hl : lv_has ls 8 [(0, .ref o)] := hl
  refine zz_start hP hS (fun Q hQ H locs hP hS => ?_)
  have hwX0 : ∀ w ∈ u_ws RX0 TX0 2, w ∈ wsX0_together := by decide +kernel
  have hf_9 := (hts (.fieldLink RX0 9 "PouredTopmost$Fill" "inside" "[J") (by decide +kernel))
  refine lv_lconst (v := (0 : Int64)) hx hb dX0_together_0 (by decide) ?_
  refine lv_lstore_n (lv' := [(1, .long (0 : Int64)), (0, .ref o)]) hx hb dX0_together_1 rfl hl (by decide) rfl (fun ls hl => ?_)
  refine lv_aload_n hx hb dX0_together_2 rfl (lv_at hl 1 rfl) ?_
  refine va_get (D := (dC, dI)) (ci := 0) (v := .ref o_inside) (C := RX0) (T := TX0) (N := 2) hx hb hts hwX0 hown hK hP 0 rfl rfl 0 (by decide) hf_9 (fun _ h9 => h9) rfl dX0_together_3 ?_
  refine lv_astore_n (lv' := [(3, .ref o_inside), (1, .long (0 : Int64)), (0, .ref o)]) hx hb dX0_together_6 rfl hl (by decide) rfl (fun ls hl => ?_)
  refine lv_aload_n hx hb dX0_together_7 rfl (lv_at hl 0 rfl) ?_
  refine va_alen (v := (9 : Int32)) hx hb hK hP 1 1 rfl rfl rfl dX0_together_8 ?_
  refine lv_istore (lv' := [(4, .int (9 : Int32)), (3, .ref o_inside), (1, .long (0 : Int64)), (0, .ref o)]) hx hb dX0_together_9 hl (by decide) rfl (fun ls hl => ?_)
  refine lv_iconst (v := (0 : Int32)) hx hb dX0_together_11 (by decide) ?_
  refine lv_istore (lv' := [(5, .int (0 : Int32)), (4, .int (9 : Int32)), (3, .ref o_inside), (1, .long (0 : Int64)), (0, .ref o)]) hx hb dX0_together_12 hl (by decide) rfl (fun ls hl => ?_)
  have hz_3 : ((0 : Int32)).toInt = 0 := by decide
  refine zz_loop (α := Int32 × Int64) 38 (fun k a H locs ls => (0 ≤ a.1.toInt) ∧ (a.1.toInt ≤ 9) ∧ (9 - a.1.toInt < ((k : Nat) : Int)) ∧ lp_X0_together_2 rs_X0_together_2 vo_inside k a.1 a.2 = r ∧ va_P (dC, dI) vwCl [(o, .inr (0, [.ref o_inside, .long vo_spilt])), (o_inside, .inl (cJ, 9, .inr (.inl vo_inside)))] H ∧ va_D A [(o, .inr (0, [.ref o_inside, .long vo_spilt])), (o_inside, .inl (cJ, 9, .inr (.inl vo_inside)))] ∧ va_S A s.heap H locs ∧ lv_has ls 8 [(5, .int a.1), (4, .int (9 : Int32)), (3, .ref o_inside), (1, .long a.2)]) (fun a H locs ls => (0 ≤ a.1.toInt) ∧ (a.1.toInt ≤ 9) ∧ rs_X0_together_2 a.1 a.2 = r ∧ va_P (dC, dI) vwCl [(o, .inr (0, [.ref o_inside, .long vo_spilt])), (o_inside, .inl (cJ, 9, .inr (.inl vo_inside)))] H ∧ va_D A [(o, .inr (0, [.ref o_inside, .long vo_spilt])), (o_inside, .inl (cJ, 9, .inr (.inl vo_inside)))] ∧ va_S A s.heap H locs ∧ lv_has ls 8 [(1, .long a.2)]) ?_ ?_ ?_ 11 ((0 : Int32), (0 : Int64)) ⟨(by omega : 0 ≤ (0 : Int32).toInt), (by omega : (0 : Int32).toInt ≤ 9), (by omega : 9 - (0 : Int32).toInt < ((11 : Nat) : Int)), hT, hP.sub [0, 1] rfl, hD.sub [0, 1] rfl rfl, hS, lv_sub hl [0, 1, 2, 3] rfl⟩
  · rintro ⟨x3, x4⟩ H locs ls ⟨i1, j1, hT, hP, hD, hS, hl⟩
    have hP : va_P (dC, dI) vwCl [(o, .inr (0, [.ref o_inside, .long vo_spilt])), (o_inside, .inl (cJ, 9, .inr (.inl vo_inside)))] H := hP
    have hD : va_D A [(o, .inr (0, [.ref o_inside, .long vo_spilt])), (o_inside, .inl (cJ, 9, .inr (.inl vo_inside)))] := hD
    have hl : lv_has ls 8 [(1, .long x4)] := hl
    have hT : rs_X0_together_2 x3 x4 = r := hT
    have i1 : 0 ≤ x3.toInt := i1
    have j1 : x3.toInt ≤ 9 := j1
    refine lv_lload_n hx hb dX0_together_38 rfl (lv_at hl 0 rfl) ?_
    have hP9 := hP
    have hD9 := hD
    have hS9 := hS
    have hT : x4 = r := hT
    subst hT
    subst hQ
    exact zz_lret hx hb hr [0, 1] hK hP9 hD9 hS9 rfl rfl trivial hlocks dX0_together_39
  · rintro ⟨b1, b2⟩ H locs ls ⟨i1, j1, hm, -⟩
    try dsimp only at *
    omega
  · intro k2 hex2 ih2
    rintro ⟨b1, b2⟩ H locs ls ⟨i1, j1, hm2, hT, hP, hD, hS, hl⟩
    have hP : va_P (dC, dI) vwCl [(o, .inr (0, [.ref o_inside, .long vo_spilt])), (o_inside, .inl (cJ, 9, .inr (.inl vo_inside)))] H := hP
    have hD : va_D A [(o, .inr (0, [.ref o_inside, .long vo_spilt])), (o_inside, .inl (cJ, 9, .inr (.inl vo_inside)))] := hD
    have hl : lv_has ls 8 [(5, .int b1), (4, .int (9 : Int32)), (3, .ref o_inside), (1, .long b2)] := hl
    have hT : lp_X0_together_2 rs_X0_together_2 vo_inside (k2 + 1) b1 b2 = r := hT
    have i1 : 0 ≤ b1.toInt := i1
    have j1 : b1.toInt ≤ 9 := j1
    have hm2 : 9 - b1.toInt < (((k2 + 1) : Nat) : Int) := hm2
    try simp only [Int.natCast_add, Int.natCast_one, Nat.cast_add, Nat.cast_one] at hm2
    refine lv_iload hx hb dX0_together_14 (lv_at hl 0 rfl) ?_
    refine lv_iload hx hb dX0_together_16 (lv_at hl 1 rfl) ?_
    refine lv_icmp_ge (tgt := 38) hx hb dX0_together_18 (by decide) (fun c_1 => ?_) (fun c_1 => ?_)
    · replace hT := cutT c_1 hT
      have g_4 := zleT (by decide : ((9 : Int32)).toInt = 9) (rfl : (b1).toInt = _) c_1
      exact hex2 (b1, b2) _ _ _ ⟨(by omega : 0 ≤ b1.toInt), (by omega : b1.toInt ≤ 9), hT, hP.sub [0, 1] rfl, hD.sub [0, 1] rfl rfl, hS, lv_sub hl [3] rfl⟩
    · replace hT := cutF c_1 hT
      have g_5 := zleF (by decide : ((9 : Int32)).toInt = 9) (rfl : (b1).toInt = _) c_1
      refine lv_aload_n hx hb dX0_together_21 rfl (lv_at hl 2 rfl) ?_
      refine lv_iload hx hb dX0_together_22 (lv_at hl 0 rfl) ?_
      have h_2 : vp_in b1 9 := zin (by omega) (by omega)
      refine va_lald hx hb hK hP 1 1 rfl rfl h_2 dX0_together_24 ?_
      refine lv_topl (fun v5 ev5 => ?_)
      replace hT := cut_n ev5.symm hT
      refine lv_lstore (lv' := [(6, .long v5), (5, .int b1), (4, .int (9 : Int32)), (3, .ref o_inside), (1, .long b2)]) hx hb dX0_together_25 hl (by decide) rfl (fun ls hl => ?_)
      refine lv_lload_n hx hb dX0_together_27 rfl (lv_at hl 4 rfl) ?_
      refine lv_lload hx hb dX0_together_28 (lv_at hl 0 rfl) ?_
      refine lv_ladd hx hb dX0_together_30 ?_
      refine lv_topl (fun v6 ev6 => ?_)
      replace hT := cut_n ev6.symm hT
      refine lv_lstore_n (lv' := [(1, .long v6), (6, .long v5), (5, .int b1), (4, .int (9 : Int32)), (3, .ref o_inside)]) hx hb dX0_together_31 rfl hl (by decide) rfl (fun ls hl => ?_)
      obtain ⟨v7, ev7⟩ : ∃ y : Int32, (b1 + (1 : Int32)) = y := ⟨_, rfl⟩
      replace hT := cut_n ev7 hT
      try have fv7 := zaddE (rfl : (b1).toInt = _) (by decide : ((1 : Int32)).toInt = 1) ev7 (by omega) (by omega)
      refine lv_iinc (v := v7) (lv' := [(5, .int v7), (1, .long v6), (6, .long v5), (4, .int (9 : Int32)), (3, .ref o_inside)]) hx hb dX0_together_32 hl (k := 2) rfl (by rw [← ev7]; rfl) (by decide) rfl (fun ls hl => ?_)
      refine lv_goto (tgt := 14) hx hb dX0_together_35 (by decide) ?_
      exact ih2 (v7, v6) _ _ _ ⟨(by omega : 0 ≤ v7.toInt), (by omega : v7.toInt ≤ 9), (by omega : 9 - v7.toInt < ((k2 : Nat) : Int)), hT, hP.sub [0, 1] rfl, hD.sub [0, 1] rfl rfl, hS, lv_sub hl [0, 3, 4, 1] rfl⟩

def m_X0_isFull (vo_inside : Nat → Int64) (vp1_size : Int32) (vp1_takes : Nat → Int32) (p2 : Int32) : Int32 :=
 cut (m_X3_has vp1_size p2) (fun (r1 : Int32) =>
 if r1 = (0 : Int32) then
  (0 : Int32)
 else
  if (lg_cmp (vo_inside p2.toNatClampNeg) (((vp1_takes p2.toNatClampNeg).toInt64) * (5159780352 : Int64))) = (0 : Int32) then
   (1 : Int32)
  else
   (0 : Int32))
set_option maxHeartbeats 4000000 in
set_option maxRecDepth 100000 in
theorem k_X0_isFull (l : Launch) (dC : Nat → ClassId) (dI : Nat → Nat → Nat) (cI cJ cC : ClassId) (sz : Nat) (o o_inside p1 p1_kinds p1_holds p1_takes p1_shareCounts p1_shares : Nat) (vo_spilt : Int64) (vo_inside : Nat → Int64) (vp1_size : Int32) (vp1_takes : Nat → Int32) (p2 : Int32) (r : Int32) (hT : m_X0_isFull vo_inside vp1_size vp1_takes p2 = r) (ht9 : vp1_size.toInt ≤ 9) : Met l yX0_isFull wsX0_isFull ({ frames := 1, cells := 0, slots := 0, locals := 21 }) (zPc [.ref o, .ref p1, .int p2] (dC, dI) (zTy cI cJ cC) [(o, .inr (0, [.ref o_inside, .long vo_spilt])), (o_inside, .inl (cJ, 9, .inr (.inl vo_inside))), (p1, .inr (3, [.ref p1_kinds, .ref p1_holds, .ref p1_takes, .ref p1_shareCounts, .ref p1_shares, .int vp1_size])), (p1_takes, .inl (cI, 9, .inl vp1_takes))] sz) (zQi r ((zB01 r)) (dC, dI) (zTy cI cJ cC) [(o, .inr (0, [.ref o_inside, .long vo_spilt])), (o_inside, .inl (cJ, 9, .inr (.inl vo_inside))), (p1, .inr (3, [.ref p1_kinds, .ref p1_holds, .ref p1_takes, .ref p1_shareCounts, .ref p1_shares, .int vp1_size])), (p1_takes, .inl (cI, 9, .inl vp1_takes))] (va_A [(o, .inr (0, [.ref o_inside, .long vo_spilt])), (o_inside, .inl (cJ, 9, .inr (.inl vo_inside))), (p1, .inr (3, [.ref p1_kinds, .ref p1_holds, .ref p1_takes, .ref p1_shareCounts, .ref p1_shares, .int vp1_size])), (p1_takes, .inl (cI, 9, .inl vp1_takes))] sz)) 0 0 (va_A [(o, .inr (0, [.ref o_inside, .long vo_spilt])), (o_inside, .inl (cJ, 9, .inr (.inl vo_inside))), (p1, .inr (3, [.ref p1_kinds, .ref p1_holds, .ref p1_takes, .ref p1_shareCounts, .ref p1_shares, .int vp1_size])), (p1_takes, .inl (cI, 9, .inl vp1_takes))] sz) := by
  refine Met.ofW (cc := cX0_isFull) (maxL := 3) (ret := (some .boolean)) (by decide) rfl ?_
  intro p e s m args below meth c s₁ B hml hv
  obtain ⟨rfl, hsz, hP, hK, hD0⟩ := hv
  have hx := B.exec
  have hb := B.bytes
  have hr := B.returns
  have hts := atoms_spec (ws := wsX0_isFull) B.pre
  have hown : s.vm.findClass RX0 = some m.cls := findClass_of_methodNamed B.named
  have hlocks := B.notSynchronized
  subst hsz
  have hD := hD0.self (sz := s.heap.size)
  generalize hAe : va_A [(o, .inr (0, [.ref o_inside, .long vo_spilt])), (o_inside, .inl (cJ, 9, .inr (.inl vo_inside))), (p1, .inr (3, [.ref p1_kinds, .ref p1_holds, .ref p1_takes, .ref p1_shareCounts, .ref p1_shares, .int vp1_size])), (p1_takes, .inl (cI, 9, .inl vp1_takes))] s.heap.size = A at hD ⊢
  have hA : ∀ q : Nat, s.heap.size ≤ q → A q := fun q h => by rw [← hAe]; exact Or.inr h
  have hS : va_S A s.heap s.heap [] := va_S.rf
  have hP : va_P (dC, dI) vwCl [(o, .inr (0, [.ref o_inside, .long vo_spilt])), (o_inside, .inl (cJ, 9, .inr (.inl vo_inside))), (p1, .inr (3, [.ref p1_kinds, .ref p1_holds, .ref p1_takes, .ref p1_shareCounts, .ref p1_shares, .int vp1_size])), (p1_takes, .inl (cI, 9, .inl vp1_takes))] s.heap := hP
  have hK : va_K (dC, dI) vwCl (zTy cI cJ cC) s := hK
  have hl := lv_entry ([.ref o, .ref p1, .int p2]) (n := 3) (Nat.le_of_ble_eq_true rfl)
  rw [lg_entry_eq]
  generalize (lg_sl ([.ref o, .ref p1, .int p2]) ++ List.replicate (3 - (lg_sl ([.ref o, .ref p1, .int p2])).length) Slot.unset).toArray = ls at hl ⊢
  have hl : lv_has ls 3 [(0, .ref o), (1, .ref p1), (2, .int p2)] := hl
  refine zz_start hP hS (fun Q hQ H locs hP hS => ?_)
  have hwX0 : ∀ w ∈ u_ws RX0 TX0 2, w ∈ wsX0_isFull := by decide +kernel
  have hwX3 : ∀ w ∈ u_ws RX3 TX3 6, w ∈ wsX0_isFull := by decide +kernel
  have hc_37 := (hts (.constantLong RX0 37 (5159780352)) (by decide +kernel))
  have hf_47 := (hts (.fieldLink RX0 47 "PouredTopmost$Stand" "takes" "[I") (by decide +kernel))
  have hf_9 := (hts (.fieldLink RX0 9 "PouredTopmost$Fill" "inside" "[J") (by decide +kernel))
  refine lv_aload_n hx hb dX0_isFull_0 rfl (lv_at hl 1 rfl) ?_
  refine lv_iload_n hx hb dX0_isFull_1 rfl (lv_at hl 2 rfl) ?_
  obtain ⟨r1, ev_1⟩ : ∃ x0, (m_X3_has vp1_size p2) = x0 := ⟨_, rfl⟩
  replace hT := cut_n ev_1 hT
  refine zz_ci [2] [0, 1, 3] (wr := [(o, .inr (0, [.ref o_inside, .long vo_spilt])), (o_inside, .inl (cJ, 9, .inr (.inl vo_inside))), (p1_takes, .inl (cI, 9, .inl vp1_takes))]) (w1 := [(p1, .inr (3, [.ref p1_kinds, .ref p1_holds, .ref p1_takes, .ref p1_shareCounts, .ref p1_shares, .int vp1_size]))]) (va_runV (As := [.int p2]) (rest := []) ⟨hx, hb, hml, hown, hts⟩ (k_X3_has l dC dI cI cJ cC H.size p1 p1_kinds p1_holds p1_takes p1_shareCounts p1_shares vp1_size p2 r1 ev_1) (cwV 1 hts gX0_isFull_X3_has rfl rfl rfl (by decide +kernel) ⟨Nat.le_of_ble_eq_true rfl, Nat.le_of_ble_eq_true rfl⟩) (zz_preV [2] hK hP hD rfl rfl (va_recv hK hP (ci := 3) (q0 := 2) rfl rfl)) rfl rfl hl.1 rfl (lv_room (Nat.le_of_ble_eq_true rfl)) dX0_isFull_2 ⟨Nat.zero_le _, Nat.zero_le _⟩) hP hD hS hA rfl rfl rfl (by decide) (fun ok_2 H locs hP hD hS => ?_)
  have hP : va_P (dC, dI) vwCl [(o, .inr (0, [.ref o_inside, .long vo_spilt])), (o_inside, .inl (cJ, 9, .inr (.inl vo_inside))), (p1_takes, .inl (cI, 9, .inl vp1_takes)), (p1, .inr (3, [.ref p1_kinds, .ref p1_holds, .ref p1_takes, .ref p1_shareCounts, .ref p1_shares, .int vp1_size]))] H := hP
  have hD : va_D A [(o, .inr (0, [.ref o_inside, .long vo_spilt])), (o_inside, .inl (cJ, 9, .inr (.inl vo_inside))), (p1_takes, .inl (cI, 9, .inl vp1_takes)), (p1, .inr (3, [.ref p1_kinds, .ref p1_holds, .ref p1_takes, .ref p1_shareCounts, .ref p1_shares, .int vp1_size]))] := hD
  obtain ⟨k_3, k_4⟩ := ok_2
  refine lv_if_eq (tgt := 33) hx hb dX0_isFull_5 (by decide) (fun c_5 => ?_) (fun c_5 => ?_)
  · replace hT := cutT c_5 hT
    have g_9 := zeqT (rfl : (r1).toInt = _) (by decide : ((0 : Int32)).toInt = 0) c_5
    refine lv_iconst (v := (0 : Int32)) hx hb dX0_isFull_33 (by decide) ?_
    have hP9 := hP
    have hD9 := hD
    have hS9 := hS
    have hT : (0 : Int32) = r := hT
    subst hT
    subst hQ
    exact zz_zret hx hb hr rfl [0, 1, 3, 2] hK hP9 hD9 hS9 rfl rfl (Or.inl rfl) hlocks dX0_isFull_34
  · replace hT := cutF c_5 hT
    have g_10 := zeqF (rfl : (r1).toInt = _) (by decide : ((0 : Int32)).toInt = 0) c_5
    refine lv_aload_n hx hb dX0_isFull_8 rfl (lv_at hl 0 rfl) ?_
    refine va_get (D := (dC, dI)) (ci := 0) (v := .ref o_inside) (C := RX0) (T := TX0) (N := 2) hx hb hts hwX0 hown hK hP 0 rfl rfl 0 (by decide) hf_9 (fun _ h9 => h9) rfl dX0_isFull_9 ?_
    refine lv_iload_n hx hb dX0_isFull_12 rfl (lv_at hl 2 rfl) ?_
    have h_6 : vp_in p2 9 := zin (by omega) (by omega)
    refine va_lald hx hb hK hP 1 1 rfl rfl h_6 dX0_isFull_13 ?_
    refine lv_aload_n hx hb dX0_isFull_14 rfl (lv_at hl 1 rfl) ?_
    refine va_get (D := (dC, dI)) (ci := 3) (v := .ref p1_takes) (C := RX3) (T := TX3) (N := 6) hx hb hts hwX3 hown hK hP 3 rfl rfl 2 (by decide) hf_47 (fun _ h9 => h9) rfl dX0_isFull_15 ?_
    refine lv_iload_n hx hb dX0_isFull_18 rfl (lv_at hl 2 rfl) ?_
    have h_7 : vp_in p2 9 := zin (by omega) (by omega)
    refine va_iald hx hb hK hP 2 0 rfl rfl h_7 dX0_isFull_19 ?_
    refine lv_i2l (v := ((vp1_takes p2.toNatClampNeg).toInt64)) hx hb dX0_isFull_20 rfl ?_
    refine lv_ldc2 (v := (5159780352 : Int64)) hx hb hown hc_37 dX0_isFull_21 ?_
    refine lv_lmul hx hb dX0_isFull_24 ?_
    refine W.lcmp hx hb dX0_isFull_25 ?_
    refine lv_if_ne (tgt := 33) hx hb dX0_isFull_26 (by decide) (fun c_8 => ?_) (fun c_8 => ?_)
    · replace hT := cutF c_8 hT
      have g_11 := mt zlc_eq.mpr c_8
      refine lv_iconst (v := (0 : Int32)) hx hb dX0_isFull_33 (by decide) ?_
      have hP9 := hP
      have hD9 := hD
      have hS9 := hS
      have hT : (0 : Int32) = r := hT
      subst hT
      subst hQ
      exact zz_zret hx hb hr rfl [0, 1, 3, 2] hK hP9 hD9 hS9 rfl rfl (Or.inl rfl) hlocks dX0_isFull_34
    · replace hT := cutT c_8 hT
      have g_12 := zlc_eq.mp c_8
      refine lv_iconst (v := (1 : Int32)) hx hb dX0_isFull_29 (by decide) ?_
      refine lv_goto (tgt := 34) hx hb dX0_isFull_30 (by decide) ?_
      have hP9 := hP
      have hD9 := hD
      have hS9 := hS
      have hT : (1 : Int32) = r := hT
      subst hT
      subst hQ
      exact zz_zret hx hb hr rfl [0, 1, 3, 2] hK hP9 hD9 hS9 rfl rfl (Or.inr rfl) hlocks dX0_isFull_34

def rs_X0_areFull_2  (x2 : Int32) : Int32 :=
 (1 : Int32)
def lp_X0_areFull_2 (vp1_size : Int32) (ct2 : Int32 → (Int32)) (p2 : Int32) (vo_inside : Nat → Int64) (vp1_takes : Nat → Int32) : Nat → Int32 → (Int32)
  | 0, _ => default
  | k + 1, b1 =>
  if vp1_size ≤ b1 then
   (ct2 b1)
  else
   if ((p2 >>> (b1 &&& 31)) &&& (1 : Int32)) = (1 : Int32) then
    cut (m_X0_isFull vo_inside vp1_size vp1_takes b1) (fun (r4 : Int32) =>
    if r4 = (0 : Int32) then
     (0 : Int32)
    else
     cut (b1 + (1 : Int32)) (fun (v5 : Int32) =>
     (lp_X0_areFull_2 vp1_size ct2 p2 vo_inside vp1_takes k v5)))
   else
    cut (b1 + (1 : Int32)) (fun (v3 : Int32) =>
    (lp_X0_areFull_2 vp1_size ct2 p2 vo_inside vp1_takes k v3))
def m_X0_areFull (vo_inside : Nat → Int64) (vp1_size : Int32) (vp1_takes : Nat → Int32) (p2 : Int32) : Int32 :=
 (lp_X0_areFull_2 vp1_size rs_X0_areFull_2 p2 vo_inside vp1_takes 11 (0 : Int32))
set_option maxHeartbeats 4000000 in
set_option maxRecDepth 100000 in
theorem k_X0_areFull (l : Launch) (dC : Nat → ClassId) (dI : Nat → Nat → Nat) (cI cJ cC : ClassId) (sz : Nat) (o o_inside p1 p1_kinds p1_holds p1_takes p1_shareCounts p1_shares : Nat) (vo_spilt : Int64) (vo_inside : Nat → Int64) (vp1_size : Int32) (vp1_takes : Nat → Int32) (p2 : Int32) (r : Int32) (hT : m_X0_areFull vo_inside vp1_size vp1_takes p2 = r) (ht0 : 0 ≤ vp1_size.toInt) (ht9 : vp1_size.toInt ≤ 9) : Met l yX0_areFull wsX0_areFull ({ frames := 2, cells := 0, slots := 0, locals := 43 }) (zPc [.ref o, .ref p1, .int p2] (dC, dI) (zTy cI cJ cC) [(o, .inr (0, [.ref o_inside, .long vo_spilt])), (o_inside, .inl (cJ, 9, .inr (.inl vo_inside))), (p1, .inr (3, [.ref p1_kinds, .ref p1_holds, .ref p1_takes, .ref p1_shareCounts, .ref p1_shares, .int vp1_size])), (p1_takes, .inl (cI, 9, .inl vp1_takes))] sz) (zQi r ((zB01 r)) (dC, dI) (zTy cI cJ cC) [(o, .inr (0, [.ref o_inside, .long vo_spilt])), (o_inside, .inl (cJ, 9, .inr (.inl vo_inside))), (p1, .inr (3, [.ref p1_kinds, .ref p1_holds, .ref p1_takes, .ref p1_shareCounts, .ref p1_shares, .int vp1_size])), (p1_takes, .inl (cI, 9, .inl vp1_takes))] (va_A [(o, .inr (0, [.ref o_inside, .long vo_spilt])), (o_inside, .inl (cJ, 9, .inr (.inl vo_inside))), (p1, .inr (3, [.ref p1_kinds, .ref p1_holds, .ref p1_takes, .ref p1_shareCounts, .ref p1_shares, .int vp1_size])), (p1_takes, .inl (cI, 9, .inl vp1_takes))] sz)) 0 0 (va_A [(o, .inr (0, [.ref o_inside, .long vo_spilt])), (o_inside, .inl (cJ, 9, .inr (.inl vo_inside))), (p1, .inr (3, [.ref p1_kinds, .ref p1_holds, .ref p1_takes, .ref p1_shareCounts, .ref p1_shares, .int vp1_size])), (p1_takes, .inl (cI, 9, .inl vp1_takes))] sz) := by
  refine Met.ofW (cc := cX0_areFull) (maxL := 4) (ret := (some .boolean)) (by decide) rfl ?_
  intro p e s m args below meth c s₁ B hml hv
  obtain ⟨rfl, hsz, hP, hK, hD0⟩ := hv
  have hx := B.exec
  have hb := B.bytes
  have hr := B.returns
  have hts := atoms_spec (ws := wsX0_areFull) B.pre
  have hown : s.vm.findClass RX0 = some m.cls := findClass_of_methodNamed B.named
  have hlocks := B.notSynchronized
  subst hsz
  have hD := hD0.self (sz := s.heap.size)
  generalize hAe : va_A [(o, .inr (0, [.ref o_inside, .long vo_spilt])), (o_inside, .inl (cJ, 9, .inr (.inl vo_inside))), (p1, .inr (3, [.ref p1_kinds, .ref p1_holds, .ref p1_takes, .ref p1_shareCounts, .ref p1_shares, .int vp1_size])), (p1_takes, .inl (cI, 9, .inl vp1_takes))] s.heap.size = A at hD ⊢
  have hA : ∀ q : Nat, s.heap.size ≤ q → A q := fun q h => by rw [← hAe]; exact Or.inr h
  have hS : va_S A s.heap s.heap [] := va_S.rf
  have hP : va_P (dC, dI) vwCl [(o, .inr (0, [.ref o_inside, .long vo_spilt])), (o_inside, .inl (cJ, 9, .inr (.inl vo_inside))), (p1, .inr (3, [.ref p1_kinds, .ref p1_holds, .ref p1_takes, .ref p1_shareCounts, .ref p1_shares, .int vp1_size])), (p1_takes, .inl (cI, 9, .inl vp1_takes))] s.heap := hP
  have hK : va_K (dC, dI) vwCl (zTy cI cJ cC) s := hK
  have hl := lv_entry ([.ref o, .ref p1, .int p2]) (n := 4) (Nat.le_of_ble_eq_true rfl)
  rw [lg_entry_eq]
  generalize (lg_sl ([.ref o, .ref p1, .int p2]) ++ List.replicate (4 - (lg_sl ([.ref o, .ref p1, .int p2])).length) Slot.unset).toArray = ls at hl ⊢
  have hl : lv_has ls 4 [(0, .ref o), (1, .ref p1), (2, .int p2)] := hl
  refine zz_start hP hS (fun Q hQ H locs hP hS => ?_)
  have hwX3 : ∀ w ∈ u_ws RX3 TX3 6, w ∈ wsX0_areFull := by decide +kernel
  have hf_43 := (hts (.fieldLink RX0 43 "PouredTopmost$Stand" "size" "I") (by decide +kernel))
  refine lv_iconst (v := (0 : Int32)) hx hb dX0_areFull_0 (by decide) ?_
  refine lv_istore_n (lv' := [(3, .int (0 : Int32)), (0, .ref o), (1, .ref p1), (2, .int p2)]) hx hb dX0_areFull_1 rfl hl (by decide) rfl (fun ls hl => ?_)
  have hz_6 : ((0 : Int32)).toInt = 0 := by decide
  refine zz_loop (α := Int32) 36 (fun k a H locs ls => (0 ≤ a.toInt) ∧ (a.toInt ≤ vp1_size.toInt) ∧ (vp1_size.toInt - a.toInt < ((k : Nat) : Int)) ∧ lp_X0_areFull_2 vp1_size rs_X0_areFull_2 p2 vo_inside vp1_takes k a = r ∧ va_P (dC, dI) vwCl [(o, .inr (0, [.ref o_inside, .long vo_spilt])), (o_inside, .inl (cJ, 9, .inr (.inl vo_inside))), (p1, .inr (3, [.ref p1_kinds, .ref p1_holds, .ref p1_takes, .ref p1_shareCounts, .ref p1_shares, .int vp1_size])), (p1_takes, .inl (cI, 9, .inl vp1_takes))] H ∧ va_D A [(o, .inr (0, [.ref o_inside, .long vo_spilt])), (o_inside, .inl (cJ, 9, .inr (.inl vo_inside))), (p1, .inr (3, [.ref p1_kinds, .ref p1_holds, .ref p1_takes, .ref p1_shareCounts, .ref p1_shares, .int vp1_size])), (p1_takes, .inl (cI, 9, .inl vp1_takes))] ∧ va_S A s.heap H locs ∧ lv_has ls 4 [(3, .int a), (0, .ref o), (1, .ref p1), (2, .int p2)]) (fun a H locs ls => (0 ≤ a.toInt) ∧ (a.toInt ≤ vp1_size.toInt) ∧ rs_X0_areFull_2 a = r ∧ va_P (dC, dI) vwCl [(o, .inr (0, [.ref o_inside, .long vo_spilt])), (o_inside, .inl (cJ, 9, .inr (.inl vo_inside))), (p1, .inr (3, [.ref p1_kinds, .ref p1_holds, .ref p1_takes, .ref p1_shareCounts, .ref p1_shares, .int vp1_size])), (p1_takes, .inl (cI, 9, .inl vp1_takes))] H ∧ va_D A [(o, .inr (0, [.ref o_inside, .long vo_spilt])), (o_inside, .inl (cJ, 9, .inr (.inl vo_inside))), (p1, .inr (3, [.ref p1_kinds, .ref p1_holds, .ref p1_takes, .ref p1_shareCounts, .ref p1_shares, .int vp1_size])), (p1_takes, .inl (cI, 9, .inl vp1_takes))] ∧ va_S A s.heap H locs ∧ lv_has ls 4 []) ?_ ?_ ?_ 11 (0 : Int32) ⟨(by omega : 0 ≤ (0 : Int32).toInt), (by omega : (0 : Int32).toInt ≤ vp1_size.toInt), (by omega : vp1_size.toInt - (0 : Int32).toInt < ((11 : Nat) : Int)), hT, hP.sub [0, 1, 2, 3] rfl, hD.sub [0, 1, 2, 3] rfl rfl, hS, lv_sub hl [0, 1, 2, 3] rfl⟩
  · rintro x2 H locs ls ⟨i1, j1, hT, hP, hD, hS, hl⟩
    have hP : va_P (dC, dI) vwCl [(o, .inr (0, [.ref o_inside, .long vo_spilt])), (o_inside, .inl (cJ, 9, .inr (.inl vo_inside))), (p1, .inr (3, [.ref p1_kinds, .ref p1_holds, .ref p1_takes, .ref p1_shareCounts, .ref p1_shares, .int vp1_size])), (p1_takes, .inl (cI, 9, .inl vp1_takes))] H := hP
    have hD : va_D A [(o, .inr (0, [.ref o_inside, .long vo_spilt])), (o_inside, .inl (cJ, 9, .inr (.inl vo_inside))), (p1, .inr (3, [.ref p1_kinds, .ref p1_holds, .ref p1_takes, .ref p1_shareCounts, .ref p1_shares, .int vp1_size])), (p1_takes, .inl (cI, 9, .inl vp1_takes))] := hD
    have hl : lv_has ls 4 [] := hl
    have hT : rs_X0_areFull_2 x2 = r := hT
    have i1 : 0 ≤ x2.toInt := i1
    have j1 : x2.toInt ≤ vp1_size.toInt := j1
    refine lv_iconst (v := (1 : Int32)) hx hb dX0_areFull_36 (by decide) ?_
    have hP9 := hP
    have hD9 := hD
    have hS9 := hS
    have hT : (1 : Int32) = r := hT
    subst hT
    subst hQ
    exact zz_zret hx hb hr rfl [0, 1, 2, 3] hK hP9 hD9 hS9 rfl rfl (Or.inr rfl) hlocks dX0_areFull_37
  · rintro b1 H locs ls ⟨i1, j1, hm, -⟩
    try dsimp only at *
    omega
  · intro k2 hex2 ih2
    rintro b1 H locs ls ⟨i1, j1, hm2, hT, hP, hD, hS, hl⟩
    have hP : va_P (dC, dI) vwCl [(o, .inr (0, [.ref o_inside, .long vo_spilt])), (o_inside, .inl (cJ, 9, .inr (.inl vo_inside))), (p1, .inr (3, [.ref p1_kinds, .ref p1_holds, .ref p1_takes, .ref p1_shareCounts, .ref p1_shares, .int vp1_size])), (p1_takes, .inl (cI, 9, .inl vp1_takes))] H := hP
    have hD : va_D A [(o, .inr (0, [.ref o_inside, .long vo_spilt])), (o_inside, .inl (cJ, 9, .inr (.inl vo_inside))), (p1, .inr (3, [.ref p1_kinds, .ref p1_holds, .ref p1_takes, .ref p1_shareCounts, .ref p1_shares, .int vp1_size])), (p1_takes, .inl (cI, 9, .inl vp1_takes))] := hD
    have hl : lv_has ls 4 [(3, .int b1), (0, .ref o), (1, .ref p1), (2, .int p2)] := hl
    have hT : lp_X0_areFull_2 vp1_size rs_X0_areFull_2 p2 vo_inside vp1_takes (k2 + 1) b1 = r := hT
    have i1 : 0 ≤ b1.toInt := i1
    have j1 : b1.toInt ≤ vp1_size.toInt := j1
    have hm2 : vp1_size.toInt - b1.toInt < (((k2 + 1) : Nat) : Int) := hm2
    try simp only [Int.natCast_add, Int.natCast_one, Nat.cast_add, Nat.cast_one] at hm2
    refine lv_iload_n hx hb dX0_areFull_2 rfl (lv_at hl 0 rfl) ?_
    refine lv_aload_n hx hb dX0_areFull_3 rfl (lv_at hl 2 rfl) ?_
    refine va_get (D := (dC, dI)) (ci := 3) (v := .int vp1_size) (C := RX3) (T := TX3) (N := 6) hx hb hts hwX3 hown hK hP 2 rfl rfl 5 (by decide) hf_43 (fun _ h9 => h9) rfl dX0_areFull_4 ?_
    refine lv_icmp_ge (tgt := 36) hx hb dX0_areFull_7 (by decide) (fun c_1 => ?_) (fun c_1 => ?_)
    · replace hT := cutT c_1 hT
      have g_7 := zleT (rfl : (vp1_size).toInt = _) (rfl : (b1).toInt = _) c_1
      exact hex2 b1 _ _ _ ⟨(by omega : 0 ≤ b1.toInt), (by omega : b1.toInt ≤ vp1_size.toInt), hT, hP.sub [0, 1, 2, 3] rfl, hD.sub [0, 1, 2, 3] rfl rfl, hS, lv_sub hl [] rfl⟩
    · replace hT := cutF c_1 hT
      have g_8 := zleF (rfl : (vp1_size).toInt = _) (rfl : (b1).toInt = _) c_1
      refine lv_iload_n hx hb dX0_areFull_10 rfl (lv_at hl 3 rfl) ?_
      refine lv_iload_n hx hb dX0_areFull_11 rfl (lv_at hl 0 rfl) ?_
      refine lv_ishr hx hb dX0_areFull_12 ?_
      refine lv_iconst (v := (1 : Int32)) hx hb dX0_areFull_13 (by decide) ?_
      refine lv_iand hx hb dX0_areFull_14 ?_
      refine lv_iconst (v := (1 : Int32)) hx hb dX0_areFull_15 (by decide) ?_
      refine lv_icmp_ne (tgt := 30) hx hb dX0_areFull_16 (by decide) (fun c_2 => ?_) (fun c_2 => ?_)
      · replace hT := cutF c_2 hT
        have g_9 := zeqF (rfl : (((p2 >>> (b1 &&& 31)) &&& (1 : Int32))).toInt = _) (by decide : ((1 : Int32)).toInt = 1) c_2
        obtain ⟨v3, ev3⟩ : ∃ y : Int32, (b1 + (1 : Int32)) = y := ⟨_, rfl⟩
        replace hT := cut_n ev3 hT
        try have fv3 := zaddE (rfl : (b1).toInt = _) (by decide : ((1 : Int32)).toInt = 1) ev3 (by omega) (by omega)
        refine lv_iinc (v := v3) (lv' := [(3, .int v3), (0, .ref o), (1, .ref p1), (2, .int p2)]) hx hb dX0_areFull_30 hl (k := 0) rfl (by rw [← ev3]; rfl) (by decide) rfl (fun ls hl => ?_)
        refine lv_goto (tgt := 2) hx hb dX0_areFull_33 (by decide) ?_
        exact ih2 v3 _ _ _ ⟨(by omega : 0 ≤ v3.toInt), (by omega : v3.toInt ≤ vp1_size.toInt), (by omega : vp1_size.toInt - v3.toInt < ((k2 : Nat) : Int)), hT, hP.sub [0, 1, 2, 3] rfl, hD.sub [0, 1, 2, 3] rfl rfl, hS, lv_sub hl [0, 1, 2, 3] rfl⟩
      · replace hT := cutT c_2 hT
        have g_10 := zeqT (rfl : (((p2 >>> (b1 &&& 31)) &&& (1 : Int32))).toInt = _) (by decide : ((1 : Int32)).toInt = 1) c_2
        refine lv_aload_n hx hb dX0_areFull_19 rfl (lv_at hl 1 rfl) ?_
        refine lv_aload_n hx hb dX0_areFull_20 rfl (lv_at hl 2 rfl) ?_
        refine lv_iload_n hx hb dX0_areFull_21 rfl (lv_at hl 0 rfl) ?_
        obtain ⟨r4, ev_3⟩ : ∃ x0, (m_X0_isFull vo_inside vp1_size vp1_takes b1) = x0 := ⟨_, rfl⟩
        replace hT := cut_n ev_3 hT
        refine zz_ci [0, 1, 2, 3] [] (wr := []) (w1 := [(o, .inr (0, [.ref o_inside, .long vo_spilt])), (o_inside, .inl (cJ, 9, .inr (.inl vo_inside))), (p1, .inr (3, [.ref p1_kinds, .ref p1_holds, .ref p1_takes, .ref p1_shareCounts, .ref p1_shares, .int vp1_size])), (p1_takes, .inl (cI, 9, .inl vp1_takes))]) (va_runV (As := [.ref p1, .int b1]) (rest := []) ⟨hx, hb, hml, hown, hts⟩ (k_X0_isFull l dC dI cI cJ cC H.size o o_inside p1 p1_kinds p1_holds p1_takes p1_shareCounts p1_shares vo_spilt vo_inside vp1_size vp1_takes b1 r4 ev_3 ht9) (cwV 2 hts gX0_areFull_X0_isFull rfl rfl rfl (by decide +kernel) ⟨Nat.le_of_ble_eq_true rfl, Nat.le_of_ble_eq_true rfl⟩) (zz_preV [0, 1, 2, 3] hK hP hD rfl rfl (va_recv hK hP (ci := 0) (q0 := 0) rfl rfl)) rfl rfl hl.1 rfl (lv_room (Nat.le_of_ble_eq_true rfl)) dX0_areFull_22 ⟨Nat.zero_le _, Nat.zero_le _⟩) hP hD hS hA rfl rfl rfl (by decide) (fun ok_4 H locs hP hD hS => ?_)
        have hP : va_P (dC, dI) vwCl [(o, .inr (0, [.ref o_inside, .long vo_spilt])), (o_inside, .inl (cJ, 9, .inr (.inl vo_inside))), (p1, .inr (3, [.ref p1_kinds, .ref p1_holds, .ref p1_takes, .ref p1_shareCounts, .ref p1_shares, .int vp1_size])), (p1_takes, .inl (cI, 9, .inl vp1_takes))] H := hP
        have hD : va_D A [(o, .inr (0, [.ref o_inside, .long vo_spilt])), (o_inside, .inl (cJ, 9, .inr (.inl vo_inside))), (p1, .inr (3, [.ref p1_kinds, .ref p1_holds, .ref p1_takes, .ref p1_shareCounts, .ref p1_shares, .int vp1_size])), (p1_takes, .inl (cI, 9, .inl vp1_takes))] := hD
        refine lv_if_ne (tgt := 30) hx hb dX0_areFull_25 (by decide) (fun c_5 => ?_) (fun c_5 => ?_)
        · replace hT := cutF c_5 hT
          have g_11 := zeqF (rfl : (r4).toInt = _) (by decide : ((0 : Int32)).toInt = 0) c_5
          obtain ⟨v5, ev5⟩ : ∃ y : Int32, (b1 + (1 : Int32)) = y := ⟨_, rfl⟩
          replace hT := cut_n ev5 hT
          try have fv5 := zaddE (rfl : (b1).toInt = _) (by decide : ((1 : Int32)).toInt = 1) ev5 (by omega) (by omega)
          refine lv_iinc (v := v5) (lv' := [(3, .int v5), (0, .ref o), (1, .ref p1), (2, .int p2)]) hx hb dX0_areFull_30 hl (k := 0) rfl (by rw [← ev5]; rfl) (by decide) rfl (fun ls hl => ?_)
          refine lv_goto (tgt := 2) hx hb dX0_areFull_33 (by decide) ?_
          exact ih2 v5 _ _ _ ⟨(by omega : 0 ≤ v5.toInt), (by omega : v5.toInt ≤ vp1_size.toInt), (by omega : vp1_size.toInt - v5.toInt < ((k2 : Nat) : Int)), hT, hP.sub [0, 1, 2, 3] rfl, hD.sub [0, 1, 2, 3] rfl rfl, hS, lv_sub hl [0, 1, 2, 3] rfl⟩
        · replace hT := cutT c_5 hT
          have g_12 := zeqT (rfl : (r4).toInt = _) (by decide : ((0 : Int32)).toInt = 0) c_5
          refine lv_iconst (v := (0 : Int32)) hx hb dX0_areFull_28 (by decide) ?_
          have hP9 := hP
          have hD9 := hD
          have hS9 := hS
          have hT : (0 : Int32) = r := hT
          subst hT
          subst hQ
          exact zz_zret hx hb hr rfl [0, 1, 2, 3] hK hP9 hD9 hS9 rfl rfl (Or.inl rfl) hlocks dX0_areFull_29

def rs_X0_howManyFull_2  (x3 : Int32) (x4 : Int32) : Int32 :=
 x4
def lp_X0_howManyFull_2 (vp1_size : Int32) (ct2 : Int32 → Int32 → (Int32)) (vo_inside : Nat → Int64) (vp1_takes : Nat → Int32) : Nat → Int32 → Int32 → (Int32)
  | 0, _, _ => default
  | k + 1, b1, b2 =>
  if vp1_size ≤ b1 then
   (ct2 b1 b2)
  else
   cut (m_X0_isFull vo_inside vp1_size vp1_takes b1) (fun (r5 : Int32) =>
   if r5 = (0 : Int32) then
    cut (b1 + (1 : Int32)) (fun (v6 : Int32) =>
    (lp_X0_howManyFull_2 vp1_size ct2 vo_inside vp1_takes k v6 b2))
   else
    cut (b2 + (1 : Int32)) (fun (v7 : Int32) =>
    cut (b1 + (1 : Int32)) (fun (v8 : Int32) =>
    (lp_X0_howManyFull_2 vp1_size ct2 vo_inside vp1_takes k v8 v7))))
def m_X0_howManyFull (vo_inside : Nat → Int64) (vp1_size : Int32) (vp1_takes : Nat → Int32) : Int32 :=
 (lp_X0_howManyFull_2 vp1_size rs_X0_howManyFull_2 vo_inside vp1_takes 11 (0 : Int32) (0 : Int32))
set_option maxHeartbeats 4000000 in
set_option maxRecDepth 100000 in
theorem k_X0_howManyFull (l : Launch) (dC : Nat → ClassId) (dI : Nat → Nat → Nat) (cI cJ cC : ClassId) (sz : Nat) (o o_inside p1 p1_kinds p1_holds p1_takes p1_shareCounts p1_shares : Nat) (vo_spilt : Int64) (vo_inside : Nat → Int64) (vp1_size : Int32) (vp1_takes : Nat → Int32) (r : Int32) (hT : m_X0_howManyFull vo_inside vp1_size vp1_takes = r) (ht0 : 0 ≤ vp1_size.toInt) (ht9 : vp1_size.toInt ≤ 9) : Met l yX0_howManyFull wsX0_howManyFull ({ frames := 2, cells := 0, slots := 0, locals := 43 }) (zPc [.ref o, .ref p1] (dC, dI) (zTy cI cJ cC) [(o, .inr (0, [.ref o_inside, .long vo_spilt])), (o_inside, .inl (cJ, 9, .inr (.inl vo_inside))), (p1, .inr (3, [.ref p1_kinds, .ref p1_holds, .ref p1_takes, .ref p1_shareCounts, .ref p1_shares, .int vp1_size])), (p1_takes, .inl (cI, 9, .inl vp1_takes))] sz) (zQi r (True) (dC, dI) (zTy cI cJ cC) [(o, .inr (0, [.ref o_inside, .long vo_spilt])), (o_inside, .inl (cJ, 9, .inr (.inl vo_inside))), (p1, .inr (3, [.ref p1_kinds, .ref p1_holds, .ref p1_takes, .ref p1_shareCounts, .ref p1_shares, .int vp1_size])), (p1_takes, .inl (cI, 9, .inl vp1_takes))] (va_A [(o, .inr (0, [.ref o_inside, .long vo_spilt])), (o_inside, .inl (cJ, 9, .inr (.inl vo_inside))), (p1, .inr (3, [.ref p1_kinds, .ref p1_holds, .ref p1_takes, .ref p1_shareCounts, .ref p1_shares, .int vp1_size])), (p1_takes, .inl (cI, 9, .inl vp1_takes))] sz)) 0 0 (va_A [(o, .inr (0, [.ref o_inside, .long vo_spilt])), (o_inside, .inl (cJ, 9, .inr (.inl vo_inside))), (p1, .inr (3, [.ref p1_kinds, .ref p1_holds, .ref p1_takes, .ref p1_shareCounts, .ref p1_shares, .int vp1_size])), (p1_takes, .inl (cI, 9, .inl vp1_takes))] sz) := by
  refine Met.ofW (cc := cX0_howManyFull) (maxL := 4) (ret := (some .int)) (by decide) rfl ?_
  intro p e s m args below meth c s₁ B hml hv
  obtain ⟨rfl, hsz, hP, hK, hD0⟩ := hv
  have hx := B.exec
  have hb := B.bytes
  have hr := B.returns
  have hts := atoms_spec (ws := wsX0_howManyFull) B.pre
  have hown : s.vm.findClass RX0 = some m.cls := findClass_of_methodNamed B.named
  have hlocks := B.notSynchronized
  subst hsz
  have hD := hD0.self (sz := s.heap.size)
  generalize hAe : va_A [(o, .inr (0, [.ref o_inside, .long vo_spilt])), (o_inside, .inl (cJ, 9, .inr (.inl vo_inside))), (p1, .inr (3, [.ref p1_kinds, .ref p1_holds, .ref p1_takes, .ref p1_shareCounts, .ref p1_shares, .int vp1_size])), (p1_takes, .inl (cI, 9, .inl vp1_takes))] s.heap.size = A at hD ⊢
  have hA : ∀ q : Nat, s.heap.size ≤ q → A q := fun q h => by rw [← hAe]; exact Or.inr h
  have hS : va_S A s.heap s.heap [] := va_S.rf
  have hP : va_P (dC, dI) vwCl [(o, .inr (0, [.ref o_inside, .long vo_spilt])), (o_inside, .inl (cJ, 9, .inr (.inl vo_inside))), (p1, .inr (3, [.ref p1_kinds, .ref p1_holds, .ref p1_takes, .ref p1_shareCounts, .ref p1_shares, .int vp1_size])), (p1_takes, .inl (cI, 9, .inl vp1_takes))] s.heap := hP
  have hK : va_K (dC, dI) vwCl (zTy cI cJ cC) s := hK
  have hl := lv_entry ([.ref o, .ref p1]) (n := 4) (Nat.le_of_ble_eq_true rfl)
  rw [lg_entry_eq]
  generalize (lg_sl ([.ref o, .ref p1]) ++ List.replicate (4 - (lg_sl ([.ref o, .ref p1])).length) Slot.unset).toArray = ls at hl ⊢
  have hl : lv_has ls 4 [(0, .ref o), (1, .ref p1)] := hl
  refine zz_start hP hS (fun Q hQ H locs hP hS => ?_)
  have hwX3 : ∀ w ∈ u_ws RX3 TX3 6, w ∈ wsX0_howManyFull := by decide +kernel
  have hf_43 := (hts (.fieldLink RX0 43 "PouredTopmost$Stand" "size" "I") (by decide +kernel))
  refine lv_iconst (v := (0 : Int32)) hx hb dX0_howManyFull_0 (by decide) ?_
  refine lv_istore_n (lv' := [(2, .int (0 : Int32)), (0, .ref o), (1, .ref p1)]) hx hb dX0_howManyFull_1 rfl hl (by decide) rfl (fun ls hl => ?_)
  refine lv_iconst (v := (0 : Int32)) hx hb dX0_howManyFull_2 (by decide) ?_
  refine lv_istore_n (lv' := [(3, .int (0 : Int32)), (2, .int (0 : Int32)), (0, .ref o), (1, .ref p1)]) hx hb dX0_howManyFull_3 rfl hl (by decide) rfl (fun ls hl => ?_)
  have hz_5 : ((0 : Int32)).toInt = 0 := by decide
  have hz_6 : ((0 : Int32)).toInt = 0 := by decide
  refine zz_loop (α := Int32 × Int32) 30 (fun k a H locs ls => (0 ≤ a.1.toInt) ∧ (a.1.toInt ≤ vp1_size.toInt) ∧ (vp1_size.toInt - a.1.toInt < ((k : Nat) : Int)) ∧ lp_X0_howManyFull_2 vp1_size rs_X0_howManyFull_2 vo_inside vp1_takes k a.1 a.2 = r ∧ va_P (dC, dI) vwCl [(o, .inr (0, [.ref o_inside, .long vo_spilt])), (o_inside, .inl (cJ, 9, .inr (.inl vo_inside))), (p1, .inr (3, [.ref p1_kinds, .ref p1_holds, .ref p1_takes, .ref p1_shareCounts, .ref p1_shares, .int vp1_size])), (p1_takes, .inl (cI, 9, .inl vp1_takes))] H ∧ va_D A [(o, .inr (0, [.ref o_inside, .long vo_spilt])), (o_inside, .inl (cJ, 9, .inr (.inl vo_inside))), (p1, .inr (3, [.ref p1_kinds, .ref p1_holds, .ref p1_takes, .ref p1_shareCounts, .ref p1_shares, .int vp1_size])), (p1_takes, .inl (cI, 9, .inl vp1_takes))] ∧ va_S A s.heap H locs ∧ lv_has ls 4 [(3, .int a.1), (2, .int a.2), (0, .ref o), (1, .ref p1)]) (fun a H locs ls => (0 ≤ a.1.toInt) ∧ (a.1.toInt ≤ vp1_size.toInt) ∧ rs_X0_howManyFull_2 a.1 a.2 = r ∧ va_P (dC, dI) vwCl [(o, .inr (0, [.ref o_inside, .long vo_spilt])), (o_inside, .inl (cJ, 9, .inr (.inl vo_inside))), (p1, .inr (3, [.ref p1_kinds, .ref p1_holds, .ref p1_takes, .ref p1_shareCounts, .ref p1_shares, .int vp1_size])), (p1_takes, .inl (cI, 9, .inl vp1_takes))] H ∧ va_D A [(o, .inr (0, [.ref o_inside, .long vo_spilt])), (o_inside, .inl (cJ, 9, .inr (.inl vo_inside))), (p1, .inr (3, [.ref p1_kinds, .ref p1_holds, .ref p1_takes, .ref p1_shareCounts, .ref p1_shares, .int vp1_size])), (p1_takes, .inl (cI, 9, .inl vp1_takes))] ∧ va_S A s.heap H locs ∧ lv_has ls 4 [(2, .int a.2)]) ?_ ?_ ?_ 11 ((0 : Int32), (0 : Int32)) ⟨(by omega : 0 ≤ (0 : Int32).toInt), (by omega : (0 : Int32).toInt ≤ vp1_size.toInt), (by omega : vp1_size.toInt - (0 : Int32).toInt < ((11 : Nat) : Int)), hT, hP.sub [0, 1, 2, 3] rfl, hD.sub [0, 1, 2, 3] rfl rfl, hS, lv_sub hl [0, 1, 2, 3] rfl⟩
  · rintro ⟨x3, x4⟩ H locs ls ⟨i1, j1, hT, hP, hD, hS, hl⟩
    have hP : va_P (dC, dI) vwCl [(o, .inr (0, [.ref o_inside, .long vo_spilt])), (o_inside, .inl (cJ, 9, .inr (.inl vo_inside))), (p1, .inr (3, [.ref p1_kinds, .ref p1_holds, .ref p1_takes, .ref p1_shareCounts, .ref p1_shares, .int vp1_size])), (p1_takes, .inl (cI, 9, .inl vp1_takes))] H := hP
    have hD : va_D A [(o, .inr (0, [.ref o_inside, .long vo_spilt])), (o_inside, .inl (cJ, 9, .inr (.inl vo_inside))), (p1, .inr (3, [.ref p1_kinds, .ref p1_holds, .ref p1_takes, .ref p1_shareCounts, .ref p1_shares, .int vp1_size])), (p1_takes, .inl (cI, 9, .inl vp1_takes))] := hD
    have hl : lv_has ls 4 [(2, .int x4)] := hl
    have hT : rs_X0_howManyFull_2 x3 x4 = r := hT
    have i1 : 0 ≤ x3.toInt := i1
    have j1 : x3.toInt ≤ vp1_size.toInt := j1
    refine lv_iload_n hx hb dX0_howManyFull_30 rfl (lv_at hl 0 rfl) ?_
    have hP9 := hP
    have hD9 := hD
    have hS9 := hS
    have hT : x4 = r := hT
    subst hT
    subst hQ
    exact zz_iret hx hb hr [0, 1, 2, 3] hK hP9 hD9 hS9 rfl rfl trivial hlocks dX0_howManyFull_31
  · rintro ⟨b1, b2⟩ H locs ls ⟨i1, j1, hm, -⟩
    try dsimp only at *
    omega
  · intro k2 hex2 ih2
    rintro ⟨b1, b2⟩ H locs ls ⟨i1, j1, hm2, hT, hP, hD, hS, hl⟩
    have hP : va_P (dC, dI) vwCl [(o, .inr (0, [.ref o_inside, .long vo_spilt])), (o_inside, .inl (cJ, 9, .inr (.inl vo_inside))), (p1, .inr (3, [.ref p1_kinds, .ref p1_holds, .ref p1_takes, .ref p1_shareCounts, .ref p1_shares, .int vp1_size])), (p1_takes, .inl (cI, 9, .inl vp1_takes))] H := hP
    have hD : va_D A [(o, .inr (0, [.ref o_inside, .long vo_spilt])), (o_inside, .inl (cJ, 9, .inr (.inl vo_inside))), (p1, .inr (3, [.ref p1_kinds, .ref p1_holds, .ref p1_takes, .ref p1_shareCounts, .ref p1_shares, .int vp1_size])), (p1_takes, .inl (cI, 9, .inl vp1_takes))] := hD
    have hl : lv_has ls 4 [(3, .int b1), (2, .int b2), (0, .ref o), (1, .ref p1)] := hl
    have hT : lp_X0_howManyFull_2 vp1_size rs_X0_howManyFull_2 vo_inside vp1_takes (k2 + 1) b1 b2 = r := hT
    have i1 : 0 ≤ b1.toInt := i1
    have j1 : b1.toInt ≤ vp1_size.toInt := j1
    have hm2 : vp1_size.toInt - b1.toInt < (((k2 + 1) : Nat) : Int) := hm2
    try simp only [Int.natCast_add, Int.natCast_one, Nat.cast_add, Nat.cast_one] at hm2
    refine lv_iload_n hx hb dX0_howManyFull_4 rfl (lv_at hl 0 rfl) ?_
    refine lv_aload_n hx hb dX0_howManyFull_5 rfl (lv_at hl 3 rfl) ?_
    refine va_get (D := (dC, dI)) (ci := 3) (v := .int vp1_size) (C := RX3) (T := TX3) (N := 6) hx hb hts hwX3 hown hK hP 2 rfl rfl 5 (by decide) hf_43 (fun _ h9 => h9) rfl dX0_howManyFull_6 ?_
    refine lv_icmp_ge (tgt := 30) hx hb dX0_howManyFull_9 (by decide) (fun c_1 => ?_) (fun c_1 => ?_)
    · replace hT := cutT c_1 hT
      have g_7 := zleT (rfl : (vp1_size).toInt = _) (rfl : (b1).toInt = _) c_1
      exact hex2 (b1, b2) _ _ _ ⟨(by omega : 0 ≤ b1.toInt), (by omega : b1.toInt ≤ vp1_size.toInt), hT, hP.sub [0, 1, 2, 3] rfl, hD.sub [0, 1, 2, 3] rfl rfl, hS, lv_sub hl [1] rfl⟩
    · replace hT := cutF c_1 hT
      have g_8 := zleF (rfl : (vp1_size).toInt = _) (rfl : (b1).toInt = _) c_1
      refine lv_aload_n hx hb dX0_howManyFull_12 rfl (lv_at hl 2 rfl) ?_
      refine lv_aload_n hx hb dX0_howManyFull_13 rfl (lv_at hl 3 rfl) ?_
      refine lv_iload_n hx hb dX0_howManyFull_14 rfl (lv_at hl 0 rfl) ?_
      obtain ⟨r5, ev_2⟩ : ∃ x0, (m_X0_isFull vo_inside vp1_size vp1_takes b1) = x0 := ⟨_, rfl⟩
      replace hT := cut_n ev_2 hT
      refine zz_ci [0, 1, 2, 3] [] (wr := []) (w1 := [(o, .inr (0, [.ref o_inside, .long vo_spilt])), (o_inside, .inl (cJ, 9, .inr (.inl vo_inside))), (p1, .inr (3, [.ref p1_kinds, .ref p1_holds, .ref p1_takes, .ref p1_shareCounts, .ref p1_shares, .int vp1_size])), (p1_takes, .inl (cI, 9, .inl vp1_takes))]) (va_runV (As := [.ref p1, .int b1]) (rest := []) ⟨hx, hb, hml, hown, hts⟩ (k_X0_isFull l dC dI cI cJ cC H.size o o_inside p1 p1_kinds p1_holds p1_takes p1_shareCounts p1_shares vo_spilt vo_inside vp1_size vp1_takes b1 r5 ev_2 ht9) (cwV 2 hts gX0_howManyFull_X0_isFull rfl rfl rfl (by decide +kernel) ⟨Nat.le_of_ble_eq_true rfl, Nat.le_of_ble_eq_true rfl⟩) (zz_preV [0, 1, 2, 3] hK hP hD rfl rfl (va_recv hK hP (ci := 0) (q0 := 0) rfl rfl)) rfl rfl hl.1 rfl (lv_room (Nat.le_of_ble_eq_true rfl)) dX0_howManyFull_15 ⟨Nat.zero_le _, Nat.zero_le _⟩) hP hD hS hA rfl rfl rfl (by decide) (fun ok_3 H locs hP hD hS => ?_)
      have hP : va_P (dC, dI) vwCl [(o, .inr (0, [.ref o_inside, .long vo_spilt])), (o_inside, .inl (cJ, 9, .inr (.inl vo_inside))), (p1, .inr (3, [.ref p1_kinds, .ref p1_holds, .ref p1_takes, .ref p1_shareCounts, .ref p1_shares, .int vp1_size])), (p1_takes, .inl (cI, 9, .inl vp1_takes))] H := hP
      have hD : va_D A [(o, .inr (0, [.ref o_inside, .long vo_spilt])), (o_inside, .inl (cJ, 9, .inr (.inl vo_inside))), (p1, .inr (3, [.ref p1_kinds, .ref p1_holds, .ref p1_takes, .ref p1_shareCounts, .ref p1_shares, .int vp1_size])), (p1_takes, .inl (cI, 9, .inl vp1_takes))] := hD
      refine lv_if_eq (tgt := 24) hx hb dX0_howManyFull_18 (by decide) (fun c_4 => ?_) (fun c_4 => ?_)
      · replace hT := cutT c_4 hT
        have g_9 := zeqT (rfl : (r5).toInt = _) (by decide : ((0 : Int32)).toInt = 0) c_4
        obtain ⟨v6, ev6⟩ : ∃ y : Int32, (b1 + (1 : Int32)) = y := ⟨_, rfl⟩
        replace hT := cut_n ev6 hT
        try have fv6 := zaddE (rfl : (b1).toInt = _) (by decide : ((1 : Int32)).toInt = 1) ev6 (by omega) (by omega)
        refine lv_iinc (v := v6) (lv' := [(3, .int v6), (2, .int b2), (0, .ref o), (1, .ref p1)]) hx hb dX0_howManyFull_24 hl (k := 0) rfl (by rw [← ev6]; rfl) (by decide) rfl (fun ls hl => ?_)
        refine lv_goto (tgt := 4) hx hb dX0_howManyFull_27 (by decide) ?_
        exact ih2 (v6, b2) _ _ _ ⟨(by omega : 0 ≤ v6.toInt), (by omega : v6.toInt ≤ vp1_size.toInt), (by omega : vp1_size.toInt - v6.toInt < ((k2 : Nat) : Int)), hT, hP.sub [0, 1, 2, 3] rfl, hD.sub [0, 1, 2, 3] rfl rfl, hS, lv_sub hl [0, 1, 2, 3] rfl⟩
      · replace hT := cutF c_4 hT
        have g_10 := zeqF (rfl : (r5).toInt = _) (by decide : ((0 : Int32)).toInt = 0) c_4
        obtain ⟨v7, ev7⟩ : ∃ y : Int32, (b2 + (1 : Int32)) = y := ⟨_, rfl⟩
        replace hT := cut_n ev7 hT
        try have fv7 := zaddE (rfl : (b2).toInt = _) (by decide : ((1 : Int32)).toInt = 1) ev7 (by omega) (by omega)
        refine lv_iinc (v := v7) (lv' := [(2, .int v7), (3, .int b1), (0, .ref o), (1, .ref p1)]) hx hb dX0_howManyFull_21 hl (k := 1) rfl (by rw [← ev7]; rfl) (by decide) rfl (fun ls hl => ?_)
        obtain ⟨v8, ev8⟩ : ∃ y : Int32, (b1 + (1 : Int32)) = y := ⟨_, rfl⟩
        replace hT := cut_n ev8 hT
        try have fv8 := zaddE (rfl : (b1).toInt = _) (by decide : ((1 : Int32)).toInt = 1) ev8 (by omega) (by omega)
        refine lv_iinc (v := v8) (lv' := [(3, .int v8), (2, .int v7), (0, .ref o), (1, .ref p1)]) hx hb dX0_howManyFull_24 hl (k := 1) rfl (by rw [← ev8]; rfl) (by decide) rfl (fun ls hl => ?_)
        refine lv_goto (tgt := 4) hx hb dX0_howManyFull_27 (by decide) ?_
        exact ih2 (v8, v7) _ _ _ ⟨(by omega : 0 ≤ v8.toInt), (by omega : v8.toInt ≤ vp1_size.toInt), (by omega : vp1_size.toInt - v8.toInt < ((k2 : Nat) : Int)), hT, hP.sub [0, 1, 2, 3] rfl, hD.sub [0, 1, 2, 3] rfl rfl, hS, lv_sub hl [0, 1, 2, 3] rfl⟩

def rs_X0_howManyWithNothing_2  (x3 : Int32) (x4 : Int32) : Int32 :=
 x4
def lp_X0_howManyWithNothing_2 (vp1_size : Int32) (ct2 : Int32 → Int32 → (Int32)) (vo_inside : Nat → Int64) : Nat → Int32 → Int32 → (Int32)
  | 0, _, _ => default
  | k + 1, b1, b2 =>
  if vp1_size ≤ b1 then
   (ct2 b1 b2)
  else
   if (lg_cmp (vo_inside b1.toNatClampNeg) (0 : Int64)) = (0 : Int32) then
    cut (b2 + (1 : Int32)) (fun (v6 : Int32) =>
    cut (b1 + (1 : Int32)) (fun (v7 : Int32) =>
    (lp_X0_howManyWithNothing_2 vp1_size ct2 vo_inside k v7 v6)))
   else
    cut (b1 + (1 : Int32)) (fun (v5 : Int32) =>
    (lp_X0_howManyWithNothing_2 vp1_size ct2 vo_inside k v5 b2))
def m_X0_howManyWithNothing (vo_inside : Nat → Int64) (vp1_size : Int32) : Int32 :=
 (lp_X0_howManyWithNothing_2 vp1_size rs_X0_howManyWithNothing_2 vo_inside 11 (0 : Int32) (0 : Int32))
set_option maxHeartbeats 4000000 in
set_option maxRecDepth 100000 in
theorem k_X0_howManyWithNothing (l : Launch) (dC : Nat → ClassId) (dI : Nat → Nat → Nat) (cI cJ cC : ClassId) (sz : Nat) (o o_inside p1 p1_kinds p1_holds p1_takes p1_shareCounts p1_shares : Nat) (vo_spilt : Int64) (vo_inside : Nat → Int64) (vp1_size : Int32) (r : Int32) (hT : m_X0_howManyWithNothing vo_inside vp1_size = r) (ht0 : 0 ≤ vp1_size.toInt) (ht9 : vp1_size.toInt ≤ 9) : Met l yX0_howManyWithNothing wsX0_howManyWithNothing ({ frames := 0, cells := 0, slots := 0, locals := 0 }) (zPc [.ref o, .ref p1] (dC, dI) (zTy cI cJ cC) [(o, .inr (0, [.ref o_inside, .long vo_spilt])), (o_inside, .inl (cJ, 9, .inr (.inl vo_inside))), (p1, .inr (3, [.ref p1_kinds, .ref p1_holds, .ref p1_takes, .ref p1_shareCounts, .ref p1_shares, .int vp1_size]))] sz) (zQi r (True) (dC, dI) (zTy cI cJ cC) [(o, .inr (0, [.ref o_inside, .long vo_spilt])), (o_inside, .inl (cJ, 9, .inr (.inl vo_inside))), (p1, .inr (3, [.ref p1_kinds, .ref p1_holds, .ref p1_takes, .ref p1_shareCounts, .ref p1_shares, .int vp1_size]))] (va_A [(o, .inr (0, [.ref o_inside, .long vo_spilt])), (o_inside, .inl (cJ, 9, .inr (.inl vo_inside))), (p1, .inr (3, [.ref p1_kinds, .ref p1_holds, .ref p1_takes, .ref p1_shareCounts, .ref p1_shares, .int vp1_size]))] sz)) 0 0 (va_A [(o, .inr (0, [.ref o_inside, .long vo_spilt])), (o_inside, .inl (cJ, 9, .inr (.inl vo_inside))), (p1, .inr (3, [.ref p1_kinds, .ref p1_holds, .ref p1_takes, .ref p1_shareCounts, .ref p1_shares, .int vp1_size]))] sz) := by
  refine Met.ofW (cc := cX0_howManyWithNothing) (maxL := 4) (ret := (some .int)) (by decide) rfl ?_
  intro p e s m args below meth c s₁ B hml hv
  obtain ⟨rfl, hsz, hP, hK, hD0⟩ := hv
  have hx := B.exec
  have hb := B.bytes
  have hr := B.returns
  have hts := atoms_spec (ws := wsX0_howManyWithNothing) B.pre
  have hown : s.vm.findClass RX0 = some m.cls := findClass_of_methodNamed B.named
  have hlocks := B.notSynchronized
  subst hsz
  have hD := hD0.self (sz := s.heap.size)
  generalize hAe : va_A [(o, .inr (0, [.ref o_inside, .long vo_spilt])), (o_inside, .inl (cJ, 9, .inr (.inl vo_inside))), (p1, .inr (3, [.ref p1_kinds, .ref p1_holds, .ref p1_takes, .ref p1_shareCounts, .ref p1_shares, .int vp1_size]))] s.heap.size = A at hD ⊢
  have hA : ∀ q : Nat, s.heap.size ≤ q → A q := fun q h => by rw [← hAe]; exact Or.inr h
  have hS : va_S A s.heap s.heap [] := va_S.rf
  have hP : va_P (dC, dI) vwCl [(o, .inr (0, [.ref o_inside, .long vo_spilt])), (o_inside, .inl (cJ, 9, .inr (.inl vo_inside))), (p1, .inr (3, [.ref p1_kinds, .ref p1_holds, .ref p1_takes, .ref p1_shareCounts, .ref p1_shares, .int vp1_size]))] s.heap := hP
  have hK : va_K (dC, dI) vwCl (zTy cI cJ cC) s := hK
  have hl := lv_entry ([.ref o, .ref p1]) (n := 4) (Nat.le_of_ble_eq_true rfl)
  rw [lg_entry_eq]
  generalize (lg_sl ([.ref o, .ref p1]) ++ List.replicate (4 - (lg_sl ([.ref o, .ref p1])).length) Slot.unset).toArray = ls at hl ⊢
  have hl : lv_has ls 4 [(0, .ref o), (1, .ref p1)] := hl
  refine zz_start hP hS (fun Q hQ H locs hP hS => ?_)
  have hwX0 : ∀ w ∈ u_ws RX0 TX0 2, w ∈ wsX0_howManyWithNothing := by decide +kernel
  have hwX3 : ∀ w ∈ u_ws RX3 TX3 6, w ∈ wsX0_howManyWithNothing := by decide +kernel
  have hf_43 := (hts (.fieldLink RX0 43 "PouredTopmost$Stand" "size" "I") (by decide +kernel))
  have hf_9 := (hts (.fieldLink RX0 9 "PouredTopmost$Fill" "inside" "[J") (by decide +kernel))
  refine lv_iconst (v := (0 : Int32)) hx hb dX0_howManyWithNothing_0 (by decide) ?_
  refine lv_istore_n (lv' := [(2, .int (0 : Int32)), (0, .ref o), (1, .ref p1)]) hx hb dX0_howManyWithNothing_1 rfl hl (by decide) rfl (fun ls hl => ?_)
  refine lv_iconst (v := (0 : Int32)) hx hb dX0_howManyWithNothing_2 (by decide) ?_
  refine lv_istore_n (lv' := [(3, .int (0 : Int32)), (2, .int (0 : Int32)), (0, .ref o), (1, .ref p1)]) hx hb dX0_howManyWithNothing_3 rfl hl (by decide) rfl (fun ls hl => ?_)
  have hz_4 : ((0 : Int32)).toInt = 0 := by decide
  have hz_5 : ((0 : Int32)).toInt = 0 := by decide
  refine zz_loop (α := Int32 × Int32) 32 (fun k a H locs ls => (0 ≤ a.1.toInt) ∧ (a.1.toInt ≤ vp1_size.toInt) ∧ (vp1_size.toInt - a.1.toInt < ((k : Nat) : Int)) ∧ lp_X0_howManyWithNothing_2 vp1_size rs_X0_howManyWithNothing_2 vo_inside k a.1 a.2 = r ∧ va_P (dC, dI) vwCl [(o, .inr (0, [.ref o_inside, .long vo_spilt])), (o_inside, .inl (cJ, 9, .inr (.inl vo_inside))), (p1, .inr (3, [.ref p1_kinds, .ref p1_holds, .ref p1_takes, .ref p1_shareCounts, .ref p1_shares, .int vp1_size]))] H ∧ va_D A [(o, .inr (0, [.ref o_inside, .long vo_spilt])), (o_inside, .inl (cJ, 9, .inr (.inl vo_inside))), (p1, .inr (3, [.ref p1_kinds, .ref p1_holds, .ref p1_takes, .ref p1_shareCounts, .ref p1_shares, .int vp1_size]))] ∧ va_S A s.heap H locs ∧ lv_has ls 4 [(3, .int a.1), (2, .int a.2), (0, .ref o), (1, .ref p1)]) (fun a H locs ls => (0 ≤ a.1.toInt) ∧ (a.1.toInt ≤ vp1_size.toInt) ∧ rs_X0_howManyWithNothing_2 a.1 a.2 = r ∧ va_P (dC, dI) vwCl [(o, .inr (0, [.ref o_inside, .long vo_spilt])), (o_inside, .inl (cJ, 9, .inr (.inl vo_inside))), (p1, .inr (3, [.ref p1_kinds, .ref p1_holds, .ref p1_takes, .ref p1_shareCounts, .ref p1_shares, .int vp1_size]))] H ∧ va_D A [(o, .inr (0, [.ref o_inside, .long vo_spilt])), (o_inside, .inl (cJ, 9, .inr (.inl vo_inside))), (p1, .inr (3, [.ref p1_kinds, .ref p1_holds, .ref p1_takes, .ref p1_shareCounts, .ref p1_shares, .int vp1_size]))] ∧ va_S A s.heap H locs ∧ lv_has ls 4 [(2, .int a.2)]) ?_ ?_ ?_ 11 ((0 : Int32), (0 : Int32)) ⟨(by omega : 0 ≤ (0 : Int32).toInt), (by omega : (0 : Int32).toInt ≤ vp1_size.toInt), (by omega : vp1_size.toInt - (0 : Int32).toInt < ((11 : Nat) : Int)), hT, hP.sub [0, 1, 2] rfl, hD.sub [0, 1, 2] rfl rfl, hS, lv_sub hl [0, 1, 2, 3] rfl⟩
  · rintro ⟨x3, x4⟩ H locs ls ⟨i1, j1, hT, hP, hD, hS, hl⟩
    have hP : va_P (dC, dI) vwCl [(o, .inr (0, [.ref o_inside, .long vo_spilt])), (o_inside, .inl (cJ, 9, .inr (.inl vo_inside))), (p1, .inr (3, [.ref p1_kinds, .ref p1_holds, .ref p1_takes, .ref p1_shareCounts, .ref p1_shares, .int vp1_size]))] H := hP
    have hD : va_D A [(o, .inr (0, [.ref o_inside, .long vo_spilt])), (o_inside, .inl (cJ, 9, .inr (.inl vo_inside))), (p1, .inr (3, [.ref p1_kinds, .ref p1_holds, .ref p1_takes, .ref p1_shareCounts, .ref p1_shares, .int vp1_size]))] := hD
    have hl : lv_has ls 4 [(2, .int x4)] := hl
    have hT : rs_X0_howManyWithNothing_2 x3 x4 = r := hT
    have i1 : 0 ≤ x3.toInt := i1
    have j1 : x3.toInt ≤ vp1_size.toInt := j1
    refine lv_iload_n hx hb dX0_howManyWithNothing_32 rfl (lv_at hl 0 rfl) ?_
    have hP9 := hP
    have hD9 := hD
    have hS9 := hS
    have hT : x4 = r := hT
    subst hT
    subst hQ
    exact zz_iret hx hb hr [0, 1, 2] hK hP9 hD9 hS9 rfl rfl trivial hlocks dX0_howManyWithNothing_33
  · rintro ⟨b1, b2⟩ H locs ls ⟨i1, j1, hm, -⟩
    try dsimp only at *
    omega
  · intro k2 hex2 ih2
    rintro ⟨b1, b2⟩ H locs ls ⟨i1, j1, hm2, hT, hP, hD, hS, hl⟩
    have hP : va_P (dC, dI) vwCl [(o, .inr (0, [.ref o_inside, .long vo_spilt])), (o_inside, .inl (cJ, 9, .inr (.inl vo_inside))), (p1, .inr (3, [.ref p1_kinds, .ref p1_holds, .ref p1_takes, .ref p1_shareCounts, .ref p1_shares, .int vp1_size]))] H := hP
    have hD : va_D A [(o, .inr (0, [.ref o_inside, .long vo_spilt])), (o_inside, .inl (cJ, 9, .inr (.inl vo_inside))), (p1, .inr (3, [.ref p1_kinds, .ref p1_holds, .ref p1_takes, .ref p1_shareCounts, .ref p1_shares, .int vp1_size]))] := hD
    have hl : lv_has ls 4 [(3, .int b1), (2, .int b2), (0, .ref o), (1, .ref p1)] := hl
    have hT : lp_X0_howManyWithNothing_2 vp1_size rs_X0_howManyWithNothing_2 vo_inside (k2 + 1) b1 b2 = r := hT
    have i1 : 0 ≤ b1.toInt := i1
    have j1 : b1.toInt ≤ vp1_size.toInt := j1
    have hm2 : vp1_size.toInt - b1.toInt < (((k2 + 1) : Nat) : Int) := hm2
    try simp only [Int.natCast_add, Int.natCast_one, Nat.cast_add, Nat.cast_one] at hm2
    refine lv_iload_n hx hb dX0_howManyWithNothing_4 rfl (lv_at hl 0 rfl) ?_
    refine lv_aload_n hx hb dX0_howManyWithNothing_5 rfl (lv_at hl 3 rfl) ?_
    refine va_get (D := (dC, dI)) (ci := 3) (v := .int vp1_size) (C := RX3) (T := TX3) (N := 6) hx hb hts hwX3 hown hK hP 2 rfl rfl 5 (by decide) hf_43 (fun _ h9 => h9) rfl dX0_howManyWithNothing_6 ?_
    refine lv_icmp_ge (tgt := 32) hx hb dX0_howManyWithNothing_9 (by decide) (fun c_1 => ?_) (fun c_1 => ?_)
    · replace hT := cutT c_1 hT
      have g_6 := zleT (rfl : (vp1_size).toInt = _) (rfl : (b1).toInt = _) c_1
      exact hex2 (b1, b2) _ _ _ ⟨(by omega : 0 ≤ b1.toInt), (by omega : b1.toInt ≤ vp1_size.toInt), hT, hP.sub [0, 1, 2] rfl, hD.sub [0, 1, 2] rfl rfl, hS, lv_sub hl [1] rfl⟩
    · replace hT := cutF c_1 hT
      have g_7 := zleF (rfl : (vp1_size).toInt = _) (rfl : (b1).toInt = _) c_1
      refine lv_aload_n hx hb dX0_howManyWithNothing_12 rfl (lv_at hl 2 rfl) ?_
      refine va_get (D := (dC, dI)) (ci := 0) (v := .ref o_inside) (C := RX0) (T := TX0) (N := 2) hx hb hts hwX0 hown hK hP 0 rfl rfl 0 (by decide) hf_9 (fun _ h9 => h9) rfl dX0_howManyWithNothing_13 ?_
      refine lv_iload_n hx hb dX0_howManyWithNothing_16 rfl (lv_at hl 0 rfl) ?_
      have h_2 : vp_in b1 9 := zin (by omega) (by omega)
      refine va_lald hx hb hK hP 1 1 rfl rfl h_2 dX0_howManyWithNothing_17 ?_
      refine lv_lconst (v := (0 : Int64)) hx hb dX0_howManyWithNothing_18 (by decide) ?_
      refine W.lcmp hx hb dX0_howManyWithNothing_19 ?_
      have hz_8 : ((0 : Int64)).toInt = 0 := by decide
      refine lv_if_ne (tgt := 26) hx hb dX0_howManyWithNothing_20 (by decide) (fun c_3 => ?_) (fun c_3 => ?_)
      · replace hT := cutF c_3 hT
        have g_9 := mt zlc_eq.mpr c_3
        obtain ⟨v5, ev5⟩ : ∃ y : Int32, (b1 + (1 : Int32)) = y := ⟨_, rfl⟩
        replace hT := cut_n ev5 hT
        try have fv5 := zaddE (rfl : (b1).toInt = _) (by decide : ((1 : Int32)).toInt = 1) ev5 (by omega) (by omega)
        refine lv_iinc (v := v5) (lv' := [(3, .int v5), (2, .int b2), (0, .ref o), (1, .ref p1)]) hx hb dX0_howManyWithNothing_26 hl (k := 0) rfl (by rw [← ev5]; rfl) (by decide) rfl (fun ls hl => ?_)
        refine lv_goto (tgt := 4) hx hb dX0_howManyWithNothing_29 (by decide) ?_
        exact ih2 (v5, b2) _ _ _ ⟨(by omega : 0 ≤ v5.toInt), (by omega : v5.toInt ≤ vp1_size.toInt), (by omega : vp1_size.toInt - v5.toInt < ((k2 : Nat) : Int)), hT, hP.sub [0, 1, 2] rfl, hD.sub [0, 1, 2] rfl rfl, hS, lv_sub hl [0, 1, 2, 3] rfl⟩
      · replace hT := cutT c_3 hT
        have g_10 := zlc_eq.mp c_3
        obtain ⟨v6, ev6⟩ : ∃ y : Int32, (b2 + (1 : Int32)) = y := ⟨_, rfl⟩
        replace hT := cut_n ev6 hT
        try have fv6 := zaddE (rfl : (b2).toInt = _) (by decide : ((1 : Int32)).toInt = 1) ev6 (by omega) (by omega)
        refine lv_iinc (v := v6) (lv' := [(2, .int v6), (3, .int b1), (0, .ref o), (1, .ref p1)]) hx hb dX0_howManyWithNothing_23 hl (k := 1) rfl (by rw [← ev6]; rfl) (by decide) rfl (fun ls hl => ?_)
        obtain ⟨v7, ev7⟩ : ∃ y : Int32, (b1 + (1 : Int32)) = y := ⟨_, rfl⟩
        replace hT := cut_n ev7 hT
        try have fv7 := zaddE (rfl : (b1).toInt = _) (by decide : ((1 : Int32)).toInt = 1) ev7 (by omega) (by omega)
        refine lv_iinc (v := v7) (lv' := [(3, .int v7), (2, .int v6), (0, .ref o), (1, .ref p1)]) hx hb dX0_howManyWithNothing_26 hl (k := 1) rfl (by rw [← ev7]; rfl) (by decide) rfl (fun ls hl => ?_)
        refine lv_goto (tgt := 4) hx hb dX0_howManyWithNothing_29 (by decide) ?_
        exact ih2 (v7, v6) _ _ _ ⟨(by omega : 0 ≤ v7.toInt), (by omega : v7.toInt ≤ vp1_size.toInt), (by omega : vp1_size.toInt - v7.toInt < ((k2 : Nat) : Int)), hT, hP.sub [0, 1, 2] rfl, hD.sub [0, 1, 2] rfl rfl, hS, lv_sub hl [0, 1, 2, 3] rfl⟩

def rs_X0_areAlike_2  (x3 : Int32) (x4 : Int64) : Int32 :=
 (1 : Int32)
def lp_X0_areAlike_2 (ct2 : Int32 → Int64 → (Int32)) (p1 : Int32) (vo_inside : Nat → Int64) : Nat → Int32 → Int64 → (Int32)
  | 0, _, _ => default
  | k + 1, b1, b2 =>
  if (9 : Int32) ≤ b1 then
   (ct2 b1 b2)
  else
   if ((p1 >>> (b1 &&& 31)) &&& (1 : Int32)) = (1 : Int32) then
    if (lg_cmp (vo_inside b1.toNatClampNeg) (0 : Int64)) = (0 : Int32) then
     (0 : Int32)
    else
     if (lg_cmp b2 (0 : Int64)) = (0 : Int32) then
      cut (vo_inside b1.toNatClampNeg) (fun (v6 : Int64) =>
      cut (b1 + (1 : Int32)) (fun (v7 : Int32) =>
      (lp_X0_areAlike_2 ct2 p1 vo_inside k v7 v6)))
     else
      if (lg_cmp (vo_inside b1.toNatClampNeg) b2) = (0 : Int32) then
       cut (vo_inside b1.toNatClampNeg) (fun (v8 : Int64) =>
       cut (b1 + (1 : Int32)) (fun (v9 : Int32) =>
       (lp_X0_areAlike_2 ct2 p1 vo_inside k v9 v8)))
      else
       (0 : Int32)
   else
    cut (b1 + (1 : Int32)) (fun (v5 : Int32) =>
    (lp_X0_areAlike_2 ct2 p1 vo_inside k v5 b2))
def m_X0_areAlike (vo_inside : Nat → Int64) (p1 : Int32) : Int32 :=
 (lp_X0_areAlike_2 rs_X0_areAlike_2 p1 vo_inside 11 (0 : Int32) (0 : Int64))
set_option maxHeartbeats 4000000 in
set_option maxRecDepth 100000 in
theorem k_X0_areAlike (l : Launch) (dC : Nat → ClassId) (dI : Nat → Nat → Nat) (cI cJ cC : ClassId) (sz : Nat) (o o_inside : Nat) (vo_spilt : Int64) (vo_inside : Nat → Int64) (p1 : Int32) (r : Int32) (hT : m_X0_areAlike vo_inside p1 = r) : Met l yX0_areAlike wsX0_areAlike ({ frames := 0, cells := 0, slots := 0, locals := 0 }) (zPc [.ref o, .int p1] (dC, dI) (zTy cI cJ cC) [(o, .inr (0, [.ref o_inside, .long vo_spilt])), (o_inside, .inl (cJ, 9, .inr (.inl vo_inside)))] sz) (zQi r ((zB01 r)) (dC, dI) (zTy cI cJ cC) [(o, .inr (0, [.ref o_inside, .long vo_spilt])), (o_inside, .inl (cJ, 9, .inr (.inl vo_inside)))] (va_A [(o, .inr (0, [.ref o_inside, .long vo_spilt])), (o_inside, .inl (cJ, 9, .inr (.inl vo_inside)))] sz)) 0 0 (va_A [(o, .inr (0, [.ref o_inside, .long vo_spilt])), (o_inside, .inl (cJ, 9, .inr (.inl vo_inside)))] sz) := by
  refine Met.ofW (cc := cX0_areAlike) (maxL := 5) (ret := (some .boolean)) (by decide) rfl ?_
  intro p e s m args below meth c s₁ B hml hv
  obtain ⟨rfl, hsz, hP, hK, hD0⟩ := hv
  have hx := B.exec
  have hb := B.bytes
  have hr := B.returns
  have hts := atoms_spec (ws := wsX0_areAlike) B.pre
  have hown : s.vm.findClass RX0 = some m.cls := findClass_of_methodNamed B.named
  have hlocks := B.notSynchronized
  subst hsz
  have hD := hD0.self (sz := s.heap.size)
  generalize hAe : va_A [(o, .inr (0, [.ref o_inside, .long vo_spilt])), (o_inside, .inl (cJ, 9, .inr (.inl vo_inside)))] s.heap.size = A at hD ⊢
  have hA : ∀ q : Nat, s.heap.size ≤ q → A q := fun q h => by rw [← hAe]; exact Or.inr h
  have hS : va_S A s.heap s.heap [] := va_S.rf
  have hP : va_P (dC, dI) vwCl [(o, .inr (0, [.ref o_inside, .long vo_spilt])), (o_inside, .inl (cJ, 9, .inr (.inl vo_inside)))] s.heap := hP
  have hK : va_K (dC, dI) vwCl (zTy cI cJ cC) s := hK
  have hl := lv_entry ([.ref o, .int p1]) (n := 5) (Nat.le_of_ble_eq_true rfl)
  rw [lg_entry_eq]
  generalize (lg_sl ([.ref o, .int p1]) ++ List.replicate (5 - (lg_sl ([.ref o, .int p1])).length) Slot.unset).toArray = ls at hl ⊢
  have hl : lv_has ls 5 [(0, .ref o), (1, .int p1)] := hl
  refine zz_start hP hS (fun Q hQ H locs hP hS => ?_)
  have hwX0 : ∀ w ∈ u_ws RX0 TX0 2, w ∈ wsX0_areAlike := by decide +kernel
  have hf_9 := (hts (.fieldLink RX0 9 "PouredTopmost$Fill" "inside" "[J") (by decide +kernel))
  refine lv_lconst (v := (0 : Int64)) hx hb dX0_areAlike_0 (by decide) ?_
  refine lv_lstore_n (lv' := [(2, .long (0 : Int64)), (0, .ref o), (1, .int p1)]) hx hb dX0_areAlike_1 rfl hl (by decide) rfl (fun ls hl => ?_)
  refine lv_iconst (v := (0 : Int32)) hx hb dX0_areAlike_2 (by decide) ?_
  refine lv_istore (lv' := [(4, .int (0 : Int32)), (2, .long (0 : Int64)), (0, .ref o), (1, .int p1)]) hx hb dX0_areAlike_3 hl (by decide) rfl (fun ls hl => ?_)
  have hz_10 : ((0 : Int32)).toInt = 0 := by decide
  refine zz_loop (α := Int32 × Int64) 71 (fun k a H locs ls => (0 ≤ a.1.toInt) ∧ (a.1.toInt ≤ 9) ∧ (9 - a.1.toInt < ((k : Nat) : Int)) ∧ lp_X0_areAlike_2 rs_X0_areAlike_2 p1 vo_inside k a.1 a.2 = r ∧ va_P (dC, dI) vwCl [(o, .inr (0, [.ref o_inside, .long vo_spilt])), (o_inside, .inl (cJ, 9, .inr (.inl vo_inside)))] H ∧ va_D A [(o, .inr (0, [.ref o_inside, .long vo_spilt])), (o_inside, .inl (cJ, 9, .inr (.inl vo_inside)))] ∧ va_S A s.heap H locs ∧ lv_has ls 5 [(4, .int a.1), (2, .long a.2), (0, .ref o), (1, .int p1)]) (fun a H locs ls => (0 ≤ a.1.toInt) ∧ (a.1.toInt ≤ 9) ∧ rs_X0_areAlike_2 a.1 a.2 = r ∧ va_P (dC, dI) vwCl [(o, .inr (0, [.ref o_inside, .long vo_spilt])), (o_inside, .inl (cJ, 9, .inr (.inl vo_inside)))] H ∧ va_D A [(o, .inr (0, [.ref o_inside, .long vo_spilt])), (o_inside, .inl (cJ, 9, .inr (.inl vo_inside)))] ∧ va_S A s.heap H locs ∧ lv_has ls 5 []) ?_ ?_ ?_ 11 ((0 : Int32), (0 : Int64)) ⟨(by omega : 0 ≤ (0 : Int32).toInt), (by omega : (0 : Int32).toInt ≤ 9), (by omega : 9 - (0 : Int32).toInt < ((11 : Nat) : Int)), hT, hP.sub [0, 1] rfl, hD.sub [0, 1] rfl rfl, hS, lv_sub hl [0, 1, 2, 3] rfl⟩
  · rintro ⟨x3, x4⟩ H locs ls ⟨i1, j1, hT, hP, hD, hS, hl⟩
    have hP : va_P (dC, dI) vwCl [(o, .inr (0, [.ref o_inside, .long vo_spilt])), (o_inside, .inl (cJ, 9, .inr (.inl vo_inside)))] H := hP
    have hD : va_D A [(o, .inr (0, [.ref o_inside, .long vo_spilt])), (o_inside, .inl (cJ, 9, .inr (.inl vo_inside)))] := hD
    have hl : lv_has ls 5 [] := hl
    have hT : rs_X0_areAlike_2 x3 x4 = r := hT
    have i1 : 0 ≤ x3.toInt := i1
    have j1 : x3.toInt ≤ 9 := j1
    refine lv_iconst (v := (1 : Int32)) hx hb dX0_areAlike_71 (by decide) ?_
    have hP9 := hP
    have hD9 := hD
    have hS9 := hS
    have hT : (1 : Int32) = r := hT
    subst hT
    subst hQ
    exact zz_zret hx hb hr rfl [0, 1] hK hP9 hD9 hS9 rfl rfl (Or.inr rfl) hlocks dX0_areAlike_72
  · rintro ⟨b1, b2⟩ H locs ls ⟨i1, j1, hm, -⟩
    try dsimp only at *
    omega
  · intro k2 hex2 ih2
    rintro ⟨b1, b2⟩ H locs ls ⟨i1, j1, hm2, hT, hP, hD, hS, hl⟩
    have hP : va_P (dC, dI) vwCl [(o, .inr (0, [.ref o_inside, .long vo_spilt])), (o_inside, .inl (cJ, 9, .inr (.inl vo_inside)))] H := hP
    have hD : va_D A [(o, .inr (0, [.ref o_inside, .long vo_spilt])), (o_inside, .inl (cJ, 9, .inr (.inl vo_inside)))] := hD
    have hl : lv_has ls 5 [(4, .int b1), (2, .long b2), (0, .ref o), (1, .int p1)] := hl
    have hT : lp_X0_areAlike_2 rs_X0_areAlike_2 p1 vo_inside (k2 + 1) b1 b2 = r := hT
    have i1 : 0 ≤ b1.toInt := i1
    have j1 : b1.toInt ≤ 9 := j1
    have hm2 : 9 - b1.toInt < (((k2 + 1) : Nat) : Int) := hm2
    try simp only [Int.natCast_add, Int.natCast_one, Nat.cast_add, Nat.cast_one] at hm2
    refine lv_iload hx hb dX0_areAlike_5 (lv_at hl 0 rfl) ?_
    refine lv_aload_n hx hb dX0_areAlike_7 rfl (lv_at hl 2 rfl) ?_
    refine va_get (D := (dC, dI)) (ci := 0) (v := .ref o_inside) (C := RX0) (T := TX0) (N := 2) hx hb hts hwX0 hown hK hP 0 rfl rfl 0 (by decide) hf_9 (fun _ h9 => h9) rfl dX0_areAlike_8 ?_
    refine va_alen (v := (9 : Int32)) hx hb hK hP 1 1 rfl rfl rfl dX0_areAlike_11 ?_
    refine lv_icmp_ge (tgt := 71) hx hb dX0_areAlike_12 (by decide) (fun c_1 => ?_) (fun c_1 => ?_)
    · replace hT := cutT c_1 hT
      have g_11 := zleT (by decide : ((9 : Int32)).toInt = 9) (rfl : (b1).toInt = _) c_1
      exact hex2 (b1, b2) _ _ _ ⟨(by omega : 0 ≤ b1.toInt), (by omega : b1.toInt ≤ 9), hT, hP.sub [0, 1] rfl, hD.sub [0, 1] rfl rfl, hS, lv_sub hl [] rfl⟩
    · replace hT := cutF c_1 hT
      have g_12 := zleF (by decide : ((9 : Int32)).toInt = 9) (rfl : (b1).toInt = _) c_1
      refine lv_iload_n hx hb dX0_areAlike_15 rfl (lv_at hl 3 rfl) ?_
      refine lv_iload hx hb dX0_areAlike_16 (lv_at hl 0 rfl) ?_
      refine lv_ishr hx hb dX0_areAlike_18 ?_
      refine lv_iconst (v := (1 : Int32)) hx hb dX0_areAlike_19 (by decide) ?_
      refine lv_iand hx hb dX0_areAlike_20 ?_
      refine lv_iconst (v := (1 : Int32)) hx hb dX0_areAlike_21 (by decide) ?_
      refine lv_icmp_ne (tgt := 65) hx hb dX0_areAlike_22 (by decide) (fun c_2 => ?_) (fun c_2 => ?_)
      · replace hT := cutF c_2 hT
        have g_13 := zeqF (rfl : (((p1 >>> (b1 &&& 31)) &&& (1 : Int32))).toInt = _) (by decide : ((1 : Int32)).toInt = 1) c_2
        obtain ⟨v5, ev5⟩ : ∃ y : Int32, (b1 + (1 : Int32)) = y := ⟨_, rfl⟩
        replace hT := cut_n ev5 hT
        try have fv5 := zaddE (rfl : (b1).toInt = _) (by decide : ((1 : Int32)).toInt = 1) ev5 (by omega) (by omega)
        refine lv_iinc (v := v5) (lv' := [(4, .int v5), (2, .long b2), (0, .ref o), (1, .int p1)]) hx hb dX0_areAlike_65 hl (k := 0) rfl (by rw [← ev5]; rfl) (by decide) rfl (fun ls hl => ?_)
        refine lv_goto (tgt := 5) hx hb dX0_areAlike_68 (by decide) ?_
        exact ih2 (v5, b2) _ _ _ ⟨(by omega : 0 ≤ v5.toInt), (by omega : v5.toInt ≤ 9), (by omega : 9 - v5.toInt < ((k2 : Nat) : Int)), hT, hP.sub [0, 1] rfl, hD.sub [0, 1] rfl rfl, hS, lv_sub hl [0, 1, 2, 3] rfl⟩
      · replace hT := cutT c_2 hT
        have g_14 := zeqT (rfl : (((p1 >>> (b1 &&& 31)) &&& (1 : Int32))).toInt = _) (by decide : ((1 : Int32)).toInt = 1) c_2
        refine lv_aload_n hx hb dX0_areAlike_25 rfl (lv_at hl 2 rfl) ?_
        refine va_get (D := (dC, dI)) (ci := 0) (v := .ref o_inside) (C := RX0) (T := TX0) (N := 2) hx hb hts hwX0 hown hK hP 0 rfl rfl 0 (by decide) hf_9 (fun _ h9 => h9) rfl dX0_areAlike_26 ?_
        refine lv_iload hx hb dX0_areAlike_29 (lv_at hl 0 rfl) ?_
        have h_3 : vp_in b1 9 := zin (by omega) (by omega)
        refine va_lald hx hb hK hP 1 1 rfl rfl h_3 dX0_areAlike_31 ?_
        refine lv_lconst (v := (0 : Int64)) hx hb dX0_areAlike_32 (by decide) ?_
        refine W.lcmp hx hb dX0_areAlike_33 ?_
        have hz_15 : ((0 : Int64)).toInt = 0 := by decide
        refine lv_if_eq (tgt := 55) hx hb dX0_areAlike_34 (by decide) (fun c_4 => ?_) (fun c_4 => ?_)
        · replace hT := cutT c_4 hT
          have g_16 := zlc_eq.mp c_4
          refine lv_iconst (v := (0 : Int32)) hx hb dX0_areAlike_55 (by decide) ?_
          have hP9 := hP
          have hD9 := hD
          have hS9 := hS
          have hT : (0 : Int32) = r := hT
          subst hT
          subst hQ
          exact zz_zret hx hb hr rfl [0, 1] hK hP9 hD9 hS9 rfl rfl (Or.inl rfl) hlocks dX0_areAlike_56
        · replace hT := cutF c_4 hT
          have g_17 := mt zlc_eq.mpr c_4
          refine lv_lload_n hx hb dX0_areAlike_37 rfl (lv_at hl 1 rfl) ?_
          refine lv_lconst (v := (0 : Int64)) hx hb dX0_areAlike_38 (by decide) ?_
          refine W.lcmp hx hb dX0_areAlike_39 ?_
          have hz_18 : ((0 : Int64)).toInt = 0 := by decide
          refine lv_if_eq (tgt := 57) hx hb dX0_areAlike_40 (by decide) (fun c_5 => ?_) (fun c_5 => ?_)
          · replace hT := cutT c_5 hT
            have g_19 := zlc_eq.mp c_5
            refine lv_aload_n hx hb dX0_areAlike_57 rfl (lv_at hl 2 rfl) ?_
            refine va_get (D := (dC, dI)) (ci := 0) (v := .ref o_inside) (C := RX0) (T := TX0) (N := 2) hx hb hts hwX0 hown hK hP 0 rfl rfl 0 (by decide) hf_9 (fun _ h9 => h9) rfl dX0_areAlike_58 ?_
            refine lv_iload hx hb dX0_areAlike_61 (lv_at hl 0 rfl) ?_
            have h_6 : vp_in b1 9 := zin (by omega) (by omega)
            refine va_lald hx hb hK hP 1 1 rfl rfl h_6 dX0_areAlike_63 ?_
            refine lv_topl (fun v6 ev6 => ?_)
            replace hT := cut_n ev6.symm hT
            refine lv_lstore_n (lv' := [(2, .long v6), (4, .int b1), (0, .ref o), (1, .int p1)]) hx hb dX0_areAlike_64 rfl hl (by decide) rfl (fun ls hl => ?_)
            obtain ⟨v7, ev7⟩ : ∃ y : Int32, (b1 + (1 : Int32)) = y := ⟨_, rfl⟩
            replace hT := cut_n ev7 hT
            try have fv7 := zaddE (rfl : (b1).toInt = _) (by decide : ((1 : Int32)).toInt = 1) ev7 (by omega) (by omega)
            refine lv_iinc (v := v7) (lv' := [(4, .int v7), (2, .long v6), (0, .ref o), (1, .int p1)]) hx hb dX0_areAlike_65 hl (k := 1) rfl (by rw [← ev7]; rfl) (by decide) rfl (fun ls hl => ?_)
            refine lv_goto (tgt := 5) hx hb dX0_areAlike_68 (by decide) ?_
            exact ih2 (v7, v6) _ _ _ ⟨(by omega : 0 ≤ v7.toInt), (by omega : v7.toInt ≤ 9), (by omega : 9 - v7.toInt < ((k2 : Nat) : Int)), hT, hP.sub [0, 1] rfl, hD.sub [0, 1] rfl rfl, hS, lv_sub hl [0, 1, 2, 3] rfl⟩
          · replace hT := cutF c_5 hT
            have g_20 := mt zlc_eq.mpr c_5
            refine lv_aload_n hx hb dX0_areAlike_43 rfl (lv_at hl 2 rfl) ?_
            refine va_get (D := (dC, dI)) (ci := 0) (v := .ref o_inside) (C := RX0) (T := TX0) (N := 2) hx hb hts hwX0 hown hK hP 0 rfl rfl 0 (by decide) hf_9 (fun _ h9 => h9) rfl dX0_areAlike_44 ?_
            refine lv_iload hx hb dX0_areAlike_47 (lv_at hl 0 rfl) ?_
            have h_7 : vp_in b1 9 := zin (by omega) (by omega)
            refine va_lald hx hb hK hP 1 1 rfl rfl h_7 dX0_areAlike_49 ?_
            refine lv_lload_n hx hb dX0_areAlike_50 rfl (lv_at hl 1 rfl) ?_
            refine W.lcmp hx hb dX0_areAlike_51 ?_
            refine lv_if_eq (tgt := 57) hx hb dX0_areAlike_52 (by decide) (fun c_8 => ?_) (fun c_8 => ?_)
            · replace hT := cutT c_8 hT
              have g_21 := zlc_eq.mp c_8
              refine lv_aload_n hx hb dX0_areAlike_57 rfl (lv_at hl 2 rfl) ?_
              refine va_get (D := (dC, dI)) (ci := 0) (v := .ref o_inside) (C := RX0) (T := TX0) (N := 2) hx hb hts hwX0 hown hK hP 0 rfl rfl 0 (by decide) hf_9 (fun _ h9 => h9) rfl dX0_areAlike_58 ?_
              refine lv_iload hx hb dX0_areAlike_61 (lv_at hl 0 rfl) ?_
              have h_9 : vp_in b1 9 := zin (by omega) (by omega)
              refine va_lald hx hb hK hP 1 1 rfl rfl h_9 dX0_areAlike_63 ?_
              refine lv_topl (fun v8 ev8 => ?_)
              replace hT := cut_n ev8.symm hT
              refine lv_lstore_n (lv' := [(2, .long v8), (4, .int b1), (0, .ref o), (1, .int p1)]) hx hb dX0_areAlike_64 rfl hl (by decide) rfl (fun ls hl => ?_)
              obtain ⟨v9, ev9⟩ : ∃ y : Int32, (b1 + (1 : Int32)) = y := ⟨_, rfl⟩
              replace hT := cut_n ev9 hT
              try have fv9 := zaddE (rfl : (b1).toInt = _) (by decide : ((1 : Int32)).toInt = 1) ev9 (by omega) (by omega)
              refine lv_iinc (v := v9) (lv' := [(4, .int v9), (2, .long v8), (0, .ref o), (1, .int p1)]) hx hb dX0_areAlike_65 hl (k := 1) rfl (by rw [← ev9]; rfl) (by decide) rfl (fun ls hl => ?_)
              refine lv_goto (tgt := 5) hx hb dX0_areAlike_68 (by decide) ?_
              exact ih2 (v9, v8) _ _ _ ⟨(by omega : 0 ≤ v9.toInt), (by omega : v9.toInt ≤ 9), (by omega : 9 - v9.toInt < ((k2 : Nat) : Int)), hT, hP.sub [0, 1] rfl, hD.sub [0, 1] rfl rfl, hS, lv_sub hl [0, 1, 2, 3] rfl⟩
            · replace hT := cutF c_8 hT
              have g_22 := mt zlc_eq.mpr c_8
              refine lv_iconst (v := (0 : Int32)) hx hb dX0_areAlike_55 (by decide) ?_
              have hP9 := hP
              have hD9 := hD
              have hS9 := hS
              have hT : (0 : Int32) = r := hT
              subst hT
              subst hQ
              exact zz_zret hx hb hr rfl [0, 1] hK hP9 hD9 hS9 rfl rfl (Or.inl rfl) hlocks dX0_areAlike_56

def rs_X0_standsAs_2  (x2 : Int32) : Int32 :=
 (1 : Int32)
def lp_X0_standsAs_2 (ct2 : Int32 → (Int32)) (vo_inside : Nat → Int64) (vp1_inside : Nat → Int64) : Nat → Int32 → (Int32)
  | 0, _ => default
  | k + 1, b1 =>
  if (9 : Int32) ≤ b1 then
   (ct2 b1)
  else
   if (lg_cmp (vo_inside b1.toNatClampNeg) (vp1_inside b1.toNatClampNeg)) = (0 : Int32) then
    cut (b1 + (1 : Int32)) (fun (v3 : Int32) =>
    (lp_X0_standsAs_2 ct2 vo_inside vp1_inside k v3))
   else
    (0 : Int32)
def m_X0_standsAs (vo_inside : Nat → Int64) (vp1_inside : Nat → Int64) : Int32 :=
 (lp_X0_standsAs_2 rs_X0_standsAs_2 vo_inside vp1_inside 11 (0 : Int32))
set_option maxHeartbeats 4000000 in
set_option maxRecDepth 100000 in
theorem k_X0_standsAs (l : Launch) (dC : Nat → ClassId) (dI : Nat → Nat → Nat) (cI cJ cC : ClassId) (sz : Nat) (o o_inside p1 p1_inside : Nat) (vo_spilt : Int64) (vo_inside : Nat → Int64) (vp1_spilt : Int64) (vp1_inside : Nat → Int64) (r : Int32) (hT : m_X0_standsAs vo_inside vp1_inside = r) : Met l yX0_standsAs wsX0_standsAs ({ frames := 0, cells := 0, slots := 0, locals := 0 }) (zPc [.ref o, .ref p1] (dC, dI) (zTy cI cJ cC) [(o, .inr (0, [.ref o_inside, .long vo_spilt])), (o_inside, .inl (cJ, 9, .inr (.inl vo_inside))), (p1, .inr (0, [.ref p1_inside, .long vp1_spilt])), (p1_inside, .inl (cJ, 9, .inr (.inl vp1_inside)))] sz) (zQi r ((zB01 r)) (dC, dI) (zTy cI cJ cC) [(o, .inr (0, [.ref o_inside, .long vo_spilt])), (o_inside, .inl (cJ, 9, .inr (.inl vo_inside))), (p1, .inr (0, [.ref p1_inside, .long vp1_spilt])), (p1_inside, .inl (cJ, 9, .inr (.inl vp1_inside)))] (va_A [(o, .inr (0, [.ref o_inside, .long vo_spilt])), (o_inside, .inl (cJ, 9, .inr (.inl vo_inside))), (p1, .inr (0, [.ref p1_inside, .long vp1_spilt])), (p1_inside, .inl (cJ, 9, .inr (.inl vp1_inside)))] sz)) 0 0 (va_A [(o, .inr (0, [.ref o_inside, .long vo_spilt])), (o_inside, .inl (cJ, 9, .inr (.inl vo_inside))), (p1, .inr (0, [.ref p1_inside, .long vp1_spilt])), (p1_inside, .inl (cJ, 9, .inr (.inl vp1_inside)))] sz) := by
  refine Met.ofW (cc := cX0_standsAs) (maxL := 3) (ret := (some .boolean)) (by decide) rfl ?_
  intro p e s m args below meth c s₁ B hml hv
  obtain ⟨rfl, hsz, hP, hK, hD0⟩ := hv
  have hx := B.exec
  have hb := B.bytes
  have hr := B.returns
  have hts := atoms_spec (ws := wsX0_standsAs) B.pre
  have hown : s.vm.findClass RX0 = some m.cls := findClass_of_methodNamed B.named
  have hlocks := B.notSynchronized
  subst hsz
  have hD := hD0.self (sz := s.heap.size)
  generalize hAe : va_A [(o, .inr (0, [.ref o_inside, .long vo_spilt])), (o_inside, .inl (cJ, 9, .inr (.inl vo_inside))), (p1, .inr (0, [.ref p1_inside, .long vp1_spilt])), (p1_inside, .inl (cJ, 9, .inr (.inl vp1_inside)))] s.heap.size = A at hD ⊢
  have hA : ∀ q : Nat, s.heap.size ≤ q → A q := fun q h => by rw [← hAe]; exact Or.inr h
  have hS : va_S A s.heap s.heap [] := va_S.rf
  have hP : va_P (dC, dI) vwCl [(o, .inr (0, [.ref o_inside, .long vo_spilt])), (o_inside, .inl (cJ, 9, .inr (.inl vo_inside))), (p1, .inr (0, [.ref p1_inside, .long vp1_spilt])), (p1_inside, .inl (cJ, 9, .inr (.inl vp1_inside)))] s.heap := hP
  have hK : va_K (dC, dI) vwCl (zTy cI cJ cC) s := hK
  have hl := lv_entry ([.ref o, .ref p1]) (n := 3) (Nat.le_of_ble_eq_true rfl)
  rw [lg_entry_eq]
  generalize (lg_sl ([.ref o, .ref p1]) ++ List.replicate (3 - (lg_sl ([.ref o, .ref p1])).length) Slot.unset).toArray = ls at hl ⊢
  have hl : lv_has ls 3 [(0, .ref o), (1, .ref p1)] := hl
  refine zz_start hP hS (fun Q hQ H locs hP hS => ?_)
  have hwX0 : ∀ w ∈ u_ws RX0 TX0 2, w ∈ wsX0_standsAs := by decide +kernel
  have hf_9 := (hts (.fieldLink RX0 9 "PouredTopmost$Fill" "inside" "[J") (by decide +kernel))
  refine lv_iconst (v := (0 : Int32)) hx hb dX0_standsAs_0 (by decide) ?_
  refine lv_istore_n (lv' := [(2, .int (0 : Int32)), (0, .ref o), (1, .ref p1)]) hx hb dX0_standsAs_1 rfl hl (by decide) rfl (fun ls hl => ?_)
  have hz_5 : ((0 : Int32)).toInt = 0 := by decide
  refine zz_loop (α := Int32) 35 (fun k a H locs ls => (0 ≤ a.toInt) ∧ (a.toInt ≤ 9) ∧ (9 - a.toInt < ((k : Nat) : Int)) ∧ lp_X0_standsAs_2 rs_X0_standsAs_2 vo_inside vp1_inside k a = r ∧ va_P (dC, dI) vwCl [(o, .inr (0, [.ref o_inside, .long vo_spilt])), (o_inside, .inl (cJ, 9, .inr (.inl vo_inside))), (p1, .inr (0, [.ref p1_inside, .long vp1_spilt])), (p1_inside, .inl (cJ, 9, .inr (.inl vp1_inside)))] H ∧ va_D A [(o, .inr (0, [.ref o_inside, .long vo_spilt])), (o_inside, .inl (cJ, 9, .inr (.inl vo_inside))), (p1, .inr (0, [.ref p1_inside, .long vp1_spilt])), (p1_inside, .inl (cJ, 9, .inr (.inl vp1_inside)))] ∧ va_S A s.heap H locs ∧ lv_has ls 3 [(2, .int a), (0, .ref o), (1, .ref p1)]) (fun a H locs ls => (0 ≤ a.toInt) ∧ (a.toInt ≤ 9) ∧ rs_X0_standsAs_2 a = r ∧ va_P (dC, dI) vwCl [(o, .inr (0, [.ref o_inside, .long vo_spilt])), (o_inside, .inl (cJ, 9, .inr (.inl vo_inside))), (p1, .inr (0, [.ref p1_inside, .long vp1_spilt])), (p1_inside, .inl (cJ, 9, .inr (.inl vp1_inside)))] H ∧ va_D A [(o, .inr (0, [.ref o_inside, .long vo_spilt])), (o_inside, .inl (cJ, 9, .inr (.inl vo_inside))), (p1, .inr (0, [.ref p1_inside, .long vp1_spilt])), (p1_inside, .inl (cJ, 9, .inr (.inl vp1_inside)))] ∧ va_S A s.heap H locs ∧ lv_has ls 3 []) ?_ ?_ ?_ 11 (0 : Int32) ⟨(by omega : 0 ≤ (0 : Int32).toInt), (by omega : (0 : Int32).toInt ≤ 9), (by omega : 9 - (0 : Int32).toInt < ((11 : Nat) : Int)), hT, hP.sub [0, 1, 2, 3] rfl, hD.sub [0, 1, 2, 3] rfl rfl, hS, lv_sub hl [0, 1, 2] rfl⟩
  · rintro x2 H locs ls ⟨i1, j1, hT, hP, hD, hS, hl⟩
    have hP : va_P (dC, dI) vwCl [(o, .inr (0, [.ref o_inside, .long vo_spilt])), (o_inside, .inl (cJ, 9, .inr (.inl vo_inside))), (p1, .inr (0, [.ref p1_inside, .long vp1_spilt])), (p1_inside, .inl (cJ, 9, .inr (.inl vp1_inside)))] H := hP
    have hD : va_D A [(o, .inr (0, [.ref o_inside, .long vo_spilt])), (o_inside, .inl (cJ, 9, .inr (.inl vo_inside))), (p1, .inr (0, [.ref p1_inside, .long vp1_spilt])), (p1_inside, .inl (cJ, 9, .inr (.inl vp1_inside)))] := hD
    have hl : lv_has ls 3 [] := hl
    have hT : rs_X0_standsAs_2 x2 = r := hT
    have i1 : 0 ≤ x2.toInt := i1
    have j1 : x2.toInt ≤ 9 := j1
    refine lv_iconst (v := (1 : Int32)) hx hb dX0_standsAs_35 (by decide) ?_
    have hP9 := hP
    have hD9 := hD
    have hS9 := hS
    have hT : (1 : Int32) = r := hT
    subst hT
    subst hQ
    exact zz_zret hx hb hr rfl [0, 1, 2, 3] hK hP9 hD9 hS9 rfl rfl (Or.inr rfl) hlocks dX0_standsAs_36
  · rintro b1 H locs ls ⟨i1, j1, hm, -⟩
    try dsimp only at *
    omega
  · intro k2 hex2 ih2
    rintro b1 H locs ls ⟨i1, j1, hm2, hT, hP, hD, hS, hl⟩
    have hP : va_P (dC, dI) vwCl [(o, .inr (0, [.ref o_inside, .long vo_spilt])), (o_inside, .inl (cJ, 9, .inr (.inl vo_inside))), (p1, .inr (0, [.ref p1_inside, .long vp1_spilt])), (p1_inside, .inl (cJ, 9, .inr (.inl vp1_inside)))] H := hP
    have hD : va_D A [(o, .inr (0, [.ref o_inside, .long vo_spilt])), (o_inside, .inl (cJ, 9, .inr (.inl vo_inside))), (p1, .inr (0, [.ref p1_inside, .long vp1_spilt])), (p1_inside, .inl (cJ, 9, .inr (.inl vp1_inside)))] := hD
    have hl : lv_has ls 3 [(2, .int b1), (0, .ref o), (1, .ref p1)] := hl
    have hT : lp_X0_standsAs_2 rs_X0_standsAs_2 vo_inside vp1_inside (k2 + 1) b1 = r := hT
    have i1 : 0 ≤ b1.toInt := i1
    have j1 : b1.toInt ≤ 9 := j1
    have hm2 : 9 - b1.toInt < (((k2 + 1) : Nat) : Int) := hm2
    try simp only [Int.natCast_add, Int.natCast_one, Nat.cast_add, Nat.cast_one] at hm2
    refine lv_iload_n hx hb dX0_standsAs_2 rfl (lv_at hl 0 rfl) ?_
    refine lv_aload_n hx hb dX0_standsAs_3 rfl (lv_at hl 1 rfl) ?_
    refine va_get (D := (dC, dI)) (ci := 0) (v := .ref o_inside) (C := RX0) (T := TX0) (N := 2) hx hb hts hwX0 hown hK hP 0 rfl rfl 0 (by decide) hf_9 (fun _ h9 => h9) rfl dX0_standsAs_4 ?_
    refine va_alen (v := (9 : Int32)) hx hb hK hP 1 1 rfl rfl rfl dX0_standsAs_7 ?_
    refine lv_icmp_ge (tgt := 35) hx hb dX0_standsAs_8 (by decide) (fun c_1 => ?_) (fun c_1 => ?_)
    · replace hT := cutT c_1 hT
      have g_6 := zleT (by decide : ((9 : Int32)).toInt = 9) (rfl : (b1).toInt = _) c_1
      exact hex2 b1 _ _ _ ⟨(by omega : 0 ≤ b1.toInt), (by omega : b1.toInt ≤ 9), hT, hP.sub [0, 1, 2, 3] rfl, hD.sub [0, 1, 2, 3] rfl rfl, hS, lv_sub hl [] rfl⟩
    · replace hT := cutF c_1 hT
      have g_7 := zleF (by decide : ((9 : Int32)).toInt = 9) (rfl : (b1).toInt = _) c_1
      refine lv_aload_n hx hb dX0_standsAs_11 rfl (lv_at hl 1 rfl) ?_
      refine va_get (D := (dC, dI)) (ci := 0) (v := .ref o_inside) (C := RX0) (T := TX0) (N := 2) hx hb hts hwX0 hown hK hP 0 rfl rfl 0 (by decide) hf_9 (fun _ h9 => h9) rfl dX0_standsAs_12 ?_
      refine lv_iload_n hx hb dX0_standsAs_15 rfl (lv_at hl 0 rfl) ?_
      have h_2 : vp_in b1 9 := zin (by omega) (by omega)
      refine va_lald hx hb hK hP 1 1 rfl rfl h_2 dX0_standsAs_16 ?_
      refine lv_aload_n hx hb dX0_standsAs_17 rfl (lv_at hl 2 rfl) ?_
      refine va_get (D := (dC, dI)) (ci := 0) (v := .ref p1_inside) (C := RX0) (T := TX0) (N := 2) hx hb hts hwX0 hown hK hP 2 rfl rfl 0 (by decide) hf_9 (fun _ h9 => h9) rfl dX0_standsAs_18 ?_
      refine lv_iload_n hx hb dX0_standsAs_21 rfl (lv_at hl 0 rfl) ?_
      have h_3 : vp_in b1 9 := zin (by omega) (by omega)
      refine va_lald hx hb hK hP 3 1 rfl rfl h_3 dX0_standsAs_22 ?_
      refine W.lcmp hx hb dX0_standsAs_23 ?_
      refine lv_if_eq (tgt := 29) hx hb dX0_standsAs_24 (by decide) (fun c_4 => ?_) (fun c_4 => ?_)
      · replace hT := cutT c_4 hT
        have g_8 := zlc_eq.mp c_4
        obtain ⟨v3, ev3⟩ : ∃ y : Int32, (b1 + (1 : Int32)) = y := ⟨_, rfl⟩
        replace hT := cut_n ev3 hT
        try have fv3 := zaddE (rfl : (b1).toInt = _) (by decide : ((1 : Int32)).toInt = 1) ev3 (by omega) (by omega)
        refine lv_iinc (v := v3) (lv' := [(2, .int v3), (0, .ref o), (1, .ref p1)]) hx hb dX0_standsAs_29 hl (k := 0) rfl (by rw [← ev3]; rfl) (by decide) rfl (fun ls hl => ?_)
        refine lv_goto (tgt := 2) hx hb dX0_standsAs_32 (by decide) ?_
        exact ih2 v3 _ _ _ ⟨(by omega : 0 ≤ v3.toInt), (by omega : v3.toInt ≤ 9), (by omega : 9 - v3.toInt < ((k2 : Nat) : Int)), hT, hP.sub [0, 1, 2, 3] rfl, hD.sub [0, 1, 2, 3] rfl rfl, hS, lv_sub hl [0, 1, 2] rfl⟩
      · replace hT := cutF c_4 hT
        have g_9 := mt zlc_eq.mpr c_4
        refine lv_iconst (v := (0 : Int32)) hx hb dX0_standsAs_27 (by decide) ?_
        have hP9 := hP
        have hD9 := hD
        have hS9 := hS
        have hT : (0 : Int32) = r := hT
        subst hT
        subst hQ
        exact zz_zret hx hb hr rfl [0, 1, 2, 3] hK hP9 hD9 hS9 rfl rfl (Or.inl rfl) hlocks dX0_standsAs_28
