/-! what the reader of a tower needs of the machine beside its cells: the text of the kinds, and one nest mate's link -/
def zKl (j : Nat) : Int32 := ([99, 107, 108, 115] : List Int32).getD j 0
def zX (aK aV : Nat) (A : Nat → Prop) (U : State) : Prop := vk_S 1 [4] [[99, 107, 108, 115]] (fun _ => aK) (fun _ => aV) A U U.heap ∧ va_Z "java/lang/String" "COMPACT_STRINGS" "Z" (.int 1) A U U.heap ∧ vk_R RX2 55 "ckls" aK U ∧ va_Nw (.methodLinkNest RX3 41 yX5_takenBy RX5) U
theorem zX.to {aK aV : Nat} {A B : Nat → Prop} {s U : State} {H : Heap} {locs : List Loc} (h : zX aK aV A s) (hS : va_S A s.heap H locs) (hAB : ∀ q, B q → A q) (hU : U.heap = H) (hW : s.WarmedH U.vm) : zX aK aV B U := by
  obtain ⟨h1, h2, h3, h4⟩ := h
  refine ⟨?_, ?_, vk_R.warm hW h3, va_Nw.warmM hW h4⟩
  · rw [hU]; exact ((h1.kept hS.2.1).moved hW.alike).narrow hAB
  · rw [hU]; exact ((h2.kept hS.2.1).moved hW.alike).narrow hAB
def zPcX (aK aV : Nat) (av : List Value) (D : va_G) (tys : List (ClassId × FieldType)) (ws : va_W) (sz : Nat) : Array Value → State → Prop := va_Pc av (fun U => U.heap.size = sz ∧ va_P D vwCl ws U.heap ∧ va_K D vwCl tys U ∧ va_D (fun _ => True) ws ∧ zX aK aV (va_A ws sz) U)
theorem zz_fbX (aK aV : Nat) (av : List Value) (D : va_G) (tys : List (ClassId × FieldType)) (ws : va_W) (sz : Nat) : FrameBlind (zPcX aK aV av D tys ws sz) := fun a U g mk q => by
  obtain ⟨q0, q1, qP, qK, qD, x1, x2, x3, x4⟩ := q
  refine ⟨q0, q1, qP, va_K.moved (u := U) (U := U.calling g mk a) (Vm.Alike.refl U.vm) qK, qD, ?_, ?_, ?_, ?_⟩
  · exact vk_S.moved (u := U) (U := U.calling g mk a) (Vm.Alike.refl U.vm) x1
  · exact va_Z.moved (u := U) (U := U.calling g mk a) (Vm.Alike.refl U.vm) x2
  · exact vk_R.same (u := U) (U := U.calling g mk a) rfl x3
  · exact va_Nw.same rfl (u := U) (U := U.calling g mk a) rfl x4
theorem zz_preVX {aK aV : Nat} {s : State} {H : Heap} {locs : List Loc} {D : va_G} {tys : List (ClassId × FieldType)} {A : Nat → Prop} {ws wc : va_W} {C : String} {b : Nat} {As : List Value} (isC : List Nat) (hK : va_K D vwCl tys s) (hP : va_P D vwCl ws H) (hD : va_D A ws) (hS : va_S A s.heap H locs) (hA : ∀ q, s.heap.size ≤ q → A q) (hX : zX aK aV A s) (hC : isC.map (fun i => ws[i]?) = wc.map some) (hn : va_nd isC = true) (recv : ∃ cellB : Cell, H[b]? = some cellB ∧ cellB.vm.isStatics = false ∧ s.vm.findClass C = some cellB.cls) : PreV s H C b (zPcX aK aV (Value.ref b :: As) D tys wc H.size) As :=
  ⟨zz_fbX _ _ _ _ _ _ _, recv, fun U hU hW => ⟨rfl, by rw [hU], by rw [hU]; exact hP.sub isC (zz_fm _ _ _ hC), va_K.moved hW.alike hK, (hD.sub isC hn hC).weaken (fun _ _ _ _ => trivial), hX.to hS (va_free (wc := wc) hD hS hA isC hC) hU hW⟩⟩
theorem zz_preSX {aK aV : Nat} {s : State} {H : Heap} {locs : List Loc} {D : va_G} {tys : List (ClassId × FieldType)} {A : Nat → Prop} {ws wc : va_W} {As : List Value} (isC : List Nat) (hK : va_K D vwCl tys s) (hP : va_P D vwCl ws H) (hD : va_D A ws) (hS : va_S A s.heap H locs) (hA : ∀ q, s.heap.size ≤ q → A q) (hX : zX aK aV A s) (hC : isC.map (fun i => ws[i]?) = wc.map some) (hn : va_nd isC = true) : PreS s H (zPcX aK aV As D tys wc H.size) As :=
  ⟨zz_fbX _ _ _ _ _ _ _, fun U hU hW => ⟨rfl, by rw [hU], by rw [hU]; exact hP.sub isC (zz_fm _ _ _ hC), va_K.moved hW.alike hK, (hD.sub isC hn hC).weaken (fun _ _ _ _ => trivial), hX.to hS (va_free (wc := wc) hD hS hA isC hC) hU hW⟩⟩
