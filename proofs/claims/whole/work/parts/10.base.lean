/-! own words for contracts, calls, loops, joins -/
abbrev zTy (cI cJ cC : ClassId) : List (ClassId × FieldType) := [(cI, .int), (cJ, .long), (cC, .char)]
def zPc (av : List Value) (D : va_G) (tys : List (ClassId × FieldType)) (ws : va_W) (sz : Nat) : Array Value → State → Prop := va_Pc av (fun U => U.heap.size = sz ∧ va_P D vwCl ws U.heap ∧ va_K D vwCl tys U ∧ va_D (fun _ => True) ws)
def zBd (D : va_G) (tys : List (ClassId × FieldType)) (A : Nat → Prop) (w1 : va_W) (t : State) : Prop := va_P D vwCl w1 t.heap ∧ va_K D vwCl tys t ∧ va_D A w1
def zQi (r0 : Int32) (ok : Prop) (D : va_G) (tys : List (ClassId × FieldType)) (w1 : va_W) (A : Nat → Prop) : Array Value → State → Outcome → State → Prop := va_Qi (S := Unit) (fun r _ => r = r0 ∧ ok) (fun _ t => zBd D tys A w1 t) A
def zQl (r0 : Int64) (ok : Prop) (D : va_G) (tys : List (ClassId × FieldType)) (w1 : va_W) (A : Nat → Prop) : Array Value → State → Outcome → State → Prop := va_Ql (S := Unit) (fun r _ => r = r0 ∧ ok) (fun _ t => zBd D tys A w1 t) A
def zQv (ok : Prop) (D : va_G) (tys : List (ClassId × FieldType)) (w1 : va_W) (A : Nat → Prop) : Array Value → State → Outcome → State → Prop := va_Qv (S := Unit) (fun _ => ok) (fun _ t => zBd D tys A w1 t) A
def zB01 (r : Int32) : Prop := r = 0 ∨ r = 1
theorem zB01.nar {r : Int32} (h : zB01 r) : narrow .boolean (.int r) = .int r := by
  rcases h with rfl | rfl <;> rfl
def cut {α β : Type} (x : α) (f : α → β) : β := f x
def cut2 {α β γ : Type} (x : α × β) (f : α → β → γ) : γ := f x.1 x.2
def cut3 {α β γ δ : Type} (x : α × β × γ) (f : α → β → γ → δ) : δ := f x.1 x.2.1 x.2.2
def cut4 {α β γ δ ε : Type} (x : α × β × γ × δ) (f : α → β → γ → δ → ε) : ε := f x.1 x.2.1 x.2.2.1 x.2.2.2
def cut5 {α β γ δ ε ζ : Type} (x : α × β × γ × δ × ε) (f : α → β → γ → δ → ε → ζ) : ζ := f x.1 x.2.1 x.2.2.1 x.2.2.2.1 x.2.2.2.2
def cut6 {α β γ δ ε ζ η : Type} (x : α × β × γ × δ × ε × ζ) (f : α → β → γ → δ → ε → ζ → η) : η := f x.1 x.2.1 x.2.2.1 x.2.2.2.1 x.2.2.2.2.1 x.2.2.2.2.2
def cut7 {α β γ δ ε ζ η θ : Type} (x : α × β × γ × δ × ε × ζ × η) (f : α → β → γ → δ → ε → ζ → η → θ) : θ := f x.1 x.2.1 x.2.2.1 x.2.2.2.1 x.2.2.2.2.1 x.2.2.2.2.2.1 x.2.2.2.2.2.2
theorem cut_n {α β : Type} {x v : α} {f : α → β} {T : β} (e : x = v) (h : cut x f = T) : f v = T := by subst e; exact h
theorem cut2_n {α β γ : Type} {x : α × β} {v1 : α} {v2 : β} {f : α → β → γ} {T : γ} (e : x = (v1, v2)) (h : cut2 x f = T) : f v1 v2 = T := by subst e; exact h
theorem cut3_n {α β γ δ : Type} {x : α × β × γ} {v1 : α} {v2 : β} {v3 : γ} {f : α → β → γ → δ} {T : δ} (e : x = (v1, v2, v3)) (h : cut3 x f = T) : f v1 v2 v3 = T := by subst e; exact h
theorem cut4_n {α β γ δ ε : Type} {x : α × β × γ × δ} {v1 : α} {v2 : β} {v3 : γ} {v4 : δ} {f : α → β → γ → δ → ε} {T : ε} (e : x = (v1, v2, v3, v4)) (h : cut4 x f = T) : f v1 v2 v3 v4 = T := by subst e; exact h
theorem cut5_n {α β γ δ ε ζ : Type} {x : α × β × γ × δ × ε} {v1 : α} {v2 : β} {v3 : γ} {v4 : δ} {v5 : ε} {f : α → β → γ → δ → ε → ζ} {T : ζ} (e : x = (v1, v2, v3, v4, v5)) (h : cut5 x f = T) : f v1 v2 v3 v4 v5 = T := by subst e; exact h
theorem cut6_n {α β γ δ ε ζ η : Type} {x : α × β × γ × δ × ε × ζ} {v1 : α} {v2 : β} {v3 : γ} {v4 : δ} {v5 : ε} {v6 : ζ} {f : α → β → γ → δ → ε → ζ → η} {T : η} (e : x = (v1, v2, v3, v4, v5, v6)) (h : cut6 x f = T) : f v1 v2 v3 v4 v5 v6 = T := by subst e; exact h
theorem cut7_n {α β γ δ ε ζ η θ : Type} {x : α × β × γ × δ × ε × ζ × η} {v1 : α} {v2 : β} {v3 : γ} {v4 : δ} {v5 : ε} {v6 : ζ} {v7 : η} {f : α → β → γ → δ → ε → ζ → η → θ} {T : θ} (e : x = (v1, v2, v3, v4, v5, v6, v7)) (h : cut7 x f = T) : f v1 v2 v3 v4 v5 v6 v7 = T := by subst e; exact h
theorem cutT {α : Type} {c : Prop} [Decidable c] {a b T : α} (h : c) (e : (if c then a else b) = T) : a = T := (if_pos h).symm.trans e
theorem cutF {α : Type} {c : Prop} [Decidable c] {a b T : α} (h : ¬ c) (e : (if c then a else b) = T) : b = T := (if_neg h).symm.trans e
theorem zz_fm {α β : Type} (f : α → Option β) : ∀ (is : List α) (w : List β), is.map f = w.map some → is.filterMap f = w
  | [], [], _ => rfl
  | [], _ :: _, h => by simp at h
  | _ :: _, [], h => by simp at h
  | a :: is, b :: w, h => by
    simp only [List.map_cons, List.cons.injEq] at h
    rw [List.filterMap_cons, h.1, zz_fm f is w h.2]
theorem zz_fb (av : List Value) (D : va_G) (tys : List (ClassId × FieldType)) (ws : va_W) (sz : Nat) : FrameBlind (zPc av D tys ws sz) := fun a U g mk q => by
  obtain ⟨q0, q1, qP, qK, qD⟩ := q
  exact ⟨q0, q1, qP, va_K.moved (u := U) (U := U.calling g mk a) (Vm.Alike.refl U.vm) qK, qD⟩
theorem zz_preV {s : State} {H : Heap} {D : va_G} {tys : List (ClassId × FieldType)} {A : Nat → Prop} {ws wc : va_W} {C : String} {b : Nat} {As : List Value} (isC : List Nat) (hK : va_K D vwCl tys s) (hP : va_P D vwCl ws H) (hD : va_D A ws) (hC : isC.map (fun i => ws[i]?) = wc.map some) (hn : va_nd isC = true) (recv : ∃ cellB : Cell, H[b]? = some cellB ∧ cellB.vm.isStatics = false ∧ s.vm.findClass C = some cellB.cls) : PreV s H C b (zPc (Value.ref b :: As) D tys wc H.size) As :=
  ⟨zz_fb _ _ _ _ _, recv, fun U hU hW => ⟨rfl, by rw [hU], by rw [hU]; exact hP.sub isC (zz_fm _ _ _ hC), va_K.moved hW.alike hK, (hD.sub isC hn hC).weaken (fun _ _ _ _ => trivial)⟩⟩
theorem zz_preS {s : State} {H : Heap} {D : va_G} {tys : List (ClassId × FieldType)} {A : Nat → Prop} {ws wc : va_W} {As : List Value} (isC : List Nat) (hK : va_K D vwCl tys s) (hP : va_P D vwCl ws H) (hD : va_D A ws) (hC : isC.map (fun i => ws[i]?) = wc.map some) (hn : va_nd isC = true) : PreS s H (zPc As D tys wc H.size) As :=
  ⟨zz_fb _ _ _ _ _, fun U hU hW => ⟨rfl, by rw [hU], by rw [hU]; exact hP.sub isC (zz_fm _ _ _ hC), va_K.moved hW.alike hK, (hD.sub isC hn hC).weaken (fun _ _ _ _ => trivial)⟩⟩
section
variable {p : Program} {l : Launch} {e : Env} {R : Room} {s : State} {m : MethodId} {args : Array Value} {below : List Frame} {meth : Method} {c : Code} {H : Heap} {locs : List Loc} {cells slots : Nat} {Q : State → Prop} {pc : Nat} {ls : Array Slot} {st0 rest : List Value}
theorem zz_ci {H0 : Heap} {A : Nat → Prop} {D : va_G} {tys : List (ClassId × FieldType)} {ws wc wr w1 : va_W} {r0 : Int32} {ok : Prop} {a : Array Value} (isC isR : List Nat)
    (hr : va_Run p l e R s m args below meth c H locs cells slots 0 0 (F0 m pc ls st0) rest (zQi r0 ok D tys w1 (va_A wc H.size) a) (va_A wc H.size))
    (hP : va_P D vwCl ws H) (hD : va_D A ws) (hS : va_S A H0 H locs) (hA : ∀ q, H0.size ≤ q → A q)
    (hC : isC.map (fun i => ws[i]?) = wc.map some) (hR : isR.map (fun i => ws[i]?) = wr.map some) (hn : va_nd isR = true) (hdis : ∀ i ∈ isR, i ∉ isC)
    (kk : ok → ∀ (H1 : Heap) (locs1 : List Loc), va_P D vwCl (wr ++ w1) H1 → va_D A (wr ++ w1) → va_S A H0 H1 locs1 → W p l e R s m args below meth c H1 locs1 cells slots Q (F0 m (pc + 3) ls (.int r0 :: rest))) : W p l e R s m args below meth c H locs cells slots Q (F0 m pc ls st0) := by
  have hFc := va_free (wc := wc) hD hS hA isC hC
  refine va_calli hr hS (fun q _ h => hFc q h) hFc (fun r u t H1 locs1 ht hvm hw hB hz1 hk1 hS1 => ?_)
  obtain ⟨rfl, hok⟩ := hw
  obtain ⟨hP1, hK1, hD1⟩ := hB
  rw [ht] at hP1
  obtain ⟨hP2, hD2⟩ := va_join hP hD isC isR hC hR hn hdis hk1 hFc hP1 hD1
  exact kk hok H1 locs1 hP2 hD2 hS1
theorem zz_cl {H0 : Heap} {A : Nat → Prop} {D : va_G} {tys : List (ClassId × FieldType)} {ws wc wr w1 : va_W} {r0 : Int64} {ok : Prop} {a : Array Value} (isC isR : List Nat)
    (hr : va_Run p l e R s m args below meth c H locs cells slots 0 0 (F0 m pc ls st0) rest (zQl r0 ok D tys w1 (va_A wc H.size) a) (va_A wc H.size))
    (hP : va_P D vwCl ws H) (hD : va_D A ws) (hS : va_S A H0 H locs) (hA : ∀ q, H0.size ≤ q → A q)
    (hC : isC.map (fun i => ws[i]?) = wc.map some) (hR : isR.map (fun i => ws[i]?) = wr.map some) (hn : va_nd isR = true) (hdis : ∀ i ∈ isR, i ∉ isC)
    (kk : ok → ∀ (H1 : Heap) (locs1 : List Loc), va_P D vwCl (wr ++ w1) H1 → va_D A (wr ++ w1) → va_S A H0 H1 locs1 → W p l e R s m args below meth c H1 locs1 cells slots Q (F0 m (pc + 3) ls (.long r0 :: rest))) : W p l e R s m args below meth c H locs cells slots Q (F0 m pc ls st0) := by
  have hFc := va_free (wc := wc) hD hS hA isC hC
  refine va_calll hr hS (fun q _ h => hFc q h) hFc (fun r u t H1 locs1 ht hvm hw hB hz1 hk1 hS1 => ?_)
  obtain ⟨rfl, hok⟩ := hw
  obtain ⟨hP1, hK1, hD1⟩ := hB
  rw [ht] at hP1
  obtain ⟨hP2, hD2⟩ := va_join hP hD isC isR hC hR hn hdis hk1 hFc hP1 hD1
  exact kk hok H1 locs1 hP2 hD2 hS1
theorem zz_cv {H0 : Heap} {A : Nat → Prop} {D : va_G} {tys : List (ClassId × FieldType)} {ws wc wr w1 : va_W} {ok : Prop} {a : Array Value} (isC isR : List Nat)
    (hr : va_Run p l e R s m args below meth c H locs cells slots 0 0 (F0 m pc ls st0) rest (zQv ok D tys w1 (va_A wc H.size) a) (va_A wc H.size))
    (hP : va_P D vwCl ws H) (hD : va_D A ws) (hS : va_S A H0 H locs) (hA : ∀ q, H0.size ≤ q → A q)
    (hC : isC.map (fun i => ws[i]?) = wc.map some) (hR : isR.map (fun i => ws[i]?) = wr.map some) (hn : va_nd isR = true) (hdis : ∀ i ∈ isR, i ∉ isC)
    (kk : ok → ∀ (H1 : Heap) (locs1 : List Loc), va_P D vwCl (wr ++ w1) H1 → va_D A (wr ++ w1) → va_S A H0 H1 locs1 → W p l e R s m args below meth c H1 locs1 cells slots Q (F0 m (pc + 3) ls rest)) : W p l e R s m args below meth c H locs cells slots Q (F0 m pc ls st0) := by
  have hFc := va_free (wc := wc) hD hS hA isC hC
  refine va_callv hr hS (fun q _ h => hFc q h) hFc (fun u t H1 locs1 ht hvm hw hB hz1 hk1 hS1 => ?_)
  obtain ⟨hP1, hK1, hD1⟩ := hB
  rw [ht] at hP1
  obtain ⟨hP2, hD2⟩ := va_join hP hD isC isR hC hR hn hdis hk1 hFc hP1 hD1
  exact kk hw H1 locs1 hP2 hD2 hS1
theorem zz_iret {cc : ByteArray} {A : Nat → Prop} {D : va_G} {tys : List (ClassId × FieldType)} {ws w1 : va_W} {v : Int32} {ok : Prop} (hx : p.tables.exec = Jvm.exec) (hb : c.code = cc) (hr : meth.sig.returnType = some .int) (is : List Nat) (hK : va_K D vwCl tys s) (hP : va_P D vwCl ws H) (hD : va_D A ws) (hS : va_S A s.heap H locs)
    (hs : is.map (fun i => ws[i]?) = w1.map some) (hn : va_nd is = true) (hok : ok) (hlocks : meth.locks = false) (hdg : decode cc pc = .ok (.ireturn, 1)) : W p l e R s m args below meth c H locs cells slots (MQ below (zQi v ok D tys w1 A) args s cells slots A) (F0 m pc ls [.int v]) :=
  W.iret (v := v) hx hb hr (fun t ht hW => ⟨⟨v, (), rfl, ⟨rfl, hok⟩, by rw [ht]; exact hP.sub is (zz_fm _ _ _ hs), va_K.moved hW.alike hK, hD.sub is hn hs⟩, hS.F ht⟩) hS.2.2 hdg hlocks
theorem zz_zret {cc : ByteArray} {ty : FieldType} {A : Nat → Prop} {D : va_G} {tys : List (ClassId × FieldType)} {ws w1 : va_W} {v : Int32} {ok : Prop} (hx : p.tables.exec = Jvm.exec) (hb : c.code = cc) (hr : meth.sig.returnType = some ty) (hnar : narrow ty (.int v) = .int v) (is : List Nat) (hK : va_K D vwCl tys s) (hP : va_P D vwCl ws H) (hD : va_D A ws) (hS : va_S A s.heap H locs)
    (hs : is.map (fun i => ws[i]?) = w1.map some) (hn : va_nd is = true) (hok : ok) (hlocks : meth.locks = false) (hdg : decode cc pc = .ok (.ireturn, 1)) : W p l e R s m args below meth c H locs cells slots (MQ below (zQi v ok D tys w1 A) args s cells slots A) (F0 m pc ls [.int v]) :=
  W.zret (v := v) hx hb hr hnar (fun t ht hW => ⟨⟨v, (), rfl, ⟨rfl, hok⟩, by rw [ht]; exact hP.sub is (zz_fm _ _ _ hs), va_K.moved hW.alike hK, hD.sub is hn hs⟩, hS.F ht⟩) hS.2.2 hdg hlocks
theorem zz_lret {cc : ByteArray} {A : Nat → Prop} {D : va_G} {tys : List (ClassId × FieldType)} {ws w1 : va_W} {v : Int64} {ok : Prop} (hx : p.tables.exec = Jvm.exec) (hb : c.code = cc) (hr : meth.sig.returnType = some .long) (is : List Nat) (hK : va_K D vwCl tys s) (hP : va_P D vwCl ws H) (hD : va_D A ws) (hS : va_S A s.heap H locs)
    (hs : is.map (fun i => ws[i]?) = w1.map some) (hn : va_nd is = true) (hok : ok) (hlocks : meth.locks = false) (hdg : decode cc pc = .ok (.lreturn, 1)) : W p l e R s m args below meth c H locs cells slots (MQ below (zQl v ok D tys w1 A) args s cells slots A) (F0 m pc ls [.long v]) :=
  W.lret (v := v) hx hb hr (fun t ht hW => ⟨⟨v, (), rfl, ⟨rfl, hok⟩, by rw [ht]; exact hP.sub is (zz_fm _ _ _ hs), va_K.moved hW.alike hK, hD.sub is hn hs⟩, hS.F ht⟩) hS.2.2 hdg hlocks
theorem zz_vret {cc : ByteArray} {A : Nat → Prop} {D : va_G} {tys : List (ClassId × FieldType)} {ws w1 : va_W} {ok : Prop} (hx : p.tables.exec = Jvm.exec) (hb : c.code = cc) (hr : meth.sig.returnType = none) (is : List Nat) (hK : va_K D vwCl tys s) (hP : va_P D vwCl ws H) (hD : va_D A ws) (hS : va_S A s.heap H locs)
    (hs : is.map (fun i => ws[i]?) = w1.map some) (hn : va_nd is = true) (hok : ok) (hlocks : meth.locks = false) (hdg : decode cc pc = .ok (.return_, 1)) : W p l e R s m args below meth c H locs cells slots (MQ below (zQv ok D tys w1 A) args s cells slots A) (F0 m pc ls []) :=
  W.vret hx hb hr (fun t ht hW => ⟨⟨(), rfl, hok, by rw [ht]; exact hP.sub is (zz_fm _ _ _ hs), va_K.moved hW.alike hK, hD.sub is hn hs⟩, hS.F ht⟩) hS.2.2 hdg hlocks
theorem zz_start {g : JFrame} {A : Nat → Prop} {D : va_G} {ws : va_W} (hP : va_P D vwCl ws s.heap) (hS : va_S A s.heap s.heap []) (k : ∀ Q' : State → Prop, Q' = Q → ∀ (H : Heap) (locs : List Loc), va_P D vwCl ws H → va_S A s.heap H locs → W p l e R s m args below meth c H locs cells slots Q' g) : W p l e R s m args below meth c s.heap [] cells slots Q g := k Q rfl s.heap [] hP hS
theorem zz_loop {st : List Value} {α : Type} (pcE : Nat) (I : Nat → α → Heap → List Loc → Array Slot → Prop) (E : α → Heap → List Loc → Array Slot → Prop)
    (he : ∀ (a : α) (H : Heap) (locs : List Loc) (ls : Array Slot), E a H locs ls → W p l e R s m args below meth c H locs cells slots Q (F0 m pcE ls st))
    (h0 : ∀ (a : α) (H : Heap) (locs : List Loc) (ls : Array Slot), I 0 a H locs ls → False)
    (hs : ∀ k : Nat, (∀ (b : α) (H : Heap) (locs : List Loc) (ls : Array Slot), E b H locs ls → W p l e R s m args below meth c H locs cells slots Q (F0 m pcE ls st)) → (∀ (b : α) (H : Heap) (locs : List Loc) (ls : Array Slot), I k b H locs ls → W p l e R s m args below meth c H locs cells slots Q (F0 m pc ls st)) →
      ∀ (a : α) (H : Heap) (locs : List Loc) (ls : Array Slot), I (k + 1) a H locs ls → W p l e R s m args below meth c H locs cells slots Q (F0 m pc ls st))
    (k : Nat) (a : α) (h : I k a H locs ls) : W p l e R s m args below meth c H locs cells slots Q (F0 m pc ls st) := by
  have key : ∀ (k : Nat) (a : α) (H : Heap) (locs : List Loc) (ls : Array Slot), I k a H locs ls → W p l e R s m args below meth c H locs cells slots Q (F0 m pc ls st) := by
    intro k
    induction k with
    | zero => exact fun a H locs ls h => (h0 a H locs ls h).elim
    | succ k ih => exact hs k he ih
  exact key k a H locs ls h
theorem zz_join1 {g : JFrame} {α1 β : Type} {x : α1} {f : α1 → β} {T : β} (_ : cut x f = T) (pc : Nat) (st : α1 → List Value) (I : α1 → Heap → List Loc → Array Slot → Prop)
    (hr : ∀ v : α1, x = v → ∀ (H : Heap) (locs : List Loc) (ls : Array Slot), I v H locs ls → W p l e R s m args below meth c H locs cells slots Q (F0 m pc ls (st v)))
    (hg : ∀ v : α1, x = v → (∀ (H : Heap) (locs : List Loc) (ls : Array Slot), I v H locs ls → W p l e R s m args below meth c H locs cells slots Q (F0 m pc ls (st v))) → W p l e R s m args below meth c H locs cells slots Q g) : W p l e R s m args below meth c H locs cells slots Q g :=
  hg x rfl (hr x rfl)
theorem zz_join2 {g : JFrame} {α1 α2 β : Type} {x : α1 × α2} {f : α1 → α2 → β} {T : β} (_ : cut2 x f = T) (pc : Nat) (st : α1 × α2 → List Value) (I : α1 × α2 → Heap → List Loc → Array Slot → Prop)
    (hr : ∀ v : α1 × α2, x = v → ∀ (H : Heap) (locs : List Loc) (ls : Array Slot), I v H locs ls → W p l e R s m args below meth c H locs cells slots Q (F0 m pc ls (st v)))
    (hg : ∀ v : α1 × α2, x = v → (∀ (H : Heap) (locs : List Loc) (ls : Array Slot), I v H locs ls → W p l e R s m args below meth c H locs cells slots Q (F0 m pc ls (st v))) → W p l e R s m args below meth c H locs cells slots Q g) : W p l e R s m args below meth c H locs cells slots Q g :=
  hg x rfl (hr x rfl)
theorem zz_join3 {g : JFrame} {α1 α2 α3 β : Type} {x : α1 × α2 × α3} {f : α1 → α2 → α3 → β} {T : β} (_ : cut3 x f = T) (pc : Nat) (st : α1 × α2 × α3 → List Value) (I : α1 × α2 × α3 → Heap → List Loc → Array Slot → Prop)
    (hr : ∀ v : α1 × α2 × α3, x = v → ∀ (H : Heap) (locs : List Loc) (ls : Array Slot), I v H locs ls → W p l e R s m args below meth c H locs cells slots Q (F0 m pc ls (st v)))
    (hg : ∀ v : α1 × α2 × α3, x = v → (∀ (H : Heap) (locs : List Loc) (ls : Array Slot), I v H locs ls → W p l e R s m args below meth c H locs cells slots Q (F0 m pc ls (st v))) → W p l e R s m args below meth c H locs cells slots Q g) : W p l e R s m args below meth c H locs cells slots Q g :=
  hg x rfl (hr x rfl)
theorem zz_join4 {g : JFrame} {α1 α2 α3 α4 β : Type} {x : α1 × α2 × α3 × α4} {f : α1 → α2 → α3 → α4 → β} {T : β} (_ : cut4 x f = T) (pc : Nat) (st : α1 × α2 × α3 × α4 → List Value) (I : α1 × α2 × α3 × α4 → Heap → List Loc → Array Slot → Prop)
    (hr : ∀ v : α1 × α2 × α3 × α4, x = v → ∀ (H : Heap) (locs : List Loc) (ls : Array Slot), I v H locs ls → W p l e R s m args below meth c H locs cells slots Q (F0 m pc ls (st v)))
    (hg : ∀ v : α1 × α2 × α3 × α4, x = v → (∀ (H : Heap) (locs : List Loc) (ls : Array Slot), I v H locs ls → W p l e R s m args below meth c H locs cells slots Q (F0 m pc ls (st v))) → W p l e R s m args below meth c H locs cells slots Q g) : W p l e R s m args below meth c H locs cells slots Q g :=
  hg x rfl (hr x rfl)
theorem zz_join5 {g : JFrame} {α1 α2 α3 α4 α5 β : Type} {x : α1 × α2 × α3 × α4 × α5} {f : α1 → α2 → α3 → α4 → α5 → β} {T : β} (_ : cut5 x f = T) (pc : Nat) (st : α1 × α2 × α3 × α4 × α5 → List Value) (I : α1 × α2 × α3 × α4 × α5 → Heap → List Loc → Array Slot → Prop)
    (hr : ∀ v : α1 × α2 × α3 × α4 × α5, x = v → ∀ (H : Heap) (locs : List Loc) (ls : Array Slot), I v H locs ls → W p l e R s m args below meth c H locs cells slots Q (F0 m pc ls (st v)))
    (hg : ∀ v : α1 × α2 × α3 × α4 × α5, x = v → (∀ (H : Heap) (locs : List Loc) (ls : Array Slot), I v H locs ls → W p l e R s m args below meth c H locs cells slots Q (F0 m pc ls (st v))) → W p l e R s m args below meth c H locs cells slots Q g) : W p l e R s m args below meth c H locs cells slots Q g :=
  hg x rfl (hr x rfl)
end
theorem zlt {a b : Int32} : a < b ↔ a.toInt < b.toInt := Int32.lt_iff_toInt_lt
theorem zle {a b : Int32} : a ≤ b ↔ a.toInt ≤ b.toInt := Int32.le_iff_toInt_le
theorem zeq {a b : Int32} : a = b ↔ a.toInt = b.toInt := Int32.toInt_inj.symm
theorem zlo (x : Int32) : -2147483648 ≤ x.toInt := by have := Int32.le_toInt x; omega
theorem zhi (x : Int32) : x.toInt < 2147483648 := by have := Int32.toInt_lt x; omega
theorem zbm {z : Int} (h1 : -2147483648 ≤ z) (h2 : z < 2147483648) : z.bmod 4294967296 = z := by
  rw [Int.bmod_def]; omega
theorem zadd {a b : Int32} (h1 : -2147483648 ≤ a.toInt + b.toInt) (h2 : a.toInt + b.toInt < 2147483648) : (a + b).toInt = a.toInt + b.toInt := by
  rw [Int32.toInt_add]; exact zbm h1 h2
theorem zsub {a b : Int32} (h1 : -2147483648 ≤ a.toInt - b.toInt) (h2 : a.toInt - b.toInt < 2147483648) : (a - b).toInt = a.toInt - b.toInt := by
  rw [Int32.toInt_sub]; exact zbm h1 h2
theorem zmul {a b : Int32} (h1 : -2147483648 ≤ a.toInt * b.toInt) (h2 : a.toInt * b.toInt < 2147483648) : (a * b).toInt = a.toInt * b.toInt := by
  rw [Int32.toInt_mul]; exact zbm h1 h2
theorem zltT {a b : Int32} {x y : Int} (hx : a.toInt = x) (hy : b.toInt = y) (h : a < b) : x < y := by subst hx hy; exact zlt.mp h
theorem zltF {a b : Int32} {x y : Int} (hx : a.toInt = x) (hy : b.toInt = y) (h : ¬ a < b) : y ≤ x := by subst hx hy; exact Int.not_lt.mp (fun q => h (zlt.mpr q))
theorem zleT {a b : Int32} {x y : Int} (hx : a.toInt = x) (hy : b.toInt = y) (h : a ≤ b) : x ≤ y := by subst hx hy; exact zle.mp h
theorem zleF {a b : Int32} {x y : Int} (hx : a.toInt = x) (hy : b.toInt = y) (h : ¬ a ≤ b) : y < x := by subst hx hy; exact Int.not_le.mp (fun q => h (zle.mpr q))
theorem zeqT {a b : Int32} {x y : Int} (hx : a.toInt = x) (hy : b.toInt = y) (h : a = b) : x = y := by subst hx hy; exact zeq.mp h
theorem zeqF {a b : Int32} {x y : Int} (hx : a.toInt = x) (hy : b.toInt = y) (h : ¬ a = b) : ¬ x = y := by subst hx hy; exact fun q => h (zeq.mpr q)
theorem zin {i : Int32} {n : Nat} (h1 : 0 ≤ i.toInt) (h2 : i.toInt < (n : Int)) : vp_in i n := vp_in_iff.mpr ⟨h1, h2⟩
theorem zaddE {a b v : Int32} {x y : Int} (hx : a.toInt = x) (hy : b.toInt = y) (e : a + b = v) (h1 : -2147483648 ≤ x + y) (h2 : x + y < 2147483648) : v.toInt = x + y := by subst hx hy e; exact zadd h1 h2
theorem zsubE {a b v : Int32} {x y : Int} (hx : a.toInt = x) (hy : b.toInt = y) (e : a - b = v) (h1 : -2147483648 ≤ x - y) (h2 : x - y < 2147483648) : v.toInt = x - y := by subst hx hy e; exact zsub h1 h2
theorem zmulE {a b v : Int32} {x y : Int} (hx : a.toInt = x) (hy : b.toInt = y) (e : a * b = v) (h1 : -2147483648 ≤ x * y) (h2 : x * y < 2147483648) : v.toInt = x * y := by subst hx hy e; exact zmul h1 h2
/-- counts of shares: 0 to 3 -/
def zSc (f : Nat → Int32) : Prop := ∀ j, 0 ≤ (f j).toInt ∧ (f j).toInt ≤ 3
theorem zSc_upd {f : Nat → Int32} {k : Nat} {x : Int32} (h : zSc f) (h1 : 0 ≤ x.toInt) (h2 : x.toInt ≤ 3) : zSc (upd f k x) := by
  intro j
  rcases Nat.decEq j k with q | q
  · rw [pk_un q]; exact h j
  · subst q; rw [pk_us]; exact ⟨h1, h2⟩
theorem zSc_cpy {f g : Nat → Int32} {a b n : Nat} (h : zSc f) (h2 : zSc g) : zSc (va_cpy f g a b n) := by
  intro j
  unfold va_cpy
  split
  · exact h _
  · exact h2 _
theorem z64ne {x : Int32} (h : 0 < x) : ¬ x.toInt64 = 0 := by
  intro e
  have e2 := congrArg Int64.toInt e
  rw [Int32.toInt_toInt64] at e2
  have h2 := zltT (by decide : (0 : Int32).toInt = 0) (rfl : x.toInt = _) h
  have h3 : (0 : Int64).toInt = 0 := by decide
  omega
theorem z0ne {x : Int32} (h : 0 < x.toInt) : ¬ x = 0 := by
  intro e
  rw [e] at h
  exact absurd h (by decide)
theorem zlc {x y : Int64} (h : ¬ lg_cmp x y = 0) : ¬ x = y := by
  intro e
  apply h
  subst e
  unfold lg_cmp
  rw [if_neg (fun q => absurd (Int64.lt_iff_toInt_lt.mp q) (Int.lt_irrefl _)), if_pos rfl]
theorem zmx {v b : Int64} (e : v = (if b < 1 then 1 else b)) : ¬ v = 0 := by
  intro h
  rw [h] at e
  split at e
  · exact absurd e (by decide)
  · rename_i q
    subst e
    exact q (by decide)
theorem zch_upd {f f2 : Nat → Int32} {k : Nat} {x : Int32} (e : upd f k (vp_nar .char x) = f2) (h : ∀ j, narrow .char (.int (f j)) = .int (f j)) : ∀ j, narrow .char (.int (f2 j)) = .int (f2 j) := by
  intro j
  subst e
  rcases Nat.decEq j k with q | q
  · rw [pk_un q]; exact h j
  · subst q
    rw [pk_us, vp_nar_char, show x.toUInt32.toUInt16.toUInt32.toInt32 = (x.toUInt32 % 65536).toInt32 by simp]
    exact pk_nc x
