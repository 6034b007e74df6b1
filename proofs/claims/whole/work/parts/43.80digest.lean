/-! the digest -/
theorem z_say (h v : Int64) : m_X6_say h v = m_X5_into h v := by
  unfold m_X6_say m_X5_into
  rw [z_cut]
theorem z_inT {N : Nat} (hN : N ≤ 9) {ic am : Nat → Int64} {u : Nat → Nat} (h : ∀ g, g < 9 → ic g = lN (12 * u g) ∧ am g = lN (u g) ∧ u g < 2 ^ 43) {g : Nat} (hg : g < N) {q : Int32} (hq : m_X5_isPart q = 1) : m_X5_in (nI N) ic (nI g) q = m_X6_term (am g) q ∧ m_X5_drunk (nI N) ic (nI g) q = m_X6_term (am g) q := by
  obtain ⟨e1, e2, e3⟩ := h g (by omega)
  unfold m_X5_in m_X5_drunk
  simp only [z_cut]
  rw [if_neg (z10 (zx_has hN hg)), if_neg (z10 hq), nI_clamp (by omega), e1, e2]
  exact ⟨z_term e3 q, z_term e3 q⟩
theorem z_glassLoop {N : Nat} {K Hd C : Nat → Nat} {S : Nat → Nat → Nat} {sz : Int32} {kd hd tk sc sh : Nat → Int32} {gl : Int32} {rows : Nat → Int32} (h : zTow N K Hd C S) (hc : zStC N K Hd C S sz kd hd tk sc sh) (hm : zStM N K Hd C S gl rows) {A : Nat → Nat} {ic am : Nat → Int64} {tc tm : Nat → Int32} (hf : ∀ g, g < 9 → ic g = lN (A g)) (hf2 : zFm A am) (hd' : zDv A) (hB : ∀ g, g < 9 → A g < 2 ^ 62) (ht : ∀ g, g < 9 → tc g = tm g) {g : Nat} (hg : g < N) (cx cm : Int32 → Int64 → Int64) : ∀ (r k fuel : Nat) (x : Int64), k + r = 9 → r < fuel → ∃ (kk kk' : Int32) (y : Int64), lp_X5_glassInto_2 cx sz kd hd tk sc sh ic tc (nI g) fuel (nI k) x = cx kk y ∧ lp_X6_sayGlass_2 cm rows tm am (nI g) fuel (nI k) x = cm kk' y := by
  intro r
  induction r with
  | zero =>
    intro k fuel x e1 e2
    obtain ⟨f, rfl⟩ : ∃ f, fuel = f + 1 := ⟨fuel - 1, by omega⟩
    rw [lp_X5_glassInto_2, lp_X6_sayGlass_2, zn9, show (8 : Int32) = nI 8 from rfl, if_pos (nI_lt (show 8 < k by omega) (by omega)), if_pos (nI_le (show 9 ≤ k by omega) (by omega))]
    exact ⟨_, _, x, rfl, rfl⟩
  | succ r ih =>
    intro k fuel x e1 e2
    obtain ⟨f, rfl⟩ : ∃ f, fuel = f + 1 := ⟨fuel - 1, by omega⟩
    rw [lp_X5_glassInto_2, lp_X6_sayGlass_2, zn9, show (8 : Int32) = nI 8 from rfl, if_neg (nI_nlt (show k ≤ 8 by omega) (by omega)), if_neg (nI_ge (show k < 9 by omega) (by omega))]
    simp only [z_cut]
    rw [z_say, z_tell h hc hm hf hf2 hd' hB ht hg (nI k), nI_1]
    exact ih (k + 1) f _ (by omega) (by omega)
theorem z_glass1 {N : Nat} {K Hd C : Nat → Nat} {S : Nat → Nat → Nat} {sz : Int32} {kd hd tk sc sh : Nat → Int32} {gl : Int32} {rows : Nat → Int32} (h : zTow N K Hd C S) (hc : zStC N K Hd C S sz kd hd tk sc sh) (hm : zStM N K Hd C S gl rows) {A d : Nat → Nat} {p : Nat} {pc : Int32} {sp : Int64} {ic dc : Nat → Int64} {tc : Nat → Int32} {pm : Int32} {sm : Int64} {am dm : Nat → Int64} {tm : Nat → Int32} (hT : zTab N (zT K Hd) A d p pc sp ic dc tc pm sm am dm tm) {g : Nat} (hg : g < N) (x : Int64) : m_X5_glassInto sz kd hd tk sc sh ic dc tc x (nI g) = m_X6_sayGlass x rows tm am dm (nI g) := by
  have hS := zTab_S hT
  have hN := h.1
  obtain ⟨kk, kk', y, e1, e2⟩ := z_glassLoop h hc hm hT.2.2.2.1.2 hT.2.2.2.2.2.1 hT.2.2.2.2.2.2.2.2.1.2.2 (fun g hg => by have := hS.2.1 g (by omega); omega) hT.2.2.2.2.2.2.2.1 hg (rs_X5_glassInto_2 sz ic (nI g) dc) (rs_X6_sayGlass_2 am (nI g) dm) 9 0 11 x (by omega) (by omega)
  unfold m_X5_glassInto m_X6_sayGlass
  rw [show (0 : Int32) = nI 0 from rfl, e1, e2]
  unfold rs_X5_glassInto_2 rs_X6_sayGlass_2
  simp only [z_cut, z_say]
  have q0 : m_X5_isPart 0 = 1 := rfl
  have q1 : m_X5_isPart 1 = 1 := rfl
  rw [hc.1, (z_inT hN (zTab_in hT) hg q0).1, (z_inT hN (zTab_in hT) hg q1).1, (z_inT hN (zTab_dr hT) hg q0).2, (z_inT hN (zTab_dr hT) hg q1).2, nI_clamp (by omega)]
theorem z_glassAll {N : Nat} {K Hd C : Nat → Nat} {S : Nat → Nat → Nat} {sz : Int32} {kd hd tk sc sh : Nat → Int32} {gl : Int32} {rows : Nat → Int32} (h : zTow N K Hd C S) (hc : zStC N K Hd C S sz kd hd tk sc sh) (hm : zStM N K Hd C S gl rows) {A d : Nat → Nat} {p : Nat} {pc : Int32} {sp : Int64} {ic dc : Nat → Int64} {tc : Nat → Int32} {pm : Int32} {sm : Int64} {am dm : Nat → Int64} {tm : Nat → Int32} (hT : zTab N (zT K Hd) A d p pc sp ic dc tc pm sm am dm tm) (cx : Int32 → Int64 → (Int64 × Int32 × (Nat → Int32) × (Nat → Int32) × (Nat → Int32) × (Nat → Int32) × (Nat → Int32) × Int64 × (Nat → Int64))) (cm : Int32 → Int64 → (Int64 × Int64 × (Nat → Int64) × (Nat → Int32) × (Nat → Int64))) : ∀ (r g fuel : Nat) (x : Int64), g + r = N → r < fuel → ∃ (kk kk' : Int32) (y : Int64), lp_X5_digest_7 sz cx kd hd tk sc sh ic dc tc fuel (nI g) x = cx kk y ∧ lp_X6_digest_6 gl cm rows tm am dm fuel (nI g) x = cm kk' y := by
  have hN := h.1
  intro r
  induction r with
  | zero =>
    intro g fuel x e1 e2
    obtain ⟨f, rfl⟩ : ∃ f, fuel = f + 1 := ⟨fuel - 1, by omega⟩
    have l1 : sz ≤ nI g := by rw [hc.1]; exact nI_le (by omega) (by omega)
    have l2 : gl ≤ nI g := by rw [hm.1]; exact nI_le (by omega) (by omega)
    rw [lp_X5_digest_7, lp_X6_digest_6, if_pos l1, if_pos l2]
    exact ⟨_, _, x, rfl, rfl⟩
  | succ r ih =>
    intro g fuel x e1 e2
    obtain ⟨f, rfl⟩ : ∃ f, fuel = f + 1 := ⟨fuel - 1, by omega⟩
    have l1 : ¬ sz ≤ nI g := by rw [hc.1]; exact nI_ge (by omega) (by omega)
    have l2 : ¬ gl ≤ nI g := by rw [hm.1]; exact nI_ge (by omega) (by omega)
    rw [lp_X5_digest_7, lp_X6_digest_6, if_neg l1, if_neg l2]
    simp only [z_cut]
    rw [z_glass1 h hc hm hT (show g < N by omega), nI_1]
    exact ih (g + 1) f _ (by omega) (by omega)
theorem z_all2 {sp : Int64} {ic : Nat → Int64} {q : Int32} (hq : m_X5_isPart q = 1) : m_X5_all sp ic 0 q = m_X5_partOf sp q ∧ m_X5_all sp ic 1 q = m_X5_partOf (m_X0_together ic) q := by
  constructor
  · unfold m_X5_all
    simp only [z_cut, z_ift]
    rw [if_neg (show ¬ (0 : Int32) < 0 by decide), if_neg (show ¬ (1 : Int32) < 0 by decide), if_neg (z10 hq)]
  · unfold m_X5_all
    simp only [z_cut]
    rw [if_neg (show ¬ (1 : Int32) < 0 by decide), if_neg (show ¬ (1 : Int32) < 1 by decide), if_neg (z10 hq), if_neg (show ¬ (1 : Int32) = 0 by decide)]
theorem z_all4 {sp : Int64} {ic : Nat → Int64} (ct : Int32 → Int64 → (Int64 × Int32 × (Nat → Int32) × (Nat → Int32) × (Nat → Int32) × (Nat → Int32) × (Nat → Int32) × Int64 × (Nat → Int64))) (x : Int64) : ∃ kk : Int32, lp_X5_digest_8 ct sp ic 4 0 x = ct kk (m_X5_into (m_X5_into (m_X5_into (m_X5_into x (m_X5_all sp ic 0 0)) (m_X5_all sp ic 0 1)) (m_X5_all sp ic 1 0)) (m_X5_all sp ic 1 1)) := by
  rw [lp_X5_digest_8, if_neg (show ¬ (1 : Int32) < 0 by decide)]
  rw [z_cut, z_cut, z_cut, z_cut, z_cut, show (0 : Int32) + 1 = 1 from rfl]
  rw [lp_X5_digest_8, if_neg (show ¬ (1 : Int32) < 1 by decide)]
  rw [z_cut, z_cut, z_cut, z_cut, z_cut, show (1 : Int32) + 1 = 2 from rfl]
  rw [lp_X5_digest_8, if_pos (show (1 : Int32) < 2 by decide)]
  exact ⟨_, rfl⟩
theorem z_digCount10 {rd dn ps sz pd pe gl : Int32} {tk rows : Nat → Int32} {ic am : Nat → Int64} (hcnt : ∀ q, m_X5_count rd dn ps sz tk pd ic q = m_X6_countOf ps gl rd pe dn rows am q) {cx : Int32 → Int64 → (Int64 × Int32 × (Nat → Int32) × (Nat → Int32) × (Nat → Int32) × (Nat → Int32) × (Nat → Int32) × Int64 × (Nat → Int64))} {cm : Int32 → Int64 → (Int64 × Int64 × (Nat → Int64) × (Nat → Int32) × (Nat → Int64))} (hx : ∀ a b, (cx a b).1 = b) (hm : ∀ a b, (cm a b).1 = b) : ∀ (r k fuel : Nat) (x : Int64), k + r = 6 → r < fuel → (lp_X5_digest_10 cx rd dn ps sz tk pd ic fuel (nI k) x).1 = (lp_X6_digest_8 cm ps gl rd pe dn rows am fuel (nI k) x).1 := by
  intro r
  induction r with
  | zero =>
    intro k fuel x e1 e2
    obtain ⟨f, rfl⟩ : ∃ f, fuel = f + 1 := ⟨fuel - 1, by omega⟩
    rw [lp_X5_digest_10, lp_X6_digest_8, zn6, show (5 : Int32) = nI 5 from rfl, if_pos (nI_lt (show 5 < k by omega) (by omega)), if_pos (nI_le (show 6 ≤ k by omega) (by omega)), hx, hm]
  | succ r ih =>
    intro k fuel x e1 e2
    obtain ⟨f, rfl⟩ : ∃ f, fuel = f + 1 := ⟨fuel - 1, by omega⟩
    rw [lp_X5_digest_10, lp_X6_digest_8, zn6, show (5 : Int32) = nI 5 from rfl, if_neg (nI_nlt (show k ≤ 5 by omega) (by omega)), if_neg (nI_ge (show k < 6 by omega) (by omega))]
    simp only [z_cut]
    rw [z_say, hcnt, nI_1]
    exact ih (k + 1) f _ (by omega) (by omega)
theorem z_digPage9 {P : Nat} {pc pg : Nat → Int32} (hP : P ≤ 70) (hp : ∀ j, j < P → pc j = pg j) {cx : Int32 → Int64 → (Int64 × Int32 × (Nat → Int32) × (Nat → Int32) × (Nat → Int32) × (Nat → Int32) × (Nat → Int32) × Int64 × (Nat → Int64))} {cm : Int32 → Int64 → (Int64 × Int64 × (Nat → Int64) × (Nat → Int32) × (Nat → Int64))} (hct : ∀ a a' b, (cx a b).1 = (cm a' b).1) : ∀ (r k fuel : Nat) (x : Int64), k + r = P → r < fuel → (lp_X5_digest_9 (nI P) cx pc fuel (nI k) x).1 = (lp_X6_digest_7 (nI P) cm pg fuel (nI k) x).1 := by
  intro r
  induction r with
  | zero =>
    intro k fuel x e1 e2
    obtain ⟨f, rfl⟩ : ∃ f, fuel = f + 1 := ⟨fuel - 1, by omega⟩
    rw [lp_X5_digest_9, lp_X6_digest_7, if_pos (nI_le (by omega) (by omega)), if_pos (nI_le (by omega) (by omega))]
    exact hct _ _ _
  | succ r ih =>
    intro k fuel x e1 e2
    obtain ⟨f, rfl⟩ : ∃ f, fuel = f + 1 := ⟨fuel - 1, by omega⟩
    rw [lp_X5_digest_9, lp_X6_digest_7, if_neg (nI_ge (show k < P by omega) (by omega)), if_neg (nI_ge (show k < P by omega) (by omega))]
    simp only [z_cut]
    rw [z_say, zx_pageAt hP (show k < P by omega), hp k (by omega), nI_clamp (show k < 2 ^ 31 by omega), nI_1]
    exact ih (k + 1) f _ (by omega) (by omega)
theorem z_digCount12 {rd dn ps sz pd pe gl : Int32} {tk rows : Nat → Int32} {ic am : Nat → Int64} (hcnt : ∀ q, m_X5_count rd dn ps sz tk pd ic q = m_X6_countOf ps gl rd pe dn rows am q) {cx : Int32 → Int64 → (Int64 × Int32 × (Nat → Int32) × (Nat → Int32) × (Nat → Int32) × (Nat → Int32) × (Nat → Int32) × Int64 × (Nat → Int64))} {cm : Int32 → Int64 → (Int64 × Int64 × (Nat → Int64) × (Nat → Int32) × (Nat → Int64))} (hx : ∀ a b, (cx a b).1 = b) (hm : ∀ a b, (cm a b).1 = b) : ∀ (r k fuel : Nat) (x : Int64), k + r = 6 → r < fuel → (lp_X5_digest_12 cx rd dn ps sz tk pd ic fuel (nI k) x).1 = (lp_X6_digest_10 cm ps gl rd pe dn rows am fuel (nI k) x).1 := by
  intro r
  induction r with
  | zero =>
    intro k fuel x e1 e2
    obtain ⟨f, rfl⟩ : ∃ f, fuel = f + 1 := ⟨fuel - 1, by omega⟩
    rw [lp_X5_digest_12, lp_X6_digest_10, zn6, show (5 : Int32) = nI 5 from rfl, if_pos (nI_lt (show 5 < k by omega) (by omega)), if_pos (nI_le (show 6 ≤ k by omega) (by omega)), hx, hm]
  | succ r ih =>
    intro k fuel x e1 e2
    obtain ⟨f, rfl⟩ : ∃ f, fuel = f + 1 := ⟨fuel - 1, by omega⟩
    rw [lp_X5_digest_12, lp_X6_digest_10, zn6, show (5 : Int32) = nI 5 from rfl, if_neg (nI_nlt (show k ≤ 5 by omega) (by omega)), if_neg (nI_ge (show k < 6 by omega) (by omega))]
    simp only [z_cut]
    rw [z_say, hcnt, nI_1]
    exact ih (k + 1) f _ (by omega) (by omega)
theorem z_digPage11 {P : Nat} {pc pg : Nat → Int32} (hP : P ≤ 70) (hp : ∀ j, j < P → pc j = pg j) {cx : Int32 → Int64 → (Int64 × Int32 × (Nat → Int32) × (Nat → Int32) × (Nat → Int32) × (Nat → Int32) × (Nat → Int32) × Int64 × (Nat → Int64))} {cm : Int32 → Int64 → (Int64 × Int64 × (Nat → Int64) × (Nat → Int32) × (Nat → Int64))} (hct : ∀ a a' b, (cx a b).1 = (cm a' b).1) : ∀ (r k fuel : Nat) (x : Int64), k + r = P → r < fuel → (lp_X5_digest_11 (nI P) cx pc fuel (nI k) x).1 = (lp_X6_digest_9 (nI P) cm pg fuel (nI k) x).1 := by
  intro r
  induction r with
  | zero =>
    intro k fuel x e1 e2
    obtain ⟨f, rfl⟩ : ∃ f, fuel = f + 1 := ⟨fuel - 1, by omega⟩
    rw [lp_X5_digest_11, lp_X6_digest_9, if_pos (nI_le (by omega) (by omega)), if_pos (nI_le (by omega) (by omega))]
    exact hct _ _ _
  | succ r ih =>
    intro k fuel x e1 e2
    obtain ⟨f, rfl⟩ : ∃ f, fuel = f + 1 := ⟨fuel - 1, by omega⟩
    rw [lp_X5_digest_11, lp_X6_digest_9, if_neg (nI_ge (show k < P by omega) (by omega)), if_neg (nI_ge (show k < P by omega) (by omega))]
    simp only [z_cut]
    rw [z_say, zx_pageAt hP (show k < P by omega), hp k (by omega), nI_clamp (show k < 2 ^ 31 by omega), nI_1]
    exact ih (k + 1) f _ (by omega) (by omega)
theorem z_digest {N : Nat} {K Hd C : Nat → Nat} {S : Nat → Nat → Nat} {sz : Int32} {kd hd tk sc sh : Nat → Int32} {gl : Int32} {rows : Nat → Int32} (h : zTow N K Hd C S) (hc : zStC N K Hd C S sz kd hd tk sc sh) (hm : zStM N K Hd C S gl rows) {A d : Nat → Nat} {p : Nat} {pc : Int32} {sp : Int64} {ic dc : Nat → Int64} {tc : Nat → Int32} {pm : Int32} {sm : Int64} {am dm : Nat → Int64} {tm : Nat → Int32} (hT : zTab N (zT K Hd) A d p pc sp ic dc tc pm sm am dm tm) {ps pgm : Int32} {codes pg : Nat → Int32} (hp : zPg ps codes pgm pg) (rd dn z0 : Int32) (k1 k2 k3 k4 k5 : Nat → Int32) (s0 : Int64) (tr tkm : Nat → Int64) (ln : Nat → Int32) (wd : Nat → Int64) : (m_X5_digest rd dn ps codes sz kd hd tk sc sh z0 k1 k2 k3 k4 k5 pc sp ic dc tc s0 tr).1 = (m_X6_digest pgm gl rd pm sm dn pg rows tm am dm tkm ln wd).1 := by
  have hN := h.1
  have hS := zTab_S hT
  have hA := fun q => z_allOf hN hT q
  have hB : ∀ g, g < 9 → A g < 2 ^ 62 := fun g hg => by have := hS.2.1 g (by omega); omega
  obtain ⟨P, hP, rfl, rfl, hpg⟩ := hp
  obtain ⟨t1, t2, t3, t4, t5, t6, t7, t8, t9, t10⟩ := id hT
  have hcnt : ∀ q, m_X5_count rd dn (nI P) sz tk pc ic q = m_X6_countOf (nI P) gl rd pm dn rows am q := fun q => by
    rw [t2, t3]; exact z_count h hc hm t4.2 t6 t9.2.2 hB rd dn (nI P) (nI p) q
  have hpp : ∀ j, j < P → codes j = pg j := fun j hj => by
    obtain ⟨ch, -, -, a, b⟩ := hpg j hj
    rw [a, b]
  unfold m_X5_digest m_X6_digest
  obtain ⟨kk, kk', y, e1, e2⟩ := z_glassAll h hc hm hT (rs_X5_digest_7 sz (nI P) z0 k1 k2 k3 k4 k5 s0 tr rd dn tk pc ic codes kd sc sh sp hd) (rs_X6_digest_6 sm gl am rows tkm ln wd pm (nI P) rd dn pg) N 0 11 631 (by omega) (by omega)
  rw [show (0 : Int32) = nI 0 from rfl, e1, e2]
  unfold rs_X5_digest_7 rs_X6_digest_6
  obtain ⟨k8, e3⟩ := z_all4 (sp := sp) (ic := ic) (rs_X5_digest_8 sz (nI P) z0 k1 k2 k3 k4 k5 s0 tr rd dn tk pc ic codes kd sc sh sp hd) y
  have q0 : m_X5_isPart 0 = 1 := rfl
  have q1 : m_X5_isPart 1 = 1 := rfl
  rw [e3, (z_all2 q0).1, (z_all2 q1).1, (z_all2 q0).2, (z_all2 q1).2, (hA 0).1, (hA 1).1, (hA 0).2, (hA 1).2]
  simp only [z_cut, z_say]
  rw [← hm.1]
  generalize m_X5_into (m_X5_into (m_X5_into (m_X5_into y (m_X6_term sm 0)) (m_X6_term sm 1)) (m_X6_term (m_X6_together gl am) 0)) (m_X6_term (m_X6_together gl am) 1) = z
  unfold rs_X5_digest_8
  rcases z_lacks hN with ⟨a, b, c⟩ | ⟨a, b, c⟩
  · have l1 : sz ≤ 0 := by rw [hc.1, a]; decide
    rw [if_pos l1, if_neg (z10 (show m_X6_lacks gl = 1 by rw [hm.1]; exact c))]
    rw [show (0 : Int32) = nI 0 from rfl]
    refine z_digPage9 hP hpp (fun i j x => ?_) P 0 72 z (by omega) (by omega)
    unfold rs_X5_digest_9 rs_X6_digest_7
    rw [show (0 : Int32) = nI 0 from rfl]
    exact z_digCount10 hcnt (fun _ _ => rfl) (fun _ _ => rfl) 6 0 8 x (by omega) (by omega)
  · have l1 : ¬ sz ≤ 0 := by rw [hc.1]; exact nI_nle a (by omega)
    rw [if_neg l1, if_pos (show m_X6_lacks gl = 0 by rw [hm.1]; exact c)]
    simp only [z_cut, z_cut3, z_cut4, z_cut9]
    have hp2 := z_pow9 hN
    have es : ((1 : Int32) <<< (sz &&& 31)) - 1 = nI (2 ^ N - 1) := by rw [hc.1, z_shl hN, zn1, pk_sub (by omega)]
    have es2 : ((1 : Int32) <<< (gl &&& 31)) - 1 = nI (2 ^ N - 1) := by rw [hm.1, z_shl hN, zn1, pk_sub (by omega)]
    have em1 : (if (999 : Int32) < pc then 999 else pc) = nI (min p 999) := by
      rw [t2, show (999 : Int32) = nI 999 from rfl]
      by_cases q : 999 < p
      · rw [if_pos (nI_lt q (by omega)), show min p 999 = 999 by omega]
      · rw [if_neg (nI_nlt (show p ≤ 999 by omega) (by omega)), show min p 999 = p by omega]
    have em2 : (if pm ≤ (999 : Int32) then pm else 999) = nI (min p 999) := by
      rw [t3, show (999 : Int32) = nI 999 from rfl]
      by_cases q : p ≤ 999
      · rw [if_pos (nI_le q (by omega)), show min p 999 = p by omega]
      · rw [if_neg (nI_ge (show 999 < p by omega) (by omega)), show min p 999 = 999 by omega]
    rw [es, es2, em1, em2, show (0 : Int32) = nI 0 from rfl]
    have hn := z_need h hc hm t4 t6 t9 hS.1 (s := 2 ^ N - 1) (g := 0) (by omega) a tr tkm ln wd
    have hch := z_chips h hc hm a (m := min p 999) (by omega) t4.2 t6 t9.2.2 hB t9.2.1 k1 k2 k3 k4 k5 (m_X5_leastToFill sz kd tk sc sh sp ic tr (nI (2 ^ N - 1)) (nI 0)).2.2 (m_X6_needOf gl rows am tkm ln wd (nI (2 ^ N - 1)) (nI 0)).2.1 (m_X6_needOf gl rows am tkm ln wd (nI (2 ^ N - 1)) (nI 0)).2.2.1 (m_X6_needOf gl rows am tkm ln wd (nI (2 ^ N - 1)) (nI 0)).2.2.2
    rw [hn, hch]
    refine z_digPage11 hP hpp (fun i j x => ?_) P 0 72 _ (by omega) (by omega)
    unfold rs_X5_digest_11 rs_X6_digest_9
    rw [show (0 : Int32) = nI 0 from rfl]
    exact z_digCount12 hcnt (fun _ _ => rfl) (fun _ _ => rfl) 6 0 8 x (by omega) (by omega)
