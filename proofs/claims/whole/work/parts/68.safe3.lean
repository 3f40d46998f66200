/-! ===== isSafe: what it finds ===== -/
def PF (h v m : Int → Int) (n : Int) : Prop := (∃ t, 0 ≤ t ∧ t < n ∧ 0 < m t) ∧ (∃ t, 0 ≤ t ∧ t < n ∧ m t = 0 ∧ v t = 0 ∧ 0 < h t) ∧ (∃ t, 0 ≤ t ∧ t < n ∧ m t = 0 ∧ v t = 0 ∧ h t < 0) ∧ ∃ t, 0 ≤ t ∧ t < n ∧ m t = 0 ∧ 0 < v t
/-- x over w is the least, or the greatest, h of all lines that keep the rows -/
def Lst (h v m c : Int → Int) (n x w : Int) : Prop := 0 < w ∧ (∀ X Y Z W, Kp h v m c n X Y Z W → x * W ≤ X * w) ∧ ∃ X Y Z W, Kp h v m c n X Y Z W ∧ X * w = x * W
def Gst (h v m c : Int → Int) (n x w : Int) : Prop := 0 < w ∧ (∀ X Y Z W, Kp h v m c n X Y Z W → X * w ≤ x * W) ∧ ∃ X Y Z W, Kp h v m c n X Y Z W ∧ X * w = x * W
theorem Tw2.to {h v m c : Int → Int} {n x y z : Int} (H : Tw2 h v m c (Zi n) (Di n n) x y z) : Tw h v m c n n x y z := by
  rcases H with ⟨i, i1, r⟩ | ⟨i, j, p, q, d, r⟩
  · exact Or.inl ⟨i, i1.1, i1.2, r⟩
  · exact Or.inr ⟨i, j, p, q, d.1, d.2.1, d.2.2.1, d.2.2.2, r⟩
theorem Tz2.to {h v m c vh vv v1 : Int → Int} {n T : Int} (H : Tz2 h v m c (Zi n) (Di n n) vh vv v1 T) : Tz h v m c vh vv v1 n n T :=
  ⟨fun i i1 i2 i3 => H.1 i ⟨i1, i2⟩ i3, fun i j i1 i2 j1 j2 a b => H.2 i j ⟨i1, i2, j1, j2⟩ a b⟩
theorem gn_keep {h v m c vh vv v1 : Int → Int} {n T : Int} {S : Int → Int → Prop} (H : TT h v m c (Zi n) (Di n n) vh vv v1 T) (hG : GN vh vv v1 T S) {X Y Z W a d : Int} (K : Kp h v m c n X Y Z W) (hs : S a d) : 0 ≤ a * X + d * W := by
  rcases hG a d hs with ⟨i, i1, i2, i3, e1, e2⟩ | ⟨i, j, p, q, i1, i2, j1, j2, mi, mj, p0, q0, e, e1, e2⟩
  · have := tw_keep K.2 (H.1 i i1 i2).to
    rw [e1, e2]
    rw [i3] at this
    omega
  · have x1 := Int.mul_nonneg (Int.le_of_lt p0) (tw_keep K.2 (H.1 i i1 i2).to)
    have x2 := Int.mul_nonneg (Int.le_of_lt q0) (tw_keep K.2 (H.1 j j1 j2).to)
    rw [e1, e2]
    have : (p * vh i + q * vh j) * X + (p * v1 i + q * v1 j) * W = p * (vh i * X + vv i * Y + v1 i * W) + q * (vh j * X + vv j * Y + v1 j * W) - (p * vv i + q * vv j) * Y := by grind
    rw [this, e]
    omega
theorem fe_pt {h v m c vh vv v1 : Int → Int} {n T : Nat} {S : Int → Int → Prop} (P : PF h v m n) (H : TT h v m c (Zi n) (Di n n) vh vv v1 T) (hC : GC vh vv v1 (Zi T) (Di T T) S) {x w : Int} (w0 : 0 < w) (hk : ∀ a d, S a d → 0 ≤ a * x + d * w) : ∃ X Y Z W, Kp h v m c n X Y Z W ∧ X * w = x * W := by
  obtain ⟨y, k, k0, hy⟩ := fm_one (a := vv) (e := fun t => vh t * x + v1 t * w) (T := T) (by
      obtain ⟨t, t1, t2, t3, t4⟩ := P.2.2.2
      obtain ⟨s, s1, s2, _, s4, _⟩ := H.2.1.1 t ⟨t1, t2⟩ t3
      exact ⟨s, s1, s2, by rw [s4]; exact t4⟩) (fun t t1 t2 t3 => hk _ _ (hC.1 t ⟨t1, t2⟩ t3)) (fun i j i1 i2 j1 j2 mi mj => by
      obtain ⟨p, q, p0, q0, e, hs⟩ := hC.2 i j ⟨i1, i2, j1, j2⟩ mi mj
      have := hk _ _ hs
      refine nn_of_mul p0 ?_
      have y1 := Int.mul_nonneg (show 0 ≤ -(vv j) by omega) this
      have : p * (-(vv j) * (vh i * x + v1 i * w) + vv i * (vh j * x + v1 j * w)) = -(vv j) * ((p * vh i + q * vh j) * x + (p * v1 i + q * v1 j) * w) + (p * vv i + q * vv j) * (vh j * x + v1 j * w) := by grind
      rw [this, e]
      omega)
  obtain ⟨z, s, s0, K⟩ := tz_back (x := k * x) (y := y) (w := k * w) (Int.mul_pos k0 w0) P.1 H.2.1.to (fun t t1 t2 => by
      have := hy t t1 t2
      grind)
  exact ⟨_, _, _, _, K, by grind⟩
theorem fe_hl {h v m c vh vv v1 f : Int → Int} {n T : Nat} {S : Int → Int → Prop} (P : PF h v m n) (H : TT h v m c (Zi n) (Di n n) vh vv v1 T) (hA : AL S f) (hC : GC vh vv v1 (Zi T) (Di T T) S) : f 48 = 1 ∧ f 49 = 1 := by
  constructor
  · rcases hA.i48 with q | q
    · exfalso
      obtain ⟨t, t1, t2, t3, t4, t5⟩ := P.2.1
      obtain ⟨s, s1, s2, s3, s4, _⟩ := H.2.1.1 t ⟨t1, t2⟩ t3
      have := hA.no48 q _ _ (hC.1 s ⟨s1, s2⟩ (s4.trans t4))
      omega
    · exact q
  · rcases hA.i49 with q | q
    · exfalso
      obtain ⟨t, t1, t2, t3, t4, t5⟩ := P.2.2.1
      obtain ⟨s, s1, s2, s3, s4, _⟩ := H.2.1.1 t ⟨t1, t2⟩ t3
      have := hA.no49 q _ _ (hC.1 s ⟨s1, s2⟩ (s4.trans t4))
      omega
    · exact q
theorem low_le {h v m c vh vv v1 f : Int → Int} {n T : Int} {S : Int → Int → Prop} (H : TT h v m c (Zi n) (Di n n) vh vv v1 T) (hA : AL S f) (hG : GN vh vv v1 T S) (f48 : f 48 = 1) {X Y Z W : Int} (K : Kp h v m c n X Y Z W) : f 44 * W ≤ X * f 45 := by
  obtain ⟨k1, ⟨a, d, s, a0, e⟩, _⟩ := hA.lo f48
  have := gn_keep H hG K s
  have x1 := Int.mul_nonneg (Int.le_of_lt k1) this
  have : 0 ≤ X * f 45 - f 44 * W := by
    refine nn_of_mul a0 ?_
    have : a * (X * f 45 - f 44 * W) = f 45 * (a * X + d * W) - (f 44 * a - -d * f 45) * W := by grind
    rw [this, e]
    omega
  omega
theorem high_ge {h v m c vh vv v1 f : Int → Int} {n T : Int} {S : Int → Int → Prop} (H : TT h v m c (Zi n) (Di n n) vh vv v1 T) (hA : AL S f) (hG : GN vh vv v1 T S) (f49 : f 49 = 1) {X Y Z W : Int} (K : Kp h v m c n X Y Z W) : X * f 47 ≤ f 46 * W := by
  obtain ⟨k1, ⟨a, d, s, a0, e⟩, _⟩ := hA.hi f49
  have := gn_keep H hG K s
  have x1 := Int.mul_nonneg (Int.le_of_lt k1) this
  have : 0 ≤ f 46 * W - X * f 47 := by
    refine nn_of_mul (show 0 < -a by omega) ?_
    have : -a * (f 46 * W - X * f 47) = f 47 * (a * X + d * W) + (f 46 * -a - d * f 47) * W := by grind
    rw [this, e]
    omega
  omega
theorem fe_yes {h v m c vh vv v1 f : Int → Int} {n T : Nat} {S : Int → Int → Prop} (P : PF h v m n) (H : TT h v m c (Zi n) (Di n n) vh vv v1 T) (hA : AL S f) (hG : GN vh vv v1 T S) (f43 : f 43 = 0) (hC : GC vh vv v1 (Zi T) (Di T T) S) (le : f 44 * f 47 - f 46 * f 45 ≤ 0) :
    Fe h v m c n ∧ Lst h v m c n (f 44) (f 45) ∧ Gst h v m c n (f 46) (f 47) := by
  obtain ⟨f48, f49⟩ := fe_hl P H hA hC
  have ok := hA.ok0 f43
  have lo := hA.lo f48
  have hi := hA.hi f49
  have A : ∃ X Y Z W, Kp h v m c n X Y Z W ∧ X * f 45 = f 44 * W := fe_pt P H hC lo.1 (fun a d s => by
    rcases Int.lt_trichotomy a 0 with q | q | q
    · refine nn_of_mul hi.1 ?_
      have x1 := Int.mul_nonneg (Int.le_of_lt lo.1) (hi.2.2 a d s q)
      have x2 := Int.mul_nonneg (show 0 ≤ -a by omega) (show 0 ≤ -(f 44 * f 47 - f 46 * f 45) by omega)
      have : f 47 * (a * f 44 + d * f 45) = f 45 * (a * f 46 + d * f 47) + -a * -(f 44 * f 47 - f 46 * f 45) := by grind
      omega
    · rw [q] at s ⊢
      have := Int.mul_nonneg (ok d s) (Int.le_of_lt lo.1)
      omega
    · exact lo.2.2 a d s q)
  have B : ∃ X Y Z W, Kp h v m c n X Y Z W ∧ X * f 47 = f 46 * W := fe_pt P H hC hi.1 (fun a d s => by
    rcases Int.lt_trichotomy a 0 with q | q | q
    · exact hi.2.2 a d s q
    · rw [q] at s ⊢
      have := Int.mul_nonneg (ok d s) (Int.le_of_lt hi.1)
      omega
    · refine nn_of_mul lo.1 ?_
      have x1 := Int.mul_nonneg (Int.le_of_lt hi.1) (lo.2.2 a d s q)
      have x2 := Int.mul_nonneg (Int.le_of_lt q) (show 0 ≤ -(f 44 * f 47 - f 46 * f 45) by omega)
      have : f 45 * (a * f 46 + d * f 47) = f 47 * (a * f 44 + d * f 45) + a * -(f 44 * f 47 - f 46 * f 45) := by grind
      omega)
  refine ⟨?_, ⟨lo.1, fun X Y Z W K => low_le H hA hG f48 K, A⟩, ⟨hi.1, fun X Y Z W K => high_ge H hA hG f49 K, B⟩⟩
  obtain ⟨X, Y, Z, W, K, _⟩ := A
  exact ⟨X, Y, Z, W, K⟩
theorem fe_no1 {h v m c vh vv v1 f : Int → Int} {n T : Int} {S : Int → Int → Prop} (H : TT h v m c (Zi n) (Di n n) vh vv v1 T) (hA : AL S f) (hG : GN vh vv v1 T S) (f43 : f 43 = 1) : ¬ Fe h v m c n := by
  rintro ⟨X, Y, Z, W, K⟩
  obtain ⟨d, s, d0⟩ := hA.lost f43
  have := gn_keep H hG K s
  have := Int.mul_pos (show 0 < -d by omega) K.1
  rw [Int.neg_mul] at this
  omega
theorem fe_no2 {h v m c vh vv v1 f : Int → Int} {n T : Nat} {S : Int → Int → Prop} (P : PF h v m n) (H : TT h v m c (Zi n) (Di n n) vh vv v1 T) (hA : AL S f) (hG : GN vh vv v1 T S) (hC : GC vh vv v1 (Zi T) (Di T T) S) (gt : 0 < f 44 * f 47 - f 46 * f 45) : ¬ Fe h v m c n := by
  rintro ⟨X, Y, Z, W, K⟩
  obtain ⟨f48, f49⟩ := fe_hl P H hA hC
  have a := low_le H hA hG f48 K
  have b := high_ge H hA hG f49 K
  have l0 := (hA.lo f48).1
  have h0 := (hA.hi f49).1
  have x1 := Int.mul_le_mul_of_nonneg_right a (Int.le_of_lt h0)
  have x2 := Int.mul_le_mul_of_nonneg_right b (Int.le_of_lt l0)
  have x3 := Int.mul_pos gt K.1
  have e1 : f 44 * W * f 47 = f 44 * f 47 * W := by grind
  have e2 : f 46 * W * f 45 = f 46 * f 45 * W := by grind
  have e3 : X * f 45 * f 47 = X * f 47 * f 45 := by grind
  rw [Int.sub_mul] at x3
  omega
theorem al_nil {f : Int → Int} (h1 : f 43 = 0) (h2 : f 48 = 0) (h3 : f 49 = 0) : AL (fun _ _ => False) f :=
  ⟨Or.inl h1, Or.inl h2, Or.inl h3, fun c => by omega, fun _ _ s => s.elim, fun _ _ _ s => s.elim, fun _ _ _ s => s.elim, fun c => by omega, fun c => by omega⟩
theorem sp_X12_isSafe {Q X : m_Po} {ε : m_E} {μ : m_M} {M : Int} (L : LM ε M) {n : Nat} (hn : n ≤ 48) {h v m c : Int → Int} (W : RW μ M n h v m c) (B : FMB h v m c n) (P : PF h v m n)
    (h1 : ∀ (μ' : m_M) (T : Nat), FS M μ μ' → Fe h v m c n → Lst h v m c n (μ' M 44) (μ' M 45) → Gst h v m c n (μ' M 46) (μ' M 47) → T ≤ 672 → μ' M 42 = T → TT h v m c (Zi n) (Di n n) (μ' (M + 44)) (μ' (M + 45)) (μ' (M + 46)) T → Q 1 ε μ')
    (h0 : ∀ μ' : m_M, FS M μ μ' → ¬ Fe h v m c n → Q 0 ε μ') : o_X12_isSafe [(2, M)] ε μ Q X := by
  apply e_X12_isSafe
  refine fun _ => ⟨L.k, fun μ1 m1 μ2 m2 μ3 m3 μ4 m4 v1 e1 => ?_⟩
  have f4 : FS M μ μ4 := by
    rw [m4, m3, m2, m1]
    exact (((FS.stM (by decide) (by decide)).trans (FS.stM (by decide) (by decide))).trans (FS.stM (by decide) (by decide))).trans (FS.stM (by decide) (by decide))
  have z42 : μ4 M 42 = 0 := by rw [m4, m3, m2, m1]; simp [st]
  have z43 : μ4 M 43 = 0 := by rw [m4, m3, m2, m1]; simp [st]
  have z48 : μ4 M 48 = 0 := by rw [m4, m3, m2, m1]; simp [st]
  have z49 : μ4 M 49 = 0 := by rw [m4, m3, m2, m1]; simp [st]
  clear m1 m2 m3 m4
  rw [e1]
  refine is_out L hn (W.fs f4) B (fun μ5 f5 k5 T0 T1 H => ?_) n 0 μ4 (by omega) FS.rf (fun _ _ => rfl) (by omega) (by rw [z42]; exact Int.natCast_nonneg _) ?_
  · have eT : μ5 M 42 = (((μ5 M 42).toNat : Nat) : Int) := by omega
    generalize hT : (μ5 M 42).toNat = T at *
    rw [eT] at H
    refine is2_out L (T := T) (by omega) (μ0 := μ5) ⟨eT, fun _ => rfl, fun _ => rfl, fun _ => rfl⟩ H.2.2 (fun μ6 f6 H6 => ?_) T 0 μ5 (by omega) FF.rf ⟨_, al_nil ((k5 43 (by decide)).trans z43) ((k5 48 (by decide)).trans z48) ((k5 49 (by decide)).trans z49), fun _ _ s => s.elim, fun _ => ⟨fun i i1 => by unfold Zi at i1; omega, fun i j i1 => by unfold Di at i1; omega⟩⟩
    obtain ⟨S, hA, hG, hC⟩ := H6
    have F : FS M μ μ6 := (f4.trans f5).trans (FS.of f6)
    have c1 : ∀ k, μ6 (M + 44) k = μ5 (M + 44) k := fun k => f6 _ k (by omega)
    have c2 : ∀ k, μ6 (M + 45) k = μ5 (M + 45) k := fun k => f6 _ k (by omega)
    have c3 : ∀ k, μ6 (M + 46) k = μ5 (M + 46) k := fun k => f6 _ k (by omega)
    have d1 : μ6 (M + 44) = μ5 (M + 44) := funext c1
    have d2 : μ6 (M + 45) = μ5 (M + 45) := funext c2
    have d3 : μ6 (M + 46) = μ5 (M + 46) := funext c3
    refine ⟨fun z => ?_, fun z => ?_⟩
    · apply g_X12_isSafe_411
      exact fun _ => h0 μ6 F (fe_no1 H hA hG (by have := hA.i43; omega))
    · have C := hC z
      obtain ⟨f48, f49⟩ := fe_hl P H hA C
      refine sp_X12_lies (hA.lo f48).1 (hA.hi f49).1 ?_
      apply g_X12_isSafe_404
      refine fun _ _ => ⟨fun q => ?_, fun q => ?_⟩
      · apply g_X12_isSafe_411
        exact fun _ => h0 μ6 F (fe_no2 P H hA hG C (sg_pos q))
      · obtain ⟨r1, r2, r3⟩ := fe_yes P H hA hG z C (sg_npos q)
        exact h1 μ6 T F r1 r2 r3 (by omega) ((f6 M 42 (by omega)).trans eT) (by rw [d1, d2, d3]; exact H)
  · rw [z42]
    exact ⟨fun t t1 t2 => by omega, ⟨fun i i1 => by unfold Zi at i1; omega, fun i j i1 => by unfold Di at i1; omega⟩, fun t t1 t2 => by omega⟩
