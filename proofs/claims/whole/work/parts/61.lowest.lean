/-! ===== lowest terms ===== -/
def tmp (s : Int) : Prop := s = 32 ∨ s = 34 ∨ s = 36 ∨ s = 38 ∨ s = 40 ∨ s = 42
/-- n over d in lowest terms is n' over d' -/
def LO (n d n' d' : Int) : Prop := 0 < d' ∧ Int.gcd n' d' = 1 ∧ n' * d = n * d' ∧ n'.natAbs ≤ n.natAbs ∧ d'.natAbs ≤ d.natAbs
theorem gcd_pos_r {a b : Int} (h : b ≠ 0) : 0 < Int.gcd a b := Nat.pos_of_ne_zero (fun e => h (by
  have : (Int.gcd a b : Nat) = Nat.gcd a.natAbs b.natAbs := rfl
  rw [this] at e
  have := Nat.eq_zero_of_gcd_eq_zero_right e
  omega))
theorem LO.div {n d : Int} (hd : 0 < d) : LO n d (Int.tdiv n (Int.gcd n d)) (Int.tdiv d (Int.gcd n d)) := by
  have g0 := gcd_pos_r (a := n) (b := d) (by omega)
  have d1 : (Int.gcd n d : Nat) ∣ n.natAbs := Nat.gcd_dvd_left _ _
  have d2 : (Int.gcd n d : Nat) ∣ d.natAbs := Nat.gcd_dvd_right _ _
  generalize hg : Int.gcd n d = g at *
  obtain ⟨x, hx⟩ := d1
  obtain ⟨y, hy⟩ := d2
  have ed : d = (g : Int) * y := by
    have : ((d.natAbs : Nat) : Int) = ((g * y : Nat) : Int) := by rw [hy]
    rw [Int.natCast_mul] at this
    omega
  have en : n = (g : Int) * x ∨ n = (g : Int) * (-(x : Int)) := by
    have : ((n.natAbs : Nat) : Int) = ((g * x : Nat) : Int) := by rw [hx]
    rw [Int.natCast_mul] at this
    rw [Int.mul_neg]
    omega
  have gne : (g : Int) ≠ 0 := by omega
  have gxy : Nat.gcd x y = 1 := by
    have e : Nat.gcd n.natAbs d.natAbs = g := hg
    rw [hx, hy, Nat.gcd_mul_left] at e
    exact Nat.eq_of_mul_eq_mul_left g0 (by omega)
  have ty : Int.tdiv d g = y := by rw [ed, Int.mul_tdiv_cancel_left _ gne]
  have y0 : 0 < y := Nat.pos_of_ne_zero (fun e => by rw [e] at ed; simp at ed; omega)
  have le1 : x ≤ n.natAbs := by rw [hx]; exact Nat.le_mul_of_pos_left x g0
  have le2 : y ≤ d.natAbs := by rw [hy]; exact Nat.le_mul_of_pos_left y g0
  rw [ty]
  rcases en with en | en
  · have tx : Int.tdiv n g = x := by rw [en, Int.mul_tdiv_cancel_left _ gne]
    rw [tx]
    refine ⟨by omega, by unfold Int.gcd; simpa using gxy, ?_, by simpa using le1, by simpa using le2⟩
    rw [en, ed]; grind
  · have tx : Int.tdiv n g = -(x : Int) := by rw [en, Int.mul_tdiv_cancel_left _ gne]
    rw [tx]
    refine ⟨by omega, by unfold Int.gcd; simpa using gxy, ?_, by simpa using le1, by simpa using le2⟩
    rw [en, ed]; grind
theorem LO.neg {n d n' d' : Int} (h : LO (-n) (-d) n' d') : LO n d n' d' := by
  obtain ⟨h1, h2, h3, h4, h5⟩ := h
  exact ⟨h1, h2, by grind, by simpa using h4, by simpa using h5⟩
theorem lw_loop {Q X : m_Po} {ε : m_E} {M u l : Int} (hu : u ∈ lm_b) (hl : l ∈ lm_b) (tu : ¬ tmp u) (tl : ¬ tmp l) (ul : u ≠ l) {U L : Int} (hL : 0 < L) (bU : (U.natAbs : Int) * 2 < PB 12) (bL : L * 2 < PB 12) {R0 : Int → Int} {μ0 : m_M}
    (h : ∀ μ' R', RG ε μ' M R' → LO U L (R' u) (R' l) → (∀ s, ¬ tmp s → s ≠ u → s ≠ l → R' s = R0 s) → FB M μ0 μ' → Q 0 ε μ') :
    ∀ (N : Nat) (a b : Int) (μ : m_M) (R : Int → Int), 0 ≤ a → 0 ≤ b → b ≤ N → RG ε μ M R → R 40 = a → R 42 = b → Int.gcd a b = Int.gcd U L → a * 2 < PB 12 → b * 2 < PB 12 → R u = U → R l = L → (∀ s, ¬ tmp s → s ≠ u → s ≠ l → R s = R0 s) → FB M μ0 μ → G cd_X12_lowest Q X 70 [(0, (2, M)), (1, (2, M + u)), (2, (2, M + l))] [] ε μ := by
  have m32 : (32 : Int) ∈ lm_b := by decide
  have m36 : (36 : Int) ∈ lm_b := by decide
  have m38 : (38 : Int) ∈ lm_b := by decide
  have m40 : (40 : Int) ∈ lm_b := by decide
  have m42 : (42 : Int) ∈ lm_b := by decide
  have U1 : u ≠ 32 ∧ u ≠ 34 ∧ u ≠ 36 ∧ u ≠ 38 ∧ u ≠ 40 ∧ u ≠ 42 := by unfold tmp at tu; omega
  have L1 : l ≠ 32 ∧ l ≠ 34 ∧ l ≠ 36 ∧ l ≠ 38 ∧ l ≠ 40 ∧ l ≠ 42 := by unfold tmp at tl; omega
  have S1 : ∀ s, ¬ tmp s → s ≠ 32 ∧ s ≠ 34 ∧ s ≠ 36 ∧ s ≠ 38 ∧ s ≠ 40 ∧ s ≠ 42 := by intro s hs; unfold tmp at hs; omega
  have main : ∀ (a b : Int) (μ : m_M) (R : Int → Int), 0 ≤ a → 0 ≤ b → RG ε μ M R → R 40 = a → R 42 = b → Int.gcd a b = Int.gcd U L → a * 2 < PB 12 → R u = U → R l = L → (∀ s, ¬ tmp s → s ≠ u → s ≠ l → R s = R0 s) → FB M μ0 μ →
      (∀ μ' R', 0 < b → RG ε μ' M R' → R' 40 = b → R' 42 = a % b → R' u = U → R' l = L → (∀ s, ¬ tmp s → s ≠ u → s ≠ l → R' s = R0 s) → FB M μ0 μ' → G cd_X12_lowest Q X 70 [(0, (2, M)), (1, (2, M + u)), (2, (2, M + l))] [] ε μ') →
      G cd_X12_lowest Q X 70 [(0, (2, M)), (1, (2, M + u)), (2, (2, M + l))] [] ε μ := by
    intro a b μ R a0 b0 H e40 e42 eg ba eu el fr fb nxt
    have LL := H.1
    apply g_X12_lowest_70
    rw [LL.f38.1]
    refine fun _ => ⟨LL.k, LL.f38.2.1, rg_no H m42 ?_⟩
    rw [e42]
    have p2 : μ (M + 31) 2 = M + 36 := H.2.2.1 (31, 2, 36) (by decide)
    have p3 : μ (M + 31) 3 = M + 38 := H.2.2.1 (31, 3, 38) (by decide)
    apply g_X12_lowest_77
    rw [LL.f36.1, LL.f37.1, p2, p3]
    refine fun _ _ => ⟨fun c => ⟨LL.k, LL.f36.2.1, by rw [LL.f36.2.2]; decide, (H.2.1 38 m38).1, rg_take H m38 m40 (fun μ1 H1 f1 => ?_)⟩, fun c => ⟨LL.k, LL.f36.2.1, by rw [LL.f36.2.2]; decide, (H.2.1 36 m36).1, rg_take H m36 m40 (fun μ1 H1 f1 => ?_)⟩⟩
    · have bz : b = 0 := by
        by_cases z : b = 0
        · exact z
        · rw [if_neg z] at c; exact absurd rfl c
      rw [bz, Int.gcd_zero_right] at eg
      have g0 := gcd_pos_r (a := U) (b := L) (by omega)
      have ag : (a.natAbs : Int) = (Int.gcd U L : Nat) := by rw [eg]
      have p3' : μ1 (M + 31) 3 = M + 38 := H1.2.2.1 (31, 3, 38) (by decide)
      have w38 : up R 38 (R 40) 38 = a := by rw [up_same]; exact e40
      have wu : up R 38 (R 40) u = U := by rw [up_ne U1.2.2.2.1]; exact eu
      have wl : up R 38 (R 40) l = L := by rw [up_ne L1.2.2.2.1]; exact el
      apply g_X12_lowest_147
      rw [LL.f36.1, p3']
      refine fun _ => ⟨LL.k, LL.f36.2.1, by rw [LL.f36.2.2]; decide, rg_over H1 hu m38 U1.1 U1.2.1 (by decide) (by rw [w38]; omega) (by rw [wu]; exact bU) (fun μ2 R2 H2 r1 r2 r3 f2 => ?_)⟩
      rw [wu, w38, ag] at r2
      have v38 : R2 38 = a := by rw [r3 38 (by decide) (by decide) (fun e => U1.2.2.2.1 e.symm)]; exact w38
      have vl : R2 l = L := by rw [r3 l L1.1 L1.2.1 (fun e => ul e.symm)]; exact wl
      have p3'' : μ2 (M + 31) 3 = M + 38 := H2.2.2.1 (31, 3, 38) (by decide)
      apply g_X12_lowest_158
      rw [LL.f36.1, p3'']
      refine fun _ => ⟨LL.k, LL.f36.2.1, by rw [LL.f36.2.2]; decide, rg_over H2 hl m38 L1.1 L1.2.1 (by decide) (by rw [v38]; omega) (by rw [vl]; omega) (fun μ3 R3 H3 s1 s2 s3 f3 => ?_)⟩
      rw [vl, v38, ag] at s2
      apply g_X12_lowest_169
      refine fun _ => h μ3 R3 H3 ?_ ?_ (((fb.trans f1).trans f2).trans f3)
      · rw [s2, s3 u U1.1 U1.2.1 ul, r2]
        exact LO.div hL
      · intro s t1 t2 t3
        have q := S1 s t1
        rw [s3 s q.1 q.2.1 t3, r3 s q.1 q.2.1 t2, up_ne q.2.2.2.1]
        exact fr s t1 t2 t3
    · have bz : b ≠ 0 := by
        intro z
        rw [if_pos z] at c; exact absurd c (by decide)
      have p2' : μ1 (M + 31) 2 = M + 36 := H1.2.2.1 (31, 2, 36) (by decide)
      have w36 : up R 36 (R 40) 36 = a := by rw [up_same]; exact e40
      have w42 : up R 36 (R 40) 42 = b := by rw [up_ne (by decide)]; exact e42
      apply g_X12_lowest_93
      rw [LL.f36.1, LL.f38.1, p2']
      refine fun _ => ⟨LL.k, LL.f36.2.1, by rw [LL.f36.2.2]; decide, rg_over H1 m36 m42 (by decide) (by decide) (by decide) (by rw [w42]; exact bz) (by rw [w36]; omega) (fun μ2 R2 H2 r1 r2 r3 f2 => ?_)⟩
      rw [w36, w42, show (a.natAbs : Int) = a by omega, show (b.natAbs : Int) = b by omega] at r1
      have v42 : R2 42 = b := by rw [r3 42 (by decide) (by decide) (by decide)]; exact w42
      apply g_X12_lowest_107
      rw [LL.f37.1, LL.f38.1]
      refine fun _ => ⟨LL.k, LL.f37.2.1, rg_take H2 m40 m42 (fun μ3 H3 f3 => ?_)⟩
      have p0 : μ3 (M + 31) 0 = M + 32 := H3.2.2.1 (31, 0, 32) (by decide)
      apply g_X12_lowest_118
      rw [LL.f36.1, LL.f38.1, p0]
      refine fun _ => ⟨LL.k, LL.f36.2.1, by rw [LL.f36.2.2]; decide, LL.f38.2.1, rg_take H3 m42 m32 (fun μ4 H4 f4 => ?_)⟩
      apply g_X12_lowest_131
      refine fun _ => nxt μ4 _ (by omega) H4 ?_ ?_ ?_ ?_ ?_ ((((fb.trans f1).trans f2).trans f3).trans f4)
      · rw [up_ne (by decide), up_same]; exact v42
      · rw [up_same, up_ne (by decide)]; exact r1
      · rw [up_ne U1.2.2.2.2.2, up_ne U1.2.2.2.2.1, r3 u U1.1 U1.2.1 U1.2.2.1, up_ne U1.2.2.1]; exact eu
      · rw [up_ne L1.2.2.2.2.2, up_ne L1.2.2.2.2.1, r3 l L1.1 L1.2.1 L1.2.2.1, up_ne L1.2.2.1]; exact el
      · intro s t1 t2 t3
        have q := S1 s t1
        rw [up_ne q.2.2.2.2.2, up_ne q.2.2.2.2.1, r3 s q.1 q.2.1 q.2.2.1, up_ne q.2.2.1]
        exact fr s t1 t2 t3
  intro N
  induction N with
  | zero =>
    intro a b μ R a0 b0 bN H e40 e42 eg ba bb eu el fr fb
    exact main a b μ R a0 b0 H e40 e42 eg ba eu el fr fb (fun μ' R' c => by omega)
  | succ N ih =>
    intro a b μ R a0 b0 bN H e40 e42 eg ba bb eu el fr fb
    refine main a b μ R a0 b0 H e40 e42 eg ba eu el fr fb (fun μ' R' c H' r1 r2 r3 r4 r5 r6 => ?_)
    have m1 := Int.emod_nonneg a (show b ≠ 0 by omega)
    have m2 := Int.emod_lt_of_pos a c
    exact ih b (a % b) μ' R' b0 m1 (by omega) H' r1 r2 (by rw [gcd_step a0]; exact eg) bb (by omega) r3 r4 r5 r6
theorem lw_pos {Q X : m_Po} {ε : m_E} {M u l : Int} (hu : u ∈ lm_b) (hl : l ∈ lm_b) (tu : ¬ tmp u) (tl : ¬ tmp l) (ul : u ≠ l) {μ : m_M} {R : Int → Int} (H : RG ε μ M R) (hL : 0 < R l) (bU : ((R u).natAbs : Int) * 2 < PB 12) (bL : R l * 2 < PB 12)
    (h : ∀ μ' R', RG ε μ' M R' → LO (R u) (R l) (R' u) (R' l) → (∀ s, ¬ tmp s → s ≠ u → s ≠ l → R' s = R s) → FB M μ μ' → Q 0 ε μ') : G cd_X12_lowest Q X 28 [(0, (2, M)), (1, (2, M + u)), (2, (2, M + l))] [] ε μ := by
  have m40 : (40 : Int) ∈ lm_b := by decide
  have m42 : (42 : Int) ∈ lm_b := by decide
  have U1 : u ≠ 32 ∧ u ≠ 34 ∧ u ≠ 36 ∧ u ≠ 38 ∧ u ≠ 40 ∧ u ≠ 42 := by unfold tmp at tu; omega
  have L1 : l ≠ 32 ∧ l ≠ 34 ∧ l ≠ 36 ∧ l ≠ 38 ∧ l ≠ 40 ∧ l ≠ 42 := by unfold tmp at tl; omega
  have S1 : ∀ s, ¬ tmp s → s ≠ 32 ∧ s ≠ 34 ∧ s ≠ 36 ∧ s ≠ 38 ∧ s ≠ 40 ∧ s ≠ 42 := by intro s hs; unfold tmp at hs; omega
  have LL := H.1
  apply g_X12_lowest_28
  refine fun _ => ⟨(H.2.1 u hu).1, rg_no H hu ?_⟩
  apply g_X12_lowest_32
  rw [LL.f37.1]
  refine fun _ _ => ⟨fun c => ⟨LL.k, LL.f37.2.1, rg_take H m40 hu (fun μ1 H1 f1 => ?_)⟩, fun c => ⟨(H.2.1 u hu).1, rg_set H hu (by decide) (fun μ1 H1 f1 => ?_)⟩⟩
  · apply g_X12_lowest_54
    rw [LL.f38.1]
    refine fun _ => ⟨LL.k, LL.f38.2.1, rg_take H1 m42 hl (fun μ2 H2 f2 => ?_)⟩
    apply g_X12_lowest_62
    rw [LL.f37.1]
    refine fun _ => ⟨LL.k, LL.f37.2.1, fun μ3 m3 => ?_⟩
    obtain ⟨H3, f3⟩ := H2.sign m40 (Or.inl rfl)
    rw [← m3] at H3 f3
    rw [if_pos rfl] at H3
    have w : up (up R 40 (R u)) 42 (up R 40 (R u) l) 40 = R u := by rw [up_ne (by decide), up_same]
    refine lw_loop hu hl tu tl ul hL bU bL (R0 := R) (μ0 := μ) h (R l).toNat ((R u).natAbs : Int) (R l) μ3 _ (by omega) (by omega) (by omega) H3 ?_ ?_ ?_ bU bL ?_ ?_ ?_ ((f1.trans f2).trans f3)
    · rw [up_same, w]
    · rw [up_ne (by decide), up_same, up_ne L1.2.2.2.2.1]
    · unfold Int.gcd; simp
    · rw [up_ne U1.2.2.2.2.1, up_ne U1.2.2.2.2.2, up_ne U1.2.2.2.2.1]
    · rw [up_ne L1.2.2.2.2.1, up_ne L1.2.2.2.2.2, up_ne L1.2.2.2.2.1]
    · intro s t1 _ _
      have q := S1 s t1
      rw [up_ne q.2.2.2.2.1, up_ne q.2.2.2.2.2, up_ne q.2.2.2.2.1]
  · have uz : R u = 0 := by
      by_cases z : R u = 0
      · exact z
      · rw [if_neg z] at c; exact absurd rfl c
    apply g_X12_lowest_40
    refine fun _ => ⟨(H.2.1 l hl).1, rg_set H1 hl (by decide) (fun μ2 H2 f2 => ?_)⟩
    apply g_X12_lowest_45
    refine fun _ => h μ2 _ H2 ?_ ?_ (f1.trans f2)
    · rw [up_same, up_ne ul, up_same, uz]
      refine ⟨by decide, by decide, by simp, by simp, ?_⟩
      show 1 ≤ _
      omega
    · intro s _ t2 t3
      rw [up_ne t3, up_ne t2]
theorem rg_lowest {Q X : m_Po} {ε : m_E} {M u l : Int} (hu : u ∈ lm_b) (hl : l ∈ lm_b) (tu : ¬ tmp u) (tl : ¬ tmp l) (ul : u ≠ l) {μ : m_M} {R : Int → Int} (H : RG ε μ M R) (hL : R l ≠ 0) (bU : ((R u).natAbs : Int) * 2 < PB 12) (bL : ((R l).natAbs : Int) * 2 < PB 12)
    (h : ∀ μ' R', RG ε μ' M R' → LO (R u) (R l) (R' u) (R' l) → (∀ s, ¬ tmp s → s ≠ u → s ≠ l → R' s = R s) → FB M μ μ' → Q 0 ε μ') : o_X12_lowest [(2, M), (2, M + u), (2, M + l)] ε μ Q X := by
  have sl := rg_sg H hl
  apply e_X12_lowest
  refine fun _ => ⟨(H.2.1 l hl).1, fun c => ?_, fun c μ1 m1 => ⟨(H.2.1 u hu).1, fun t et => ⟨(H.2.1 u hu).1, by rw [et]; split <;> omega, fun μ2 m2 => ?_⟩⟩⟩
  · rw [if_pos c] at sl
    exact lw_pos hu hl tu tl ul H (by omega) bU (by omega) h
  · rw [if_neg c] at sl
    obtain ⟨H1, f1⟩ := H.sign hl (Or.inl rfl)
    rw [← m1] at H1 f1
    rw [if_pos rfl] at H1
    have su := rg_sg H1 hu
    have ht : t = 0 ∨ t = 1 := by rw [et]; split <;> omega
    obtain ⟨H2, f2⟩ := H1.sign hu ht
    rw [← m2] at H2 f2
    rw [up_ne ul] at su H2
    have eU : (if t = 0 then ((R u).natAbs : Int) else -((R u).natAbs : Int)) = -(R u) := by
      by_cases z : μ1 (M + u) 1 = 0
      · rw [if_pos z] at su et
        rw [et, if_neg (by decide)]; omega
      · rw [if_neg z] at su et
        rw [et, if_pos rfl]; omega
    rw [eU] at H2
    have e1 : up (up R l ((R l).natAbs : Int)) u (-(R u)) u = -(R u) := up_same
    have e2 : up (up R l ((R l).natAbs : Int)) u (-(R u)) l = -(R l) := by rw [up_ne (fun e => ul e.symm), up_same]; omega
    refine lw_pos hu hl tu tl ul H2 (by rw [e2]; omega) (by rw [e1]; omega) (by rw [e2]; omega) (fun μ' R' H' lo fr fb => h μ' R' H' ?_ ?_ ((f1.trans f2).trans fb))
    · rw [e1, e2] at lo; exact lo.neg
    · intro s t1 t2 t3
      rw [fr s t1 t2 t3, up_ne t2, up_ne t3]
