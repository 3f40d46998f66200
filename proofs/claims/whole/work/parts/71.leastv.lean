/-! ===== the sharpest of rows from below (by least.py) ===== -/
def MX (P V : Int → Int) (t x y : Int) : Prop := (∀ s, 0 ≤ s → s < t → 0 < V s → 0 ≤ P s * y + V s * x) ∧ ∃ s, 0 ≤ s ∧ s < t ∧ 0 < V s ∧ P s * y + V s * x = 0
def MI (P V : Int → Int) (t has x y : Int) : Prop := (has = 0 ∧ ∀ s, 0 ≤ s → s < t → V s ≤ 0) ∨ (has = 1 ∧ 0 < y ∧ MX P V t x y)
theorem f_low {P V N D x y : Int} (D0 : 0 < D) (y0 : 0 < y) (e : x * D = N * y) : (0 ≤ P * D + V * N → 0 ≤ P * y + V * x) ∧ (P * D + V * N = 0 → P * y + V * x = 0) := by
  have q : D * (P * y + V * x) = y * (P * D + V * N) := by grind
  refine ⟨fun h => nn_of_mul D0 (by rw [q]; exact Int.mul_nonneg (Int.le_of_lt y0) h), fun h => zero_of_mul D0 (by rw [q, h]; simp)⟩
theorem f_up {P V x y N D : Int} (V0 : 0 ≤ V) (y0 : 0 < y) (D0 : 0 ≤ D) (h : 0 ≤ P * y + V * x) (gt : x * D ≤ N * y) : 0 ≤ P * D + V * N := by
  refine nn_of_mul y0 ?_
  have a := Int.mul_nonneg D0 h
  have b := Int.mul_nonneg V0 (show 0 ≤ N * y - x * D by omega)
  have : y * (P * D + V * N) = D * (P * y + V * x) + V * (N * y - x * D) := by grind
  omega
theorem mi_new {P V : Int → Int} {t has x y x' y' : Int} (t0 : 0 ≤ t) (H : MI P V t has x y) (hV : 0 < V t) (y0 : 0 < y') (e : x' * V t = -(P t) * y') (gt : has = 0 ∨ x * V t < -(P t) * y) : MI P V (t + 1) 1 x' y' := by
  refine Or.inr ⟨rfl, y0, fun s s0 s1 s2 => ?_, t, t0, by omega, hV, (f_low hV y0 e).2 (by grind)⟩
  refine (f_low hV y0 e).1 ?_
  by_cases q : s = t
  · rw [q]
    have : P t * V t + V t * -(P t) = 0 := by grind
    omega
  · rcases H with ⟨h1, h2⟩ | ⟨h1, h2, h3, _⟩
    · have := h2 s s0 (by omega); omega
    · refine f_up (Int.le_of_lt s2) h2 (Int.le_of_lt hV) (h3 s s0 (by omega) s2) ?_
      rcases gt with g | g <;> omega
theorem mi_old {P V : Int → Int} {t has x y : Int} (H : MI P V t has x y) (h1 : has ≠ 0) (hl : ¬ x * V t < -(P t) * y) : MI P V (t + 1) has x y := by
  rcases H with ⟨h, _⟩ | ⟨h, h2, h3, s, s0, s1, s2, s3⟩
  · exact absurd h h1
  · refine Or.inr ⟨h, h2, fun r r0 r1 r2 => ?_, s, s0, by omega, s2, s3⟩
    by_cases q : r = t
    · rw [q]
      have : P t * y + V t * x = x * V t - -(P t) * y := by grind
      omega
    · exact h3 r r0 (by omega) r2
theorem mi_skip {P V : Int → Int} {t has x y : Int} (H : MI P V t has x y) (hV : V t ≤ 0) : MI P V (t + 1) has x y := by
  rcases H with ⟨h, h1⟩ | ⟨h, h2, h3, s, s0, s1, s2, s3⟩
  · refine Or.inl ⟨h, fun s s0 s1 => ?_⟩
    by_cases q : s = t
    · rw [q]; exact hV
    · exact h1 s s0 (by omega)
  · refine Or.inr ⟨h, h2, fun r r0 r1 r2 => ?_, s, s0, by omega, s2, s3⟩
    by_cases q : r = t
    · rw [q] at r2; omega
    · exact h3 r r0 (by omega) r2
theorem mi_end {P V : Int → Int} {t has x y : Int} (H : MI P V t has x y) (hex : ∃ s, 0 ≤ s ∧ s < t ∧ 0 < V s) : 0 < y ∧ MX P V t x y := by
  rcases H with ⟨_, h1⟩ | ⟨_, h2, h3⟩
  · obtain ⟨s, s0, s1, s2⟩ := hex
    have := h1 s s0 s1; omega
  · exact ⟨h2, h3⟩
def tme (s : Int) : Prop := tmp s ∨ s = 74 ∨ s = 76 ∨ s = 78 ∨ s = 80 ∨ s = 82 ∨ s = 84 ∨ s = 86
theorem tme.no {s : Int} (h : ¬ tme s) : ¬ tmp s ∧ s ≠ 74 ∧ s ≠ 76 ∧ s ≠ 78 ∧ s ≠ 80 ∧ s ≠ 82 ∧ s ≠ 84 ∧ s ≠ 86 := by
  unfold tme at h
  refine ⟨fun q => h (Or.inl q), ?_⟩
  have : ¬ (s = 74 ∨ s = 76 ∨ s = 78 ∨ s = 80 ∨ s = 82 ∨ s = 84 ∨ s = 86) := fun q => h (Or.inr q)
  omega
theorem rg_above {Q X : m_Po} {ε : m_E} {μ0 : m_M} {M x y z w : Int} {R : Int → Int} (H0 : RG ε μ0 M R) (hx : x ∈ lm_b) (hy : y ∈ lm_b) (hz : z ∈ lm_b) (hw : w ∈ lm_b) (nx : x ≠ 84) (nw : w ≠ 84) (nz : z ≠ 84) (ny : y ≠ 84) (nz' : z ≠ 86) (ny' : y ≠ 86) {a b : Nat} (bx : bd (R x) a) (bw : bd (R w) b) (bz : bd (R z) a) (by' : bd (R y) b) (hab : a + b ≤ 384)
    (h : ∀ μ' R', RG ε μ' M R' → (∀ s, s ≠ 84 → s ≠ 86 → R' s = R s) → FB M μ0 μ' → Q (if R z * R y < R x * R w then 1 else 0) ε μ') : o_X12_isAbove [(2, M), (2, M + x), (2, M + y), (2, M + z), (2, M + w)] ε μ0 Q X := by
  apply e_X12_isAbove
  simp only [H0.1.k, H0.1.f30.1, H0.1.f30.2.1, H0.1.f30.2.2, H0.1.f31.1, H0.1.f31.2.1, H0.1.f31.2.2, H0.1.f32.1, H0.1.f32.2.1, H0.1.f32.2.2, H0.1.f33.1, H0.1.f33.2.1, H0.1.f33.2.2, H0.1.f39.1, H0.1.f39.2.1, H0.1.f39.2.2, H0.1.f40.1, H0.1.f40.2.1, H0.1.f40.2.2, H0.1.f41.1, H0.1.f41.2.1, H0.1.f41.2.2, H0.1.f50.1, H0.1.f50.2.1, H0.1.f50.2.2, H0.1.f51.1, H0.1.f51.2.1, H0.1.f51.2.2, H0.1.f52.1, H0.1.f52.2.1, H0.1.f52.2.2, H0.1.f58.1, H0.1.f58.2.1, H0.1.f58.2.2, H0.u0, H0.u1, H0.u2, H0.u3, H0.u4, H0.u5, H0.l0, H0.l1, H0.l2, H0.l3, H0.l4, H0.l5, H0.e0, H0.e1, H0.e2, H0.e3, H0.e4, H0.e5, H0.e6, H0.t0, H0.t1, H0.t2, H0.t3, H0.t4, H0.b48, H0.b50, H0.b52, H0.b54, H0.b56, H0.b58, H0.b61, H0.b63, H0.b65, H0.b67, H0.b69, H0.b71, H0.b74, H0.b76, H0.b78, H0.b80, H0.b82, H0.b84, H0.b86, H0.b92, H0.b94, H0.b96, H0.b98, H0.b100, eq_self, true_and, and_true, Int.reduceLT, Int.reduceLE, Int.reduceAdd, w32_1, w32_2, w32_4, w32_5, Int.le_refl]
  intros
  refine rg_prod H0 (by decide) hx hw nx nw (pb_mul bx bw hab) (fun μ1 H1 f1 => ?_)
  apply g_X12_isAbove_12
  simp only [H1.1.k, H1.1.f30.1, H1.1.f30.2.1, H1.1.f30.2.2, H1.1.f31.1, H1.1.f31.2.1, H1.1.f31.2.2, H1.1.f32.1, H1.1.f32.2.1, H1.1.f32.2.2, H1.1.f33.1, H1.1.f33.2.1, H1.1.f33.2.2, H1.1.f39.1, H1.1.f39.2.1, H1.1.f39.2.2, H1.1.f40.1, H1.1.f40.2.1, H1.1.f40.2.2, H1.1.f41.1, H1.1.f41.2.1, H1.1.f41.2.2, H1.1.f50.1, H1.1.f50.2.1, H1.1.f50.2.2, H1.1.f51.1, H1.1.f51.2.1, H1.1.f51.2.2, H1.1.f52.1, H1.1.f52.2.1, H1.1.f52.2.2, H1.1.f58.1, H1.1.f58.2.1, H1.1.f58.2.2, H1.u0, H1.u1, H1.u2, H1.u3, H1.u4, H1.u5, H1.l0, H1.l1, H1.l2, H1.l3, H1.l4, H1.l5, H1.e0, H1.e1, H1.e2, H1.e3, H1.e4, H1.e5, H1.e6, H1.t0, H1.t1, H1.t2, H1.t3, H1.t4, H1.b48, H1.b50, H1.b52, H1.b54, H1.b56, H1.b58, H1.b61, H1.b63, H1.b65, H1.b67, H1.b69, H1.b71, H1.b74, H1.b76, H1.b78, H1.b80, H1.b82, H1.b84, H1.b86, H1.b92, H1.b94, H1.b96, H1.b98, H1.b100, eq_self, true_and, and_true, Int.reduceLT, Int.reduceLE, Int.reduceAdd, w32_1, w32_2, w32_4, w32_5, Int.le_refl]
  intros
  refine rg_prod H1 (by decide) hz hy nz' ny' (by rw [up_ne nz, up_ne ny]; exact pb_mul bz by' hab) (fun μ2 H2 f2 => ?_)
  rw [up_ne nz, up_ne ny] at H2
  apply g_X12_isAbove_24
  simp only [H2.1.k, H2.1.f30.1, H2.1.f30.2.1, H2.1.f30.2.2, H2.1.f31.1, H2.1.f31.2.1, H2.1.f31.2.2, H2.1.f32.1, H2.1.f32.2.1, H2.1.f32.2.2, H2.1.f33.1, H2.1.f33.2.1, H2.1.f33.2.2, H2.1.f39.1, H2.1.f39.2.1, H2.1.f39.2.2, H2.1.f40.1, H2.1.f40.2.1, H2.1.f40.2.2, H2.1.f41.1, H2.1.f41.2.1, H2.1.f41.2.2, H2.1.f50.1, H2.1.f50.2.1, H2.1.f50.2.2, H2.1.f51.1, H2.1.f51.2.1, H2.1.f51.2.2, H2.1.f52.1, H2.1.f52.2.1, H2.1.f52.2.2, H2.1.f58.1, H2.1.f58.2.1, H2.1.f58.2.2, H2.u0, H2.u1, H2.u2, H2.u3, H2.u4, H2.u5, H2.l0, H2.l1, H2.l2, H2.l3, H2.l4, H2.l5, H2.e0, H2.e1, H2.e2, H2.e3, H2.e4, H2.e5, H2.e6, H2.t0, H2.t1, H2.t2, H2.t3, H2.t4, H2.b48, H2.b50, H2.b52, H2.b54, H2.b56, H2.b58, H2.b61, H2.b63, H2.b65, H2.b67, H2.b69, H2.b71, H2.b74, H2.b76, H2.b78, H2.b80, H2.b82, H2.b84, H2.b86, H2.b92, H2.b94, H2.b96, H2.b98, H2.b100, eq_self, true_and, and_true, Int.reduceLT, Int.reduceLE, Int.reduceAdd, w32_1, w32_2, w32_4, w32_5, Int.le_refl]
  intros
  refine rg_cmp H2 (by decide) (by decide) ?_
  simp only [up, reduceIte, Int.reduceEq]
  apply g_X12_isAbove_40
  intro _ _ t et
  have e : t = if R z * R y < R x * R w then 1 else 0 := by
    rw [et]
    by_cases q : R z * R y < R x * R w
    · have := cp_gt q
      rw [if_neg (by omega), if_pos q]
    · have := cp_le (Int.not_lt.mp q)
      rw [if_pos this, if_neg q]
  rw [e]
  exact h μ2 _ H2 (fun s s1 s2 => by rw [up_ne s2, up_ne s1]) (f1.trans f2)
theorem bd_of {x : Int} {k : Nat} (B : Int) (h : ab x B) (hB : B < ((2 ^ k : Nat) : Int)) : bd x k := by
  unfold bd ab at *
  generalize 2 ^ k = p at *
  omega
theorem lv_loop_0 {Q X : m_Po} {ε : m_E} {M : Int} {μ0 : m_M} {R0 vh vv v1 : Int → Int} {T : Nat} (hT : T ≤ 672) (B : VB vh vv v1 T) (b0 : bd (R0 48) 64) (b1 : bd (R0 61) 64) (lp : 0 < R0 61) (hex : ∃ t, 0 ≤ t ∧ t < (T : Int) ∧ 0 < vv t)
    (hh : ∀ μ' R', RG ε μ' M R' → 0 < R' 63 → bd (R' 50) 108 → bd (R' 63) 84 → MX (fun t => vh t * R0 48 + v1 t * R0 61) (fun t => vv t * R0 61) T (R' 50) (R' 63) → (∀ s, ¬ tme s → s ≠ 50 → s ≠ 63 → R' s = R0 s) → FB M μ0 μ' → Q 0 ε μ') :
    ∀ (d t : Nat) (has : Int) (μ : m_M) (R : Int → Int), t + d = T → RG ε μ M R → RV μ M T vh vv v1 → (has ≠ 0 → bd (R 50) 108 ∧ bd (R 63) 84) → MI (fun t => vh t * R0 48 + v1 t * R0 61) (fun t => vv t * R0 61) t has (R 50) (R 63) → (∀ s, ¬ tme s → s ≠ 50 → s ≠ 63 → R s = R0 s) → FB M μ0 μ → G cd_X12_leastV Q X 4 [(0, (2, M)), (1, (0, 0)), (2, (0, has)), (3, (0, t))] [] ε μ := by
  have nu : ¬ tme 48 := by unfold tme tmp; decide
  have nl : ¬ tme 61 := by unfold tme tmp; decide
  intro d
  induction d with
  | zero =>
    intro t has μ R hd H0 V0 hb I fr fb
    have ht : t = T := by omega
    subst ht
    have tn : ¬ (t : Int) < t := by omega
    have hex' : ∃ s, 0 ≤ s ∧ s < (t : Int) ∧ 0 < (fun t => vv t * R0 61) s := by
      obtain ⟨s, s0, s1, s2⟩ := hex
      exact ⟨s, s0, s1, Int.mul_pos s2 lp⟩
    obtain ⟨y0, mx⟩ := mi_end I hex'
    have hn : has ≠ 0 := by
      rcases I with ⟨_, h1⟩ | ⟨h1, _⟩
      · obtain ⟨s, s0, s1, s2⟩ := hex'
        have := h1 s s0 s1; omega
      · omega
    have hb' := hb hn
    apply g_X12_leastV_4
    rw [V0.1]
    exact fun _ _ _ _ => ⟨H0.1.k, fun _ => hh μ R H0 y0 hb'.1 hb'.2 mx fr fb, fun z => absurd z tn⟩
  | succ d ih =>
    intro t has μ R hd H0 V0 hb I fr fb
    have t0 : (0 : Int) ≤ t := by omega
    have t1 : (t : Int) < 700 := by omega
    have t2 : (t : Int) < T := by omega
    have tN : ¬ (T : Int) ≤ t := by omega
    have tm : t < 2147483647 := by omega
    have hd' : t + 1 + d = T := by omega
    obtain ⟨c1, c2, c3⟩ := B t t0 t2
    have d1 : bd (vh t) 19 := bd_of 512000 c1 (by decide)
    have d2 : bd (vv t) 19 := bd_of 512000 c2 (by decide)
    have d3 : bd (v1 t) 43 := bd_of 8000000000000 c3 (by decide)
    have wn1 : w64 (-(vh t)) = -(vh t) := w64_id (by unfold ab at c1; unfold i64; omega)
    have wn3 : w64 (-(v1 t)) = -(v1 t) := w64_id (by unfold ab at c3; unfold i64; omega)
    have eu : R 48 = R0 48 := fr 48 nu (by decide) (by decide)
    have el : R 61 = R0 61 := fr 61 nl (by decide) (by decide)
    have next : ∀ (has' : Int) (μ' : m_M) (R' : Int → Int), RG ε μ' M R' → RV μ' M T vh vv v1 → (has' ≠ 0 → bd (R' 50) 108 ∧ bd (R' 63) 84) → MI (fun t => vh t * R0 48 + v1 t * R0 61) (fun t => vv t * R0 61) ((t : Int) + 1) has' (R' 50) (R' 63) → (∀ s, ¬ tme s → s ≠ 50 → s ≠ 63 → R' s = R0 s) → FB M μ0 μ' → G cd_X12_leastV Q X 256 [(0, (2, M)), (1, (0, 0)), (2, (0, has')), (3, (0, t))] [] ε μ' := by
      intro has' μ' R' a1 a2 a3 a4 a5 a6
      apply g_X12_leastV_256
      refine fun _ _ _ _ v3 e3 => ?_
      rw [w32_succ tm e3]
      exact ih (t + 1) has' μ' R' hd' a1 a2 a3 a4 a5 a6
    apply g_X12_leastV_4
    simp only [H0.1.k, H0.1.f30.1, H0.1.f30.2.1, H0.1.f30.2.2, H0.1.f31.1, H0.1.f31.2.1, H0.1.f31.2.2, H0.1.f32.1, H0.1.f32.2.1, H0.1.f32.2.2, H0.1.f33.1, H0.1.f33.2.1, H0.1.f33.2.2, H0.1.f39.1, H0.1.f39.2.1, H0.1.f39.2.2, H0.1.f40.1, H0.1.f40.2.1, H0.1.f40.2.2, H0.1.f41.1, H0.1.f41.2.1, H0.1.f41.2.2, H0.1.f50.1, H0.1.f50.2.1, H0.1.f50.2.2, H0.1.f51.1, H0.1.f51.2.1, H0.1.f51.2.2, H0.1.f52.1, H0.1.f52.2.1, H0.1.f52.2.2, H0.1.f58.1, H0.1.f58.2.1, H0.1.f58.2.2, H0.u0, H0.u1, H0.u2, H0.u3, H0.u4, H0.u5, H0.l0, H0.l1, H0.l2, H0.l3, H0.l4, H0.l5, H0.e0, H0.e1, H0.e2, H0.e3, H0.e4, H0.e5, H0.e6, H0.t0, H0.t1, H0.t2, H0.t3, H0.t4, H0.b48, H0.b50, H0.b52, H0.b54, H0.b56, H0.b58, H0.b61, H0.b63, H0.b65, H0.b67, H0.b69, H0.b71, H0.b74, H0.b76, H0.b78, H0.b80, H0.b82, H0.b84, H0.b86, H0.b92, H0.b94, H0.b96, H0.b98, H0.b100, eq_self, true_and, and_true, Int.reduceLT, Int.reduceLE, Int.reduceAdd, w32_1, w32_2, w32_4, w32_5, Int.le_refl, V0.1, V0.2.1, V0.2.2.1, V0.2.2.2, t0, t1, wn1]
    refine fun _ _ _ _ => ⟨fun z => absurd z tN, fun _ => ⟨fun mt => ?_, fun mt => ?_⟩⟩
    · refine rg_set H0 (by decide) (bd_i64 (bd_neg d1) (by decide)) (fun μ1 H1 f1 => ?_)
      have V1 := V0.fb f1
      apply g_X12_leastV_42
      simp only [H1.1.k, H1.1.f30.1, H1.1.f30.2.1, H1.1.f30.2.2, H1.1.f31.1, H1.1.f31.2.1, H1.1.f31.2.2, H1.1.f32.1, H1.1.f32.2.1, H1.1.f32.2.2, H1.1.f33.1, H1.1.f33.2.1, H1.1.f33.2.2, H1.1.f39.1, H1.1.f39.2.1, H1.1.f39.2.2, H1.1.f40.1, H1.1.f40.2.1, H1.1.f40.2.2, H1.1.f41.1, H1.1.f41.2.1, H1.1.f41.2.2, H1.1.f50.1, H1.1.f50.2.1, H1.1.f50.2.2, H1.1.f51.1, H1.1.f51.2.1, H1.1.f51.2.2, H1.1.f52.1, H1.1.f52.2.1, H1.1.f52.2.2, H1.1.f58.1, H1.1.f58.2.1, H1.1.f58.2.2, H1.u0, H1.u1, H1.u2, H1.u3, H1.u4, H1.u5, H1.l0, H1.l1, H1.l2, H1.l3, H1.l4, H1.l5, H1.e0, H1.e1, H1.e2, H1.e3, H1.e4, H1.e5, H1.e6, H1.t0, H1.t1, H1.t2, H1.t3, H1.t4, H1.b48, H1.b50, H1.b52, H1.b54, H1.b56, H1.b58, H1.b61, H1.b63, H1.b65, H1.b67, H1.b69, H1.b71, H1.b74, H1.b76, H1.b78, H1.b80, H1.b82, H1.b84, H1.b86, H1.b92, H1.b94, H1.b96, H1.b98, H1.b100, eq_self, true_and, and_true, Int.reduceLT, Int.reduceLE, Int.reduceAdd, w32_1, w32_2, w32_4, w32_5, Int.le_refl]
      intros
      refine rg_prod H1 (by decide) (by decide) (by decide) (by decide) (by decide) (by simp only [up, reduceIte, Int.reduceEq, eu]; exact pb_mul (bd_neg d1) b0 (by decide)) (fun μ2 H2 f2 => ?_)
      simp only [up, reduceIte, Int.reduceEq, eu] at H2
      have V2 := V1.fb f2
      apply g_X12_leastV_63
      simp only [H2.1.k, H2.1.f30.1, H2.1.f30.2.1, H2.1.f30.2.2, H2.1.f31.1, H2.1.f31.2.1, H2.1.f31.2.2, H2.1.f32.1, H2.1.f32.2.1, H2.1.f32.2.2, H2.1.f33.1, H2.1.f33.2.1, H2.1.f33.2.2, H2.1.f39.1, H2.1.f39.2.1, H2.1.f39.2.2, H2.1.f40.1, H2.1.f40.2.1, H2.1.f40.2.2, H2.1.f41.1, H2.1.f41.2.1, H2.1.f41.2.2, H2.1.f50.1, H2.1.f50.2.1, H2.1.f50.2.2, H2.1.f51.1, H2.1.f51.2.1, H2.1.f51.2.2, H2.1.f52.1, H2.1.f52.2.1, H2.1.f52.2.2, H2.1.f58.1, H2.1.f58.2.1, H2.1.f58.2.2, H2.u0, H2.u1, H2.u2, H2.u3, H2.u4, H2.u5, H2.l0, H2.l1, H2.l2, H2.l3, H2.l4, H2.l5, H2.e0, H2.e1, H2.e2, H2.e3, H2.e4, H2.e5, H2.e6, H2.t0, H2.t1, H2.t2, H2.t3, H2.t4, H2.b48, H2.b50, H2.b52, H2.b54, H2.b56, H2.b58, H2.b61, H2.b63, H2.b65, H2.b67, H2.b69, H2.b71, H2.b74, H2.b76, H2.b78, H2.b80, H2.b82, H2.b84, H2.b86, H2.b92, H2.b94, H2.b96, H2.b98, H2.b100, eq_self, true_and, and_true, Int.reduceLT, Int.reduceLE, Int.reduceAdd, w32_1, w32_2, w32_4, w32_5, Int.le_refl, V2.2.2.2, t0, t1, wn3]
      intros
      refine rg_set H2 (by decide) (bd_i64 (bd_neg d3) (by decide)) (fun μ3 H3 f3 => ?_)
      have V3 := V2.fb f3
      apply g_X12_leastV_79
      simp only [H3.1.k, H3.1.f30.1, H3.1.f30.2.1, H3.1.f30.2.2, H3.1.f31.1, H3.1.f31.2.1, H3.1.f31.2.2, H3.1.f32.1, H3.1.f32.2.1, H3.1.f32.2.2, H3.1.f33.1, H3.1.f33.2.1, H3.1.f33.2.2, H3.1.f39.1, H3.1.f39.2.1, H3.1.f39.2.2, H3.1.f40.1, H3.1.f40.2.1, H3.1.f40.2.2, H3.1.f41.1, H3.1.f41.2.1, H3.1.f41.2.2, H3.1.f50.1, H3.1.f50.2.1, H3.1.f50.2.2, H3.1.f51.1, H3.1.f51.2.1, H3.1.f51.2.2, H3.1.f52.1, H3.1.f52.2.1, H3.1.f52.2.2, H3.1.f58.1, H3.1.f58.2.1, H3.1.f58.2.2, H3.u0, H3.u1, H3.u2, H3.u3, H3.u4, H3.u5, H3.l0, H3.l1, H3.l2, H3.l3, H3.l4, H3.l5, H3.e0, H3.e1, H3.e2, H3.e3, H3.e4, H3.e5, H3.e6, H3.t0, H3.t1, H3.t2, H3.t3, H3.t4, H3.b48, H3.b50, H3.b52, H3.b54, H3.b56, H3.b58, H3.b61, H3.b63, H3.b65, H3.b67, H3.b69, H3.b71, H3.b74, H3.b76, H3.b78, H3.b80, H3.b82, H3.b84, H3.b86, H3.b92, H3.b94, H3.b96, H3.b98, H3.b100, eq_self, true_and, and_true, Int.reduceLT, Int.reduceLE, Int.reduceAdd, w32_1, w32_2, w32_4, w32_5, Int.le_refl]
      intros
      refine rg_prod H3 (by decide) (by decide) (by decide) (by decide) (by decide) (by simp only [up, reduceIte, Int.reduceEq, el]; exact pb_mul (bd_neg d3) b1 (by decide)) (fun μ4 H4 f4 => ?_)
      simp only [up, reduceIte, Int.reduceEq, el] at H4
      have V4 := V3.fb f4
      have g1 := bd_mono (bd_mul (bd_neg d1) b0) (by decide : 19 + 64 ≤ 107)
      have g2 := bd_mul (bd_neg d3) b1
      apply g_X12_leastV_100
      simp only [H4.1.k, H4.1.f30.1, H4.1.f30.2.1, H4.1.f30.2.2, H4.1.f31.1, H4.1.f31.2.1, H4.1.f31.2.2, H4.1.f32.1, H4.1.f32.2.1, H4.1.f32.2.2, H4.1.f33.1, H4.1.f33.2.1, H4.1.f33.2.2, H4.1.f39.1, H4.1.f39.2.1, H4.1.f39.2.2, H4.1.f40.1, H4.1.f40.2.1, H4.1.f40.2.2, H4.1.f41.1, H4.1.f41.2.1, H4.1.f41.2.2, H4.1.f50.1, H4.1.f50.2.1, H4.1.f50.2.2, H4.1.f51.1, H4.1.f51.2.1, H4.1.f51.2.2, H4.1.f52.1, H4.1.f52.2.1, H4.1.f52.2.2, H4.1.f58.1, H4.1.f58.2.1, H4.1.f58.2.2, H4.u0, H4.u1, H4.u2, H4.u3, H4.u4, H4.u5, H4.l0, H4.l1, H4.l2, H4.l3, H4.l4, H4.l5, H4.e0, H4.e1, H4.e2, H4.e3, H4.e4, H4.e5, H4.e6, H4.t0, H4.t1, H4.t2, H4.t3, H4.t4, H4.b48, H4.b50, H4.b52, H4.b54, H4.b56, H4.b58, H4.b61, H4.b63, H4.b65, H4.b67, H4.b69, H4.b71, H4.b74, H4.b76, H4.b78, H4.b80, H4.b82, H4.b84, H4.b86, H4.b92, H4.b94, H4.b96, H4.b98, H4.b100, eq_self, true_and, and_true, Int.reduceLT, Int.reduceLE, Int.reduceAdd, w32_1, w32_2, w32_4, w32_5, Int.le_refl]
      intros
      refine rg_sum H4 (by decide) (by decide) (by decide) (Or.inl rfl) (by simp only [up, reduceIte, Int.reduceEq]; exact pb_add g1 g2 (by decide)) (fun μ5 H5 f5 => ?_)
      simp only [up, reduceIte, Int.reduceEq] at H5
      have V5 := V4.fb f5
      have g3 := bd_add g1 g2
      apply g_X12_leastV_122
      simp only [H5.1.k, H5.1.f30.1, H5.1.f30.2.1, H5.1.f30.2.2, H5.1.f31.1, H5.1.f31.2.1, H5.1.f31.2.2, H5.1.f32.1, H5.1.f32.2.1, H5.1.f32.2.2, H5.1.f33.1, H5.1.f33.2.1, H5.1.f33.2.2, H5.1.f39.1, H5.1.f39.2.1, H5.1.f39.2.2, H5.1.f40.1, H5.1.f40.2.1, H5.1.f40.2.2, H5.1.f41.1, H5.1.f41.2.1, H5.1.f41.2.2, H5.1.f50.1, H5.1.f50.2.1, H5.1.f50.2.2, H5.1.f51.1, H5.1.f51.2.1, H5.1.f51.2.2, H5.1.f52.1, H5.1.f52.2.1, H5.1.f52.2.2, H5.1.f58.1, H5.1.f58.2.1, H5.1.f58.2.2, H5.u0, H5.u1, H5.u2, H5.u3, H5.u4, H5.u5, H5.l0, H5.l1, H5.l2, H5.l3, H5.l4, H5.l5, H5.e0, H5.e1, H5.e2, H5.e3, H5.e4, H5.e5, H5.e6, H5.t0, H5.t1, H5.t2, H5.t3, H5.t4, H5.b48, H5.b50, H5.b52, H5.b54, H5.b56, H5.b58, H5.b61, H5.b63, H5.b65, H5.b67, H5.b69, H5.b71, H5.b74, H5.b76, H5.b78, H5.b80, H5.b82, H5.b84, H5.b86, H5.b92, H5.b94, H5.b96, H5.b98, H5.b100, eq_self, true_and, and_true, Int.reduceLT, Int.reduceLE, Int.reduceAdd, w32_1, w32_2, w32_4, w32_5, Int.le_refl, V5.2.2.1, t0, t1]
      intros
      refine rg_set H5 (by decide) (bd_i64 d2 (by decide)) (fun μ6 H6 f6 => ?_)
      have V6 := V5.fb f6
      apply g_X12_leastV_137
      simp only [H6.1.k, H6.1.f30.1, H6.1.f30.2.1, H6.1.f30.2.2, H6.1.f31.1, H6.1.f31.2.1, H6.1.f31.2.2, H6.1.f32.1, H6.1.f32.2.1, H6.1.f32.2.2, H6.1.f33.1, H6.1.f33.2.1, H6.1.f33.2.2, H6.1.f39.1, H6.1.f39.2.1, H6.1.f39.2.2, H6.1.f40.1, H6.1.f40.2.1, H6.1.f40.2.2, H6.1.f41.1, H6.1.f41.2.1, H6.1.f41.2.2, H6.1.f50.1, H6.1.f50.2.1, H6.1.f50.2.2, H6.1.f51.1, H6.1.f51.2.1, H6.1.f51.2.2, H6.1.f52.1, H6.1.f52.2.1, H6.1.f52.2.2, H6.1.f58.1, H6.1.f58.2.1, H6.1.f58.2.2, H6.u0, H6.u1, H6.u2, H6.u3, H6.u4, H6.u5, H6.l0, H6.l1, H6.l2, H6.l3, H6.l4, H6.l5, H6.e0, H6.e1, H6.e2, H6.e3, H6.e4, H6.e5, H6.e6, H6.t0, H6.t1, H6.t2, H6.t3, H6.t4, H6.b48, H6.b50, H6.b52, H6.b54, H6.b56, H6.b58, H6.b61, H6.b63, H6.b65, H6.b67, H6.b69, H6.b71, H6.b74, H6.b76, H6.b78, H6.b80, H6.b82, H6.b84, H6.b86, H6.b92, H6.b94, H6.b96, H6.b98, H6.b100, eq_self, true_and, and_true, Int.reduceLT, Int.reduceLE, Int.reduceAdd, w32_1, w32_2, w32_4, w32_5, Int.le_refl]
      intros
      refine rg_prod H6 (by decide) (by decide) (by decide) (by decide) (by decide) (by simp only [up, reduceIte, Int.reduceEq, el]; exact pb_mul d2 b1 (by decide)) (fun μ7 H7 f7 => ?_)
      simp only [up, reduceIte, Int.reduceEq, el] at H7
      have V7 := V6.fb f7
      have g4 := bd_mono (bd_mul d2 b1) (by decide : 19 + 64 ≤ 84)
      have F7 : FB M μ0 μ7 := ((((((fb.trans f1).trans f2).trans f3).trans f4).trans f5).trans f6).trans f7
      generalize hN : -vh t * R0 48 + -v1 t * R0 61 = N at *
      have hN' : N = -(vh t * R0 48 + v1 t * R0 61) := by rw [← hN]; grind
      have D0 : 0 < vv t * R0 61 := Int.mul_pos mt lp
      obtain ⟨R7, hR7⟩ : ∃ R7, R7 = up (up (up (up (up (up (up R 74 (-vh t)) 76 (-vh t * R0 48)) 74 (-v1 t)) 78 (-v1 t * R0 61)) 76 N) 74 (vv t)) 78 (vv t * R0 61) := ⟨_, rfl⟩
      rw [← hR7] at H7
      have r76 : R7 76 = N := by rw [hR7]; simp only [up, reduceIte, Int.reduceEq]
      have r78 : R7 78 = vv t * R0 61 := by rw [hR7]; simp only [up, reduceIte, Int.reduceEq]
      have ru : R7 50 = R 50 := by rw [hR7]; simp only [up, reduceIte, Int.reduceEq]
      have rl : R7 63 = R 63 := by rw [hR7]; simp only [up, reduceIte, Int.reduceEq]
      have fr7 : ∀ s, ¬ tme s → s ≠ 50 → s ≠ 63 → R7 s = R0 s := by
        intro s s1 s2 s3
        have q := tme.no s1
        rw [hR7, up_ne q.2.2.2.1, up_ne q.2.1, up_ne q.2.2.1, up_ne q.2.2.2.1, up_ne q.2.1, up_ne q.2.2.1, up_ne q.2.1]
        exact fr s s1 s2 s3
      clear hR7 H6 H5 H4 H3 H2 H1
      have take : ∀ μ' R', RG ε μ' M R' → RV μ' M T vh vv v1 → R' 76 = N → R' 78 = vv t * R0 61 → (has = 0 ∨ R 50 * (vv t * R0 61) < N * R 63) → (∀ s, ¬ tme s → s ≠ 50 → s ≠ 63 → R' s = R0 s) → FB M μ0 μ' → G cd_X12_leastV Q X 200 [(0, (2, M)), (1, (0, 0)), (3, (0, t))] [] ε μ' := by
        intro μ' R' H1 W1 e1 e2 gt fr' fb'
        apply g_X12_leastV_200
        simp only [H1.1.k, H1.1.f30.1, H1.1.f30.2.1, H1.1.f30.2.2, H1.1.f31.1, H1.1.f31.2.1, H1.1.f31.2.2, H1.1.f32.1, H1.1.f32.2.1, H1.1.f32.2.2, H1.1.f33.1, H1.1.f33.2.1, H1.1.f33.2.2, H1.1.f39.1, H1.1.f39.2.1, H1.1.f39.2.2, H1.1.f40.1, H1.1.f40.2.1, H1.1.f40.2.2, H1.1.f41.1, H1.1.f41.2.1, H1.1.f41.2.2, H1.1.f50.1, H1.1.f50.2.1, H1.1.f50.2.2, H1.1.f51.1, H1.1.f51.2.1, H1.1.f51.2.2, H1.1.f52.1, H1.1.f52.2.1, H1.1.f52.2.2, H1.1.f58.1, H1.1.f58.2.1, H1.1.f58.2.2, H1.u0, H1.u1, H1.u2, H1.u3, H1.u4, H1.u5, H1.l0, H1.l1, H1.l2, H1.l3, H1.l4, H1.l5, H1.e0, H1.e1, H1.e2, H1.e3, H1.e4, H1.e5, H1.e6, H1.t0, H1.t1, H1.t2, H1.t3, H1.t4, H1.b48, H1.b50, H1.b52, H1.b54, H1.b56, H1.b58, H1.b61, H1.b63, H1.b65, H1.b67, H1.b69, H1.b71, H1.b74, H1.b76, H1.b78, H1.b80, H1.b82, H1.b84, H1.b86, H1.b92, H1.b94, H1.b96, H1.b98, H1.b100, eq_self, true_and, and_true, Int.reduceLT, Int.reduceLE, Int.reduceAdd, w32_1, w32_2, w32_4, w32_5, Int.le_refl]
        intros
        refine rg_take H1 (by decide) (by decide) (fun μ2 H2 h2 => ?_)
        rw [e1] at H2
        apply g_X12_leastV_217
        simp only [H2.1.k, H2.1.f30.1, H2.1.f30.2.1, H2.1.f30.2.2, H2.1.f31.1, H2.1.f31.2.1, H2.1.f31.2.2, H2.1.f32.1, H2.1.f32.2.1, H2.1.f32.2.2, H2.1.f33.1, H2.1.f33.2.1, H2.1.f33.2.2, H2.1.f39.1, H2.1.f39.2.1, H2.1.f39.2.2, H2.1.f40.1, H2.1.f40.2.1, H2.1.f40.2.2, H2.1.f41.1, H2.1.f41.2.1, H2.1.f41.2.2, H2.1.f50.1, H2.1.f50.2.1, H2.1.f50.2.2, H2.1.f51.1, H2.1.f51.2.1, H2.1.f51.2.2, H2.1.f52.1, H2.1.f52.2.1, H2.1.f52.2.2, H2.1.f58.1, H2.1.f58.2.1, H2.1.f58.2.2, H2.u0, H2.u1, H2.u2, H2.u3, H2.u4, H2.u5, H2.l0, H2.l1, H2.l2, H2.l3, H2.l4, H2.l5, H2.e0, H2.e1, H2.e2, H2.e3, H2.e4, H2.e5, H2.e6, H2.t0, H2.t1, H2.t2, H2.t3, H2.t4, H2.b48, H2.b50, H2.b52, H2.b54, H2.b56, H2.b58, H2.b61, H2.b63, H2.b65, H2.b67, H2.b69, H2.b71, H2.b74, H2.b76, H2.b78, H2.b80, H2.b82, H2.b84, H2.b86, H2.b92, H2.b94, H2.b96, H2.b98, H2.b100, eq_self, true_and, and_true, Int.reduceLT, Int.reduceLE, Int.reduceAdd, w32_1, w32_2, w32_4, w32_5, Int.le_refl]
        intros
        refine rg_take H2 (by decide) (by decide) (fun μ3 H3 h3 => ?_)
        simp only [up, reduceIte, Int.reduceEq, e2] at H3
        have x1 : up (up R' 50 N) 63 (vv t * R0 61) 50 = N := by simp only [up, reduceIte, Int.reduceEq]
        have x2 : up (up R' 50 N) 63 (vv t * R0 61) 63 = vv t * R0 61 := by simp only [up, reduceIte, Int.reduceEq]
        apply g_X12_leastV_234
        simp only [H3.1.k, H3.1.f30.1, H3.1.f30.2.1, H3.1.f30.2.2, H3.1.f31.1, H3.1.f31.2.1, H3.1.f31.2.2, H3.1.f32.1, H3.1.f32.2.1, H3.1.f32.2.2, H3.1.f33.1, H3.1.f33.2.1, H3.1.f33.2.2, H3.1.f39.1, H3.1.f39.2.1, H3.1.f39.2.2, H3.1.f40.1, H3.1.f40.2.1, H3.1.f40.2.2, H3.1.f41.1, H3.1.f41.2.1, H3.1.f41.2.2, H3.1.f50.1, H3.1.f50.2.1, H3.1.f50.2.2, H3.1.f51.1, H3.1.f51.2.1, H3.1.f51.2.2, H3.1.f52.1, H3.1.f52.2.1, H3.1.f52.2.2, H3.1.f58.1, H3.1.f58.2.1, H3.1.f58.2.2, H3.u0, H3.u1, H3.u2, H3.u3, H3.u4, H3.u5, H3.l0, H3.l1, H3.l2, H3.l3, H3.l4, H3.l5, H3.e0, H3.e1, H3.e2, H3.e3, H3.e4, H3.e5, H3.e6, H3.t0, H3.t1, H3.t2, H3.t3, H3.t4, H3.b48, H3.b50, H3.b52, H3.b54, H3.b56, H3.b58, H3.b61, H3.b63, H3.b65, H3.b67, H3.b69, H3.b71, H3.b74, H3.b76, H3.b78, H3.b80, H3.b82, H3.b84, H3.b86, H3.b92, H3.b94, H3.b96, H3.b98, H3.b100, eq_self, true_and, and_true, Int.reduceLT, Int.reduceLE, Int.reduceAdd, w32_1, w32_2, w32_4, w32_5, Int.le_refl]
        intros
        refine rg_lowest (by decide) (by decide) (by unfold tmp; decide) (by unfold tmp; decide) (by decide) H3 (by rw [x2]; omega) (by rw [x1]; exact pb_two g3 (by decide)) (by rw [x2]; exact pb_two g4 (by decide)) (fun μ4 R4 H4 lo fr4 h4 => ?_)
        rw [x1, x2] at lo
        apply g_X12_leastV_254
        refine fun _ _ _ v2 e => ?_
        rw [e]
        refine next 1 μ4 R4 H4 (((W1.fb h2).fb h3).fb h4) (fun _ => ⟨bd_le g3 lo.2.2.2.1, bd_le g4 lo.2.2.2.2⟩) (mi_new t0 I D0 lo.1 (by rw [lo.2.2.1, hN']) (by rw [← hN']; exact gt)) (fun s s1 s2 s3 => ?_) (((fb'.trans h2).trans h3).trans h4)
        rw [fr4 s (tme.no s1).1 s2 s3, up_ne s3, up_ne s2]
        exact fr' s s1 s2 s3
      apply g_X12_leastV_158
      simp only [H7.1.k, H7.1.f30.1, H7.1.f30.2.1, H7.1.f30.2.2, H7.1.f31.1, H7.1.f31.2.1, H7.1.f31.2.2, H7.1.f32.1, H7.1.f32.2.1, H7.1.f32.2.2, H7.1.f33.1, H7.1.f33.2.1, H7.1.f33.2.2, H7.1.f39.1, H7.1.f39.2.1, H7.1.f39.2.2, H7.1.f40.1, H7.1.f40.2.1, H7.1.f40.2.2, H7.1.f41.1, H7.1.f41.2.1, H7.1.f41.2.2, H7.1.f50.1, H7.1.f50.2.1, H7.1.f50.2.2, H7.1.f51.1, H7.1.f51.2.1, H7.1.f51.2.2, H7.1.f52.1, H7.1.f52.2.1, H7.1.f52.2.2, H7.1.f58.1, H7.1.f58.2.1, H7.1.f58.2.2, H7.u0, H7.u1, H7.u2, H7.u3, H7.u4, H7.u5, H7.l0, H7.l1, H7.l2, H7.l3, H7.l4, H7.l5, H7.e0, H7.e1, H7.e2, H7.e3, H7.e4, H7.e5, H7.e6, H7.t0, H7.t1, H7.t2, H7.t3, H7.t4, H7.b48, H7.b50, H7.b52, H7.b54, H7.b56, H7.b58, H7.b61, H7.b63, H7.b65, H7.b67, H7.b69, H7.b71, H7.b74, H7.b76, H7.b78, H7.b80, H7.b82, H7.b84, H7.b86, H7.b92, H7.b94, H7.b96, H7.b98, H7.b100, eq_self, true_and, and_true, Int.reduceLT, Int.reduceLE, Int.reduceAdd, w32_1, w32_2, w32_4, w32_5, Int.le_refl]
      refine fun _ _ _ _ => ⟨fun z => take μ7 R7 H7 V7 r76 r78 (Or.inl z) fr7 F7, fun z => ?_⟩
      have hb' := hb z
      refine rg_above H7 (by decide) (by decide) (by decide) (by decide) (by decide) (by decide) (by decide) (by decide) (by decide) (by decide) (a := 108) (b := 84) (by rw [r76]; exact g3) (by rw [rl]; exact hb'.2) (by rw [ru]; exact hb'.1) (by rw [r78]; exact g4) (by decide) (fun μ8 R8 H8 fr8 f8 => ?_)
      rw [ru, rl, r76, r78]
      have s76 : R8 76 = N := by rw [fr8 76 (by decide) (by decide)]; exact r76
      have s78 : R8 78 = vv t * R0 61 := by rw [fr8 78 (by decide) (by decide)]; exact r78
      have su : R8 50 = R 50 := by rw [fr8 50 (by decide) (by decide)]; exact ru
      have sl : R8 63 = R 63 := by rw [fr8 63 (by decide) (by decide)]; exact rl
      have fr8' : ∀ s, ¬ tme s → s ≠ 50 → s ≠ 63 → R8 s = R0 s := by
        intro s s1 s2 s3
        have q := tme.no s1
        rw [fr8 s q.2.2.2.2.2.2.1 q.2.2.2.2.2.2.2]
        exact fr7 s s1 s2 s3
      apply g_X12_leastV_194
      refine fun _ _ _ _ _ => ⟨fun q => take μ8 R8 H8 (V7.fb f8) s76 s78 (Or.inr ?_) fr8' (F7.trans f8), fun q => next has μ8 R8 H8 (V7.fb f8) (fun _ => by rw [su, sl]; exact hb') ?_ fr8' (F7.trans f8)⟩
      · by_cases c : R 50 * (vv t * R0 61) < N * R 63
        · exact c
        · rw [if_neg c] at q; exact absurd rfl q
      · rw [su, sl]
        refine mi_old I z (fun c => ?_)
        rw [hN', if_pos c] at q
        exact absurd q (by decide)
    · refine next has μ R H0 V0 hb (mi_skip I ?_) fr fb
      have := Int.mul_nonneg (show 0 ≤ -(vv t) by omega) (Int.le_of_lt lp)
      rw [Int.neg_mul] at this
      show vv t * R0 61 ≤ 0
      omega
theorem rg_leastV_0 {Q X : m_Po} {ε : m_E} {M : Int} {μ0 : m_M} {R0 vh vv v1 : Int → Int} {T : Nat} (H : RG ε μ0 M R0) (V : RV μ0 M T vh vv v1) (hT : T ≤ 672) (B : VB vh vv v1 T) (b0 : bd (R0 48) 64) (b1 : bd (R0 61) 64) (lp : 0 < R0 61) (hex : ∃ t, 0 ≤ t ∧ t < (T : Int) ∧ 0 < vv t)
    (hh : ∀ μ' R', RG ε μ' M R' → 0 < R' 63 → bd (R' 50) 108 → bd (R' 63) 84 → MX (fun t => vh t * R0 48 + v1 t * R0 61) (fun t => vv t * R0 61) T (R' 50) (R' 63) → (∀ s, ¬ tme s → s ≠ 50 → s ≠ 63 → R' s = R0 s) → FB M μ0 μ' → Q 0 ε μ') : o_X12_leastV [(2, M), (0, 0)] ε μ0 Q X := by
  apply e_X12_leastV
  intro _ _ v2 e2 v3 e3
  rw [e2, e3]
  exact lv_loop_0 hT B b0 b1 lp hex hh T 0 0 μ0 R0 (by omega) H V (fun z => absurd rfl z) (Or.inl ⟨rfl, fun s s0 s1 => by omega⟩) (fun _ _ _ _ => rfl) FB.rf
theorem lv_loop_3 {Q X : m_Po} {ε : m_E} {M : Int} {μ0 : m_M} {R0 vh vv v1 : Int → Int} {T : Nat} (hT : T ≤ 672) (B : VB vh vv v1 T) (b0 : bd (R0 54) 64) (b1 : bd (R0 67) 64) (lp : 0 < R0 67) (hex : ∃ t, 0 ≤ t ∧ t < (T : Int) ∧ 0 < vv t)
    (hh : ∀ μ' R', RG ε μ' M R' → 0 < R' 69 → bd (R' 56) 108 → bd (R' 69) 84 → MX (fun t => vh t * R0 54 + v1 t * R0 67) (fun t => vv t * R0 67) T (R' 56) (R' 69) → (∀ s, ¬ tme s → s ≠ 56 → s ≠ 69 → R' s = R0 s) → FB M μ0 μ' → Q 0 ε μ') :
    ∀ (d t : Nat) (has : Int) (μ : m_M) (R : Int → Int), t + d = T → RG ε μ M R → RV μ M T vh vv v1 → (has ≠ 0 → bd (R 56) 108 ∧ bd (R 69) 84) → MI (fun t => vh t * R0 54 + v1 t * R0 67) (fun t => vv t * R0 67) t has (R 56) (R 69) → (∀ s, ¬ tme s → s ≠ 56 → s ≠ 69 → R s = R0 s) → FB M μ0 μ → G cd_X12_leastV Q X 4 [(0, (2, M)), (1, (0, 3)), (2, (0, has)), (3, (0, t))] [] ε μ := by
  have nu : ¬ tme 54 := by unfold tme tmp; decide
  have nl : ¬ tme 67 := by unfold tme tmp; decide
  intro d
  induction d with
  | zero =>
    intro t has μ R hd H0 V0 hb I fr fb
    have ht : t = T := by omega
    subst ht
    have tn : ¬ (t : Int) < t := by omega
    have hex' : ∃ s, 0 ≤ s ∧ s < (t : Int) ∧ 0 < (fun t => vv t * R0 67) s := by
      obtain ⟨s, s0, s1, s2⟩ := hex
      exact ⟨s, s0, s1, Int.mul_pos s2 lp⟩
    obtain ⟨y0, mx⟩ := mi_end I hex'
    have hn : has ≠ 0 := by
      rcases I with ⟨_, h1⟩ | ⟨h1, _⟩
      · obtain ⟨s, s0, s1, s2⟩ := hex'
        have := h1 s s0 s1; omega
      · omega
    have hb' := hb hn
    apply g_X12_leastV_4
    rw [V0.1]
    exact fun _ _ _ _ => ⟨H0.1.k, fun _ => hh μ R H0 y0 hb'.1 hb'.2 mx fr fb, fun z => absurd z tn⟩
  | succ d ih =>
    intro t has μ R hd H0 V0 hb I fr fb
    have t0 : (0 : Int) ≤ t := by omega
    have t1 : (t : Int) < 700 := by omega
    have t2 : (t : Int) < T := by omega
    have tN : ¬ (T : Int) ≤ t := by omega
    have tm : t < 2147483647 := by omega
    have hd' : t + 1 + d = T := by omega
    obtain ⟨c1, c2, c3⟩ := B t t0 t2
    have d1 : bd (vh t) 19 := bd_of 512000 c1 (by decide)
    have d2 : bd (vv t) 19 := bd_of 512000 c2 (by decide)
    have d3 : bd (v1 t) 43 := bd_of 8000000000000 c3 (by decide)
    have wn1 : w64 (-(vh t)) = -(vh t) := w64_id (by unfold ab at c1; unfold i64; omega)
    have wn3 : w64 (-(v1 t)) = -(v1 t) := w64_id (by unfold ab at c3; unfold i64; omega)
    have eu : R 54 = R0 54 := fr 54 nu (by decide) (by decide)
    have el : R 67 = R0 67 := fr 67 nl (by decide) (by decide)
    have next : ∀ (has' : Int) (μ' : m_M) (R' : Int → Int), RG ε μ' M R' → RV μ' M T vh vv v1 → (has' ≠ 0 → bd (R' 56) 108 ∧ bd (R' 69) 84) → MI (fun t => vh t * R0 54 + v1 t * R0 67) (fun t => vv t * R0 67) ((t : Int) + 1) has' (R' 56) (R' 69) → (∀ s, ¬ tme s → s ≠ 56 → s ≠ 69 → R' s = R0 s) → FB M μ0 μ' → G cd_X12_leastV Q X 256 [(0, (2, M)), (1, (0, 3)), (2, (0, has')), (3, (0, t))] [] ε μ' := by
      intro has' μ' R' a1 a2 a3 a4 a5 a6
      apply g_X12_leastV_256
      refine fun _ _ _ _ v3 e3 => ?_
      rw [w32_succ tm e3]
      exact ih (t + 1) has' μ' R' hd' a1 a2 a3 a4 a5 a6
    apply g_X12_leastV_4
    simp only [H0.1.k, H0.1.f30.1, H0.1.f30.2.1, H0.1.f30.2.2, H0.1.f31.1, H0.1.f31.2.1, H0.1.f31.2.2, H0.1.f32.1, H0.1.f32.2.1, H0.1.f32.2.2, H0.1.f33.1, H0.1.f33.2.1, H0.1.f33.2.2, H0.1.f39.1, H0.1.f39.2.1, H0.1.f39.2.2, H0.1.f40.1, H0.1.f40.2.1, H0.1.f40.2.2, H0.1.f41.1, H0.1.f41.2.1, H0.1.f41.2.2, H0.1.f50.1, H0.1.f50.2.1, H0.1.f50.2.2, H0.1.f51.1, H0.1.f51.2.1, H0.1.f51.2.2, H0.1.f52.1, H0.1.f52.2.1, H0.1.f52.2.2, H0.1.f58.1, H0.1.f58.2.1, H0.1.f58.2.2, H0.u0, H0.u1, H0.u2, H0.u3, H0.u4, H0.u5, H0.l0, H0.l1, H0.l2, H0.l3, H0.l4, H0.l5, H0.e0, H0.e1, H0.e2, H0.e3, H0.e4, H0.e5, H0.e6, H0.t0, H0.t1, H0.t2, H0.t3, H0.t4, H0.b48, H0.b50, H0.b52, H0.b54, H0.b56, H0.b58, H0.b61, H0.b63, H0.b65, H0.b67, H0.b69, H0.b71, H0.b74, H0.b76, H0.b78, H0.b80, H0.b82, H0.b84, H0.b86, H0.b92, H0.b94, H0.b96, H0.b98, H0.b100, eq_self, true_and, and_true, Int.reduceLT, Int.reduceLE, Int.reduceAdd, w32_1, w32_2, w32_4, w32_5, Int.le_refl, V0.1, V0.2.1, V0.2.2.1, V0.2.2.2, t0, t1, wn1]
    refine fun _ _ _ _ => ⟨fun z => absurd z tN, fun _ => ⟨fun mt => ?_, fun mt => ?_⟩⟩
    · refine rg_set H0 (by decide) (bd_i64 (bd_neg d1) (by decide)) (fun μ1 H1 f1 => ?_)
      have V1 := V0.fb f1
      apply g_X12_leastV_42
      simp only [H1.1.k, H1.1.f30.1, H1.1.f30.2.1, H1.1.f30.2.2, H1.1.f31.1, H1.1.f31.2.1, H1.1.f31.2.2, H1.1.f32.1, H1.1.f32.2.1, H1.1.f32.2.2, H1.1.f33.1, H1.1.f33.2.1, H1.1.f33.2.2, H1.1.f39.1, H1.1.f39.2.1, H1.1.f39.2.2, H1.1.f40.1, H1.1.f40.2.1, H1.1.f40.2.2, H1.1.f41.1, H1.1.f41.2.1, H1.1.f41.2.2, H1.1.f50.1, H1.1.f50.2.1, H1.1.f50.2.2, H1.1.f51.1, H1.1.f51.2.1, H1.1.f51.2.2, H1.1.f52.1, H1.1.f52.2.1, H1.1.f52.2.2, H1.1.f58.1, H1.1.f58.2.1, H1.1.f58.2.2, H1.u0, H1.u1, H1.u2, H1.u3, H1.u4, H1.u5, H1.l0, H1.l1, H1.l2, H1.l3, H1.l4, H1.l5, H1.e0, H1.e1, H1.e2, H1.e3, H1.e4, H1.e5, H1.e6, H1.t0, H1.t1, H1.t2, H1.t3, H1.t4, H1.b48, H1.b50, H1.b52, H1.b54, H1.b56, H1.b58, H1.b61, H1.b63, H1.b65, H1.b67, H1.b69, H1.b71, H1.b74, H1.b76, H1.b78, H1.b80, H1.b82, H1.b84, H1.b86, H1.b92, H1.b94, H1.b96, H1.b98, H1.b100, eq_self, true_and, and_true, Int.reduceLT, Int.reduceLE, Int.reduceAdd, w32_1, w32_2, w32_4, w32_5, Int.le_refl]
      intros
      refine rg_prod H1 (by decide) (by decide) (by decide) (by decide) (by decide) (by simp only [up, reduceIte, Int.reduceEq, eu]; exact pb_mul (bd_neg d1) b0 (by decide)) (fun μ2 H2 f2 => ?_)
      simp only [up, reduceIte, Int.reduceEq, eu] at H2
      have V2 := V1.fb f2
      apply g_X12_leastV_63
      simp only [H2.1.k, H2.1.f30.1, H2.1.f30.2.1, H2.1.f30.2.2, H2.1.f31.1, H2.1.f31.2.1, H2.1.f31.2.2, H2.1.f32.1, H2.1.f32.2.1, H2.1.f32.2.2, H2.1.f33.1, H2.1.f33.2.1, H2.1.f33.2.2, H2.1.f39.1, H2.1.f39.2.1, H2.1.f39.2.2, H2.1.f40.1, H2.1.f40.2.1, H2.1.f40.2.2, H2.1.f41.1, H2.1.f41.2.1, H2.1.f41.2.2, H2.1.f50.1, H2.1.f50.2.1, H2.1.f50.2.2, H2.1.f51.1, H2.1.f51.2.1, H2.1.f51.2.2, H2.1.f52.1, H2.1.f52.2.1, H2.1.f52.2.2, H2.1.f58.1, H2.1.f58.2.1, H2.1.f58.2.2, H2.u0, H2.u1, H2.u2, H2.u3, H2.u4, H2.u5, H2.l0, H2.l1, H2.l2, H2.l3, H2.l4, H2.l5, H2.e0, H2.e1, H2.e2, H2.e3, H2.e4, H2.e5, H2.e6, H2.t0, H2.t1, H2.t2, H2.t3, H2.t4, H2.b48, H2.b50, H2.b52, H2.b54, H2.b56, H2.b58, H2.b61, H2.b63, H2.b65, H2.b67, H2.b69, H2.b71, H2.b74, H2.b76, H2.b78, H2.b80, H2.b82, H2.b84, H2.b86, H2.b92, H2.b94, H2.b96, H2.b98, H2.b100, eq_self, true_and, and_true, Int.reduceLT, Int.reduceLE, Int.reduceAdd, w32_1, w32_2, w32_4, w32_5, Int.le_refl, V2.2.2.2, t0, t1, wn3]
      intros
      refine rg_set H2 (by decide) (bd_i64 (bd_neg d3) (by decide)) (fun μ3 H3 f3 => ?_)
      have V3 := V2.fb f3
      apply g_X12_leastV_79
      simp only [H3.1.k, H3.1.f30.1, H3.1.f30.2.1, H3.1.f30.2.2, H3.1.f31.1, H3.1.f31.2.1, H3.1.f31.2.2, H3.1.f32.1, H3.1.f32.2.1, H3.1.f32.2.2, H3.1.f33.1, H3.1.f33.2.1, H3.1.f33.2.2, H3.1.f39.1, H3.1.f39.2.1, H3.1.f39.2.2, H3.1.f40.1, H3.1.f40.2.1, H3.1.f40.2.2, H3.1.f41.1, H3.1.f41.2.1, H3.1.f41.2.2, H3.1.f50.1, H3.1.f50.2.1, H3.1.f50.2.2, H3.1.f51.1, H3.1.f51.2.1, H3.1.f51.2.2, H3.1.f52.1, H3.1.f52.2.1, H3.1.f52.2.2, H3.1.f58.1, H3.1.f58.2.1, H3.1.f58.2.2, H3.u0, H3.u1, H3.u2, H3.u3, H3.u4, H3.u5, H3.l0, H3.l1, H3.l2, H3.l3, H3.l4, H3.l5, H3.e0, H3.e1, H3.e2, H3.e3, H3.e4, H3.e5, H3.e6, H3.t0, H3.t1, H3.t2, H3.t3, H3.t4, H3.b48, H3.b50, H3.b52, H3.b54, H3.b56, H3.b58, H3.b61, H3.b63, H3.b65, H3.b67, H3.b69, H3.b71, H3.b74, H3.b76, H3.b78, H3.b80, H3.b82, H3.b84, H3.b86, H3.b92, H3.b94, H3.b96, H3.b98, H3.b100, eq_self, true_and, and_true, Int.reduceLT, Int.reduceLE, Int.reduceAdd, w32_1, w32_2, w32_4, w32_5, Int.le_refl]
      intros
      refine rg_prod H3 (by decide) (by decide) (by decide) (by decide) (by decide) (by simp only [up, reduceIte, Int.reduceEq, el]; exact pb_mul (bd_neg d3) b1 (by decide)) (fun μ4 H4 f4 => ?_)
      simp only [up, reduceIte, Int.reduceEq, el] at H4
      have V4 := V3.fb f4
      have g1 := bd_mono (bd_mul (bd_neg d1) b0) (by decide : 19 + 64 ≤ 107)
      have g2 := bd_mul (bd_neg d3) b1
      apply g_X12_leastV_100
      simp only [H4.1.k, H4.1.f30.1, H4.1.f30.2.1, H4.1.f30.2.2, H4.1.f31.1, H4.1.f31.2.1, H4.1.f31.2.2, H4.1.f32.1, H4.1.f32.2.1, H4.1.f32.2.2, H4.1.f33.1, H4.1.f33.2.1, H4.1.f33.2.2, H4.1.f39.1, H4.1.f39.2.1, H4.1.f39.2.2, H4.1.f40.1, H4.1.f40.2.1, H4.1.f40.2.2, H4.1.f41.1, H4.1.f41.2.1, H4.1.f41.2.2, H4.1.f50.1, H4.1.f50.2.1, H4.1.f50.2.2, H4.1.f51.1, H4.1.f51.2.1, H4.1.f51.2.2, H4.1.f52.1, H4.1.f52.2.1, H4.1.f52.2.2, H4.1.f58.1, H4.1.f58.2.1, H4.1.f58.2.2, H4.u0, H4.u1, H4.u2, H4.u3, H4.u4, H4.u5, H4.l0, H4.l1, H4.l2, H4.l3, H4.l4, H4.l5, H4.e0, H4.e1, H4.e2, H4.e3, H4.e4, H4.e5, H4.e6, H4.t0, H4.t1, H4.t2, H4.t3, H4.t4, H4.b48, H4.b50, H4.b52, H4.b54, H4.b56, H4.b58, H4.b61, H4.b63, H4.b65, H4.b67, H4.b69, H4.b71, H4.b74, H4.b76, H4.b78, H4.b80, H4.b82, H4.b84, H4.b86, H4.b92, H4.b94, H4.b96, H4.b98, H4.b100, eq_self, true_and, and_true, Int.reduceLT, Int.reduceLE, Int.reduceAdd, w32_1, w32_2, w32_4, w32_5, Int.le_refl]
      intros
      refine rg_sum H4 (by decide) (by decide) (by decide) (Or.inl rfl) (by simp only [up, reduceIte, Int.reduceEq]; exact pb_add g1 g2 (by decide)) (fun μ5 H5 f5 => ?_)
      simp only [up, reduceIte, Int.reduceEq] at H5
      have V5 := V4.fb f5
      have g3 := bd_add g1 g2
      apply g_X12_leastV_122
      simp only [H5.1.k, H5.1.f30.1, H5.1.f30.2.1, H5.1.f30.2.2, H5.1.f31.1, H5.1.f31.2.1, H5.1.f31.2.2, H5.1.f32.1, H5.1.f32.2.1, H5.1.f32.2.2, H5.1.f33.1, H5.1.f33.2.1, H5.1.f33.2.2, H5.1.f39.1, H5.1.f39.2.1, H5.1.f39.2.2, H5.1.f40.1, H5.1.f40.2.1, H5.1.f40.2.2, H5.1.f41.1, H5.1.f41.2.1, H5.1.f41.2.2, H5.1.f50.1, H5.1.f50.2.1, H5.1.f50.2.2, H5.1.f51.1, H5.1.f51.2.1, H5.1.f51.2.2, H5.1.f52.1, H5.1.f52.2.1, H5.1.f52.2.2, H5.1.f58.1, H5.1.f58.2.1, H5.1.f58.2.2, H5.u0, H5.u1, H5.u2, H5.u3, H5.u4, H5.u5, H5.l0, H5.l1, H5.l2, H5.l3, H5.l4, H5.l5, H5.e0, H5.e1, H5.e2, H5.e3, H5.e4, H5.e5, H5.e6, H5.t0, H5.t1, H5.t2, H5.t3, H5.t4, H5.b48, H5.b50, H5.b52, H5.b54, H5.b56, H5.b58, H5.b61, H5.b63, H5.b65, H5.b67, H5.b69, H5.b71, H5.b74, H5.b76, H5.b78, H5.b80, H5.b82, H5.b84, H5.b86, H5.b92, H5.b94, H5.b96, H5.b98, H5.b100, eq_self, true_and, and_true, Int.reduceLT, Int.reduceLE, Int.reduceAdd, w32_1, w32_2, w32_4, w32_5, Int.le_refl, V5.2.2.1, t0, t1]
      intros
      refine rg_set H5 (by decide) (bd_i64 d2 (by decide)) (fun μ6 H6 f6 => ?_)
      have V6 := V5.fb f6
      apply g_X12_leastV_137
      simp only [H6.1.k, H6.1.f30.1, H6.1.f30.2.1, H6.1.f30.2.2, H6.1.f31.1, H6.1.f31.2.1, H6.1.f31.2.2, H6.1.f32.1, H6.1.f32.2.1, H6.1.f32.2.2, H6.1.f33.1, H6.1.f33.2.1, H6.1.f33.2.2, H6.1.f39.1, H6.1.f39.2.1, H6.1.f39.2.2, H6.1.f40.1, H6.1.f40.2.1, H6.1.f40.2.2, H6.1.f41.1, H6.1.f41.2.1, H6.1.f41.2.2, H6.1.f50.1, H6.1.f50.2.1, H6.1.f50.2.2, H6.1.f51.1, H6.1.f51.2.1, H6.1.f51.2.2, H6.1.f52.1, H6.1.f52.2.1, H6.1.f52.2.2, H6.1.f58.1, H6.1.f58.2.1, H6.1.f58.2.2, H6.u0, H6.u1, H6.u2, H6.u3, H6.u4, H6.u5, H6.l0, H6.l1, H6.l2, H6.l3, H6.l4, H6.l5, H6.e0, H6.e1, H6.e2, H6.e3, H6.e4, H6.e5, H6.e6, H6.t0, H6.t1, H6.t2, H6.t3, H6.t4, H6.b48, H6.b50, H6.b52, H6.b54, H6.b56, H6.b58, H6.b61, H6.b63, H6.b65, H6.b67, H6.b69, H6.b71, H6.b74, H6.b76, H6.b78, H6.b80, H6.b82, H6.b84, H6.b86, H6.b92, H6.b94, H6.b96, H6.b98, H6.b100, eq_self, true_and, and_true, Int.reduceLT, Int.reduceLE, Int.reduceAdd, w32_1, w32_2, w32_4, w32_5, Int.le_refl]
      intros
      refine rg_prod H6 (by decide) (by decide) (by decide) (by decide) (by decide) (by simp only [up, reduceIte, Int.reduceEq, el]; exact pb_mul d2 b1 (by decide)) (fun μ7 H7 f7 => ?_)
      simp only [up, reduceIte, Int.reduceEq, el] at H7
      have V7 := V6.fb f7
      have g4 := bd_mono (bd_mul d2 b1) (by decide : 19 + 64 ≤ 84)
      have F7 : FB M μ0 μ7 := ((((((fb.trans f1).trans f2).trans f3).trans f4).trans f5).trans f6).trans f7
      generalize hN : -vh t * R0 54 + -v1 t * R0 67 = N at *
      have hN' : N = -(vh t * R0 54 + v1 t * R0 67) := by rw [← hN]; grind
      have D0 : 0 < vv t * R0 67 := Int.mul_pos mt lp
      obtain ⟨R7, hR7⟩ : ∃ R7, R7 = up (up (up (up (up (up (up R 74 (-vh t)) 76 (-vh t * R0 54)) 74 (-v1 t)) 78 (-v1 t * R0 67)) 76 N) 74 (vv t)) 78 (vv t * R0 67) := ⟨_, rfl⟩
      rw [← hR7] at H7
      have r76 : R7 76 = N := by rw [hR7]; simp only [up, reduceIte, Int.reduceEq]
      have r78 : R7 78 = vv t * R0 67 := by rw [hR7]; simp only [up, reduceIte, Int.reduceEq]
      have ru : R7 56 = R 56 := by rw [hR7]; simp only [up, reduceIte, Int.reduceEq]
      have rl : R7 69 = R 69 := by rw [hR7]; simp only [up, reduceIte, Int.reduceEq]
      have fr7 : ∀ s, ¬ tme s → s ≠ 56 → s ≠ 69 → R7 s = R0 s := by
        intro s s1 s2 s3
        have q := tme.no s1
        rw [hR7, up_ne q.2.2.2.1, up_ne q.2.1, up_ne q.2.2.1, up_ne q.2.2.2.1, up_ne q.2.1, up_ne q.2.2.1, up_ne q.2.1]
        exact fr s s1 s2 s3
      clear hR7 H6 H5 H4 H3 H2 H1
      have take : ∀ μ' R', RG ε μ' M R' → RV μ' M T vh vv v1 → R' 76 = N → R' 78 = vv t * R0 67 → (has = 0 ∨ R 56 * (vv t * R0 67) < N * R 69) → (∀ s, ¬ tme s → s ≠ 56 → s ≠ 69 → R' s = R0 s) → FB M μ0 μ' → G cd_X12_leastV Q X 200 [(0, (2, M)), (1, (0, 3)), (3, (0, t))] [] ε μ' := by
        intro μ' R' H1 W1 e1 e2 gt fr' fb'
        apply g_X12_leastV_200
        simp only [H1.1.k, H1.1.f30.1, H1.1.f30.2.1, H1.1.f30.2.2, H1.1.f31.1, H1.1.f31.2.1, H1.1.f31.2.2, H1.1.f32.1, H1.1.f32.2.1, H1.1.f32.2.2, H1.1.f33.1, H1.1.f33.2.1, H1.1.f33.2.2, H1.1.f39.1, H1.1.f39.2.1, H1.1.f39.2.2, H1.1.f40.1, H1.1.f40.2.1, H1.1.f40.2.2, H1.1.f41.1, H1.1.f41.2.1, H1.1.f41.2.2, H1.1.f50.1, H1.1.f50.2.1, H1.1.f50.2.2, H1.1.f51.1, H1.1.f51.2.1, H1.1.f51.2.2, H1.1.f52.1, H1.1.f52.2.1, H1.1.f52.2.2, H1.1.f58.1, H1.1.f58.2.1, H1.1.f58.2.2, H1.u0, H1.u1, H1.u2, H1.u3, H1.u4, H1.u5, H1.l0, H1.l1, H1.l2, H1.l3, H1.l4, H1.l5, H1.e0, H1.e1, H1.e2, H1.e3, H1.e4, H1.e5, H1.e6, H1.t0, H1.t1, H1.t2, H1.t3, H1.t4, H1.b48, H1.b50, H1.b52, H1.b54, H1.b56, H1.b58, H1.b61, H1.b63, H1.b65, H1.b67, H1.b69, H1.b71, H1.b74, H1.b76, H1.b78, H1.b80, H1.b82, H1.b84, H1.b86, H1.b92, H1.b94, H1.b96, H1.b98, H1.b100, eq_self, true_and, and_true, Int.reduceLT, Int.reduceLE, Int.reduceAdd, w32_1, w32_2, w32_4, w32_5, Int.le_refl]
        intros
        refine rg_take H1 (by decide) (by decide) (fun μ2 H2 h2 => ?_)
        rw [e1] at H2
        apply g_X12_leastV_217
        simp only [H2.1.k, H2.1.f30.1, H2.1.f30.2.1, H2.1.f30.2.2, H2.1.f31.1, H2.1.f31.2.1, H2.1.f31.2.2, H2.1.f32.1, H2.1.f32.2.1, H2.1.f32.2.2, H2.1.f33.1, H2.1.f33.2.1, H2.1.f33.2.2, H2.1.f39.1, H2.1.f39.2.1, H2.1.f39.2.2, H2.1.f40.1, H2.1.f40.2.1, H2.1.f40.2.2, H2.1.f41.1, H2.1.f41.2.1, H2.1.f41.2.2, H2.1.f50.1, H2.1.f50.2.1, H2.1.f50.2.2, H2.1.f51.1, H2.1.f51.2.1, H2.1.f51.2.2, H2.1.f52.1, H2.1.f52.2.1, H2.1.f52.2.2, H2.1.f58.1, H2.1.f58.2.1, H2.1.f58.2.2, H2.u0, H2.u1, H2.u2, H2.u3, H2.u4, H2.u5, H2.l0, H2.l1, H2.l2, H2.l3, H2.l4, H2.l5, H2.e0, H2.e1, H2.e2, H2.e3, H2.e4, H2.e5, H2.e6, H2.t0, H2.t1, H2.t2, H2.t3, H2.t4, H2.b48, H2.b50, H2.b52, H2.b54, H2.b56, H2.b58, H2.b61, H2.b63, H2.b65, H2.b67, H2.b69, H2.b71, H2.b74, H2.b76, H2.b78, H2.b80, H2.b82, H2.b84, H2.b86, H2.b92, H2.b94, H2.b96, H2.b98, H2.b100, eq_self, true_and, and_true, Int.reduceLT, Int.reduceLE, Int.reduceAdd, w32_1, w32_2, w32_4, w32_5, Int.le_refl]
        intros
        refine rg_take H2 (by decide) (by decide) (fun μ3 H3 h3 => ?_)
        simp only [up, reduceIte, Int.reduceEq, e2] at H3
        have x1 : up (up R' 56 N) 69 (vv t * R0 67) 56 = N := by simp only [up, reduceIte, Int.reduceEq]
        have x2 : up (up R' 56 N) 69 (vv t * R0 67) 69 = vv t * R0 67 := by simp only [up, reduceIte, Int.reduceEq]
        apply g_X12_leastV_234
        simp only [H3.1.k, H3.1.f30.1, H3.1.f30.2.1, H3.1.f30.2.2, H3.1.f31.1, H3.1.f31.2.1, H3.1.f31.2.2, H3.1.f32.1, H3.1.f32.2.1, H3.1.f32.2.2, H3.1.f33.1, H3.1.f33.2.1, H3.1.f33.2.2, H3.1.f39.1, H3.1.f39.2.1, H3.1.f39.2.2, H3.1.f40.1, H3.1.f40.2.1, H3.1.f40.2.2, H3.1.f41.1, H3.1.f41.2.1, H3.1.f41.2.2, H3.1.f50.1, H3.1.f50.2.1, H3.1.f50.2.2, H3.1.f51.1, H3.1.f51.2.1, H3.1.f51.2.2, H3.1.f52.1, H3.1.f52.2.1, H3.1.f52.2.2, H3.1.f58.1, H3.1.f58.2.1, H3.1.f58.2.2, H3.u0, H3.u1, H3.u2, H3.u3, H3.u4, H3.u5, H3.l0, H3.l1, H3.l2, H3.l3, H3.l4, H3.l5, H3.e0, H3.e1, H3.e2, H3.e3, H3.e4, H3.e5, H3.e6, H3.t0, H3.t1, H3.t2, H3.t3, H3.t4, H3.b48, H3.b50, H3.b52, H3.b54, H3.b56, H3.b58, H3.b61, H3.b63, H3.b65, H3.b67, H3.b69, H3.b71, H3.b74, H3.b76, H3.b78, H3.b80, H3.b82, H3.b84, H3.b86, H3.b92, H3.b94, H3.b96, H3.b98, H3.b100, eq_self, true_and, and_true, Int.reduceLT, Int.reduceLE, Int.reduceAdd, w32_1, w32_2, w32_4, w32_5, Int.le_refl]
        intros
        refine rg_lowest (by decide) (by decide) (by unfold tmp; decide) (by unfold tmp; decide) (by decide) H3 (by rw [x2]; omega) (by rw [x1]; exact pb_two g3 (by decide)) (by rw [x2]; exact pb_two g4 (by decide)) (fun μ4 R4 H4 lo fr4 h4 => ?_)
        rw [x1, x2] at lo
        apply g_X12_leastV_254
        refine fun _ _ _ v2 e => ?_
        rw [e]
        refine next 1 μ4 R4 H4 (((W1.fb h2).fb h3).fb h4) (fun _ => ⟨bd_le g3 lo.2.2.2.1, bd_le g4 lo.2.2.2.2⟩) (mi_new t0 I D0 lo.1 (by rw [lo.2.2.1, hN']) (by rw [← hN']; exact gt)) (fun s s1 s2 s3 => ?_) (((fb'.trans h2).trans h3).trans h4)
        rw [fr4 s (tme.no s1).1 s2 s3, up_ne s3, up_ne s2]
        exact fr' s s1 s2 s3
      apply g_X12_leastV_158
      simp only [H7.1.k, H7.1.f30.1, H7.1.f30.2.1, H7.1.f30.2.2, H7.1.f31.1, H7.1.f31.2.1, H7.1.f31.2.2, H7.1.f32.1, H7.1.f32.2.1, H7.1.f32.2.2, H7.1.f33.1, H7.1.f33.2.1, H7.1.f33.2.2, H7.1.f39.1, H7.1.f39.2.1, H7.1.f39.2.2, H7.1.f40.1, H7.1.f40.2.1, H7.1.f40.2.2, H7.1.f41.1, H7.1.f41.2.1, H7.1.f41.2.2, H7.1.f50.1, H7.1.f50.2.1, H7.1.f50.2.2, H7.1.f51.1, H7.1.f51.2.1, H7.1.f51.2.2, H7.1.f52.1, H7.1.f52.2.1, H7.1.f52.2.2, H7.1.f58.1, H7.1.f58.2.1, H7.1.f58.2.2, H7.u0, H7.u1, H7.u2, H7.u3, H7.u4, H7.u5, H7.l0, H7.l1, H7.l2, H7.l3, H7.l4, H7.l5, H7.e0, H7.e1, H7.e2, H7.e3, H7.e4, H7.e5, H7.e6, H7.t0, H7.t1, H7.t2, H7.t3, H7.t4, H7.b48, H7.b50, H7.b52, H7.b54, H7.b56, H7.b58, H7.b61, H7.b63, H7.b65, H7.b67, H7.b69, H7.b71, H7.b74, H7.b76, H7.b78, H7.b80, H7.b82, H7.b84, H7.b86, H7.b92, H7.b94, H7.b96, H7.b98, H7.b100, eq_self, true_and, and_true, Int.reduceLT, Int.reduceLE, Int.reduceAdd, w32_1, w32_2, w32_4, w32_5, Int.le_refl]
      refine fun _ _ _ _ => ⟨fun z => take μ7 R7 H7 V7 r76 r78 (Or.inl z) fr7 F7, fun z => ?_⟩
      have hb' := hb z
      refine rg_above H7 (by decide) (by decide) (by decide) (by decide) (by decide) (by decide) (by decide) (by decide) (by decide) (by decide) (a := 108) (b := 84) (by rw [r76]; exact g3) (by rw [rl]; exact hb'.2) (by rw [ru]; exact hb'.1) (by rw [r78]; exact g4) (by decide) (fun μ8 R8 H8 fr8 f8 => ?_)
      rw [ru, rl, r76, r78]
      have s76 : R8 76 = N := by rw [fr8 76 (by decide) (by decide)]; exact r76
      have s78 : R8 78 = vv t * R0 67 := by rw [fr8 78 (by decide) (by decide)]; exact r78
      have su : R8 56 = R 56 := by rw [fr8 56 (by decide) (by decide)]; exact ru
      have sl : R8 69 = R 69 := by rw [fr8 69 (by decide) (by decide)]; exact rl
      have fr8' : ∀ s, ¬ tme s → s ≠ 56 → s ≠ 69 → R8 s = R0 s := by
        intro s s1 s2 s3
        have q := tme.no s1
        rw [fr8 s q.2.2.2.2.2.2.1 q.2.2.2.2.2.2.2]
        exact fr7 s s1 s2 s3
      apply g_X12_leastV_194
      refine fun _ _ _ _ _ => ⟨fun q => take μ8 R8 H8 (V7.fb f8) s76 s78 (Or.inr ?_) fr8' (F7.trans f8), fun q => next has μ8 R8 H8 (V7.fb f8) (fun _ => by rw [su, sl]; exact hb') ?_ fr8' (F7.trans f8)⟩
      · by_cases c : R 56 * (vv t * R0 67) < N * R 69
        · exact c
        · rw [if_neg c] at q; exact absurd rfl q
      · rw [su, sl]
        refine mi_old I z (fun c => ?_)
        rw [hN', if_pos c] at q
        exact absurd q (by decide)
    · refine next has μ R H0 V0 hb (mi_skip I ?_) fr fb
      have := Int.mul_nonneg (show 0 ≤ -(vv t) by omega) (Int.le_of_lt lp)
      rw [Int.neg_mul] at this
      show vv t * R0 67 ≤ 0
      omega
theorem rg_leastV_3 {Q X : m_Po} {ε : m_E} {M : Int} {μ0 : m_M} {R0 vh vv v1 : Int → Int} {T : Nat} (H : RG ε μ0 M R0) (V : RV μ0 M T vh vv v1) (hT : T ≤ 672) (B : VB vh vv v1 T) (b0 : bd (R0 54) 64) (b1 : bd (R0 67) 64) (lp : 0 < R0 67) (hex : ∃ t, 0 ≤ t ∧ t < (T : Int) ∧ 0 < vv t)
    (hh : ∀ μ' R', RG ε μ' M R' → 0 < R' 69 → bd (R' 56) 108 → bd (R' 69) 84 → MX (fun t => vh t * R0 54 + v1 t * R0 67) (fun t => vv t * R0 67) T (R' 56) (R' 69) → (∀ s, ¬ tme s → s ≠ 56 → s ≠ 69 → R' s = R0 s) → FB M μ0 μ' → Q 0 ε μ') : o_X12_leastV [(2, M), (0, 3)] ε μ0 Q X := by
  apply e_X12_leastV
  intro _ _ v2 e2 v3 e3
  rw [e2, e3]
  exact lv_loop_3 hT B b0 b1 lp hex hh T 0 0 μ0 R0 (by omega) H V (fun z => absurd rfl z) (Or.inl ⟨rfl, fun s s0 s1 => by omega⟩) (fun _ _ _ _ => rfl) FB.rf
