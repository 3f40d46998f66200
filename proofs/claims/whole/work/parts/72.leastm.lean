/-! ===== leastM (by leastm.py) ===== -/
theorem flip_sg {ε : m_E} {μ : m_M} {M r t : Int} {R : Int → Int} (H : RG ε μ M R) (hr : r ∈ lm_b) (et : t = if μ (M + r) 1 = 0 then 1 else 0) : (t = 0 ∨ t = 1) ∧ (if t = 0 then ((R r).natAbs : Int) else -((R r).natAbs : Int)) = -(R r) := by
  have s := rg_sg H hr
  by_cases z : μ (M + r) 1 = 0
  · rw [if_pos z] at s et
    rw [et]
    refine ⟨Or.inr rfl, ?_⟩
    rw [if_neg (by decide)]; omega
  · rw [if_neg z] at s et
    rw [et]
    refine ⟨Or.inl rfl, ?_⟩
    rw [if_pos rfl]; omega
/-- a row's value where m is left out, times both lower parts -/
def KP (h v c : Int → Int) (a b x y i : Int) : Int := h i * a * y + v i * x * b + c i * (b * y)
theorem kp_bd {h v c : Int → Int} {a b x y i : Int} (bh : bd (h i) 20) (bv : bd (v i) 20) (bc : bd (c i) 44) (b0 : bd a 64) (b1 : bd b 64) (b2 : bd x 108) (b3 : bd y 84) : bd (KP h v c a b x y i) 194 :=
  bd_add (bd_add (bd_mono (bd_mul (bd_mul bh b0) b3) (by decide : 20 + 64 + 84 ≤ 192)) (bd_mul (bd_mul bv b2) b1)) (bd_mono (bd_mul bc (bd_mul b1 b3)) (by decide : 44 + (64 + 84) ≤ 193))
/-- bounds of the rows themselves -/
def RB (h v m c : Int → Int) (n : Int) : Prop := ∀ i, 0 ≤ i → i < n → bd (h i) 20 ∧ bd (v i) 20 ∧ bd (m i) 20 ∧ bd (c i) 44
theorem lm_loop_0 {Q X : m_Po} {ε : m_E} {M : Int} {μ0 : m_M} {R0 h v m c : Int → Int} {n : Nat} (hn : n ≤ 48) (B : RB h v m c n) (b0 : bd (R0 48) 64) (b1 : bd (R0 61) 64) (b2 : bd (R0 50) 108) (b3 : bd (R0 63) 84) (lp : 0 < R0 61) (lq : 0 < R0 63) (hex : ∃ t, 0 ≤ t ∧ t < (n : Int) ∧ 0 < m t)
    (hh : ∀ μ' R', RG ε μ' M R' → 0 < R' 65 → bd (R' 52) 194 → bd (R' 65) 168 → MX (KP h v c (R0 48) (R0 61) (R0 50) (R0 63)) (fun t => R0 61 * R0 63 * m t) n (R' 52) (R' 65) → (∀ s, ¬ tme s → s ≠ 52 → s ≠ 65 → R' s = R0 s) → FB M μ0 μ' → Q 0 ε μ') :
    ∀ (d t : Nat) (has : Int) (μ : m_M) (R : Int → Int), t + d = n → RG ε μ M R → RW μ M n h v m c → (has ≠ 0 → bd (R 52) 194 ∧ bd (R 65) 168) → MI (KP h v c (R0 48) (R0 61) (R0 50) (R0 63)) (fun t => R0 61 * R0 63 * m t) t has (R 52) (R 65) → (∀ s, ¬ tme s → s ≠ 52 → s ≠ 65 → R s = R0 s) → FB M μ0 μ → G cd_X12_leastM Q X 4 [(0, (2, M)), (1, (0, 0)), (2, (0, has)), (3, (0, t))] [] ε μ := by
  have nu : ¬ tme 48 := by unfold tme tmp; decide
  have nl : ¬ tme 61 := by unfold tme tmp; decide
  have nu1 : ¬ tme 50 := by unfold tme tmp; decide
  have nl1 : ¬ tme 63 := by unfold tme tmp; decide
  have lpq : 0 < R0 61 * R0 63 := Int.mul_pos lp lq
  intro d
  induction d with
  | zero =>
    intro t has μ R hd H0 W0 hb I fr fb
    have ht : t = n := by omega
    subst ht
    have tn : ¬ (t : Int) < t := by omega
    have hex' : ∃ s, 0 ≤ s ∧ s < (t : Int) ∧ 0 < (fun t => R0 61 * R0 63 * m t) s := by
      obtain ⟨s, s0, s1, s2⟩ := hex
      exact ⟨s, s0, s1, Int.mul_pos lpq s2⟩
    obtain ⟨y0, mx⟩ := mi_end I hex'
    have hn : has ≠ 0 := by
      rcases I with ⟨_, h1⟩ | ⟨h1, _⟩
      · obtain ⟨s, s0, s1, s2⟩ := hex'
        have := h1 s s0 s1; omega
      · omega
    have hb' := hb hn
    apply g_X12_leastM_4
    rw [W0.1]
    exact fun _ _ _ _ => ⟨H0.1.k, fun _ => hh μ R H0 y0 hb'.1 hb'.2 mx fr fb, fun z => absurd z tn⟩
  | succ d ih =>
    intro t has μ R hd H0 W0 hb I fr fb
    have t0 : (0 : Int) ≤ t := by omega
    have t1 : (t : Int) < 48 := by omega
    have t2 : (t : Int) < n := by omega
    have tN : ¬ (n : Int) ≤ t := by omega
    have tm : t < 2147483647 := by omega
    have hd' : t + 1 + d = n := by omega
    obtain ⟨c1, c2, c3, c4⟩ := B t t0 t2
    have eu : R 48 = R0 48 := fr 48 nu (by decide) (by decide)
    have el : R 61 = R0 61 := fr 61 nl (by decide) (by decide)
    have eu1 : R 50 = R0 50 := fr 50 nu1 (by decide) (by decide)
    have el1 : R 63 = R0 63 := fr 63 nl1 (by decide) (by decide)
    have next : ∀ (has' : Int) (μ' : m_M) (R' : Int → Int), RG ε μ' M R' → RW μ' M n h v m c → (has' ≠ 0 → bd (R' 52) 194 ∧ bd (R' 65) 168) → MI (KP h v c (R0 48) (R0 61) (R0 50) (R0 63)) (fun t => R0 61 * R0 63 * m t) ((t : Int) + 1) has' (R' 52) (R' 65) → (∀ s, ¬ tme s → s ≠ 52 → s ≠ 65 → R' s = R0 s) → FB M μ0 μ' → G cd_X12_leastM Q X 192 [(0, (2, M)), (1, (0, 0)), (2, (0, has')), (3, (0, t))] [] ε μ' := by
      intro has' μ' R' a1 a2 a3 a4 a5 a6
      apply g_X12_leastM_192
      refine fun _ _ _ _ v3 e3 => ?_
      rw [w32_succ tm e3]
      exact ih (t + 1) has' μ' R' hd' a1 a2 a3 a4 a5 a6
    apply g_X12_leastM_4
    simp only [H0.1.k, H0.1.f30.1, H0.1.f30.2.1, H0.1.f30.2.2, H0.1.f31.1, H0.1.f31.2.1, H0.1.f31.2.2, H0.1.f32.1, H0.1.f32.2.1, H0.1.f32.2.2, H0.1.f33.1, H0.1.f33.2.1, H0.1.f33.2.2, H0.1.f39.1, H0.1.f39.2.1, H0.1.f39.2.2, H0.1.f40.1, H0.1.f40.2.1, H0.1.f40.2.2, H0.1.f41.1, H0.1.f41.2.1, H0.1.f41.2.2, H0.1.f50.1, H0.1.f50.2.1, H0.1.f50.2.2, H0.1.f51.1, H0.1.f51.2.1, H0.1.f51.2.2, H0.1.f52.1, H0.1.f52.2.1, H0.1.f52.2.2, H0.1.f58.1, H0.1.f58.2.1, H0.1.f58.2.2, H0.u0, H0.u1, H0.u2, H0.u3, H0.u4, H0.u5, H0.l0, H0.l1, H0.l2, H0.l3, H0.l4, H0.l5, H0.e0, H0.e1, H0.e2, H0.e3, H0.e4, H0.e5, H0.e6, H0.t0, H0.t1, H0.t2, H0.t3, H0.t4, H0.b48, H0.b50, H0.b52, H0.b54, H0.b56, H0.b58, H0.b61, H0.b63, H0.b65, H0.b67, H0.b69, H0.b71, H0.b74, H0.b76, H0.b78, H0.b80, H0.b82, H0.b84, H0.b86, H0.b92, H0.b94, H0.b96, H0.b98, H0.b100, eq_self, true_and, and_true, Int.reduceLT, Int.reduceLE, Int.reduceAdd, w32_1, w32_2, w32_4, w32_5, Int.le_refl, W0.1, W0.2.2.2.1, t0, t1]
    refine fun _ _ _ _ => ⟨fun z => absurd z tN, fun _ => ⟨fun mt => ?_, fun mt => ?_⟩⟩
    · refine rg_known_0 H0 W0 t0 t1 c1 c2 c4 (by rw [eu]; exact b0) (by rw [el]; exact b1) (by rw [eu1]; exact b2) (by rw [el1]; exact b3) (fun μ1 R1 H1 e80 e82 fr1 f1 => ?_)
      rw [eu, el, eu1, el1] at e80
      rw [el, el1] at e82
      have W1 := W0.fb f1
      have g3 : bd (KP h v c (R0 48) (R0 61) (R0 50) (R0 63) t) 194 := kp_bd c1 c2 c4 b0 b1 b2 b3
      have g4 : bd (R0 61 * R0 63 * m t) 168 := bd_mul (bd_mul b1 b3) c3
      have hP : R1 80 = KP h v c (R0 48) (R0 61) (R0 50) (R0 63) t := e80
      have D0 : 0 < R0 61 * R0 63 * m t := Int.mul_pos lpq mt
      generalize hK : KP h v c (R0 48) (R0 61) (R0 50) (R0 63) t = K at *
      apply g_X12_leastM_32
      simp only [H1.1.k, H1.1.f30.1, H1.1.f30.2.1, H1.1.f30.2.2, H1.1.f31.1, H1.1.f31.2.1, H1.1.f31.2.2, H1.1.f32.1, H1.1.f32.2.1, H1.1.f32.2.2, H1.1.f33.1, H1.1.f33.2.1, H1.1.f33.2.2, H1.1.f39.1, H1.1.f39.2.1, H1.1.f39.2.2, H1.1.f40.1, H1.1.f40.2.1, H1.1.f40.2.2, H1.1.f41.1, H1.1.f41.2.1, H1.1.f41.2.2, H1.1.f50.1, H1.1.f50.2.1, H1.1.f50.2.2, H1.1.f51.1, H1.1.f51.2.1, H1.1.f51.2.2, H1.1.f52.1, H1.1.f52.2.1, H1.1.f52.2.2, H1.1.f58.1, H1.1.f58.2.1, H1.1.f58.2.2, H1.u0, H1.u1, H1.u2, H1.u3, H1.u4, H1.u5, H1.l0, H1.l1, H1.l2, H1.l3, H1.l4, H1.l5, H1.e0, H1.e1, H1.e2, H1.e3, H1.e4, H1.e5, H1.e6, H1.t0, H1.t1, H1.t2, H1.t3, H1.t4, H1.b48, H1.b50, H1.b52, H1.b54, H1.b56, H1.b58, H1.b61, H1.b63, H1.b65, H1.b67, H1.b69, H1.b71, H1.b74, H1.b76, H1.b78, H1.b80, H1.b82, H1.b84, H1.b86, H1.b92, H1.b94, H1.b96, H1.b98, H1.b100, eq_self, true_and, and_true, Int.reduceLT, Int.reduceLE, Int.reduceAdd, w32_1, w32_2, w32_4, w32_5, Int.le_refl, t0, t1]
      intro _ _ _ _ t' et
      obtain ⟨h01, hfl⟩ := flip_sg H1 (by decide : (80 : Int) ∈ lm_b) et
      refine ⟨h01, fun μ2 m2 => ?_⟩
      obtain ⟨H2, f2⟩ := H1.sign (by decide : (80 : Int) ∈ lm_b) h01
      rw [hfl, hP, ← m2] at H2
      rw [← m2] at f2
      have W2 := W1.fb f2
      simp only [H2.1.k, H2.1.f30.1, H2.1.f30.2.1, H2.1.f30.2.2, H2.1.f31.1, H2.1.f31.2.1, H2.1.f31.2.2, H2.1.f32.1, H2.1.f32.2.1, H2.1.f32.2.2, H2.1.f33.1, H2.1.f33.2.1, H2.1.f33.2.2, H2.1.f39.1, H2.1.f39.2.1, H2.1.f39.2.2, H2.1.f40.1, H2.1.f40.2.1, H2.1.f40.2.2, H2.1.f41.1, H2.1.f41.2.1, H2.1.f41.2.2, H2.1.f50.1, H2.1.f50.2.1, H2.1.f50.2.2, H2.1.f51.1, H2.1.f51.2.1, H2.1.f51.2.2, H2.1.f52.1, H2.1.f52.2.1, H2.1.f52.2.2, H2.1.f58.1, H2.1.f58.2.1, H2.1.f58.2.2, H2.u0, H2.u1, H2.u2, H2.u3, H2.u4, H2.u5, H2.l0, H2.l1, H2.l2, H2.l3, H2.l4, H2.l5, H2.e0, H2.e1, H2.e2, H2.e3, H2.e4, H2.e5, H2.e6, H2.t0, H2.t1, H2.t2, H2.t3, H2.t4, H2.b48, H2.b50, H2.b52, H2.b54, H2.b56, H2.b58, H2.b61, H2.b63, H2.b65, H2.b67, H2.b69, H2.b71, H2.b74, H2.b76, H2.b78, H2.b80, H2.b82, H2.b84, H2.b86, H2.b92, H2.b94, H2.b96, H2.b98, H2.b100, eq_self, true_and, and_true, Int.reduceLT, Int.reduceLE, Int.reduceAdd, w32_1, w32_2, w32_4, w32_5, Int.le_refl, W2.2.2.2.1, t0, t1]
      refine rg_set H2 (by decide) (bd_i64 c3 (by decide)) (fun μ3 H3 f3 => ?_)
      have W3 := W2.fb f3
      apply g_X12_leastM_73
      simp only [H3.1.k, H3.1.f30.1, H3.1.f30.2.1, H3.1.f30.2.2, H3.1.f31.1, H3.1.f31.2.1, H3.1.f31.2.2, H3.1.f32.1, H3.1.f32.2.1, H3.1.f32.2.2, H3.1.f33.1, H3.1.f33.2.1, H3.1.f33.2.2, H3.1.f39.1, H3.1.f39.2.1, H3.1.f39.2.2, H3.1.f40.1, H3.1.f40.2.1, H3.1.f40.2.2, H3.1.f41.1, H3.1.f41.2.1, H3.1.f41.2.2, H3.1.f50.1, H3.1.f50.2.1, H3.1.f50.2.2, H3.1.f51.1, H3.1.f51.2.1, H3.1.f51.2.2, H3.1.f52.1, H3.1.f52.2.1, H3.1.f52.2.2, H3.1.f58.1, H3.1.f58.2.1, H3.1.f58.2.2, H3.u0, H3.u1, H3.u2, H3.u3, H3.u4, H3.u5, H3.l0, H3.l1, H3.l2, H3.l3, H3.l4, H3.l5, H3.e0, H3.e1, H3.e2, H3.e3, H3.e4, H3.e5, H3.e6, H3.t0, H3.t1, H3.t2, H3.t3, H3.t4, H3.b48, H3.b50, H3.b52, H3.b54, H3.b56, H3.b58, H3.b61, H3.b63, H3.b65, H3.b67, H3.b69, H3.b71, H3.b74, H3.b76, H3.b78, H3.b80, H3.b82, H3.b84, H3.b86, H3.b92, H3.b94, H3.b96, H3.b98, H3.b100, eq_self, true_and, and_true, Int.reduceLT, Int.reduceLE, Int.reduceAdd, w32_1, w32_2, w32_4, w32_5, Int.le_refl]
      intros
      refine rg_prod H3 (by decide) (by decide) (by decide) (by decide) (by decide) (by simp only [up, reduceIte, Int.reduceEq, e82]; exact pb_mul (bd_mul b1 b3) c3 (by decide)) (fun μ4 H4 f4 => ?_)
      simp only [up, reduceIte, Int.reduceEq, e82] at H4
      have W4 := W3.fb f4
      have F4 : FB M μ0 μ4 := (((fb.trans f1).trans f2).trans f3).trans f4
      obtain ⟨R4, hR4⟩ : ∃ R4, R4 = up (up (up R1 80 (-K)) 74 (m t)) 76 (R0 61 * R0 63 * m t) := ⟨_, rfl⟩
      rw [← hR4] at H4
      have r80 : R4 80 = -K := by rw [hR4]; simp only [up, reduceIte, Int.reduceEq]
      have r76 : R4 76 = R0 61 * R0 63 * m t := by rw [hR4]; simp only [up, reduceIte, Int.reduceEq]
      have ru : R4 52 = R 52 := by rw [hR4]; simp only [up, reduceIte, Int.reduceEq]; exact fr1 _ (by decide) (by decide) (by decide) (by decide) (by decide)
      have rl : R4 65 = R 65 := by rw [hR4]; simp only [up, reduceIte, Int.reduceEq]; exact fr1 _ (by decide) (by decide) (by decide) (by decide) (by decide)
      have fr4 : ∀ s, ¬ tme s → s ≠ 52 → s ≠ 65 → R4 s = R0 s := by
        intro s s1 s2 s3
        have q := tme.no s1
        rw [hR4, up_ne q.2.2.1, up_ne q.2.1, up_ne q.2.2.2.2.1, fr1 s q.2.1 q.2.2.1 q.2.2.2.1 q.2.2.2.2.1 q.2.2.2.2.2.1]
        exact fr s s1 s2 s3
      clear hR4 H3 H2
      have take : ∀ μ' R', RG ε μ' M R' → RW μ' M n h v m c → R' 80 = -K → R' 76 = R0 61 * R0 63 * m t → (has = 0 ∨ R 52 * (R0 61 * R0 63 * m t) < -K * R 65) → (∀ s, ¬ tme s → s ≠ 52 → s ≠ 65 → R' s = R0 s) → FB M μ0 μ' → G cd_X12_leastM Q X 136 [(0, (2, M)), (1, (0, 0)), (3, (0, t))] [] ε μ' := by
        intro μ' R' H1 W1 e1 e2 gt fr' fb'
        apply g_X12_leastM_136
        simp only [H1.1.k, H1.1.f30.1, H1.1.f30.2.1, H1.1.f30.2.2, H1.1.f31.1, H1.1.f31.2.1, H1.1.f31.2.2, H1.1.f32.1, H1.1.f32.2.1, H1.1.f32.2.2, H1.1.f33.1, H1.1.f33.2.1, H1.1.f33.2.2, H1.1.f39.1, H1.1.f39.2.1, H1.1.f39.2.2, H1.1.f40.1, H1.1.f40.2.1, H1.1.f40.2.2, H1.1.f41.1, H1.1.f41.2.1, H1.1.f41.2.2, H1.1.f50.1, H1.1.f50.2.1, H1.1.f50.2.2, H1.1.f51.1, H1.1.f51.2.1, H1.1.f51.2.2, H1.1.f52.1, H1.1.f52.2.1, H1.1.f52.2.2, H1.1.f58.1, H1.1.f58.2.1, H1.1.f58.2.2, H1.u0, H1.u1, H1.u2, H1.u3, H1.u4, H1.u5, H1.l0, H1.l1, H1.l2, H1.l3, H1.l4, H1.l5, H1.e0, H1.e1, H1.e2, H1.e3, H1.e4, H1.e5, H1.e6, H1.t0, H1.t1, H1.t2, H1.t3, H1.t4, H1.b48, H1.b50, H1.b52, H1.b54, H1.b56, H1.b58, H1.b61, H1.b63, H1.b65, H1.b67, H1.b69, H1.b71, H1.b74, H1.b76, H1.b78, H1.b80, H1.b82, H1.b84, H1.b86, H1.b92, H1.b94, H1.b96, H1.b98, H1.b100, eq_self, true_and, and_true, Int.reduceLT, Int.reduceLE, Int.reduceAdd, w32_1, w32_2, w32_4, w32_5, Int.le_refl]
        intros
        refine rg_take H1 (by decide) (by decide) (fun μ2 H2 h2 => ?_)
        rw [e1] at H2
        apply g_X12_leastM_153
        simp only [H2.1.k, H2.1.f30.1, H2.1.f30.2.1, H2.1.f30.2.2, H2.1.f31.1, H2.1.f31.2.1, H2.1.f31.2.2, H2.1.f32.1, H2.1.f32.2.1, H2.1.f32.2.2, H2.1.f33.1, H2.1.f33.2.1, H2.1.f33.2.2, H2.1.f39.1, H2.1.f39.2.1, H2.1.f39.2.2, H2.1.f40.1, H2.1.f40.2.1, H2.1.f40.2.2, H2.1.f41.1, H2.1.f41.2.1, H2.1.f41.2.2, H2.1.f50.1, H2.1.f50.2.1, H2.1.f50.2.2, H2.1.f51.1, H2.1.f51.2.1, H2.1.f51.2.2, H2.1.f52.1, H2.1.f52.2.1, H2.1.f52.2.2, H2.1.f58.1, H2.1.f58.2.1, H2.1.f58.2.2, H2.u0, H2.u1, H2.u2, H2.u3, H2.u4, H2.u5, H2.l0, H2.l1, H2.l2, H2.l3, H2.l4, H2.l5, H2.e0, H2.e1, H2.e2, H2.e3, H2.e4, H2.e5, H2.e6, H2.t0, H2.t1, H2.t2, H2.t3, H2.t4, H2.b48, H2.b50, H2.b52, H2.b54, H2.b56, H2.b58, H2.b61, H2.b63, H2.b65, H2.b67, H2.b69, H2.b71, H2.b74, H2.b76, H2.b78, H2.b80, H2.b82, H2.b84, H2.b86, H2.b92, H2.b94, H2.b96, H2.b98, H2.b100, eq_self, true_and, and_true, Int.reduceLT, Int.reduceLE, Int.reduceAdd, w32_1, w32_2, w32_4, w32_5, Int.le_refl]
        intros
        refine rg_take H2 (by decide) (by decide) (fun μ3 H3 h3 => ?_)
        simp only [up, reduceIte, Int.reduceEq, e2] at H3
        have x1 : up (up R' 52 (-K)) 65 (R0 61 * R0 63 * m t) 52 = -K := by simp only [up, reduceIte, Int.reduceEq]
        have x2 : up (up R' 52 (-K)) 65 (R0 61 * R0 63 * m t) 65 = R0 61 * R0 63 * m t := by simp only [up, reduceIte, Int.reduceEq]
        apply g_X12_leastM_170
        simp only [H3.1.k, H3.1.f30.1, H3.1.f30.2.1, H3.1.f30.2.2, H3.1.f31.1, H3.1.f31.2.1, H3.1.f31.2.2, H3.1.f32.1, H3.1.f32.2.1, H3.1.f32.2.2, H3.1.f33.1, H3.1.f33.2.1, H3.1.f33.2.2, H3.1.f39.1, H3.1.f39.2.1, H3.1.f39.2.2, H3.1.f40.1, H3.1.f40.2.1, H3.1.f40.2.2, H3.1.f41.1, H3.1.f41.2.1, H3.1.f41.2.2, H3.1.f50.1, H3.1.f50.2.1, H3.1.f50.2.2, H3.1.f51.1, H3.1.f51.2.1, H3.1.f51.2.2, H3.1.f52.1, H3.1.f52.2.1, H3.1.f52.2.2, H3.1.f58.1, H3.1.f58.2.1, H3.1.f58.2.2, H3.u0, H3.u1, H3.u2, H3.u3, H3.u4, H3.u5, H3.l0, H3.l1, H3.l2, H3.l3, H3.l4, H3.l5, H3.e0, H3.e1, H3.e2, H3.e3, H3.e4, H3.e5, H3.e6, H3.t0, H3.t1, H3.t2, H3.t3, H3.t4, H3.b48, H3.b50, H3.b52, H3.b54, H3.b56, H3.b58, H3.b61, H3.b63, H3.b65, H3.b67, H3.b69, H3.b71, H3.b74, H3.b76, H3.b78, H3.b80, H3.b82, H3.b84, H3.b86, H3.b92, H3.b94, H3.b96, H3.b98, H3.b100, eq_self, true_and, and_true, Int.reduceLT, Int.reduceLE, Int.reduceAdd, w32_1, w32_2, w32_4, w32_5, Int.le_refl]
        intros
        refine rg_lowest (by decide) (by decide) (by unfold tmp; decide) (by unfold tmp; decide) (by decide) H3 (by rw [x2]; omega) (by rw [x1]; exact pb_two (bd_neg g3) (by decide)) (by rw [x2]; exact pb_two g4 (by decide)) (fun μ4 R4 H4 lo fr4 h4 => ?_)
        rw [x1, x2] at lo
        apply g_X12_leastM_190
        refine fun _ _ _ v2 e => ?_
        rw [e]
        refine next 1 μ4 R4 H4 (((W1.fb h2).fb h3).fb h4) (fun _ => ⟨bd_le (bd_neg g3) lo.2.2.2.1, bd_le g4 lo.2.2.2.2⟩) (mi_new t0 I D0 lo.1 (by rw [lo.2.2.1, hK]) (by rw [hK]; exact gt)) (fun s s1 s2 s3 => ?_) (((fb'.trans h2).trans h3).trans h4)
        rw [fr4 s (tme.no s1).1 s2 s3, up_ne s3, up_ne s2]
        exact fr' s s1 s2 s3
      apply g_X12_leastM_94
      simp only [H4.1.k, H4.1.f30.1, H4.1.f30.2.1, H4.1.f30.2.2, H4.1.f31.1, H4.1.f31.2.1, H4.1.f31.2.2, H4.1.f32.1, H4.1.f32.2.1, H4.1.f32.2.2, H4.1.f33.1, H4.1.f33.2.1, H4.1.f33.2.2, H4.1.f39.1, H4.1.f39.2.1, H4.1.f39.2.2, H4.1.f40.1, H4.1.f40.2.1, H4.1.f40.2.2, H4.1.f41.1, H4.1.f41.2.1, H4.1.f41.2.2, H4.1.f50.1, H4.1.f50.2.1, H4.1.f50.2.2, H4.1.f51.1, H4.1.f51.2.1, H4.1.f51.2.2, H4.1.f52.1, H4.1.f52.2.1, H4.1.f52.2.2, H4.1.f58.1, H4.1.f58.2.1, H4.1.f58.2.2, H4.u0, H4.u1, H4.u2, H4.u3, H4.u4, H4.u5, H4.l0, H4.l1, H4.l2, H4.l3, H4.l4, H4.l5, H4.e0, H4.e1, H4.e2, H4.e3, H4.e4, H4.e5, H4.e6, H4.t0, H4.t1, H4.t2, H4.t3, H4.t4, H4.b48, H4.b50, H4.b52, H4.b54, H4.b56, H4.b58, H4.b61, H4.b63, H4.b65, H4.b67, H4.b69, H4.b71, H4.b74, H4.b76, H4.b78, H4.b80, H4.b82, H4.b84, H4.b86, H4.b92, H4.b94, H4.b96, H4.b98, H4.b100, eq_self, true_and, and_true, Int.reduceLT, Int.reduceLE, Int.reduceAdd, w32_1, w32_2, w32_4, w32_5, Int.le_refl]
      refine fun _ _ _ _ => ⟨fun z => take μ4 R4 H4 W4 r80 r76 (Or.inl z) fr4 F4, fun z => ?_⟩
      have hb' := hb z
      refine rg_above H4 (by decide) (by decide) (by decide) (by decide) (by decide) (by decide) (by decide) (by decide) (by decide) (by decide) (a := 194) (b := 168) (by rw [r80]; exact bd_neg g3) (by rw [rl]; exact hb'.2) (by rw [ru]; exact hb'.1) (by rw [r76]; exact g4) (by decide) (fun μ8 R8 H8 fr8 f8 => ?_)
      rw [ru, rl, r80, r76]
      have s80 : R8 80 = -K := by rw [fr8 80 (by decide) (by decide)]; exact r80
      have s76 : R8 76 = R0 61 * R0 63 * m t := by rw [fr8 76 (by decide) (by decide)]; exact r76
      have su : R8 52 = R 52 := by rw [fr8 52 (by decide) (by decide)]; exact ru
      have sl : R8 65 = R 65 := by rw [fr8 65 (by decide) (by decide)]; exact rl
      have fr8' : ∀ s, ¬ tme s → s ≠ 52 → s ≠ 65 → R8 s = R0 s := by
        intro s s1 s2 s3
        have q := tme.no s1
        rw [fr8 s q.2.2.2.2.2.2.1 q.2.2.2.2.2.2.2]
        exact fr4 s s1 s2 s3
      apply g_X12_leastM_130
      refine fun _ _ _ _ _ => ⟨fun q => take μ8 R8 H8 (W4.fb f8) s80 s76 (Or.inr ?_) fr8' (F4.trans f8), fun q => next has μ8 R8 H8 (W4.fb f8) (fun _ => by rw [su, sl]; exact hb') ?_ fr8' (F4.trans f8)⟩
      · by_cases c : R 52 * (R0 61 * R0 63 * m t) < -K * R 65
        · exact c
        · rw [if_neg c] at q; exact absurd rfl q
      · rw [su, sl]
        refine mi_old I z (fun c => ?_)
        rw [hK] at c
        rw [if_pos c] at q
        exact absurd q (by decide)
    · refine next has μ R H0 W0 hb (mi_skip I ?_) fr fb
      have := Int.mul_nonneg (Int.le_of_lt lpq) (show 0 ≤ -(m t) by omega)
      rw [Int.mul_neg] at this
      show R0 61 * R0 63 * m t ≤ 0
      omega
theorem rg_leastM_0 {Q X : m_Po} {ε : m_E} {M : Int} {μ0 : m_M} {R0 h v m c : Int → Int} {n : Nat} (H : RG ε μ0 M R0) (W : RW μ0 M n h v m c) (hn : n ≤ 48) (B : RB h v m c n) (b0 : bd (R0 48) 64) (b1 : bd (R0 61) 64) (b2 : bd (R0 50) 108) (b3 : bd (R0 63) 84) (lp : 0 < R0 61) (lq : 0 < R0 63) (hex : ∃ t, 0 ≤ t ∧ t < (n : Int) ∧ 0 < m t)
    (hh : ∀ μ' R', RG ε μ' M R' → 0 < R' 65 → bd (R' 52) 194 → bd (R' 65) 168 → MX (KP h v c (R0 48) (R0 61) (R0 50) (R0 63)) (fun t => R0 61 * R0 63 * m t) n (R' 52) (R' 65) → (∀ s, ¬ tme s → s ≠ 52 → s ≠ 65 → R' s = R0 s) → FB M μ0 μ' → Q 0 ε μ') : o_X12_leastM [(2, M), (0, 0)] ε μ0 Q X := by
  apply e_X12_leastM
  intro _ _ v2 e2 v3 e3
  rw [e2, e3]
  exact lm_loop_0 hn B b0 b1 b2 b3 lp lq hex hh n 0 0 μ0 R0 (by omega) H W (fun z => absurd rfl z) (Or.inl ⟨rfl, fun s s0 s1 => by omega⟩) (fun _ _ _ _ => rfl) FB.rf
theorem lm_loop_3 {Q X : m_Po} {ε : m_E} {M : Int} {μ0 : m_M} {R0 h v m c : Int → Int} {n : Nat} (hn : n ≤ 48) (B : RB h v m c n) (b0 : bd (R0 54) 64) (b1 : bd (R0 67) 64) (b2 : bd (R0 56) 108) (b3 : bd (R0 69) 84) (lp : 0 < R0 67) (lq : 0 < R0 69) (hex : ∃ t, 0 ≤ t ∧ t < (n : Int) ∧ 0 < m t)
    (hh : ∀ μ' R', RG ε μ' M R' → 0 < R' 71 → bd (R' 58) 194 → bd (R' 71) 168 → MX (KP h v c (R0 54) (R0 67) (R0 56) (R0 69)) (fun t => R0 67 * R0 69 * m t) n (R' 58) (R' 71) → (∀ s, ¬ tme s → s ≠ 58 → s ≠ 71 → R' s = R0 s) → FB M μ0 μ' → Q 0 ε μ') :
    ∀ (d t : Nat) (has : Int) (μ : m_M) (R : Int → Int), t + d = n → RG ε μ M R → RW μ M n h v m c → (has ≠ 0 → bd (R 58) 194 ∧ bd (R 71) 168) → MI (KP h v c (R0 54) (R0 67) (R0 56) (R0 69)) (fun t => R0 67 * R0 69 * m t) t has (R 58) (R 71) → (∀ s, ¬ tme s → s ≠ 58 → s ≠ 71 → R s = R0 s) → FB M μ0 μ → G cd_X12_leastM Q X 4 [(0, (2, M)), (1, (0, 3)), (2, (0, has)), (3, (0, t))] [] ε μ := by
  have nu : ¬ tme 54 := by unfold tme tmp; decide
  have nl : ¬ tme 67 := by unfold tme tmp; decide
  have nu1 : ¬ tme 56 := by unfold tme tmp; decide
  have nl1 : ¬ tme 69 := by unfold tme tmp; decide
  have lpq : 0 < R0 67 * R0 69 := Int.mul_pos lp lq
  intro d
  induction d with
  | zero =>
    intro t has μ R hd H0 W0 hb I fr fb
    have ht : t = n := by omega
    subst ht
    have tn : ¬ (t : Int) < t := by omega
    have hex' : ∃ s, 0 ≤ s ∧ s < (t : Int) ∧ 0 < (fun t => R0 67 * R0 69 * m t) s := by
      obtain ⟨s, s0, s1, s2⟩ := hex
      exact ⟨s, s0, s1, Int.mul_pos lpq s2⟩
    obtain ⟨y0, mx⟩ := mi_end I hex'
    have hn : has ≠ 0 := by
      rcases I with ⟨_, h1⟩ | ⟨h1, _⟩
      · obtain ⟨s, s0, s1, s2⟩ := hex'
        have := h1 s s0 s1; omega
      · omega
    have hb' := hb hn
    apply g_X12_leastM_4
    rw [W0.1]
    exact fun _ _ _ _ => ⟨H0.1.k, fun _ => hh μ R H0 y0 hb'.1 hb'.2 mx fr fb, fun z => absurd z tn⟩
  | succ d ih =>
    intro t has μ R hd H0 W0 hb I fr fb
    have t0 : (0 : Int) ≤ t := by omega
    have t1 : (t : Int) < 48 := by omega
    have t2 : (t : Int) < n := by omega
    have tN : ¬ (n : Int) ≤ t := by omega
    have tm : t < 2147483647 := by omega
    have hd' : t + 1 + d = n := by omega
    obtain ⟨c1, c2, c3, c4⟩ := B t t0 t2
    have eu : R 54 = R0 54 := fr 54 nu (by decide) (by decide)
    have el : R 67 = R0 67 := fr 67 nl (by decide) (by decide)
    have eu1 : R 56 = R0 56 := fr 56 nu1 (by decide) (by decide)
    have el1 : R 69 = R0 69 := fr 69 nl1 (by decide) (by decide)
    have next : ∀ (has' : Int) (μ' : m_M) (R' : Int → Int), RG ε μ' M R' → RW μ' M n h v m c → (has' ≠ 0 → bd (R' 58) 194 ∧ bd (R' 71) 168) → MI (KP h v c (R0 54) (R0 67) (R0 56) (R0 69)) (fun t => R0 67 * R0 69 * m t) ((t : Int) + 1) has' (R' 58) (R' 71) → (∀ s, ¬ tme s → s ≠ 58 → s ≠ 71 → R' s = R0 s) → FB M μ0 μ' → G cd_X12_leastM Q X 192 [(0, (2, M)), (1, (0, 3)), (2, (0, has')), (3, (0, t))] [] ε μ' := by
      intro has' μ' R' a1 a2 a3 a4 a5 a6
      apply g_X12_leastM_192
      refine fun _ _ _ _ v3 e3 => ?_
      rw [w32_succ tm e3]
      exact ih (t + 1) has' μ' R' hd' a1 a2 a3 a4 a5 a6
    apply g_X12_leastM_4
    simp only [H0.1.k, H0.1.f30.1, H0.1.f30.2.1, H0.1.f30.2.2, H0.1.f31.1, H0.1.f31.2.1, H0.1.f31.2.2, H0.1.f32.1, H0.1.f32.2.1, H0.1.f32.2.2, H0.1.f33.1, H0.1.f33.2.1, H0.1.f33.2.2, H0.1.f39.1, H0.1.f39.2.1, H0.1.f39.2.2, H0.1.f40.1, H0.1.f40.2.1, H0.1.f40.2.2, H0.1.f41.1, H0.1.f41.2.1, H0.1.f41.2.2, H0.1.f50.1, H0.1.f50.2.1, H0.1.f50.2.2, H0.1.f51.1, H0.1.f51.2.1, H0.1.f51.2.2, H0.1.f52.1, H0.1.f52.2.1, H0.1.f52.2.2, H0.1.f58.1, H0.1.f58.2.1, H0.1.f58.2.2, H0.u0, H0.u1, H0.u2, H0.u3, H0.u4, H0.u5, H0.l0, H0.l1, H0.l2, H0.l3, H0.l4, H0.l5, H0.e0, H0.e1, H0.e2, H0.e3, H0.e4, H0.e5, H0.e6, H0.t0, H0.t1, H0.t2, H0.t3, H0.t4, H0.b48, H0.b50, H0.b52, H0.b54, H0.b56, H0.b58, H0.b61, H0.b63, H0.b65, H0.b67, H0.b69, H0.b71, H0.b74, H0.b76, H0.b78, H0.b80, H0.b82, H0.b84, H0.b86, H0.b92, H0.b94, H0.b96, H0.b98, H0.b100, eq_self, true_and, and_true, Int.reduceLT, Int.reduceLE, Int.reduceAdd, w32_1, w32_2, w32_4, w32_5, Int.le_refl, W0.1, W0.2.2.2.1, t0, t1]
    refine fun _ _ _ _ => ⟨fun z => absurd z tN, fun _ => ⟨fun mt => ?_, fun mt => ?_⟩⟩
    · refine rg_known_3 H0 W0 t0 t1 c1 c2 c4 (by rw [eu]; exact b0) (by rw [el]; exact b1) (by rw [eu1]; exact b2) (by rw [el1]; exact b3) (fun μ1 R1 H1 e80 e82 fr1 f1 => ?_)
      rw [eu, el, eu1, el1] at e80
      rw [el, el1] at e82
      have W1 := W0.fb f1
      have g3 : bd (KP h v c (R0 54) (R0 67) (R0 56) (R0 69) t) 194 := kp_bd c1 c2 c4 b0 b1 b2 b3
      have g4 : bd (R0 67 * R0 69 * m t) 168 := bd_mul (bd_mul b1 b3) c3
      have hP : R1 80 = KP h v c (R0 54) (R0 67) (R0 56) (R0 69) t := e80
      have D0 : 0 < R0 67 * R0 69 * m t := Int.mul_pos lpq mt
      generalize hK : KP h v c (R0 54) (R0 67) (R0 56) (R0 69) t = K at *
      apply g_X12_leastM_32
      simp only [H1.1.k, H1.1.f30.1, H1.1.f30.2.1, H1.1.f30.2.2, H1.1.f31.1, H1.1.f31.2.1, H1.1.f31.2.2, H1.1.f32.1, H1.1.f32.2.1, H1.1.f32.2.2, H1.1.f33.1, H1.1.f33.2.1, H1.1.f33.2.2, H1.1.f39.1, H1.1.f39.2.1, H1.1.f39.2.2, H1.1.f40.1, H1.1.f40.2.1, H1.1.f40.2.2, H1.1.f41.1, H1.1.f41.2.1, H1.1.f41.2.2, H1.1.f50.1, H1.1.f50.2.1, H1.1.f50.2.2, H1.1.f51.1, H1.1.f51.2.1, H1.1.f51.2.2, H1.1.f52.1, H1.1.f52.2.1, H1.1.f52.2.2, H1.1.f58.1, H1.1.f58.2.1, H1.1.f58.2.2, H1.u0, H1.u1, H1.u2, H1.u3, H1.u4, H1.u5, H1.l0, H1.l1, H1.l2, H1.l3, H1.l4, H1.l5, H1.e0, H1.e1, H1.e2, H1.e3, H1.e4, H1.e5, H1.e6, H1.t0, H1.t1, H1.t2, H1.t3, H1.t4, H1.b48, H1.b50, H1.b52, H1.b54, H1.b56, H1.b58, H1.b61, H1.b63, H1.b65, H1.b67, H1.b69, H1.b71, H1.b74, H1.b76, H1.b78, H1.b80, H1.b82, H1.b84, H1.b86, H1.b92, H1.b94, H1.b96, H1.b98, H1.b100, eq_self, true_and, and_true, Int.reduceLT, Int.reduceLE, Int.reduceAdd, w32_1, w32_2, w32_4, w32_5, Int.le_refl, t0, t1]
      intro _ _ _ _ t' et
      obtain ⟨h01, hfl⟩ := flip_sg H1 (by decide : (80 : Int) ∈ lm_b) et
      refine ⟨h01, fun μ2 m2 => ?_⟩
      obtain ⟨H2, f2⟩ := H1.sign (by decide : (80 : Int) ∈ lm_b) h01
      rw [hfl, hP, ← m2] at H2
      rw [← m2] at f2
      have W2 := W1.fb f2
      simp only [H2.1.k, H2.1.f30.1, H2.1.f30.2.1, H2.1.f30.2.2, H2.1.f31.1, H2.1.f31.2.1, H2.1.f31.2.2, H2.1.f32.1, H2.1.f32.2.1, H2.1.f32.2.2, H2.1.f33.1, H2.1.f33.2.1, H2.1.f33.2.2, H2.1.f39.1, H2.1.f39.2.1, H2.1.f39.2.2, H2.1.f40.1, H2.1.f40.2.1, H2.1.f40.2.2, H2.1.f41.1, H2.1.f41.2.1, H2.1.f41.2.2, H2.1.f50.1, H2.1.f50.2.1, H2.1.f50.2.2, H2.1.f51.1, H2.1.f51.2.1, H2.1.f51.2.2, H2.1.f52.1, H2.1.f52.2.1, H2.1.f52.2.2, H2.1.f58.1, H2.1.f58.2.1, H2.1.f58.2.2, H2.u0, H2.u1, H2.u2, H2.u3, H2.u4, H2.u5, H2.l0, H2.l1, H2.l2, H2.l3, H2.l4, H2.l5, H2.e0, H2.e1, H2.e2, H2.e3, H2.e4, H2.e5, H2.e6, H2.t0, H2.t1, H2.t2, H2.t3, H2.t4, H2.b48, H2.b50, H2.b52, H2.b54, H2.b56, H2.b58, H2.b61, H2.b63, H2.b65, H2.b67, H2.b69, H2.b71, H2.b74, H2.b76, H2.b78, H2.b80, H2.b82, H2.b84, H2.b86, H2.b92, H2.b94, H2.b96, H2.b98, H2.b100, eq_self, true_and, and_true, Int.reduceLT, Int.reduceLE, Int.reduceAdd, w32_1, w32_2, w32_4, w32_5, Int.le_refl, W2.2.2.2.1, t0, t1]
      refine rg_set H2 (by decide) (bd_i64 c3 (by decide)) (fun μ3 H3 f3 => ?_)
      have W3 := W2.fb f3
      apply g_X12_leastM_73
      simp only [H3.1.k, H3.1.f30.1, H3.1.f30.2.1, H3.1.f30.2.2, H3.1.f31.1, H3.1.f31.2.1, H3.1.f31.2.2, H3.1.f32.1, H3.1.f32.2.1, H3.1.f32.2.2, H3.1.f33.1, H3.1.f33.2.1, H3.1.f33.2.2, H3.1.f39.1, H3.1.f39.2.1, H3.1.f39.2.2, H3.1.f40.1, H3.1.f40.2.1, H3.1.f40.2.2, H3.1.f41.1, H3.1.f41.2.1, H3.1.f41.2.2, H3.1.f50.1, H3.1.f50.2.1, H3.1.f50.2.2, H3.1.f51.1, H3.1.f51.2.1, H3.1.f51.2.2, H3.1.f52.1, H3.1.f52.2.1, H3.1.f52.2.2, H3.1.f58.1, H3.1.f58.2.1, H3.1.f58.2.2, H3.u0, H3.u1, H3.u2, H3.u3, H3.u4, H3.u5, H3.l0, H3.l1, H3.l2, H3.l3, H3.l4, H3.l5, H3.e0, H3.e1, H3.e2, H3.e3, H3.e4, H3.e5, H3.e6, H3.t0, H3.t1, H3.t2, H3.t3, H3.t4, H3.b48, H3.b50, H3.b52, H3.b54, H3.b56, H3.b58, H3.b61, H3.b63, H3.b65, H3.b67, H3.b69, H3.b71, H3.b74, H3.b76, H3.b78, H3.b80, H3.b82, H3.b84, H3.b86, H3.b92, H3.b94, H3.b96, H3.b98, H3.b100, eq_self, true_and, and_true, Int.reduceLT, Int.reduceLE, Int.reduceAdd, w32_1, w32_2, w32_4, w32_5, Int.le_refl]
      intros
      refine rg_prod H3 (by decide) (by decide) (by decide) (by decide) (by decide) (by simp only [up, reduceIte, Int.reduceEq, e82]; exact pb_mul (bd_mul b1 b3) c3 (by decide)) (fun μ4 H4 f4 => ?_)
      simp only [up, reduceIte, Int.reduceEq, e82] at H4
      have W4 := W3.fb f4
      have F4 : FB M μ0 μ4 := (((fb.trans f1).trans f2).trans f3).trans f4
      obtain ⟨R4, hR4⟩ : ∃ R4, R4 = up (up (up R1 80 (-K)) 74 (m t)) 76 (R0 67 * R0 69 * m t) := ⟨_, rfl⟩
      rw [← hR4] at H4
      have r80 : R4 80 = -K := by rw [hR4]; simp only [up, reduceIte, Int.reduceEq]
      have r76 : R4 76 = R0 67 * R0 69 * m t := by rw [hR4]; simp only [up, reduceIte, Int.reduceEq]
      have ru : R4 58 = R 58 := by rw [hR4]; simp only [up, reduceIte, Int.reduceEq]; exact fr1 _ (by decide) (by decide) (by decide) (by decide) (by decide)
      have rl : R4 71 = R 71 := by rw [hR4]; simp only [up, reduceIte, Int.reduceEq]; exact fr1 _ (by decide) (by decide) (by decide) (by decide) (by decide)
      have fr4 : ∀ s, ¬ tme s → s ≠ 58 → s ≠ 71 → R4 s = R0 s := by
        intro s s1 s2 s3
        have q := tme.no s1
        rw [hR4, up_ne q.2.2.1, up_ne q.2.1, up_ne q.2.2.2.2.1, fr1 s q.2.1 q.2.2.1 q.2.2.2.1 q.2.2.2.2.1 q.2.2.2.2.2.1]
        exact fr s s1 s2 s3
      clear hR4 H3 H2
      have take : ∀ μ' R', RG ε μ' M R' → RW μ' M n h v m c → R' 80 = -K → R' 76 = R0 67 * R0 69 * m t → (has = 0 ∨ R 58 * (R0 67 * R0 69 * m t) < -K * R 71) → (∀ s, ¬ tme s → s ≠ 58 → s ≠ 71 → R' s = R0 s) → FB M μ0 μ' → G cd_X12_leastM Q X 136 [(0, (2, M)), (1, (0, 3)), (3, (0, t))] [] ε μ' := by
        intro μ' R' H1 W1 e1 e2 gt fr' fb'
        apply g_X12_leastM_136
        simp only [H1.1.k, H1.1.f30.1, H1.1.f30.2.1, H1.1.f30.2.2, H1.1.f31.1, H1.1.f31.2.1, H1.1.f31.2.2, H1.1.f32.1, H1.1.f32.2.1, H1.1.f32.2.2, H1.1.f33.1, H1.1.f33.2.1, H1.1.f33.2.2, H1.1.f39.1, H1.1.f39.2.1, H1.1.f39.2.2, H1.1.f40.1, H1.1.f40.2.1, H1.1.f40.2.2, H1.1.f41.1, H1.1.f41.2.1, H1.1.f41.2.2, H1.1.f50.1, H1.1.f50.2.1, H1.1.f50.2.2, H1.1.f51.1, H1.1.f51.2.1, H1.1.f51.2.2, H1.1.f52.1, H1.1.f52.2.1, H1.1.f52.2.2, H1.1.f58.1, H1.1.f58.2.1, H1.1.f58.2.2, H1.u0, H1.u1, H1.u2, H1.u3, H1.u4, H1.u5, H1.l0, H1.l1, H1.l2, H1.l3, H1.l4, H1.l5, H1.e0, H1.e1, H1.e2, H1.e3, H1.e4, H1.e5, H1.e6, H1.t0, H1.t1, H1.t2, H1.t3, H1.t4, H1.b48, H1.b50, H1.b52, H1.b54, H1.b56, H1.b58, H1.b61, H1.b63, H1.b65, H1.b67, H1.b69, H1.b71, H1.b74, H1.b76, H1.b78, H1.b80, H1.b82, H1.b84, H1.b86, H1.b92, H1.b94, H1.b96, H1.b98, H1.b100, eq_self, true_and, and_true, Int.reduceLT, Int.reduceLE, Int.reduceAdd, w32_1, w32_2, w32_4, w32_5, Int.le_refl]
        intros
        refine rg_take H1 (by decide) (by decide) (fun μ2 H2 h2 => ?_)
        rw [e1] at H2
        apply g_X12_leastM_153
        simp only [H2.1.k, H2.1.f30.1, H2.1.f30.2.1, H2.1.f30.2.2, H2.1.f31.1, H2.1.f31.2.1, H2.1.f31.2.2, H2.1.f32.1, H2.1.f32.2.1, H2.1.f32.2.2, H2.1.f33.1, H2.1.f33.2.1, H2.1.f33.2.2, H2.1.f39.1, H2.1.f39.2.1, H2.1.f39.2.2, H2.1.f40.1, H2.1.f40.2.1, H2.1.f40.2.2, H2.1.f41.1, H2.1.f41.2.1, H2.1.f41.2.2, H2.1.f50.1, H2.1.f50.2.1, H2.1.f50.2.2, H2.1.f51.1, H2.1.f51.2.1, H2.1.f51.2.2, H2.1.f52.1, H2.1.f52.2.1, H2.1.f52.2.2, H2.1.f58.1, H2.1.f58.2.1, H2.1.f58.2.2, H2.u0, H2.u1, H2.u2, H2.u3, H2.u4, H2.u5, H2.l0, H2.l1, H2.l2, H2.l3, H2.l4, H2.l5, H2.e0, H2.e1, H2.e2, H2.e3, H2.e4, H2.e5, H2.e6, H2.t0, H2.t1, H2.t2, H2.t3, H2.t4, H2.b48, H2.b50, H2.b52, H2.b54, H2.b56, H2.b58, H2.b61, H2.b63, H2.b65, H2.b67, H2.b69, H2.b71, H2.b74, H2.b76, H2.b78, H2.b80, H2.b82, H2.b84, H2.b86, H2.b92, H2.b94, H2.b96, H2.b98, H2.b100, eq_self, true_and, and_true, Int.reduceLT, Int.reduceLE, Int.reduceAdd, w32_1, w32_2, w32_4, w32_5, Int.le_refl]
        intros
        refine rg_take H2 (by decide) (by decide) (fun μ3 H3 h3 => ?_)
        simp only [up, reduceIte, Int.reduceEq, e2] at H3
        have x1 : up (up R' 58 (-K)) 71 (R0 67 * R0 69 * m t) 58 = -K := by simp only [up, reduceIte, Int.reduceEq]
        have x2 : up (up R' 58 (-K)) 71 (R0 67 * R0 69 * m t) 71 = R0 67 * R0 69 * m t := by simp only [up, reduceIte, Int.reduceEq]
        apply g_X12_leastM_170
        simp only [H3.1.k, H3.1.f30.1, H3.1.f30.2.1, H3.1.f30.2.2, H3.1.f31.1, H3.1.f31.2.1, H3.1.f31.2.2, H3.1.f32.1, H3.1.f32.2.1, H3.1.f32.2.2, H3.1.f33.1, H3.1.f33.2.1, H3.1.f33.2.2, H3.1.f39.1, H3.1.f39.2.1, H3.1.f39.2.2, H3.1.f40.1, H3.1.f40.2.1, H3.1.f40.2.2, H3.1.f41.1, H3.1.f41.2.1, H3.1.f41.2.2, H3.1.f50.1, H3.1.f50.2.1, H3.1.f50.2.2, H3.1.f51.1, H3.1.f51.2.1, H3.1.f51.2.2, H3.1.f52.1, H3.1.f52.2.1, H3.1.f52.2.2, H3.1.f58.1, H3.1.f58.2.1, H3.1.f58.2.2, H3.u0, H3.u1, H3.u2, H3.u3, H3.u4, H3.u5, H3.l0, H3.l1, H3.l2, H3.l3, H3.l4, H3.l5, H3.e0, H3.e1, H3.e2, H3.e3, H3.e4, H3.e5, H3.e6, H3.t0, H3.t1, H3.t2, H3.t3, H3.t4, H3.b48, H3.b50, H3.b52, H3.b54, H3.b56, H3.b58, H3.b61, H3.b63, H3.b65, H3.b67, H3.b69, H3.b71, H3.b74, H3.b76, H3.b78, H3.b80, H3.b82, H3.b84, H3.b86, H3.b92, H3.b94, H3.b96, H3.b98, H3.b100, eq_self, true_and, and_true, Int.reduceLT, Int.reduceLE, Int.reduceAdd, w32_1, w32_2, w32_4, w32_5, Int.le_refl]
        intros
        refine rg_lowest (by decide) (by decide) (by unfold tmp; decide) (by unfold tmp; decide) (by decide) H3 (by rw [x2]; omega) (by rw [x1]; exact pb_two (bd_neg g3) (by decide)) (by rw [x2]; exact pb_two g4 (by decide)) (fun μ4 R4 H4 lo fr4 h4 => ?_)
        rw [x1, x2] at lo
        apply g_X12_leastM_190
        refine fun _ _ _ v2 e => ?_
        rw [e]
        refine next 1 μ4 R4 H4 (((W1.fb h2).fb h3).fb h4) (fun _ => ⟨bd_le (bd_neg g3) lo.2.2.2.1, bd_le g4 lo.2.2.2.2⟩) (mi_new t0 I D0 lo.1 (by rw [lo.2.2.1, hK]) (by rw [hK]; exact gt)) (fun s s1 s2 s3 => ?_) (((fb'.trans h2).trans h3).trans h4)
        rw [fr4 s (tme.no s1).1 s2 s3, up_ne s3, up_ne s2]
        exact fr' s s1 s2 s3
      apply g_X12_leastM_94
      simp only [H4.1.k, H4.1.f30.1, H4.1.f30.2.1, H4.1.f30.2.2, H4.1.f31.1, H4.1.f31.2.1, H4.1.f31.2.2, H4.1.f32.1, H4.1.f32.2.1, H4.1.f32.2.2, H4.1.f33.1, H4.1.f33.2.1, H4.1.f33.2.2, H4.1.f39.1, H4.1.f39.2.1, H4.1.f39.2.2, H4.1.f40.1, H4.1.f40.2.1, H4.1.f40.2.2, H4.1.f41.1, H4.1.f41.2.1, H4.1.f41.2.2, H4.1.f50.1, H4.1.f50.2.1, H4.1.f50.2.2, H4.1.f51.1, H4.1.f51.2.1, H4.1.f51.2.2, H4.1.f52.1, H4.1.f52.2.1, H4.1.f52.2.2, H4.1.f58.1, H4.1.f58.2.1, H4.1.f58.2.2, H4.u0, H4.u1, H4.u2, H4.u3, H4.u4, H4.u5, H4.l0, H4.l1, H4.l2, H4.l3, H4.l4, H4.l5, H4.e0, H4.e1, H4.e2, H4.e3, H4.e4, H4.e5, H4.e6, H4.t0, H4.t1, H4.t2, H4.t3, H4.t4, H4.b48, H4.b50, H4.b52, H4.b54, H4.b56, H4.b58, H4.b61, H4.b63, H4.b65, H4.b67, H4.b69, H4.b71, H4.b74, H4.b76, H4.b78, H4.b80, H4.b82, H4.b84, H4.b86, H4.b92, H4.b94, H4.b96, H4.b98, H4.b100, eq_self, true_and, and_true, Int.reduceLT, Int.reduceLE, Int.reduceAdd, w32_1, w32_2, w32_4, w32_5, Int.le_refl]
      refine fun _ _ _ _ => ⟨fun z => take μ4 R4 H4 W4 r80 r76 (Or.inl z) fr4 F4, fun z => ?_⟩
      have hb' := hb z
      refine rg_above H4 (by decide) (by decide) (by decide) (by decide) (by decide) (by decide) (by decide) (by decide) (by decide) (by decide) (a := 194) (b := 168) (by rw [r80]; exact bd_neg g3) (by rw [rl]; exact hb'.2) (by rw [ru]; exact hb'.1) (by rw [r76]; exact g4) (by decide) (fun μ8 R8 H8 fr8 f8 => ?_)
      rw [ru, rl, r80, r76]
      have s80 : R8 80 = -K := by rw [fr8 80 (by decide) (by decide)]; exact r80
      have s76 : R8 76 = R0 67 * R0 69 * m t := by rw [fr8 76 (by decide) (by decide)]; exact r76
      have su : R8 58 = R 58 := by rw [fr8 58 (by decide) (by decide)]; exact ru
      have sl : R8 71 = R 71 := by rw [fr8 71 (by decide) (by decide)]; exact rl
      have fr8' : ∀ s, ¬ tme s → s ≠ 58 → s ≠ 71 → R8 s = R0 s := by
        intro s s1 s2 s3
        have q := tme.no s1
        rw [fr8 s q.2.2.2.2.2.2.1 q.2.2.2.2.2.2.2]
        exact fr4 s s1 s2 s3
      apply g_X12_leastM_130
      refine fun _ _ _ _ _ => ⟨fun q => take μ8 R8 H8 (W4.fb f8) s80 s76 (Or.inr ?_) fr8' (F4.trans f8), fun q => next has μ8 R8 H8 (W4.fb f8) (fun _ => by rw [su, sl]; exact hb') ?_ fr8' (F4.trans f8)⟩
      · by_cases c : R 58 * (R0 67 * R0 69 * m t) < -K * R 71
        · exact c
        · rw [if_neg c] at q; exact absurd rfl q
      · rw [su, sl]
        refine mi_old I z (fun c => ?_)
        rw [hK] at c
        rw [if_pos c] at q
        exact absurd q (by decide)
    · refine next has μ R H0 W0 hb (mi_skip I ?_) fr fb
      have := Int.mul_nonneg (Int.le_of_lt lpq) (show 0 ≤ -(m t) by omega)
      rw [Int.mul_neg] at this
      show R0 67 * R0 69 * m t ≤ 0
      omega
theorem rg_leastM_3 {Q X : m_Po} {ε : m_E} {M : Int} {μ0 : m_M} {R0 h v m c : Int → Int} {n : Nat} (H : RG ε μ0 M R0) (W : RW μ0 M n h v m c) (hn : n ≤ 48) (B : RB h v m c n) (b0 : bd (R0 54) 64) (b1 : bd (R0 67) 64) (b2 : bd (R0 56) 108) (b3 : bd (R0 69) 84) (lp : 0 < R0 67) (lq : 0 < R0 69) (hex : ∃ t, 0 ≤ t ∧ t < (n : Int) ∧ 0 < m t)
    (hh : ∀ μ' R', RG ε μ' M R' → 0 < R' 71 → bd (R' 58) 194 → bd (R' 71) 168 → MX (KP h v c (R0 54) (R0 67) (R0 56) (R0 69)) (fun t => R0 67 * R0 69 * m t) n (R' 58) (R' 71) → (∀ s, ¬ tme s → s ≠ 58 → s ≠ 71 → R' s = R0 s) → FB M μ0 μ' → Q 0 ε μ') : o_X12_leastM [(2, M), (0, 3)] ε μ0 Q X := by
  apply e_X12_leastM
  intro _ _ v2 e2 v3 e3
  rw [e2, e3]
  exact lm_loop_3 hn B b0 b1 b2 b3 lp lq hex hh n 0 0 μ0 R0 (by omega) H W (fun z => absurd rfl z) (Or.inl ⟨rfl, fun s s0 s1 => by omega⟩) (fun _ _ _ _ => rfl) FB.rf
