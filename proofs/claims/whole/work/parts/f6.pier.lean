set_option maxHeartbeats 4000000
/-! ===== pair of calls: pier ===== -/
def far1 (v : Int) : Prop := v < -100 ∨ 100 < v
theorem sp_X12_isFar {Q Y : m_Po} {ε : m_E} {μ : m_M} {v : Int} (h1 : far1 v → Q 1 ε μ) (h0 : ¬ far1 v → Q 0 ε μ) : o_X12_isFar [(0, v)] ε μ Q Y := by
  apply e_X12_isFar
  intro _ _ t ht
  unfold far1 at *
  by_cases a : v < -100
  · rw [if_pos a] at ht; rw [ht]; exact h1 (Or.inl a)
  · rw [if_neg a] at ht
    by_cases b : v ≤ 100
    · rw [if_pos b] at ht; rw [ht]; exact h0 (by omega)
    · rw [if_neg b] at ht; rw [ht]; exact h1 (by omega)
theorem sp_X10_isFar1 {Q Y : m_Po} {ε : m_E} {μ : m_M} {v : Int} (h1 : far1 v → Q 1 ε μ) (h0 : ¬ far1 v → Q 0 ε μ) : o_X10_isFar [(0, v), (0, 100)] ε μ Q Y := by
  apply e_X10_isFar
  intro _ _ _ t ht
  rw [show w32 (-100) = -100 by decide] at ht
  unfold far1 at *
  by_cases a : v < -100
  · rw [if_pos a] at ht; rw [ht]; exact h1 (Or.inl a)
  · rw [if_neg a] at ht
    by_cases b : v ≤ 100
    · rw [if_pos b] at ht; rw [ht]; exact h0 (by omega)
    · rw [if_neg b] at ht; rw [ht]; exact h1 (by omega)
def pbad (s x1 y1 x2 y2 : Int) : Prop := (s < 0 ∨ 1 < s) ∨ far1 x1 ∨ far1 y1 ∨ far1 x2 ∨ far1 y2 ∨ (x1 = x2 ∧ y1 = y2)
theorem pier_68 {Q Y : m_Po} {ε : m_E} {μ : m_M} {M a s x1 y1 x2 y2 : Int} (K2 : pbad s x1 y1 x2 y2 → G cd_X12_pier Q Y 68 [(0, (2, M)), (1, (0, a)), (2, (0, s)), (3, (0, x1)), (4, (0, y1)), (5, (0, x2)), (6, (0, y2))] [(0, 2), (2, M)] ε μ) (K0 : ¬ pbad s x1 y1 x2 y2 → G cd_X12_pier Q Y 68 [(0, (2, M)), (1, (0, a)), (2, (0, s)), (3, (0, x1)), (4, (0, y1)), (5, (0, x2)), (6, (0, y2))] [(0, 0), (2, M)] ε μ) : G cd_X12_pier Q Y 5 [(0, (2, M)), (1, (0, a)), (2, (0, s)), (3, (0, x1)), (4, (0, y1)), (5, (0, x2)), (6, (0, y2))] [(0, 1)] ε μ := by
  have B : pbad s x1 y1 x2 y2 → G cd_X12_pier Q Y 63 [(0, (2, M)), (1, (0, a)), (2, (0, s)), (3, (0, x1)), (4, (0, y1)), (5, (0, x2)), (6, (0, y2))] [(2, M)] ε μ := fun h => by
    apply g_X12_pier_63
    exact fun _ _ _ _ _ _ _ => K2 h
  have N : ¬ pbad s x1 y1 x2 y2 → G cd_X12_pier Q Y 67 [(0, (2, M)), (1, (0, a)), (2, (0, s)), (3, (0, x1)), (4, (0, y1)), (5, (0, x2)), (6, (0, y2))] [(2, M)] ε μ := fun h => by
    apply g_X12_pier_67
    exact fun _ _ _ _ _ _ _ => K0 h
  apply g_X12_pier_5
  refine fun _ _ _ _ _ _ _ _ => ⟨fun _ => ⟨fun q => B (Or.inl (Or.inl q)), fun q => ⟨fun r => B (Or.inl (Or.inr r)), fun r => sp_X12_isFar (fun f1 => ?_) (fun f1 => ?_)⟩⟩, fun z => absurd z (by decide)⟩
  · apply g_X12_pier_23
    exact fun _ _ _ _ _ _ _ _ => ⟨fun _ => B (Or.inr (Or.inl f1)), fun z => absurd z (by decide)⟩
  apply g_X12_pier_23
  refine fun _ _ _ _ _ _ _ _ => ⟨fun z => absurd rfl z, fun _ => sp_X12_isFar (fun f2 => ?_) (fun f2 => ?_)⟩
  · apply g_X12_pier_31
    exact fun _ _ _ _ _ _ _ _ => ⟨fun _ => B (Or.inr (Or.inr (Or.inl f2))), fun z => absurd z (by decide)⟩
  apply g_X12_pier_31
  refine fun _ _ _ _ _ _ _ _ => ⟨fun z => absurd rfl z, fun _ => sp_X12_isFar (fun f3 => ?_) (fun f3 => ?_)⟩
  · apply g_X12_pier_39
    exact fun _ _ _ _ _ _ _ _ => ⟨fun _ => B (Or.inr (Or.inr (Or.inr (Or.inl f3)))), fun z => absurd z (by decide)⟩
  apply g_X12_pier_39
  refine fun _ _ _ _ _ _ _ _ => ⟨fun z => absurd rfl z, fun _ => sp_X12_isFar (fun f4 => ?_) (fun f4 => ?_)⟩
  · apply g_X12_pier_47
    exact fun _ _ _ _ _ _ _ _ => ⟨fun _ => B (Or.inr (Or.inr (Or.inr (Or.inr (Or.inl f4))))), fun z => absurd z (by decide)⟩
  have nb' : ¬ (x1 = x2 ∧ y1 = y2) → ¬ pbad s x1 y1 x2 y2 := fun h z => by
    rcases z with z | z | z | z | z | z
    · omega
    · exact f1 z
    · exact f2 z
    · exact f3 z
    · exact f4 z
    · exact h z
  apply g_X12_pier_47
  exact fun _ _ _ _ _ _ _ _ => ⟨fun z => absurd rfl z, fun _ => ⟨fun u => N (nb' (fun y => u y.1)), fun u => ⟨fun v => N (nb' (fun y => v y.2)), fun v => B (Or.inr (Or.inr (Or.inr (Or.inr (Or.inr ⟨u, v⟩)))))⟩⟩⟩
theorem sp_X12_pier_ok {Q Y : m_Po} {ε : m_E} {μ : m_M} {M a s x1 y1 x2 y2 : Int} (L : LM ε M) (a0 : 0 ≤ a) (a1 : a < 12) (ha : a < μ M 27) (s0 : 0 ≤ s) (s1 : s ≤ 1) (good : ¬ pbad s x1 y1 x2 y2) (hh : ∀ μ' : m_M, (∀ b j, ¬ (b = M ∧ (j = 0 ∨ j = 66)) → ¬ (b = M + 17 ∧ j = 2 * a + s) → ¬ (b = M + 18 ∧ 8 * a + 4 * s ≤ j ∧ j < 8 * a + 4 * s + 4) → μ' b j = μ b j) → μ' M 0 = 0 → μ' M 66 = -1 → μ' (M + 17) (2 * a + s) = 1 → at4 (μ' (M + 18)) (8 * a + 4 * s) (x1, y1, x2, y2) → Q 0 ε μ') : o_X12_pier [(2, M), (0, a), (0, s), (0, x1), (0, y1), (0, x2), (0, y2)] ε μ Q Y := by
  apply e_X12_pier
  refine fun _ _ _ _ _ _ _ => ⟨L.k, sp_X12_isArch L (fun _ _ => pier_68 (fun z => absurd z good) (fun _ => ?_)) (fun y => by omega)⟩
  clear good
  apply g_X12_pier_68
  refine fun _ _ _ _ _ _ _ _ => ⟨L.k, fun μ6 m6 => ⟨L.k, ?_⟩⟩
  rw [st_st] at m6
  have e4 : 4 * (2 * a + s) = 8 * a + 4 * s := by omega
  rw [m6, sx_same, ← m6, L.f19.1, L.f20.1, w32_id (show i32 (2 * a) by unfold i32; omega), w32_id (show i32 (2 * a + s) by unfold i32; omega)]
  refine ⟨fun _ v7 h7 => ?_, fun y => absurd y (by decide)⟩
  subst h7
  rw [e4, w32_id (show i32 (8 * a + 4 * s) by unfold i32; omega), w32_id (show i32 (8 * a + 4 * s + 1) by unfold i32; omega), w32_id (show i32 (8 * a + 4 * s + 2) by unfold i32; omega), w32_id (show i32 (8 * a + 4 * s + 3) by unfold i32; omega)]
  refine ⟨L.f19.2.1, by omega, by rw [L.f19.2.2]; omega, fun μ7 m7 => ⟨L.f20.2.1, by omega, by rw [L.f20.2.2]; omega, fun μ8 m8 => ⟨by omega, by rw [L.f20.2.2]; omega, fun μ9 m9 => ⟨L.f20.2.1, by omega, by rw [L.f20.2.2]; omega, fun μ10 m10 => ⟨L.k, L.f20.2.1, by omega, by rw [L.f20.2.2]; omega, fun μ11 m11 μ12 m12 => ?_⟩⟩⟩⟩⟩
  obtain ⟨p4, pf⟩ := st4_at m8 m9 m10 m11
  clear m8 m9 m10 m11
  refine hh μ12 (fun b j h h' h'' => ?_) ?_ ?_ ?_ (at4_congr p4 (fun j _ _ => by rw [m12, sx_oa (by omega)]))
  · rw [m12, st, if_neg (fun z => h ⟨z.1, Or.inr z.2⟩), pf b j h'', m7, st, if_neg h', m6, st, if_neg (fun z => h ⟨z.1, Or.inl z.2⟩)]
  · rw [m12, sx_oi (by decide), pf _ _ (by omega), m7, sx_oa (by omega), m6, sx_same]
  · rw [m12, sx_same]
  · rw [m12, sx_oa (by omega), pf _ _ (by omega), m7, sx_same]
theorem sp_X0_raisePier {Q Y : m_Po} {ε : m_E} {μ : m_M} {A n s x1 y1 x2 y2 : Int} (L : LA ε A n) (s0 : 0 ≤ s) (s1 : s ≤ 1) (hh : ∀ μ' : m_M, (∀ b j, b ≠ A + 1 + s → ¬ (b = A ∧ (j = 11 + s ∨ j = 16 ∨ j = 17)) → μ' b j = μ b j) → at4 (μ' (A + 1 + s)) 0 (x1, y1, x2, y2) → μ' A (11 + s) = 1 → μ' A 16 = 0 → μ' A 17 = 0 → Q 0 ε μ') : o_X0_raisePier [(2, A), (0, s), (0, x1), (0, y1), (0, x2), (0, y2)] ε μ Q Y := by
  apply e_X0_raisePier
  rw [L.f3.1, L.f4.1]
  refine fun _ _ _ _ _ _ => ⟨⟨fun _ => L.k, fun _ => L.k⟩, fun t ht v6 h6 => ?_⟩
  have e6 : v6 = A + 1 + s := by
    rw [h6, ht]
    by_cases h : s = 0
    · rw [if_pos h]; omega
    · rw [if_neg h]; omega
  have k6 : kd ε v6 = 100 ∧ ln ε v6 = 4 := by
    rw [h6, ht]
    by_cases h : s = 0
    · rw [if_pos h]; exact ⟨L.f3.2.1, L.f3.2.2⟩
    · rw [if_neg h]; exact ⟨L.f4.2.1, L.f4.2.2⟩
  clear h6 ht
  rw [k6.2]
  refine ⟨k6.1, by decide, fun μ1 m1 => ⟨by decide, fun μ2 m2 => ⟨by decide, fun μ3 m3 => ⟨by decide, fun μ4 m4 => ?_⟩⟩⟩⟩
  obtain ⟨p4, pf⟩ := st4_at (i := 0) m1 m2 m3 m4
  clear m1 m2 m3 m4
  have aft : ∀ μ5, μ5 = st μ4 A (11 + s) 1 → G cd_X0_raisePier Q Y 56 [(0, (2, A))] [] ε μ5 := fun μ5 m5 => by
    apply g_X0_raisePier_56
    refine fun _ => ⟨L.k, ?_⟩
    apply e_X0_forgetFindings
    refine fun _ => ⟨L.k, fun μ6 m6 μ7 m7 => ?_⟩
    apply g_X0_raisePier_60
    refine fun _ => hh μ7 (fun b j h h' => ?_) ?_ ?_ ?_ ?_
    · rw [m7, st, if_neg (fun z => h' ⟨z.1, Or.inr (Or.inr z.2)⟩), m6, st, if_neg (fun z => h' ⟨z.1, Or.inr (Or.inl z.2)⟩), m5, st, if_neg (fun z => h' ⟨z.1, Or.inl z.2⟩), pf b j (fun z => h (z.1.trans e6))]
    · rw [← e6]
      exact at4_congr p4 (fun j _ _ => by rw [m7, sx_oa (by omega), m6, sx_oa (by omega), m5, sx_oa (by omega)])
    · rw [m7, sx_oi (by omega), m6, sx_oi (by omega), m5, sx_same]
    · rw [m7, sx_oi (by decide), m6, sx_same]
    · rw [m7, sx_same]
  refine ⟨fun q => ⟨L.k, fun μ5 m5 => aft μ5 ?_⟩, fun q => ⟨L.k, fun μ5 m5 => aft μ5 ?_⟩⟩
  · rw [m5, show (11 : Int) + s = 12 by omega]
  · rw [m5, show (11 : Int) + s = 11 by omega]
theorem at4_v {f g : Int → Int} {i i' : Int} {x : Sp} (h : at4 f i x) (k : at4 g i' x) : ∀ d, 0 ≤ d → d < 4 → f (i + d) = g (i' + d) := fun d d0 d1 => by
  obtain ⟨h0, h1, h2, h3⟩ := h
  obtain ⟨k0, k1, k2, k3⟩ := k
  have : d = 0 ∨ d = 1 ∨ d = 2 ∨ d = 3 := by omega
  rcases this with e | e | e | e <;> subst e
  · rw [Int.add_zero, Int.add_zero, h0, k0]
  · rw [h1, k1]
  · rw [h2, k2]
  · rw [h3, k3]
theorem at4_ab {g : Int → Int} {i : Int} {x : Sp} (k : at4 g i x) (b1 : ab x.1 100) (b2 : ab x.2.1 100) (b3 : ab x.2.2.1 100) (b4 : ab x.2.2.2 100) : ∀ d, 0 ≤ d → d < 4 → ab (g (i + d)) 100 := fun d d0 d1 => by
  obtain ⟨k0, k1, k2, k3⟩ := k
  have : d = 0 ∨ d = 1 ∨ d = 2 ∨ d = 3 := by omega
  rcases this with e | e | e | e <;> subst e
  · rw [Int.add_zero, k0]; exact b1
  · rw [k1]; exact b2
  · rw [k2]; exact b3
  · rw [k3]; exact b4
theorem PIa.new {μ μ' σ σ' : m_M} {a A s : Int} {x : Sp} (H : PIa μ σ a A) (s0 : 0 ≤ s) (s1 : s ≤ 1) (m1 : at4 (μ' (A + 1 + s)) 0 x) (m2 : ∀ j, μ' (A + 2 - s) j = μ (A + 2 - s) j) (m3 : μ' A (11 + s) = 1) (m4 : μ' A (12 - s) = μ A (12 - s)) (k1 : at4 (σ' 18) (8 * a + 4 * s) x) (k2 : ∀ d, 0 ≤ d → d < 4 → σ' 18 (8 * a + 4 * (1 - s) + d) = σ 18 (8 * a + 4 * (1 - s) + d)) (k3 : σ' 17 (2 * a + s) = 1) (k4 : σ' 17 (2 * a + 1 - s) = σ 17 (2 * a + 1 - s)) (b1 : ab x.1 100) (b2 : ab x.2.1 100) (b3 : ab x.2.2.1 100) (b4 : ab x.2.2.2 100) : PIa μ' σ' a A := by
  obtain ⟨i1, i2, i3, i4⟩ := H
  have v := at4_v m1 k1
  have w := at4_ab k1 b1 b2 b3 b4
  have hs : s = 0 ∨ s = 1 := by omega
  rcases hs with h | h
  · subst h
    simp only [Int.add_zero, Int.sub_zero, Int.mul_zero, Int.mul_one, Int.zero_add] at *
    refine ⟨fun i j0 j1 => ⟨v i j0 j1, ?_⟩, fun i j0 j1 => ?_, by rw [m3, k3], by rw [m4, k4]; exact i4⟩
    · rw [m2, k2 i j0 j1]; exact (i1 i j0 j1).2
    · by_cases z : i < 4
      · exact w i j0 z
      · have := k2 (i - 4) (by omega) (by omega)
        rw [show 8 * a + 4 + (i - 4) = 8 * a + i by omega] at this
        rw [this]; exact i2 i j0 j1
  · subst h
    rw [show A + 1 + 1 = A + 2 by omega] at *
    rw [show A + 2 - 1 = A + 1 by omega] at m2
    rw [show (11 : Int) + 1 = 12 by decide] at m3
    rw [show (12 : Int) - 1 = 11 by decide] at m4
    rw [show 2 * a + 1 - 1 = 2 * a by omega] at k4
    simp only [Int.mul_one, Int.sub_self, Int.mul_zero, Int.add_zero, Int.zero_add] at *
    refine ⟨fun i j0 j1 => ⟨?_, v i j0 j1⟩, fun i j0 j1 => ?_, by rw [m4, k4]; exact i3, by rw [m3, k3]⟩
    · rw [m2, k2 i j0 j1]; exact (i1 i j0 j1).1
    · by_cases z : i < 4
      · rw [k2 i j0 z]; exact i2 i j0 j1
      · have := w (i - 4) (by omega) (by omega)
        rw [show 8 * a + 4 + (i - 4) = 8 * a + i by omega] at this
        exact this
theorem pier_fin {ε : m_E} {μ μ1 μ2 μ3 : m_M} {X a A s : Int} {x : Sp} {ow R : Int → Int} (S : SL ε X) (G' : RG ε μ (X + 34) R) (J : JV μ (X + 20) (X + 34) R) (P : PG μ (X + 29) (X + 34)) (C : Core ε μ X ow (sgM μ (X + 34))) (K : CAa ε μ X ow (sgM μ (X + 34)) a A) (a27 : a < sgM μ (X + 34) 0 27) (hA : μ (X + 3) a = A) (s0 : 0 ≤ s) (s1 : s ≤ 1) (g1 : ∀ b j, b ≠ A + 1 + s → ¬ (b = A ∧ (j = 11 + s ∨ j = 16 ∨ j = 17)) → μ1 b j = μ b j) (a4 : at4 (μ1 (A + 1 + s)) 0 x) (v11 : μ1 A (11 + s) = 1) (v16 : μ1 A 16 = 0) (v17 : μ1 A 17 = 0) (f2 : ∀ b j, b ≠ X + 141 → μ2 b j = μ1 b j) (g3 : ∀ b j, ¬ (b = X + 34 ∧ (j = 0 ∨ j = 66)) → ¬ (b = X + 34 + 17 ∧ j = 2 * a + s) → ¬ (b = X + 34 + 18 ∧ 8 * a + 4 * s ≤ j ∧ j < 8 * a + 4 * s + 4) → μ3 b j = μ2 b j) (w66 : μ3 (X + 34) 66 = -1) (w17 : μ3 (X + 34 + 17) (2 * a + s) = 1) (w18 : at4 (μ3 (X + 34 + 18)) (8 * a + 4 * s) x) (b1 : ab x.1 100) (b2 : ab x.2.1 100) (b3 : ab x.2.2.1 100) (b4 : ab x.2.2.2 100) : Rel ε μ3 X := by
  obtain ⟨kL, xx, ko, kpl, kpi, klo, ksl, _, _⟩ := K.parts
  have n10 := K.n
  have o0 := ko 0 (by decide) (by decide)
  have os := ko (1 + s) (by omega) (by omega)
  rw [Int.add_zero] at o0
  rw [← Int.add_assoc] at os
  have m3 : ∀ b j, X + 141 < b → μ3 b j = μ1 b j := fun b j h => by rw [g3 b j (by omega) (by omega) (by omega), f2 b j (by omega)]
  have lo : ∀ b j, b ≤ X + 140 → ¬ (b = X + 34 ∧ (j = 0 ∨ j = 66)) → ¬ (b = X + 34 + 17 ∧ j = 2 * a + s) → ¬ (b = X + 34 + 18 ∧ 8 * a + 4 * s ≤ j ∧ j < 8 * a + 4 * s + 4) → μ3 b j = μ b j := fun b j h h1 h2 h3 => by rw [g3 b j h1 h2 h3, f2 b j (by omega), g1 b j (by omega) (by omega)]
  have hi : ∀ b j, X + 141 < b → b ≠ A + 1 + s → ¬ (b = A ∧ (j = 11 + s ∨ j = 16 ∨ j = 17)) → μ3 b j = μ b j := fun b j h h1 h2 => by rw [m3 b j h, g1 b j h1 h2]
  have sg : ∀ o j, 1 ≤ o → o ≤ 24 → o ≠ 17 → o ≠ 18 → sgM μ3 (X + 34) o j = sgM μ (X + 34) o j := fun o j o1 o2 o3 o4 => lo _ _ (by omega) (by omega) (by omega) (by omega)
  have s14 : sgM μ3 (X + 34) 0 14 = sgM μ (X + 34) 0 14 := lo _ _ (by omega) (by omega) (by omega) (by omega)
  clear f2 g1 g3
  refine Rel.mk' (ow := ow) S G' J P EX.rf (fun b j h => ?_) (C.arch (a := a) EX.rf (fun b j h1 h2 h3 => ?_) (fun _ _ => ?_) (C.2.2.2.2.no (lo _ _ (by omega) (by omega) (by omega) (by omega)) (fun i i0 => lo _ _ (by omega) (by omega) (by omega) (by omega)) (by show μ3 (X + 34 + 0) 66 = -1; rw [Int.add_zero]; exact w66)))
  · unfold kpt at h
    exact lo _ _ (by omega) (by omega) (by omega) (by omega)
  · rcases Int.lt_or_le (X + 141) b with y | y
    · exact hi b j y (fun z => h3 ⟨y, by rw [z]; exact os⟩) (fun z => h3 ⟨y, by rw [z.1]; exact o0⟩)
    · refine lo b j ?_ (fun z => ?_) (fun z => h2 (Or.inr (Or.inr (Or.inl ⟨z.1, by omega, by omega⟩)))) (fun z => h2 (Or.inr (Or.inr (Or.inr (Or.inl ⟨z.1, by omega, by omega⟩)))))
      · have : b ≠ X + 141 := fun z => h1 (Or.inr (Or.inl z))
        omega
      · rcases z.2 with e | e
        · exact h1 (Or.inr (Or.inr (Or.inr (Or.inr (Or.inr (Or.inr ⟨z.1, Or.inl e⟩))))))
        · exact h2 (Or.inr (Or.inr (Or.inr (Or.inr (Or.inr (Or.inr (Or.inr (Or.inl ⟨z.1, Or.inl e⟩))))))))
  · rw [hA]
    refine CAa.of (by rw [sg 15 a (by decide) (by decide) (by decide) (by decide)]; exact kL) xx ko (kpl.go n10.2 (sg _ _ (by decide) (by decide) (by decide) (by decide)) (fun p _ _ => sg _ _ (by decide) (by decide) (by decide) (by decide)) (by omega) (fun b j h => ?_)) (kpi.new s0 s1 (at4_congr a4 (fun j _ _ => m3 _ _ (by omega))) (fun j => hi _ _ (by omega) (by omega) (by omega)) (by rw [m3 _ _ (by omega)]; exact v11) (hi _ _ (by omega) (by omega) (by omega)) w18 (fun d d0 d1 => lo _ _ (by omega) (by omega) (by omega) (by omega)) w17 (lo _ _ (by omega) (by omega) (by omega) (by omega)) b1 b2 b3 b4) (klo.go (sg _ _ (by decide) (by decide) (by decide) (by decide)) (fun i _ _ => ⟨sg _ _ (by decide) (by decide) (by decide) (by decide), sg _ _ (by decide) (by decide) (by decide) (by decide), sg _ _ (by decide) (by decide) (by decide) (by decide)⟩) (fun b j h => hi _ _ (by omega) (by omega) (by omega))) (ksl.go ⟨sg _ _ (by decide) (by decide) (by decide) (by decide), sg _ _ (by decide) (by decide) (by decide) (by decide)⟩ (fun b j h => hi _ _ (by omega) (by omega) (by omega))) (Or.inl (by rw [m3 _ _ (by omega)]; exact v16)) (Or.inl (by rw [m3 _ _ (by omega)]; exact v17))
    rcases h with h | h | h
    · exact hi _ _ (by omega) (by omega) (by omega)
    · exact hi _ _ (by omega) (by omega) (by omega)
    · exact lo _ _ (by omega) (by omega) (by omega) (by omega)
theorem pr_pier {ε : m_E} {μ : m_M} {X a s x1 y1 x2 y2 : Int} {codes : Int → Int} (c1 : codes 1 = 1) (c2 : codes 2 = 2) (H : Rel ε μ X) : PAIR (fun ε μ Q Y => o_X10_pier [(2, X), (0, a), (0, s), (0, x1), (0, y1), (0, x2), (0, y2)] ε μ Q Y) (fun ε μ Q Y => o_X12_pier [(2, X + 34), (0, a), (0, s), (0, x1), (0, y1), (0, x2), (0, y2)] ε μ Q Y) codes ε μ X := by
  intro QC XC hq hx
  have H' := H
  obtain ⟨ow, R, S, G', J, P, C⟩ := H
  have e27 : sgM μ (X + 34) 0 27 = μ (X + 34) 27 := by unfold sgM; rw [Int.add_zero]
  have a12 := C.2.2.2.1.2.2.1
  apply e_X10_pier
  intro T _ _ _ _ _ _
  refine ⟨S.1.k, sp_X10_archAt S C.2.2.2.1 (fun y z hz => hx 1 _ _ (by rw [c1]; decide) ?_) (fun a0 a1 K => ?_)⟩
  · rw [c1]
    refine aft_thr H' (by decide) EX.nx (fun μ2 Q Y f2 G2 K => ?_)
    have f27 : μ2 (X + 34) 27 = μ (X + 34) 27 := f2 _ _ (by omega)
    apply e_X12_pier
    refine fun _ _ _ _ _ _ _ => ⟨G2.1.k, sp_X12_isArch G2.1 (fun a b => by omega) (fun _ => ?_)⟩
    apply g_X12_pier_5
    exact fun _ _ _ _ _ _ _ _ => ⟨fun z => absurd rfl z, fun _ => K⟩
  · have thr : pbad s x1 y1 x2 y2 → ∀ z : Int, nx ε ≤ z → XC 2 (enx ε z) μ := fun why z hz => by
      refine hx 2 _ _ (by rw [c2]; decide) ?_
      rw [c2]
      refine aft_thr H' (by decide) EX.nx (fun μ2 Q Y f2 G2 K' => ?_)
      have f27 : μ2 (X + 34) 27 = μ (X + 34) 27 := f2 _ _ (by omega)
      apply e_X12_pier
      refine fun _ _ _ _ _ _ _ => ⟨G2.1.k, sp_X12_isArch G2.1 (fun a b => pier_68 (fun _ => ?_) (fun n => absurd why n)) (fun y => by omega)⟩
      apply g_X12_pier_68
      refine fun _ _ _ _ _ _ _ _ => ⟨G2.1.k, fun μ3 m3 => ⟨G2.1.k, ?_⟩⟩
      rw [m3, sx_same, st_st]
      exact ⟨fun y => absurd y (by decide), fun _ => K'⟩
    have fin : ¬ pbad s x1 y1 x2 y2 → G cd_X10_pier QC XC 98 [(2, (0, s)), (3, (0, x1)), (4, (0, y1)), (5, (0, x2)), (6, (0, y2)), (7, (2, μ (X + 3) a))] [] ε μ := fun good => by
      have s0 : 0 ≤ s := by
        rcases Int.lt_or_le s 0 with y | y
        · exact absurd (Or.inl (Or.inl y)) good
        · exact y
      have s1 : s ≤ 1 := by
        rcases Int.lt_or_le 1 s with y | y
        · exact absurd (Or.inl (Or.inr y)) good
        · exact y
      have fb : ∀ v, ¬ far1 v → ab v 100 := fun v h => by unfold far1 at h; unfold ab; omega
      have b1 := fb x1 (fun z => good (Or.inr (Or.inl z)))
      have b2 := fb y1 (fun z => good (Or.inr (Or.inr (Or.inl z))))
      have b3 := fb x2 (fun z => good (Or.inr (Or.inr (Or.inr (Or.inl z)))))
      have b4 := fb y2 (fun z => good (Or.inr (Or.inr (Or.inr (Or.inr (Or.inl z))))))
      have x := K.2.1
      apply g_X10_pier_98
      refine fun _ _ _ _ _ _ => ⟨K.1.k, sp_X0_raisePier K.1 s0 s1 (fun μ1 g1 a4 v11 v16 v17 => ?_)⟩
      apply g_X10_pier_111
      refine fun _ => hq _ _ _ ⟨EX.rf, fun b j h => g1 _ _ (by omega) (by omega), fun μ2 f2 Q Y K2 => ?_⟩
      have f27 : μ2 (X + 34) 27 = μ (X + 34) 27 := by rw [f2 _ _ (by omega), g1 _ _ (by omega) (by omega)]
      refine sp_X12_pier_ok G'.1 a0 (by omega) (by omega) s0 s1 good (fun μ3 g3 z3 w66 w17 w18 => ?_)
      exact K2 _ _ (fun c j h => g3 _ _ (by omega) (by omega) (by omega)) (pier_fin S G' J P C K a1 rfl s0 s1 g1 a4 v11 v16 v17 f2 g3 w66 w17 w18 b1 b2 b3 b4) z3 (fun _ => rfl) (fun j => g3 _ _ (by omega) (by omega) (by omega))
    clear H' T
    apply g_X10_pier_5
    intro _ _ _ _ _ _ v7 h7
    subst h7
    have T26 : (s = 0 ∨ s = 1) → G cd_X10_pier QC XC 26 [(2, (0, s)), (3, (0, x1)), (4, (0, y1)), (5, (0, x2)), (6, (0, y2)), (7, (2, μ (X + 3) a))] [] ε μ := fun hs => by
      apply g_X10_pier_26
      refine fun _ _ _ _ _ _ => sp_X10_isFar1 (fun f1 => ?_) (fun f1 => ?_)
      · apply g_X10_pier_32
        exact fun _ _ _ _ _ _ _ => ⟨fun _ => thr (Or.inr (Or.inl f1)), fun z => absurd z (by decide)⟩
      apply g_X10_pier_32
      refine fun _ _ _ _ _ _ _ => ⟨fun z => absurd rfl z, fun _ => sp_X10_isFar1 (fun f2 => ?_) (fun f2 => ?_)⟩
      · apply g_X10_pier_42
        exact fun _ _ _ _ _ _ _ => ⟨fun _ => thr (Or.inr (Or.inr (Or.inl f2))), fun z => absurd z (by decide)⟩
      apply g_X10_pier_42
      refine fun _ _ _ _ _ _ _ => ⟨fun z => absurd rfl z, fun _ => sp_X10_isFar1 (fun f3 => ?_) (fun f3 => ?_)⟩
      · apply g_X10_pier_52
        exact fun _ _ _ _ _ _ _ => ⟨fun _ => thr (Or.inr (Or.inr (Or.inr (Or.inl f3)))), fun z => absurd z (by decide)⟩
      apply g_X10_pier_52
      refine fun _ _ _ _ _ _ _ => ⟨fun z => absurd rfl z, fun _ => sp_X10_isFar1 (fun f4 => ?_) (fun f4 => ?_)⟩
      · apply g_X10_pier_62
        exact fun _ _ _ _ _ _ _ => ⟨fun z => absurd z (by decide), fun _ => thr (Or.inr (Or.inr (Or.inr (Or.inr (Or.inl f4)))))⟩
      have T98 : ¬ (x1 = x2 ∧ y1 = y2) → ¬ pbad s x1 y1 x2 y2 := fun hne z => by
        rcases z with z | z | z | z | z | z
        · omega
        · exact f1 z
        · exact f2 z
        · exact f3 z
        · exact f4 z
        · exact hne z
      apply g_X10_pier_62
      exact fun _ _ _ _ _ _ _ => ⟨fun _ => ⟨fun u => fin (T98 (fun y => u y.1)), fun u => ⟨fun v => fin (T98 (fun y => v y.2)), fun v => thr (Or.inr (Or.inr (Or.inr (Or.inr (Or.inr ⟨u, v⟩)))))⟩⟩, fun z => absurd rfl z⟩
    exact ⟨fun h => T26 (Or.inl h), fun h => ⟨fun h' => T26 (Or.inr h'), fun h' => thr (Or.inl (by omega))⟩⟩
