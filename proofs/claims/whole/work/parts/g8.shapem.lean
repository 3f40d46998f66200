set_option maxHeartbeats 1000000
/-! ===== shapes: the reference's isShape ===== -/
theorem sp_X12_isBetween {Q Y : m_Po} {ε : m_E} {μ : m_M} {a b c d x y : Int} (h1 : bt x a c → bt y b d → Q 1 ε μ) (h0 : ¬ (bt x a c ∧ bt y b d) → Q 0 ε μ) : o_X12_isBetween [(0, a), (0, b), (0, c), (0, d), (0, x), (0, y)] ε μ Q Y := by
  have z64 : ¬ (bt x a c ∧ bt y b d) → G cd_X12_isBetween Q Y 64 [] [] ε μ := fun q => by
    apply g_X12_isBetween_64; exact fun _ => h0 q
  have mi : ∀ p q t : Int, t = (if q ≤ p then q else p) → t ≤ p ∧ t ≤ q ∧ (t = p ∨ t = q) := fun p q t h => by split at h <;> omega
  have ma : ∀ p q t : Int, t = (if p ≤ q then q else p) → p ≤ t ∧ q ≤ t ∧ (t = p ∨ t = q) := fun p q t h => by split at h <;> omega
  apply e_X12_isBetween
  intro _ _ _ _ _ _ _ t ht
  have m1 := mi a c t ht
  refine ⟨fun q => z64 (fun z => ?_), fun q1 t1 ht1 => ?_⟩
  · have := z.1; unfold bt at this; omega
  have m2 := ma a c t1 ht1
  refine ⟨fun q => z64 (fun z => ?_), fun q2 t2 ht2 => ?_⟩
  · have := z.1; unfold bt at this; omega
  have m3 := mi b d t2 ht2
  refine ⟨fun q => z64 (fun z => ?_), fun q3 t3 ht3 => ?_⟩
  · have := z.2; unfold bt at this; omega
  have m4 := ma b d t3 ht3
  refine ⟨fun q => z64 (fun z => ?_), fun q4 => h1 ?_ ?_⟩
  · have := z.2; unfold bt at this; omega
  · unfold bt; omega
  · unfold bt; omega
theorem sp_X12_signOf {Q Y : m_Po} {ε : m_E} {μ : m_M} {z : Int} (hh : Q (sg3 z) ε μ) : o_X12_signOf [(0, z)] ε μ Q Y := by
  apply e_X12_signOf
  intro _ _ t ht
  have : t = sg3 z := by
    rw [ht]; unfold sg3
    by_cases a : 0 ≤ z
    · rw [if_pos a, if_pos a]
      by_cases b : z = 0
      · rw [if_pos b, if_pos (by omega)]
      · rw [if_neg b, if_neg (by omega)]
    · rw [if_neg a, if_neg a]
  rw [this]; exact hh
/-- the reference's cells of stone s hold n points -/
def PM (ε : m_E) (μ : m_M) (M s n : Int) (u v : Int → Int) : Prop := LM ε M ∧ 0 ≤ s ∧ s < 120 ∧ 3 ≤ n ∧ n ≤ 12 ∧ μ (M + 5) s = n ∧ ∀ i, 0 ≤ i → (μ (M + 6) (12 * s + i % n) = u i ∧ μ (M + 7) (12 * s + i % n) = v i) ∧ ab (u i) 100 ∧ ab (v i) 100
theorem PM.bu {ε : m_E} {μ : m_M} {p s n : Int} {u v : Int → Int} (H : PM ε μ p s n u v) (i : Int) (i0 : 0 ≤ i) : ab (u i) 100 := (H.2.2.2.2.2.2 i i0).2.1
theorem PM.bv {ε : m_E} {μ : m_M} {p s n : Int} {u v : Int → Int} (H : PM ε μ p s n u v) (i : Int) (i0 : 0 ≤ i) : ab (v i) 100 := (H.2.2.2.2.2.2 i i0).2.2
/-- where point i lies -/
theorem PM.at {ε : m_E} {μ : m_M} {M s n i k : Int} {u v : Int → Int} (H : PM ε μ M s n u v) (i0 : 0 ≤ i) (i1 : i ≤ 100) (e : k = w32 (w32 (12 * s) + Int.tmod (w32 i) n)) : 0 ≤ k ∧ k < 1440 ∧ μ (M + 6) k = u i ∧ μ (M + 7) k = v i := by
  obtain ⟨L, s0, s1, n3, n12, hn, h⟩ := H
  have m0 := Int.emod_nonneg i (show n ≠ 0 by omega)
  have m1 := Int.emod_lt_of_pos i (show 0 < n by omega)
  rw [w32_id (show i32 (12 * s) by unfold i32; omega), w32_id (show i32 i by unfold i32; omega), Int.tmod_eq_emod_of_nonneg i0, w32_id (show i32 (12 * s + i % n) by unfold i32; omega)] at e
  rw [e]
  exact ⟨by omega, by omega, (h i i0).1.1, (h i i0).1.2⟩
theorem PM.a0 {ε : m_E} {μ : m_M} {M s n i k : Int} {u v : Int → Int} (H : PM ε μ M s n u v) (i0 : 0 ≤ i) (i1 : i < n) (e : k = w32 (w32 (12 * s) + i)) : 0 ≤ k ∧ k < 1440 ∧ μ (M + 6) k = u i ∧ μ (M + 7) k = v i := by
  have n12 := H.2.2.2.2.1
  refine H.at i0 (by omega) ?_
  rw [e, w32_id (show i32 i by unfold i32; omega), Int.tmod_eq_emod_of_nonneg i0, Int.emod_eq_of_lt i0 i1]
theorem sp_X12_isFolded {Q Y : m_Po} {ε : m_E} {μ : m_M} {M s n i : Int} {u v : Int → Int} (H : PM ε μ M s n u v) (i0 : 0 ≤ i) (i1 : i < n) (h1 : fob u v i → Q 1 ε μ) (h0 : ¬ fob u v i → Q 0 ε μ) : o_X12_isFolded [(2, M), (0, s), (0, i)] ε μ Q Y := by
  have H' := H
  obtain ⟨L, s0, s1, n3, n12, hn, h⟩ := H
  have bu := H'.bu
  have bv := H'.bv
  have d1 := ab_sub (bu (i + 1) (by omega)) (bu i i0)
  have d2 := ab_sub (bv (i + 1) (by omega)) (bv i i0)
  have d3 := ab_sub (bu (i + 2) (by omega)) (bu (i + 1) (by omega))
  have d4 := ab_sub (bv (i + 2) (by omega)) (bv (i + 1) (by omega))
  have eq : (u (i + 1) - u i) * (v (i + 2) - v i) - (v (i + 1) - v i) * (u (i + 2) - u i) = (u (i + 1) - u i) * (v (i + 2) - v (i + 1)) - (v (i + 1) - v i) * (u (i + 2) - u (i + 1)) := by
    generalize u (i + 1) = a1, u i = a0, v (i + 1) = b1, v i = b0, u (i + 2) = a2, v (i + 2) = b2
    rw [show b2 - b0 = (b2 - b1) + (b1 - b0) by omega, show a2 - a0 = (a2 - a1) + (a1 - a0) by omega, Int.mul_add, Int.mul_add, Int.mul_comm (b1 - b0) (a1 - a0)]
    omega
  apply e_X12_isFolded
  rw [L.f6.1, L.f7.1, L.f8.1, L.f6.2.2, L.f7.2.2, L.f8.2.2, hn]
  refine fun _ _ _ => ⟨L.k, L.f6.2.1, s0, s1, fun v3 e3 v4 e4 => ⟨by omega, fun v5 e5 v6 e6 => ?_⟩⟩
  rw [e3] at e5 e6
  obtain ⟨q1, q2, x4, y4⟩ := H'.a0 i0 i1 e4
  obtain ⟨q3, q4, x5, y5⟩ := H'.at (show 0 ≤ i + 1 by omega) (by omega) e5
  obtain ⟨q5, q6, x6, y6⟩ := H'.at (show 0 ≤ i + 2 by omega) (by omega) e6
  clear e4 e5 e6
  rw [x4, y4, x5, y5, x6, y6]
  refine ⟨L.k, L.f7.2.1, q1, q2, L.f8.2.1, q2, q3, q4, q4, q5, q6, q6, sp_X12_turn (bu _ (by omega)) (bv _ (by omega)) (bu _ (by omega)) (bv _ (by omega)) (bu _ (by omega)) (bv _ (by omega)) ?_⟩
  rw [eq]
  apply g_X12_isFolded_84
  rw [L.f7.1, L.f8.1, L.f7.2.2, L.f8.2.2, x4, y4, x5, y5, x6, y6, w32_ab d1 (by decide), w32_ab d2 (by decide), w32_ab d3 (by decide), w32_ab d4 (by decide), w32_ab (abm d1 d3) (by decide), w32_ab (abm d2 d4) (by decide), w32_ab (ab_ad (abm d1 d3) (abm d2 d4)) (by decide)]
  refine fun _ _ _ _ _ => ⟨fun a => ⟨L.k, L.f7.2.1, q3, q4, q1, q2, q5, q6, L.f8.2.1, q4, q2, L.f8.2.1, q5, q6, L.k, L.f8.2.1, q3, q4, fun t ht => ?_⟩, fun a => h0 (fun z => a z.1)⟩
  by_cases b : 0 ≤ (u (i + 1) - u i) * (u (i + 2) - u (i + 1)) + (v (i + 1) - v i) * (v (i + 2) - v (i + 1))
  · rw [if_pos b] at ht; rw [ht]; exact h0 (fun z => Int.not_lt.mpr b z.2)
  · rw [if_neg b] at ht; rw [ht]; exact h1 ⟨a, Int.not_le.mp b⟩
theorem sp_X12_meet {Q Y : m_Po} {ε : m_E} {μ : m_M} {M s n i j : Int} {u v : Int → Int} (H : PM ε μ M s n u v) (i0 : 0 ≤ i) (i1 : i < n) (j0 : 0 ≤ j) (j1 : j < n) (h1 : mee u v i j → Q 1 ε μ) (h0 : ¬ mee u v i j → Q 0 ε μ) : o_X12_meet [(2, M), (0, s), (0, i), (0, j)] ε μ Q Y := by
  have H' := H
  obtain ⟨L, s0, s1, n3, n12, hn, h⟩ := H
  have bu := H'.bu
  have bv := H'.bv
  have z490 : ¬ mee u v i j → G cd_X12_meet Q Y 490 [] [] ε μ := fun q => by
    apply g_X12_meet_490; exact fun _ => h0 q
  apply e_X12_meet
  rw [L.f6.1, L.f7.1, L.f8.1, L.f6.2.2, L.f7.2.2, L.f8.2.2, hn]
  refine fun _ _ _ _ => ⟨L.k, L.f6.2.1, s0, s1, fun v4 e4 v5 e5 => ⟨by omega, fun v6 e6 v7 e7 => ⟨by omega, fun v8 e8 => ?_⟩⟩⟩
  rw [e4] at e6 e8
  obtain ⟨q1, q2, x5, y5⟩ := H'.a0 i0 i1 e5
  obtain ⟨q3, q4, x6, y6⟩ := H'.at (show 0 ≤ i + 1 by omega) (by omega) e6
  obtain ⟨q5, q6, x7, y7⟩ := H'.a0 j0 j1 e7
  obtain ⟨q7, q8, x8, y8⟩ := H'.at (show 0 ≤ j + 1 by omega) (by omega) e8
  clear e5 e6 e7 e8
  rw [x5, y5, x6, y6, x7, y7]
  have L' := L.f7.2.1
  have L8 := L.f8.2.1
  refine ⟨L.k, L', q1, q2, L8, q2, q3, q4, q4, q5, q6, L.k, L8, q5, q6, sp_X12_turn (bu _ (by omega)) (bv _ (by omega)) (bu _ (by omega)) (bv _ (by omega)) (bu _ (by omega)) (bv _ (by omega)) ?_⟩
  apply g_X12_meet_95
  refine fun _ _ _ _ _ _ => sp_X12_signOf ?_
  apply g_X12_meet_98
  rw [L.f7.1, L.f8.1, L.f7.2.2, L.f8.2.2, x5, y5, x6, y6, x8, y8]
  intro _ _ _ _ _ _ v9 e9
  refine ⟨L.k, L', q1, q2, L8, q2, q3, q4, q4, q7, q8, q8, sp_X12_turn (bu _ (by omega)) (bv _ (by omega)) (bu _ (by omega)) (bv _ (by omega)) (bu _ (by omega)) (bv _ (by omega)) ?_⟩
  apply g_X12_meet_145
  refine fun _ _ _ _ _ _ _ => sp_X12_signOf ?_
  apply g_X12_meet_148
  rw [L.f7.1, L.f8.1, L.f7.2.2, L.f8.2.2, x5, y5, x7, y7, x8, y8]
  intro _ _ _ _ _ _ _ v10 e10
  refine ⟨L.k, L', q5, q6, L8, q6, q7, q8, q8, q1, q2, q2, sp_X12_turn (bu _ (by omega)) (bv _ (by omega)) (bu _ (by omega)) (bv _ (by omega)) (bu _ (by omega)) (bv _ (by omega)) ?_⟩
  apply g_X12_meet_195
  refine fun _ _ _ _ _ _ _ _ => sp_X12_signOf ?_
  apply g_X12_meet_198
  rw [L.f7.1, L.f8.1, L.f7.2.2, L.f8.2.2, x6, y6, x7, y7, x8, y8]
  intro _ _ _ _ _ _ _ _ v11 e11
  refine ⟨L.k, L', q5, q6, L8, q6, q7, q8, q8, q3, q4, q4, sp_X12_turn (bu _ (by omega)) (bv _ (by omega)) (bu _ (by omega)) (bv _ (by omega)) (bu _ (by omega)) (bv _ (by omega)) ?_⟩
  apply g_X12_meet_245
  refine fun _ _ _ _ _ _ _ _ _ => sp_X12_signOf ?_
  apply g_X12_meet_248
  intro _ _ _ _ _ _ _ _ _ v12 e12
  have b9 : ab v9 1 := by rw [e9]; exact sg3_ab _
  have b10 : ab v10 1 := by rw [e10]; exact sg3_ab _
  have b11 : ab v11 1 := by rw [e11]; exact sg3_ab _
  have b12 : ab v12 1 := by rw [e12]; exact sg3_ab _
  rw [w32_ab (abm b9 b10) (by decide), w32_ab (abm b11 b12) (by decide)]
  have e9' : v9 = sg3 (crs u v i j) := e9
  have e10' : v10 = sg3 (crs u v i (j + 1)) := e10
  have e11' : v11 = sg3 (crs u v j i) := e11
  have e12' : v12 = sg3 (crs u v j (i + 1)) := e12
  unfold mee at z490 h1
  rw [← e9', ← e10', ← e11', ← e12'] at z490 h1
  clear e9 e10 e11 e12 e9' e10' e11' e12' h0
  have z433 : ¬ (v9 * v10 < 0 ∧ v11 * v12 < 0) → ¬ (v9 = 0 ∧ bes u v i j) → ¬ (v10 = 0 ∧ bes u v i (j + 1)) → ¬ (v11 = 0 ∧ bes u v j i) → G cd_X12_meet Q Y 433 [(0, (2, M)), (6, (0, v6)), (7, (0, v7)), (8, (0, v8)), (12, (0, v12))] [] ε μ := fun p1 p2 p3 p4 => by
    have no : ¬ (v12 = 0 ∧ bes u v j (i + 1)) → G cd_X12_meet Q Y 490 [] [] ε μ := fun q5 => z490 (fun z => z.elim p1 (fun z => z.elim p2 (fun z => z.elim p3 (fun z => z.elim p4 q5))))
    apply g_X12_meet_433
    rw [L.f7.1, L.f8.1, L.f7.2.2, L.f8.2.2, x6, y6, x7, y7, x8, y8]
    refine fun _ _ _ _ _ => ⟨fun y => no (fun z => y z.1), fun y => ⟨L.k, L', q5, q6, L8, q6, q7, q8, q8, q3, q4, q4, sp_X12_isBetween (fun a b => ?_) (fun q => ?_)⟩⟩
    · apply g_X12_meet_483
      exact fun _ _ => ⟨fun x => absurd x (by decide), fun _ => h1 (Or.inr (Or.inr (Or.inr (Or.inr ⟨y, a, b⟩))))⟩
    · apply g_X12_meet_483
      exact fun _ _ => ⟨fun _ => no (fun z => q z.2), fun x => absurd rfl x⟩
  have z378 : ¬ (v9 * v10 < 0 ∧ v11 * v12 < 0) → ¬ (v9 = 0 ∧ bes u v i j) → ¬ (v10 = 0 ∧ bes u v i (j + 1)) → G cd_X12_meet Q Y 378 [(0, (2, M)), (5, (0, v5)), (6, (0, v6)), (7, (0, v7)), (8, (0, v8)), (11, (0, v11)), (12, (0, v12))] [] ε μ := fun p1 p2 p3 => by
    apply g_X12_meet_378
    rw [L.f7.1, L.f8.1, L.f7.2.2, L.f8.2.2, x5, y5, x7, y7, x8, y8]
    refine fun _ _ _ _ _ _ _ => ⟨fun y => z433 p1 p2 p3 (fun z => y z.1), fun y => ⟨L.k, L', q5, q6, L8, q6, q7, q8, q8, q1, q2, q2, sp_X12_isBetween (fun a b => ?_) (fun q => ?_)⟩⟩
    · apply g_X12_meet_428
      exact fun _ _ _ _ _ _ => ⟨fun x => absurd x (by decide), fun _ => h1 (Or.inr (Or.inr (Or.inr (Or.inl ⟨y, a, b⟩))))⟩
    · apply g_X12_meet_428
      exact fun _ _ _ _ _ _ => ⟨fun _ => z433 p1 p2 p3 (fun z => q z.2), fun x => absurd rfl x⟩
  have z323 : ¬ (v9 * v10 < 0 ∧ v11 * v12 < 0) → ¬ (v9 = 0 ∧ bes u v i j) → G cd_X12_meet Q Y 323 [(0, (2, M)), (5, (0, v5)), (6, (0, v6)), (7, (0, v7)), (8, (0, v8)), (10, (0, v10)), (11, (0, v11)), (12, (0, v12))] [] ε μ := fun p1 p2 => by
    apply g_X12_meet_323
    rw [L.f7.1, L.f8.1, L.f7.2.2, L.f8.2.2, x5, y5, x6, y6, x8, y8]
    refine fun _ _ _ _ _ _ _ _ => ⟨fun y => z378 p1 p2 (fun z => y z.1), fun y => ⟨L.k, L', q1, q2, L8, q2, q3, q4, q4, q7, q8, q8, sp_X12_isBetween (fun a b => ?_) (fun q => ?_)⟩⟩
    · apply g_X12_meet_373
      exact fun _ _ _ _ _ _ _ _ => ⟨fun x => absurd x (by decide), fun _ => h1 (Or.inr (Or.inr (Or.inl ⟨y, a, b⟩)))⟩
    · apply g_X12_meet_373
      exact fun _ _ _ _ _ _ _ _ => ⟨fun _ => z378 p1 p2 (fun z => q z.2), fun x => absurd rfl x⟩
  have z268 : ¬ (v9 * v10 < 0 ∧ v11 * v12 < 0) → G cd_X12_meet Q Y 268 [(0, (2, M)), (5, (0, v5)), (6, (0, v6)), (7, (0, v7)), (8, (0, v8)), (9, (0, v9)), (10, (0, v10)), (11, (0, v11)), (12, (0, v12))] [] ε μ := fun p1 => by
    apply g_X12_meet_268
    rw [L.f7.1, L.f8.1, L.f7.2.2, L.f8.2.2, x5, y5, x6, y6, x7, y7]
    refine fun _ _ _ _ _ _ _ _ _ => ⟨fun y => z323 p1 (fun z => y z.1), fun y => ⟨L.k, L', q1, q2, L8, q2, q3, q4, q4, q5, q6, q6, sp_X12_isBetween (fun a b => ?_) (fun q => ?_)⟩⟩
    · apply g_X12_meet_318
      exact fun _ _ _ _ _ _ _ _ _ => ⟨fun x => absurd x (by decide), fun _ => h1 (Or.inr (Or.inl ⟨y, a, b⟩))⟩
    · apply g_X12_meet_318
      exact fun _ _ _ _ _ _ _ _ _ => ⟨fun _ => z323 p1 (fun z => q z.2), fun x => absurd rfl x⟩
  exact ⟨fun y => z268 (fun z => Int.not_lt.mpr y z.1), fun y => ⟨fun y' => z268 (fun z => Int.not_lt.mpr y' z.2), fun y' => h1 (Or.inl ⟨y, y'⟩)⟩⟩
