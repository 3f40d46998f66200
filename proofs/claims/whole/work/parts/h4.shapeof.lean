set_option maxHeartbeats 1000000
/-! ===== a shape looked at when 120 stones are told ===== -/
theorem sof_176 {Q Y : m_Po} {ε : m_E} {μ0 μ4 : m_M} {M r : Int} (L : LM ε M) (hr : r = 0 ∨ r = 1) (h : ∀ b j, b ≠ M + 13 → b ≠ M + 14 → ¬ ((b = M + 6 ∨ b = M + 7) ∧ 1428 ≤ j ∧ j < 1440) → μ4 b j = μ0 b j) (sv : ∀ t, 0 ≤ t → t < 12 → μ4 (M + 13) t = μ0 (M + 6) (1428 + t) ∧ μ4 (M + 14) t = μ0 (M + 7) (1428 + t)) (hh : ∀ μ' : m_M, (∀ b j, b ≠ M + 13 → b ≠ M + 14 → μ' b j = μ0 b j) → Q r ε μ') : G cd_X12_isShapeOf Q Y 176 [(0, (2, M)), (5, (0, r)), (6, (0, 0))] [] ε μ4 := by
  have O : ∀ (d : Nat) (i : Int) (μ1 : m_M), 0 ≤ i → i + d = 12 → (∀ b j, b ≠ M + 13 → b ≠ M + 14 → ¬ ((b = M + 6 ∨ b = M + 7) ∧ 1428 + i ≤ j ∧ j < 1440) → μ1 b j = μ0 b j) → (∀ t, 0 ≤ t → t < 12 → μ1 (M + 13) t = μ0 (M + 6) (1428 + t) ∧ μ1 (M + 14) t = μ0 (M + 7) (1428 + t)) → G cd_X12_isShapeOf Q Y 176 [(0, (2, M)), (5, (0, r)), (6, (0, i))] [] ε μ1 := by
    intro d
    induction d with
    | zero =>
      intro i μ1 i0 hi g z
      apply g_X12_isShapeOf_176
      exact fun _ _ _ => ⟨fun _ => ⟨hr, hh μ1 (fun b j h1 h2 => g b j h1 h2 (by omega))⟩, fun y => absurd y (by omega)⟩
    | succ d ih =>
      intro i μ1 i0 hi g z
      apply g_X12_isShapeOf_176
      rw [L.f15.1, L.f16.1, L.f7.1, L.f8.1, L.f15.2.2, L.f16.2.2, L.f7.2.2, L.f8.2.2, w32_id (show i32 (1428 + i) by unfold i32; omega), w32_id (show i32 (i + 1) by unfold i32; omega)]
      refine fun _ _ _ => ⟨fun y => absurd y (by omega), fun _ => ⟨L.k, L.f15.2.1, i0, by omega, L.f7.2.1, by omega, by omega, fun μ2 m2 => ⟨L.f16.2.1, by omega, L.f8.2.1, by omega, fun μ3 m3 w hw => ?_⟩⟩⟩
      rw [hw]
      rw [(z i i0 (by omega)).1] at m2
      have x2 : μ2 (M + 14) i = μ0 (M + 7) (1428 + i) := by rw [m2, sx_oa (by omega)]; exact (z i i0 (by omega)).2
      rw [x2] at m3
      refine ih (i + 1) μ3 (by omega) (by omega) (fun b j h1 h2 h3 => ?_) (fun t t0 t1 => ?_)
      · by_cases q : (b = M + 6 ∨ b = M + 7) ∧ j = 1428 + i
        · rcases q with ⟨q | q, q'⟩
          · rw [q, q', m3, sx_oa (by omega), m2, sx_same]
          · rw [q, q', m3, sx_same]
        · rw [m3, st, if_neg (by omega), m2, st, if_neg (by omega)]
          exact g b j h1 h2 (by omega)
      · rw [m3, sx_oa (by omega), sx_oa (by omega), m2, sx_oa (by omega), sx_oa (by omega)]
        exact z t t0 t1
  exact O 12 0 μ4 (by decide) (by omega) (fun b j h1 h2 h3 => h b j h1 h2 (by omega)) sv
theorem sof_82 {Q Y : m_Po} {ε : m_E} {μ : m_M} {M n w v3 v4 : Int} (L : LM ε M) (n3 : 3 ≤ n) (n12 : n ≤ 12) (w0 : 0 ≤ w) (w1 : w < 320) (hh : ∀ μ' : m_M, (∀ b j, ¬ ((b = M + 6 ∨ b = M + 7) ∧ 1428 ≤ j ∧ j < 1440) → μ' b j = μ b j) → (∀ i, 0 ≤ i → i < n → μ' (M + 6) (1428 + i) = μ (M + 3) (40 * w + 2 * i) ∧ μ' (M + 7) (1428 + i) = μ (M + 3) (40 * w + (2 * i + 1))) → o_X12_isShape [(2, M), (0, 119)] ε μ' (fun z ε_1 μ_1 => G cd_X12_isShapeOf Q Y 154 [(0, (2, M)), (3, (0, v3)), (4, (0, v4))] [(0, z)] ε_1 μ_1) m_F) : G cd_X12_isShapeOf Q Y 82 [(0, (2, M)), (1, (0, w)), (2, (0, 2 * n)), (3, (0, v3)), (4, (0, v4)), (5, (0, 0))] [] ε μ := by
  have wn : w32 (Int.tdiv (2 * n) 2) = n := by
    rw [Int.tdiv_eq_ediv_of_nonneg (by omega), show 2 * n / 2 = n by omega, w32_id (by unfold i32; omega)]
  have O : ∀ (d : Nat) (i : Int) (μ1 : m_M), 0 ≤ i → i + d = n → (∀ b j, ¬ ((b = M + 6 ∨ b = M + 7) ∧ 1428 ≤ j ∧ j < 1440) → μ1 b j = μ b j) → (∀ t, 0 ≤ t → t < i → μ1 (M + 6) (1428 + t) = μ (M + 3) (40 * w + 2 * t) ∧ μ1 (M + 7) (1428 + t) = μ (M + 3) (40 * w + (2 * t + 1))) → G cd_X12_isShapeOf Q Y 82 [(0, (2, M)), (1, (0, w)), (2, (0, 2 * n)), (3, (0, v3)), (4, (0, v4)), (5, (0, i))] [] ε μ1 := by
    intro d
    induction d with
    | zero =>
      intro i μ1 i0 hi g z
      apply g_X12_isShapeOf_82
      rw [wn]
      exact fun _ _ _ _ _ _ => ⟨fun _ => ⟨L.k, hh μ1 g (fun t t0 t1 => z t t0 (by omega))⟩, fun y => absurd y (by omega)⟩
    | succ d ih =>
      intro i μ1 i0 hi g z
      apply g_X12_isShapeOf_82
      rw [wn, L.f3.1, L.f7.1, L.f8.1, w32_id (show i32 (40 * w) by unfold i32; omega), w32_id (show i32 (2 * i) by unfold i32; omega), w32_id (show i32 (40 * w + 2 * i) by unfold i32; omega), w32_id (show i32 (40 * w + 2 * i + 1) by unfold i32; omega), w32_id (show i32 (1428 + i) by unfold i32; omega), w32_id (show i32 (i + 1) by unfold i32; omega), L.f3.2.2, L.f7.2.2, L.f8.2.2]
      refine fun _ _ _ _ _ _ => ⟨fun y => absurd y (by omega), fun _ => ⟨L.k, L.f3.2.1, by omega, by omega, L.f7.2.1, by omega, by omega, fun μ2 m2 => ⟨L.f3.2.1, by omega, by omega, L.f8.2.1, by omega, by omega, fun μ3 m3 v e => ?_⟩⟩⟩
      rw [e]
      rw [g _ _ (by omega)] at m2
      have x3 : μ2 (M + 3) (40 * w + 2 * i + 1) = μ (M + 3) (40 * w + (2 * i + 1)) := by rw [m2, sx_oa (by omega), g _ _ (by omega), Int.add_assoc]
      rw [x3] at m3
      refine ih (i + 1) μ3 (by omega) (by omega) (fun b j h => ?_) (fun t t0 t1 => ?_)
      · rw [m3, st, if_neg (by omega), m2, st, if_neg (by omega)]; exact g b j h
      · by_cases q : t = i
        · rw [q, m3, sx_oa (by omega), sx_same, m2, sx_same]
          exact ⟨rfl, rfl⟩
        · rw [m3, sx_oa (by omega), sx_oi (by omega), m2, sx_oi (by omega), sx_oa (by omega)]
          exact z t t0 (by omega)
  exact O n.toNat 0 μ (by decide) (by omega) (fun _ _ _ => rfl) (fun t t0 t1 => absurd t1 (by omega))
theorem sp_X12_isShapeOf {Q Y : m_Po} {ε : m_E} {μ : m_M} {M n w : Int} {ρ : Int → Int} (L : LM ε M) (n3 : 3 ≤ n) (n12 : n ≤ 12) (w0 : 0 ≤ w) (w1 : w < 320) (nf : ∀ i, 0 ≤ i → i < 2 * n → ¬ far1 (ρ i)) (hρ : ∀ i, 0 ≤ i → i < 2 * n → μ (M + 3) (40 * w + i) = ρ i) (h1 : Sou (rwX ρ n) (rwY ρ n) n → ∀ μ' : m_M, (∀ b j, b ≠ M + 13 → b ≠ M + 14 → μ' b j = μ b j) → Q 1 ε μ') (h0 : ¬ Sou (rwX ρ n) (rwY ρ n) n → ∀ μ' : m_M, (∀ b j, b ≠ M + 13 → b ≠ M + 14 → μ' b j = μ b j) → Q 0 ε μ') : o_X12_isShapeOf [(2, M), (0, w), (0, 2 * n)] ε μ Q Y := by
  have wn : w32 (Int.tdiv (2 * n) 2) = n := by
    rw [Int.tdiv_eq_ediv_of_nonneg (by omega), show 2 * n / 2 = n by omega, w32_id (by unfold i32; omega)]
  have back : ∀ (r : Int) (μ3 : m_M), r = 0 ∨ r = 1 → (∀ b j, b ≠ M + 13 → b ≠ M + 14 → ¬ ((b = M + 6 ∨ b = M + 7) ∧ 1428 ≤ j ∧ j < 1440) → ¬ (b = M + 5 ∧ j = 119) → ¬ (b = M + 8 ∧ j = 119) → μ3 b j = μ b j) → (∀ t, 0 ≤ t → t < 12 → μ3 (M + 13) t = μ (M + 6) (1428 + t) ∧ μ3 (M + 14) t = μ (M + 7) (1428 + t)) → (∀ μ' : m_M, (∀ b j, b ≠ M + 13 → b ≠ M + 14 → μ' b j = μ b j) → Q r ε μ') → G cd_X12_isShapeOf Q Y 154 [(0, (2, M)), (3, (0, μ (M + 5) 119)), (4, (0, μ (M + 8) 119))] [(0, r)] ε μ3 := by
    intro r μ3 hr g sv K
    apply g_X12_isShapeOf_154
    intro _ _ _ _ v5 e5
    rw [L.f6.1, L.f9.1, L.f6.2.2, L.f9.2.2, e5]
    refine ⟨L.k, L.f6.2.1, by decide, fun μ4 m4 => ⟨L.f9.2.1, by decide, fun μ5 m5 v6 e6 => ?_⟩⟩
    rw [e6]
    refine sof_176 L hr (fun b j h1 h2 h3 => ?_) (fun t t0 t1 => ?_) K
    · rw [m5]
      by_cases q : b = M + 8 ∧ j = 119
      · rw [q.1, q.2, sx_same]
      · rw [st, if_neg q, m4]
        by_cases q' : b = M + 5 ∧ j = 119
        · rw [q'.1, q'.2, sx_same]
        · rw [st, if_neg q']; exact g b j h1 h2 h3 q' q
    · rw [m5, sx_oa (by omega), sx_oa (by omega), m4, sx_oa (by omega), sx_oa (by omega)]; exact sv t t0 t1
  have O : ∀ (d : Nat) (i : Int) (μ1 : m_M), 0 ≤ i → i + d = 12 → (∀ b j, b ≠ M + 13 → b ≠ M + 14 → μ1 b j = μ b j) → (∀ t, 0 ≤ t → t < i → μ1 (M + 13) t = μ (M + 6) (1428 + t) ∧ μ1 (M + 14) t = μ (M + 7) (1428 + t)) → G cd_X12_isShapeOf Q Y 20 [(0, (2, M)), (1, (0, w)), (2, (0, 2 * n)), (3, (0, μ (M + 5) 119)), (4, (0, μ (M + 8) 119)), (5, (0, i))] [] ε μ1 := by
    intro d
    induction d with
    | zero =>
      intro i μ1 i0 hi g z
      apply g_X12_isShapeOf_20
      rw [L.f6.1, L.f6.2.2, wn]
      refine fun _ _ _ _ _ _ => ⟨fun _ => ⟨L.k, L.f6.2.1, by decide, fun μ2 m2 v5 e5 => ?_⟩, fun y => absurd y (by omega)⟩
      rw [e5]
      refine sof_82 L n3 n12 w0 w1 (fun μ3 g3 z3 => ?_)
      have P : PM ε μ3 M 119 n (rwX ρ n) (rwY ρ n) := by
        refine PM.of L (by decide) (by decide) n3 n12 (by rw [g3 _ _ (by omega), m2, sx_same]) nf (fun t t0 t1 => ?_)
        have := z3 t t0 t1
        rw [m2, sx_oa (by omega), sx_oa (by omega), g _ _ (by omega) (by omega), g _ _ (by omega) (by omega), hρ _ (by omega) (by omega), hρ _ (by omega) (by omega)] at this
        exact this
      have g4 : ∀ b j, b ≠ M + 13 → b ≠ M + 14 → ¬ ((b = M + 6 ∨ b = M + 7) ∧ 1428 ≤ j ∧ j < 1440) → ¬ (b = M + 5 ∧ j = 119) → μ3 b j = μ b j := fun b j h1 h2 h3 h4 => by
        rw [g3 b j h3, m2, st, if_neg h4]; exact g b j h1 h2
      have sv : ∀ t, 0 ≤ t → t < 12 → μ3 (M + 13) t = μ (M + 6) (1428 + t) ∧ μ3 (M + 14) t = μ (M + 7) (1428 + t) := fun t t0 t1 => by
        rw [g3 _ _ (by omega), g3 _ _ (by omega), m2, sx_oa (by omega), sx_oa (by omega)]; exact z t t0 (by omega)
      refine sp_X12_isShape P (fun S => ?_) (fun S μ4 f4 => ?_)
      · exact back 1 _ (Or.inr rfl) (fun b j h1 h2 h3 h4 h5 => by rw [st, if_neg h5]; exact g4 b j h1 h2 h3 h4) (fun t t0 t1 => by rw [sx_oa (by omega), sx_oa (by omega)]; exact sv t t0 t1) (h1 S)
      · exact back 0 _ (Or.inl rfl) (fun b j h1 h2 h3 h4 h5 => by rw [f4 b j h5]; exact g4 b j h1 h2 h3 h4) (fun t t0 t1 => by rw [f4 _ _ (by omega), f4 _ _ (by omega)]; exact sv t t0 t1) (h0 S)
    | succ d ih =>
      intro i μ1 i0 hi g z
      apply g_X12_isShapeOf_20
      rw [L.f15.1, L.f16.1, L.f7.1, L.f8.1, L.f15.2.2, L.f16.2.2, L.f7.2.2, L.f8.2.2, w32_id (show i32 (1428 + i) by unfold i32; omega), w32_id (show i32 (i + 1) by unfold i32; omega)]
      refine fun _ _ _ _ _ _ => ⟨fun y => absurd y (by omega), fun _ => ⟨L.k, L.f7.2.1, by omega, by omega, L.f15.2.1, i0, by omega, fun μ2 m2 => ⟨L.f8.2.1, by omega, L.f16.2.1, by omega, fun μ3 m3 v e => ?_⟩⟩⟩
      rw [e]
      rw [g _ _ (by omega) (by omega)] at m2
      have x2 : μ2 (M + 7) (1428 + i) = μ (M + 7) (1428 + i) := by rw [m2, sx_oa (by omega)]; exact g _ _ (by omega) (by omega)
      rw [x2] at m3
      refine ih (i + 1) μ3 (by omega) (by omega) (fun b j h1 h2 => by rw [m3, sx_oa h2, m2, sx_oa h1]; exact g b j h1 h2) (fun t t0 t1 => ?_)
      by_cases q : t = i
      · rw [q, m3, sx_oa (by omega), sx_same, m2, sx_same]; exact ⟨rfl, rfl⟩
      · rw [m3, sx_oa (by omega), sx_oi q, m2, sx_oi q, sx_oa (by omega)]; exact z t t0 (by omega)
  apply e_X12_isShapeOf
  rw [L.f6.1, L.f9.1, L.f6.2.2, L.f9.2.2]
  refine fun _ _ _ => ⟨L.k, L.f6.2.1, by decide, fun v3 e3 => ⟨L.f9.2.1, by decide, fun v4 e4 v5 e5 => ?_⟩⟩
  rw [e3, e4, e5]
  exact O 12 0 μ (by decide) (by omega) (fun _ _ _ _ => rfl) (fun t t0 t1 => absurd t1 (by omega))
