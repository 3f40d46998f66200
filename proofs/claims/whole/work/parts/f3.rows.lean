set_option maxHeartbeats 1000000
/-! ===== pairs of calls: row, put, tear ===== -/
theorem row_56 {Q Y : m_Po} {ε : m_E} {μ : m_M} {M v : Int} (L : LM ε M) (v0 : 0 ≤ v) (v1 : v < 320) (hh : ∀ μ' : m_M, (∀ b j, ¬ (b = M + 3 ∧ 40 * v ≤ j ∧ j < 40 * v + 40) → μ' b j = μ b j) → (∀ i, 0 ≤ i → i < 40 → μ' (M + 3) (40 * v + i) = 0) → Q 0 ε μ') : G cd_X12_row Q Y 56 [(0, (2, M)), (4, (0, v)), (5, (0, 0))] [] ε μ := by
  have O : ∀ (d : Nat) (i : Int) (μ1 : m_M), 0 ≤ i → i + d = 40 → (∀ b j, ¬ (b = M + 3 ∧ 40 * v ≤ j ∧ j < 40 * v + 40) → μ1 b j = μ b j) → (∀ t, 0 ≤ t → t < i → μ1 (M + 3) (40 * v + t) = 0) → G cd_X12_row Q Y 56 [(0, (2, M)), (4, (0, v)), (5, (0, i))] [] ε μ1 := by
    intro d
    induction d with
    | zero =>
      intro i μ1 i0 hi f1 z1
      apply g_X12_row_56
      exact fun _ _ _ => ⟨fun _ => hh μ1 f1 (fun t t0 t1 => z1 t t0 (by omega)), fun q => absurd q (by omega)⟩
    | succ d ih =>
      intro i μ1 i0 hi f1 z1
      apply g_X12_row_56
      rw [L.f3.1, w32_id (show i32 (40 * v) by unfold i32; omega), w32_id (show i32 (40 * v + i) by unfold i32; omega)]
      refine fun _ _ _ => ⟨fun q => absurd q (by omega), fun _ => ⟨L.k, L.f3.2.1, by omega, by rw [L.f3.2.2]; omega, fun μ2 m2 w h => ?_⟩⟩
      rw [w32_id (show i32 (i + 1) by unfold i32; omega)] at h
      rw [h]
      refine ih (i + 1) μ2 (by omega) (by omega) (fun b j h2 => ?_) (fun t t0 t1 => ?_)
      · rw [m2, st, if_neg (fun z => h2 ⟨z.1, by omega, by omega⟩)]; exact f1 b j h2
      · rw [m2]
        by_cases z : t = i
        · rw [z, sx_same]
        · rw [sx_oi (by omega)]; exact z1 t t0 (by omega)
  exact O 40 0 μ (by decide) (by omega) (fun _ _ _ => rfl) (fun t t0 t1 => absurd t1 (by omega))
theorem pr_row {ε : m_E} {μ : m_M} {X r k n : Int} {codes : Int → Int} (c1 : codes 1 = 1) (c2 : codes 2 = 2) (H : Rel ε μ X) : PAIR (fun ε μ Q Y => o_X10_row [(2, X), (0, r), (0, k), (0, n)] ε μ Q Y) (fun ε μ Q Y => o_X12_row [(2, X + 34), (0, r), (0, k), (0, n)] ε μ Q Y) codes ε μ X := by
  intro QC XC hq hx
  have H' := H
  obtain ⟨ow, R, S, G', J, P, C⟩ := H
  have e4 : sgM μ (X + 34) 0 4 = μ (X + 34) 4 := by unfold sgM; rw [Int.add_zero]
  have r8 := C.2.1.2.2.1
  apply e_X10_row
  intro T _ _ _
  refine ⟨S.1.k, sp_X10_rackWithRow S C.2.1 (fun q z hz => hx 1 _ _ (by rw [c1]; decide) ?_) (fun q u k0 k1 K => ?_)⟩
  · rw [c1]
    refine aft_thr H' (by decide) EX.nx (fun μ2 Q Y f2 G2 K => ?_)
    have f4 : μ2 (X + 34) 4 = μ (X + 34) 4 := f2 _ _ (by omega)
    apply e_X12_row
    refine fun _ _ _ _ => ⟨G2.1.k, sp_X12_isRow G2.1 (fun a b c d => by omega) (fun _ => ?_)⟩
    apply g_X12_row_6
    exact fun _ _ _ _ _ => ⟨fun z => absurd rfl z, fun _ => K⟩
  · have x := K.2.1
    have thr : (n < 0 ∨ 40 < n) → ∀ z : Int, nx ε ≤ z → XC 2 (enx ε z) μ := fun why z hz => by
      refine hx 2 _ _ (by rw [c2]; decide) ?_
      rw [c2]
      refine aft_thr H' (by decide) EX.nx (fun μ2 Q Y f2 G2 K' => ?_)
      have f4 : μ2 (X + 34) 4 = μ (X + 34) 4 := f2 _ _ (by omega)
      apply e_X12_row
      refine fun _ _ _ _ => ⟨G2.1.k, sp_X12_isRow G2.1 (fun a b c d => ?_) (fun y => by omega)⟩
      apply g_X12_row_6
      refine fun _ _ _ _ _ => ⟨fun _ t1 ht1 => ⟨G2.1.k, fun μ3 m3 => ⟨G2.1.k, ?_⟩⟩, fun z => absurd z (by decide)⟩
      have et : t1 = 2 := by
        rw [ht1]
        rcases why with y | y
        · rw [if_pos y]
        · rw [if_neg (by omega), if_neg (by omega)]
      rw [m3, et, sx_same, st_st]
      exact ⟨fun y => absurd y (by decide), fun _ => K'⟩
    apply g_X10_row_6
    intro _ _ _ v4 h4
    subst h4
    refine ⟨fun y => thr (Or.inl y), fun n0 => ⟨fun n1 => ⟨K.1.k, sp_X5_lay K.1 k0 k1 n0 n1 (fun μ1 f1 e1 z1 => ?_)⟩, fun y => thr (Or.inr y)⟩⟩
    apply g_X10_row_35
    refine fun _ => hq _ _ _ ⟨EX.rf, fun b j h => f1 _ _ (by omega) (by omega), fun μ2 f2 Q Y K2 => ?_⟩
    have m2 : ∀ b j, b ≠ X + 141 → b ≠ μ (X + 1) r + 1 → b ≠ μ (X + 1) r + 2 → μ2 b j = μ b j := fun b j h h1 h2 => by rw [f2 _ _ h, f1 _ _ (fun z => h1 z.1) (fun z => h2 z.1)]
    have LM2 := G'.1
    have f4 : μ2 (X + 34) 4 = μ (X + 34) 4 := m2 _ _ (by omega) (by omega) (by omega)
    apply e_X12_row
    refine fun _ _ _ _ => ⟨LM2.k, sp_X12_isRow LM2 (fun a b c d => ?_) (fun y => by omega)⟩
    apply g_X12_row_6
    refine fun _ _ _ _ _ => ⟨fun _ t1 ht1 => ⟨LM2.k, fun μ3 m3 => ⟨LM2.k, ?_⟩⟩, fun z => absurd z (by decide)⟩
    rw [if_neg (by omega), if_pos n1] at ht1
    rw [ht1, st_st] at m3
    have z3 : μ3 (X + 34) 0 = 0 := by rw [m3, sx_same]
    have g3 : ∀ b j, ¬ (b = X + 34 ∧ j = 0) → μ3 b j = μ2 b j := fun b j h => by rw [m3, st, if_neg h]
    rw [z3, LM2.f2.1, w32_id (show i32 (40 * r) by unfold i32; omega), w32_id (show i32 (40 * r + k) by unfold i32; omega)]
    refine ⟨fun _ v4 h4 => ⟨LM2.f2.2.1, by omega, by rw [LM2.f2.2.2]; omega, fun μ4 m4 v5 h5 => ?_⟩, fun y => absurd y (by decide)⟩
    rw [h5]
    subst h4
    refine row_56 LM2 (by omega) (by omega) (fun μ5 f5 z5 => ?_)
    have g5 : ∀ b j, ¬ (b = X + 34 ∧ j = 0) → ¬ (b = X + 34 + 2 ∧ j = 40 * r + k) → ¬ (b = X + 34 + 3 ∧ 40 * (40 * r + k) ≤ j ∧ j < 40 * (40 * r + k) + 40) → μ5 b j = μ2 b j := fun b j h h1 h2 => by rw [f5 b j h2, m4, st, if_neg h1, g3 b j h]
    have e2 : μ5 (X + 34 + 2) (40 * r + k) = n := by rw [f5 _ _ (by omega), m4, sx_same]
    have K' := K
    obtain ⟨kL, _, ko, kf, k2, k3⟩ := K'
    have A1 : ∀ j, j ≠ k → μ5 (μ (X + 1) r + 1) j = μ (μ (X + 1) r + 1) j := fun j h => by rw [g5 _ _ (by omega) (by omega) (by omega), f2 _ _ (by omega), f1 _ _ (by omega) (by omega)]
    have A1k : μ5 (μ (X + 1) r + 1) k = n := by rw [g5 _ _ (by omega) (by omega) (by omega), f2 _ _ (by omega)]; exact e1
    have A2 : ∀ j, ¬ (40 * k ≤ j ∧ j < 40 * k + 40) → μ5 (μ (X + 1) r + 2) j = μ (μ (X + 1) r + 2) j := fun j h => by rw [g5 _ _ (by omega) (by omega) (by omega), f2 _ _ (by omega), f1 _ _ (by omega) (by omega)]
    have A2k : ∀ i, 0 ≤ i → i < 40 → μ5 (μ (X + 1) r + 2) (40 * k + i) = 0 := fun i i0 i1 => by rw [g5 _ _ (by omega) (by omega) (by omega), f2 _ _ (by omega)]; exact z1 i i0 i1
    have M2 : ∀ j, j ≠ 40 * r + k → sgM μ5 (X + 34) 2 j = sgM μ (X + 34) 2 j := fun j h => by
      show μ5 (X + 34 + 2) j = μ (X + 34 + 2) j
      rw [g5 _ _ (by omega) (by omega) (by omega), m2 _ _ (by omega) (by omega) (by omega)]
    have M3 : ∀ j, ¬ (40 * (40 * r + k) ≤ j ∧ j < 40 * (40 * r + k) + 40) → sgM μ5 (X + 34) 3 j = sgM μ (X + 34) 3 j := fun j h => by
      show μ5 (X + 34 + 3) j = μ (X + 34 + 3) j
      rw [g5 _ _ (by omega) (by omega) (by omega), m2 _ _ (by omega) (by omega) (by omega)]
    have M1 : sgM μ5 (X + 34) 1 r = sgM μ (X + 34) 1 r := by
      show μ5 (X + 34 + 1) r = μ (X + 34 + 1) r
      rw [g5 _ _ (by omega) (by omega) (by omega), m2 _ _ (by omega) (by omega) (by omega)]
    refine K2 _ _ (fun c j h => g5 _ _ (by omega) (by omega) (by omega)) (Rel.mk' (ow := ow) S G' J P EX.rf (fun b j h => ?_) (C.rack (r := r) EX.rf q u (fun b j h1 h2 h3 => ?_) ⟨kL, x, ko, by rw [M1]; exact kf, fun t t0 t1 => ?_, fun j j0 j1 => ?_⟩)) (by rw [f5 _ _ (by omega), m4, sx_oa (by omega), z3]) (fun _ => rfl) (fun j => g5 _ _ (by omega) (by omega) (by omega))
    · unfold kpt at h
      rw [g5 _ _ (by omega) (by omega) (by omega), m2 _ _ (by omega) (by omega) (by omega)]
    · unfold scq at h1
      unfold rcl at h2
      rw [g5 _ _ (by omega) (by omega) (by omega), m2 _ _ (by omega) (fun z => h3 ⟨by omega, by rw [z]; exact ko.2.1⟩) (fun z => h3 ⟨by omega, by rw [z]; exact ko.2.2⟩)]
    · by_cases z : t = k
      · rw [z, A1k]
        have : sgM μ5 (X + 34) 2 (40 * r + k) = n := e2
        rw [this]
        exact ⟨rfl, by omega, n1⟩
      · rw [A1 t z, M2 _ (by omega)]; exact k2 t t0 t1
    · by_cases z : 40 * k ≤ j ∧ j < 40 * k + 40
      · have y1 := A2k (j - 40 * k) (by omega) (by omega)
        have y2 := z5 (j - 40 * k) (by omega) (by omega)
        rw [show 40 * k + (j - 40 * k) = j by omega] at y1
        rw [show 40 * (40 * r + k) + (j - 40 * k) = 1600 * r + j by omega] at y2
        rw [y1]; exact y2.symm
      · rw [A2 j z, M3 _ (by omega)]; exact k3 j j0 j1
