set_option maxHeartbeats 1000000
/-! ===== corners are copied ===== -/
theorem sp_X5_copyOf {Q Y : m_Po} {ε : m_E} {μ : m_M} {A k N : Int} (L : LR ε A) (k0 : 0 ≤ k) (k1 : k < 40) (hN : μ (A + 1) k = N) (N0 : 1 ≤ N) (N1 : N ≤ 40) (hh : ∀ μ' : m_M, (∀ b j, b ≠ nx ε → μ' b j = μ b j) → (∀ i, 0 ≤ i → i < N → μ' (nx ε) i = μ (A + 2) (40 * k + i)) → Q (nx ε) (ealloc ε 100 N) μ') : o_X5_copyOf [(2, A), (0, k)] ε μ Q Y := by
  apply e_X5_copyOf
  intro T _
  have hA2 := (T.1 (A + 2) (by rw [L.f2.2.1]; decide)).2
  have hA := (T.1 A (by rw [L.k]; decide)).2
  have B := fun b (hb : 0 ≤ kd ε b) => (T.1 b hb).2
  have E1 : EX ε (ealloc ε 100 N) := ex_al EX.rf B
  have L1 := L.ex E1
  have ka : kd (ealloc ε 100 N) (nx ε) = 100 := by show (if nx ε = nx ε then 100 else kd ε (nx ε)) = 100; rw [if_pos rfl]
  have la : ln (ealloc ε 100 N) (nx ε) = N := by show (if nx ε = nx ε then N else ln ε (nx ε)) = N; rw [if_pos rfl]
  have O : ∀ (d : Nat) (i : Int) (μ1 : m_M), 0 ≤ i → i + d = N → (∀ b j, b ≠ nx ε → μ1 b j = μ b j) → (∀ t, 0 ≤ t → t < i → μ1 (nx ε) t = μ (A + 2) (40 * k + t)) → G cd_X5_copyOf Q Y 17 [(0, (2, A)), (1, (0, k)), (2, (0, N)), (3, (2, nx ε)), (4, (0, i))] [] (ealloc ε 100 N) μ1 := by
    intro d
    induction d with
    | zero =>
      intro i μ1 i0 hi g z
      apply g_X5_copyOf_17
      exact fun _ _ _ _ => ⟨fun _ => hh μ1 g (fun t t0 t1 => z t t0 (by omega)), fun y => absurd y (by omega)⟩
    | succ d ih =>
      intro i μ1 i0 hi g z
      apply g_X5_copyOf_17
      rw [L1.f2.1, L1.f2.2.2, la, w32_id (show i32 (k * 40) by unfold i32; omega), w32_id (show i32 (k * 40 + i) by unfold i32; omega), w32_id (show i32 (i + 1) by unfold i32; omega)]
      refine fun _ _ _ _ => ⟨fun y => absurd y (by omega), fun _ => ⟨L1.k, L1.f2.2.1, by omega, by omega, ka, i0, by omega, fun μ2 m2 w hw => ?_⟩⟩
      rw [hw]
      refine ih (i + 1) μ2 (by omega) (by omega) (fun b j h => by rw [m2, sx_oa h]; exact g b j h) (fun t t0 t1 => ?_)
      by_cases q : t = i
      · rw [m2, q, sx_same, g _ _ (by omega), show k * 40 + i = 40 * k + i by omega]
      · rw [m2, sx_oi q]; exact z t t0 (by omega)
  refine ⟨L.k, ?_⟩
  apply e_X5_sizeOf
  rw [L.f1.1, L.f1.2.2, hN]
  refine fun _ _ => ⟨fun _ _ => ⟨L.k, L.f1.2.1, k0, k1⟩, fun t ht => ?_⟩
  rw [if_neg (by omega), if_neg (by omega)] at ht
  rw [ht]
  apply g_X5_copyOf_6
  intro _ _ _ _ v2 e2
  rw [if_pos (by omega)] at e2
  rw [e2]
  refine ⟨by omega, N1, fun a ε1 μ1 ha e1 m1 v3 e3 v4 e4 => ?_⟩
  rw [e3, e4, ha, e1]
  exact O N.toNat 0 μ1 (by decide) (by omega) (fun b j h => by rw [m1, mnew, if_neg (by omega)]) (fun t t0 t1 => absurd t1 (by omega))
/-- the points of a row, gone round -/
def rwX (ρ : Int → Int) (n i : Int) : Int := ρ (2 * (i % n))
def rwY (ρ : Int → Int) (n i : Int) : Int := ρ (2 * (i % n) + 1)
theorem rw_ab {ρ : Int → Int} {n : Int} (n1 : 1 ≤ n) (h : ∀ i, 0 ≤ i → i < 2 * n → ¬ far1 (ρ i)) (i : Int) : ab (rwX ρ n i) 100 ∧ ab (rwY ρ n i) 100 := by
  have m0 := Int.emod_nonneg i (show n ≠ 0 by omega)
  have m1 := Int.emod_lt_of_pos i (show 0 < n by omega)
  have h1 := h (2 * (i % n)) (by omega) (by omega)
  have h2 := h (2 * (i % n) + 1) (by omega) (by omega)
  unfold far1 at h1 h2
  unfold ab rwX rwY
  exact ⟨by omega, by omega⟩
theorem Pt.of {ε : m_E} {μ : m_M} {p n : Int} {ρ : Int → Int} (hk : kd ε p = 100) (hl : ln ε p = 2 * n) (n3 : 3 ≤ n) (n12 : n ≤ 12) (h : ∀ i, 0 ≤ i → i < 2 * n → ¬ far1 (ρ i)) (hv : ∀ i, 0 ≤ i → i < 2 * n → μ p i = ρ i) : Pt ε μ p n (rwX ρ n) (rwY ρ n) := by
  refine ⟨hk, hl, n3, n12, fun i i0 => ⟨⟨?_, ?_⟩, (rw_ab (by omega) h i).1, (rw_ab (by omega) h i).2⟩⟩
  · have m0 := Int.emod_nonneg i (show n ≠ 0 by omega)
    have m1 := Int.emod_lt_of_pos i (show 0 < n by omega)
    exact hv _ (by omega) (by omega)
  · have m0 := Int.emod_nonneg i (show n ≠ 0 by omega)
    have m1 := Int.emod_lt_of_pos i (show 0 < n by omega)
    exact hv _ (by omega) (by omega)
theorem PM.of {ε : m_E} {μ : m_M} {M s n : Int} {ρ : Int → Int} (L : LM ε M) (s0 : 0 ≤ s) (s1 : s < 120) (n3 : 3 ≤ n) (n12 : n ≤ 12) (h5 : μ (M + 5) s = n) (h : ∀ i, 0 ≤ i → i < 2 * n → ¬ far1 (ρ i)) (hv : ∀ i, 0 ≤ i → i < n → μ (M + 6) (12 * s + i) = ρ (2 * i) ∧ μ (M + 7) (12 * s + i) = ρ (2 * i + 1)) : PM ε μ M s n (rwX ρ n) (rwY ρ n) := by
  refine ⟨L, s0, s1, n3, n12, h5, fun i i0 => ?_⟩
  have m0 := Int.emod_nonneg i (show n ≠ 0 by omega)
  have m1 := Int.emod_lt_of_pos i (show 0 < n by omega)
  exact ⟨hv _ m0 m1, (rw_ab (by omega) h i).1, (rw_ab (by omega) h i).2⟩
/-- the reference fills the cells of a stone -/
theorem stone_227 {Q Y : m_Po} {ε : m_E} {μ : m_M} {M s n w kind part : Int} (L : LM ε M) (s0 : 0 ≤ s) (s1 : s < 120) (n3 : 3 ≤ n) (n12 : n ≤ 12) (w0 : 0 ≤ w) (w1 : w < 320) (hh : ∀ μ' : m_M, (∀ b j, ¬ ((b = M + 6 ∨ b = M + 7) ∧ 12 * s ≤ j ∧ j < 12 * s + 12) → μ' b j = μ b j) → (∀ i, 0 ≤ i → i < n → μ' (M + 6) (12 * s + i) = μ (M + 3) (40 * w + 2 * i) ∧ μ' (M + 7) (12 * s + i) = μ (M + 3) (40 * w + (2 * i + 1))) → o_X12_isShape [(2, M), (0, s)] ε μ' (fun z ε_1 μ_1 => G cd_X12_stone Q Y 306 [(0, (2, M)), (1, (0, kind)), (4, (0, part)), (7, (0, s))] [(0, z)] ε_1 μ_1) m_F) : G cd_X12_stone Q Y 227 [(0, (2, M)), (1, (0, kind)), (4, (0, part)), (5, (0, w)), (6, (0, 2 * n)), (7, (0, s)), (8, (0, 0))] [] ε μ := by
  have wn : w32 (Int.tdiv (2 * n) 2) = n := by
    rw [Int.tdiv_eq_ediv_of_nonneg (by omega), show 2 * n / 2 = n by omega, w32_id (by unfold i32; omega)]
  have O : ∀ (d : Nat) (i : Int) (μ1 : m_M), 0 ≤ i → i + d = n → (∀ b j, ¬ ((b = M + 6 ∨ b = M + 7) ∧ 12 * s ≤ j ∧ j < 12 * s + 12) → μ1 b j = μ b j) → (∀ t, 0 ≤ t → t < i → μ1 (M + 6) (12 * s + t) = μ (M + 3) (40 * w + 2 * t) ∧ μ1 (M + 7) (12 * s + t) = μ (M + 3) (40 * w + (2 * t + 1))) → G cd_X12_stone Q Y 227 [(0, (2, M)), (1, (0, kind)), (4, (0, part)), (5, (0, w)), (6, (0, 2 * n)), (7, (0, s)), (8, (0, i))] [] ε μ1 := by
    intro d
    induction d with
    | zero =>
      intro i μ1 i0 hi g z
      apply g_X12_stone_227
      rw [wn]
      exact fun _ _ _ _ _ _ _ => ⟨fun _ => ⟨L.k, hh μ1 g (fun t t0 t1 => z t t0 (by omega))⟩, fun y => absurd y (by omega)⟩
    | succ d ih =>
      intro i μ1 i0 hi g z
      apply g_X12_stone_227
      rw [wn, L.f3.1, L.f7.1, L.f8.1, w32_id (show i32 (40 * w) by unfold i32; omega), w32_id (show i32 (2 * i) by unfold i32; omega), w32_id (show i32 (40 * w + 2 * i) by unfold i32; omega), w32_id (show i32 (40 * w + 2 * i + 1) by unfold i32; omega), w32_id (show i32 (12 * s) by unfold i32; omega), w32_id (show i32 (12 * s + i) by unfold i32; omega), w32_id (show i32 (i + 1) by unfold i32; omega), L.f3.2.2, L.f7.2.2, L.f8.2.2]
      refine fun _ _ _ _ _ _ _ => ⟨fun y => absurd y (by omega), fun _ => ⟨L.k, L.f3.2.1, by omega, by omega, L.f7.2.1, by omega, by omega, fun μ2 m2 => ⟨L.f3.2.1, by omega, by omega, L.f8.2.1, by omega, by omega, fun μ3 m3 v e => ?_⟩⟩⟩
      rw [e]
      rw [g _ _ (by omega)] at m2
      have x3 : μ2 (M + 3) (40 * w + 2 * i + 1) = μ (M + 3) (40 * w + (2 * i + 1)) := by rw [m2, sx_oa (by omega), g _ _ (by omega), Int.add_assoc]
      rw [x3] at m3
      refine ih (i + 1) μ3 (by omega) (by omega) (fun b j h => ?_) (fun t t0 t1 => ?_)
      · rw [m3, st, if_neg (by omega), m2, st, if_neg (by omega)]; exact g b j h
      · by_cases q : t = i
        · rw [q, m3, sx_oa (by omega), sx_same, m2, sx_same]
          exact ⟨rfl, rfl⟩
        · rw [m3, sx_oa (by omega), sx_oi (by omega), m2, sx_oi (by omega), sx_oa (by omega)]
          exact z t t0 (by omega)
  exact O n.toNat 0 μ (by decide) (by omega) (fun _ _ _ => rfl) (fun t t0 t1 => absurd t1 (by omega))
