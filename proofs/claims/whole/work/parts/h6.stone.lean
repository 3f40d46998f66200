set_option maxHeartbeats 1000000
/-! ===== pair of calls: stone, its pieces ===== -/
def mb (kind part : Int) : Prop := 0 ≤ kind ∧ kind ≤ 4 ∧ ((kind = 4 ∧ 0 ≤ part ∧ part ≤ 99) ∨ (kind ≠ 4 ∧ part = 0))
theorem sp_X7_mayBe {Q Y : m_Po} {ε : m_E} {μ : m_M} {kind part : Int} (h1 : mb kind part → Q 1 ε μ) (h0 : ¬ mb kind part → Q 0 ε μ) : o_X7_mayBe [(0, kind), (0, part)] ε μ Q Y := by
  apply e_X7_mayBe
  unfold mb at h1 h0
  refine fun _ _ _ => ⟨fun a => h0 (by omega), fun a => ⟨fun b t ht => ?_, fun b => h0 (by omega)⟩⟩
  by_cases c : kind = 4
  · rw [if_pos c] at ht
    by_cases d : part < 0
    · rw [if_pos d] at ht; rw [ht]; exact h0 (by omega)
    · rw [if_neg d] at ht
      by_cases d' : 99 < part
      · rw [if_pos d'] at ht; rw [ht]; exact h0 (by omega)
      · rw [if_neg d'] at ht; rw [ht]; exact h1 (by omega)
  · rw [if_neg c] at ht
    by_cases d : part = 0
    · rw [if_pos d] at ht; rw [ht]; exact h1 (by omega)
    · rw [if_neg d] at ht; rw [ht]; exact h0 (by omega)
theorem mb_t {kind part t : Int} (ht : t = (if kind < 0 then 2 else if (4 : Int) < kind then 2 else if part < 0 then 2 else if (99 : Int) < part then 2 else if kind = (4 : Int) then 0 else if part = 0 then 0 else 2)) : (mb kind part ∧ t = 0) ∨ (¬ mb kind part ∧ t = 2) := by
  unfold mb
  by_cases a : kind < 0
  · rw [if_pos a] at ht; exact Or.inr ⟨by omega, ht⟩
  rw [if_neg a] at ht
  by_cases b : 4 < kind
  · rw [if_pos b] at ht; exact Or.inr ⟨by omega, ht⟩
  rw [if_neg b] at ht
  by_cases c : part < 0
  · rw [if_pos c] at ht; exact Or.inr ⟨by omega, ht⟩
  rw [if_neg c] at ht
  by_cases d : 99 < part
  · rw [if_pos d] at ht; exact Or.inr ⟨by omega, ht⟩
  rw [if_neg d] at ht
  by_cases e : kind = 4
  · rw [if_pos e] at ht; exact Or.inl ⟨by omega, ht⟩
  rw [if_neg e] at ht
  by_cases g : part = 0
  · rw [if_pos g] at ht; exact Or.inl ⟨by omega, ht⟩
  rw [if_neg g] at ht; exact Or.inr ⟨by omega, ht⟩
theorem stone_lead {Q Y : m_Po} {ε : m_E} {μ : m_M} {M r k kind part N : Int} (L : LM ε M) (r0 : 0 ≤ r) (r1 : r < μ M 4) (r8 : μ M 4 ≤ 8) (k0 : 0 ≤ k) (k1 : k < 40) (m : mb kind part) (hN : μ (M + 2) (40 * r + k) = N) (h1 : N = -1 → Q (-1) ε (st μ M 0 0)) (h2 : N ≠ -1 → (N < 6 ∨ 24 < N ∨ N % 2 = 1) → Q (-2) ε (st μ M 0 0)) (h3 : 6 ≤ N → N ≤ 24 → N % 2 = 0 → G cd_X12_stone Q Y 113 [(0, (2, M)), (1, (0, kind)), (4, (0, part)), (5, (0, 40 * r + k)), (6, (0, N)), (7, (0, 0))] [] ε (st μ M 0 0)) : o_X12_stone [(2, M), (0, kind), (0, r), (0, k), (0, part)] ε μ Q Y := by
  apply e_X12_stone
  refine fun _ _ _ _ _ => ⟨L.k, sp_X12_isRow L (fun _ _ _ _ => ?_) (fun z => by omega)⟩
  apply g_X12_stone_6
  refine fun _ _ _ _ _ _ => ⟨fun _ t ht => ⟨L.k, fun μ1 m1 => ⟨L.k, ?_⟩⟩, fun z => absurd z (by decide)⟩
  have e0 : t = 0 := by
    rcases mb_t ht with z | z
    · exact z.2
    · exact absurd m z.1
  rw [e0, st_st] at m1
  rw [m1, sx_same]
  refine ⟨fun _ v5 e5 => ?_, fun z => absurd z (by decide)⟩
  rw [w32_id (show i32 (40 * r) by unfold i32; omega), w32_id (show i32 (40 * r + k) by unfold i32; omega)] at e5
  rw [L.f2.1, L.f2.2.2, e5, sx_oa (by omega), hN]
  refine ⟨L.f2.2.1, by omega, by omega, fun v6 e6 => ?_⟩
  rw [e6]
  refine ⟨fun a => ⟨fun b => h2 a (by omega), fun b => ⟨fun c => h2 a (by omega), fun c => ?_⟩⟩, fun a => h1 a⟩
  rw [Int.tmod_eq_emod_of_nonneg (by omega)]
  exact ⟨fun d v7 e7 => by rw [e7]; exact h3 b c (by omega), fun d => h2 a (by omega)⟩
theorem stone_113 {Q Y : m_Po} {ε : m_E} {μ : m_M} {M w kind part n c : Int} (L : LM ε M) (w0 : 0 ≤ w) (w1 : w < 320) (n3 : 3 ≤ n) (n12 : n ≤ 12) (hc : μ M 14 = c) (c0 : 0 ≤ c) (c1 : c ≤ 120) (h3 : ∀ i, 0 ≤ i → i < 2 * n → far1 (μ (M + 3) (40 * w + i)) → Q (-3) ε μ) (h4 : (∀ i, 0 ≤ i → i < 2 * n → ¬ far1 (μ (M + 3) (40 * w + i))) → (c ≠ 120 → G cd_X12_stone Q Y 227 [(0, (2, M)), (1, (0, kind)), (4, (0, part)), (5, (0, w)), (6, (0, 2 * n)), (7, (0, c)), (8, (0, 0))] [] ε (st μ (M + 5) c n)) ∧ (c = 120 → o_X12_isShapeOf [(2, M), (0, w), (0, 2 * n)] ε μ (fun z ε_1 μ_2 => G cd_X12_stone Q Y 202 [] [(0, z)] ε_1 μ_2) m_F)) : G cd_X12_stone Q Y 113 [(0, (2, M)), (1, (0, kind)), (4, (0, part)), (5, (0, w)), (6, (0, 2 * n)), (7, (0, 0))] [] ε μ := by
  have O : ∀ (d : Nat) (i : Int), 0 ≤ i → i + d = 2 * n → (∀ t, 0 ≤ t → t < i → ¬ far1 (μ (M + 3) (40 * w + t))) → G cd_X12_stone Q Y 113 [(0, (2, M)), (1, (0, kind)), (4, (0, part)), (5, (0, w)), (6, (0, 2 * n)), (7, (0, i))] [] ε μ := by
    intro d
    induction d with
    | zero =>
      intro i i0 hi z
      have h5 := h4 (fun t t0 t1 => z t t0 (by omega))
      apply g_X12_stone_113
      rw [hc, L.f6.1, L.f6.2.2, Int.tdiv_eq_ediv_of_nonneg (show 0 ≤ 2 * n by omega), show 2 * n / 2 = n by omega, w32_id (show i32 n by unfold i32; omega)]
      refine fun _ _ _ _ _ _ => ⟨fun _ => ⟨L.k, fun t ht v7 e7 => ⟨L.k, fun q => ?_, fun q => h5.2 q⟩⟩, fun y => absurd y (by omega)⟩
      rw [if_neg q] at ht
      rw [e7, ht]
      refine ⟨L.f6.2.1, c0, by omega, fun μ1 m1 v8 e8 => ?_⟩
      rw [m1, e8]
      exact h5.1 q
    | succ d ih =>
      intro i i0 hi z
      apply g_X12_stone_113
      rw [L.f3.1, L.f3.2.2, w32_id (show i32 (40 * w) by unfold i32; omega), w32_id (show i32 (40 * w + i) by unfold i32; omega), w32_id (show i32 (i + 1) by unfold i32; omega)]
      refine fun _ _ _ _ _ _ => ⟨fun y => absurd y (by omega), fun _ => ⟨L.k, L.f3.2.1, by omega, by omega, fun q => h3 i i0 (by omega) (Or.inl q), fun q => ⟨fun q' v e => ?_, fun q' => h3 i i0 (by omega) (Or.inr q')⟩⟩⟩
      rw [e]
      refine ih (i + 1) (by omega) (by omega) (fun t t0 t1 => ?_)
      by_cases y : t = i
      · rw [y]; unfold far1; omega
      · exact z t t0 (by omega)
  exact O (2 * n).toNat 0 (by decide) (by omega) (fun t t0 t1 => absurd t1 (by omega))
/-- no stone came: class and reference are in one state -/
theorem stone_no {ε ε' : m_E} {μ μ3 : m_M} {X A n : Int} {ow R : Int → Int} (S : SL ε X) (G' : RG ε μ (X + 34) R) (J : JV μ (X + 20) (X + 34) R) (P : PG μ (X + 29) (X + 34)) (C : Core ε μ X ow (sgM μ (X + 34))) (B : ∀ b, 0 ≤ kd ε b → b < A) (hA : X + 141 < A) (E : EX ε ε') (hn : sgM μ (X + 34) 0 14 = n) (f : ∀ b j, b < A → b ≠ X + 141 → ¬ (b = X + 34 ∧ j = 0) → ¬ stc X n b j → b ≠ X + 34 + 13 → b ≠ X + 34 + 14 → μ3 b j = μ b j) : Rel ε' μ3 X := by
  have ns : ∀ b j, b < X + 34 + 4 ∨ X + 34 + 12 < b → ¬ stc X n b j := fun b j h z => by unfold stc at z; omega
  have c1 := C.2.2.1.1
  have c2 := C.2.2.1.2.2.1
  have e14 : sgM μ (X + 34) 0 14 = μ (X + 34) 14 := by unfold sgM; rw [Int.add_zero]
  refine Rel.mk' (ow := fun b => if b = A then 3 * n + 1 else ow b) S G' J P E (fun b j h => ?_) (C.newstone B hA E hn (m := n) (by omega) (by omega) (fun b j h0 h1 h2 h3 h4 h5 => ?_) ?_ ?_ (by omega) (fun z => absurd z (by omega)))
  · unfold kpt at h
    exact f _ _ (by omega) (by omega) (by omega) (ns _ _ (by omega)) (by omega) (by omega)
  · exact f b j h0 (fun z => h1 (Or.inr (Or.inl z))) (fun z => h1 (Or.inr (Or.inr (Or.inr (Or.inr (Or.inr (Or.inr ⟨z.1, Or.inl z.2⟩))))))) h5 (fun z => h1 (Or.inr (Or.inr (Or.inr (Or.inr (Or.inl z)))))) (fun z => h1 (Or.inr (Or.inr (Or.inr (Or.inr (Or.inr (Or.inl z)))))))
  · rw [f _ _ (by omega) (by omega) (by omega) (ns _ _ (by omega)) (by omega) (by omega), c1, hn]
  · rw [f _ _ (by omega) (by omega) (by omega) (ns _ _ (by omega)) (by omega) (by omega), ← e14, hn]
