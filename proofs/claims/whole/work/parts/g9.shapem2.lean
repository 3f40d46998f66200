set_option maxHeartbeats 1000000
/-! ===== shapes: the reference's isShape ===== -/
theorem sp_X12_isShape {Q Y : m_Po} {ε : m_E} {μ : m_M} {M s n : Int} {u v : Int → Int} (H : PM ε μ M s n u v) (h1 : Sou u v n → Q 1 ε (st μ (M + 8) s (smA (tuA u v) n.toNat))) (h0 : ¬ Sou u v n → ∀ μ' : m_M, (∀ b j, ¬ (b = M + 8 ∧ j = s) → μ' b j = μ b j) → Q 0 ε μ') : o_X12_isShape [(2, M), (0, s)] ε μ Q Y := by
  have H' := H
  obtain ⟨L, s0, s1, n3, n12, hn, h⟩ := H
  have bu := H'.bu
  have bv := H'.bv
  have tb := fun i (i0 : (0 : Int) ≤ i) => tuA_ab bu bv (i := i) i0
  have h0' : ¬ Sou u v n → Q 0 ε μ := fun q => h0 q μ (fun _ _ _ => rfl)
  -- the faces
  have O2 : (∀ i, 0 ≤ i → i < n → ¬ nol u v i) → ∀ (d : Nat) (i : Int), 0 ≤ i → i + d = n → (∀ k, 0 ≤ k → k < i → gdd u v n k) → G cd_X12_isShape Q Y 119 [(0, (2, M)), (1, (0, s)), (2, (0, n)), (3, (0, smA (tuA u v) n.toNat)), (4, (0, i))] [] ε μ := by
    intro N d
    induction d with
    | zero =>
      intro i i0 hi g
      apply g_X12_isShape_119
      rw [L.f9.1]
      refine fun _ _ _ _ _ => ⟨fun _ => ⟨L.k, L.f9.2.1, s0, by rw [L.f9.2.2]; exact s1, fun μ1 m1 t ht => ?_⟩, fun y => absurd y (by omega)⟩
      by_cases z : smA (tuA u v) n.toNat ≤ 0
      · rw [if_pos z] at ht; rw [ht]; exact h0 (fun q => absurd q.2 (Int.not_lt.mpr z)) μ1 (fun b j q => by rw [m1, st, if_neg q])
      · rw [if_neg z] at ht; rw [ht, m1]; exact h1 ⟨fun k k0 k1 => g k k0 (by omega), Int.not_le.mp z⟩
    | succ d ih =>
      intro i i0 hi g
      have I : ¬ fob u v i → ∀ (d : Nat) (j : Int), i + 2 ≤ j → j ≤ n + 1 → n ≤ j + d → (∀ k, i + 2 ≤ k → k < j → k < n → ¬ (i = 0 ∧ k = n - 1) → ¬ mee u v i k) → G cd_X12_isShape Q Y 143 [(0, (2, M)), (1, (0, s)), (2, (0, n)), (3, (0, smA (tuA u v) n.toNat)), (4, (0, i)), (5, (0, j))] [] ε μ := by
        intro q2 d
        induction d with
        | zero =>
          intro j j0 j1 hj gm
          apply g_X12_isShape_143
          rw [w1_id i0 (by omega)]
          refine fun _ _ _ _ _ _ => ⟨fun _ w hw => ?_, fun y => absurd y (by omega)⟩
          rw [hw]
          refine ih (i + 1) (by omega) (by omega) (fun k k0 k1 => ?_)
          by_cases z : k = i
          · rw [z]; exact ⟨N i i0 (by omega), q2, fun m m0 m1 m2 => gm m m0 (by omega) m1 m2⟩
          · exact g k k0 (by omega)
        | succ d ihj =>
          intro j j0 j1 hj gm
          have nx' : j < n → (¬ (i = 0 ∧ j = n - 1) → ¬ mee u v i j) → G cd_X12_isShape Q Y 176 [(0, (2, M)), (1, (0, s)), (2, (0, n)), (3, (0, smA (tuA u v) n.toNat)), (4, (0, i)), (5, (0, j))] [] ε μ := fun jn q => by
            apply g_X12_isShape_176
            rw [w1_id (show 0 ≤ j by omega) (by omega)]
            intro _ _ _ _ _ _ w hw
            rw [hw]
            refine ihj (j + 1) (by omega) (by omega) (by omega) (fun k k0 k1 k2 k3 => ?_)
            by_cases z : k = j
            · rw [z] at k3 ⊢; exact q k3
            · exact gm k k0 (by omega) k2 k3
          have go : j < n → ¬ (i = 0 ∧ j = n - 1) → G cd_X12_isShape Q Y 162 [(0, (2, M)), (1, (0, s)), (2, (0, n)), (3, (0, smA (tuA u v) n.toNat)), (4, (0, i)), (5, (0, j))] [] ε μ := fun jn b => by
            apply g_X12_isShape_162
            refine fun _ _ _ _ _ _ => ⟨L.k, sp_X12_meet H' i0 (by omega) (by omega) jn (fun q => ?_) (fun q => ?_)⟩
            · apply g_X12_isShape_171
              exact fun _ _ _ _ _ _ _ => ⟨fun x => absurd x (by decide), fun _ => h0' (fun S => (S.1 i i0 (by omega)).2.2 j j0 jn b q)⟩
            · apply g_X12_isShape_171
              exact fun _ _ _ _ _ _ _ => ⟨fun _ => nx' jn (fun _ => q), fun x => absurd rfl x⟩
          apply g_X12_isShape_143
          rw [w1_id i0 (by omega), w32_id (show i32 (n - 1) by unfold i32; omega)]
          refine fun _ _ _ _ _ _ => ⟨fun _ w hw => ?_, fun jn => ⟨fun y => go jn (by omega), fun y => ⟨fun y2 => nx' jn (fun z => absurd (show i = 0 ∧ j = n - 1 by omega) z), fun y2 => go jn (by omega)⟩⟩⟩
          rw [hw]
          refine ih (i + 1) (by omega) (by omega) (fun k k0 k1 => ?_)
          by_cases z : k = i
          · rw [z]; exact ⟨N i i0 (by omega), q2, fun m m0 m1 m2 => gm m m0 (by omega) m1 m2⟩
          · exact g k k0 (by omega)
      apply g_X12_isShape_119
      refine fun _ _ _ _ _ => ⟨fun y => absurd y (by omega), fun _ => ⟨L.k, sp_X12_isFolded H' i0 (by omega) (fun q => ?_) (fun q => ?_)⟩⟩
      · apply g_X12_isShape_132
        exact fun _ _ _ _ _ _ => ⟨fun x => absurd x (by decide), fun _ => h0' (fun S => (S.1 i i0 (by omega)).2.1 q)⟩
      · apply g_X12_isShape_132
        rw [w2_id i0 (by omega)]
        refine fun _ _ _ _ _ _ => ⟨fun _ w hw => ?_, fun x => absurd rfl x⟩
        rw [hw]
        exact I q n.toNat (i + 2) (by omega) (by omega) (by omega) (fun k k0 k1 => absurd k1 (by omega))
  -- the lengths and the area
  have O1 : ∀ (d k : Nat), k + d = n.toNat → (∀ i, 0 ≤ i → i < (k : Int) → ¬ nol u v i) → G cd_X12_isShape Q Y 12 [(0, (2, M)), (1, (0, s)), (2, (0, n)), (3, (0, smA (tuA u v) k)), (4, (0, (k : Int)))] [] ε μ := by
    intro d
    induction d with
    | zero =>
      intro k hk g
      apply g_X12_isShape_12
      refine fun _ _ _ _ _ => ⟨fun _ w hw => ?_, fun y => absurd y (by omega)⟩
      rw [hw, show k = n.toNat by omega]
      exact O2 (fun i i0 i1 => g i i0 (by omega)) n.toNat 0 (by decide) (by omega) (fun k k0 k1 => absurd k1 (by omega))
    | succ d ih =>
      intro k hk g
      have k0 : (0 : Int) ≤ (k : Int) := by omega
      apply g_X12_isShape_12
      rw [L.f7.1, L.f8.1, L.f7.2.2, L.f8.2.2]
      refine fun _ _ _ _ _ => ⟨fun y => absurd y (by omega), fun _ v5 e5 => ⟨by omega, fun v6 e6 => ?_⟩⟩
      obtain ⟨q1, q2, x5, y5⟩ := H'.a0 k0 (by omega) e5
      obtain ⟨q3, q4, x6, y6⟩ := H'.at (show (0 : Int) ≤ k + 1 by omega) (by omega) e6
      clear e5 e6
      have p1 := abm (bu k k0) (bv (k + 1) (by omega))
      have p2 := abm (bu (k + 1) (by omega)) (bv k k0)
      have b1 : ab (smA (tuA u v) (k + 1)) 240000 := smA_12 (by omega) (by decide) (by decide) tb
      have z76 : ¬ nol u v k → G cd_X12_isShape Q Y 76 [(0, (2, M)), (1, (0, s)), (2, (0, n)), (3, (0, smA (tuA u v) k)), (4, (0, (k : Int))), (5, (0, v5)), (6, (0, v6))] [] ε μ := fun q => by
        apply g_X12_isShape_76
        rw [L.f7.1, L.f8.1, L.f7.2.2, L.f8.2.2, x5, y5, x6, y6]
        refine fun _ _ _ _ _ _ _ => ⟨L.k, L.f7.2.1, q1, q2, L.f8.2.1, q3, q4, q4, q2, fun w ew w' ew' => ?_⟩
        rw [w32_ab p1 (by decide), w32_ab p2 (by decide), w32_ab (ab_sub p1 p2) (by decide)] at ew
        have e1 : w = smA (tuA u v) (k + 1) := by rw [ew]; exact w32_ab b1 (by decide)
        have e2 : w' = ((k + 1 : Nat) : Int) := by rw [ew', w1_id k0 (by omega)]; omega
        rw [e1, e2]
        clear e1 e2 ew ew' p1 p2 b1 x5 y5 x6 y6
        refine ih (k + 1) (by omega) (fun i i0 i1 => ?_)
        by_cases z : i = k
        · rw [z]; exact q
        · exact g i i0 (by omega)
      rw [x5, y5, x6, y6]
      refine ⟨L.k, L.f7.2.1, q1, q2, q3, q4, fun y => z76 (fun z => y z.1), fun y => ⟨L.f8.2.1, q2, q4, fun y' => z76 (fun z => y' z.2), fun y' => h0' (fun S => (S.1 k k0 (by omega)).1 ⟨y, y'⟩)⟩⟩
  apply e_X12_isShape
  rw [L.f6.1, L.f6.2.2, hn]
  refine fun _ _ => ⟨L.k, L.f6.2.1, s0, s1, fun v2 e2 v3 e3 v4 e4 => ?_⟩
  rw [e2, e3, e4]
  exact O1 n.toNat 0 (by omega) (fun k k0 k1 => absurd k1 (by omega))
