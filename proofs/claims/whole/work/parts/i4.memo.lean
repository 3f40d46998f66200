set_option maxHeartbeats 1000000
/-! ===== grows: the reference's memo ===== -/
def FG (M : Int) (μ μ' : m_M) : Prop := ∀ b j, (b < M + 26 ∨ M + 30 < b) → b ≠ M + 44 → b ≠ M + 45 → b ≠ M + 46 → ¬ (b = M ∧ (j = 35 ∨ (42 ≤ j ∧ j ≤ 49))) → b ≠ M + 106 → μ' b j = μ b j
theorem FG.trans {M : Int} {μ μ' μ'' : m_M} (h : FG M μ μ') (k : FG M μ' μ'') : FG M μ μ'' := fun b j h1 h2 h3 h4 h5 h6 => (k b j h1 h2 h3 h4 h5 h6).trans (h b j h1 h2 h3 h4 h5 h6)
theorem FR5.fg {M : Int} {μ μ' : m_M} (h : FR5 M μ μ') : FG M μ μ' := fun b j h1 h2 h3 h4 h5 _ => h b j h1 h2 h3 h4 h5
theorem WM.fg {μ μ' σ : m_M} {M a : Int} (H : WM μ σ M a) (f : FG M μ μ') : WM μ' σ M a := by
  obtain ⟨h1, h2, h3, h4, h5, h6, h7, h8, h9, h10⟩ := H
  refine ⟨h1, h2, h3, h4, h5, h6, h7, h8, fun o j ho1 ho2 => ?_, ?_⟩
  · rw [f _ _ (by omega) (by omega) (by omega) (by omega) (by omega) (by omega)]; exact h9 o j ho1 ho2
  · have e : μ' (M + 25) = μ (M + 25) := funext fun j => f _ _ (by omega) (by omega) (by omega) (by omega) (by omega) (by omega)
    rw [e]; exact h10
def Mem (μ σ : m_M) (M a : Int) : Prop := ∀ i j, 0 ≤ i → i ≤ j → j < σ 15 a → μ (M + 106) (10 * i + j) = 0 ∨ (μ (M + 106) (10 * i + j) = 1 ∧ Grw σ a i j) ∨ (μ (M + 106) (10 * i + j) = 2 ∧ ¬ Grw σ a i j)
theorem Mem.r5 {μ μ' σ : m_M} {M a : Int} (H : Mem μ σ M a) (f : FR5 M μ μ') : Mem μ' σ M a := fun i j i0 ij jn => by
  rw [f _ _ (by omega) (by omega) (by omega) (by omega) (by omega)]; exact H i j i0 ij jn
def GS (o : m_O) (k : Int) : Prop := ∀ {Q Y : m_Po} {ε : m_E} {μ σ : m_M} {M a i j : Int}, LM ε M → WM μ σ M a → Mem μ σ M a → 0 ≤ i → i ≤ j → j < σ 15 a → σ 15 a - (j - i) ≤ k → (∀ μ', FG M μ μ' → Mem μ' σ M a → Grw σ a i j → Q 1 ε μ') → (∀ μ', FG M μ μ' → Mem μ' σ M a → ¬ Grw σ a i j → Q 0 ε μ') → o [(2, M), (0, a), (0, i), (0, j)] ε μ Q Y
theorem gs_0 : GS o_X12_gr0 0 := fun _ _ _ _ _ _ h => by omega
theorem gs_1 : GS o_X12_gr1 1 := by
  intro Q Y ε μ σ M a i j L W E i0 ij jn kk h1 h0
  have n1 := W.1.2.2.1
  have n10 := W.1.2.2.2.1
  have a0 := W.1.1
  have a1 := W.1.2.1
  have S15 : ∀ μ' : m_M, WM μ' σ M a → μ' (M + 15) a = σ 15 a := fun μ' W' => W'.2.2.2.2.2.2.2.2.1 15 a (by decide) (by decide)
  have fin : ∀ (μ' : m_M) (t : Int), FG M μ μ' → Mem μ' σ M a → ((t = 1 ∧ Grw σ a i j) ∨ (t = 2 ∧ ¬ Grw σ a i j)) → G cd_X12_gr1 Q Y 95 [(0, (2, M)), (5, (0, 10 * i + j))] [(0, t), (0, 10 * i + j), (2, M + 106)] ε μ' := fun μ' t f E' ht => by
    apply g_X12_gr1_95
    refine fun _ _ _ _ => ⟨L.f65.2.1, by omega, by rw [L.f65.2.2]; omega, fun μ2 m2 => ?_⟩
    apply g_X12_gr1_96
    rw [L.f65.1, L.f65.2.2, m2, sx_same]
    refine fun _ _ => ⟨L.k, L.f65.2.1, by omega, by omega, fun t' ht' => ?_⟩
    have f2 : FG M μ (st μ' (M + 106) (10 * i + j) t) := fun b j' q1 q2 q3 q4 q5 q6 => by rw [sx_oa q6]; exact f b j' q1 q2 q3 q4 q5 q6
    have E2 : Mem (st μ' (M + 106) (10 * i + j) t) σ M a := fun i' j' p0 p1 p2 => by
      by_cases z : 10 * i' + j' = 10 * i + j
      · have ei : i' = i := by omega
        have ej : j' = j := by omega
        rw [ei, ej, sx_same]; exact Or.inr ht
      · rw [sx_oi z]; exact E' i' j' p0 p1 p2
    rcases ht with ⟨e, g⟩ | ⟨e, g⟩
    · rw [if_pos e] at ht'; rw [ht']; exact h1 _ f2 E2 g
    · rw [if_neg (by omega)] at ht'; rw [ht']; exact h0 _ f2 E2 g
  have y90 : ∀ μ' : m_M, FG M μ μ' → Mem μ' σ M a → Grw σ a i j → G cd_X12_gr1 Q Y 90 [(0, (2, M)), (5, (0, 10 * i + j))] [(0, 10 * i + j), (2, M + 106)] ε μ' := fun μ' f E' g => by
    apply g_X12_gr1_90
    exact fun _ _ _ => fin μ' 1 f E' (Or.inl ⟨rfl, g⟩)
  have y94 : ∀ μ' : m_M, FG M μ μ' → Mem μ' σ M a → ¬ Grw σ a i j → G cd_X12_gr1 Q Y 94 [(0, (2, M)), (5, (0, 10 * i + j))] [(0, 10 * i + j), (2, M + 106)] ε μ' := fun μ' f E' g => by
    apply g_X12_gr1_94
    exact fun _ _ _ => fin μ' 2 f E' (Or.inr ⟨rfl, g⟩)
  have st' := Grw.step i0 ij jn
  have wn : w32 (σ 15 a - 1) = σ 15 a - 1 := w32_id (by unfold i32; omega)
  have y70 : ∀ μ' : m_M, FG M μ μ' → Mem μ' σ M a → Stk σ a i j → ¬ (i = 0 ∧ j = σ 15 a - 1) → ¬ (0 < i ∧ Grw σ a (i - 1) j) → G cd_X12_gr1 Q Y 70 [(0, (2, M)), (1, (0, a)), (2, (0, i)), (3, (0, j)), (4, (0, σ 15 a)), (5, (0, 10 * i + j))] [(0, 10 * i + j), (2, M + 106)] ε μ' := fun μ' f E' s w1 w2 => by
    apply g_X12_gr1_70
    rw [wn, w32_id (show i32 (j + 1) by unfold i32; omega)]
    refine fun _ _ _ _ _ _ _ => ⟨fun q => y94 μ' f E' (fun g => ?_), fun q => ⟨L.k, gs_0 L (W.fg f) E' i0 (by omega) (by omega) (by omega) (fun μ2 f2 E2 g => ?_) (fun μ2 f2 E2 g => ?_)⟩⟩
    · rcases (st'.mp g).2 with z | z | z
      · exact w1 z
      · exact w2 z
      · omega
    · apply g_X12_gr1_87
      exact fun _ _ _ _ => ⟨fun z => absurd z (by decide), fun _ => y90 μ2 (f.trans f2) E2 (st'.mpr ⟨s, Or.inr (Or.inr ⟨by omega, g⟩)⟩)⟩
    · apply g_X12_gr1_87
      refine fun _ _ _ _ => ⟨fun _ => y94 μ2 (f.trans f2) E2 (fun g' => ?_), fun z => absurd rfl z⟩
      rcases (st'.mp g').2 with z | z | z
      · exact w1 z
      · exact w2 z
      · exact g z.2
  have y54 : ∀ μ' : m_M, FG M μ μ' → Mem μ' σ M a → Stk σ a i j → ¬ (i = 0 ∧ j = σ 15 a - 1) → G cd_X12_gr1 Q Y 54 [(0, (2, M)), (1, (0, a)), (2, (0, i)), (3, (0, j)), (4, (0, σ 15 a)), (5, (0, 10 * i + j))] [(0, 10 * i + j), (2, M + 106)] ε μ' := fun μ' f E' s w1 => by
    apply g_X12_gr1_54
    rw [w32_id (show i32 (i - 1) by unfold i32; omega)]
    refine fun _ _ _ _ _ _ _ => ⟨fun q => y70 μ' f E' s w1 (by omega), fun q => ⟨L.k, gs_0 L (W.fg f) E' (by omega) (by omega) jn (by omega) (fun μ2 f2 E2 g => ?_) (fun μ2 f2 E2 g => ?_)⟩⟩
    · apply g_X12_gr1_67
      exact fun _ _ _ _ _ _ _ _ => ⟨fun _ => y90 μ2 (f.trans f2) E2 (st'.mpr ⟨s, Or.inr (Or.inl ⟨q, g⟩)⟩), fun z => absurd z (by decide)⟩
    · apply g_X12_gr1_67
      exact fun _ _ _ _ _ _ _ _ => ⟨fun z => absurd rfl z, fun _ => y70 μ2 (f.trans f2) E2 s w1 (fun z => g z.2)⟩
  apply e_X12_gr1
  rw [L.f17.1, L.f65.1, L.f17.2.2, L.f65.2.2, S15 μ W]
  refine fun _ _ _ _ => ⟨L.k, L.f17.2.1, a0, a1, fun v4 e4 v5 e5 => ?_⟩
  rw [w32_id (show i32 (10 * i) by unfold i32; omega), w32_id (show i32 (10 * i + j) by unfold i32; omega)] at e5
  rw [e4, e5]
  refine ⟨L.k, L.f65.2.1, by omega, by omega, fun q => ?_, fun q => sp_X12_strikes L W i0 ij jn (fun μ2 f2 s => ?_) (fun μ2 f2 s => ?_)⟩
  · apply g_X12_gr1_96
    rw [L.f65.1, L.f65.2.2]
    refine fun _ _ => ⟨L.k, L.f65.2.1, by omega, by omega, fun t ht => ?_⟩
    rcases E i j i0 ij jn with z | ⟨z, g⟩ | ⟨z, g⟩
    · exact absurd z q
    · rw [if_pos z] at ht; rw [ht]; exact h1 μ (fun _ _ _ _ _ _ _ _ => rfl) E g
    · rw [if_neg (by omega)] at ht; rw [ht]; exact h0 μ (fun _ _ _ _ _ _ _ _ => rfl) E g
  · apply g_X12_gr1_39
    rw [wn]
    refine fun _ _ _ _ _ _ _ _ => ⟨fun z => absurd z (by decide), fun _ => ⟨fun z => y54 μ2 f2.fg (E.r5 f2) s (by omega), fun z => ⟨fun z' => y90 μ2 f2.fg (E.r5 f2) (st'.mpr ⟨s, Or.inl ⟨z, z'⟩⟩), fun z' => y54 μ2 f2.fg (E.r5 f2) s (fun y => z' y.2)⟩⟩⟩
  · apply g_X12_gr1_39
    exact fun _ _ _ _ _ _ _ _ => ⟨fun _ => y94 μ2 f2.fg (E.r5 f2) (fun g => s (st'.mp g).1), fun z => absurd rfl z⟩
theorem gs_2 : GS o_X12_gr2 2 := by
  intro Q Y ε μ σ M a i j L W E i0 ij jn kk h1 h0
  have n1 := W.1.2.2.1
  have n10 := W.1.2.2.2.1
  have a0 := W.1.1
  have a1 := W.1.2.1
  have S15 : ∀ μ' : m_M, WM μ' σ M a → μ' (M + 15) a = σ 15 a := fun μ' W' => W'.2.2.2.2.2.2.2.2.1 15 a (by decide) (by decide)
  have fin : ∀ (μ' : m_M) (t : Int), FG M μ μ' → Mem μ' σ M a → ((t = 1 ∧ Grw σ a i j) ∨ (t = 2 ∧ ¬ Grw σ a i j)) → G cd_X12_gr2 Q Y 95 [(0, (2, M)), (5, (0, 10 * i + j))] [(0, t), (0, 10 * i + j), (2, M + 106)] ε μ' := fun μ' t f E' ht => by
    apply g_X12_gr2_95
    refine fun _ _ _ _ => ⟨L.f65.2.1, by omega, by rw [L.f65.2.2]; omega, fun μ2 m2 => ?_⟩
    apply g_X12_gr2_96
    rw [L.f65.1, L.f65.2.2, m2, sx_same]
    refine fun _ _ => ⟨L.k, L.f65.2.1, by omega, by omega, fun t' ht' => ?_⟩
    have f2 : FG M μ (st μ' (M + 106) (10 * i + j) t) := fun b j' q1 q2 q3 q4 q5 q6 => by rw [sx_oa q6]; exact f b j' q1 q2 q3 q4 q5 q6
    have E2 : Mem (st μ' (M + 106) (10 * i + j) t) σ M a := fun i' j' p0 p1 p2 => by
      by_cases z : 10 * i' + j' = 10 * i + j
      · have ei : i' = i := by omega
        have ej : j' = j := by omega
        rw [ei, ej, sx_same]; exact Or.inr ht
      · rw [sx_oi z]; exact E' i' j' p0 p1 p2
    rcases ht with ⟨e, g⟩ | ⟨e, g⟩
    · rw [if_pos e] at ht'; rw [ht']; exact h1 _ f2 E2 g
    · rw [if_neg (by omega)] at ht'; rw [ht']; exact h0 _ f2 E2 g
  have y90 : ∀ μ' : m_M, FG M μ μ' → Mem μ' σ M a → Grw σ a i j → G cd_X12_gr2 Q Y 90 [(0, (2, M)), (5, (0, 10 * i + j))] [(0, 10 * i + j), (2, M + 106)] ε μ' := fun μ' f E' g => by
    apply g_X12_gr2_90
    exact fun _ _ _ => fin μ' 1 f E' (Or.inl ⟨rfl, g⟩)
  have y94 : ∀ μ' : m_M, FG M μ μ' → Mem μ' σ M a → ¬ Grw σ a i j → G cd_X12_gr2 Q Y 94 [(0, (2, M)), (5, (0, 10 * i + j))] [(0, 10 * i + j), (2, M + 106)] ε μ' := fun μ' f E' g => by
    apply g_X12_gr2_94
    exact fun _ _ _ => fin μ' 2 f E' (Or.inr ⟨rfl, g⟩)
  have st' := Grw.step i0 ij jn
  have wn : w32 (σ 15 a - 1) = σ 15 a - 1 := w32_id (by unfold i32; omega)
  have y70 : ∀ μ' : m_M, FG M μ μ' → Mem μ' σ M a → Stk σ a i j → ¬ (i = 0 ∧ j = σ 15 a - 1) → ¬ (0 < i ∧ Grw σ a (i - 1) j) → G cd_X12_gr2 Q Y 70 [(0, (2, M)), (1, (0, a)), (2, (0, i)), (3, (0, j)), (4, (0, σ 15 a)), (5, (0, 10 * i + j))] [(0, 10 * i + j), (2, M + 106)] ε μ' := fun μ' f E' s w1 w2 => by
    apply g_X12_gr2_70
    rw [wn, w32_id (show i32 (j + 1) by unfold i32; omega)]
    refine fun _ _ _ _ _ _ _ => ⟨fun q => y94 μ' f E' (fun g => ?_), fun q => ⟨L.k, gs_1 L (W.fg f) E' i0 (by omega) (by omega) (by omega) (fun μ2 f2 E2 g => ?_) (fun μ2 f2 E2 g => ?_)⟩⟩
    · rcases (st'.mp g).2 with z | z | z
      · exact w1 z
      · exact w2 z
      · omega
    · apply g_X12_gr2_87
      exact fun _ _ _ _ => ⟨fun z => absurd z (by decide), fun _ => y90 μ2 (f.trans f2) E2 (st'.mpr ⟨s, Or.inr (Or.inr ⟨by omega, g⟩)⟩)⟩
    · apply g_X12_gr2_87
      refine fun _ _ _ _ => ⟨fun _ => y94 μ2 (f.trans f2) E2 (fun g' => ?_), fun z => absurd rfl z⟩
      rcases (st'.mp g').2 with z | z | z
      · exact w1 z
      · exact w2 z
      · exact g z.2
  have y54 : ∀ μ' : m_M, FG M μ μ' → Mem μ' σ M a → Stk σ a i j → ¬ (i = 0 ∧ j = σ 15 a - 1) → G cd_X12_gr2 Q Y 54 [(0, (2, M)), (1, (0, a)), (2, (0, i)), (3, (0, j)), (4, (0, σ 15 a)), (5, (0, 10 * i + j))] [(0, 10 * i + j), (2, M + 106)] ε μ' := fun μ' f E' s w1 => by
    apply g_X12_gr2_54
    rw [w32_id (show i32 (i - 1) by unfold i32; omega)]
    refine fun _ _ _ _ _ _ _ => ⟨fun q => y70 μ' f E' s w1 (by omega), fun q => ⟨L.k, gs_1 L (W.fg f) E' (by omega) (by omega) jn (by omega) (fun μ2 f2 E2 g => ?_) (fun μ2 f2 E2 g => ?_)⟩⟩
    · apply g_X12_gr2_67
      exact fun _ _ _ _ _ _ _ _ => ⟨fun _ => y90 μ2 (f.trans f2) E2 (st'.mpr ⟨s, Or.inr (Or.inl ⟨q, g⟩)⟩), fun z => absurd z (by decide)⟩
    · apply g_X12_gr2_67
      exact fun _ _ _ _ _ _ _ _ => ⟨fun z => absurd rfl z, fun _ => y70 μ2 (f.trans f2) E2 s w1 (fun z => g z.2)⟩
  apply e_X12_gr2
  rw [L.f17.1, L.f65.1, L.f17.2.2, L.f65.2.2, S15 μ W]
  refine fun _ _ _ _ => ⟨L.k, L.f17.2.1, a0, a1, fun v4 e4 v5 e5 => ?_⟩
  rw [w32_id (show i32 (10 * i) by unfold i32; omega), w32_id (show i32 (10 * i + j) by unfold i32; omega)] at e5
  rw [e4, e5]
  refine ⟨L.k, L.f65.2.1, by omega, by omega, fun q => ?_, fun q => sp_X12_strikes L W i0 ij jn (fun μ2 f2 s => ?_) (fun μ2 f2 s => ?_)⟩
  · apply g_X12_gr2_96
    rw [L.f65.1, L.f65.2.2]
    refine fun _ _ => ⟨L.k, L.f65.2.1, by omega, by omega, fun t ht => ?_⟩
    rcases E i j i0 ij jn with z | ⟨z, g⟩ | ⟨z, g⟩
    · exact absurd z q
    · rw [if_pos z] at ht; rw [ht]; exact h1 μ (fun _ _ _ _ _ _ _ _ => rfl) E g
    · rw [if_neg (by omega)] at ht; rw [ht]; exact h0 μ (fun _ _ _ _ _ _ _ _ => rfl) E g
  · apply g_X12_gr2_39
    rw [wn]
    refine fun _ _ _ _ _ _ _ _ => ⟨fun z => absurd z (by decide), fun _ => ⟨fun z => y54 μ2 f2.fg (E.r5 f2) s (by omega), fun z => ⟨fun z' => y90 μ2 f2.fg (E.r5 f2) (st'.mpr ⟨s, Or.inl ⟨z, z'⟩⟩), fun z' => y54 μ2 f2.fg (E.r5 f2) s (fun y => z' y.2)⟩⟩⟩
  · apply g_X12_gr2_39
    exact fun _ _ _ _ _ _ _ _ => ⟨fun _ => y94 μ2 f2.fg (E.r5 f2) (fun g => s (st'.mp g).1), fun z => absurd rfl z⟩
theorem gs_3 : GS o_X12_gr3 3 := by
  intro Q Y ε μ σ M a i j L W E i0 ij jn kk h1 h0
  have n1 := W.1.2.2.1
  have n10 := W.1.2.2.2.1
  have a0 := W.1.1
  have a1 := W.1.2.1
  have S15 : ∀ μ' : m_M, WM μ' σ M a → μ' (M + 15) a = σ 15 a := fun μ' W' => W'.2.2.2.2.2.2.2.2.1 15 a (by decide) (by decide)
  have fin : ∀ (μ' : m_M) (t : Int), FG M μ μ' → Mem μ' σ M a → ((t = 1 ∧ Grw σ a i j) ∨ (t = 2 ∧ ¬ Grw σ a i j)) → G cd_X12_gr3 Q Y 95 [(0, (2, M)), (5, (0, 10 * i + j))] [(0, t), (0, 10 * i + j), (2, M + 106)] ε μ' := fun μ' t f E' ht => by
    apply g_X12_gr3_95
    refine fun _ _ _ _ => ⟨L.f65.2.1, by omega, by rw [L.f65.2.2]; omega, fun μ2 m2 => ?_⟩
    apply g_X12_gr3_96
    rw [L.f65.1, L.f65.2.2, m2, sx_same]
    refine fun _ _ => ⟨L.k, L.f65.2.1, by omega, by omega, fun t' ht' => ?_⟩
    have f2 : FG M μ (st μ' (M + 106) (10 * i + j) t) := fun b j' q1 q2 q3 q4 q5 q6 => by rw [sx_oa q6]; exact f b j' q1 q2 q3 q4 q5 q6
    have E2 : Mem (st μ' (M + 106) (10 * i + j) t) σ M a := fun i' j' p0 p1 p2 => by
      by_cases z : 10 * i' + j' = 10 * i + j
      · have ei : i' = i := by omega
        have ej : j' = j := by omega
        rw [ei, ej, sx_same]; exact Or.inr ht
      · rw [sx_oi z]; exact E' i' j' p0 p1 p2
    rcases ht with ⟨e, g⟩ | ⟨e, g⟩
    · rw [if_pos e] at ht'; rw [ht']; exact h1 _ f2 E2 g
    · rw [if_neg (by omega)] at ht'; rw [ht']; exact h0 _ f2 E2 g
  have y90 : ∀ μ' : m_M, FG M μ μ' → Mem μ' σ M a → Grw σ a i j → G cd_X12_gr3 Q Y 90 [(0, (2, M)), (5, (0, 10 * i + j))] [(0, 10 * i + j), (2, M + 106)] ε μ' := fun μ' f E' g => by
    apply g_X12_gr3_90
    exact fun _ _ _ => fin μ' 1 f E' (Or.inl ⟨rfl, g⟩)
  have y94 : ∀ μ' : m_M, FG M μ μ' → Mem μ' σ M a → ¬ Grw σ a i j → G cd_X12_gr3 Q Y 94 [(0, (2, M)), (5, (0, 10 * i + j))] [(0, 10 * i + j), (2, M + 106)] ε μ' := fun μ' f E' g => by
    apply g_X12_gr3_94
    exact fun _ _ _ => fin μ' 2 f E' (Or.inr ⟨rfl, g⟩)
  have st' := Grw.step i0 ij jn
  have wn : w32 (σ 15 a - 1) = σ 15 a - 1 := w32_id (by unfold i32; omega)
  have y70 : ∀ μ' : m_M, FG M μ μ' → Mem μ' σ M a → Stk σ a i j → ¬ (i = 0 ∧ j = σ 15 a - 1) → ¬ (0 < i ∧ Grw σ a (i - 1) j) → G cd_X12_gr3 Q Y 70 [(0, (2, M)), (1, (0, a)), (2, (0, i)), (3, (0, j)), (4, (0, σ 15 a)), (5, (0, 10 * i + j))] [(0, 10 * i + j), (2, M + 106)] ε μ' := fun μ' f E' s w1 w2 => by
    apply g_X12_gr3_70
    rw [wn, w32_id (show i32 (j + 1) by unfold i32; omega)]
    refine fun _ _ _ _ _ _ _ => ⟨fun q => y94 μ' f E' (fun g => ?_), fun q => ⟨L.k, gs_2 L (W.fg f) E' i0 (by omega) (by omega) (by omega) (fun μ2 f2 E2 g => ?_) (fun μ2 f2 E2 g => ?_)⟩⟩
    · rcases (st'.mp g).2 with z | z | z
      · exact w1 z
      · exact w2 z
      · omega
    · apply g_X12_gr3_87
      exact fun _ _ _ _ => ⟨fun z => absurd z (by decide), fun _ => y90 μ2 (f.trans f2) E2 (st'.mpr ⟨s, Or.inr (Or.inr ⟨by omega, g⟩)⟩)⟩
    · apply g_X12_gr3_87
      refine fun _ _ _ _ => ⟨fun _ => y94 μ2 (f.trans f2) E2 (fun g' => ?_), fun z => absurd rfl z⟩
      rcases (st'.mp g').2 with z | z | z
      · exact w1 z
      · exact w2 z
      · exact g z.2
  have y54 : ∀ μ' : m_M, FG M μ μ' → Mem μ' σ M a → Stk σ a i j → ¬ (i = 0 ∧ j = σ 15 a - 1) → G cd_X12_gr3 Q Y 54 [(0, (2, M)), (1, (0, a)), (2, (0, i)), (3, (0, j)), (4, (0, σ 15 a)), (5, (0, 10 * i + j))] [(0, 10 * i + j), (2, M + 106)] ε μ' := fun μ' f E' s w1 => by
    apply g_X12_gr3_54
    rw [w32_id (show i32 (i - 1) by unfold i32; omega)]
    refine fun _ _ _ _ _ _ _ => ⟨fun q => y70 μ' f E' s w1 (by omega), fun q => ⟨L.k, gs_2 L (W.fg f) E' (by omega) (by omega) jn (by omega) (fun μ2 f2 E2 g => ?_) (fun μ2 f2 E2 g => ?_)⟩⟩
    · apply g_X12_gr3_67
      exact fun _ _ _ _ _ _ _ _ => ⟨fun _ => y90 μ2 (f.trans f2) E2 (st'.mpr ⟨s, Or.inr (Or.inl ⟨q, g⟩)⟩), fun z => absurd z (by decide)⟩
    · apply g_X12_gr3_67
      exact fun _ _ _ _ _ _ _ _ => ⟨fun z => absurd rfl z, fun _ => y70 μ2 (f.trans f2) E2 s w1 (fun z => g z.2)⟩
  apply e_X12_gr3
  rw [L.f17.1, L.f65.1, L.f17.2.2, L.f65.2.2, S15 μ W]
  refine fun _ _ _ _ => ⟨L.k, L.f17.2.1, a0, a1, fun v4 e4 v5 e5 => ?_⟩
  rw [w32_id (show i32 (10 * i) by unfold i32; omega), w32_id (show i32 (10 * i + j) by unfold i32; omega)] at e5
  rw [e4, e5]
  refine ⟨L.k, L.f65.2.1, by omega, by omega, fun q => ?_, fun q => sp_X12_strikes L W i0 ij jn (fun μ2 f2 s => ?_) (fun μ2 f2 s => ?_)⟩
  · apply g_X12_gr3_96
    rw [L.f65.1, L.f65.2.2]
    refine fun _ _ => ⟨L.k, L.f65.2.1, by omega, by omega, fun t ht => ?_⟩
    rcases E i j i0 ij jn with z | ⟨z, g⟩ | ⟨z, g⟩
    · exact absurd z q
    · rw [if_pos z] at ht; rw [ht]; exact h1 μ (fun _ _ _ _ _ _ _ _ => rfl) E g
    · rw [if_neg (by omega)] at ht; rw [ht]; exact h0 μ (fun _ _ _ _ _ _ _ _ => rfl) E g
  · apply g_X12_gr3_39
    rw [wn]
    refine fun _ _ _ _ _ _ _ _ => ⟨fun z => absurd z (by decide), fun _ => ⟨fun z => y54 μ2 f2.fg (E.r5 f2) s (by omega), fun z => ⟨fun z' => y90 μ2 f2.fg (E.r5 f2) (st'.mpr ⟨s, Or.inl ⟨z, z'⟩⟩), fun z' => y54 μ2 f2.fg (E.r5 f2) s (fun y => z' y.2)⟩⟩⟩
  · apply g_X12_gr3_39
    exact fun _ _ _ _ _ _ _ _ => ⟨fun _ => y94 μ2 f2.fg (E.r5 f2) (fun g => s (st'.mp g).1), fun z => absurd rfl z⟩
theorem gs_4 : GS o_X12_gr4 4 := by
  intro Q Y ε μ σ M a i j L W E i0 ij jn kk h1 h0
  have n1 := W.1.2.2.1
  have n10 := W.1.2.2.2.1
  have a0 := W.1.1
  have a1 := W.1.2.1
  have S15 : ∀ μ' : m_M, WM μ' σ M a → μ' (M + 15) a = σ 15 a := fun μ' W' => W'.2.2.2.2.2.2.2.2.1 15 a (by decide) (by decide)
  have fin : ∀ (μ' : m_M) (t : Int), FG M μ μ' → Mem μ' σ M a → ((t = 1 ∧ Grw σ a i j) ∨ (t = 2 ∧ ¬ Grw σ a i j)) → G cd_X12_gr4 Q Y 95 [(0, (2, M)), (5, (0, 10 * i + j))] [(0, t), (0, 10 * i + j), (2, M + 106)] ε μ' := fun μ' t f E' ht => by
    apply g_X12_gr4_95
    refine fun _ _ _ _ => ⟨L.f65.2.1, by omega, by rw [L.f65.2.2]; omega, fun μ2 m2 => ?_⟩
    apply g_X12_gr4_96
    rw [L.f65.1, L.f65.2.2, m2, sx_same]
    refine fun _ _ => ⟨L.k, L.f65.2.1, by omega, by omega, fun t' ht' => ?_⟩
    have f2 : FG M μ (st μ' (M + 106) (10 * i + j) t) := fun b j' q1 q2 q3 q4 q5 q6 => by rw [sx_oa q6]; exact f b j' q1 q2 q3 q4 q5 q6
    have E2 : Mem (st μ' (M + 106) (10 * i + j) t) σ M a := fun i' j' p0 p1 p2 => by
      by_cases z : 10 * i' + j' = 10 * i + j
      · have ei : i' = i := by omega
        have ej : j' = j := by omega
        rw [ei, ej, sx_same]; exact Or.inr ht
      · rw [sx_oi z]; exact E' i' j' p0 p1 p2
    rcases ht with ⟨e, g⟩ | ⟨e, g⟩
    · rw [if_pos e] at ht'; rw [ht']; exact h1 _ f2 E2 g
    · rw [if_neg (by omega)] at ht'; rw [ht']; exact h0 _ f2 E2 g
  have y90 : ∀ μ' : m_M, FG M μ μ' → Mem μ' σ M a → Grw σ a i j → G cd_X12_gr4 Q Y 90 [(0, (2, M)), (5, (0, 10 * i + j))] [(0, 10 * i + j), (2, M + 106)] ε μ' := fun μ' f E' g => by
    apply g_X12_gr4_90
    exact fun _ _ _ => fin μ' 1 f E' (Or.inl ⟨rfl, g⟩)
  have y94 : ∀ μ' : m_M, FG M μ μ' → Mem μ' σ M a → ¬ Grw σ a i j → G cd_X12_gr4 Q Y 94 [(0, (2, M)), (5, (0, 10 * i + j))] [(0, 10 * i + j), (2, M + 106)] ε μ' := fun μ' f E' g => by
    apply g_X12_gr4_94
    exact fun _ _ _ => fin μ' 2 f E' (Or.inr ⟨rfl, g⟩)
  have st' := Grw.step i0 ij jn
  have wn : w32 (σ 15 a - 1) = σ 15 a - 1 := w32_id (by unfold i32; omega)
  have y70 : ∀ μ' : m_M, FG M μ μ' → Mem μ' σ M a → Stk σ a i j → ¬ (i = 0 ∧ j = σ 15 a - 1) → ¬ (0 < i ∧ Grw σ a (i - 1) j) → G cd_X12_gr4 Q Y 70 [(0, (2, M)), (1, (0, a)), (2, (0, i)), (3, (0, j)), (4, (0, σ 15 a)), (5, (0, 10 * i + j))] [(0, 10 * i + j), (2, M + 106)] ε μ' := fun μ' f E' s w1 w2 => by
    apply g_X12_gr4_70
    rw [wn, w32_id (show i32 (j + 1) by unfold i32; omega)]
    refine fun _ _ _ _ _ _ _ => ⟨fun q => y94 μ' f E' (fun g => ?_), fun q => ⟨L.k, gs_3 L (W.fg f) E' i0 (by omega) (by omega) (by omega) (fun μ2 f2 E2 g => ?_) (fun μ2 f2 E2 g => ?_)⟩⟩
    · rcases (st'.mp g).2 with z | z | z
      · exact w1 z
      · exact w2 z
      · omega
    · apply g_X12_gr4_87
      exact fun _ _ _ _ => ⟨fun z => absurd z (by decide), fun _ => y90 μ2 (f.trans f2) E2 (st'.mpr ⟨s, Or.inr (Or.inr ⟨by omega, g⟩)⟩)⟩
    · apply g_X12_gr4_87
      refine fun _ _ _ _ => ⟨fun _ => y94 μ2 (f.trans f2) E2 (fun g' => ?_), fun z => absurd rfl z⟩
      rcases (st'.mp g').2 with z | z | z
      · exact w1 z
      · exact w2 z
      · exact g z.2
  have y54 : ∀ μ' : m_M, FG M μ μ' → Mem μ' σ M a → Stk σ a i j → ¬ (i = 0 ∧ j = σ 15 a - 1) → G cd_X12_gr4 Q Y 54 [(0, (2, M)), (1, (0, a)), (2, (0, i)), (3, (0, j)), (4, (0, σ 15 a)), (5, (0, 10 * i + j))] [(0, 10 * i + j), (2, M + 106)] ε μ' := fun μ' f E' s w1 => by
    apply g_X12_gr4_54
    rw [w32_id (show i32 (i - 1) by unfold i32; omega)]
    refine fun _ _ _ _ _ _ _ => ⟨fun q => y70 μ' f E' s w1 (by omega), fun q => ⟨L.k, gs_3 L (W.fg f) E' (by omega) (by omega) jn (by omega) (fun μ2 f2 E2 g => ?_) (fun μ2 f2 E2 g => ?_)⟩⟩
    · apply g_X12_gr4_67
      exact fun _ _ _ _ _ _ _ _ => ⟨fun _ => y90 μ2 (f.trans f2) E2 (st'.mpr ⟨s, Or.inr (Or.inl ⟨q, g⟩)⟩), fun z => absurd z (by decide)⟩
    · apply g_X12_gr4_67
      exact fun _ _ _ _ _ _ _ _ => ⟨fun z => absurd rfl z, fun _ => y70 μ2 (f.trans f2) E2 s w1 (fun z => g z.2)⟩
  apply e_X12_gr4
  rw [L.f17.1, L.f65.1, L.f17.2.2, L.f65.2.2, S15 μ W]
  refine fun _ _ _ _ => ⟨L.k, L.f17.2.1, a0, a1, fun v4 e4 v5 e5 => ?_⟩
  rw [w32_id (show i32 (10 * i) by unfold i32; omega), w32_id (show i32 (10 * i + j) by unfold i32; omega)] at e5
  rw [e4, e5]
  refine ⟨L.k, L.f65.2.1, by omega, by omega, fun q => ?_, fun q => sp_X12_strikes L W i0 ij jn (fun μ2 f2 s => ?_) (fun μ2 f2 s => ?_)⟩
  · apply g_X12_gr4_96
    rw [L.f65.1, L.f65.2.2]
    refine fun _ _ => ⟨L.k, L.f65.2.1, by omega, by omega, fun t ht => ?_⟩
    rcases E i j i0 ij jn with z | ⟨z, g⟩ | ⟨z, g⟩
    · exact absurd z q
    · rw [if_pos z] at ht; rw [ht]; exact h1 μ (fun _ _ _ _ _ _ _ _ => rfl) E g
    · rw [if_neg (by omega)] at ht; rw [ht]; exact h0 μ (fun _ _ _ _ _ _ _ _ => rfl) E g
  · apply g_X12_gr4_39
    rw [wn]
    refine fun _ _ _ _ _ _ _ _ => ⟨fun z => absurd z (by decide), fun _ => ⟨fun z => y54 μ2 f2.fg (E.r5 f2) s (by omega), fun z => ⟨fun z' => y90 μ2 f2.fg (E.r5 f2) (st'.mpr ⟨s, Or.inl ⟨z, z'⟩⟩), fun z' => y54 μ2 f2.fg (E.r5 f2) s (fun y => z' y.2)⟩⟩⟩
  · apply g_X12_gr4_39
    exact fun _ _ _ _ _ _ _ _ => ⟨fun _ => y94 μ2 f2.fg (E.r5 f2) (fun g => s (st'.mp g).1), fun z => absurd rfl z⟩
theorem gs_5 : GS o_X12_gr5 5 := by
  intro Q Y ε μ σ M a i j L W E i0 ij jn kk h1 h0
  have n1 := W.1.2.2.1
  have n10 := W.1.2.2.2.1
  have a0 := W.1.1
  have a1 := W.1.2.1
  have S15 : ∀ μ' : m_M, WM μ' σ M a → μ' (M + 15) a = σ 15 a := fun μ' W' => W'.2.2.2.2.2.2.2.2.1 15 a (by decide) (by decide)
  have fin : ∀ (μ' : m_M) (t : Int), FG M μ μ' → Mem μ' σ M a → ((t = 1 ∧ Grw σ a i j) ∨ (t = 2 ∧ ¬ Grw σ a i j)) → G cd_X12_gr5 Q Y 95 [(0, (2, M)), (5, (0, 10 * i + j))] [(0, t), (0, 10 * i + j), (2, M + 106)] ε μ' := fun μ' t f E' ht => by
    apply g_X12_gr5_95
    refine fun _ _ _ _ => ⟨L.f65.2.1, by omega, by rw [L.f65.2.2]; omega, fun μ2 m2 => ?_⟩
    apply g_X12_gr5_96
    rw [L.f65.1, L.f65.2.2, m2, sx_same]
    refine fun _ _ => ⟨L.k, L.f65.2.1, by omega, by omega, fun t' ht' => ?_⟩
    have f2 : FG M μ (st μ' (M + 106) (10 * i + j) t) := fun b j' q1 q2 q3 q4 q5 q6 => by rw [sx_oa q6]; exact f b j' q1 q2 q3 q4 q5 q6
    have E2 : Mem (st μ' (M + 106) (10 * i + j) t) σ M a := fun i' j' p0 p1 p2 => by
      by_cases z : 10 * i' + j' = 10 * i + j
      · have ei : i' = i := by omega
        have ej : j' = j := by omega
        rw [ei, ej, sx_same]; exact Or.inr ht
      · rw [sx_oi z]; exact E' i' j' p0 p1 p2
    rcases ht with ⟨e, g⟩ | ⟨e, g⟩
    · rw [if_pos e] at ht'; rw [ht']; exact h1 _ f2 E2 g
    · rw [if_neg (by omega)] at ht'; rw [ht']; exact h0 _ f2 E2 g
  have y90 : ∀ μ' : m_M, FG M μ μ' → Mem μ' σ M a → Grw σ a i j → G cd_X12_gr5 Q Y 90 [(0, (2, M)), (5, (0, 10 * i + j))] [(0, 10 * i + j), (2, M + 106)] ε μ' := fun μ' f E' g => by
    apply g_X12_gr5_90
    exact fun _ _ _ => fin μ' 1 f E' (Or.inl ⟨rfl, g⟩)
  have y94 : ∀ μ' : m_M, FG M μ μ' → Mem μ' σ M a → ¬ Grw σ a i j → G cd_X12_gr5 Q Y 94 [(0, (2, M)), (5, (0, 10 * i + j))] [(0, 10 * i + j), (2, M + 106)] ε μ' := fun μ' f E' g => by
    apply g_X12_gr5_94
    exact fun _ _ _ => fin μ' 2 f E' (Or.inr ⟨rfl, g⟩)
  have st' := Grw.step i0 ij jn
  have wn : w32 (σ 15 a - 1) = σ 15 a - 1 := w32_id (by unfold i32; omega)
  have y70 : ∀ μ' : m_M, FG M μ μ' → Mem μ' σ M a → Stk σ a i j → ¬ (i = 0 ∧ j = σ 15 a - 1) → ¬ (0 < i ∧ Grw σ a (i - 1) j) → G cd_X12_gr5 Q Y 70 [(0, (2, M)), (1, (0, a)), (2, (0, i)), (3, (0, j)), (4, (0, σ 15 a)), (5, (0, 10 * i + j))] [(0, 10 * i + j), (2, M + 106)] ε μ' := fun μ' f E' s w1 w2 => by
    apply g_X12_gr5_70
    rw [wn, w32_id (show i32 (j + 1) by unfold i32; omega)]
    refine fun _ _ _ _ _ _ _ => ⟨fun q => y94 μ' f E' (fun g => ?_), fun q => ⟨L.k, gs_4 L (W.fg f) E' i0 (by omega) (by omega) (by omega) (fun μ2 f2 E2 g => ?_) (fun μ2 f2 E2 g => ?_)⟩⟩
    · rcases (st'.mp g).2 with z | z | z
      · exact w1 z
      · exact w2 z
      · omega
    · apply g_X12_gr5_87
      exact fun _ _ _ _ => ⟨fun z => absurd z (by decide), fun _ => y90 μ2 (f.trans f2) E2 (st'.mpr ⟨s, Or.inr (Or.inr ⟨by omega, g⟩)⟩)⟩
    · apply g_X12_gr5_87
      refine fun _ _ _ _ => ⟨fun _ => y94 μ2 (f.trans f2) E2 (fun g' => ?_), fun z => absurd rfl z⟩
      rcases (st'.mp g').2 with z | z | z
      · exact w1 z
      · exact w2 z
      · exact g z.2
  have y54 : ∀ μ' : m_M, FG M μ μ' → Mem μ' σ M a → Stk σ a i j → ¬ (i = 0 ∧ j = σ 15 a - 1) → G cd_X12_gr5 Q Y 54 [(0, (2, M)), (1, (0, a)), (2, (0, i)), (3, (0, j)), (4, (0, σ 15 a)), (5, (0, 10 * i + j))] [(0, 10 * i + j), (2, M + 106)] ε μ' := fun μ' f E' s w1 => by
    apply g_X12_gr5_54
    rw [w32_id (show i32 (i - 1) by unfold i32; omega)]
    refine fun _ _ _ _ _ _ _ => ⟨fun q => y70 μ' f E' s w1 (by omega), fun q => ⟨L.k, gs_4 L (W.fg f) E' (by omega) (by omega) jn (by omega) (fun μ2 f2 E2 g => ?_) (fun μ2 f2 E2 g => ?_)⟩⟩
    · apply g_X12_gr5_67
      exact fun _ _ _ _ _ _ _ _ => ⟨fun _ => y90 μ2 (f.trans f2) E2 (st'.mpr ⟨s, Or.inr (Or.inl ⟨q, g⟩)⟩), fun z => absurd z (by decide)⟩
    · apply g_X12_gr5_67
      exact fun _ _ _ _ _ _ _ _ => ⟨fun z => absurd rfl z, fun _ => y70 μ2 (f.trans f2) E2 s w1 (fun z => g z.2)⟩
  apply e_X12_gr5
  rw [L.f17.1, L.f65.1, L.f17.2.2, L.f65.2.2, S15 μ W]
  refine fun _ _ _ _ => ⟨L.k, L.f17.2.1, a0, a1, fun v4 e4 v5 e5 => ?_⟩
  rw [w32_id (show i32 (10 * i) by unfold i32; omega), w32_id (show i32 (10 * i + j) by unfold i32; omega)] at e5
  rw [e4, e5]
  refine ⟨L.k, L.f65.2.1, by omega, by omega, fun q => ?_, fun q => sp_X12_strikes L W i0 ij jn (fun μ2 f2 s => ?_) (fun μ2 f2 s => ?_)⟩
  · apply g_X12_gr5_96
    rw [L.f65.1, L.f65.2.2]
    refine fun _ _ => ⟨L.k, L.f65.2.1, by omega, by omega, fun t ht => ?_⟩
    rcases E i j i0 ij jn with z | ⟨z, g⟩ | ⟨z, g⟩
    · exact absurd z q
    · rw [if_pos z] at ht; rw [ht]; exact h1 μ (fun _ _ _ _ _ _ _ _ => rfl) E g
    · rw [if_neg (by omega)] at ht; rw [ht]; exact h0 μ (fun _ _ _ _ _ _ _ _ => rfl) E g
  · apply g_X12_gr5_39
    rw [wn]
    refine fun _ _ _ _ _ _ _ _ => ⟨fun z => absurd z (by decide), fun _ => ⟨fun z => y54 μ2 f2.fg (E.r5 f2) s (by omega), fun z => ⟨fun z' => y90 μ2 f2.fg (E.r5 f2) (st'.mpr ⟨s, Or.inl ⟨z, z'⟩⟩), fun z' => y54 μ2 f2.fg (E.r5 f2) s (fun y => z' y.2)⟩⟩⟩
  · apply g_X12_gr5_39
    exact fun _ _ _ _ _ _ _ _ => ⟨fun _ => y94 μ2 f2.fg (E.r5 f2) (fun g => s (st'.mp g).1), fun z => absurd rfl z⟩
theorem gs_6 : GS o_X12_gr6 6 := by
  intro Q Y ε μ σ M a i j L W E i0 ij jn kk h1 h0
  have n1 := W.1.2.2.1
  have n10 := W.1.2.2.2.1
  have a0 := W.1.1
  have a1 := W.1.2.1
  have S15 : ∀ μ' : m_M, WM μ' σ M a → μ' (M + 15) a = σ 15 a := fun μ' W' => W'.2.2.2.2.2.2.2.2.1 15 a (by decide) (by decide)
  have fin : ∀ (μ' : m_M) (t : Int), FG M μ μ' → Mem μ' σ M a → ((t = 1 ∧ Grw σ a i j) ∨ (t = 2 ∧ ¬ Grw σ a i j)) → G cd_X12_gr6 Q Y 95 [(0, (2, M)), (5, (0, 10 * i + j))] [(0, t), (0, 10 * i + j), (2, M + 106)] ε μ' := fun μ' t f E' ht => by
    apply g_X12_gr6_95
    refine fun _ _ _ _ => ⟨L.f65.2.1, by omega, by rw [L.f65.2.2]; omega, fun μ2 m2 => ?_⟩
    apply g_X12_gr6_96
    rw [L.f65.1, L.f65.2.2, m2, sx_same]
    refine fun _ _ => ⟨L.k, L.f65.2.1, by omega, by omega, fun t' ht' => ?_⟩
    have f2 : FG M μ (st μ' (M + 106) (10 * i + j) t) := fun b j' q1 q2 q3 q4 q5 q6 => by rw [sx_oa q6]; exact f b j' q1 q2 q3 q4 q5 q6
    have E2 : Mem (st μ' (M + 106) (10 * i + j) t) σ M a := fun i' j' p0 p1 p2 => by
      by_cases z : 10 * i' + j' = 10 * i + j
      · have ei : i' = i := by omega
        have ej : j' = j := by omega
        rw [ei, ej, sx_same]; exact Or.inr ht
      · rw [sx_oi z]; exact E' i' j' p0 p1 p2
    rcases ht with ⟨e, g⟩ | ⟨e, g⟩
    · rw [if_pos e] at ht'; rw [ht']; exact h1 _ f2 E2 g
    · rw [if_neg (by omega)] at ht'; rw [ht']; exact h0 _ f2 E2 g
  have y90 : ∀ μ' : m_M, FG M μ μ' → Mem μ' σ M a → Grw σ a i j → G cd_X12_gr6 Q Y 90 [(0, (2, M)), (5, (0, 10 * i + j))] [(0, 10 * i + j), (2, M + 106)] ε μ' := fun μ' f E' g => by
    apply g_X12_gr6_90
    exact fun _ _ _ => fin μ' 1 f E' (Or.inl ⟨rfl, g⟩)
  have y94 : ∀ μ' : m_M, FG M μ μ' → Mem μ' σ M a → ¬ Grw σ a i j → G cd_X12_gr6 Q Y 94 [(0, (2, M)), (5, (0, 10 * i + j))] [(0, 10 * i + j), (2, M + 106)] ε μ' := fun μ' f E' g => by
    apply g_X12_gr6_94
    exact fun _ _ _ => fin μ' 2 f E' (Or.inr ⟨rfl, g⟩)
  have st' := Grw.step i0 ij jn
  have wn : w32 (σ 15 a - 1) = σ 15 a - 1 := w32_id (by unfold i32; omega)
  have y70 : ∀ μ' : m_M, FG M μ μ' → Mem μ' σ M a → Stk σ a i j → ¬ (i = 0 ∧ j = σ 15 a - 1) → ¬ (0 < i ∧ Grw σ a (i - 1) j) → G cd_X12_gr6 Q Y 70 [(0, (2, M)), (1, (0, a)), (2, (0, i)), (3, (0, j)), (4, (0, σ 15 a)), (5, (0, 10 * i + j))] [(0, 10 * i + j), (2, M + 106)] ε μ' := fun μ' f E' s w1 w2 => by
    apply g_X12_gr6_70
    rw [wn, w32_id (show i32 (j + 1) by unfold i32; omega)]
    refine fun _ _ _ _ _ _ _ => ⟨fun q => y94 μ' f E' (fun g => ?_), fun q => ⟨L.k, gs_5 L (W.fg f) E' i0 (by omega) (by omega) (by omega) (fun μ2 f2 E2 g => ?_) (fun μ2 f2 E2 g => ?_)⟩⟩
    · rcases (st'.mp g).2 with z | z | z
      · exact w1 z
      · exact w2 z
      · omega
    · apply g_X12_gr6_87
      exact fun _ _ _ _ => ⟨fun z => absurd z (by decide), fun _ => y90 μ2 (f.trans f2) E2 (st'.mpr ⟨s, Or.inr (Or.inr ⟨by omega, g⟩)⟩)⟩
    · apply g_X12_gr6_87
      refine fun _ _ _ _ => ⟨fun _ => y94 μ2 (f.trans f2) E2 (fun g' => ?_), fun z => absurd rfl z⟩
      rcases (st'.mp g').2 with z | z | z
      · exact w1 z
      · exact w2 z
      · exact g z.2
  have y54 : ∀ μ' : m_M, FG M μ μ' → Mem μ' σ M a → Stk σ a i j → ¬ (i = 0 ∧ j = σ 15 a - 1) → G cd_X12_gr6 Q Y 54 [(0, (2, M)), (1, (0, a)), (2, (0, i)), (3, (0, j)), (4, (0, σ 15 a)), (5, (0, 10 * i + j))] [(0, 10 * i + j), (2, M + 106)] ε μ' := fun μ' f E' s w1 => by
    apply g_X12_gr6_54
    rw [w32_id (show i32 (i - 1) by unfold i32; omega)]
    refine fun _ _ _ _ _ _ _ => ⟨fun q => y70 μ' f E' s w1 (by omega), fun q => ⟨L.k, gs_5 L (W.fg f) E' (by omega) (by omega) jn (by omega) (fun μ2 f2 E2 g => ?_) (fun μ2 f2 E2 g => ?_)⟩⟩
    · apply g_X12_gr6_67
      exact fun _ _ _ _ _ _ _ _ => ⟨fun _ => y90 μ2 (f.trans f2) E2 (st'.mpr ⟨s, Or.inr (Or.inl ⟨q, g⟩)⟩), fun z => absurd z (by decide)⟩
    · apply g_X12_gr6_67
      exact fun _ _ _ _ _ _ _ _ => ⟨fun z => absurd rfl z, fun _ => y70 μ2 (f.trans f2) E2 s w1 (fun z => g z.2)⟩
  apply e_X12_gr6
  rw [L.f17.1, L.f65.1, L.f17.2.2, L.f65.2.2, S15 μ W]
  refine fun _ _ _ _ => ⟨L.k, L.f17.2.1, a0, a1, fun v4 e4 v5 e5 => ?_⟩
  rw [w32_id (show i32 (10 * i) by unfold i32; omega), w32_id (show i32 (10 * i + j) by unfold i32; omega)] at e5
  rw [e4, e5]
  refine ⟨L.k, L.f65.2.1, by omega, by omega, fun q => ?_, fun q => sp_X12_strikes L W i0 ij jn (fun μ2 f2 s => ?_) (fun μ2 f2 s => ?_)⟩
  · apply g_X12_gr6_96
    rw [L.f65.1, L.f65.2.2]
    refine fun _ _ => ⟨L.k, L.f65.2.1, by omega, by omega, fun t ht => ?_⟩
    rcases E i j i0 ij jn with z | ⟨z, g⟩ | ⟨z, g⟩
    · exact absurd z q
    · rw [if_pos z] at ht; rw [ht]; exact h1 μ (fun _ _ _ _ _ _ _ _ => rfl) E g
    · rw [if_neg (by omega)] at ht; rw [ht]; exact h0 μ (fun _ _ _ _ _ _ _ _ => rfl) E g
  · apply g_X12_gr6_39
    rw [wn]
    refine fun _ _ _ _ _ _ _ _ => ⟨fun z => absurd z (by decide), fun _ => ⟨fun z => y54 μ2 f2.fg (E.r5 f2) s (by omega), fun z => ⟨fun z' => y90 μ2 f2.fg (E.r5 f2) (st'.mpr ⟨s, Or.inl ⟨z, z'⟩⟩), fun z' => y54 μ2 f2.fg (E.r5 f2) s (fun y => z' y.2)⟩⟩⟩
  · apply g_X12_gr6_39
    exact fun _ _ _ _ _ _ _ _ => ⟨fun _ => y94 μ2 f2.fg (E.r5 f2) (fun g => s (st'.mp g).1), fun z => absurd rfl z⟩
theorem gs_7 : GS o_X12_gr7 7 := by
  intro Q Y ε μ σ M a i j L W E i0 ij jn kk h1 h0
  have n1 := W.1.2.2.1
  have n10 := W.1.2.2.2.1
  have a0 := W.1.1
  have a1 := W.1.2.1
  have S15 : ∀ μ' : m_M, WM μ' σ M a → μ' (M + 15) a = σ 15 a := fun μ' W' => W'.2.2.2.2.2.2.2.2.1 15 a (by decide) (by decide)
  have fin : ∀ (μ' : m_M) (t : Int), FG M μ μ' → Mem μ' σ M a → ((t = 1 ∧ Grw σ a i j) ∨ (t = 2 ∧ ¬ Grw σ a i j)) → G cd_X12_gr7 Q Y 95 [(0, (2, M)), (5, (0, 10 * i + j))] [(0, t), (0, 10 * i + j), (2, M + 106)] ε μ' := fun μ' t f E' ht => by
    apply g_X12_gr7_95
    refine fun _ _ _ _ => ⟨L.f65.2.1, by omega, by rw [L.f65.2.2]; omega, fun μ2 m2 => ?_⟩
    apply g_X12_gr7_96
    rw [L.f65.1, L.f65.2.2, m2, sx_same]
    refine fun _ _ => ⟨L.k, L.f65.2.1, by omega, by omega, fun t' ht' => ?_⟩
    have f2 : FG M μ (st μ' (M + 106) (10 * i + j) t) := fun b j' q1 q2 q3 q4 q5 q6 => by rw [sx_oa q6]; exact f b j' q1 q2 q3 q4 q5 q6
    have E2 : Mem (st μ' (M + 106) (10 * i + j) t) σ M a := fun i' j' p0 p1 p2 => by
      by_cases z : 10 * i' + j' = 10 * i + j
      · have ei : i' = i := by omega
        have ej : j' = j := by omega
        rw [ei, ej, sx_same]; exact Or.inr ht
      · rw [sx_oi z]; exact E' i' j' p0 p1 p2
    rcases ht with ⟨e, g⟩ | ⟨e, g⟩
    · rw [if_pos e] at ht'; rw [ht']; exact h1 _ f2 E2 g
    · rw [if_neg (by omega)] at ht'; rw [ht']; exact h0 _ f2 E2 g
  have y90 : ∀ μ' : m_M, FG M μ μ' → Mem μ' σ M a → Grw σ a i j → G cd_X12_gr7 Q Y 90 [(0, (2, M)), (5, (0, 10 * i + j))] [(0, 10 * i + j), (2, M + 106)] ε μ' := fun μ' f E' g => by
    apply g_X12_gr7_90
    exact fun _ _ _ => fin μ' 1 f E' (Or.inl ⟨rfl, g⟩)
  have y94 : ∀ μ' : m_M, FG M μ μ' → Mem μ' σ M a → ¬ Grw σ a i j → G cd_X12_gr7 Q Y 94 [(0, (2, M)), (5, (0, 10 * i + j))] [(0, 10 * i + j), (2, M + 106)] ε μ' := fun μ' f E' g => by
    apply g_X12_gr7_94
    exact fun _ _ _ => fin μ' 2 f E' (Or.inr ⟨rfl, g⟩)
  have st' := Grw.step i0 ij jn
  have wn : w32 (σ 15 a - 1) = σ 15 a - 1 := w32_id (by unfold i32; omega)
  have y70 : ∀ μ' : m_M, FG M μ μ' → Mem μ' σ M a → Stk σ a i j → ¬ (i = 0 ∧ j = σ 15 a - 1) → ¬ (0 < i ∧ Grw σ a (i - 1) j) → G cd_X12_gr7 Q Y 70 [(0, (2, M)), (1, (0, a)), (2, (0, i)), (3, (0, j)), (4, (0, σ 15 a)), (5, (0, 10 * i + j))] [(0, 10 * i + j), (2, M + 106)] ε μ' := fun μ' f E' s w1 w2 => by
    apply g_X12_gr7_70
    rw [wn, w32_id (show i32 (j + 1) by unfold i32; omega)]
    refine fun _ _ _ _ _ _ _ => ⟨fun q => y94 μ' f E' (fun g => ?_), fun q => ⟨L.k, gs_6 L (W.fg f) E' i0 (by omega) (by omega) (by omega) (fun μ2 f2 E2 g => ?_) (fun μ2 f2 E2 g => ?_)⟩⟩
    · rcases (st'.mp g).2 with z | z | z
      · exact w1 z
      · exact w2 z
      · omega
    · apply g_X12_gr7_87
      exact fun _ _ _ _ => ⟨fun z => absurd z (by decide), fun _ => y90 μ2 (f.trans f2) E2 (st'.mpr ⟨s, Or.inr (Or.inr ⟨by omega, g⟩)⟩)⟩
    · apply g_X12_gr7_87
      refine fun _ _ _ _ => ⟨fun _ => y94 μ2 (f.trans f2) E2 (fun g' => ?_), fun z => absurd rfl z⟩
      rcases (st'.mp g').2 with z | z | z
      · exact w1 z
      · exact w2 z
      · exact g z.2
  have y54 : ∀ μ' : m_M, FG M μ μ' → Mem μ' σ M a → Stk σ a i j → ¬ (i = 0 ∧ j = σ 15 a - 1) → G cd_X12_gr7 Q Y 54 [(0, (2, M)), (1, (0, a)), (2, (0, i)), (3, (0, j)), (4, (0, σ 15 a)), (5, (0, 10 * i + j))] [(0, 10 * i + j), (2, M + 106)] ε μ' := fun μ' f E' s w1 => by
    apply g_X12_gr7_54
    rw [w32_id (show i32 (i - 1) by unfold i32; omega)]
    refine fun _ _ _ _ _ _ _ => ⟨fun q => y70 μ' f E' s w1 (by omega), fun q => ⟨L.k, gs_6 L (W.fg f) E' (by omega) (by omega) jn (by omega) (fun μ2 f2 E2 g => ?_) (fun μ2 f2 E2 g => ?_)⟩⟩
    · apply g_X12_gr7_67
      exact fun _ _ _ _ _ _ _ _ => ⟨fun _ => y90 μ2 (f.trans f2) E2 (st'.mpr ⟨s, Or.inr (Or.inl ⟨q, g⟩)⟩), fun z => absurd z (by decide)⟩
    · apply g_X12_gr7_67
      exact fun _ _ _ _ _ _ _ _ => ⟨fun z => absurd rfl z, fun _ => y70 μ2 (f.trans f2) E2 s w1 (fun z => g z.2)⟩
  apply e_X12_gr7
  rw [L.f17.1, L.f65.1, L.f17.2.2, L.f65.2.2, S15 μ W]
  refine fun _ _ _ _ => ⟨L.k, L.f17.2.1, a0, a1, fun v4 e4 v5 e5 => ?_⟩
  rw [w32_id (show i32 (10 * i) by unfold i32; omega), w32_id (show i32 (10 * i + j) by unfold i32; omega)] at e5
  rw [e4, e5]
  refine ⟨L.k, L.f65.2.1, by omega, by omega, fun q => ?_, fun q => sp_X12_strikes L W i0 ij jn (fun μ2 f2 s => ?_) (fun μ2 f2 s => ?_)⟩
  · apply g_X12_gr7_96
    rw [L.f65.1, L.f65.2.2]
    refine fun _ _ => ⟨L.k, L.f65.2.1, by omega, by omega, fun t ht => ?_⟩
    rcases E i j i0 ij jn with z | ⟨z, g⟩ | ⟨z, g⟩
    · exact absurd z q
    · rw [if_pos z] at ht; rw [ht]; exact h1 μ (fun _ _ _ _ _ _ _ _ => rfl) E g
    · rw [if_neg (by omega)] at ht; rw [ht]; exact h0 μ (fun _ _ _ _ _ _ _ _ => rfl) E g
  · apply g_X12_gr7_39
    rw [wn]
    refine fun _ _ _ _ _ _ _ _ => ⟨fun z => absurd z (by decide), fun _ => ⟨fun z => y54 μ2 f2.fg (E.r5 f2) s (by omega), fun z => ⟨fun z' => y90 μ2 f2.fg (E.r5 f2) (st'.mpr ⟨s, Or.inl ⟨z, z'⟩⟩), fun z' => y54 μ2 f2.fg (E.r5 f2) s (fun y => z' y.2)⟩⟩⟩
  · apply g_X12_gr7_39
    exact fun _ _ _ _ _ _ _ _ => ⟨fun _ => y94 μ2 f2.fg (E.r5 f2) (fun g => s (st'.mp g).1), fun z => absurd rfl z⟩
theorem gs_8 : GS o_X12_gr8 8 := by
  intro Q Y ε μ σ M a i j L W E i0 ij jn kk h1 h0
  have n1 := W.1.2.2.1
  have n10 := W.1.2.2.2.1
  have a0 := W.1.1
  have a1 := W.1.2.1
  have S15 : ∀ μ' : m_M, WM μ' σ M a → μ' (M + 15) a = σ 15 a := fun μ' W' => W'.2.2.2.2.2.2.2.2.1 15 a (by decide) (by decide)
  have fin : ∀ (μ' : m_M) (t : Int), FG M μ μ' → Mem μ' σ M a → ((t = 1 ∧ Grw σ a i j) ∨ (t = 2 ∧ ¬ Grw σ a i j)) → G cd_X12_gr8 Q Y 95 [(0, (2, M)), (5, (0, 10 * i + j))] [(0, t), (0, 10 * i + j), (2, M + 106)] ε μ' := fun μ' t f E' ht => by
    apply g_X12_gr8_95
    refine fun _ _ _ _ => ⟨L.f65.2.1, by omega, by rw [L.f65.2.2]; omega, fun μ2 m2 => ?_⟩
    apply g_X12_gr8_96
    rw [L.f65.1, L.f65.2.2, m2, sx_same]
    refine fun _ _ => ⟨L.k, L.f65.2.1, by omega, by omega, fun t' ht' => ?_⟩
    have f2 : FG M μ (st μ' (M + 106) (10 * i + j) t) := fun b j' q1 q2 q3 q4 q5 q6 => by rw [sx_oa q6]; exact f b j' q1 q2 q3 q4 q5 q6
    have E2 : Mem (st μ' (M + 106) (10 * i + j) t) σ M a := fun i' j' p0 p1 p2 => by
      by_cases z : 10 * i' + j' = 10 * i + j
      · have ei : i' = i := by omega
        have ej : j' = j := by omega
        rw [ei, ej, sx_same]; exact Or.inr ht
      · rw [sx_oi z]; exact E' i' j' p0 p1 p2
    rcases ht with ⟨e, g⟩ | ⟨e, g⟩
    · rw [if_pos e] at ht'; rw [ht']; exact h1 _ f2 E2 g
    · rw [if_neg (by omega)] at ht'; rw [ht']; exact h0 _ f2 E2 g
  have y90 : ∀ μ' : m_M, FG M μ μ' → Mem μ' σ M a → Grw σ a i j → G cd_X12_gr8 Q Y 90 [(0, (2, M)), (5, (0, 10 * i + j))] [(0, 10 * i + j), (2, M + 106)] ε μ' := fun μ' f E' g => by
    apply g_X12_gr8_90
    exact fun _ _ _ => fin μ' 1 f E' (Or.inl ⟨rfl, g⟩)
  have y94 : ∀ μ' : m_M, FG M μ μ' → Mem μ' σ M a → ¬ Grw σ a i j → G cd_X12_gr8 Q Y 94 [(0, (2, M)), (5, (0, 10 * i + j))] [(0, 10 * i + j), (2, M + 106)] ε μ' := fun μ' f E' g => by
    apply g_X12_gr8_94
    exact fun _ _ _ => fin μ' 2 f E' (Or.inr ⟨rfl, g⟩)
  have st' := Grw.step i0 ij jn
  have wn : w32 (σ 15 a - 1) = σ 15 a - 1 := w32_id (by unfold i32; omega)
  have y70 : ∀ μ' : m_M, FG M μ μ' → Mem μ' σ M a → Stk σ a i j → ¬ (i = 0 ∧ j = σ 15 a - 1) → ¬ (0 < i ∧ Grw σ a (i - 1) j) → G cd_X12_gr8 Q Y 70 [(0, (2, M)), (1, (0, a)), (2, (0, i)), (3, (0, j)), (4, (0, σ 15 a)), (5, (0, 10 * i + j))] [(0, 10 * i + j), (2, M + 106)] ε μ' := fun μ' f E' s w1 w2 => by
    apply g_X12_gr8_70
    rw [wn, w32_id (show i32 (j + 1) by unfold i32; omega)]
    refine fun _ _ _ _ _ _ _ => ⟨fun q => y94 μ' f E' (fun g => ?_), fun q => ⟨L.k, gs_7 L (W.fg f) E' i0 (by omega) (by omega) (by omega) (fun μ2 f2 E2 g => ?_) (fun μ2 f2 E2 g => ?_)⟩⟩
    · rcases (st'.mp g).2 with z | z | z
      · exact w1 z
      · exact w2 z
      · omega
    · apply g_X12_gr8_87
      exact fun _ _ _ _ => ⟨fun z => absurd z (by decide), fun _ => y90 μ2 (f.trans f2) E2 (st'.mpr ⟨s, Or.inr (Or.inr ⟨by omega, g⟩)⟩)⟩
    · apply g_X12_gr8_87
      refine fun _ _ _ _ => ⟨fun _ => y94 μ2 (f.trans f2) E2 (fun g' => ?_), fun z => absurd rfl z⟩
      rcases (st'.mp g').2 with z | z | z
      · exact w1 z
      · exact w2 z
      · exact g z.2
  have y54 : ∀ μ' : m_M, FG M μ μ' → Mem μ' σ M a → Stk σ a i j → ¬ (i = 0 ∧ j = σ 15 a - 1) → G cd_X12_gr8 Q Y 54 [(0, (2, M)), (1, (0, a)), (2, (0, i)), (3, (0, j)), (4, (0, σ 15 a)), (5, (0, 10 * i + j))] [(0, 10 * i + j), (2, M + 106)] ε μ' := fun μ' f E' s w1 => by
    apply g_X12_gr8_54
    rw [w32_id (show i32 (i - 1) by unfold i32; omega)]
    refine fun _ _ _ _ _ _ _ => ⟨fun q => y70 μ' f E' s w1 (by omega), fun q => ⟨L.k, gs_7 L (W.fg f) E' (by omega) (by omega) jn (by omega) (fun μ2 f2 E2 g => ?_) (fun μ2 f2 E2 g => ?_)⟩⟩
    · apply g_X12_gr8_67
      exact fun _ _ _ _ _ _ _ _ => ⟨fun _ => y90 μ2 (f.trans f2) E2 (st'.mpr ⟨s, Or.inr (Or.inl ⟨q, g⟩)⟩), fun z => absurd z (by decide)⟩
    · apply g_X12_gr8_67
      exact fun _ _ _ _ _ _ _ _ => ⟨fun z => absurd rfl z, fun _ => y70 μ2 (f.trans f2) E2 s w1 (fun z => g z.2)⟩
  apply e_X12_gr8
  rw [L.f17.1, L.f65.1, L.f17.2.2, L.f65.2.2, S15 μ W]
  refine fun _ _ _ _ => ⟨L.k, L.f17.2.1, a0, a1, fun v4 e4 v5 e5 => ?_⟩
  rw [w32_id (show i32 (10 * i) by unfold i32; omega), w32_id (show i32 (10 * i + j) by unfold i32; omega)] at e5
  rw [e4, e5]
  refine ⟨L.k, L.f65.2.1, by omega, by omega, fun q => ?_, fun q => sp_X12_strikes L W i0 ij jn (fun μ2 f2 s => ?_) (fun μ2 f2 s => ?_)⟩
  · apply g_X12_gr8_96
    rw [L.f65.1, L.f65.2.2]
    refine fun _ _ => ⟨L.k, L.f65.2.1, by omega, by omega, fun t ht => ?_⟩
    rcases E i j i0 ij jn with z | ⟨z, g⟩ | ⟨z, g⟩
    · exact absurd z q
    · rw [if_pos z] at ht; rw [ht]; exact h1 μ (fun _ _ _ _ _ _ _ _ => rfl) E g
    · rw [if_neg (by omega)] at ht; rw [ht]; exact h0 μ (fun _ _ _ _ _ _ _ _ => rfl) E g
  · apply g_X12_gr8_39
    rw [wn]
    refine fun _ _ _ _ _ _ _ _ => ⟨fun z => absurd z (by decide), fun _ => ⟨fun z => y54 μ2 f2.fg (E.r5 f2) s (by omega), fun z => ⟨fun z' => y90 μ2 f2.fg (E.r5 f2) (st'.mpr ⟨s, Or.inl ⟨z, z'⟩⟩), fun z' => y54 μ2 f2.fg (E.r5 f2) s (fun y => z' y.2)⟩⟩⟩
  · apply g_X12_gr8_39
    exact fun _ _ _ _ _ _ _ _ => ⟨fun _ => y94 μ2 f2.fg (E.r5 f2) (fun g => s (st'.mp g).1), fun z => absurd rfl z⟩
theorem gs_9 : GS o_X12_gr9 9 := by
  intro Q Y ε μ σ M a i j L W E i0 ij jn kk h1 h0
  have n1 := W.1.2.2.1
  have n10 := W.1.2.2.2.1
  have a0 := W.1.1
  have a1 := W.1.2.1
  have S15 : ∀ μ' : m_M, WM μ' σ M a → μ' (M + 15) a = σ 15 a := fun μ' W' => W'.2.2.2.2.2.2.2.2.1 15 a (by decide) (by decide)
  have fin : ∀ (μ' : m_M) (t : Int), FG M μ μ' → Mem μ' σ M a → ((t = 1 ∧ Grw σ a i j) ∨ (t = 2 ∧ ¬ Grw σ a i j)) → G cd_X12_gr9 Q Y 95 [(0, (2, M)), (5, (0, 10 * i + j))] [(0, t), (0, 10 * i + j), (2, M + 106)] ε μ' := fun μ' t f E' ht => by
    apply g_X12_gr9_95
    refine fun _ _ _ _ => ⟨L.f65.2.1, by omega, by rw [L.f65.2.2]; omega, fun μ2 m2 => ?_⟩
    apply g_X12_gr9_96
    rw [L.f65.1, L.f65.2.2, m2, sx_same]
    refine fun _ _ => ⟨L.k, L.f65.2.1, by omega, by omega, fun t' ht' => ?_⟩
    have f2 : FG M μ (st μ' (M + 106) (10 * i + j) t) := fun b j' q1 q2 q3 q4 q5 q6 => by rw [sx_oa q6]; exact f b j' q1 q2 q3 q4 q5 q6
    have E2 : Mem (st μ' (M + 106) (10 * i + j) t) σ M a := fun i' j' p0 p1 p2 => by
      by_cases z : 10 * i' + j' = 10 * i + j
      · have ei : i' = i := by omega
        have ej : j' = j := by omega
        rw [ei, ej, sx_same]; exact Or.inr ht
      · rw [sx_oi z]; exact E' i' j' p0 p1 p2
    rcases ht with ⟨e, g⟩ | ⟨e, g⟩
    · rw [if_pos e] at ht'; rw [ht']; exact h1 _ f2 E2 g
    · rw [if_neg (by omega)] at ht'; rw [ht']; exact h0 _ f2 E2 g
  have y90 : ∀ μ' : m_M, FG M μ μ' → Mem μ' σ M a → Grw σ a i j → G cd_X12_gr9 Q Y 90 [(0, (2, M)), (5, (0, 10 * i + j))] [(0, 10 * i + j), (2, M + 106)] ε μ' := fun μ' f E' g => by
    apply g_X12_gr9_90
    exact fun _ _ _ => fin μ' 1 f E' (Or.inl ⟨rfl, g⟩)
  have y94 : ∀ μ' : m_M, FG M μ μ' → Mem μ' σ M a → ¬ Grw σ a i j → G cd_X12_gr9 Q Y 94 [(0, (2, M)), (5, (0, 10 * i + j))] [(0, 10 * i + j), (2, M + 106)] ε μ' := fun μ' f E' g => by
    apply g_X12_gr9_94
    exact fun _ _ _ => fin μ' 2 f E' (Or.inr ⟨rfl, g⟩)
  have st' := Grw.step i0 ij jn
  have wn : w32 (σ 15 a - 1) = σ 15 a - 1 := w32_id (by unfold i32; omega)
  have y70 : ∀ μ' : m_M, FG M μ μ' → Mem μ' σ M a → Stk σ a i j → ¬ (i = 0 ∧ j = σ 15 a - 1) → ¬ (0 < i ∧ Grw σ a (i - 1) j) → G cd_X12_gr9 Q Y 70 [(0, (2, M)), (1, (0, a)), (2, (0, i)), (3, (0, j)), (4, (0, σ 15 a)), (5, (0, 10 * i + j))] [(0, 10 * i + j), (2, M + 106)] ε μ' := fun μ' f E' s w1 w2 => by
    apply g_X12_gr9_70
    rw [wn, w32_id (show i32 (j + 1) by unfold i32; omega)]
    refine fun _ _ _ _ _ _ _ => ⟨fun q => y94 μ' f E' (fun g => ?_), fun q => ⟨L.k, gs_8 L (W.fg f) E' i0 (by omega) (by omega) (by omega) (fun μ2 f2 E2 g => ?_) (fun μ2 f2 E2 g => ?_)⟩⟩
    · rcases (st'.mp g).2 with z | z | z
      · exact w1 z
      · exact w2 z
      · omega
    · apply g_X12_gr9_87
      exact fun _ _ _ _ => ⟨fun z => absurd z (by decide), fun _ => y90 μ2 (f.trans f2) E2 (st'.mpr ⟨s, Or.inr (Or.inr ⟨by omega, g⟩)⟩)⟩
    · apply g_X12_gr9_87
      refine fun _ _ _ _ => ⟨fun _ => y94 μ2 (f.trans f2) E2 (fun g' => ?_), fun z => absurd rfl z⟩
      rcases (st'.mp g').2 with z | z | z
      · exact w1 z
      · exact w2 z
      · exact g z.2
  have y54 : ∀ μ' : m_M, FG M μ μ' → Mem μ' σ M a → Stk σ a i j → ¬ (i = 0 ∧ j = σ 15 a - 1) → G cd_X12_gr9 Q Y 54 [(0, (2, M)), (1, (0, a)), (2, (0, i)), (3, (0, j)), (4, (0, σ 15 a)), (5, (0, 10 * i + j))] [(0, 10 * i + j), (2, M + 106)] ε μ' := fun μ' f E' s w1 => by
    apply g_X12_gr9_54
    rw [w32_id (show i32 (i - 1) by unfold i32; omega)]
    refine fun _ _ _ _ _ _ _ => ⟨fun q => y70 μ' f E' s w1 (by omega), fun q => ⟨L.k, gs_8 L (W.fg f) E' (by omega) (by omega) jn (by omega) (fun μ2 f2 E2 g => ?_) (fun μ2 f2 E2 g => ?_)⟩⟩
    · apply g_X12_gr9_67
      exact fun _ _ _ _ _ _ _ _ => ⟨fun _ => y90 μ2 (f.trans f2) E2 (st'.mpr ⟨s, Or.inr (Or.inl ⟨q, g⟩)⟩), fun z => absurd z (by decide)⟩
    · apply g_X12_gr9_67
      exact fun _ _ _ _ _ _ _ _ => ⟨fun z => absurd rfl z, fun _ => y70 μ2 (f.trans f2) E2 s w1 (fun z => g z.2)⟩
  apply e_X12_gr9
  rw [L.f17.1, L.f65.1, L.f17.2.2, L.f65.2.2, S15 μ W]
  refine fun _ _ _ _ => ⟨L.k, L.f17.2.1, a0, a1, fun v4 e4 v5 e5 => ?_⟩
  rw [w32_id (show i32 (10 * i) by unfold i32; omega), w32_id (show i32 (10 * i + j) by unfold i32; omega)] at e5
  rw [e4, e5]
  refine ⟨L.k, L.f65.2.1, by omega, by omega, fun q => ?_, fun q => sp_X12_strikes L W i0 ij jn (fun μ2 f2 s => ?_) (fun μ2 f2 s => ?_)⟩
  · apply g_X12_gr9_96
    rw [L.f65.1, L.f65.2.2]
    refine fun _ _ => ⟨L.k, L.f65.2.1, by omega, by omega, fun t ht => ?_⟩
    rcases E i j i0 ij jn with z | ⟨z, g⟩ | ⟨z, g⟩
    · exact absurd z q
    · rw [if_pos z] at ht; rw [ht]; exact h1 μ (fun _ _ _ _ _ _ _ _ => rfl) E g
    · rw [if_neg (by omega)] at ht; rw [ht]; exact h0 μ (fun _ _ _ _ _ _ _ _ => rfl) E g
  · apply g_X12_gr9_39
    rw [wn]
    refine fun _ _ _ _ _ _ _ _ => ⟨fun z => absurd z (by decide), fun _ => ⟨fun z => y54 μ2 f2.fg (E.r5 f2) s (by omega), fun z => ⟨fun z' => y90 μ2 f2.fg (E.r5 f2) (st'.mpr ⟨s, Or.inl ⟨z, z'⟩⟩), fun z' => y54 μ2 f2.fg (E.r5 f2) s (fun y => z' y.2)⟩⟩⟩
  · apply g_X12_gr9_39
    exact fun _ _ _ _ _ _ _ _ => ⟨fun _ => y94 μ2 f2.fg (E.r5 f2) (fun g => s (st'.mp g).1), fun z => absurd rfl z⟩
theorem gs_10 : GS o_X12_gr10 10 := by
  intro Q Y ε μ σ M a i j L W E i0 ij jn kk h1 h0
  have n1 := W.1.2.2.1
  have n10 := W.1.2.2.2.1
  have a0 := W.1.1
  have a1 := W.1.2.1
  have S15 : ∀ μ' : m_M, WM μ' σ M a → μ' (M + 15) a = σ 15 a := fun μ' W' => W'.2.2.2.2.2.2.2.2.1 15 a (by decide) (by decide)
  have fin : ∀ (μ' : m_M) (t : Int), FG M μ μ' → Mem μ' σ M a → ((t = 1 ∧ Grw σ a i j) ∨ (t = 2 ∧ ¬ Grw σ a i j)) → G cd_X12_gr10 Q Y 95 [(0, (2, M)), (5, (0, 10 * i + j))] [(0, t), (0, 10 * i + j), (2, M + 106)] ε μ' := fun μ' t f E' ht => by
    apply g_X12_gr10_95
    refine fun _ _ _ _ => ⟨L.f65.2.1, by omega, by rw [L.f65.2.2]; omega, fun μ2 m2 => ?_⟩
    apply g_X12_gr10_96
    rw [L.f65.1, L.f65.2.2, m2, sx_same]
    refine fun _ _ => ⟨L.k, L.f65.2.1, by omega, by omega, fun t' ht' => ?_⟩
    have f2 : FG M μ (st μ' (M + 106) (10 * i + j) t) := fun b j' q1 q2 q3 q4 q5 q6 => by rw [sx_oa q6]; exact f b j' q1 q2 q3 q4 q5 q6
    have E2 : Mem (st μ' (M + 106) (10 * i + j) t) σ M a := fun i' j' p0 p1 p2 => by
      by_cases z : 10 * i' + j' = 10 * i + j
      · have ei : i' = i := by omega
        have ej : j' = j := by omega
        rw [ei, ej, sx_same]; exact Or.inr ht
      · rw [sx_oi z]; exact E' i' j' p0 p1 p2
    rcases ht with ⟨e, g⟩ | ⟨e, g⟩
    · rw [if_pos e] at ht'; rw [ht']; exact h1 _ f2 E2 g
    · rw [if_neg (by omega)] at ht'; rw [ht']; exact h0 _ f2 E2 g
  have y90 : ∀ μ' : m_M, FG M μ μ' → Mem μ' σ M a → Grw σ a i j → G cd_X12_gr10 Q Y 90 [(0, (2, M)), (5, (0, 10 * i + j))] [(0, 10 * i + j), (2, M + 106)] ε μ' := fun μ' f E' g => by
    apply g_X12_gr10_90
    exact fun _ _ _ => fin μ' 1 f E' (Or.inl ⟨rfl, g⟩)
  have y94 : ∀ μ' : m_M, FG M μ μ' → Mem μ' σ M a → ¬ Grw σ a i j → G cd_X12_gr10 Q Y 94 [(0, (2, M)), (5, (0, 10 * i + j))] [(0, 10 * i + j), (2, M + 106)] ε μ' := fun μ' f E' g => by
    apply g_X12_gr10_94
    exact fun _ _ _ => fin μ' 2 f E' (Or.inr ⟨rfl, g⟩)
  have st' := Grw.step i0 ij jn
  have wn : w32 (σ 15 a - 1) = σ 15 a - 1 := w32_id (by unfold i32; omega)
  have y70 : ∀ μ' : m_M, FG M μ μ' → Mem μ' σ M a → Stk σ a i j → ¬ (i = 0 ∧ j = σ 15 a - 1) → ¬ (0 < i ∧ Grw σ a (i - 1) j) → G cd_X12_gr10 Q Y 70 [(0, (2, M)), (1, (0, a)), (2, (0, i)), (3, (0, j)), (4, (0, σ 15 a)), (5, (0, 10 * i + j))] [(0, 10 * i + j), (2, M + 106)] ε μ' := fun μ' f E' s w1 w2 => by
    apply g_X12_gr10_70
    rw [wn, w32_id (show i32 (j + 1) by unfold i32; omega)]
    refine fun _ _ _ _ _ _ _ => ⟨fun q => y94 μ' f E' (fun g => ?_), fun q => ⟨L.k, gs_9 L (W.fg f) E' i0 (by omega) (by omega) (by omega) (fun μ2 f2 E2 g => ?_) (fun μ2 f2 E2 g => ?_)⟩⟩
    · rcases (st'.mp g).2 with z | z | z
      · exact w1 z
      · exact w2 z
      · omega
    · apply g_X12_gr10_87
      exact fun _ _ _ _ => ⟨fun z => absurd z (by decide), fun _ => y90 μ2 (f.trans f2) E2 (st'.mpr ⟨s, Or.inr (Or.inr ⟨by omega, g⟩)⟩)⟩
    · apply g_X12_gr10_87
      refine fun _ _ _ _ => ⟨fun _ => y94 μ2 (f.trans f2) E2 (fun g' => ?_), fun z => absurd rfl z⟩
      rcases (st'.mp g').2 with z | z | z
      · exact w1 z
      · exact w2 z
      · exact g z.2
  have y54 : ∀ μ' : m_M, FG M μ μ' → Mem μ' σ M a → Stk σ a i j → ¬ (i = 0 ∧ j = σ 15 a - 1) → G cd_X12_gr10 Q Y 54 [(0, (2, M)), (1, (0, a)), (2, (0, i)), (3, (0, j)), (4, (0, σ 15 a)), (5, (0, 10 * i + j))] [(0, 10 * i + j), (2, M + 106)] ε μ' := fun μ' f E' s w1 => by
    apply g_X12_gr10_54
    rw [w32_id (show i32 (i - 1) by unfold i32; omega)]
    refine fun _ _ _ _ _ _ _ => ⟨fun q => y70 μ' f E' s w1 (by omega), fun q => ⟨L.k, gs_9 L (W.fg f) E' (by omega) (by omega) jn (by omega) (fun μ2 f2 E2 g => ?_) (fun μ2 f2 E2 g => ?_)⟩⟩
    · apply g_X12_gr10_67
      exact fun _ _ _ _ _ _ _ _ => ⟨fun _ => y90 μ2 (f.trans f2) E2 (st'.mpr ⟨s, Or.inr (Or.inl ⟨q, g⟩)⟩), fun z => absurd z (by decide)⟩
    · apply g_X12_gr10_67
      exact fun _ _ _ _ _ _ _ _ => ⟨fun z => absurd rfl z, fun _ => y70 μ2 (f.trans f2) E2 s w1 (fun z => g z.2)⟩
  apply e_X12_gr10
  rw [L.f17.1, L.f65.1, L.f17.2.2, L.f65.2.2, S15 μ W]
  refine fun _ _ _ _ => ⟨L.k, L.f17.2.1, a0, a1, fun v4 e4 v5 e5 => ?_⟩
  rw [w32_id (show i32 (10 * i) by unfold i32; omega), w32_id (show i32 (10 * i + j) by unfold i32; omega)] at e5
  rw [e4, e5]
  refine ⟨L.k, L.f65.2.1, by omega, by omega, fun q => ?_, fun q => sp_X12_strikes L W i0 ij jn (fun μ2 f2 s => ?_) (fun μ2 f2 s => ?_)⟩
  · apply g_X12_gr10_96
    rw [L.f65.1, L.f65.2.2]
    refine fun _ _ => ⟨L.k, L.f65.2.1, by omega, by omega, fun t ht => ?_⟩
    rcases E i j i0 ij jn with z | ⟨z, g⟩ | ⟨z, g⟩
    · exact absurd z q
    · rw [if_pos z] at ht; rw [ht]; exact h1 μ (fun _ _ _ _ _ _ _ _ => rfl) E g
    · rw [if_neg (by omega)] at ht; rw [ht]; exact h0 μ (fun _ _ _ _ _ _ _ _ => rfl) E g
  · apply g_X12_gr10_39
    rw [wn]
    refine fun _ _ _ _ _ _ _ _ => ⟨fun z => absurd z (by decide), fun _ => ⟨fun z => y54 μ2 f2.fg (E.r5 f2) s (by omega), fun z => ⟨fun z' => y90 μ2 f2.fg (E.r5 f2) (st'.mpr ⟨s, Or.inl ⟨z, z'⟩⟩), fun z' => y54 μ2 f2.fg (E.r5 f2) s (fun y => z' y.2)⟩⟩⟩
  · apply g_X12_gr10_39
    exact fun _ _ _ _ _ _ _ _ => ⟨fun _ => y94 μ2 f2.fg (E.r5 f2) (fun g => s (st'.mp g).1), fun z => absurd rfl z⟩
