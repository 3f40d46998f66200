/-! ArchYard.commonDivisor(JJ)J -/
set_option maxRecDepth 20000 in
theorem g_X10_commonDivisor_63 {Q X : m_Po} {t : Int} {ε : m_E} {μ : m_M} (h : TY ε μ → i64 t → Q t ε μ) : G cd_X10_commonDivisor Q X 63 [] [(1, t)] ε μ := by
  refine G_run (m_in [12, 15, 40, 47, 50, 63]) 12 _ _ _ _ ?_
  show m_ty [] [(1, t)] ε μ → Q t ε μ
  intro hty
  replace h := h hty.1 (hty.2.2 _ (List.mem_of_getElem? (i := 0) rfl))
  exact h
set_option maxRecDepth 20000 in
theorem g_X10_commonDivisor_50 {Q X : m_Po} {v4 : Int} {ε : m_E} {μ : m_M} (h : TY ε μ → i64 v4 → ∀ t : Int, t = (if (1 : Int) ≤ v4 then v4 else 1) → Q t ε μ) : G cd_X10_commonDivisor Q X 50 [(4, (1, v4))] [] ε μ := by
  refine G_run (m_in [12, 15, 40, 47, 50, 63]) 12 _ _ _ _ ?_
  show m_ty [(4, (1, v4))] [] ε μ → ((1 : Int) ≤ v4 → (m_ty [(4, (1, v4))] [] ε μ → G cd_X10_commonDivisor Q X 63 [] [(1, v4)] ε μ)) ∧ (v4 < (1 : Int) → (m_ty [] [] ε μ → G cd_X10_commonDivisor Q X 63 [] [(1, 1)] ε μ))
  intro hty
  replace h := h hty.1 (hty.2.1 _ (List.mem_of_getElem? (i := 0) rfl))
  have hj := h
  refine And.intro (fun c0 => ?_) (fun c0 => ?_)
  · intro _
    exact g_X10_commonDivisor_63 (fun _ _ => (hj _ (((if_pos c0).trans rfl)).symm))
  · intro _
    exact g_X10_commonDivisor_63 (fun _ _ => (hj _ (((if_neg (Int.not_le.mpr c0)).trans rfl)).symm))
set_option maxRecDepth 20000 in
theorem g_X10_commonDivisor_47 {Q X : m_Po} {v4 v6 v8 : Int} {ε : m_E} {μ : m_M} (h : TY ε μ → i64 v4 → i64 v6 → i32 v8 → G cd_X10_commonDivisor Q X 15 [(4, (1, v4)), (6, (1, v6)), (8, (0, v8))] [] ε μ) : G cd_X10_commonDivisor Q X 47 [(4, (1, v4)), (6, (1, v6)), (8, (0, v8))] [] ε μ := by
  refine G_run (m_in [12, 15, 40, 47, 50, 63]) 12 _ _ _ _ ?_
  show m_ty [(4, (1, v4)), (6, (1, v6)), (8, (0, v8))] [] ε μ → G cd_X10_commonDivisor Q X 15 [(4, (1, v4)), (6, (1, v6)), (8, (0, v8))] [] ε μ
  intro hty
  replace h := h hty.1 (hty.2.1 _ (List.mem_of_getElem? (i := 0) rfl)) (hty.2.1 _ (List.mem_of_getElem? (i := 1) rfl)) (hty.2.1 _ (List.mem_of_getElem? (i := 2) rfl))
  exact h
set_option maxRecDepth 20000 in
theorem g_X10_commonDivisor_40 {Q X : m_Po} {v4 v8 v9 : Int} {ε : m_E} {μ : m_M} (h : TY ε μ → i64 v4 → i32 v8 → i64 v9 → ∀ v6 : Int, v6 = v9 → ∀ v8_1 : Int, v8_1 = w32 (v8 + 1) → G cd_X10_commonDivisor Q X 15 [(4, (1, v4)), (6, (1, v6)), (8, (0, v8_1))] [] ε μ) : G cd_X10_commonDivisor Q X 40 [(4, (1, v4)), (8, (0, v8)), (9, (1, v9))] [] ε μ := by
  refine G_run (m_in [12, 15, 40, 47, 50, 63]) 12 _ _ _ _ ?_
  show m_ty [(4, (1, v4)), (8, (0, v8)), (9, (1, v9))] [] ε μ → ∀ v6 : Int, v6 = v9 → ∀ v8_1 : Int, v8_1 = w32 (v8 + 1) → G cd_X10_commonDivisor Q X 47 [(4, (1, v4)), (6, (1, v6)), (8, (0, v8_1))] [] ε μ
  intro hty
  replace h := h hty.1 (hty.2.1 _ (List.mem_of_getElem? (i := 0) rfl)) (hty.2.1 _ (List.mem_of_getElem? (i := 1) rfl)) (hty.2.1 _ (List.mem_of_getElem? (i := 2) rfl))
  intro v6 e_v6
  replace h := h v6 e_v6
  intro v8_1 e_v8_1
  replace h := h v8_1 e_v8_1
  exact g_X10_commonDivisor_47 (fun _ _ _ _ => h)
set_option maxRecDepth 20000 in
theorem g_X10_commonDivisor_15 {Q X : m_Po} {v4 v6 v8 : Int} {ε : m_E} {μ : m_M} (h : TY ε μ → i64 v4 → i64 v6 → i32 v8 → ((100 : Int) ≤ v8 → G cd_X10_commonDivisor Q X 50 [(4, (1, v4))] [] ε μ) ∧ (v8 < (100 : Int) → (v6 = (0 : Int) → G cd_X10_commonDivisor Q X 50 [(4, (1, v4))] [] ε μ) ∧ (v6 ≠ (0 : Int) → v6 ≠ 0 ∧ ∀ v9 : Int, v9 = Int.tmod v4 v6 → ∀ v4_1 : Int, v4_1 = v6 → ∀ v6_1 : Int, v6_1 = v9 → ∀ v8_1 : Int, v8_1 = w32 (v8 + 1) → G cd_X10_commonDivisor Q X 15 [(4, (1, v4_1)), (6, (1, v6_1)), (8, (0, v8_1))] [] ε μ))) : G cd_X10_commonDivisor Q X 15 [(4, (1, v4)), (6, (1, v6)), (8, (0, v8))] [] ε μ := by
  refine G_run (m_in [12, 15, 40, 47, 50, 63]) 12 _ _ _ _ ?_
  show m_ty [(4, (1, v4)), (6, (1, v6)), (8, (0, v8))] [] ε μ → ((100 : Int) ≤ v8 → G cd_X10_commonDivisor Q X 50 [(4, (1, v4))] [] ε μ) ∧ (v8 < (100 : Int) → (m_ty [(4, (1, v4)), (6, (1, v6)), (8, (0, v8))] [] ε μ → (v6 = (0 : Int) → G cd_X10_commonDivisor Q X 50 [(4, (1, v4))] [] ε μ) ∧ (v6 ≠ (0 : Int) → (m_ty [(4, (1, v4)), (6, (1, v6)), (8, (0, v8))] [] ε μ → (v6 ≠ 0) ∧ ∀ v9 : Int, v9 = Int.tmod v4 v6 → ∀ v4_1 : Int, v4_1 = v6 → G cd_X10_commonDivisor Q X 40 [(4, (1, v4_1)), (8, (0, v8)), (9, (1, v9))] [] ε μ))))
  intro hty
  replace h := h hty.1 (hty.2.1 _ (List.mem_of_getElem? (i := 0) rfl)) (hty.2.1 _ (List.mem_of_getElem? (i := 1) rfl)) (hty.2.1 _ (List.mem_of_getElem? (i := 2) rfl))
  obtain ⟨ha, hb⟩ := h
  refine And.intro (fun c2 => ?_) (fun c2 => ?_)
  · replace h := ha c2
    clear ha hb
    exact h
  · replace h := hb c2
    clear ha hb
    intro _
    obtain ⟨ha, hb⟩ := h
    refine And.intro (fun c1 => ?_) (fun c1 => ?_)
    · replace h := ha c1
      clear ha hb
      exact h
    · replace h := hb c1
      clear ha hb
      intro _
      obtain ⟨k1, h⟩ := h
      refine And.intro k1 ?_
      intro v9 e_v9
      replace h := h v9 e_v9
      intro v4_1 e_v4_1
      replace h := h v4_1 e_v4_1
      exact g_X10_commonDivisor_40 (fun _ _ _ _ => h)
set_option maxRecDepth 20000 in
theorem g_X10_commonDivisor_12 {Q X : m_Po} {v4 v6 : Int} {ε : m_E} {μ : m_M} (h : TY ε μ → i64 v4 → i64 v6 → ∀ v8 : Int, v8 = 0 → G cd_X10_commonDivisor Q X 15 [(4, (1, v4)), (6, (1, v6)), (8, (0, v8))] [] ε μ) : G cd_X10_commonDivisor Q X 12 [(4, (1, v4)), (6, (1, v6))] [] ε μ := by
  refine G_run (m_in [12, 15, 40, 47, 50, 63]) 12 _ _ _ _ ?_
  show m_ty [(4, (1, v4)), (6, (1, v6))] [] ε μ → ∀ v8 : Int, v8 = 0 → G cd_X10_commonDivisor Q X 15 [(4, (1, v4)), (6, (1, v6)), (8, (0, v8))] [] ε μ
  intro hty
  replace h := h hty.1 (hty.2.1 _ (List.mem_of_getElem? (i := 0) rfl)) (hty.2.1 _ (List.mem_of_getElem? (i := 1) rfl))
  intro v8 e_v8
  replace h := h v8 e_v8
  exact h
set_option maxRecDepth 20000 in
theorem g_X10_commonDivisor_0 {Q X : m_Po} {v0 v2 : Int} {ε : m_E} {μ : m_M} (h : TY ε μ → i64 v0 → i64 v2 → ∀ v4 : Int, v4 = (if 0 < v0 then v0 else w64 (-v0)) → ∀ v6 : Int, v6 = (if 0 < v2 then v2 else w64 (-v2)) → ∀ v8 : Int, v8 = 0 → G cd_X10_commonDivisor Q X 15 [(4, (1, v4)), (6, (1, v6)), (8, (0, v8))] [] ε μ) : G cd_X10_commonDivisor Q X 0 [(0, (1, v0)), (2, (1, v2))] [] ε μ := by
  refine G_run (m_in [12, 15, 40, 47, 50, 63]) 12 _ _ _ _ ?_
  show m_ty [(0, (1, v0)), (2, (1, v2))] [] ε μ → ∀ v4 : Int, v4 = (if 0 < v0 then v0 else w64 (-v0)) → ∀ v6 : Int, v6 = (if 0 < v2 then v2 else w64 (-v2)) → G cd_X10_commonDivisor Q X 12 [(4, (1, v4)), (6, (1, v6))] [] ε μ
  intro hty
  replace h := h hty.1 (hty.2.1 _ (List.mem_of_getElem? (i := 0) rfl)) (hty.2.1 _ (List.mem_of_getElem? (i := 1) rfl))
  intro v4 e_v4
  replace h := h v4 e_v4
  intro v6 e_v6
  replace h := h v6 e_v6
  exact g_X10_commonDivisor_12 (fun _ _ _ => h)
theorem e_X10_commonDivisor {Q X : m_Po} {v0 v2 : Int} {ε : m_E} {μ : m_M} (h : TY ε μ → i64 v0 → i64 v2 → ∀ v4 : Int, v4 = (if 0 < v0 then v0 else w64 (-v0)) → ∀ v6 : Int, v6 = (if 0 < v2 then v2 else w64 (-v2)) → ∀ v8 : Int, v8 = 0 → G cd_X10_commonDivisor Q X 15 [(4, (1, v4)), (6, (1, v6)), (8, (0, v8))] [] ε μ) : o_X10_commonDivisor [(1, v0), (1, v2)] ε μ Q X := And.intro rfl (g_X10_commonDivisor_0 h)
/-! ArchYard$Never.clash(LArchYard$Bounds;I)Z -/
set_option maxRecDepth 20000 in
theorem g_X3_clash_115 {Q X : m_Po} {ε : m_E} {μ : m_M} (h : TY ε μ → Q 1 ε μ) : G cd_X3_clash Q X 115 [] [] ε μ := by
  refine G_run (m_in [10, 21, 28, 38, 55, 59, 65, 102, 115]) 22 _ _ _ _ ?_
  show m_ty [] [] ε μ → (1 = 0 ∨ 1 = 1) ∧ Q 1 ε μ
  intro hty
  replace h := h hty.1 
  refine And.intro (Or.inr rfl) ?_
  exact h
set_option maxRecDepth 20000 in
theorem g_X3_clash_102 {Q X : m_Po} {v0 v1 v2 v3 v5 t t_1 t_2 : Int} {ε : m_E} {μ : m_M} (h : TY ε μ → i32 v2 → i64 v3 → i32 v5 → i32 t_1 → i64 t_2 → kd ε t = 101 ∧ (0 : Int) ≤ t_1 ∧ t_1 < ln ε t ∧ ∀ μ_1 : m_M, μ_1 = st μ t t_1 t_2 → ∀ v5_1 : Int, v5_1 = w32 (v5 + 1) → G cd_X3_clash Q X 65 [(0, (2, v0)), (1, (2, v1)), (2, (0, v2)), (3, (1, v3)), (5, (0, v5_1))] [] ε μ_1) : G cd_X3_clash Q X 102 [(0, (2, v0)), (1, (2, v1)), (2, (0, v2)), (3, (1, v3)), (5, (0, v5))] [(1, t_2), (0, t_1), (2, t)] ε μ := by
  refine G_run (m_in [10, 21, 28, 38, 55, 59, 65, 102, 115]) 22 _ _ _ _ ?_
  show m_ty [(0, (2, v0)), (1, (2, v1)), (2, (0, v2)), (3, (1, v3)), (5, (0, v5))] [(1, t_2), (0, t_1), (2, t)] ε μ → (kd ε t = 101) ∧ ((0 : Int) ≤ t_1 ∧ t_1 < ln ε t) ∧ ∀ μ_1 : m_M, μ_1 = st μ t t_1 t_2 → ∀ v5_1 : Int, v5_1 = w32 (v5 + 1) → G cd_X3_clash Q X 65 [(0, (2, v0)), (1, (2, v1)), (2, (0, v2)), (3, (1, v3)), (5, (0, v5_1))] [] ε μ_1
  intro hty
  replace h := h hty.1 (hty.2.1 _ (List.mem_of_getElem? (i := 2) rfl)) (hty.2.1 _ (List.mem_of_getElem? (i := 3) rfl)) (hty.2.1 _ (List.mem_of_getElem? (i := 4) rfl)) (hty.2.2 _ (List.mem_of_getElem? (i := 1) rfl)) (hty.2.2 _ (List.mem_of_getElem? (i := 0) rfl))
  obtain ⟨k1, h⟩ := h
  refine And.intro k1 ?_
  obtain ⟨k2, h⟩ := h
  obtain ⟨k3, h⟩ := h
  refine And.intro (And.intro k2 k3) ?_
  intro μ_1 e_μ_1
  replace h := h μ_1 e_μ_1
  intro v5_1 e_v5_1
  replace h := h v5_1 e_v5_1
  exact h
set_option maxRecDepth 20000 in
theorem g_X3_clash_65 {Q X : m_Po} {v0 v1 v2 v3 v5 : Int} {ε : m_E} {μ : m_M} (h : TY ε μ → i32 v2 → i64 v3 → i32 v5 → (v2 ≤ v5 → kd ε v0 = 3 ∧ o_X3_findLeft [(2, v0), (2, v1), (0, v2)] ε μ (fun z ε_1 μ_1 => G cd_X3_clash Q X 115 [] [] ε_1 μ_1) m_F) ∧ (v5 < v2 → kd ε v0 = 3 ∧ ((v3 ≠ (0 : Int) → kd ε (fn ε v0 1) = 101 ∧ (0 : Int) ≤ v5 ∧ v5 < ln ε (fn ε v0 1) ∧ v3 ≠ 0) ∧ (v3 = (0 : Int) → kd ε (fn ε v0 1) = 101 ∧ (0 : Int) ≤ v5 ∧ v5 < ln ε (fn ε v0 1))) ∧ ∀ t : Int, t = (if v3 = (0 : Int) then μ (fn ε v0 1) v5 else w64 (Int.tdiv (μ (fn ε v0 1) v5) v3)) → kd ε (fn ε v0 1) = 101 ∧ (0 : Int) ≤ v5 ∧ v5 < ln ε (fn ε v0 1) ∧ ∀ μ_2 : m_M, μ_2 = st μ (fn ε v0 1) v5 t → ∀ v5_1 : Int, v5_1 = w32 (v5 + 1) → G cd_X3_clash Q X 65 [(0, (2, v0)), (1, (2, v1)), (2, (0, v2)), (3, (1, v3)), (5, (0, v5_1))] [] ε μ_2)) : G cd_X3_clash Q X 65 [(0, (2, v0)), (1, (2, v1)), (2, (0, v2)), (3, (1, v3)), (5, (0, v5))] [] ε μ := by
  refine G_run (m_in [10, 21, 28, 38, 55, 59, 65, 102, 115]) 22 _ _ _ _ ?_
  show m_ty [(0, (2, v0)), (1, (2, v1)), (2, (0, v2)), (3, (1, v3)), (5, (0, v5))] [] ε μ → (v2 ≤ v5 → (m_ty [(0, (2, v0)), (1, (2, v1)), (2, (0, v2))] [] ε μ → (kd ε v0 = 3) ∧ o_X3_findLeft [(2, v0), (2, v1), (0, v2)] ε μ (fun z ε_1 μ_1 => G cd_X3_clash Q X 115 [] [] ε_1 μ_1) m_F)) ∧ (v5 < v2 → (m_ty [(0, (2, v0)), (1, (2, v1)), (2, (0, v2)), (3, (1, v3)), (5, (0, v5))] [] ε μ → (kd ε v0 = 3) ∧ (v3 ≠ (0 : Int) → (m_ty [(0, (2, v0)), (1, (2, v1)), (2, (0, v2)), (3, (1, v3)), (5, (0, v5))] [(0, v5), (2, fn ε v0 1)] ε μ → (kd ε v0 = 3) ∧ (kd ε (fn ε v0 1) = 101) ∧ ((0 : Int) ≤ v5 ∧ v5 < ln ε (fn ε v0 1)) ∧ (v3 ≠ 0) ∧ G cd_X3_clash Q X 102 [(0, (2, v0)), (1, (2, v1)), (2, (0, v2)), (3, (1, v3)), (5, (0, v5))] [(1, w64 (Int.tdiv (μ (fn ε v0 1) v5) v3)), (0, v5), (2, fn ε v0 1)] ε μ)) ∧ (v3 = (0 : Int) → (m_ty [(0, (2, v0)), (1, (2, v1)), (2, (0, v2)), (3, (1, v3)), (5, (0, v5))] [(0, v5), (2, fn ε v0 1)] ε μ → (kd ε v0 = 3) ∧ (kd ε (fn ε v0 1) = 101) ∧ ((0 : Int) ≤ v5 ∧ v5 < ln ε (fn ε v0 1)) ∧ G cd_X3_clash Q X 102 [(0, (2, v0)), (1, (2, v1)), (2, (0, v2)), (3, (1, v3)), (5, (0, v5))] [(1, μ (fn ε v0 1) v5), (0, v5), (2, fn ε v0 1)] ε μ))))
  intro hty
  replace h := h hty.1 (hty.2.1 _ (List.mem_of_getElem? (i := 2) rfl)) (hty.2.1 _ (List.mem_of_getElem? (i := 3) rfl)) (hty.2.1 _ (List.mem_of_getElem? (i := 4) rfl))
  obtain ⟨ha, hb⟩ := h
  refine And.intro (fun c15 => ?_) (fun c15 => ?_)
  · replace h := ha c15
    clear ha hb
    intro _
    obtain ⟨k1, h⟩ := h
    refine And.intro k1 ?_
    exact h
  · replace h := hb c15
    clear ha hb
    intro _
    obtain ⟨k2, h⟩ := h
    refine And.intro k2 ?_
    obtain ⟨hc, hj⟩ := h
    obtain ⟨k14, k15⟩ := hc
    refine And.intro (fun c2 => ?_) (fun c2 => ?_)
    · replace k14 := k14 c2
      intro _
      obtain ⟨k4, k5, k6, k7⟩ := k14
      refine And.intro k2 ?_
      refine And.intro k4 ?_
      refine And.intro (And.intro k5 k6) ?_
      refine And.intro k7 ?_
      exact g_X3_clash_102 (fun _ _ _ _ _ _ => (hj _ (((if_neg (c2)).trans rfl)).symm))
    · replace k15 := k15 c2
      intro _
      obtain ⟨k8, k9, k10⟩ := k15
      refine And.intro k2 ?_
      refine And.intro k8 ?_
      refine And.intro (And.intro k9 k10) ?_
      exact g_X3_clash_102 (fun _ _ _ _ _ _ => (hj _ (((if_pos c2).trans rfl)).symm))
set_option maxRecDepth 20000 in
theorem g_X3_clash_59 {Q X : m_Po} {v0 v1 v2 v3 v5 : Int} {ε : m_E} {μ : m_M} (h : TY ε μ → i32 v2 → i64 v3 → i32 v5 → G cd_X3_clash Q X 38 [(0, (2, v0)), (1, (2, v1)), (2, (0, v2)), (3, (1, v3)), (5, (0, v5))] [] ε μ) : G cd_X3_clash Q X 59 [(0, (2, v0)), (1, (2, v1)), (2, (0, v2)), (3, (1, v3)), (5, (0, v5))] [] ε μ := by
  refine G_run (m_in [10, 21, 28, 38, 55, 59, 65, 102, 115]) 22 _ _ _ _ ?_
  show m_ty [(0, (2, v0)), (1, (2, v1)), (2, (0, v2)), (3, (1, v3)), (5, (0, v5))] [] ε μ → G cd_X3_clash Q X 38 [(0, (2, v0)), (1, (2, v1)), (2, (0, v2)), (3, (1, v3)), (5, (0, v5))] [] ε μ
  intro hty
  replace h := h hty.1 (hty.2.1 _ (List.mem_of_getElem? (i := 2) rfl)) (hty.2.1 _ (List.mem_of_getElem? (i := 3) rfl)) (hty.2.1 _ (List.mem_of_getElem? (i := 4) rfl))
  exact h
set_option maxRecDepth 20000 in
theorem g_X3_clash_55 {Q X : m_Po} {v0 v1 v2 v5 t : Int} {ε : m_E} {μ : m_M} (h : TY ε μ → i32 v2 → i32 v5 → i64 t → ∀ v3 : Int, v3 = t → ∀ v5_1 : Int, v5_1 = w32 (v5 + 1) → G cd_X3_clash Q X 38 [(0, (2, v0)), (1, (2, v1)), (2, (0, v2)), (3, (1, v3)), (5, (0, v5_1))] [] ε μ) : G cd_X3_clash Q X 55 [(0, (2, v0)), (1, (2, v1)), (2, (0, v2)), (5, (0, v5))] [(1, t)] ε μ := by
  refine G_run (m_in [10, 21, 28, 38, 55, 59, 65, 102, 115]) 22 _ _ _ _ ?_
  show m_ty [(0, (2, v0)), (1, (2, v1)), (2, (0, v2)), (5, (0, v5))] [(1, t)] ε μ → ∀ v3 : Int, v3 = t → ∀ v5_1 : Int, v5_1 = w32 (v5 + 1) → G cd_X3_clash Q X 59 [(0, (2, v0)), (1, (2, v1)), (2, (0, v2)), (3, (1, v3)), (5, (0, v5_1))] [] ε μ
  intro hty
  replace h := h hty.1 (hty.2.1 _ (List.mem_of_getElem? (i := 2) rfl)) (hty.2.1 _ (List.mem_of_getElem? (i := 3) rfl)) (hty.2.2 _ (List.mem_of_getElem? (i := 0) rfl))
  intro v3 e_v3
  replace h := h v3 e_v3
  intro v5_1 e_v5_1
  replace h := h v5_1 e_v5_1
  exact g_X3_clash_59 (fun _ _ _ _ => h)
set_option maxRecDepth 20000 in
theorem g_X3_clash_38 {Q X : m_Po} {v0 v1 v2 v3 v5 : Int} {ε : m_E} {μ : m_M} (h : TY ε μ → i32 v2 → i64 v3 → i32 v5 → (v2 ≤ v5 → ∀ v5_1 : Int, v5_1 = 0 → G cd_X3_clash Q X 65 [(0, (2, v0)), (1, (2, v1)), (2, (0, v2)), (3, (1, v3)), (5, (0, v5_1))] [] ε μ) ∧ (v5 < v2 → kd ε v0 = 3 ∧ kd ε (fn ε v0 1) = 101 ∧ (0 : Int) ≤ v5 ∧ v5 < ln ε (fn ε v0 1) ∧ o_X10_commonDivisor [(1, v3), (1, μ (fn ε v0 1) v5)] ε μ (fun z ε_1 μ_1 => G cd_X3_clash Q X 55 [(0, (2, v0)), (1, (2, v1)), (2, (0, v2)), (5, (0, v5))] [(1, z)] ε_1 μ_1) m_F)) : G cd_X3_clash Q X 38 [(0, (2, v0)), (1, (2, v1)), (2, (0, v2)), (3, (1, v3)), (5, (0, v5))] [] ε μ := by
  refine G_run (m_in [10, 21, 28, 38, 55, 59, 65, 102, 115]) 22 _ _ _ _ ?_
  show m_ty [(0, (2, v0)), (1, (2, v1)), (2, (0, v2)), (3, (1, v3)), (5, (0, v5))] [] ε μ → (v2 ≤ v5 → (m_ty [(0, (2, v0)), (1, (2, v1)), (2, (0, v2)), (3, (1, v3))] [] ε μ → ∀ v5_1 : Int, v5_1 = 0 → G cd_X3_clash Q X 65 [(0, (2, v0)), (1, (2, v1)), (2, (0, v2)), (3, (1, v3)), (5, (0, v5_1))] [] ε μ)) ∧ (v5 < v2 → (m_ty [(0, (2, v0)), (1, (2, v1)), (2, (0, v2)), (3, (1, v3)), (5, (0, v5))] [] ε μ → (kd ε v0 = 3) ∧ (kd ε (fn ε v0 1) = 101) ∧ ((0 : Int) ≤ v5 ∧ v5 < ln ε (fn ε v0 1)) ∧ o_X10_commonDivisor [(1, v3), (1, μ (fn ε v0 1) v5)] ε μ (fun z ε_1 μ_1 => G cd_X3_clash Q X 55 [(0, (2, v0)), (1, (2, v1)), (2, (0, v2)), (5, (0, v5))] [(1, z)] ε_1 μ_1) m_F))
  intro hty
  replace h := h hty.1 (hty.2.1 _ (List.mem_of_getElem? (i := 2) rfl)) (hty.2.1 _ (List.mem_of_getElem? (i := 3) rfl)) (hty.2.1 _ (List.mem_of_getElem? (i := 4) rfl))
  obtain ⟨ha, hb⟩ := h
  refine And.intro (fun c4 => ?_) (fun c4 => ?_)
  · replace h := ha c4
    clear ha hb
    intro _
    intro v5_1 e_v5_1
    replace h := h v5_1 e_v5_1
    exact h
  · replace h := hb c4
    clear ha hb
    intro _
    obtain ⟨k1, h⟩ := h
    refine And.intro k1 ?_
    obtain ⟨k2, h⟩ := h
    refine And.intro k2 ?_
    obtain ⟨k3, h⟩ := h
    obtain ⟨k4, h⟩ := h
    refine And.intro (And.intro k3 k4) ?_
    exact h
set_option maxRecDepth 20000 in
theorem g_X3_clash_28 {Q X : m_Po} {v0 v1 v2 t : Int} {ε : m_E} {μ : m_M} (h : TY ε μ → i32 v2 → i32 t → (t < 0 → ∀ v3 : Int, v3 = 0 → ∀ v5 : Int, v5 = 0 → G cd_X3_clash Q X 38 [(0, (2, v0)), (1, (2, v1)), (2, (0, v2)), (3, (1, v3)), (5, (0, v5))] [] ε μ) ∧ (0 ≤ t → Q 0 ε μ)) : G cd_X3_clash Q X 28 [(0, (2, v0)), (1, (2, v1)), (2, (0, v2))] [(0, t)] ε μ := by
  refine G_run (m_in [10, 21, 28, 38, 55, 59, 65, 102, 115]) 22 _ _ _ _ ?_
  show m_ty [(0, (2, v0)), (1, (2, v1)), (2, (0, v2))] [(0, t)] ε μ → (t < 0 → (m_ty [(0, (2, v0)), (1, (2, v1)), (2, (0, v2))] [] ε μ → ∀ v3 : Int, v3 = 0 → ∀ v5 : Int, v5 = 0 → G cd_X3_clash Q X 38 [(0, (2, v0)), (1, (2, v1)), (2, (0, v2)), (3, (1, v3)), (5, (0, v5))] [] ε μ)) ∧ (0 ≤ t → (m_ty [] [] ε μ → (0 = 0 ∨ 0 = 1) ∧ Q 0 ε μ))
  intro hty
  replace h := h hty.1 (hty.2.1 _ (List.mem_of_getElem? (i := 2) rfl)) (hty.2.2 _ (List.mem_of_getElem? (i := 0) rfl))
  obtain ⟨ha, hb⟩ := h
  refine And.intro (fun c0 => ?_) (fun c0 => ?_)
  · replace h := ha c0
    clear ha hb
    intro _
    intro v3 e_v3
    replace h := h v3 e_v3
    intro v5 e_v5
    replace h := h v5 e_v5
    exact h
  · replace h := hb c0
    clear ha hb
    intro _
    refine And.intro (Or.inl rfl) ?_
    exact h
set_option maxRecDepth 20000 in
theorem g_X3_clash_21 {Q X : m_Po} {v0 v1 v2 : Int} {ε : m_E} {μ : m_M} (h : TY ε μ → i32 v2 → kd ε v0 = 3 ∧ kd ε (fn ε v0 3) = 8 ∧ o_X9_sign [(2, fn ε v0 3)] ε μ (fun z ε_1 μ_1 => G cd_X3_clash Q X 28 [(0, (2, v0)), (1, (2, v1)), (2, (0, v2))] [(0, z)] ε_1 μ_1) m_F) : G cd_X3_clash Q X 21 [(0, (2, v0)), (1, (2, v1)), (2, (0, v2))] [] ε μ := by
  refine G_run (m_in [10, 21, 28, 38, 55, 59, 65, 102, 115]) 22 _ _ _ _ ?_
  show m_ty [(0, (2, v0)), (1, (2, v1)), (2, (0, v2))] [] ε μ → (kd ε v0 = 3) ∧ (kd ε (fn ε v0 3) = 8) ∧ o_X9_sign [(2, fn ε v0 3)] ε μ (fun z ε_1 μ_1 => G cd_X3_clash Q X 28 [(0, (2, v0)), (1, (2, v1)), (2, (0, v2))] [(0, z)] ε_1 μ_1) m_F
  intro hty
  replace h := h hty.1 (hty.2.1 _ (List.mem_of_getElem? (i := 2) rfl))
  obtain ⟨k1, h⟩ := h
  refine And.intro k1 ?_
  obtain ⟨k2, h⟩ := h
  refine And.intro k2 ?_
  exact h
set_option maxRecDepth 20000 in
theorem g_X3_clash_10 {Q X : m_Po} {v0 v1 v2 t : Int} {ε : m_E} {μ : m_M} (h : TY ε μ → i32 v2 → i32 t → (t ≠ 0 → kd ε v0 = 3 ∧ o_X3_findLeft [(2, v0), (2, v1), (0, v2)] ε μ (fun z ε_1 μ_1 => G cd_X3_clash Q X 21 [(0, (2, v0)), (1, (2, v1)), (2, (0, v2))] [] ε_1 μ_1) m_F) ∧ (t = 0 → Q 0 ε μ)) : G cd_X3_clash Q X 10 [(0, (2, v0)), (1, (2, v1)), (2, (0, v2))] [(0, t)] ε μ := by
  refine G_run (m_in [10, 21, 28, 38, 55, 59, 65, 102, 115]) 22 _ _ _ _ ?_
  show m_ty [(0, (2, v0)), (1, (2, v1)), (2, (0, v2))] [(0, t)] ε μ → (t ≠ 0 → (m_ty [(0, (2, v0)), (1, (2, v1)), (2, (0, v2))] [] ε μ → (kd ε v0 = 3) ∧ o_X3_findLeft [(2, v0), (2, v1), (0, v2)] ε μ (fun z ε_1 μ_1 => G cd_X3_clash Q X 21 [(0, (2, v0)), (1, (2, v1)), (2, (0, v2))] [] ε_1 μ_1) m_F)) ∧ (t = 0 → (m_ty [] [] ε μ → (0 = 0 ∨ 0 = 1) ∧ Q 0 ε μ))
  intro hty
  replace h := h hty.1 (hty.2.1 _ (List.mem_of_getElem? (i := 2) rfl)) (hty.2.2 _ (List.mem_of_getElem? (i := 0) rfl))
  obtain ⟨ha, hb⟩ := h
  refine And.intro (fun c1 => ?_) (fun c1 => ?_)
  · replace h := ha c1
    clear ha hb
    intro _
    obtain ⟨k1, h⟩ := h
    refine And.intro k1 ?_
    exact h
  · replace h := hb c1
    clear ha hb
    intro _
    refine And.intro (Or.inl rfl) ?_
    exact h
set_option maxRecDepth 20000 in
theorem g_X3_clash_0 {Q X : m_Po} {v0 v1 v2 : Int} {ε : m_E} {μ : m_M} (h : TY ε μ → i32 v2 → ((4 : Int) < v2 → Q 0 ε μ) ∧ (v2 ≤ (4 : Int) → kd ε v0 = 3 ∧ o_X3_turnAboveZero [(2, v0), (0, v2)] ε μ (fun z ε_1 μ_1 => G cd_X3_clash Q X 10 [(0, (2, v0)), (1, (2, v1)), (2, (0, v2))] [(0, z)] ε_1 μ_1) m_F)) : G cd_X3_clash Q X 0 [(0, (2, v0)), (1, (2, v1)), (2, (0, v2))] [] ε μ := by
  refine G_run (m_in [10, 21, 28, 38, 55, 59, 65, 102, 115]) 22 _ _ _ _ ?_
  show m_ty [(0, (2, v0)), (1, (2, v1)), (2, (0, v2))] [] ε μ → ((4 : Int) < v2 → (m_ty [] [] ε μ → (0 = 0 ∨ 0 = 1) ∧ Q 0 ε μ)) ∧ (v2 ≤ (4 : Int) → (m_ty [(0, (2, v0)), (1, (2, v1)), (2, (0, v2))] [] ε μ → (kd ε v0 = 3) ∧ o_X3_turnAboveZero [(2, v0), (0, v2)] ε μ (fun z ε_1 μ_1 => G cd_X3_clash Q X 10 [(0, (2, v0)), (1, (2, v1)), (2, (0, v2))] [(0, z)] ε_1 μ_1) m_F))
  intro hty
  replace h := h hty.1 (hty.2.1 _ (List.mem_of_getElem? (i := 2) rfl))
  obtain ⟨ha, hb⟩ := h
  refine And.intro (fun c1 => ?_) (fun c1 => ?_)
  · replace h := ha c1
    clear ha hb
    intro _
    refine And.intro (Or.inl rfl) ?_
    exact h
  · replace h := hb c1
    clear ha hb
    intro _
    obtain ⟨k1, h⟩ := h
    refine And.intro k1 ?_
    exact h
theorem e_X3_clash {Q X : m_Po} {v0 v1 v2 : Int} {ε : m_E} {μ : m_M} (h : TY ε μ → i32 v2 → ((4 : Int) < v2 → Q 0 ε μ) ∧ (v2 ≤ (4 : Int) → kd ε v0 = 3 ∧ o_X3_turnAboveZero [(2, v0), (0, v2)] ε μ (fun z ε_1 μ_1 => G cd_X3_clash Q X 10 [(0, (2, v0)), (1, (2, v1)), (2, (0, v2))] [(0, z)] ε_1 μ_1) m_F)) : o_X3_clash [(2, v0), (2, v1), (0, v2)] ε μ Q X := And.intro rfl (g_X3_clash_0 h)
/-! ArchYard$Never.clashTwo(LArchYard$Bounds;II)Z -/
set_option maxRecDepth 20000 in
theorem g_X3_clashTwo_85 {Q X : m_Po} {t : Int} {ε : m_E} {μ : m_M} (h : TY ε μ → i32 t → (t = 0 ∨ t = 1) ∧ Q t ε μ) : G cd_X3_clashTwo Q X 85 [] [(0, t)] ε μ := by
  refine G_run (m_in [16, 39, 62, 70, 79, 85]) 10 _ _ _ _ ?_
  show m_ty [] [(0, t)] ε μ → (t = 0 ∨ t = 1) ∧ Q t ε μ
  intro hty
  replace h := h hty.1 (hty.2.2 _ (List.mem_of_getElem? (i := 0) rfl))
  obtain ⟨k1, h⟩ := h
  refine And.intro k1 ?_
  exact h
set_option maxRecDepth 20000 in
theorem g_X3_clashTwo_79 {Q X : m_Po} {v0 v1 : Int} {ε : m_E} {μ : m_M} (h : TY ε μ → kd ε v0 = 3 ∧ o_X3_clash [(2, v0), (2, v1), (0, 2)] ε μ (fun z ε_1 μ_1 => G cd_X3_clashTwo Q X 85 [] [(0, z)] ε_1 μ_1) m_F) : G cd_X3_clashTwo Q X 79 [(0, (2, v0)), (1, (2, v1))] [] ε μ := by
  refine G_run (m_in [16, 39, 62, 70, 79, 85]) 10 _ _ _ _ ?_
  show m_ty [(0, (2, v0)), (1, (2, v1))] [] ε μ → (kd ε v0 = 3) ∧ o_X3_clash [(2, v0), (2, v1), (0, 2)] ε μ (fun z ε_1 μ_1 => G cd_X3_clashTwo Q X 85 [] [(0, z)] ε_1 μ_1) m_F
  intro hty
  replace h := h hty.1 
  obtain ⟨k1, h⟩ := h
  refine And.intro k1 ?_
  exact h
set_option maxRecDepth 20000 in
theorem g_X3_clashTwo_70 {Q X : m_Po} {v0 v1 v3 v4 : Int} {ε : m_E} {μ : m_M} (h : TY ε μ → i32 v3 → i64 v4 → kd ε v0 = 3 ∧ o_X3_pick [(2, v0), (0, 1), (0, v3), (1, w64 (-v4))] ε μ (fun z ε_1 μ_1 => G cd_X3_clashTwo Q X 79 [(0, (2, v0)), (1, (2, v1))] [] ε_1 μ_1) m_F) : G cd_X3_clashTwo Q X 70 [(0, (2, v0)), (1, (2, v1)), (3, (0, v3)), (4, (1, v4))] [] ε μ := by
  refine G_run (m_in [16, 39, 62, 70, 79, 85]) 10 _ _ _ _ ?_
  show m_ty [(0, (2, v0)), (1, (2, v1)), (3, (0, v3)), (4, (1, v4))] [] ε μ → (kd ε v0 = 3) ∧ o_X3_pick [(2, v0), (0, 1), (0, v3), (1, w64 (-v4))] ε μ (fun z ε_1 μ_1 => G cd_X3_clashTwo Q X 79 [(0, (2, v0)), (1, (2, v1))] [] ε_1 μ_1) m_F
  intro hty
  replace h := h hty.1 (hty.2.1 _ (List.mem_of_getElem? (i := 2) rfl)) (hty.2.1 _ (List.mem_of_getElem? (i := 3) rfl))
  obtain ⟨k1, h⟩ := h
  refine And.intro k1 ?_
  exact h
set_option maxRecDepth 20000 in
theorem g_X3_clashTwo_62 {Q X : m_Po} {v0 v1 v2 v3 v4 v6 : Int} {ε : m_E} {μ : m_M} (h : TY ε μ → i32 v2 → i32 v3 → i64 v4 → i64 v6 → kd ε v0 = 3 ∧ o_X3_pick [(2, v0), (0, 0), (0, v2), (1, v6)] ε μ (fun z ε_1 μ_1 => G cd_X3_clashTwo Q X 70 [(0, (2, v0)), (1, (2, v1)), (3, (0, v3)), (4, (1, v4))] [] ε_1 μ_1) m_F) : G cd_X3_clashTwo Q X 62 [(0, (2, v0)), (1, (2, v1)), (2, (0, v2)), (3, (0, v3)), (4, (1, v4)), (6, (1, v6))] [] ε μ := by
  refine G_run (m_in [16, 39, 62, 70, 79, 85]) 10 _ _ _ _ ?_
  show m_ty [(0, (2, v0)), (1, (2, v1)), (2, (0, v2)), (3, (0, v3)), (4, (1, v4)), (6, (1, v6))] [] ε μ → (kd ε v0 = 3) ∧ o_X3_pick [(2, v0), (0, 0), (0, v2), (1, v6)] ε μ (fun z ε_1 μ_1 => G cd_X3_clashTwo Q X 70 [(0, (2, v0)), (1, (2, v1)), (3, (0, v3)), (4, (1, v4))] [] ε_1 μ_1) m_F
  intro hty
  replace h := h hty.1 (hty.2.1 _ (List.mem_of_getElem? (i := 2) rfl)) (hty.2.1 _ (List.mem_of_getElem? (i := 3) rfl)) (hty.2.1 _ (List.mem_of_getElem? (i := 4) rfl)) (hty.2.1 _ (List.mem_of_getElem? (i := 5) rfl))
  obtain ⟨k1, h⟩ := h
  refine And.intro k1 ?_
  exact h
set_option maxRecDepth 20000 in
theorem g_X3_clashTwo_39 {Q X : m_Po} {v0 v1 v2 v3 v4 v6 : Int} {ε : m_E} {μ : m_M} (h : TY ε μ → i32 v2 → i32 v3 → i64 v4 → i64 v6 → ((v4 = (0 : Int) → kd ε v1 = 1 ∧ kd ε (fn ε v1 2) = 101 ∧ (0 : Int) ≤ v2 ∧ v2 < ln ε (fn ε v1 2) ∧ (0 : Int) ≤ v3 ∧ v3 < ln ε (fn ε v1 2))) ∧ ∀ v4_2 : Int, v4_2 = (if v4 = (0 : Int) then (μ (fn ε v1 2) v2) else v4) → ∀ v6_2 : Int, v6_2 = (if v4 = (0 : Int) then (μ (fn ε v1 2) v3) else v6) → kd ε v0 = 3 ∧ o_X3_pick [(2, v0), (0, 0), (0, v2), (1, v6_2)] ε μ (fun z ε_1 μ_1 => G cd_X3_clashTwo Q X 70 [(0, (2, v0)), (1, (2, v1)), (3, (0, v3)), (4, (1, v4_2))] [] ε_1 μ_1) m_F) : G cd_X3_clashTwo Q X 39 [(0, (2, v0)), (1, (2, v1)), (2, (0, v2)), (3, (0, v3)), (4, (1, v4)), (6, (1, v6))] [] ε μ := by
  refine G_run (m_in [16, 39, 62, 70, 79, 85]) 10 _ _ _ _ ?_
  show m_ty [(0, (2, v0)), (1, (2, v1)), (2, (0, v2)), (3, (0, v3)), (4, (1, v4)), (6, (1, v6))] [] ε μ → (v4 ≠ (0 : Int) → G cd_X3_clashTwo Q X 62 [(0, (2, v0)), (1, (2, v1)), (2, (0, v2)), (3, (0, v3)), (4, (1, v4)), (6, (1, v6))] [] ε μ) ∧ (v4 = (0 : Int) → (m_ty [(0, (2, v0)), (1, (2, v1)), (2, (0, v2)), (3, (0, v3))] [] ε μ → (kd ε v1 = 1) ∧ (kd ε (fn ε v1 2) = 101) ∧ ((0 : Int) ≤ v2 ∧ v2 < ln ε (fn ε v1 2)) ∧ ∀ v4_1 : Int, v4_1 = μ (fn ε v1 2) v2 → (kd ε v1 = 1) ∧ (kd ε (fn ε v1 2) = 101) ∧ ((0 : Int) ≤ v3 ∧ v3 < ln ε (fn ε v1 2)) ∧ ∀ v6_1 : Int, v6_1 = μ (fn ε v1 2) v3 → G cd_X3_clashTwo Q X 62 [(0, (2, v0)), (1, (2, v1)), (2, (0, v2)), (3, (0, v3)), (4, (1, v4_1)), (6, (1, v6_1))] [] ε μ))
  intro hty
  replace h := h hty.1 (hty.2.1 _ (List.mem_of_getElem? (i := 2) rfl)) (hty.2.1 _ (List.mem_of_getElem? (i := 3) rfl)) (hty.2.1 _ (List.mem_of_getElem? (i := 4) rfl)) (hty.2.1 _ (List.mem_of_getElem? (i := 5) rfl))
  obtain ⟨hc, hj⟩ := h
  refine And.intro (fun c0 => ?_) (fun c0 => ?_)
  · exact g_X3_clashTwo_62 (fun _ _ _ _ _ => (hj _ (((if_neg (c0)).trans rfl)).symm _ (((if_neg (c0)).trans rfl)).symm))
  · replace hc := hc c0
    intro _
    obtain ⟨k2, k3, k4, k5, k6, k7⟩ := hc
    refine And.intro k2 ?_
    refine And.intro k3 ?_
    refine And.intro (And.intro k4 k5) ?_
    intro v4_1 e_v4_1
    subst e_v4_1
    refine And.intro k2 ?_
    refine And.intro k3 ?_
    refine And.intro (And.intro k6 k7) ?_
    intro v6_1 e_v6_1
    subst e_v6_1
    exact g_X3_clashTwo_62 (fun _ _ _ _ _ => (hj _ (((if_pos c0).trans rfl)).symm _ (((if_pos c0).trans rfl)).symm))
set_option maxRecDepth 20000 in
theorem g_X3_clashTwo_16 {Q X : m_Po} {v0 v1 v2 v3 v4 v6 : Int} {ε : m_E} {μ : m_M} (h : TY ε μ → i32 v2 → i32 v3 → i64 v4 → i64 v6 → ((v4 = (0 : Int) → kd ε v1 = 1 ∧ kd ε (fn ε v1 1) = 101 ∧ (0 : Int) ≤ v2 ∧ v2 < ln ε (fn ε v1 1) ∧ (0 : Int) ≤ v3 ∧ v3 < ln ε (fn ε v1 1))) ∧ ∀ v4_2 : Int, v4_2 = (if v4 = (0 : Int) then (μ (fn ε v1 1) v2) else v4) → ∀ v6_2 : Int, v6_2 = (if v4 = (0 : Int) then (μ (fn ε v1 1) v3) else v6) → ((v4_2 = (0 : Int) → kd ε v1 = 1 ∧ kd ε (fn ε v1 2) = 101 ∧ (0 : Int) ≤ v2 ∧ v2 < ln ε (fn ε v1 2) ∧ (0 : Int) ≤ v3 ∧ v3 < ln ε (fn ε v1 2))) ∧ ∀ v4_4 : Int, v4_4 = (if v4_2 = (0 : Int) then (μ (fn ε v1 2) v2) else v4_2) → ∀ v6_4 : Int, v6_4 = (if v4_2 = (0 : Int) then (μ (fn ε v1 2) v3) else v6_2) → kd ε v0 = 3 ∧ o_X3_pick [(2, v0), (0, 0), (0, v2), (1, v6_4)] ε μ (fun z ε_1 μ_1 => G cd_X3_clashTwo Q X 70 [(0, (2, v0)), (1, (2, v1)), (3, (0, v3)), (4, (1, v4_4))] [] ε_1 μ_1) m_F) : G cd_X3_clashTwo Q X 16 [(0, (2, v0)), (1, (2, v1)), (2, (0, v2)), (3, (0, v3)), (4, (1, v4)), (6, (1, v6))] [] ε μ := by
  refine G_run (m_in [16, 39, 62, 70, 79, 85]) 10 _ _ _ _ ?_
  show m_ty [(0, (2, v0)), (1, (2, v1)), (2, (0, v2)), (3, (0, v3)), (4, (1, v4)), (6, (1, v6))] [] ε μ → (v4 ≠ (0 : Int) → G cd_X3_clashTwo Q X 39 [(0, (2, v0)), (1, (2, v1)), (2, (0, v2)), (3, (0, v3)), (4, (1, v4)), (6, (1, v6))] [] ε μ) ∧ (v4 = (0 : Int) → (m_ty [(0, (2, v0)), (1, (2, v1)), (2, (0, v2)), (3, (0, v3))] [] ε μ → (kd ε v1 = 1) ∧ (kd ε (fn ε v1 1) = 101) ∧ ((0 : Int) ≤ v2 ∧ v2 < ln ε (fn ε v1 1)) ∧ ∀ v4_1 : Int, v4_1 = μ (fn ε v1 1) v2 → (kd ε v1 = 1) ∧ (kd ε (fn ε v1 1) = 101) ∧ ((0 : Int) ≤ v3 ∧ v3 < ln ε (fn ε v1 1)) ∧ ∀ v6_1 : Int, v6_1 = μ (fn ε v1 1) v3 → G cd_X3_clashTwo Q X 39 [(0, (2, v0)), (1, (2, v1)), (2, (0, v2)), (3, (0, v3)), (4, (1, v4_1)), (6, (1, v6_1))] [] ε μ))
  intro hty
  replace h := h hty.1 (hty.2.1 _ (List.mem_of_getElem? (i := 2) rfl)) (hty.2.1 _ (List.mem_of_getElem? (i := 3) rfl)) (hty.2.1 _ (List.mem_of_getElem? (i := 4) rfl)) (hty.2.1 _ (List.mem_of_getElem? (i := 5) rfl))
  obtain ⟨hc, hj⟩ := h
  refine And.intro (fun c0 => ?_) (fun c0 => ?_)
  · exact g_X3_clashTwo_39 (fun _ _ _ _ _ => (hj _ (((if_neg (c0)).trans rfl)).symm _ (((if_neg (c0)).trans rfl)).symm))
  · replace hc := hc c0
    intro _
    obtain ⟨k2, k3, k4, k5, k6, k7⟩ := hc
    refine And.intro k2 ?_
    refine And.intro k3 ?_
    refine And.intro (And.intro k4 k5) ?_
    intro v4_1 e_v4_1
    subst e_v4_1
    refine And.intro k2 ?_
    refine And.intro k3 ?_
    refine And.intro (And.intro k6 k7) ?_
    intro v6_1 e_v6_1
    subst e_v6_1
    exact g_X3_clashTwo_39 (fun _ _ _ _ _ => (hj _ (((if_pos c0).trans rfl)).symm _ (((if_pos c0).trans rfl)).symm))
set_option maxRecDepth 20000 in
theorem g_X3_clashTwo_0 {Q X : m_Po} {v0 v1 v2 v3 : Int} {ε : m_E} {μ : m_M} (h : TY ε μ → i32 v2 → i32 v3 → kd ε v1 = 1 ∧ kd ε (fn ε v1 0) = 101 ∧ (0 : Int) ≤ v2 ∧ v2 < ln ε (fn ε v1 0) ∧ ∀ v4 : Int, v4 = μ (fn ε v1 0) v2 → (0 : Int) ≤ v3 ∧ v3 < ln ε (fn ε v1 0) ∧ ∀ v6 : Int, v6 = μ (fn ε v1 0) v3 → ((v4 = (0 : Int) → kd ε v1 = 1 ∧ kd ε (fn ε v1 1) = 101 ∧ (0 : Int) ≤ v2 ∧ v2 < ln ε (fn ε v1 1) ∧ (0 : Int) ≤ v3 ∧ v3 < ln ε (fn ε v1 1))) ∧ ∀ v4_2 : Int, v4_2 = (if v4 = (0 : Int) then (μ (fn ε v1 1) v2) else v4) → ∀ v6_2 : Int, v6_2 = (if v4 = (0 : Int) then (μ (fn ε v1 1) v3) else v6) → ((v4_2 = (0 : Int) → kd ε v1 = 1 ∧ kd ε (fn ε v1 2) = 101 ∧ (0 : Int) ≤ v2 ∧ v2 < ln ε (fn ε v1 2) ∧ (0 : Int) ≤ v3 ∧ v3 < ln ε (fn ε v1 2))) ∧ ∀ v4_4 : Int, v4_4 = (if v4_2 = (0 : Int) then (μ (fn ε v1 2) v2) else v4_2) → ∀ v6_4 : Int, v6_4 = (if v4_2 = (0 : Int) then (μ (fn ε v1 2) v3) else v6_2) → kd ε v0 = 3 ∧ o_X3_pick [(2, v0), (0, 0), (0, v2), (1, v6_4)] ε μ (fun z ε_1 μ_1 => G cd_X3_clashTwo Q X 70 [(0, (2, v0)), (1, (2, v1)), (3, (0, v3)), (4, (1, v4_4))] [] ε_1 μ_1) m_F) : G cd_X3_clashTwo Q X 0 [(0, (2, v0)), (1, (2, v1)), (2, (0, v2)), (3, (0, v3))] [] ε μ := by
  refine G_run (m_in [16, 39, 62, 70, 79, 85]) 10 _ _ _ _ ?_
  show m_ty [(0, (2, v0)), (1, (2, v1)), (2, (0, v2)), (3, (0, v3))] [] ε μ → (kd ε v1 = 1) ∧ (kd ε (fn ε v1 0) = 101) ∧ ((0 : Int) ≤ v2 ∧ v2 < ln ε (fn ε v1 0)) ∧ ∀ v4 : Int, v4 = μ (fn ε v1 0) v2 → (kd ε v1 = 1) ∧ (kd ε (fn ε v1 0) = 101) ∧ ((0 : Int) ≤ v3 ∧ v3 < ln ε (fn ε v1 0)) ∧ ∀ v6 : Int, v6 = μ (fn ε v1 0) v3 → G cd_X3_clashTwo Q X 16 [(0, (2, v0)), (1, (2, v1)), (2, (0, v2)), (3, (0, v3)), (4, (1, v4)), (6, (1, v6))] [] ε μ
  intro hty
  replace h := h hty.1 (hty.2.1 _ (List.mem_of_getElem? (i := 2) rfl)) (hty.2.1 _ (List.mem_of_getElem? (i := 3) rfl))
  obtain ⟨k1, h⟩ := h
  refine And.intro k1 ?_
  obtain ⟨k2, h⟩ := h
  refine And.intro k2 ?_
  obtain ⟨k3, h⟩ := h
  obtain ⟨k4, h⟩ := h
  refine And.intro (And.intro k3 k4) ?_
  intro v4 e_v4
  replace h := h v4 e_v4
  refine And.intro k1 ?_
  refine And.intro k2 ?_
  obtain ⟨k5, h⟩ := h
  obtain ⟨k6, h⟩ := h
  refine And.intro (And.intro k5 k6) ?_
  intro v6 e_v6
  replace h := h v6 e_v6
  exact g_X3_clashTwo_16 (fun _ _ _ _ _ => h)
theorem e_X3_clashTwo {Q X : m_Po} {v0 v1 v2 v3 : Int} {ε : m_E} {μ : m_M} (h : TY ε μ → i32 v2 → i32 v3 → kd ε v1 = 1 ∧ kd ε (fn ε v1 0) = 101 ∧ (0 : Int) ≤ v2 ∧ v2 < ln ε (fn ε v1 0) ∧ ∀ v4 : Int, v4 = μ (fn ε v1 0) v2 → (0 : Int) ≤ v3 ∧ v3 < ln ε (fn ε v1 0) ∧ ∀ v6 : Int, v6 = μ (fn ε v1 0) v3 → ((v4 = (0 : Int) → kd ε v1 = 1 ∧ kd ε (fn ε v1 1) = 101 ∧ (0 : Int) ≤ v2 ∧ v2 < ln ε (fn ε v1 1) ∧ (0 : Int) ≤ v3 ∧ v3 < ln ε (fn ε v1 1))) ∧ ∀ v4_2 : Int, v4_2 = (if v4 = (0 : Int) then (μ (fn ε v1 1) v2) else v4) → ∀ v6_2 : Int, v6_2 = (if v4 = (0 : Int) then (μ (fn ε v1 1) v3) else v6) → ((v4_2 = (0 : Int) → kd ε v1 = 1 ∧ kd ε (fn ε v1 2) = 101 ∧ (0 : Int) ≤ v2 ∧ v2 < ln ε (fn ε v1 2) ∧ (0 : Int) ≤ v3 ∧ v3 < ln ε (fn ε v1 2))) ∧ ∀ v4_4 : Int, v4_4 = (if v4_2 = (0 : Int) then (μ (fn ε v1 2) v2) else v4_2) → ∀ v6_4 : Int, v6_4 = (if v4_2 = (0 : Int) then (μ (fn ε v1 2) v3) else v6_2) → kd ε v0 = 3 ∧ o_X3_pick [(2, v0), (0, 0), (0, v2), (1, v6_4)] ε μ (fun z ε_1 μ_1 => G cd_X3_clashTwo Q X 70 [(0, (2, v0)), (1, (2, v1)), (3, (0, v3)), (4, (1, v4_4))] [] ε_1 μ_1) m_F) : o_X3_clashTwo [(2, v0), (2, v1), (0, v2), (0, v3)] ε μ Q X := And.intro rfl (g_X3_clashTwo_0 h)
/-! ArchYard$Never.findTwo(LArchYard$Bounds;)Z -/
set_option maxRecDepth 20000 in
theorem g_X3_findTwo_48 {Q X : m_Po} {v0 v1 v2 v3 : Int} {ε : m_E} {μ : m_M} (h : TY ε μ → i32 v2 → i32 v3 → ∀ v3_1 : Int, v3_1 = w32 (v3 + 1) → G cd_X3_findTwo Q X 14 [(0, (2, v0)), (1, (2, v1)), (2, (0, v2)), (3, (0, v3_1))] [] ε μ) : G cd_X3_findTwo Q X 48 [(0, (2, v0)), (1, (2, v1)), (2, (0, v2)), (3, (0, v3))] [] ε μ := by
  refine G_run (m_in [2, 14, 29, 33, 43, 48]) 14 _ _ _ _ ?_
  show m_ty [(0, (2, v0)), (1, (2, v1)), (2, (0, v2)), (3, (0, v3))] [] ε μ → ∀ v3_1 : Int, v3_1 = w32 (v3 + 1) → G cd_X3_findTwo Q X 14 [(0, (2, v0)), (1, (2, v1)), (2, (0, v2)), (3, (0, v3_1))] [] ε μ
  intro hty
  replace h := h hty.1 (hty.2.1 _ (List.mem_of_getElem? (i := 2) rfl)) (hty.2.1 _ (List.mem_of_getElem? (i := 3) rfl))
  intro v3_1 e_v3_1
  replace h := h v3_1 e_v3_1
  exact h
set_option maxRecDepth 20000 in
theorem g_X3_findTwo_43 {Q X : m_Po} {v0 v1 v2 v3 t : Int} {ε : m_E} {μ : m_M} (h : TY ε μ → i32 v2 → i32 v3 → i32 t → (t = 0 → G cd_X3_findTwo Q X 48 [(0, (2, v0)), (1, (2, v1)), (2, (0, v2)), (3, (0, v3))] [] ε μ) ∧ (t ≠ 0 → Q 1 ε μ)) : G cd_X3_findTwo Q X 43 [(0, (2, v0)), (1, (2, v1)), (2, (0, v2)), (3, (0, v3))] [(0, t)] ε μ := by
  refine G_run (m_in [2, 14, 29, 33, 43, 48]) 14 _ _ _ _ ?_
  show m_ty [(0, (2, v0)), (1, (2, v1)), (2, (0, v2)), (3, (0, v3))] [(0, t)] ε μ → (t = 0 → G cd_X3_findTwo Q X 48 [(0, (2, v0)), (1, (2, v1)), (2, (0, v2)), (3, (0, v3))] [] ε μ) ∧ (t ≠ 0 → (m_ty [] [] ε μ → (1 = 0 ∨ 1 = 1) ∧ Q 1 ε μ))
  intro hty
  replace h := h hty.1 (hty.2.1 _ (List.mem_of_getElem? (i := 2) rfl)) (hty.2.1 _ (List.mem_of_getElem? (i := 3) rfl)) (hty.2.2 _ (List.mem_of_getElem? (i := 0) rfl))
  obtain ⟨ha, hb⟩ := h
  refine And.intro (fun c0 => ?_) (fun c0 => ?_)
  · replace h := ha c0
    clear ha hb
    exact h
  · replace h := hb c0
    clear ha hb
    intro _
    refine And.intro (Or.inr rfl) ?_
    exact h
set_option maxRecDepth 20000 in
theorem g_X3_findTwo_33 {Q X : m_Po} {v0 v1 v2 v3 t : Int} {ε : m_E} {μ : m_M} (h : TY ε μ → i32 v2 → i32 v3 → i32 t → (t = 0 → G cd_X3_findTwo Q X 48 [(0, (2, v0)), (1, (2, v1)), (2, (0, v2)), (3, (0, v3))] [] ε μ) ∧ (t ≠ 0 → kd ε v0 = 3 ∧ o_X3_clashTwo [(2, v0), (2, v1), (0, v2), (0, v3)] ε μ (fun z ε_1 μ_1 => G cd_X3_findTwo Q X 43 [(0, (2, v0)), (1, (2, v1)), (2, (0, v2)), (3, (0, v3))] [(0, z)] ε_1 μ_1) m_F)) : G cd_X3_findTwo Q X 33 [(0, (2, v0)), (1, (2, v1)), (2, (0, v2)), (3, (0, v3))] [(0, t)] ε μ := by
  refine G_run (m_in [2, 14, 29, 33, 43, 48]) 14 _ _ _ _ ?_
  show m_ty [(0, (2, v0)), (1, (2, v1)), (2, (0, v2)), (3, (0, v3))] [(0, t)] ε μ → (t = 0 → G cd_X3_findTwo Q X 48 [(0, (2, v0)), (1, (2, v1)), (2, (0, v2)), (3, (0, v3))] [] ε μ) ∧ (t ≠ 0 → (m_ty [(0, (2, v0)), (1, (2, v1)), (2, (0, v2)), (3, (0, v3))] [] ε μ → (kd ε v0 = 3) ∧ o_X3_clashTwo [(2, v0), (2, v1), (0, v2), (0, v3)] ε μ (fun z ε_1 μ_1 => G cd_X3_findTwo Q X 43 [(0, (2, v0)), (1, (2, v1)), (2, (0, v2)), (3, (0, v3))] [(0, z)] ε_1 μ_1) m_F))
  intro hty
  replace h := h hty.1 (hty.2.1 _ (List.mem_of_getElem? (i := 2) rfl)) (hty.2.1 _ (List.mem_of_getElem? (i := 3) rfl)) (hty.2.2 _ (List.mem_of_getElem? (i := 0) rfl))
  obtain ⟨ha, hb⟩ := h
  refine And.intro (fun c1 => ?_) (fun c1 => ?_)
  · replace h := ha c1
    clear ha hb
    exact h
  · replace h := hb c1
    clear ha hb
    intro _
    obtain ⟨k1, h⟩ := h
    refine And.intro k1 ?_
    exact h
set_option maxRecDepth 20000 in
theorem g_X3_findTwo_29 {Q X : m_Po} {v0 v1 v2 v3 : Int} {ε : m_E} {μ : m_M} (h : TY ε μ → i32 v2 → i32 v3 → kd ε v0 = 3 ∧ o_X3_isCrossNothing [(2, v0)] ε μ (fun z ε_1 μ_1 => G cd_X3_findTwo Q X 33 [(0, (2, v0)), (1, (2, v1)), (2, (0, v2)), (3, (0, v3))] [(0, z)] ε_1 μ_1) m_F) : G cd_X3_findTwo Q X 29 [(0, (2, v0)), (1, (2, v1)), (2, (0, v2)), (3, (0, v3))] [] ε μ := by
  refine G_run (m_in [2, 14, 29, 33, 43, 48]) 14 _ _ _ _ ?_
  show m_ty [(0, (2, v0)), (1, (2, v1)), (2, (0, v2)), (3, (0, v3))] [] ε μ → (kd ε v0 = 3) ∧ o_X3_isCrossNothing [(2, v0)] ε μ (fun z ε_1 μ_1 => G cd_X3_findTwo Q X 33 [(0, (2, v0)), (1, (2, v1)), (2, (0, v2)), (3, (0, v3))] [(0, z)] ε_1 μ_1) m_F
  intro hty
  replace h := h hty.1 (hty.2.1 _ (List.mem_of_getElem? (i := 2) rfl)) (hty.2.1 _ (List.mem_of_getElem? (i := 3) rfl))
  obtain ⟨k1, h⟩ := h
  refine And.intro k1 ?_
  exact h
set_option maxRecDepth 20000 in
theorem g_X3_findTwo_14 {Q X : m_Po} {v0 v1 v2 v3 : Int} {ε : m_E} {μ : m_M} (h : TY ε μ → i32 v2 → i32 v3 → kd ε v1 = 1 ∧ ((μ v1 5) ≤ v3 → ∀ v2_1 : Int, v2_1 = w32 (v2 + 1) → G cd_X3_findTwo Q X 2 [(0, (2, v0)), (1, (2, v1)), (2, (0, v2_1))] [] ε μ) ∧ (v3 < (μ v1 5) → kd ε v0 = 3 ∧ o_X3_cross [(2, v0), (2, v1), (0, v2), (0, v3)] ε μ (fun z ε_1 μ_1 => G cd_X3_findTwo Q X 29 [(0, (2, v0)), (1, (2, v1)), (2, (0, v2)), (3, (0, v3))] [] ε_1 μ_1) m_F)) : G cd_X3_findTwo Q X 14 [(0, (2, v0)), (1, (2, v1)), (2, (0, v2)), (3, (0, v3))] [] ε μ := by
  refine G_run (m_in [2, 14, 29, 33, 43, 48]) 14 _ _ _ _ ?_
  show m_ty [(0, (2, v0)), (1, (2, v1)), (2, (0, v2)), (3, (0, v3))] [] ε μ → (kd ε v1 = 1) ∧ ((μ v1 5) ≤ v3 → (m_ty [(0, (2, v0)), (1, (2, v1)), (2, (0, v2))] [] ε μ → ∀ v2_1 : Int, v2_1 = w32 (v2 + 1) → G cd_X3_findTwo Q X 2 [(0, (2, v0)), (1, (2, v1)), (2, (0, v2_1))] [] ε μ)) ∧ (v3 < (μ v1 5) → (m_ty [(0, (2, v0)), (1, (2, v1)), (2, (0, v2)), (3, (0, v3))] [] ε μ → (kd ε v0 = 3) ∧ o_X3_cross [(2, v0), (2, v1), (0, v2), (0, v3)] ε μ (fun z ε_1 μ_1 => G cd_X3_findTwo Q X 29 [(0, (2, v0)), (1, (2, v1)), (2, (0, v2)), (3, (0, v3))] [] ε_1 μ_1) m_F))
  intro hty
  replace h := h hty.1 (hty.2.1 _ (List.mem_of_getElem? (i := 2) rfl)) (hty.2.1 _ (List.mem_of_getElem? (i := 3) rfl))
  obtain ⟨k1, h⟩ := h
  refine And.intro k1 ?_
  obtain ⟨ha, hb⟩ := h
  refine And.intro (fun c2 => ?_) (fun c2 => ?_)
  · replace h := ha c2
    clear ha hb
    intro _
    intro v2_1 e_v2_1
    replace h := h v2_1 e_v2_1
    exact h
  · replace h := hb c2
    clear ha hb
    intro _
    obtain ⟨k2, h⟩ := h
    refine And.intro k2 ?_
    exact h
set_option maxRecDepth 20000 in
theorem g_X3_findTwo_2 {Q X : m_Po} {v0 v1 v2 : Int} {ε : m_E} {μ : m_M} (h : TY ε μ → i32 v2 → kd ε v1 = 1 ∧ ((μ v1 5) ≤ v2 → Q 0 ε μ) ∧ (v2 < (μ v1 5) → ∀ v3 : Int, v3 = w32 (v2 + 1) → G cd_X3_findTwo Q X 14 [(0, (2, v0)), (1, (2, v1)), (2, (0, v2)), (3, (0, v3))] [] ε μ)) : G cd_X3_findTwo Q X 2 [(0, (2, v0)), (1, (2, v1)), (2, (0, v2))] [] ε μ := by
  refine G_run (m_in [2, 14, 29, 33, 43, 48]) 14 _ _ _ _ ?_
  show m_ty [(0, (2, v0)), (1, (2, v1)), (2, (0, v2))] [] ε μ → (kd ε v1 = 1) ∧ ((μ v1 5) ≤ v2 → (m_ty [] [] ε μ → (0 = 0 ∨ 0 = 1) ∧ Q 0 ε μ)) ∧ (v2 < (μ v1 5) → (m_ty [(0, (2, v0)), (1, (2, v1)), (2, (0, v2))] [] ε μ → ∀ v3 : Int, v3 = w32 (v2 + 1) → G cd_X3_findTwo Q X 14 [(0, (2, v0)), (1, (2, v1)), (2, (0, v2)), (3, (0, v3))] [] ε μ))
  intro hty
  replace h := h hty.1 (hty.2.1 _ (List.mem_of_getElem? (i := 2) rfl))
  obtain ⟨k1, h⟩ := h
  refine And.intro k1 ?_
  obtain ⟨ha, hb⟩ := h
  refine And.intro (fun c1 => ?_) (fun c1 => ?_)
  · replace h := ha c1
    clear ha hb
    intro _
    refine And.intro (Or.inl rfl) ?_
    exact h
  · replace h := hb c1
    clear ha hb
    intro _
    intro v3 e_v3
    replace h := h v3 e_v3
    exact h
set_option maxRecDepth 20000 in
theorem g_X3_findTwo_0 {Q X : m_Po} {v0 v1 : Int} {ε : m_E} {μ : m_M} (h : TY ε μ → ∀ v2 : Int, v2 = 0 → G cd_X3_findTwo Q X 2 [(0, (2, v0)), (1, (2, v1)), (2, (0, v2))] [] ε μ) : G cd_X3_findTwo Q X 0 [(0, (2, v0)), (1, (2, v1))] [] ε μ := by
  refine G_run (m_in [2, 14, 29, 33, 43, 48]) 14 _ _ _ _ ?_
  show m_ty [(0, (2, v0)), (1, (2, v1))] [] ε μ → ∀ v2 : Int, v2 = 0 → G cd_X3_findTwo Q X 2 [(0, (2, v0)), (1, (2, v1)), (2, (0, v2))] [] ε μ
  intro hty
  replace h := h hty.1 
  intro v2 e_v2
  replace h := h v2 e_v2
  exact h
theorem e_X3_findTwo {Q X : m_Po} {v0 v1 : Int} {ε : m_E} {μ : m_M} (h : TY ε μ → ∀ v2 : Int, v2 = 0 → G cd_X3_findTwo Q X 2 [(0, (2, v0)), (1, (2, v1)), (2, (0, v2))] [] ε μ) : o_X3_findTwo [(2, v0), (2, v1)] ε μ Q X := And.intro rfl (g_X3_findTwo_0 h)
/-! ArchYard$Never.volumeWith(LArchYard$Bounds;I)J -/
set_option maxRecDepth 20000 in
theorem g_X3_volumeWith_0 {Q X : m_Po} {v0 v1 v2 : Int} {ε : m_E} {μ : m_M} (h : TY ε μ → i32 v2 → kd ε v0 = 3 ∧ kd ε v1 = 1 ∧ kd ε (fn ε v1 0) = 101 ∧ (0 : Int) ≤ v2 ∧ v2 < ln ε (fn ε v1 0) ∧ kd ε (fn ε v1 1) = 101 ∧ v2 < ln ε (fn ε v1 1) ∧ kd ε (fn ε v1 2) = 101 ∧ v2 < ln ε (fn ε v1 2) ∧ Q (w64 ((w64 ((w64 ((μ v0 5) * (μ (fn ε v1 0) v2))) + (w64 ((μ v0 6) * (μ (fn ε v1 1) v2))))) + (w64 ((μ v0 7) * (μ (fn ε v1 2) v2))))) ε μ) : G cd_X3_volumeWith Q X 0 [(0, (2, v0)), (1, (2, v1)), (2, (0, v2))] [] ε μ := by
  refine G_run (m_in []) 2 _ _ _ _ ?_
  show m_ty [(0, (2, v0)), (1, (2, v1)), (2, (0, v2))] [] ε μ → (kd ε v0 = 3) ∧ (kd ε v1 = 1) ∧ (kd ε (fn ε v1 0) = 101) ∧ ((0 : Int) ≤ v2 ∧ v2 < ln ε (fn ε v1 0)) ∧ (kd ε v0 = 3) ∧ (kd ε v1 = 1) ∧ (kd ε (fn ε v1 1) = 101) ∧ ((0 : Int) ≤ v2 ∧ v2 < ln ε (fn ε v1 1)) ∧ (kd ε v0 = 3) ∧ (kd ε v1 = 1) ∧ (kd ε (fn ε v1 2) = 101) ∧ ((0 : Int) ≤ v2 ∧ v2 < ln ε (fn ε v1 2)) ∧ Q (w64 ((w64 ((w64 ((μ v0 5) * (μ (fn ε v1 0) v2))) + (w64 ((μ v0 6) * (μ (fn ε v1 1) v2))))) + (w64 ((μ v0 7) * (μ (fn ε v1 2) v2))))) ε μ
  intro hty
  replace h := h hty.1 (hty.2.1 _ (List.mem_of_getElem? (i := 2) rfl))
  obtain ⟨k1, h⟩ := h
  refine And.intro k1 ?_
  obtain ⟨k2, h⟩ := h
  refine And.intro k2 ?_
  obtain ⟨k3, h⟩ := h
  refine And.intro k3 ?_
  obtain ⟨k4, h⟩ := h
  obtain ⟨k5, h⟩ := h
  refine And.intro (And.intro k4 k5) ?_
  refine And.intro k1 ?_
  refine And.intro k2 ?_
  obtain ⟨k6, h⟩ := h
  refine And.intro k6 ?_
  obtain ⟨k7, h⟩ := h
  refine And.intro (And.intro k4 k7) ?_
  refine And.intro k1 ?_
  refine And.intro k2 ?_
  obtain ⟨k8, h⟩ := h
  refine And.intro k8 ?_
  obtain ⟨k9, h⟩ := h
  refine And.intro (And.intro k4 k9) ?_
  exact h
theorem e_X3_volumeWith {Q X : m_Po} {v0 v1 v2 : Int} {ε : m_E} {μ : m_M} (h : TY ε μ → i32 v2 → kd ε v0 = 3 ∧ kd ε v1 = 1 ∧ kd ε (fn ε v1 0) = 101 ∧ (0 : Int) ≤ v2 ∧ v2 < ln ε (fn ε v1 0) ∧ kd ε (fn ε v1 1) = 101 ∧ v2 < ln ε (fn ε v1 1) ∧ kd ε (fn ε v1 2) = 101 ∧ v2 < ln ε (fn ε v1 2) ∧ Q (w64 ((w64 ((w64 ((μ v0 5) * (μ (fn ε v1 0) v2))) + (w64 ((μ v0 6) * (μ (fn ε v1 1) v2))))) + (w64 ((μ v0 7) * (μ (fn ε v1 2) v2))))) ε μ) : o_X3_volumeWith [(2, v0), (2, v1), (0, v2)] ε μ Q X := And.intro rfl (g_X3_volumeWith_0 h)
/-! ArchYard$Never.pickThree(LArchYard$Bounds;III)V -/
set_option maxRecDepth 20000 in
theorem g_X3_pickThree_149 {Q X : m_Po} {ε : m_E} {μ : m_M} (h : TY ε μ → Q 0 ε μ) : G cd_X3_pickThree Q X 149 [] [] ε μ := by
  refine G_run (m_in [29, 67, 96, 123, 149]) 14 _ _ _ _ ?_
  show m_ty [] [] ε μ → Q 0 ε μ
  intro hty
  replace h := h hty.1 
  exact h
set_option maxRecDepth 20000 in
theorem g_X3_pickThree_123 {Q X : m_Po} {v0 v2 v3 v4 v5 v6 : Int} {ε : m_E} {μ : m_M} (h : TY ε μ → i32 v2 → i32 v3 → i32 v4 → kd ε v5 = 101 ∧ (0 : Int) ≤ v2 ∧ v2 < ln ε v5 ∧ kd ε v6 = 101 ∧ (0 : Int) ≤ v3 ∧ v3 < ln ε v6 ∧ v2 < ln ε v6 ∧ v3 < ln ε v5 ∧ kd ε v0 = 3 ∧ o_X3_pick [(2, v0), (0, 2), (0, v4), (1, w64 ((w64 ((μ v5 v2) * (μ v6 v3))) - (w64 ((μ v6 v2) * (μ v5 v3)))))] ε μ (fun z ε_1 μ_1 => G cd_X3_pickThree Q X 149 [] [] ε_1 μ_1) m_F) : G cd_X3_pickThree Q X 123 [(0, (2, v0)), (2, (0, v2)), (3, (0, v3)), (4, (0, v4)), (5, (2, v5)), (6, (2, v6))] [] ε μ := by
  refine G_run (m_in [29, 67, 96, 123, 149]) 14 _ _ _ _ ?_
  show m_ty [(0, (2, v0)), (2, (0, v2)), (3, (0, v3)), (4, (0, v4)), (5, (2, v5)), (6, (2, v6))] [] ε μ → (kd ε v5 = 101) ∧ ((0 : Int) ≤ v2 ∧ v2 < ln ε v5) ∧ (kd ε v6 = 101) ∧ ((0 : Int) ≤ v3 ∧ v3 < ln ε v6) ∧ (kd ε v6 = 101) ∧ ((0 : Int) ≤ v2 ∧ v2 < ln ε v6) ∧ (kd ε v5 = 101) ∧ ((0 : Int) ≤ v3 ∧ v3 < ln ε v5) ∧ (kd ε v0 = 3) ∧ o_X3_pick [(2, v0), (0, 2), (0, v4), (1, w64 ((w64 ((μ v5 v2) * (μ v6 v3))) - (w64 ((μ v6 v2) * (μ v5 v3)))))] ε μ (fun z ε_1 μ_1 => G cd_X3_pickThree Q X 149 [] [] ε_1 μ_1) m_F
  intro hty
  replace h := h hty.1 (hty.2.1 _ (List.mem_of_getElem? (i := 1) rfl)) (hty.2.1 _ (List.mem_of_getElem? (i := 2) rfl)) (hty.2.1 _ (List.mem_of_getElem? (i := 3) rfl))
  obtain ⟨k1, h⟩ := h
  refine And.intro k1 ?_
  obtain ⟨k2, h⟩ := h
  obtain ⟨k3, h⟩ := h
  refine And.intro (And.intro k2 k3) ?_
  obtain ⟨k4, h⟩ := h
  refine And.intro k4 ?_
  obtain ⟨k5, h⟩ := h
  obtain ⟨k6, h⟩ := h
  refine And.intro (And.intro k5 k6) ?_
  refine And.intro k4 ?_
  obtain ⟨k7, h⟩ := h
  refine And.intro (And.intro k2 k7) ?_
  refine And.intro k1 ?_
  obtain ⟨k8, h⟩ := h
  refine And.intro (And.intro k5 k8) ?_
  obtain ⟨k9, h⟩ := h
  refine And.intro k9 ?_
  exact h
set_option maxRecDepth 20000 in
theorem g_X3_pickThree_96 {Q X : m_Po} {v0 v2 v3 v4 v5 v6 : Int} {ε : m_E} {μ : m_M} (h : TY ε μ → i32 v2 → i32 v3 → i32 v4 → kd ε v5 = 101 ∧ (0 : Int) ≤ v4 ∧ v4 < ln ε v5 ∧ kd ε v6 = 101 ∧ (0 : Int) ≤ v2 ∧ v2 < ln ε v6 ∧ v4 < ln ε v6 ∧ v2 < ln ε v5 ∧ kd ε v0 = 3 ∧ o_X3_pick [(2, v0), (0, 1), (0, v3), (1, w64 ((w64 ((μ v5 v4) * (μ v6 v2))) - (w64 ((μ v6 v4) * (μ v5 v2)))))] ε μ (fun z ε_1 μ_1 => G cd_X3_pickThree Q X 123 [(0, (2, v0)), (2, (0, v2)), (3, (0, v3)), (4, (0, v4)), (5, (2, v5)), (6, (2, v6))] [] ε_1 μ_1) m_F) : G cd_X3_pickThree Q X 96 [(0, (2, v0)), (2, (0, v2)), (3, (0, v3)), (4, (0, v4)), (5, (2, v5)), (6, (2, v6))] [] ε μ := by
  refine G_run (m_in [29, 67, 96, 123, 149]) 14 _ _ _ _ ?_
  show m_ty [(0, (2, v0)), (2, (0, v2)), (3, (0, v3)), (4, (0, v4)), (5, (2, v5)), (6, (2, v6))] [] ε μ → (kd ε v5 = 101) ∧ ((0 : Int) ≤ v4 ∧ v4 < ln ε v5) ∧ (kd ε v6 = 101) ∧ ((0 : Int) ≤ v2 ∧ v2 < ln ε v6) ∧ (kd ε v6 = 101) ∧ ((0 : Int) ≤ v4 ∧ v4 < ln ε v6) ∧ (kd ε v5 = 101) ∧ ((0 : Int) ≤ v2 ∧ v2 < ln ε v5) ∧ (kd ε v0 = 3) ∧ o_X3_pick [(2, v0), (0, 1), (0, v3), (1, w64 ((w64 ((μ v5 v4) * (μ v6 v2))) - (w64 ((μ v6 v4) * (μ v5 v2)))))] ε μ (fun z ε_1 μ_1 => G cd_X3_pickThree Q X 123 [(0, (2, v0)), (2, (0, v2)), (3, (0, v3)), (4, (0, v4)), (5, (2, v5)), (6, (2, v6))] [] ε_1 μ_1) m_F
  intro hty
  replace h := h hty.1 (hty.2.1 _ (List.mem_of_getElem? (i := 1) rfl)) (hty.2.1 _ (List.mem_of_getElem? (i := 2) rfl)) (hty.2.1 _ (List.mem_of_getElem? (i := 3) rfl))
  obtain ⟨k1, h⟩ := h
  refine And.intro k1 ?_
  obtain ⟨k2, h⟩ := h
  obtain ⟨k3, h⟩ := h
  refine And.intro (And.intro k2 k3) ?_
  obtain ⟨k4, h⟩ := h
  refine And.intro k4 ?_
  obtain ⟨k5, h⟩ := h
  obtain ⟨k6, h⟩ := h
  refine And.intro (And.intro k5 k6) ?_
  refine And.intro k4 ?_
  obtain ⟨k7, h⟩ := h
  refine And.intro (And.intro k2 k7) ?_
  refine And.intro k1 ?_
  obtain ⟨k8, h⟩ := h
  refine And.intro (And.intro k5 k8) ?_
  obtain ⟨k9, h⟩ := h
  refine And.intro k9 ?_
  exact h
set_option maxRecDepth 20000 in
theorem g_X3_pickThree_67 {Q X : m_Po} {v0 v2 v3 v4 v5 t : Int} {ε : m_E} {μ : m_M} (h : TY ε μ → i32 v2 → i32 v3 → i32 v4 → ∀ v6 : Int, v6 = t → kd ε v5 = 101 ∧ (0 : Int) ≤ v3 ∧ v3 < ln ε v5 ∧ kd ε v6 = 101 ∧ (0 : Int) ≤ v4 ∧ v4 < ln ε v6 ∧ v3 < ln ε v6 ∧ v4 < ln ε v5 ∧ kd ε v0 = 3 ∧ o_X3_pick [(2, v0), (0, 0), (0, v2), (1, w64 ((w64 ((μ v5 v3) * (μ v6 v4))) - (w64 ((μ v6 v3) * (μ v5 v4)))))] ε μ (fun z ε_1 μ_1 => G cd_X3_pickThree Q X 96 [(0, (2, v0)), (2, (0, v2)), (3, (0, v3)), (4, (0, v4)), (5, (2, v5)), (6, (2, v6))] [] ε_1 μ_1) m_F) : G cd_X3_pickThree Q X 67 [(0, (2, v0)), (2, (0, v2)), (3, (0, v3)), (4, (0, v4)), (5, (2, v5))] [(2, t)] ε μ := by
  refine G_run (m_in [29, 67, 96, 123, 149]) 14 _ _ _ _ ?_
  show m_ty [(0, (2, v0)), (2, (0, v2)), (3, (0, v3)), (4, (0, v4)), (5, (2, v5))] [(2, t)] ε μ → ∀ v6 : Int, v6 = t → (kd ε v5 = 101) ∧ ((0 : Int) ≤ v3 ∧ v3 < ln ε v5) ∧ (kd ε v6 = 101) ∧ ((0 : Int) ≤ v4 ∧ v4 < ln ε v6) ∧ (kd ε v6 = 101) ∧ ((0 : Int) ≤ v3 ∧ v3 < ln ε v6) ∧ (kd ε v5 = 101) ∧ ((0 : Int) ≤ v4 ∧ v4 < ln ε v5) ∧ (kd ε v0 = 3) ∧ o_X3_pick [(2, v0), (0, 0), (0, v2), (1, w64 ((w64 ((μ v5 v3) * (μ v6 v4))) - (w64 ((μ v6 v3) * (μ v5 v4)))))] ε μ (fun z ε_1 μ_1 => G cd_X3_pickThree Q X 96 [(0, (2, v0)), (2, (0, v2)), (3, (0, v3)), (4, (0, v4)), (5, (2, v5)), (6, (2, v6))] [] ε_1 μ_1) m_F
  intro hty
  replace h := h hty.1 (hty.2.1 _ (List.mem_of_getElem? (i := 1) rfl)) (hty.2.1 _ (List.mem_of_getElem? (i := 2) rfl)) (hty.2.1 _ (List.mem_of_getElem? (i := 3) rfl))
  intro v6 e_v6
  replace h := h v6 e_v6
  obtain ⟨k1, h⟩ := h
  refine And.intro k1 ?_
  obtain ⟨k2, h⟩ := h
  obtain ⟨k3, h⟩ := h
  refine And.intro (And.intro k2 k3) ?_
  obtain ⟨k4, h⟩ := h
  refine And.intro k4 ?_
  obtain ⟨k5, h⟩ := h
  obtain ⟨k6, h⟩ := h
  refine And.intro (And.intro k5 k6) ?_
  refine And.intro k4 ?_
  obtain ⟨k7, h⟩ := h
  refine And.intro (And.intro k2 k7) ?_
  refine And.intro k1 ?_
  obtain ⟨k8, h⟩ := h
  refine And.intro (And.intro k5 k8) ?_
  obtain ⟨k9, h⟩ := h
  refine And.intro k9 ?_
  exact h
set_option maxRecDepth 20000 in
theorem g_X3_pickThree_29 {Q X : m_Po} {v0 v1 v2 v3 v4 t : Int} {ε : m_E} {μ : m_M} (h : TY ε μ → i32 v2 → i32 v3 → i32 v4 → ∀ v5 : Int, v5 = t → kd ε v0 = 3 ∧ (((μ v0 5) = (0 : Int) → ((μ v0 6) = (0 : Int) → kd ε v1 = 1) ∧ ((μ v0 6) ≠ (0 : Int) → kd ε v1 = 1)) ∧ ((μ v0 5) ≠ (0 : Int) → kd ε v1 = 1)) ∧ ∀ t_1 : Int, t_1 = (if (μ v0 5) = (0 : Int) then if (μ v0 6) = (0 : Int) then fn ε v1 1 else fn ε v1 0 else fn ε v1 1) → ∀ v6 : Int, v6 = t_1 → kd ε v5 = 101 ∧ (0 : Int) ≤ v3 ∧ v3 < ln ε v5 ∧ kd ε v6 = 101 ∧ (0 : Int) ≤ v4 ∧ v4 < ln ε v6 ∧ v3 < ln ε v6 ∧ v4 < ln ε v5 ∧ kd ε v0 = 3 ∧ o_X3_pick [(2, v0), (0, 0), (0, v2), (1, w64 ((w64 ((μ v5 v3) * (μ v6 v4))) - (w64 ((μ v6 v3) * (μ v5 v4)))))] ε μ (fun z ε_1 μ_1 => G cd_X3_pickThree Q X 96 [(0, (2, v0)), (2, (0, v2)), (3, (0, v3)), (4, (0, v4)), (5, (2, v5)), (6, (2, v6))] [] ε_1 μ_1) m_F) : G cd_X3_pickThree Q X 29 [(0, (2, v0)), (1, (2, v1)), (2, (0, v2)), (3, (0, v3)), (4, (0, v4))] [(2, t)] ε μ := by
  refine G_run (m_in [29, 67, 96, 123, 149]) 14 _ _ _ _ ?_
  show m_ty [(0, (2, v0)), (1, (2, v1)), (2, (0, v2)), (3, (0, v3)), (4, (0, v4))] [(2, t)] ε μ → ∀ v5 : Int, v5 = t → (kd ε v0 = 3) ∧ ((μ v0 5) = (0 : Int) → (m_ty [(0, (2, v0)), (1, (2, v1)), (2, (0, v2)), (3, (0, v3)), (4, (0, v4)), (5, (2, v5))] [] ε μ → (kd ε v0 = 3) ∧ ((μ v0 6) = (0 : Int) → (m_ty [(0, (2, v0)), (1, (2, v1)), (2, (0, v2)), (3, (0, v3)), (4, (0, v4)), (5, (2, v5))] [] ε μ → (kd ε v1 = 1) ∧ G cd_X3_pickThree Q X 67 [(0, (2, v0)), (2, (0, v2)), (3, (0, v3)), (4, (0, v4)), (5, (2, v5))] [(2, fn ε v1 1)] ε μ)) ∧ ((μ v0 6) ≠ (0 : Int) → (m_ty [(0, (2, v0)), (1, (2, v1)), (2, (0, v2)), (3, (0, v3)), (4, (0, v4)), (5, (2, v5))] [] ε μ → (kd ε v1 = 1) ∧ G cd_X3_pickThree Q X 67 [(0, (2, v0)), (2, (0, v2)), (3, (0, v3)), (4, (0, v4)), (5, (2, v5))] [(2, fn ε v1 0)] ε μ)))) ∧ ((μ v0 5) ≠ (0 : Int) → (m_ty [(0, (2, v0)), (1, (2, v1)), (2, (0, v2)), (3, (0, v3)), (4, (0, v4)), (5, (2, v5))] [] ε μ → (kd ε v1 = 1) ∧ G cd_X3_pickThree Q X 67 [(0, (2, v0)), (2, (0, v2)), (3, (0, v3)), (4, (0, v4)), (5, (2, v5))] [(2, fn ε v1 1)] ε μ))
  intro hty
  replace h := h hty.1 (hty.2.1 _ (List.mem_of_getElem? (i := 2) rfl)) (hty.2.1 _ (List.mem_of_getElem? (i := 3) rfl)) (hty.2.1 _ (List.mem_of_getElem? (i := 4) rfl))
  intro v5 e_v5
  replace h := h v5 e_v5
  obtain ⟨k1, h⟩ := h
  refine And.intro k1 ?_
  obtain ⟨hc, hj⟩ := h
  obtain ⟨k16, k17⟩ := hc
  refine And.intro (fun c1 => ?_) (fun c1 => ?_)
  · replace k16 := k16 c1
    intro _
    refine And.intro k1 ?_
    obtain ⟨k18, k19⟩ := k16
    refine And.intro (fun c2 => ?_) (fun c2 => ?_)
    · replace k18 := k18 c2
      intro _
      have k4 := k18
      refine And.intro k4 ?_
      exact g_X3_pickThree_67 (fun _ _ _ _ => (hj _ (((if_pos c1).trans ((if_pos c2).trans rfl))).symm))
    · replace k19 := k19 c2
      intro _
      have k5 := k19
      refine And.intro k5 ?_
      exact g_X3_pickThree_67 (fun _ _ _ _ => (hj _ (((if_pos c1).trans ((if_neg (c2)).trans rfl))).symm))
  · replace k17 := k17 c1
    intro _
    have k6 := k17
    refine And.intro k6 ?_
    exact g_X3_pickThree_67 (fun _ _ _ _ => (hj _ (((if_neg (c1)).trans rfl)).symm))
set_option maxRecDepth 20000 in
theorem g_X3_pickThree_0 {Q X : m_Po} {v0 v1 v2 v3 v4 : Int} {ε : m_E} {μ : m_M} (h : TY ε μ → i32 v2 → i32 v3 → i32 v4 → kd ε v0 = 3 ∧ (((μ v0 5) ≠ (0 : Int) → kd ε v1 = 1) ∧ ((μ v0 5) = (0 : Int) → ((μ v0 6) = (0 : Int) → kd ε v1 = 1) ∧ ((μ v0 6) ≠ (0 : Int) → kd ε v1 = 1))) ∧ ∀ t : Int, t = (if (μ v0 5) = (0 : Int) then if (μ v0 6) = (0 : Int) then fn ε v1 0 else fn ε v1 2 else fn ε v1 2) → ∀ v5 : Int, v5 = t → kd ε v0 = 3 ∧ (((μ v0 5) = (0 : Int) → ((μ v0 6) = (0 : Int) → kd ε v1 = 1) ∧ ((μ v0 6) ≠ (0 : Int) → kd ε v1 = 1)) ∧ ((μ v0 5) ≠ (0 : Int) → kd ε v1 = 1)) ∧ ∀ t_1 : Int, t_1 = (if (μ v0 5) = (0 : Int) then if (μ v0 6) = (0 : Int) then fn ε v1 1 else fn ε v1 0 else fn ε v1 1) → ∀ v6 : Int, v6 = t_1 → kd ε v5 = 101 ∧ (0 : Int) ≤ v3 ∧ v3 < ln ε v5 ∧ kd ε v6 = 101 ∧ (0 : Int) ≤ v4 ∧ v4 < ln ε v6 ∧ v3 < ln ε v6 ∧ v4 < ln ε v5 ∧ kd ε v0 = 3 ∧ o_X3_pick [(2, v0), (0, 0), (0, v2), (1, w64 ((w64 ((μ v5 v3) * (μ v6 v4))) - (w64 ((μ v6 v3) * (μ v5 v4)))))] ε μ (fun z ε_1 μ_1 => G cd_X3_pickThree Q X 96 [(0, (2, v0)), (2, (0, v2)), (3, (0, v3)), (4, (0, v4)), (5, (2, v5)), (6, (2, v6))] [] ε_1 μ_1) m_F) : G cd_X3_pickThree Q X 0 [(0, (2, v0)), (1, (2, v1)), (2, (0, v2)), (3, (0, v3)), (4, (0, v4))] [] ε μ := by
  refine G_run (m_in [29, 67, 96, 123, 149]) 14 _ _ _ _ ?_
  show m_ty [(0, (2, v0)), (1, (2, v1)), (2, (0, v2)), (3, (0, v3)), (4, (0, v4))] [] ε μ → (kd ε v0 = 3) ∧ ((μ v0 5) ≠ (0 : Int) → (m_ty [(0, (2, v0)), (1, (2, v1)), (2, (0, v2)), (3, (0, v3)), (4, (0, v4))] [] ε μ → (kd ε v1 = 1) ∧ G cd_X3_pickThree Q X 29 [(0, (2, v0)), (1, (2, v1)), (2, (0, v2)), (3, (0, v3)), (4, (0, v4))] [(2, fn ε v1 2)] ε μ)) ∧ ((μ v0 5) = (0 : Int) → (m_ty [(0, (2, v0)), (1, (2, v1)), (2, (0, v2)), (3, (0, v3)), (4, (0, v4))] [] ε μ → (kd ε v0 = 3) ∧ ((μ v0 6) = (0 : Int) → (m_ty [(0, (2, v0)), (1, (2, v1)), (2, (0, v2)), (3, (0, v3)), (4, (0, v4))] [] ε μ → (kd ε v1 = 1) ∧ G cd_X3_pickThree Q X 29 [(0, (2, v0)), (1, (2, v1)), (2, (0, v2)), (3, (0, v3)), (4, (0, v4))] [(2, fn ε v1 0)] ε μ)) ∧ ((μ v0 6) ≠ (0 : Int) → (m_ty [(0, (2, v0)), (1, (2, v1)), (2, (0, v2)), (3, (0, v3)), (4, (0, v4))] [] ε μ → (kd ε v1 = 1) ∧ G cd_X3_pickThree Q X 29 [(0, (2, v0)), (1, (2, v1)), (2, (0, v2)), (3, (0, v3)), (4, (0, v4))] [(2, fn ε v1 2)] ε μ))))
  intro hty
  replace h := h hty.1 (hty.2.1 _ (List.mem_of_getElem? (i := 2) rfl)) (hty.2.1 _ (List.mem_of_getElem? (i := 3) rfl)) (hty.2.1 _ (List.mem_of_getElem? (i := 4) rfl))
  obtain ⟨k1, h⟩ := h
  refine And.intro k1 ?_
  obtain ⟨hc, hj⟩ := h
  obtain ⟨k26, k27⟩ := hc
  refine And.intro (fun c1 => ?_) (fun c1 => ?_)
  · replace k26 := k26 c1
    intro _
    have k3 := k26
    refine And.intro k3 ?_
    exact g_X3_pickThree_29 (fun _ _ _ _ => (hj _ (((if_neg (c1)).trans rfl)).symm))
  · replace k27 := k27 c1
    intro _
    refine And.intro k1 ?_
    obtain ⟨k28, k29⟩ := k27
    refine And.intro (fun c3 => ?_) (fun c3 => ?_)
    · replace k28 := k28 c3
      intro _
      have k5 := k28
      refine And.intro k5 ?_
      exact g_X3_pickThree_29 (fun _ _ _ _ => (hj _ (((if_pos c1).trans ((if_pos c3).trans rfl))).symm))
    · replace k29 := k29 c3
      intro _
      have k6 := k29
      refine And.intro k6 ?_
      exact g_X3_pickThree_29 (fun _ _ _ _ => (hj _ (((if_pos c1).trans ((if_neg (c3)).trans rfl))).symm))
theorem e_X3_pickThree {Q X : m_Po} {v0 v1 v2 v3 v4 : Int} {ε : m_E} {μ : m_M} (h : TY ε μ → i32 v2 → i32 v3 → i32 v4 → kd ε v0 = 3 ∧ (((μ v0 5) ≠ (0 : Int) → kd ε v1 = 1) ∧ ((μ v0 5) = (0 : Int) → ((μ v0 6) = (0 : Int) → kd ε v1 = 1) ∧ ((μ v0 6) ≠ (0 : Int) → kd ε v1 = 1))) ∧ ∀ t : Int, t = (if (μ v0 5) = (0 : Int) then if (μ v0 6) = (0 : Int) then fn ε v1 0 else fn ε v1 2 else fn ε v1 2) → ∀ v5 : Int, v5 = t → kd ε v0 = 3 ∧ (((μ v0 5) = (0 : Int) → ((μ v0 6) = (0 : Int) → kd ε v1 = 1) ∧ ((μ v0 6) ≠ (0 : Int) → kd ε v1 = 1)) ∧ ((μ v0 5) ≠ (0 : Int) → kd ε v1 = 1)) ∧ ∀ t_1 : Int, t_1 = (if (μ v0 5) = (0 : Int) then if (μ v0 6) = (0 : Int) then fn ε v1 1 else fn ε v1 0 else fn ε v1 1) → ∀ v6 : Int, v6 = t_1 → kd ε v5 = 101 ∧ (0 : Int) ≤ v3 ∧ v3 < ln ε v5 ∧ kd ε v6 = 101 ∧ (0 : Int) ≤ v4 ∧ v4 < ln ε v6 ∧ v3 < ln ε v6 ∧ v4 < ln ε v5 ∧ kd ε v0 = 3 ∧ o_X3_pick [(2, v0), (0, 0), (0, v2), (1, w64 ((w64 ((μ v5 v3) * (μ v6 v4))) - (w64 ((μ v6 v3) * (μ v5 v4)))))] ε μ (fun z ε_1 μ_1 => G cd_X3_pickThree Q X 96 [(0, (2, v0)), (2, (0, v2)), (3, (0, v3)), (4, (0, v4)), (5, (2, v5)), (6, (2, v6))] [] ε_1 μ_1) m_F) : o_X3_pickThree [(2, v0), (2, v1), (0, v2), (0, v3), (0, v4)] ε μ Q X := And.intro rfl (g_X3_pickThree_0 h)
/-! ArchYard$Never.findThird(LArchYard$Bounds;II)Z -/
set_option maxRecDepth 20000 in
theorem g_X3_findThird_46 {Q X : m_Po} {v0 v1 v2 v3 v4 : Int} {ε : m_E} {μ : m_M} (h : TY ε μ → i32 v2 → i32 v3 → i32 v4 → ∀ v4_1 : Int, v4_1 = w32 (v4 + 1) → G cd_X3_findThird Q X 5 [(0, (2, v0)), (1, (2, v1)), (2, (0, v2)), (3, (0, v3)), (4, (0, v4_1))] [] ε μ) : G cd_X3_findThird Q X 46 [(0, (2, v0)), (1, (2, v1)), (2, (0, v2)), (3, (0, v3)), (4, (0, v4))] [] ε μ := by
  refine G_run (m_in [5, 21, 35, 41, 46]) 11 _ _ _ _ ?_
  show m_ty [(0, (2, v0)), (1, (2, v1)), (2, (0, v2)), (3, (0, v3)), (4, (0, v4))] [] ε μ → ∀ v4_1 : Int, v4_1 = w32 (v4 + 1) → G cd_X3_findThird Q X 5 [(0, (2, v0)), (1, (2, v1)), (2, (0, v2)), (3, (0, v3)), (4, (0, v4_1))] [] ε μ
  intro hty
  replace h := h hty.1 (hty.2.1 _ (List.mem_of_getElem? (i := 2) rfl)) (hty.2.1 _ (List.mem_of_getElem? (i := 3) rfl)) (hty.2.1 _ (List.mem_of_getElem? (i := 4) rfl))
  intro v4_1 e_v4_1
  replace h := h v4_1 e_v4_1
  exact h
set_option maxRecDepth 20000 in
theorem g_X3_findThird_41 {Q X : m_Po} {v0 v1 v2 v3 v4 t : Int} {ε : m_E} {μ : m_M} (h : TY ε μ → i32 v2 → i32 v3 → i32 v4 → i32 t → (t = 0 → G cd_X3_findThird Q X 46 [(0, (2, v0)), (1, (2, v1)), (2, (0, v2)), (3, (0, v3)), (4, (0, v4))] [] ε μ) ∧ (t ≠ 0 → Q 1 ε μ)) : G cd_X3_findThird Q X 41 [(0, (2, v0)), (1, (2, v1)), (2, (0, v2)), (3, (0, v3)), (4, (0, v4))] [(0, t)] ε μ := by
  refine G_run (m_in [5, 21, 35, 41, 46]) 11 _ _ _ _ ?_
  show m_ty [(0, (2, v0)), (1, (2, v1)), (2, (0, v2)), (3, (0, v3)), (4, (0, v4))] [(0, t)] ε μ → (t = 0 → G cd_X3_findThird Q X 46 [(0, (2, v0)), (1, (2, v1)), (2, (0, v2)), (3, (0, v3)), (4, (0, v4))] [] ε μ) ∧ (t ≠ 0 → (m_ty [] [] ε μ → (1 = 0 ∨ 1 = 1) ∧ Q 1 ε μ))
  intro hty
  replace h := h hty.1 (hty.2.1 _ (List.mem_of_getElem? (i := 2) rfl)) (hty.2.1 _ (List.mem_of_getElem? (i := 3) rfl)) (hty.2.1 _ (List.mem_of_getElem? (i := 4) rfl)) (hty.2.2 _ (List.mem_of_getElem? (i := 0) rfl))
  obtain ⟨ha, hb⟩ := h
  refine And.intro (fun c0 => ?_) (fun c0 => ?_)
  · replace h := ha c0
    clear ha hb
    exact h
  · replace h := hb c0
    clear ha hb
    intro _
    refine And.intro (Or.inr rfl) ?_
    exact h
set_option maxRecDepth 20000 in
theorem g_X3_findThird_35 {Q X : m_Po} {v0 v1 v2 v3 v4 : Int} {ε : m_E} {μ : m_M} (h : TY ε μ → i32 v2 → i32 v3 → i32 v4 → kd ε v0 = 3 ∧ o_X3_clash [(2, v0), (2, v1), (0, 3)] ε μ (fun z ε_1 μ_1 => G cd_X3_findThird Q X 41 [(0, (2, v0)), (1, (2, v1)), (2, (0, v2)), (3, (0, v3)), (4, (0, v4))] [(0, z)] ε_1 μ_1) m_F) : G cd_X3_findThird Q X 35 [(0, (2, v0)), (1, (2, v1)), (2, (0, v2)), (3, (0, v3)), (4, (0, v4))] [] ε μ := by
  refine G_run (m_in [5, 21, 35, 41, 46]) 11 _ _ _ _ ?_
  show m_ty [(0, (2, v0)), (1, (2, v1)), (2, (0, v2)), (3, (0, v3)), (4, (0, v4))] [] ε μ → (kd ε v0 = 3) ∧ o_X3_clash [(2, v0), (2, v1), (0, 3)] ε μ (fun z ε_1 μ_1 => G cd_X3_findThird Q X 41 [(0, (2, v0)), (1, (2, v1)), (2, (0, v2)), (3, (0, v3)), (4, (0, v4))] [(0, z)] ε_1 μ_1) m_F
  intro hty
  replace h := h hty.1 (hty.2.1 _ (List.mem_of_getElem? (i := 2) rfl)) (hty.2.1 _ (List.mem_of_getElem? (i := 3) rfl)) (hty.2.1 _ (List.mem_of_getElem? (i := 4) rfl))
  obtain ⟨k1, h⟩ := h
  refine And.intro k1 ?_
  exact h
set_option maxRecDepth 20000 in
theorem g_X3_findThird_21 {Q X : m_Po} {v0 v1 v2 v3 v4 t : Int} {ε : m_E} {μ : m_M} (h : TY ε μ → i32 v2 → i32 v3 → i32 v4 → i64 t → (t ≠ (0 : Int) → G cd_X3_findThird Q X 46 [(0, (2, v0)), (1, (2, v1)), (2, (0, v2)), (3, (0, v3)), (4, (0, v4))] [] ε μ) ∧ (t = (0 : Int) → kd ε v0 = 3 ∧ o_X3_pickThree [(2, v0), (2, v1), (0, v2), (0, v3), (0, v4)] ε μ (fun z ε_1 μ_1 => G cd_X3_findThird Q X 35 [(0, (2, v0)), (1, (2, v1)), (2, (0, v2)), (3, (0, v3)), (4, (0, v4))] [] ε_1 μ_1) m_F)) : G cd_X3_findThird Q X 21 [(0, (2, v0)), (1, (2, v1)), (2, (0, v2)), (3, (0, v3)), (4, (0, v4))] [(1, t)] ε μ := by
  refine G_run (m_in [5, 21, 35, 41, 46]) 11 _ _ _ _ ?_
  show m_ty [(0, (2, v0)), (1, (2, v1)), (2, (0, v2)), (3, (0, v3)), (4, (0, v4))] [(1, t)] ε μ → (t ≠ (0 : Int) → G cd_X3_findThird Q X 46 [(0, (2, v0)), (1, (2, v1)), (2, (0, v2)), (3, (0, v3)), (4, (0, v4))] [] ε μ) ∧ (t = (0 : Int) → (m_ty [(0, (2, v0)), (1, (2, v1)), (2, (0, v2)), (3, (0, v3)), (4, (0, v4))] [] ε μ → (kd ε v0 = 3) ∧ o_X3_pickThree [(2, v0), (2, v1), (0, v2), (0, v3), (0, v4)] ε μ (fun z ε_1 μ_1 => G cd_X3_findThird Q X 35 [(0, (2, v0)), (1, (2, v1)), (2, (0, v2)), (3, (0, v3)), (4, (0, v4))] [] ε_1 μ_1) m_F))
  intro hty
  replace h := h hty.1 (hty.2.1 _ (List.mem_of_getElem? (i := 2) rfl)) (hty.2.1 _ (List.mem_of_getElem? (i := 3) rfl)) (hty.2.1 _ (List.mem_of_getElem? (i := 4) rfl)) (hty.2.2 _ (List.mem_of_getElem? (i := 0) rfl))
  obtain ⟨ha, hb⟩ := h
  refine And.intro (fun c1 => ?_) (fun c1 => ?_)
  · replace h := ha c1
    clear ha hb
    exact h
  · replace h := hb c1
    clear ha hb
    intro _
    obtain ⟨k1, h⟩ := h
    refine And.intro k1 ?_
    exact h
set_option maxRecDepth 20000 in
theorem g_X3_findThird_5 {Q X : m_Po} {v0 v1 v2 v3 v4 : Int} {ε : m_E} {μ : m_M} (h : TY ε μ → i32 v2 → i32 v3 → i32 v4 → kd ε v1 = 1 ∧ ((μ v1 5) ≤ v4 → Q 0 ε μ) ∧ (v4 < (μ v1 5) → kd ε v0 = 3 ∧ o_X3_volumeWith [(2, v0), (2, v1), (0, v4)] ε μ (fun z ε_1 μ_1 => G cd_X3_findThird Q X 21 [(0, (2, v0)), (1, (2, v1)), (2, (0, v2)), (3, (0, v3)), (4, (0, v4))] [(1, z)] ε_1 μ_1) m_F)) : G cd_X3_findThird Q X 5 [(0, (2, v0)), (1, (2, v1)), (2, (0, v2)), (3, (0, v3)), (4, (0, v4))] [] ε μ := by
  refine G_run (m_in [5, 21, 35, 41, 46]) 11 _ _ _ _ ?_
  show m_ty [(0, (2, v0)), (1, (2, v1)), (2, (0, v2)), (3, (0, v3)), (4, (0, v4))] [] ε μ → (kd ε v1 = 1) ∧ ((μ v1 5) ≤ v4 → (m_ty [] [] ε μ → (0 = 0 ∨ 0 = 1) ∧ Q 0 ε μ)) ∧ (v4 < (μ v1 5) → (m_ty [(0, (2, v0)), (1, (2, v1)), (2, (0, v2)), (3, (0, v3)), (4, (0, v4))] [] ε μ → (kd ε v0 = 3) ∧ o_X3_volumeWith [(2, v0), (2, v1), (0, v4)] ε μ (fun z ε_1 μ_1 => G cd_X3_findThird Q X 21 [(0, (2, v0)), (1, (2, v1)), (2, (0, v2)), (3, (0, v3)), (4, (0, v4))] [(1, z)] ε_1 μ_1) m_F))
  intro hty
  replace h := h hty.1 (hty.2.1 _ (List.mem_of_getElem? (i := 2) rfl)) (hty.2.1 _ (List.mem_of_getElem? (i := 3) rfl)) (hty.2.1 _ (List.mem_of_getElem? (i := 4) rfl))
  obtain ⟨k1, h⟩ := h
  refine And.intro k1 ?_
  obtain ⟨ha, hb⟩ := h
  refine And.intro (fun c2 => ?_) (fun c2 => ?_)
  · replace h := ha c2
    clear ha hb
    intro _
    refine And.intro (Or.inl rfl) ?_
    exact h
  · replace h := hb c2
    clear ha hb
    intro _
    obtain ⟨k2, h⟩ := h
    refine And.intro k2 ?_
    exact h
set_option maxRecDepth 20000 in
theorem g_X3_findThird_0 {Q X : m_Po} {v0 v1 v2 v3 : Int} {ε : m_E} {μ : m_M} (h : TY ε μ → i32 v2 → i32 v3 → ∀ v4 : Int, v4 = w32 (v3 + 1) → G cd_X3_findThird Q X 5 [(0, (2, v0)), (1, (2, v1)), (2, (0, v2)), (3, (0, v3)), (4, (0, v4))] [] ε μ) : G cd_X3_findThird Q X 0 [(0, (2, v0)), (1, (2, v1)), (2, (0, v2)), (3, (0, v3))] [] ε μ := by
  refine G_run (m_in [5, 21, 35, 41, 46]) 11 _ _ _ _ ?_
  show m_ty [(0, (2, v0)), (1, (2, v1)), (2, (0, v2)), (3, (0, v3))] [] ε μ → ∀ v4 : Int, v4 = w32 (v3 + 1) → G cd_X3_findThird Q X 5 [(0, (2, v0)), (1, (2, v1)), (2, (0, v2)), (3, (0, v3)), (4, (0, v4))] [] ε μ
  intro hty
  replace h := h hty.1 (hty.2.1 _ (List.mem_of_getElem? (i := 2) rfl)) (hty.2.1 _ (List.mem_of_getElem? (i := 3) rfl))
  intro v4 e_v4
  replace h := h v4 e_v4
  exact h
theorem e_X3_findThird {Q X : m_Po} {v0 v1 v2 v3 : Int} {ε : m_E} {μ : m_M} (h : TY ε μ → i32 v2 → i32 v3 → ∀ v4 : Int, v4 = w32 (v3 + 1) → G cd_X3_findThird Q X 5 [(0, (2, v0)), (1, (2, v1)), (2, (0, v2)), (3, (0, v3)), (4, (0, v4))] [] ε μ) : o_X3_findThird [(2, v0), (2, v1), (0, v2), (0, v3)] ε μ Q X := And.intro rfl (g_X3_findThird_0 h)
/-! ArchYard$Never.findThree(LArchYard$Bounds;)Z -/
set_option maxRecDepth 20000 in
theorem g_X3_findThree_48 {Q X : m_Po} {v0 v1 v2 v3 : Int} {ε : m_E} {μ : m_M} (h : TY ε μ → i32 v2 → i32 v3 → ∀ v3_1 : Int, v3_1 = w32 (v3 + 1) → G cd_X3_findThree Q X 14 [(0, (2, v0)), (1, (2, v1)), (2, (0, v2)), (3, (0, v3_1))] [] ε μ) : G cd_X3_findThree Q X 48 [(0, (2, v0)), (1, (2, v1)), (2, (0, v2)), (3, (0, v3))] [] ε μ := by
  refine G_run (m_in [2, 14, 29, 33, 43, 48]) 14 _ _ _ _ ?_
  show m_ty [(0, (2, v0)), (1, (2, v1)), (2, (0, v2)), (3, (0, v3))] [] ε μ → ∀ v3_1 : Int, v3_1 = w32 (v3 + 1) → G cd_X3_findThree Q X 14 [(0, (2, v0)), (1, (2, v1)), (2, (0, v2)), (3, (0, v3_1))] [] ε μ
  intro hty
  replace h := h hty.1 (hty.2.1 _ (List.mem_of_getElem? (i := 2) rfl)) (hty.2.1 _ (List.mem_of_getElem? (i := 3) rfl))
  intro v3_1 e_v3_1
  replace h := h v3_1 e_v3_1
  exact h
set_option maxRecDepth 20000 in
theorem g_X3_findThree_43 {Q X : m_Po} {v0 v1 v2 v3 t : Int} {ε : m_E} {μ : m_M} (h : TY ε μ → i32 v2 → i32 v3 → i32 t → (t = 0 → G cd_X3_findThree Q X 48 [(0, (2, v0)), (1, (2, v1)), (2, (0, v2)), (3, (0, v3))] [] ε μ) ∧ (t ≠ 0 → Q 1 ε μ)) : G cd_X3_findThree Q X 43 [(0, (2, v0)), (1, (2, v1)), (2, (0, v2)), (3, (0, v3))] [(0, t)] ε μ := by
  refine G_run (m_in [2, 14, 29, 33, 43, 48]) 14 _ _ _ _ ?_
  show m_ty [(0, (2, v0)), (1, (2, v1)), (2, (0, v2)), (3, (0, v3))] [(0, t)] ε μ → (t = 0 → G cd_X3_findThree Q X 48 [(0, (2, v0)), (1, (2, v1)), (2, (0, v2)), (3, (0, v3))] [] ε μ) ∧ (t ≠ 0 → (m_ty [] [] ε μ → (1 = 0 ∨ 1 = 1) ∧ Q 1 ε μ))
  intro hty
  replace h := h hty.1 (hty.2.1 _ (List.mem_of_getElem? (i := 2) rfl)) (hty.2.1 _ (List.mem_of_getElem? (i := 3) rfl)) (hty.2.2 _ (List.mem_of_getElem? (i := 0) rfl))
  obtain ⟨ha, hb⟩ := h
  refine And.intro (fun c0 => ?_) (fun c0 => ?_)
  · replace h := ha c0
    clear ha hb
    exact h
  · replace h := hb c0
    clear ha hb
    intro _
    refine And.intro (Or.inr rfl) ?_
    exact h
set_option maxRecDepth 20000 in
theorem g_X3_findThree_33 {Q X : m_Po} {v0 v1 v2 v3 t : Int} {ε : m_E} {μ : m_M} (h : TY ε μ → i32 v2 → i32 v3 → i32 t → (t ≠ 0 → G cd_X3_findThree Q X 48 [(0, (2, v0)), (1, (2, v1)), (2, (0, v2)), (3, (0, v3))] [] ε μ) ∧ (t = 0 → kd ε v0 = 3 ∧ o_X3_findThird [(2, v0), (2, v1), (0, v2), (0, v3)] ε μ (fun z ε_1 μ_1 => G cd_X3_findThree Q X 43 [(0, (2, v0)), (1, (2, v1)), (2, (0, v2)), (3, (0, v3))] [(0, z)] ε_1 μ_1) m_F)) : G cd_X3_findThree Q X 33 [(0, (2, v0)), (1, (2, v1)), (2, (0, v2)), (3, (0, v3))] [(0, t)] ε μ := by
  refine G_run (m_in [2, 14, 29, 33, 43, 48]) 14 _ _ _ _ ?_
  show m_ty [(0, (2, v0)), (1, (2, v1)), (2, (0, v2)), (3, (0, v3))] [(0, t)] ε μ → (t ≠ 0 → G cd_X3_findThree Q X 48 [(0, (2, v0)), (1, (2, v1)), (2, (0, v2)), (3, (0, v3))] [] ε μ) ∧ (t = 0 → (m_ty [(0, (2, v0)), (1, (2, v1)), (2, (0, v2)), (3, (0, v3))] [] ε μ → (kd ε v0 = 3) ∧ o_X3_findThird [(2, v0), (2, v1), (0, v2), (0, v3)] ε μ (fun z ε_1 μ_1 => G cd_X3_findThree Q X 43 [(0, (2, v0)), (1, (2, v1)), (2, (0, v2)), (3, (0, v3))] [(0, z)] ε_1 μ_1) m_F))
  intro hty
  replace h := h hty.1 (hty.2.1 _ (List.mem_of_getElem? (i := 2) rfl)) (hty.2.1 _ (List.mem_of_getElem? (i := 3) rfl)) (hty.2.2 _ (List.mem_of_getElem? (i := 0) rfl))
  obtain ⟨ha, hb⟩ := h
  refine And.intro (fun c1 => ?_) (fun c1 => ?_)
  · replace h := ha c1
    clear ha hb
    exact h
  · replace h := hb c1
    clear ha hb
    intro _
    obtain ⟨k1, h⟩ := h
    refine And.intro k1 ?_
    exact h
set_option maxRecDepth 20000 in
theorem g_X3_findThree_29 {Q X : m_Po} {v0 v1 v2 v3 : Int} {ε : m_E} {μ : m_M} (h : TY ε μ → i32 v2 → i32 v3 → kd ε v0 = 3 ∧ o_X3_isCrossNothing [(2, v0)] ε μ (fun z ε_1 μ_1 => G cd_X3_findThree Q X 33 [(0, (2, v0)), (1, (2, v1)), (2, (0, v2)), (3, (0, v3))] [(0, z)] ε_1 μ_1) m_F) : G cd_X3_findThree Q X 29 [(0, (2, v0)), (1, (2, v1)), (2, (0, v2)), (3, (0, v3))] [] ε μ := by
  refine G_run (m_in [2, 14, 29, 33, 43, 48]) 14 _ _ _ _ ?_
  show m_ty [(0, (2, v0)), (1, (2, v1)), (2, (0, v2)), (3, (0, v3))] [] ε μ → (kd ε v0 = 3) ∧ o_X3_isCrossNothing [(2, v0)] ε μ (fun z ε_1 μ_1 => G cd_X3_findThree Q X 33 [(0, (2, v0)), (1, (2, v1)), (2, (0, v2)), (3, (0, v3))] [(0, z)] ε_1 μ_1) m_F
  intro hty
  replace h := h hty.1 (hty.2.1 _ (List.mem_of_getElem? (i := 2) rfl)) (hty.2.1 _ (List.mem_of_getElem? (i := 3) rfl))
  obtain ⟨k1, h⟩ := h
  refine And.intro k1 ?_
  exact h
set_option maxRecDepth 20000 in
theorem g_X3_findThree_14 {Q X : m_Po} {v0 v1 v2 v3 : Int} {ε : m_E} {μ : m_M} (h : TY ε μ → i32 v2 → i32 v3 → kd ε v1 = 1 ∧ ((μ v1 5) ≤ v3 → ∀ v2_1 : Int, v2_1 = w32 (v2 + 1) → G cd_X3_findThree Q X 2 [(0, (2, v0)), (1, (2, v1)), (2, (0, v2_1))] [] ε μ) ∧ (v3 < (μ v1 5) → kd ε v0 = 3 ∧ o_X3_cross [(2, v0), (2, v1), (0, v2), (0, v3)] ε μ (fun z ε_1 μ_1 => G cd_X3_findThree Q X 29 [(0, (2, v0)), (1, (2, v1)), (2, (0, v2)), (3, (0, v3))] [] ε_1 μ_1) m_F)) : G cd_X3_findThree Q X 14 [(0, (2, v0)), (1, (2, v1)), (2, (0, v2)), (3, (0, v3))] [] ε μ := by
  refine G_run (m_in [2, 14, 29, 33, 43, 48]) 14 _ _ _ _ ?_
  show m_ty [(0, (2, v0)), (1, (2, v1)), (2, (0, v2)), (3, (0, v3))] [] ε μ → (kd ε v1 = 1) ∧ ((μ v1 5) ≤ v3 → (m_ty [(0, (2, v0)), (1, (2, v1)), (2, (0, v2))] [] ε μ → ∀ v2_1 : Int, v2_1 = w32 (v2 + 1) → G cd_X3_findThree Q X 2 [(0, (2, v0)), (1, (2, v1)), (2, (0, v2_1))] [] ε μ)) ∧ (v3 < (μ v1 5) → (m_ty [(0, (2, v0)), (1, (2, v1)), (2, (0, v2)), (3, (0, v3))] [] ε μ → (kd ε v0 = 3) ∧ o_X3_cross [(2, v0), (2, v1), (0, v2), (0, v3)] ε μ (fun z ε_1 μ_1 => G cd_X3_findThree Q X 29 [(0, (2, v0)), (1, (2, v1)), (2, (0, v2)), (3, (0, v3))] [] ε_1 μ_1) m_F))
  intro hty
  replace h := h hty.1 (hty.2.1 _ (List.mem_of_getElem? (i := 2) rfl)) (hty.2.1 _ (List.mem_of_getElem? (i := 3) rfl))
  obtain ⟨k1, h⟩ := h
  refine And.intro k1 ?_
  obtain ⟨ha, hb⟩ := h
  refine And.intro (fun c2 => ?_) (fun c2 => ?_)
  · replace h := ha c2
    clear ha hb
    intro _
    intro v2_1 e_v2_1
    replace h := h v2_1 e_v2_1
    exact h
  · replace h := hb c2
    clear ha hb
    intro _
    obtain ⟨k2, h⟩ := h
    refine And.intro k2 ?_
    exact h
set_option maxRecDepth 20000 in
theorem g_X3_findThree_2 {Q X : m_Po} {v0 v1 v2 : Int} {ε : m_E} {μ : m_M} (h : TY ε μ → i32 v2 → kd ε v1 = 1 ∧ ((μ v1 5) ≤ v2 → Q 0 ε μ) ∧ (v2 < (μ v1 5) → ∀ v3 : Int, v3 = w32 (v2 + 1) → G cd_X3_findThree Q X 14 [(0, (2, v0)), (1, (2, v1)), (2, (0, v2)), (3, (0, v3))] [] ε μ)) : G cd_X3_findThree Q X 2 [(0, (2, v0)), (1, (2, v1)), (2, (0, v2))] [] ε μ := by
  refine G_run (m_in [2, 14, 29, 33, 43, 48]) 14 _ _ _ _ ?_
  show m_ty [(0, (2, v0)), (1, (2, v1)), (2, (0, v2))] [] ε μ → (kd ε v1 = 1) ∧ ((μ v1 5) ≤ v2 → (m_ty [] [] ε μ → (0 = 0 ∨ 0 = 1) ∧ Q 0 ε μ)) ∧ (v2 < (μ v1 5) → (m_ty [(0, (2, v0)), (1, (2, v1)), (2, (0, v2))] [] ε μ → ∀ v3 : Int, v3 = w32 (v2 + 1) → G cd_X3_findThree Q X 14 [(0, (2, v0)), (1, (2, v1)), (2, (0, v2)), (3, (0, v3))] [] ε μ))
  intro hty
  replace h := h hty.1 (hty.2.1 _ (List.mem_of_getElem? (i := 2) rfl))
  obtain ⟨k1, h⟩ := h
  refine And.intro k1 ?_
  obtain ⟨ha, hb⟩ := h
  refine And.intro (fun c1 => ?_) (fun c1 => ?_)
  · replace h := ha c1
    clear ha hb
    intro _
    refine And.intro (Or.inl rfl) ?_
    exact h
  · replace h := hb c1
    clear ha hb
    intro _
    intro v3 e_v3
    replace h := h v3 e_v3
    exact h
set_option maxRecDepth 20000 in
theorem g_X3_findThree_0 {Q X : m_Po} {v0 v1 : Int} {ε : m_E} {μ : m_M} (h : TY ε μ → ∀ v2 : Int, v2 = 0 → G cd_X3_findThree Q X 2 [(0, (2, v0)), (1, (2, v1)), (2, (0, v2))] [] ε μ) : G cd_X3_findThree Q X 0 [(0, (2, v0)), (1, (2, v1))] [] ε μ := by
  refine G_run (m_in [2, 14, 29, 33, 43, 48]) 14 _ _ _ _ ?_
  show m_ty [(0, (2, v0)), (1, (2, v1))] [] ε μ → ∀ v2 : Int, v2 = 0 → G cd_X3_findThree Q X 2 [(0, (2, v0)), (1, (2, v1)), (2, (0, v2))] [] ε μ
  intro hty
  replace h := h hty.1 
  intro v2 e_v2
  replace h := h v2 e_v2
  exact h
theorem e_X3_findThree {Q X : m_Po} {v0 v1 : Int} {ε : m_E} {μ : m_M} (h : TY ε μ → ∀ v2 : Int, v2 = 0 → G cd_X3_findThree Q X 2 [(0, (2, v0)), (1, (2, v1)), (2, (0, v2))] [] ε μ) : o_X3_findThree [(2, v0), (2, v1)] ε μ Q X := And.intro rfl (g_X3_findThree_0 h)
/-! ArchYard$Never.findVolumes(LArchYard$Bounds;I)V -/
set_option maxRecDepth 20000 in
theorem g_X3_findVolumes_51 {Q X : m_Po} {v0 v1 v2 v3 v4 t t_1 t_2 : Int} {ε : m_E} {μ : m_M} (h : TY ε μ → i32 v2 → i32 v3 → i32 v4 → i32 t_1 → i64 t_2 → kd ε t = 101 ∧ (0 : Int) ≤ t_1 ∧ t_1 < ln ε t ∧ ∀ μ_1 : m_M, μ_1 = st μ t t_1 t_2 → ∀ v4_1 : Int, v4_1 = w32 (v4 + 1) → G cd_X3_findVolumes Q X 24 [(0, (2, v0)), (1, (2, v1)), (2, (0, v2)), (3, (0, v3)), (4, (0, v4_1))] [] ε μ_1) : G cd_X3_findVolumes Q X 51 [(0, (2, v0)), (1, (2, v1)), (2, (0, v2)), (3, (0, v3)), (4, (0, v4))] [(1, t_2), (0, t_1), (2, t)] ε μ := by
  refine G_run (m_in [4, 19, 24, 51]) 10 _ _ _ _ ?_
  show m_ty [(0, (2, v0)), (1, (2, v1)), (2, (0, v2)), (3, (0, v3)), (4, (0, v4))] [(1, t_2), (0, t_1), (2, t)] ε μ → (kd ε t = 101) ∧ ((0 : Int) ≤ t_1 ∧ t_1 < ln ε t) ∧ ∀ μ_1 : m_M, μ_1 = st μ t t_1 t_2 → ∀ v4_1 : Int, v4_1 = w32 (v4 + 1) → G cd_X3_findVolumes Q X 24 [(0, (2, v0)), (1, (2, v1)), (2, (0, v2)), (3, (0, v3)), (4, (0, v4_1))] [] ε μ_1
  intro hty
  replace h := h hty.1 (hty.2.1 _ (List.mem_of_getElem? (i := 2) rfl)) (hty.2.1 _ (List.mem_of_getElem? (i := 3) rfl)) (hty.2.1 _ (List.mem_of_getElem? (i := 4) rfl)) (hty.2.2 _ (List.mem_of_getElem? (i := 1) rfl)) (hty.2.2 _ (List.mem_of_getElem? (i := 0) rfl))
  obtain ⟨k1, h⟩ := h
  refine And.intro k1 ?_
  obtain ⟨k2, h⟩ := h
  obtain ⟨k3, h⟩ := h
  refine And.intro (And.intro k2 k3) ?_
  intro μ_1 e_μ_1
  replace h := h μ_1 e_μ_1
  intro v4_1 e_v4_1
  replace h := h v4_1 e_v4_1
  exact h
set_option maxRecDepth 20000 in
theorem g_X3_findVolumes_24 {Q X : m_Po} {v0 v1 v2 v3 v4 : Int} {ε : m_E} {μ : m_M} (h : TY ε μ → i32 v2 → i32 v3 → i32 v4 → kd ε v1 = 1 ∧ ((μ v1 5) ≤ v4 → ∀ v3_1 : Int, v3_1 = w32 (v3 + 1) → G cd_X3_findVolumes Q X 4 [(0, (2, v0)), (1, (2, v1)), (2, (0, v2)), (3, (0, v3_1))] [] ε μ) ∧ (v4 < (μ v1 5) → kd ε v0 = 3 ∧ o_X3_volumeWith [(2, v0), (2, v1), (0, v4)] ε μ (fun z ε_1 μ_1 => G cd_X3_findVolumes Q X 51 [(0, (2, v0)), (1, (2, v1)), (2, (0, v2)), (3, (0, v3)), (4, (0, v4))] [(1, z), (0, w32 ((w32 (v3 * 48)) + v4)), (2, fn ε v0 2)] ε_1 μ_1) m_F)) : G cd_X3_findVolumes Q X 24 [(0, (2, v0)), (1, (2, v1)), (2, (0, v2)), (3, (0, v3)), (4, (0, v4))] [] ε μ := by
  refine G_run (m_in [4, 19, 24, 51]) 10 _ _ _ _ ?_
  show m_ty [(0, (2, v0)), (1, (2, v1)), (2, (0, v2)), (3, (0, v3)), (4, (0, v4))] [] ε μ → (kd ε v1 = 1) ∧ ((μ v1 5) ≤ v4 → (m_ty [(0, (2, v0)), (1, (2, v1)), (2, (0, v2)), (3, (0, v3))] [] ε μ → ∀ v3_1 : Int, v3_1 = w32 (v3 + 1) → G cd_X3_findVolumes Q X 4 [(0, (2, v0)), (1, (2, v1)), (2, (0, v2)), (3, (0, v3_1))] [] ε μ)) ∧ (v4 < (μ v1 5) → (m_ty [(0, (2, v0)), (1, (2, v1)), (2, (0, v2)), (3, (0, v3)), (4, (0, v4))] [] ε μ → (kd ε v0 = 3) ∧ (kd ε v0 = 3) ∧ o_X3_volumeWith [(2, v0), (2, v1), (0, v4)] ε μ (fun z ε_1 μ_1 => G cd_X3_findVolumes Q X 51 [(0, (2, v0)), (1, (2, v1)), (2, (0, v2)), (3, (0, v3)), (4, (0, v4))] [(1, z), (0, w32 ((w32 (v3 * 48)) + v4)), (2, fn ε v0 2)] ε_1 μ_1) m_F))
  intro hty
  replace h := h hty.1 (hty.2.1 _ (List.mem_of_getElem? (i := 2) rfl)) (hty.2.1 _ (List.mem_of_getElem? (i := 3) rfl)) (hty.2.1 _ (List.mem_of_getElem? (i := 4) rfl))
  obtain ⟨k1, h⟩ := h
  refine And.intro k1 ?_
  obtain ⟨ha, hb⟩ := h
  refine And.intro (fun c2 => ?_) (fun c2 => ?_)
  · replace h := ha c2
    clear ha hb
    intro _
    intro v3_1 e_v3_1
    replace h := h v3_1 e_v3_1
    exact h
  · replace h := hb c2
    clear ha hb
    intro _
    obtain ⟨k2, h⟩ := h
    refine And.intro k2 ?_
    refine And.intro k2 ?_
    exact h
set_option maxRecDepth 20000 in
theorem g_X3_findVolumes_19 {Q X : m_Po} {v0 v1 v2 v3 : Int} {ε : m_E} {μ : m_M} (h : TY ε μ → i32 v2 → i32 v3 → ∀ v4 : Int, v4 = w32 (v3 + 1) → G cd_X3_findVolumes Q X 24 [(0, (2, v0)), (1, (2, v1)), (2, (0, v2)), (3, (0, v3)), (4, (0, v4))] [] ε μ) : G cd_X3_findVolumes Q X 19 [(0, (2, v0)), (1, (2, v1)), (2, (0, v2)), (3, (0, v3))] [] ε μ := by
  refine G_run (m_in [4, 19, 24, 51]) 10 _ _ _ _ ?_
  show m_ty [(0, (2, v0)), (1, (2, v1)), (2, (0, v2)), (3, (0, v3))] [] ε μ → ∀ v4 : Int, v4 = w32 (v3 + 1) → G cd_X3_findVolumes Q X 24 [(0, (2, v0)), (1, (2, v1)), (2, (0, v2)), (3, (0, v3)), (4, (0, v4))] [] ε μ
  intro hty
  replace h := h hty.1 (hty.2.1 _ (List.mem_of_getElem? (i := 2) rfl)) (hty.2.1 _ (List.mem_of_getElem? (i := 3) rfl))
  intro v4 e_v4
  replace h := h v4 e_v4
  exact h
set_option maxRecDepth 20000 in
theorem g_X3_findVolumes_4 {Q X : m_Po} {v0 v1 v2 v3 : Int} {ε : m_E} {μ : m_M} (h : TY ε μ → i32 v2 → i32 v3 → kd ε v1 = 1 ∧ ((μ v1 5) ≤ v3 → Q 0 ε μ) ∧ (v3 < (μ v1 5) → kd ε v0 = 3 ∧ o_X3_cross [(2, v0), (2, v1), (0, v2), (0, v3)] ε μ (fun z ε_1 μ_1 => G cd_X3_findVolumes Q X 19 [(0, (2, v0)), (1, (2, v1)), (2, (0, v2)), (3, (0, v3))] [] ε_1 μ_1) m_F)) : G cd_X3_findVolumes Q X 4 [(0, (2, v0)), (1, (2, v1)), (2, (0, v2)), (3, (0, v3))] [] ε μ := by
  refine G_run (m_in [4, 19, 24, 51]) 10 _ _ _ _ ?_
  show m_ty [(0, (2, v0)), (1, (2, v1)), (2, (0, v2)), (3, (0, v3))] [] ε μ → (kd ε v1 = 1) ∧ ((μ v1 5) ≤ v3 → (m_ty [] [] ε μ → Q 0 ε μ)) ∧ (v3 < (μ v1 5) → (m_ty [(0, (2, v0)), (1, (2, v1)), (2, (0, v2)), (3, (0, v3))] [] ε μ → (kd ε v0 = 3) ∧ o_X3_cross [(2, v0), (2, v1), (0, v2), (0, v3)] ε μ (fun z ε_1 μ_1 => G cd_X3_findVolumes Q X 19 [(0, (2, v0)), (1, (2, v1)), (2, (0, v2)), (3, (0, v3))] [] ε_1 μ_1) m_F))
  intro hty
  replace h := h hty.1 (hty.2.1 _ (List.mem_of_getElem? (i := 2) rfl)) (hty.2.1 _ (List.mem_of_getElem? (i := 3) rfl))
  obtain ⟨k1, h⟩ := h
  refine And.intro k1 ?_
  obtain ⟨ha, hb⟩ := h
  refine And.intro (fun c2 => ?_) (fun c2 => ?_)
  · replace h := ha c2
    clear ha hb
    intro _
    exact h
  · replace h := hb c2
    clear ha hb
    intro _
    obtain ⟨k2, h⟩ := h
    refine And.intro k2 ?_
    exact h
set_option maxRecDepth 20000 in
theorem g_X3_findVolumes_0 {Q X : m_Po} {v0 v1 v2 : Int} {ε : m_E} {μ : m_M} (h : TY ε μ → i32 v2 → ∀ v3 : Int, v3 = w32 (v2 + 1) → G cd_X3_findVolumes Q X 4 [(0, (2, v0)), (1, (2, v1)), (2, (0, v2)), (3, (0, v3))] [] ε μ) : G cd_X3_findVolumes Q X 0 [(0, (2, v0)), (1, (2, v1)), (2, (0, v2))] [] ε μ := by
  refine G_run (m_in [4, 19, 24, 51]) 10 _ _ _ _ ?_
  show m_ty [(0, (2, v0)), (1, (2, v1)), (2, (0, v2))] [] ε μ → ∀ v3 : Int, v3 = w32 (v2 + 1) → G cd_X3_findVolumes Q X 4 [(0, (2, v0)), (1, (2, v1)), (2, (0, v2)), (3, (0, v3))] [] ε μ
  intro hty
  replace h := h hty.1 (hty.2.1 _ (List.mem_of_getElem? (i := 2) rfl))
  intro v3 e_v3
  replace h := h v3 e_v3
  exact h
theorem e_X3_findVolumes {Q X : m_Po} {v0 v1 v2 : Int} {ε : m_E} {μ : m_M} (h : TY ε μ → i32 v2 → ∀ v3 : Int, v3 = w32 (v2 + 1) → G cd_X3_findVolumes Q X 4 [(0, (2, v0)), (1, (2, v1)), (2, (0, v2)), (3, (0, v3))] [] ε μ) : o_X3_findVolumes [(2, v0), (2, v1), (0, v2)] ε μ Q X := And.intro rfl (g_X3_findVolumes_0 h)
/-! ArchYard$Never.findFourth(LArchYard$Bounds;III)Z -/
set_option maxRecDepth 20000 in
theorem g_X3_findFourth_173 {Q X : m_Po} {v0 v1 v2 v3 v4 v5 v7 : Int} {ε : m_E} {μ : m_M} (h : TY ε μ → i32 v2 → i32 v3 → i32 v4 → i64 v5 → i32 v7 → ∀ v7_1 : Int, v7_1 = w32 (v7 + 1) → G cd_X3_findFourth Q X 28 [(0, (2, v0)), (1, (2, v1)), (2, (0, v2)), (3, (0, v3)), (4, (0, v4)), (5, (1, v5)), (7, (0, v7_1))] [] ε μ) : G cd_X3_findFourth Q X 173 [(0, (2, v0)), (1, (2, v1)), (2, (0, v2)), (3, (0, v3)), (4, (0, v4)), (5, (1, v5)), (7, (0, v7))] [] ε μ := by
  refine G_run (m_in [8, 28, 66, 114, 131, 134, 143, 152, 162, 168, 173]) 25 _ _ _ _ ?_
  show m_ty [(0, (2, v0)), (1, (2, v1)), (2, (0, v2)), (3, (0, v3)), (4, (0, v4)), (5, (1, v5)), (7, (0, v7))] [] ε μ → ∀ v7_1 : Int, v7_1 = w32 (v7 + 1) → G cd_X3_findFourth Q X 28 [(0, (2, v0)), (1, (2, v1)), (2, (0, v2)), (3, (0, v3)), (4, (0, v4)), (5, (1, v5)), (7, (0, v7_1))] [] ε μ
  intro hty
  replace h := h hty.1 (hty.2.1 _ (List.mem_of_getElem? (i := 2) rfl)) (hty.2.1 _ (List.mem_of_getElem? (i := 3) rfl)) (hty.2.1 _ (List.mem_of_getElem? (i := 4) rfl)) (hty.2.1 _ (List.mem_of_getElem? (i := 5) rfl)) (hty.2.1 _ (List.mem_of_getElem? (i := 6) rfl))
  intro v7_1 e_v7_1
  replace h := h v7_1 e_v7_1
  exact h
set_option maxRecDepth 20000 in
theorem g_X3_findFourth_168 {Q X : m_Po} {v0 v1 v2 v3 v4 v5 v7 t : Int} {ε : m_E} {μ : m_M} (h : TY ε μ → i32 v2 → i32 v3 → i32 v4 → i64 v5 → i32 v7 → i32 t → (t = 0 → G cd_X3_findFourth Q X 173 [(0, (2, v0)), (1, (2, v1)), (2, (0, v2)), (3, (0, v3)), (4, (0, v4)), (5, (1, v5)), (7, (0, v7))] [] ε μ) ∧ (t ≠ 0 → Q 1 ε μ)) : G cd_X3_findFourth Q X 168 [(0, (2, v0)), (1, (2, v1)), (2, (0, v2)), (3, (0, v3)), (4, (0, v4)), (5, (1, v5)), (7, (0, v7))] [(0, t)] ε μ := by
  refine G_run (m_in [8, 28, 66, 114, 131, 134, 143, 152, 162, 168, 173]) 25 _ _ _ _ ?_
  show m_ty [(0, (2, v0)), (1, (2, v1)), (2, (0, v2)), (3, (0, v3)), (4, (0, v4)), (5, (1, v5)), (7, (0, v7))] [(0, t)] ε μ → (t = 0 → G cd_X3_findFourth Q X 173 [(0, (2, v0)), (1, (2, v1)), (2, (0, v2)), (3, (0, v3)), (4, (0, v4)), (5, (1, v5)), (7, (0, v7))] [] ε μ) ∧ (t ≠ 0 → (m_ty [] [] ε μ → (1 = 0 ∨ 1 = 1) ∧ Q 1 ε μ))
  intro hty
  replace h := h hty.1 (hty.2.1 _ (List.mem_of_getElem? (i := 2) rfl)) (hty.2.1 _ (List.mem_of_getElem? (i := 3) rfl)) (hty.2.1 _ (List.mem_of_getElem? (i := 4) rfl)) (hty.2.1 _ (List.mem_of_getElem? (i := 5) rfl)) (hty.2.1 _ (List.mem_of_getElem? (i := 6) rfl)) (hty.2.2 _ (List.mem_of_getElem? (i := 0) rfl))
  obtain ⟨ha, hb⟩ := h
  refine And.intro (fun c0 => ?_) (fun c0 => ?_)
  · replace h := ha c0
    clear ha hb
    exact h
  · replace h := hb c0
    clear ha hb
    intro _
    refine And.intro (Or.inr rfl) ?_
    exact h
set_option maxRecDepth 20000 in
theorem g_X3_findFourth_162 {Q X : m_Po} {v0 v1 v2 v3 v4 v5 v7 : Int} {ε : m_E} {μ : m_M} (h : TY ε μ → i32 v2 → i32 v3 → i32 v4 → i64 v5 → i32 v7 → kd ε v0 = 3 ∧ o_X3_clash [(2, v0), (2, v1), (0, 4)] ε μ (fun z ε_1 μ_1 => G cd_X3_findFourth Q X 168 [(0, (2, v0)), (1, (2, v1)), (2, (0, v2)), (3, (0, v3)), (4, (0, v4)), (5, (1, v5)), (7, (0, v7))] [(0, z)] ε_1 μ_1) m_F) : G cd_X3_findFourth Q X 162 [(0, (2, v0)), (1, (2, v1)), (2, (0, v2)), (3, (0, v3)), (4, (0, v4)), (5, (1, v5)), (7, (0, v7))] [] ε μ := by
  refine G_run (m_in [8, 28, 66, 114, 131, 134, 143, 152, 162, 168, 173]) 25 _ _ _ _ ?_
  show m_ty [(0, (2, v0)), (1, (2, v1)), (2, (0, v2)), (3, (0, v3)), (4, (0, v4)), (5, (1, v5)), (7, (0, v7))] [] ε μ → (kd ε v0 = 3) ∧ o_X3_clash [(2, v0), (2, v1), (0, 4)] ε μ (fun z ε_1 μ_1 => G cd_X3_findFourth Q X 168 [(0, (2, v0)), (1, (2, v1)), (2, (0, v2)), (3, (0, v3)), (4, (0, v4)), (5, (1, v5)), (7, (0, v7))] [(0, z)] ε_1 μ_1) m_F
  intro hty
  replace h := h hty.1 (hty.2.1 _ (List.mem_of_getElem? (i := 2) rfl)) (hty.2.1 _ (List.mem_of_getElem? (i := 3) rfl)) (hty.2.1 _ (List.mem_of_getElem? (i := 4) rfl)) (hty.2.1 _ (List.mem_of_getElem? (i := 5) rfl)) (hty.2.1 _ (List.mem_of_getElem? (i := 6) rfl))
  obtain ⟨k1, h⟩ := h
  refine And.intro k1 ?_
  exact h
set_option maxRecDepth 20000 in
theorem g_X3_findFourth_152 {Q X : m_Po} {v0 v1 v2 v3 v4 v5 v7 : Int} {ε : m_E} {μ : m_M} (h : TY ε μ → i32 v2 → i32 v3 → i32 v4 → i64 v5 → i32 v7 → kd ε v0 = 3 ∧ o_X3_pick [(2, v0), (0, 3), (0, v7), (1, w64 (-v5))] ε μ (fun z ε_1 μ_1 => G cd_X3_findFourth Q X 162 [(0, (2, v0)), (1, (2, v1)), (2, (0, v2)), (3, (0, v3)), (4, (0, v4)), (5, (1, v5)), (7, (0, v7))] [] ε_1 μ_1) m_F) : G cd_X3_findFourth Q X 152 [(0, (2, v0)), (1, (2, v1)), (2, (0, v2)), (3, (0, v3)), (4, (0, v4)), (5, (1, v5)), (7, (0, v7))] [] ε μ := by
  refine G_run (m_in [8, 28, 66, 114, 131, 134, 143, 152, 162, 168, 173]) 25 _ _ _ _ ?_
  show m_ty [(0, (2, v0)), (1, (2, v1)), (2, (0, v2)), (3, (0, v3)), (4, (0, v4)), (5, (1, v5)), (7, (0, v7))] [] ε μ → (kd ε v0 = 3) ∧ o_X3_pick [(2, v0), (0, 3), (0, v7), (1, w64 (-v5))] ε μ (fun z ε_1 μ_1 => G cd_X3_findFourth Q X 162 [(0, (2, v0)), (1, (2, v1)), (2, (0, v2)), (3, (0, v3)), (4, (0, v4)), (5, (1, v5)), (7, (0, v7))] [] ε_1 μ_1) m_F
  intro hty
  replace h := h hty.1 (hty.2.1 _ (List.mem_of_getElem? (i := 2) rfl)) (hty.2.1 _ (List.mem_of_getElem? (i := 3) rfl)) (hty.2.1 _ (List.mem_of_getElem? (i := 4) rfl)) (hty.2.1 _ (List.mem_of_getElem? (i := 5) rfl)) (hty.2.1 _ (List.mem_of_getElem? (i := 6) rfl))
  obtain ⟨k1, h⟩ := h
  refine And.intro k1 ?_
  exact h
set_option maxRecDepth 20000 in
theorem g_X3_findFourth_143 {Q X : m_Po} {v0 v1 v2 v3 v4 v5 v7 v8 : Int} {ε : m_E} {μ : m_M} (h : TY ε μ → i32 v2 → i32 v3 → i32 v4 → i64 v5 → i32 v7 → i64 v8 → kd ε v0 = 3 ∧ o_X3_pick [(2, v0), (0, 2), (0, v4), (1, v8)] ε μ (fun z ε_1 μ_1 => G cd_X3_findFourth Q X 152 [(0, (2, v0)), (1, (2, v1)), (2, (0, v2)), (3, (0, v3)), (4, (0, v4)), (5, (1, v5)), (7, (0, v7))] [] ε_1 μ_1) m_F) : G cd_X3_findFourth Q X 143 [(0, (2, v0)), (1, (2, v1)), (2, (0, v2)), (3, (0, v3)), (4, (0, v4)), (5, (1, v5)), (7, (0, v7)), (8, (1, v8))] [] ε μ := by
  refine G_run (m_in [8, 28, 66, 114, 131, 134, 143, 152, 162, 168, 173]) 25 _ _ _ _ ?_
  show m_ty [(0, (2, v0)), (1, (2, v1)), (2, (0, v2)), (3, (0, v3)), (4, (0, v4)), (5, (1, v5)), (7, (0, v7)), (8, (1, v8))] [] ε μ → (kd ε v0 = 3) ∧ o_X3_pick [(2, v0), (0, 2), (0, v4), (1, v8)] ε μ (fun z ε_1 μ_1 => G cd_X3_findFourth Q X 152 [(0, (2, v0)), (1, (2, v1)), (2, (0, v2)), (3, (0, v3)), (4, (0, v4)), (5, (1, v5)), (7, (0, v7))] [] ε_1 μ_1) m_F
  intro hty
  replace h := h hty.1 (hty.2.1 _ (List.mem_of_getElem? (i := 2) rfl)) (hty.2.1 _ (List.mem_of_getElem? (i := 3) rfl)) (hty.2.1 _ (List.mem_of_getElem? (i := 4) rfl)) (hty.2.1 _ (List.mem_of_getElem? (i := 5) rfl)) (hty.2.1 _ (List.mem_of_getElem? (i := 6) rfl)) (hty.2.1 _ (List.mem_of_getElem? (i := 7) rfl))
  obtain ⟨k1, h⟩ := h
  refine And.intro k1 ?_
  exact h
set_option maxRecDepth 20000 in
theorem g_X3_findFourth_134 {Q X : m_Po} {v0 v1 v2 v3 v4 v5 v7 v8 v10 : Int} {ε : m_E} {μ : m_M} (h : TY ε μ → i32 v2 → i32 v3 → i32 v4 → i64 v5 → i32 v7 → i64 v8 → i64 v10 → kd ε v0 = 3 ∧ o_X3_pick [(2, v0), (0, 1), (0, v3), (1, w64 (-v10))] ε μ (fun z ε_1 μ_1 => G cd_X3_findFourth Q X 143 [(0, (2, v0)), (1, (2, v1)), (2, (0, v2)), (3, (0, v3)), (4, (0, v4)), (5, (1, v5)), (7, (0, v7)), (8, (1, v8))] [] ε_1 μ_1) m_F) : G cd_X3_findFourth Q X 134 [(0, (2, v0)), (1, (2, v1)), (2, (0, v2)), (3, (0, v3)), (4, (0, v4)), (5, (1, v5)), (7, (0, v7)), (8, (1, v8)), (10, (1, v10))] [] ε μ := by
  refine G_run (m_in [8, 28, 66, 114, 131, 134, 143, 152, 162, 168, 173]) 25 _ _ _ _ ?_
  show m_ty [(0, (2, v0)), (1, (2, v1)), (2, (0, v2)), (3, (0, v3)), (4, (0, v4)), (5, (1, v5)), (7, (0, v7)), (8, (1, v8)), (10, (1, v10))] [] ε μ → (kd ε v0 = 3) ∧ o_X3_pick [(2, v0), (0, 1), (0, v3), (1, w64 (-v10))] ε μ (fun z ε_1 μ_1 => G cd_X3_findFourth Q X 143 [(0, (2, v0)), (1, (2, v1)), (2, (0, v2)), (3, (0, v3)), (4, (0, v4)), (5, (1, v5)), (7, (0, v7)), (8, (1, v8))] [] ε_1 μ_1) m_F
  intro hty
  replace h := h hty.1 (hty.2.1 _ (List.mem_of_getElem? (i := 2) rfl)) (hty.2.1 _ (List.mem_of_getElem? (i := 3) rfl)) (hty.2.1 _ (List.mem_of_getElem? (i := 4) rfl)) (hty.2.1 _ (List.mem_of_getElem? (i := 5) rfl)) (hty.2.1 _ (List.mem_of_getElem? (i := 6) rfl)) (hty.2.1 _ (List.mem_of_getElem? (i := 7) rfl)) (hty.2.1 _ (List.mem_of_getElem? (i := 8) rfl))
  obtain ⟨k1, h⟩ := h
  refine And.intro k1 ?_
  exact h
set_option maxRecDepth 20000 in
theorem g_X3_findFourth_131 {Q X : m_Po} {v0 v1 v2 v3 v4 v5 v7 v8 v10 t t_1 t_2 t_3 : Int} {ε : m_E} {μ : m_M} (h : TY ε μ → i32 v2 → i32 v3 → i32 v4 → i64 v5 → i32 v7 → i64 v8 → i64 v10 → i32 t_1 → i32 t_2 → i64 t_3 → kd ε t = 3 ∧ o_X3_pick [(2, t), (0, t_1), (0, t_2), (1, t_3)] ε μ (fun z ε_1 μ_1 => G cd_X3_findFourth Q X 134 [(0, (2, v0)), (1, (2, v1)), (2, (0, v2)), (3, (0, v3)), (4, (0, v4)), (5, (1, v5)), (7, (0, v7)), (8, (1, v8)), (10, (1, v10))] [] ε_1 μ_1) m_F) : G cd_X3_findFourth Q X 131 [(0, (2, v0)), (1, (2, v1)), (2, (0, v2)), (3, (0, v3)), (4, (0, v4)), (5, (1, v5)), (7, (0, v7)), (8, (1, v8)), (10, (1, v10))] [(1, t_3), (0, t_2), (0, t_1), (2, t)] ε μ := by
  refine G_run (m_in [8, 28, 66, 114, 131, 134, 143, 152, 162, 168, 173]) 25 _ _ _ _ ?_
  show m_ty [(0, (2, v0)), (1, (2, v1)), (2, (0, v2)), (3, (0, v3)), (4, (0, v4)), (5, (1, v5)), (7, (0, v7)), (8, (1, v8)), (10, (1, v10))] [(1, t_3), (0, t_2), (0, t_1), (2, t)] ε μ → (kd ε t = 3) ∧ o_X3_pick [(2, t), (0, t_1), (0, t_2), (1, t_3)] ε μ (fun z ε_1 μ_1 => G cd_X3_findFourth Q X 134 [(0, (2, v0)), (1, (2, v1)), (2, (0, v2)), (3, (0, v3)), (4, (0, v4)), (5, (1, v5)), (7, (0, v7)), (8, (1, v8)), (10, (1, v10))] [] ε_1 μ_1) m_F
  intro hty
  replace h := h hty.1 (hty.2.1 _ (List.mem_of_getElem? (i := 2) rfl)) (hty.2.1 _ (List.mem_of_getElem? (i := 3) rfl)) (hty.2.1 _ (List.mem_of_getElem? (i := 4) rfl)) (hty.2.1 _ (List.mem_of_getElem? (i := 5) rfl)) (hty.2.1 _ (List.mem_of_getElem? (i := 6) rfl)) (hty.2.1 _ (List.mem_of_getElem? (i := 7) rfl)) (hty.2.1 _ (List.mem_of_getElem? (i := 8) rfl)) (hty.2.2 _ (List.mem_of_getElem? (i := 2) rfl)) (hty.2.2 _ (List.mem_of_getElem? (i := 1) rfl)) (hty.2.2 _ (List.mem_of_getElem? (i := 0) rfl))
  obtain ⟨k1, h⟩ := h
  refine And.intro k1 ?_
  exact h
set_option maxRecDepth 20000 in
theorem g_X3_findFourth_114 {Q X : m_Po} {v0 v1 v2 v3 v4 v5 v7 v8 v10 t : Int} {ε : m_E} {μ : m_M} (h : TY ε μ → i32 v2 → i32 v3 → i32 v4 → i64 v5 → i32 v7 → i64 v8 → i64 v10 → i32 t → ∀ v12 : Int, v12 = t → (v12 = 0 → G cd_X3_findFourth Q X 173 [(0, (2, v0)), (1, (2, v1)), (2, (0, v2)), (3, (0, v3)), (4, (0, v4)), (5, (1, v5)), (7, (0, v7))] [] ε μ) ∧ (v12 ≠ 0 → kd ε v0 = 3 ∧ o_X3_volumeWith [(2, v0), (2, v1), (0, v7)] ε μ (fun z ε_1 μ_1 => G cd_X3_findFourth Q X 131 [(0, (2, v0)), (1, (2, v1)), (2, (0, v2)), (3, (0, v3)), (4, (0, v4)), (5, (1, v5)), (7, (0, v7)), (8, (1, v8)), (10, (1, v10))] [(1, z), (0, v2), (0, 0), (2, v0)] ε_1 μ_1) m_F)) : G cd_X3_findFourth Q X 114 [(0, (2, v0)), (1, (2, v1)), (2, (0, v2)), (3, (0, v3)), (4, (0, v4)), (5, (1, v5)), (7, (0, v7)), (8, (1, v8)), (10, (1, v10))] [(0, t)] ε μ := by
  refine G_run (m_in [8, 28, 66, 114, 131, 134, 143, 152, 162, 168, 173]) 25 _ _ _ _ ?_
  show m_ty [(0, (2, v0)), (1, (2, v1)), (2, (0, v2)), (3, (0, v3)), (4, (0, v4)), (5, (1, v5)), (7, (0, v7)), (8, (1, v8)), (10, (1, v10))] [(0, t)] ε μ → ∀ v12 : Int, v12 = t → (v12 = 0 → G cd_X3_findFourth Q X 173 [(0, (2, v0)), (1, (2, v1)), (2, (0, v2)), (3, (0, v3)), (4, (0, v4)), (5, (1, v5)), (7, (0, v7))] [] ε μ) ∧ (v12 ≠ 0 → (m_ty [(0, (2, v0)), (1, (2, v1)), (2, (0, v2)), (3, (0, v3)), (4, (0, v4)), (5, (1, v5)), (7, (0, v7)), (8, (1, v8)), (10, (1, v10))] [] ε μ → (kd ε v0 = 3) ∧ o_X3_volumeWith [(2, v0), (2, v1), (0, v7)] ε μ (fun z ε_1 μ_1 => G cd_X3_findFourth Q X 131 [(0, (2, v0)), (1, (2, v1)), (2, (0, v2)), (3, (0, v3)), (4, (0, v4)), (5, (1, v5)), (7, (0, v7)), (8, (1, v8)), (10, (1, v10))] [(1, z), (0, v2), (0, 0), (2, v0)] ε_1 μ_1) m_F))
  intro hty
  replace h := h hty.1 (hty.2.1 _ (List.mem_of_getElem? (i := 2) rfl)) (hty.2.1 _ (List.mem_of_getElem? (i := 3) rfl)) (hty.2.1 _ (List.mem_of_getElem? (i := 4) rfl)) (hty.2.1 _ (List.mem_of_getElem? (i := 5) rfl)) (hty.2.1 _ (List.mem_of_getElem? (i := 6) rfl)) (hty.2.1 _ (List.mem_of_getElem? (i := 7) rfl)) (hty.2.1 _ (List.mem_of_getElem? (i := 8) rfl)) (hty.2.2 _ (List.mem_of_getElem? (i := 0) rfl))
  intro v12 e_v12
  replace h := h v12 e_v12
  obtain ⟨ha, hb⟩ := h
  refine And.intro (fun c1 => ?_) (fun c1 => ?_)
  · replace h := ha c1
    clear ha hb
    exact h
  · replace h := hb c1
    clear ha hb
    intro _
    obtain ⟨k1, h⟩ := h
    refine And.intro k1 ?_
    exact h
set_option maxRecDepth 20000 in
theorem g_X3_findFourth_66 {Q X : m_Po} {v0 v1 v2 v3 v4 v5 v7 v8 v10 : Int} {ε : m_E} {μ : m_M} (h : TY ε μ → i32 v2 → i32 v3 → i32 v4 → i64 v5 → i32 v7 → i64 v8 → i64 v10 → ∀ t : Int, t = (if v5 ≤ (0 : Int) then if v8 ≤ (0 : Int) then 0 else if (0 : Int) ≤ v10 then 0 else 1 else if (0 : Int) ≤ v8 then 0 else if v10 ≤ (0 : Int) then 0 else 1) → ∀ v12 : Int, v12 = t → (v12 = 0 → G cd_X3_findFourth Q X 173 [(0, (2, v0)), (1, (2, v1)), (2, (0, v2)), (3, (0, v3)), (4, (0, v4)), (5, (1, v5)), (7, (0, v7))] [] ε μ) ∧ (v12 ≠ 0 → kd ε v0 = 3 ∧ o_X3_volumeWith [(2, v0), (2, v1), (0, v7)] ε μ (fun z ε_1 μ_1 => G cd_X3_findFourth Q X 131 [(0, (2, v0)), (1, (2, v1)), (2, (0, v2)), (3, (0, v3)), (4, (0, v4)), (5, (1, v5)), (7, (0, v7)), (8, (1, v8)), (10, (1, v10))] [(1, z), (0, v2), (0, 0), (2, v0)] ε_1 μ_1) m_F)) : G cd_X3_findFourth Q X 66 [(0, (2, v0)), (1, (2, v1)), (2, (0, v2)), (3, (0, v3)), (4, (0, v4)), (5, (1, v5)), (7, (0, v7)), (8, (1, v8)), (10, (1, v10))] [] ε μ := by
  refine G_run (m_in [8, 28, 66, 114, 131, 134, 143, 152, 162, 168, 173]) 25 _ _ _ _ ?_
  show m_ty [(0, (2, v0)), (1, (2, v1)), (2, (0, v2)), (3, (0, v3)), (4, (0, v4)), (5, (1, v5)), (7, (0, v7)), (8, (1, v8)), (10, (1, v10))] [] ε μ → (v5 ≤ (0 : Int) → (m_ty [(0, (2, v0)), (1, (2, v1)), (2, (0, v2)), (3, (0, v3)), (4, (0, v4)), (5, (1, v5)), (7, (0, v7)), (8, (1, v8)), (10, (1, v10))] [] ε μ → (v8 ≤ (0 : Int) → (m_ty [(0, (2, v0)), (1, (2, v1)), (2, (0, v2)), (3, (0, v3)), (4, (0, v4)), (5, (1, v5)), (7, (0, v7)), (8, (1, v8)), (10, (1, v10))] [] ε μ → G cd_X3_findFourth Q X 114 [(0, (2, v0)), (1, (2, v1)), (2, (0, v2)), (3, (0, v3)), (4, (0, v4)), (5, (1, v5)), (7, (0, v7)), (8, (1, v8)), (10, (1, v10))] [(0, 0)] ε μ)) ∧ ((0 : Int) < v8 → (m_ty [(0, (2, v0)), (1, (2, v1)), (2, (0, v2)), (3, (0, v3)), (4, (0, v4)), (5, (1, v5)), (7, (0, v7)), (8, (1, v8)), (10, (1, v10))] [] ε μ → ((0 : Int) ≤ v10 → (m_ty [(0, (2, v0)), (1, (2, v1)), (2, (0, v2)), (3, (0, v3)), (4, (0, v4)), (5, (1, v5)), (7, (0, v7)), (8, (1, v8)), (10, (1, v10))] [] ε μ → G cd_X3_findFourth Q X 114 [(0, (2, v0)), (1, (2, v1)), (2, (0, v2)), (3, (0, v3)), (4, (0, v4)), (5, (1, v5)), (7, (0, v7)), (8, (1, v8)), (10, (1, v10))] [(0, 0)] ε μ)) ∧ (v10 < (0 : Int) → (m_ty [(0, (2, v0)), (1, (2, v1)), (2, (0, v2)), (3, (0, v3)), (4, (0, v4)), (5, (1, v5)), (7, (0, v7)), (8, (1, v8)), (10, (1, v10))] [] ε μ → G cd_X3_findFourth Q X 114 [(0, (2, v0)), (1, (2, v1)), (2, (0, v2)), (3, (0, v3)), (4, (0, v4)), (5, (1, v5)), (7, (0, v7)), (8, (1, v8)), (10, (1, v10))] [(0, 1)] ε μ)))))) ∧ ((0 : Int) < v5 → (m_ty [(0, (2, v0)), (1, (2, v1)), (2, (0, v2)), (3, (0, v3)), (4, (0, v4)), (5, (1, v5)), (7, (0, v7)), (8, (1, v8)), (10, (1, v10))] [] ε μ → ((0 : Int) ≤ v8 → (m_ty [(0, (2, v0)), (1, (2, v1)), (2, (0, v2)), (3, (0, v3)), (4, (0, v4)), (5, (1, v5)), (7, (0, v7)), (8, (1, v8)), (10, (1, v10))] [] ε μ → G cd_X3_findFourth Q X 114 [(0, (2, v0)), (1, (2, v1)), (2, (0, v2)), (3, (0, v3)), (4, (0, v4)), (5, (1, v5)), (7, (0, v7)), (8, (1, v8)), (10, (1, v10))] [(0, 0)] ε μ)) ∧ (v8 < (0 : Int) → (m_ty [(0, (2, v0)), (1, (2, v1)), (2, (0, v2)), (3, (0, v3)), (4, (0, v4)), (5, (1, v5)), (7, (0, v7)), (8, (1, v8)), (10, (1, v10))] [] ε μ → (v10 ≤ (0 : Int) → (m_ty [(0, (2, v0)), (1, (2, v1)), (2, (0, v2)), (3, (0, v3)), (4, (0, v4)), (5, (1, v5)), (7, (0, v7)), (8, (1, v8)), (10, (1, v10))] [] ε μ → G cd_X3_findFourth Q X 114 [(0, (2, v0)), (1, (2, v1)), (2, (0, v2)), (3, (0, v3)), (4, (0, v4)), (5, (1, v5)), (7, (0, v7)), (8, (1, v8)), (10, (1, v10))] [(0, 0)] ε μ)) ∧ ((0 : Int) < v10 → (m_ty [(0, (2, v0)), (1, (2, v1)), (2, (0, v2)), (3, (0, v3)), (4, (0, v4)), (5, (1, v5)), (7, (0, v7)), (8, (1, v8)), (10, (1, v10))] [] ε μ → G cd_X3_findFourth Q X 114 [(0, (2, v0)), (1, (2, v1)), (2, (0, v2)), (3, (0, v3)), (4, (0, v4)), (5, (1, v5)), (7, (0, v7)), (8, (1, v8)), (10, (1, v10))] [(0, 1)] ε μ))))))
  intro hty
  replace h := h hty.1 (hty.2.1 _ (List.mem_of_getElem? (i := 2) rfl)) (hty.2.1 _ (List.mem_of_getElem? (i := 3) rfl)) (hty.2.1 _ (List.mem_of_getElem? (i := 4) rfl)) (hty.2.1 _ (List.mem_of_getElem? (i := 5) rfl)) (hty.2.1 _ (List.mem_of_getElem? (i := 6) rfl)) (hty.2.1 _ (List.mem_of_getElem? (i := 7) rfl)) (hty.2.1 _ (List.mem_of_getElem? (i := 8) rfl))
  have hj := h
  refine And.intro (fun c0 => ?_) (fun c0 => ?_)
  · intro _
    refine And.intro (fun c1 => ?_) (fun c1 => ?_)
    · intro _
      exact g_X3_findFourth_114 (fun _ _ _ _ _ _ _ _ _ => (hj _ (((if_pos c0).trans ((if_pos c1).trans rfl))).symm))
    · intro _
      refine And.intro (fun c2 => ?_) (fun c2 => ?_)
      · intro _
        exact g_X3_findFourth_114 (fun _ _ _ _ _ _ _ _ _ => (hj _ (((if_pos c0).trans ((if_neg (Int.not_le.mpr c1)).trans ((if_pos c2).trans rfl)))).symm))
      · intro _
        exact g_X3_findFourth_114 (fun _ _ _ _ _ _ _ _ _ => (hj _ (((if_pos c0).trans ((if_neg (Int.not_le.mpr c1)).trans ((if_neg (Int.not_le.mpr c2)).trans rfl)))).symm))
  · intro _
    refine And.intro (fun c3 => ?_) (fun c3 => ?_)
    · intro _
      exact g_X3_findFourth_114 (fun _ _ _ _ _ _ _ _ _ => (hj _ (((if_neg (Int.not_le.mpr c0)).trans ((if_pos c3).trans rfl))).symm))
    · intro _
      refine And.intro (fun c4 => ?_) (fun c4 => ?_)
      · intro _
        exact g_X3_findFourth_114 (fun _ _ _ _ _ _ _ _ _ => (hj _ (((if_neg (Int.not_le.mpr c0)).trans ((if_neg (Int.not_le.mpr c3)).trans ((if_pos c4).trans rfl)))).symm))
      · intro _
        exact g_X3_findFourth_114 (fun _ _ _ _ _ _ _ _ _ => (hj _ (((if_neg (Int.not_le.mpr c0)).trans ((if_neg (Int.not_le.mpr c3)).trans ((if_neg (Int.not_le.mpr c4)).trans rfl)))).symm))
set_option maxRecDepth 20000 in
theorem g_X3_findFourth_28 {Q X : m_Po} {v0 v1 v2 v3 v4 v5 v7 : Int} {ε : m_E} {μ : m_M} (h : TY ε μ → i32 v2 → i32 v3 → i32 v4 → i64 v5 → i32 v7 → kd ε v1 = 1 ∧ ((μ v1 5) ≤ v7 → Q 0 ε μ) ∧ (v7 < (μ v1 5) → kd ε v0 = 3 ∧ kd ε (fn ε v0 2) = 101 ∧ (0 : Int) ≤ w32 ((w32 (v3 * 48)) + v7) ∧ w32 ((w32 (v3 * 48)) + v7) < ln ε (fn ε v0 2) ∧ ∀ v8 : Int, v8 = μ (fn ε v0 2) (w32 ((w32 (v3 * 48)) + v7)) → (0 : Int) ≤ w32 ((w32 (v4 * 48)) + v7) ∧ w32 ((w32 (v4 * 48)) + v7) < ln ε (fn ε v0 2) ∧ ∀ v10 : Int, v10 = μ (fn ε v0 2) (w32 ((w32 (v4 * 48)) + v7)) → ∀ t : Int, t = (if v5 ≤ (0 : Int) then if v8 ≤ (0 : Int) then 0 else if (0 : Int) ≤ v10 then 0 else 1 else if (0 : Int) ≤ v8 then 0 else if v10 ≤ (0 : Int) then 0 else 1) → ∀ v12 : Int, v12 = t → (v12 = 0 → G cd_X3_findFourth Q X 173 [(0, (2, v0)), (1, (2, v1)), (2, (0, v2)), (3, (0, v3)), (4, (0, v4)), (5, (1, v5)), (7, (0, v7))] [] ε μ) ∧ (v12 ≠ 0 → kd ε v0 = 3 ∧ o_X3_volumeWith [(2, v0), (2, v1), (0, v7)] ε μ (fun z ε_1 μ_1 => G cd_X3_findFourth Q X 131 [(0, (2, v0)), (1, (2, v1)), (2, (0, v2)), (3, (0, v3)), (4, (0, v4)), (5, (1, v5)), (7, (0, v7)), (8, (1, v8)), (10, (1, v10))] [(1, z), (0, v2), (0, 0), (2, v0)] ε_1 μ_1) m_F))) : G cd_X3_findFourth Q X 28 [(0, (2, v0)), (1, (2, v1)), (2, (0, v2)), (3, (0, v3)), (4, (0, v4)), (5, (1, v5)), (7, (0, v7))] [] ε μ := by
  refine G_run (m_in [8, 28, 66, 114, 131, 134, 143, 152, 162, 168, 173]) 25 _ _ _ _ ?_
  show m_ty [(0, (2, v0)), (1, (2, v1)), (2, (0, v2)), (3, (0, v3)), (4, (0, v4)), (5, (1, v5)), (7, (0, v7))] [] ε μ → (kd ε v1 = 1) ∧ ((μ v1 5) ≤ v7 → (m_ty [] [] ε μ → (0 = 0 ∨ 0 = 1) ∧ Q 0 ε μ)) ∧ (v7 < (μ v1 5) → (m_ty [(0, (2, v0)), (1, (2, v1)), (2, (0, v2)), (3, (0, v3)), (4, (0, v4)), (5, (1, v5)), (7, (0, v7))] [] ε μ → (kd ε v0 = 3) ∧ (kd ε (fn ε v0 2) = 101) ∧ ((0 : Int) ≤ w32 ((w32 (v3 * 48)) + v7) ∧ w32 ((w32 (v3 * 48)) + v7) < ln ε (fn ε v0 2)) ∧ ∀ v8 : Int, v8 = μ (fn ε v0 2) (w32 ((w32 (v3 * 48)) + v7)) → (kd ε v0 = 3) ∧ (kd ε (fn ε v0 2) = 101) ∧ ((0 : Int) ≤ w32 ((w32 (v4 * 48)) + v7) ∧ w32 ((w32 (v4 * 48)) + v7) < ln ε (fn ε v0 2)) ∧ ∀ v10 : Int, v10 = μ (fn ε v0 2) (w32 ((w32 (v4 * 48)) + v7)) → G cd_X3_findFourth Q X 66 [(0, (2, v0)), (1, (2, v1)), (2, (0, v2)), (3, (0, v3)), (4, (0, v4)), (5, (1, v5)), (7, (0, v7)), (8, (1, v8)), (10, (1, v10))] [] ε μ))
  intro hty
  replace h := h hty.1 (hty.2.1 _ (List.mem_of_getElem? (i := 2) rfl)) (hty.2.1 _ (List.mem_of_getElem? (i := 3) rfl)) (hty.2.1 _ (List.mem_of_getElem? (i := 4) rfl)) (hty.2.1 _ (List.mem_of_getElem? (i := 5) rfl)) (hty.2.1 _ (List.mem_of_getElem? (i := 6) rfl))
  obtain ⟨k1, h⟩ := h
  refine And.intro k1 ?_
  obtain ⟨ha, hb⟩ := h
  refine And.intro (fun c14 => ?_) (fun c14 => ?_)
  · replace h := ha c14
    clear ha hb
    intro _
    refine And.intro (Or.inl rfl) ?_
    exact h
  · replace h := hb c14
    clear ha hb
    intro _
    obtain ⟨k2, h⟩ := h
    refine And.intro k2 ?_
    obtain ⟨k3, h⟩ := h
    refine And.intro k3 ?_
    obtain ⟨k4, h⟩ := h
    obtain ⟨k5, h⟩ := h
    refine And.intro (And.intro k4 k5) ?_
    intro v8 e_v8
    replace h := h v8 e_v8
    refine And.intro k2 ?_
    refine And.intro k3 ?_
    obtain ⟨k6, h⟩ := h
    obtain ⟨k7, h⟩ := h
    refine And.intro (And.intro k6 k7) ?_
    intro v10 e_v10
    replace h := h v10 e_v10
    exact g_X3_findFourth_66 (fun _ _ _ _ _ _ _ _ => h)
set_option maxRecDepth 20000 in
theorem g_X3_findFourth_8 {Q X : m_Po} {v0 v1 v2 v3 v4 : Int} {ε : m_E} {μ : m_M} (h : TY ε μ → i32 v2 → i32 v3 → i32 v4 → kd ε v0 = 3 ∧ kd ε (fn ε v0 2) = 101 ∧ (0 : Int) ≤ w32 ((w32 (v3 * 48)) + v4) ∧ w32 ((w32 (v3 * 48)) + v4) < ln ε (fn ε v0 2) ∧ ∀ v5 : Int, v5 = μ (fn ε v0 2) (w32 ((w32 (v3 * 48)) + v4)) → ∀ v7 : Int, v7 = w32 (v4 + 1) → G cd_X3_findFourth Q X 28 [(0, (2, v0)), (1, (2, v1)), (2, (0, v2)), (3, (0, v3)), (4, (0, v4)), (5, (1, v5)), (7, (0, v7))] [] ε μ) : G cd_X3_findFourth Q X 8 [(0, (2, v0)), (1, (2, v1)), (2, (0, v2)), (3, (0, v3)), (4, (0, v4))] [] ε μ := by
  refine G_run (m_in [8, 28, 66, 114, 131, 134, 143, 152, 162, 168, 173]) 25 _ _ _ _ ?_
  show m_ty [(0, (2, v0)), (1, (2, v1)), (2, (0, v2)), (3, (0, v3)), (4, (0, v4))] [] ε μ → (kd ε v0 = 3) ∧ (kd ε (fn ε v0 2) = 101) ∧ ((0 : Int) ≤ w32 ((w32 (v3 * 48)) + v4) ∧ w32 ((w32 (v3 * 48)) + v4) < ln ε (fn ε v0 2)) ∧ ∀ v5 : Int, v5 = μ (fn ε v0 2) (w32 ((w32 (v3 * 48)) + v4)) → ∀ v7 : Int, v7 = w32 (v4 + 1) → G cd_X3_findFourth Q X 28 [(0, (2, v0)), (1, (2, v1)), (2, (0, v2)), (3, (0, v3)), (4, (0, v4)), (5, (1, v5)), (7, (0, v7))] [] ε μ
  intro hty
  replace h := h hty.1 (hty.2.1 _ (List.mem_of_getElem? (i := 2) rfl)) (hty.2.1 _ (List.mem_of_getElem? (i := 3) rfl)) (hty.2.1 _ (List.mem_of_getElem? (i := 4) rfl))
  obtain ⟨k1, h⟩ := h
  refine And.intro k1 ?_
  obtain ⟨k2, h⟩ := h
  refine And.intro k2 ?_
  obtain ⟨k3, h⟩ := h
  obtain ⟨k4, h⟩ := h
  refine And.intro (And.intro k3 k4) ?_
  intro v5 e_v5
  replace h := h v5 e_v5
  intro v7 e_v7
  replace h := h v7 e_v7
  exact h
set_option maxRecDepth 20000 in
theorem g_X3_findFourth_0 {Q X : m_Po} {v0 v1 v2 v3 v4 : Int} {ε : m_E} {μ : m_M} (h : TY ε μ → i32 v2 → i32 v3 → i32 v4 → kd ε v0 = 3 ∧ o_X3_cross [(2, v0), (2, v1), (0, v3), (0, v4)] ε μ (fun z ε_1 μ_1 => G cd_X3_findFourth Q X 8 [(0, (2, v0)), (1, (2, v1)), (2, (0, v2)), (3, (0, v3)), (4, (0, v4))] [] ε_1 μ_1) m_F) : G cd_X3_findFourth Q X 0 [(0, (2, v0)), (1, (2, v1)), (2, (0, v2)), (3, (0, v3)), (4, (0, v4))] [] ε μ := by
  refine G_run (m_in [8, 28, 66, 114, 131, 134, 143, 152, 162, 168, 173]) 25 _ _ _ _ ?_
  show m_ty [(0, (2, v0)), (1, (2, v1)), (2, (0, v2)), (3, (0, v3)), (4, (0, v4))] [] ε μ → (kd ε v0 = 3) ∧ o_X3_cross [(2, v0), (2, v1), (0, v3), (0, v4)] ε μ (fun z ε_1 μ_1 => G cd_X3_findFourth Q X 8 [(0, (2, v0)), (1, (2, v1)), (2, (0, v2)), (3, (0, v3)), (4, (0, v4))] [] ε_1 μ_1) m_F
  intro hty
  replace h := h hty.1 (hty.2.1 _ (List.mem_of_getElem? (i := 2) rfl)) (hty.2.1 _ (List.mem_of_getElem? (i := 3) rfl)) (hty.2.1 _ (List.mem_of_getElem? (i := 4) rfl))
  obtain ⟨k1, h⟩ := h
  refine And.intro k1 ?_
  exact h
theorem e_X3_findFourth {Q X : m_Po} {v0 v1 v2 v3 v4 : Int} {ε : m_E} {μ : m_M} (h : TY ε μ → i32 v2 → i32 v3 → i32 v4 → kd ε v0 = 3 ∧ o_X3_cross [(2, v0), (2, v1), (0, v3), (0, v4)] ε μ (fun z ε_1 μ_1 => G cd_X3_findFourth Q X 8 [(0, (2, v0)), (1, (2, v1)), (2, (0, v2)), (3, (0, v3)), (4, (0, v4))] [] ε_1 μ_1) m_F) : o_X3_findFourth [(2, v0), (2, v1), (0, v2), (0, v3), (0, v4)] ε μ Q X := And.intro rfl (g_X3_findFourth_0 h)
/-! ArchYard$Never.findFour(LArchYard$Bounds;)Z -/
set_option maxRecDepth 20000 in
theorem g_X3_findFour_73 {Q X : m_Po} {v0 v1 v2 v3 v4 : Int} {ε : m_E} {μ : m_M} (h : TY ε μ → i32 v2 → i32 v3 → i32 v4 → ∀ v4_1 : Int, v4_1 = w32 (v4 + 1) → G cd_X3_findFour Q X 33 [(0, (2, v0)), (1, (2, v1)), (2, (0, v2)), (3, (0, v3)), (4, (0, v4_1))] [] ε μ) : G cd_X3_findFour Q X 73 [(0, (2, v0)), (1, (2, v1)), (2, (0, v2)), (3, (0, v3)), (4, (0, v4))] [] ε μ := by
  refine G_run (m_in [2, 16, 20, 33, 68, 73]) 16 _ _ _ _ ?_
  show m_ty [(0, (2, v0)), (1, (2, v1)), (2, (0, v2)), (3, (0, v3)), (4, (0, v4))] [] ε μ → ∀ v4_1 : Int, v4_1 = w32 (v4 + 1) → G cd_X3_findFour Q X 33 [(0, (2, v0)), (1, (2, v1)), (2, (0, v2)), (3, (0, v3)), (4, (0, v4_1))] [] ε μ
  intro hty
  replace h := h hty.1 (hty.2.1 _ (List.mem_of_getElem? (i := 2) rfl)) (hty.2.1 _ (List.mem_of_getElem? (i := 3) rfl)) (hty.2.1 _ (List.mem_of_getElem? (i := 4) rfl))
  intro v4_1 e_v4_1
  replace h := h v4_1 e_v4_1
  exact h
set_option maxRecDepth 20000 in
theorem g_X3_findFour_68 {Q X : m_Po} {v0 v1 v2 v3 v4 t : Int} {ε : m_E} {μ : m_M} (h : TY ε μ → i32 v2 → i32 v3 → i32 v4 → i32 t → (t = 0 → G cd_X3_findFour Q X 73 [(0, (2, v0)), (1, (2, v1)), (2, (0, v2)), (3, (0, v3)), (4, (0, v4))] [] ε μ) ∧ (t ≠ 0 → Q 1 ε μ)) : G cd_X3_findFour Q X 68 [(0, (2, v0)), (1, (2, v1)), (2, (0, v2)), (3, (0, v3)), (4, (0, v4))] [(0, t)] ε μ := by
  refine G_run (m_in [2, 16, 20, 33, 68, 73]) 16 _ _ _ _ ?_
  show m_ty [(0, (2, v0)), (1, (2, v1)), (2, (0, v2)), (3, (0, v3)), (4, (0, v4))] [(0, t)] ε μ → (t = 0 → G cd_X3_findFour Q X 73 [(0, (2, v0)), (1, (2, v1)), (2, (0, v2)), (3, (0, v3)), (4, (0, v4))] [] ε μ) ∧ (t ≠ 0 → (m_ty [] [] ε μ → (1 = 0 ∨ 1 = 1) ∧ Q 1 ε μ))
  intro hty
  replace h := h hty.1 (hty.2.1 _ (List.mem_of_getElem? (i := 2) rfl)) (hty.2.1 _ (List.mem_of_getElem? (i := 3) rfl)) (hty.2.1 _ (List.mem_of_getElem? (i := 4) rfl)) (hty.2.2 _ (List.mem_of_getElem? (i := 0) rfl))
  obtain ⟨ha, hb⟩ := h
  refine And.intro (fun c0 => ?_) (fun c0 => ?_)
  · replace h := ha c0
    clear ha hb
    exact h
  · replace h := hb c0
    clear ha hb
    intro _
    refine And.intro (Or.inr rfl) ?_
    exact h
set_option maxRecDepth 20000 in
theorem g_X3_findFour_33 {Q X : m_Po} {v0 v1 v2 v3 v4 : Int} {ε : m_E} {μ : m_M} (h : TY ε μ → i32 v2 → i32 v3 → i32 v4 → kd ε v1 = 1 ∧ ((μ v1 5) ≤ v4 → ∀ v3_1 : Int, v3_1 = w32 (v3 + 1) → G cd_X3_findFour Q X 20 [(0, (2, v0)), (1, (2, v1)), (2, (0, v2)), (3, (0, v3_1))] [] ε μ) ∧ (v4 < (μ v1 5) → kd ε v0 = 3 ∧ kd ε (fn ε v0 2) = 101 ∧ (0 : Int) ≤ w32 ((w32 (v3 * 48)) + v4) ∧ w32 ((w32 (v3 * 48)) + v4) < ln ε (fn ε v0 2) ∧ ((μ (fn ε v0 2) (w32 ((w32 (v3 * 48)) + v4))) = (0 : Int) → G cd_X3_findFour Q X 73 [(0, (2, v0)), (1, (2, v1)), (2, (0, v2)), (3, (0, v3)), (4, (0, v4))] [] ε μ) ∧ ((μ (fn ε v0 2) (w32 ((w32 (v3 * 48)) + v4))) ≠ (0 : Int) → o_X3_findFourth [(2, v0), (2, v1), (0, v2), (0, v3), (0, v4)] ε μ (fun z ε_1 μ_1 => G cd_X3_findFour Q X 68 [(0, (2, v0)), (1, (2, v1)), (2, (0, v2)), (3, (0, v3)), (4, (0, v4))] [(0, z)] ε_1 μ_1) m_F))) : G cd_X3_findFour Q X 33 [(0, (2, v0)), (1, (2, v1)), (2, (0, v2)), (3, (0, v3)), (4, (0, v4))] [] ε μ := by
  refine G_run (m_in [2, 16, 20, 33, 68, 73]) 16 _ _ _ _ ?_
  show m_ty [(0, (2, v0)), (1, (2, v1)), (2, (0, v2)), (3, (0, v3)), (4, (0, v4))] [] ε μ → (kd ε v1 = 1) ∧ ((μ v1 5) ≤ v4 → (m_ty [(0, (2, v0)), (1, (2, v1)), (2, (0, v2)), (3, (0, v3))] [] ε μ → ∀ v3_1 : Int, v3_1 = w32 (v3 + 1) → G cd_X3_findFour Q X 20 [(0, (2, v0)), (1, (2, v1)), (2, (0, v2)), (3, (0, v3_1))] [] ε μ)) ∧ (v4 < (μ v1 5) → (m_ty [(0, (2, v0)), (1, (2, v1)), (2, (0, v2)), (3, (0, v3)), (4, (0, v4))] [] ε μ → (kd ε v0 = 3) ∧ (kd ε (fn ε v0 2) = 101) ∧ ((0 : Int) ≤ w32 ((w32 (v3 * 48)) + v4) ∧ w32 ((w32 (v3 * 48)) + v4) < ln ε (fn ε v0 2)) ∧ ((μ (fn ε v0 2) (w32 ((w32 (v3 * 48)) + v4))) = (0 : Int) → G cd_X3_findFour Q X 73 [(0, (2, v0)), (1, (2, v1)), (2, (0, v2)), (3, (0, v3)), (4, (0, v4))] [] ε μ) ∧ ((μ (fn ε v0 2) (w32 ((w32 (v3 * 48)) + v4))) ≠ (0 : Int) → (m_ty [(0, (2, v0)), (1, (2, v1)), (2, (0, v2)), (3, (0, v3)), (4, (0, v4))] [] ε μ → (kd ε v0 = 3) ∧ o_X3_findFourth [(2, v0), (2, v1), (0, v2), (0, v3), (0, v4)] ε μ (fun z ε_1 μ_1 => G cd_X3_findFour Q X 68 [(0, (2, v0)), (1, (2, v1)), (2, (0, v2)), (3, (0, v3)), (4, (0, v4))] [(0, z)] ε_1 μ_1) m_F))))
  intro hty
  replace h := h hty.1 (hty.2.1 _ (List.mem_of_getElem? (i := 2) rfl)) (hty.2.1 _ (List.mem_of_getElem? (i := 3) rfl)) (hty.2.1 _ (List.mem_of_getElem? (i := 4) rfl))
  obtain ⟨k1, h⟩ := h
  refine And.intro k1 ?_
  obtain ⟨ha, hb⟩ := h
  refine And.intro (fun c6 => ?_) (fun c6 => ?_)
  · replace h := ha c6
    clear ha hb
    intro _
    intro v3_1 e_v3_1
    replace h := h v3_1 e_v3_1
    exact h
  · replace h := hb c6
    clear ha hb
    intro _
    obtain ⟨k2, h⟩ := h
    refine And.intro k2 ?_
    obtain ⟨k3, h⟩ := h
    refine And.intro k3 ?_
    obtain ⟨k4, h⟩ := h
    obtain ⟨k5, h⟩ := h
    refine And.intro (And.intro k4 k5) ?_
    obtain ⟨ha, hb⟩ := h
    refine And.intro (fun c5 => ?_) (fun c5 => ?_)
    · replace h := ha c5
      clear ha hb
      exact h
    · replace h := hb c5
      clear ha hb
      intro _
      refine And.intro k2 ?_
      exact h
set_option maxRecDepth 20000 in
theorem g_X3_findFour_20 {Q X : m_Po} {v0 v1 v2 v3 : Int} {ε : m_E} {μ : m_M} (h : TY ε μ → i32 v2 → i32 v3 → kd ε v1 = 1 ∧ ((μ v1 5) ≤ v3 → ∀ v2_1 : Int, v2_1 = w32 (v2 + 1) → G cd_X3_findFour Q X 2 [(0, (2, v0)), (1, (2, v1)), (2, (0, v2_1))] [] ε μ) ∧ (v3 < (μ v1 5) → ∀ v4 : Int, v4 = w32 (v3 + 1) → G cd_X3_findFour Q X 33 [(0, (2, v0)), (1, (2, v1)), (2, (0, v2)), (3, (0, v3)), (4, (0, v4))] [] ε μ)) : G cd_X3_findFour Q X 20 [(0, (2, v0)), (1, (2, v1)), (2, (0, v2)), (3, (0, v3))] [] ε μ := by
  refine G_run (m_in [2, 16, 20, 33, 68, 73]) 16 _ _ _ _ ?_
  show m_ty [(0, (2, v0)), (1, (2, v1)), (2, (0, v2)), (3, (0, v3))] [] ε μ → (kd ε v1 = 1) ∧ ((μ v1 5) ≤ v3 → (m_ty [(0, (2, v0)), (1, (2, v1)), (2, (0, v2))] [] ε μ → ∀ v2_1 : Int, v2_1 = w32 (v2 + 1) → G cd_X3_findFour Q X 2 [(0, (2, v0)), (1, (2, v1)), (2, (0, v2_1))] [] ε μ)) ∧ (v3 < (μ v1 5) → (m_ty [(0, (2, v0)), (1, (2, v1)), (2, (0, v2)), (3, (0, v3))] [] ε μ → ∀ v4 : Int, v4 = w32 (v3 + 1) → G cd_X3_findFour Q X 33 [(0, (2, v0)), (1, (2, v1)), (2, (0, v2)), (3, (0, v3)), (4, (0, v4))] [] ε μ))
  intro hty
  replace h := h hty.1 (hty.2.1 _ (List.mem_of_getElem? (i := 2) rfl)) (hty.2.1 _ (List.mem_of_getElem? (i := 3) rfl))
  obtain ⟨k1, h⟩ := h
  refine And.intro k1 ?_
  obtain ⟨ha, hb⟩ := h
  refine And.intro (fun c1 => ?_) (fun c1 => ?_)
  · replace h := ha c1
    clear ha hb
    intro _
    intro v2_1 e_v2_1
    replace h := h v2_1 e_v2_1
    exact h
  · replace h := hb c1
    clear ha hb
    intro _
    intro v4 e_v4
    replace h := h v4 e_v4
    exact h
set_option maxRecDepth 20000 in
theorem g_X3_findFour_16 {Q X : m_Po} {v0 v1 v2 : Int} {ε : m_E} {μ : m_M} (h : TY ε μ → i32 v2 → ∀ v3 : Int, v3 = w32 (v2 + 1) → G cd_X3_findFour Q X 20 [(0, (2, v0)), (1, (2, v1)), (2, (0, v2)), (3, (0, v3))] [] ε μ) : G cd_X3_findFour Q X 16 [(0, (2, v0)), (1, (2, v1)), (2, (0, v2))] [] ε μ := by
  refine G_run (m_in [2, 16, 20, 33, 68, 73]) 16 _ _ _ _ ?_
  show m_ty [(0, (2, v0)), (1, (2, v1)), (2, (0, v2))] [] ε μ → ∀ v3 : Int, v3 = w32 (v2 + 1) → G cd_X3_findFour Q X 20 [(0, (2, v0)), (1, (2, v1)), (2, (0, v2)), (3, (0, v3))] [] ε μ
  intro hty
  replace h := h hty.1 (hty.2.1 _ (List.mem_of_getElem? (i := 2) rfl))
  intro v3 e_v3
  replace h := h v3 e_v3
  exact h
set_option maxRecDepth 20000 in
theorem g_X3_findFour_2 {Q X : m_Po} {v0 v1 v2 : Int} {ε : m_E} {μ : m_M} (h : TY ε μ → i32 v2 → kd ε v1 = 1 ∧ ((μ v1 5) ≤ v2 → Q 0 ε μ) ∧ (v2 < (μ v1 5) → kd ε v0 = 3 ∧ o_X3_findVolumes [(2, v0), (2, v1), (0, v2)] ε μ (fun z ε_1 μ_1 => G cd_X3_findFour Q X 16 [(0, (2, v0)), (1, (2, v1)), (2, (0, v2))] [] ε_1 μ_1) m_F)) : G cd_X3_findFour Q X 2 [(0, (2, v0)), (1, (2, v1)), (2, (0, v2))] [] ε μ := by
  refine G_run (m_in [2, 16, 20, 33, 68, 73]) 16 _ _ _ _ ?_
  show m_ty [(0, (2, v0)), (1, (2, v1)), (2, (0, v2))] [] ε μ → (kd ε v1 = 1) ∧ ((μ v1 5) ≤ v2 → (m_ty [] [] ε μ → (0 = 0 ∨ 0 = 1) ∧ Q 0 ε μ)) ∧ (v2 < (μ v1 5) → (m_ty [(0, (2, v0)), (1, (2, v1)), (2, (0, v2))] [] ε μ → (kd ε v0 = 3) ∧ o_X3_findVolumes [(2, v0), (2, v1), (0, v2)] ε μ (fun z ε_1 μ_1 => G cd_X3_findFour Q X 16 [(0, (2, v0)), (1, (2, v1)), (2, (0, v2))] [] ε_1 μ_1) m_F))
  intro hty
  replace h := h hty.1 (hty.2.1 _ (List.mem_of_getElem? (i := 2) rfl))
  obtain ⟨k1, h⟩ := h
  refine And.intro k1 ?_
  obtain ⟨ha, hb⟩ := h
  refine And.intro (fun c2 => ?_) (fun c2 => ?_)
  · replace h := ha c2
    clear ha hb
    intro _
    refine And.intro (Or.inl rfl) ?_
    exact h
  · replace h := hb c2
    clear ha hb
    intro _
    obtain ⟨k2, h⟩ := h
    refine And.intro k2 ?_
    exact h
set_option maxRecDepth 20000 in
theorem g_X3_findFour_0 {Q X : m_Po} {v0 v1 : Int} {ε : m_E} {μ : m_M} (h : TY ε μ → ∀ v2 : Int, v2 = 0 → G cd_X3_findFour Q X 2 [(0, (2, v0)), (1, (2, v1)), (2, (0, v2))] [] ε μ) : G cd_X3_findFour Q X 0 [(0, (2, v0)), (1, (2, v1))] [] ε μ := by
  refine G_run (m_in [2, 16, 20, 33, 68, 73]) 16 _ _ _ _ ?_
  show m_ty [(0, (2, v0)), (1, (2, v1))] [] ε μ → ∀ v2 : Int, v2 = 0 → G cd_X3_findFour Q X 2 [(0, (2, v0)), (1, (2, v1)), (2, (0, v2))] [] ε μ
  intro hty
  replace h := h hty.1 
  intro v2 e_v2
  replace h := h v2 e_v2
  exact h
theorem e_X3_findFour {Q X : m_Po} {v0 v1 : Int} {ε : m_E} {μ : m_M} (h : TY ε μ → ∀ v2 : Int, v2 = 0 → G cd_X3_findFour Q X 2 [(0, (2, v0)), (1, (2, v1)), (2, (0, v2))] [] ε μ) : o_X3_findFour [(2, v0), (2, v1)] ε μ Q X := And.intro rfl (g_X3_findFour_0 h)
/-! ArchYard$Never.search(LArchYard$Bounds;)V -/
set_option maxRecDepth 20000 in
theorem g_X3_search_52 {Q X : m_Po} {v0 t : Int} {ε : m_E} {μ : m_M} (h : TY ε μ → i32 t → (t = 0 → Q 0 ε μ) ∧ (t ≠ 0 → kd ε v0 = 3 ∧ ∀ μ_1 : m_M, μ_1 = st μ v0 4 4 → Q 0 ε μ_1)) : G cd_X3_search Q X 52 [(0, (2, v0))] [(0, t)] ε μ := by
  refine G_run (m_in [20, 36, 52]) 13 _ _ _ _ ?_
  show m_ty [(0, (2, v0))] [(0, t)] ε μ → (t = 0 → (m_ty [] [] ε μ → Q 0 ε μ)) ∧ (t ≠ 0 → (m_ty [(0, (2, v0))] [] ε μ → (kd ε v0 = 3) ∧ ∀ μ_1 : m_M, μ_1 = st μ v0 4 4 → (m_ty [] [] ε μ_1 → Q 0 ε μ_1)))
  intro hty
  replace h := h hty.1 (hty.2.2 _ (List.mem_of_getElem? (i := 0) rfl))
  obtain ⟨ha, hb⟩ := h
  refine And.intro (fun c1 => ?_) (fun c1 => ?_)
  · replace h := ha c1
    clear ha hb
    intro _
    exact h
  · replace h := hb c1
    clear ha hb
    intro _
    obtain ⟨k1, h⟩ := h
    refine And.intro k1 ?_
    intro μ_1 e_μ_1
    replace h := h μ_1 e_μ_1
    intro _
    exact h
set_option maxRecDepth 20000 in
theorem g_X3_search_36 {Q X : m_Po} {v0 v1 t : Int} {ε : m_E} {μ : m_M} (h : TY ε μ → i32 t → (t = 0 → kd ε v0 = 3 ∧ o_X3_findFour [(2, v0), (2, v1)] ε μ (fun z ε_1 μ_1 => G cd_X3_search Q X 52 [(0, (2, v0))] [(0, z)] ε_1 μ_1) m_F) ∧ (t ≠ 0 → kd ε v0 = 3 ∧ ∀ μ_2 : m_M, μ_2 = st μ v0 4 3 → Q 0 ε μ_2)) : G cd_X3_search Q X 36 [(0, (2, v0)), (1, (2, v1))] [(0, t)] ε μ := by
  refine G_run (m_in [20, 36, 52]) 13 _ _ _ _ ?_
  show m_ty [(0, (2, v0)), (1, (2, v1))] [(0, t)] ε μ → (t = 0 → (m_ty [(0, (2, v0)), (1, (2, v1))] [] ε μ → (kd ε v0 = 3) ∧ o_X3_findFour [(2, v0), (2, v1)] ε μ (fun z ε_1 μ_1 => G cd_X3_search Q X 52 [(0, (2, v0))] [(0, z)] ε_1 μ_1) m_F)) ∧ (t ≠ 0 → (m_ty [(0, (2, v0))] [] ε μ → (kd ε v0 = 3) ∧ ∀ μ_2 : m_M, μ_2 = st μ v0 4 3 → (m_ty [] [] ε μ_2 → Q 0 ε μ_2)))
  intro hty
  replace h := h hty.1 (hty.2.2 _ (List.mem_of_getElem? (i := 0) rfl))
  obtain ⟨ha, hb⟩ := h
  refine And.intro (fun c2 => ?_) (fun c2 => ?_)
  · replace h := ha c2
    clear ha hb
    intro _
    obtain ⟨k1, h⟩ := h
    refine And.intro k1 ?_
    exact h
  · replace h := hb c2
    clear ha hb
    intro _
    obtain ⟨k2, h⟩ := h
    refine And.intro k2 ?_
    intro μ_2 e_μ_2
    replace h := h μ_2 e_μ_2
    intro _
    exact h
set_option maxRecDepth 20000 in
theorem g_X3_search_20 {Q X : m_Po} {v0 v1 t : Int} {ε : m_E} {μ : m_M} (h : TY ε μ → i32 t → (t = 0 → kd ε v0 = 3 ∧ o_X3_findThree [(2, v0), (2, v1)] ε μ (fun z ε_1 μ_1 => G cd_X3_search Q X 36 [(0, (2, v0)), (1, (2, v1))] [(0, z)] ε_1 μ_1) m_F) ∧ (t ≠ 0 → kd ε v0 = 3 ∧ ∀ μ_2 : m_M, μ_2 = st μ v0 4 2 → Q 0 ε μ_2)) : G cd_X3_search Q X 20 [(0, (2, v0)), (1, (2, v1))] [(0, t)] ε μ := by
  refine G_run (m_in [20, 36, 52]) 13 _ _ _ _ ?_
  show m_ty [(0, (2, v0)), (1, (2, v1))] [(0, t)] ε μ → (t = 0 → (m_ty [(0, (2, v0)), (1, (2, v1))] [] ε μ → (kd ε v0 = 3) ∧ o_X3_findThree [(2, v0), (2, v1)] ε μ (fun z ε_1 μ_1 => G cd_X3_search Q X 36 [(0, (2, v0)), (1, (2, v1))] [(0, z)] ε_1 μ_1) m_F)) ∧ (t ≠ 0 → (m_ty [(0, (2, v0))] [] ε μ → (kd ε v0 = 3) ∧ ∀ μ_2 : m_M, μ_2 = st μ v0 4 2 → (m_ty [] [] ε μ_2 → Q 0 ε μ_2)))
  intro hty
  replace h := h hty.1 (hty.2.2 _ (List.mem_of_getElem? (i := 0) rfl))
  obtain ⟨ha, hb⟩ := h
  refine And.intro (fun c2 => ?_) (fun c2 => ?_)
  · replace h := ha c2
    clear ha hb
    intro _
    obtain ⟨k1, h⟩ := h
    refine And.intro k1 ?_
    exact h
  · replace h := hb c2
    clear ha hb
    intro _
    obtain ⟨k2, h⟩ := h
    refine And.intro k2 ?_
    intro μ_2 e_μ_2
    replace h := h μ_2 e_μ_2
    intro _
    exact h
set_option maxRecDepth 20000 in
theorem g_X3_search_0 {Q X : m_Po} {v0 v1 : Int} {ε : m_E} {μ : m_M} (h : TY ε μ → kd ε v0 = 3 ∧ ∀ μ_1 : m_M, μ_1 = st μ v0 4 0 → kd ε v1 = 1 ∧ ((μ_1 v1 5) ≤ (48 : Int) → o_X3_findTwo [(2, v0), (2, v1)] ε μ_1 (fun z ε_1 μ_2 => G cd_X3_search Q X 20 [(0, (2, v0)), (1, (2, v1))] [(0, z)] ε_1 μ_2) m_F) ∧ ((48 : Int) < (μ_1 v1 5) → Q 0 ε μ_1)) : G cd_X3_search Q X 0 [(0, (2, v0)), (1, (2, v1))] [] ε μ := by
  refine G_run (m_in [20, 36, 52]) 13 _ _ _ _ ?_
  show m_ty [(0, (2, v0)), (1, (2, v1))] [] ε μ → (kd ε v0 = 3) ∧ ∀ μ_1 : m_M, μ_1 = st μ v0 4 0 → (kd ε v1 = 1) ∧ ((μ_1 v1 5) ≤ (48 : Int) → (m_ty [(0, (2, v0)), (1, (2, v1))] [] ε μ_1 → (kd ε v0 = 3) ∧ o_X3_findTwo [(2, v0), (2, v1)] ε μ_1 (fun z ε_1 μ_2 => G cd_X3_search Q X 20 [(0, (2, v0)), (1, (2, v1))] [(0, z)] ε_1 μ_2) m_F)) ∧ ((48 : Int) < (μ_1 v1 5) → (m_ty [] [] ε μ_1 → Q 0 ε μ_1))
  intro hty
  replace h := h hty.1 
  obtain ⟨k1, h⟩ := h
  refine And.intro k1 ?_
  intro μ_1 e_μ_1
  replace h := h μ_1 e_μ_1
  obtain ⟨k2, h⟩ := h
  refine And.intro k2 ?_
  obtain ⟨ha, hb⟩ := h
  refine And.intro (fun c2 => ?_) (fun c2 => ?_)
  · replace h := ha c2
    clear ha hb
    intro _
    refine And.intro k1 ?_
    exact h
  · replace h := hb c2
    clear ha hb
    intro _
    exact h
theorem e_X3_search {Q X : m_Po} {v0 v1 : Int} {ε : m_E} {μ : m_M} (h : TY ε μ → kd ε v0 = 3 ∧ ∀ μ_1 : m_M, μ_1 = st μ v0 4 0 → kd ε v1 = 1 ∧ ((μ_1 v1 5) ≤ (48 : Int) → o_X3_findTwo [(2, v0), (2, v1)] ε μ_1 (fun z ε_1 μ_2 => G cd_X3_search Q X 20 [(0, (2, v0)), (1, (2, v1))] [(0, z)] ε_1 μ_2) m_F) ∧ ((48 : Int) < (μ_1 v1 5) → Q 0 ε μ_1)) : o_X3_search [(2, v0), (2, v1)] ε μ Q X := And.intro rfl (g_X3_search_0 h)
/-! ArchYard$Wide.set(JJ)V -/
set_option maxRecDepth 20000 in
theorem g_X9_set_0 {Q X : m_Po} {v0 v1 v3 : Int} {ε : m_E} {μ : m_M} (h : TY ε μ → i64 v1 → i64 v3 → kd ε v0 = 8 ∧ ∀ μ_1 : m_M, μ_1 = st μ v0 0 v1 → ∀ μ_2 : m_M, μ_2 = st μ_1 v0 1 v3 → Q 0 ε μ_2) : G cd_X9_set Q X 0 [(0, (2, v0)), (1, (1, v1)), (3, (1, v3))] [] ε μ := by
  refine G_run (m_in []) 2 _ _ _ _ ?_
  show m_ty [(0, (2, v0)), (1, (1, v1)), (3, (1, v3))] [] ε μ → (kd ε v0 = 8) ∧ ∀ μ_1 : m_M, μ_1 = st μ v0 0 v1 → (kd ε v0 = 8) ∧ ∀ μ_2 : m_M, μ_2 = st μ_1 v0 1 v3 → Q 0 ε μ_2
  intro hty
  replace h := h hty.1 (hty.2.1 _ (List.mem_of_getElem? (i := 1) rfl)) (hty.2.1 _ (List.mem_of_getElem? (i := 2) rfl))
  obtain ⟨k1, h⟩ := h
  refine And.intro k1 ?_
  intro μ_1 e_μ_1
  replace h := h μ_1 e_μ_1
  refine And.intro k1 ?_
  intro μ_2 e_μ_2
  replace h := h μ_2 e_μ_2
  exact h
theorem e_X9_set {Q X : m_Po} {v0 v1 v3 : Int} {ε : m_E} {μ : m_M} (h : TY ε μ → i64 v1 → i64 v3 → kd ε v0 = 8 ∧ ∀ μ_1 : m_M, μ_1 = st μ v0 0 v1 → ∀ μ_2 : m_M, μ_2 = st μ_1 v0 1 v3 → Q 0 ε μ_2) : o_X9_set [(2, v0), (1, v1), (1, v3)] ε μ Q X := And.intro rfl (g_X9_set_0 h)
/-! ArchYard$Verdict.beginNever(LArchYard$Wide;)V -/
set_option maxRecDepth 20000 in
theorem g_X8_beginNever_39 {Q X : m_Po} {ε : m_E} {μ : m_M} (h : TY ε μ → Q 0 ε μ) : G cd_X8_beginNever Q X 39 [] [] ε μ := by
  refine G_run (m_in [39]) 3 _ _ _ _ ?_
  show m_ty [] [] ε μ → Q 0 ε μ
  intro hty
  replace h := h hty.1 
  exact h
set_option maxRecDepth 20000 in
theorem g_X8_beginNever_0 {Q X : m_Po} {v0 v1 : Int} {ε : m_E} {μ : m_M} (h : TY ε μ → kd ε v0 = 7 ∧ ∀ μ_1 : m_M, μ_1 = st μ v0 9 0 → kd ε (fn ε v0 4) = 100 ∧ 0 < ln ε (fn ε v0 4) ∧ ∀ μ_2 : m_M, μ_2 = st μ_1 (fn ε v0 4) 0 0 → 1 < ln ε (fn ε v0 4) ∧ ∀ μ_3 : m_M, μ_3 = st μ_2 (fn ε v0 4) 1 0 → ∀ μ_4 : m_M, μ_4 = st μ_3 v0 8 0 → kd ε v1 = 8 ∧ kd ε (fn ε v0 7) = 8 ∧ o_X9_set [(2, fn ε v0 7), (1, μ_4 v1 0), (1, μ_4 v1 1)] ε μ_4 (fun z ε_1 μ_5 => G cd_X8_beginNever Q X 39 [] [] ε_1 μ_5) m_F) : G cd_X8_beginNever Q X 0 [(0, (2, v0)), (1, (2, v1))] [] ε μ := by
  refine G_run (m_in [39]) 3 _ _ _ _ ?_
  show m_ty [(0, (2, v0)), (1, (2, v1))] [] ε μ → (kd ε v0 = 7) ∧ (0 = 0 ∨ 0 = 1) ∧ ∀ μ_1 : m_M, μ_1 = st μ v0 9 0 → (kd ε v0 = 7) ∧ (kd ε (fn ε v0 4) = 100) ∧ ((0 : Int) ≤ 0 ∧ 0 < ln ε (fn ε v0 4)) ∧ ∀ μ_2 : m_M, μ_2 = st μ_1 (fn ε v0 4) 0 0 → (kd ε v0 = 7) ∧ (kd ε (fn ε v0 4) = 100) ∧ ((0 : Int) ≤ 1 ∧ 1 < ln ε (fn ε v0 4)) ∧ ∀ μ_3 : m_M, μ_3 = st μ_2 (fn ε v0 4) 1 0 → (kd ε v0 = 7) ∧ ∀ μ_4 : m_M, μ_4 = st μ_3 v0 8 0 → (kd ε v0 = 7) ∧ (kd ε v1 = 8) ∧ (kd ε v1 = 8) ∧ (kd ε (fn ε v0 7) = 8) ∧ o_X9_set [(2, fn ε v0 7), (1, μ_4 v1 0), (1, μ_4 v1 1)] ε μ_4 (fun z ε_1 μ_5 => G cd_X8_beginNever Q X 39 [] [] ε_1 μ_5) m_F
  intro hty
  replace h := h hty.1 
  obtain ⟨k1, h⟩ := h
  refine And.intro k1 ?_
  refine And.intro (Or.inl rfl) ?_
  intro μ_1 e_μ_1
  replace h := h μ_1 e_μ_1
  refine And.intro k1 ?_
  obtain ⟨k2, h⟩ := h
  refine And.intro k2 ?_
  obtain ⟨k3, h⟩ := h
  refine And.intro (And.intro (by decide) k3) ?_
  intro μ_2 e_μ_2
  replace h := h μ_2 e_μ_2
  refine And.intro k1 ?_
  refine And.intro k2 ?_
  obtain ⟨k4, h⟩ := h
  refine And.intro (And.intro (by decide) k4) ?_
  intro μ_3 e_μ_3
  replace h := h μ_3 e_μ_3
  refine And.intro k1 ?_
  intro μ_4 e_μ_4
  replace h := h μ_4 e_μ_4
  refine And.intro k1 ?_
  obtain ⟨k5, h⟩ := h
  refine And.intro k5 ?_
  refine And.intro k5 ?_
  obtain ⟨k6, h⟩ := h
  refine And.intro k6 ?_
  exact h
theorem e_X8_beginNever {Q X : m_Po} {v0 v1 : Int} {ε : m_E} {μ : m_M} (h : TY ε μ → kd ε v0 = 7 ∧ ∀ μ_1 : m_M, μ_1 = st μ v0 9 0 → kd ε (fn ε v0 4) = 100 ∧ 0 < ln ε (fn ε v0 4) ∧ ∀ μ_2 : m_M, μ_2 = st μ_1 (fn ε v0 4) 0 0 → 1 < ln ε (fn ε v0 4) ∧ ∀ μ_3 : m_M, μ_3 = st μ_2 (fn ε v0 4) 1 0 → ∀ μ_4 : m_M, μ_4 = st μ_3 v0 8 0 → kd ε v1 = 8 ∧ kd ε (fn ε v0 7) = 8 ∧ o_X9_set [(2, fn ε v0 7), (1, μ_4 v1 0), (1, μ_4 v1 1)] ε μ_4 (fun z ε_1 μ_5 => G cd_X8_beginNever Q X 39 [] [] ε_1 μ_5) m_F) : o_X8_beginNever [(2, v0), (2, v1)] ε μ Q X := And.intro rfl (g_X8_beginNever_0 h)
/-! ArchYard$Verdict.keepNever(IJ)V -/
set_option maxRecDepth 20000 in
theorem g_X8_keepNever_0 {Q X : m_Po} {v0 v1 v2 : Int} {ε : m_E} {μ : m_M} (h : TY ε μ → i32 v1 → i64 v2 → kd ε v0 = 7 ∧ ((4 : Int) ≤ (μ v0 8) → Q 0 ε μ) ∧ ((μ v0 8) < (4 : Int) → kd ε (fn ε v0 5) = 100 ∧ (0 : Int) ≤ μ v0 8 ∧ μ v0 8 < ln ε (fn ε v0 5) ∧ ∀ μ_1 : m_M, μ_1 = st μ (fn ε v0 5) (μ v0 8) v1 → kd ε (fn ε v0 6) = 101 ∧ (0 : Int) ≤ μ_1 v0 8 ∧ μ_1 v0 8 < ln ε (fn ε v0 6) ∧ ∀ μ_2 : m_M, μ_2 = st μ_1 (fn ε v0 6) (μ_1 v0 8) v2 → ∀ μ_3 : m_M, μ_3 = st μ_2 v0 8 (w32 ((μ_2 v0 8) + 1)) → Q 0 ε μ_3)) : G cd_X8_keepNever Q X 0 [(0, (2, v0)), (1, (0, v1)), (2, (1, v2))] [] ε μ := by
  refine G_run (m_in []) 4 _ _ _ _ ?_
  show m_ty [(0, (2, v0)), (1, (0, v1)), (2, (1, v2))] [] ε μ → (kd ε v0 = 7) ∧ ((4 : Int) ≤ (μ v0 8) → (m_ty [] [] ε μ → Q 0 ε μ)) ∧ ((μ v0 8) < (4 : Int) → (m_ty [(0, (2, v0)), (1, (0, v1)), (2, (1, v2))] [] ε μ → (kd ε v0 = 7) ∧ (kd ε v0 = 7) ∧ (kd ε (fn ε v0 5) = 100) ∧ ((0 : Int) ≤ μ v0 8 ∧ μ v0 8 < ln ε (fn ε v0 5)) ∧ ∀ μ_1 : m_M, μ_1 = st μ (fn ε v0 5) (μ v0 8) v1 → (kd ε v0 = 7) ∧ (kd ε v0 = 7) ∧ (kd ε (fn ε v0 6) = 101) ∧ ((0 : Int) ≤ μ_1 v0 8 ∧ μ_1 v0 8 < ln ε (fn ε v0 6)) ∧ ∀ μ_2 : m_M, μ_2 = st μ_1 (fn ε v0 6) (μ_1 v0 8) v2 → (kd ε v0 = 7) ∧ (kd ε v0 = 7) ∧ ∀ μ_3 : m_M, μ_3 = st μ_2 v0 8 (w32 ((μ_2 v0 8) + 1)) → (m_ty [] [] ε μ_3 → Q 0 ε μ_3)))
  intro hty
  replace h := h hty.1 (hty.2.1 _ (List.mem_of_getElem? (i := 1) rfl)) (hty.2.1 _ (List.mem_of_getElem? (i := 2) rfl))
  obtain ⟨k1, h⟩ := h
  refine And.intro k1 ?_
  obtain ⟨ha, hb⟩ := h
  refine And.intro (fun c7 => ?_) (fun c7 => ?_)
  · replace h := ha c7
    clear ha hb
    intro _
    exact h
  · replace h := hb c7
    clear ha hb
    intro _
    refine And.intro k1 ?_
    refine And.intro k1 ?_
    obtain ⟨k2, h⟩ := h
    refine And.intro k2 ?_
    obtain ⟨k3, h⟩ := h
    obtain ⟨k4, h⟩ := h
    refine And.intro (And.intro k3 k4) ?_
    intro μ_1 e_μ_1
    replace h := h μ_1 e_μ_1
    refine And.intro k1 ?_
    refine And.intro k1 ?_
    obtain ⟨k5, h⟩ := h
    refine And.intro k5 ?_
    obtain ⟨k6, h⟩ := h
    obtain ⟨k7, h⟩ := h
    refine And.intro (And.intro k6 k7) ?_
    intro μ_2 e_μ_2
    replace h := h μ_2 e_μ_2
    refine And.intro k1 ?_
    refine And.intro k1 ?_
    intro μ_3 e_μ_3
    replace h := h μ_3 e_μ_3
    intro _
    exact h
theorem e_X8_keepNever {Q X : m_Po} {v0 v1 v2 : Int} {ε : m_E} {μ : m_M} (h : TY ε μ → i32 v1 → i64 v2 → kd ε v0 = 7 ∧ ((4 : Int) ≤ (μ v0 8) → Q 0 ε μ) ∧ ((μ v0 8) < (4 : Int) → kd ε (fn ε v0 5) = 100 ∧ (0 : Int) ≤ μ v0 8 ∧ μ v0 8 < ln ε (fn ε v0 5) ∧ ∀ μ_1 : m_M, μ_1 = st μ (fn ε v0 5) (μ v0 8) v1 → kd ε (fn ε v0 6) = 101 ∧ (0 : Int) ≤ μ_1 v0 8 ∧ μ_1 v0 8 < ln ε (fn ε v0 6) ∧ ∀ μ_2 : m_M, μ_2 = st μ_1 (fn ε v0 6) (μ_1 v0 8) v2 → ∀ μ_3 : m_M, μ_3 = st μ_2 v0 8 (w32 ((μ_2 v0 8) + 1)) → Q 0 ε μ_3)) : o_X8_keepNever [(2, v0), (0, v1), (1, v2)] ε μ Q X := And.intro rfl (g_X8_keepNever_0 h)
/-! ArchYard$Never.report(LArchYard$Bounds;LArchYard$Verdict;)V -/
set_option maxRecDepth 20000 in
theorem g_X3_report_43 {Q X : m_Po} {v0 v1 v2 v3 : Int} {ε : m_E} {μ : m_M} (h : TY ε μ → i32 v3 → ∀ v3_1 : Int, v3_1 = w32 (v3 + 1) → G cd_X3_report Q X 10 [(0, (2, v0)), (1, (2, v1)), (2, (2, v2)), (3, (0, v3_1))] [] ε μ) : G cd_X3_report Q X 43 [(0, (2, v0)), (1, (2, v1)), (2, (2, v2)), (3, (0, v3))] [] ε μ := by
  refine G_run (m_in [8, 10, 34, 43]) 9 _ _ _ _ ?_
  show m_ty [(0, (2, v0)), (1, (2, v1)), (2, (2, v2)), (3, (0, v3))] [] ε μ → ∀ v3_1 : Int, v3_1 = w32 (v3 + 1) → G cd_X3_report Q X 10 [(0, (2, v0)), (1, (2, v1)), (2, (2, v2)), (3, (0, v3_1))] [] ε μ
  intro hty
  replace h := h hty.1 (hty.2.1 _ (List.mem_of_getElem? (i := 3) rfl))
  intro v3_1 e_v3_1
  replace h := h v3_1 e_v3_1
  exact h
set_option maxRecDepth 20000 in
theorem g_X3_report_34 {Q X : m_Po} {v0 v1 v2 v3 t t_1 : Int} {ε : m_E} {μ : m_M} (h : TY ε μ → i32 v3 → i32 t_1 → kd ε v0 = 3 ∧ kd ε (fn ε v0 1) = 101 ∧ (0 : Int) ≤ v3 ∧ v3 < ln ε (fn ε v0 1) ∧ kd ε t = 7 ∧ o_X8_keepNever [(2, t), (0, t_1), (1, μ (fn ε v0 1) v3)] ε μ (fun z ε_1 μ_1 => G cd_X3_report Q X 43 [(0, (2, v0)), (1, (2, v1)), (2, (2, v2)), (3, (0, v3))] [] ε_1 μ_1) m_F) : G cd_X3_report Q X 34 [(0, (2, v0)), (1, (2, v1)), (2, (2, v2)), (3, (0, v3))] [(0, t_1), (2, t)] ε μ := by
  refine G_run (m_in [8, 10, 34, 43]) 9 _ _ _ _ ?_
  show m_ty [(0, (2, v0)), (1, (2, v1)), (2, (2, v2)), (3, (0, v3))] [(0, t_1), (2, t)] ε μ → (kd ε v0 = 3) ∧ (kd ε (fn ε v0 1) = 101) ∧ ((0 : Int) ≤ v3 ∧ v3 < ln ε (fn ε v0 1)) ∧ (kd ε t = 7) ∧ o_X8_keepNever [(2, t), (0, t_1), (1, μ (fn ε v0 1) v3)] ε μ (fun z ε_1 μ_1 => G cd_X3_report Q X 43 [(0, (2, v0)), (1, (2, v1)), (2, (2, v2)), (3, (0, v3))] [] ε_1 μ_1) m_F
  intro hty
  replace h := h hty.1 (hty.2.1 _ (List.mem_of_getElem? (i := 3) rfl)) (hty.2.2 _ (List.mem_of_getElem? (i := 0) rfl))
  obtain ⟨k1, h⟩ := h
  refine And.intro k1 ?_
  obtain ⟨k2, h⟩ := h
  refine And.intro k2 ?_
  obtain ⟨k3, h⟩ := h
  obtain ⟨k4, h⟩ := h
  refine And.intro (And.intro k3 k4) ?_
  obtain ⟨k5, h⟩ := h
  refine And.intro k5 ?_
  exact h
set_option maxRecDepth 20000 in
theorem g_X3_report_10 {Q X : m_Po} {v0 v1 v2 v3 : Int} {ε : m_E} {μ : m_M} (h : TY ε μ → i32 v3 → kd ε v0 = 3 ∧ ((μ v0 4) ≤ v3 → Q 0 ε μ) ∧ (v3 < (μ v0 4) → ((4 : Int) ≤ v3 → Q 0 ε μ) ∧ (v3 < (4 : Int) → kd ε (fn ε v0 0) = 100 ∧ (0 : Int) ≤ v3 ∧ v3 < ln ε (fn ε v0 0) ∧ kd ε v1 = 1 ∧ o_X1_codeAt [(2, v1), (0, μ (fn ε v0 0) v3)] ε μ (fun z ε_1 μ_1 => G cd_X3_report Q X 34 [(0, (2, v0)), (1, (2, v1)), (2, (2, v2)), (3, (0, v3))] [(0, z), (2, v2)] ε_1 μ_1) m_F))) : G cd_X3_report Q X 10 [(0, (2, v0)), (1, (2, v1)), (2, (2, v2)), (3, (0, v3))] [] ε μ := by
  refine G_run (m_in [8, 10, 34, 43]) 9 _ _ _ _ ?_
  show m_ty [(0, (2, v0)), (1, (2, v1)), (2, (2, v2)), (3, (0, v3))] [] ε μ → (kd ε v0 = 3) ∧ ((μ v0 4) ≤ v3 → (m_ty [] [] ε μ → Q 0 ε μ)) ∧ (v3 < (μ v0 4) → (m_ty [(0, (2, v0)), (1, (2, v1)), (2, (2, v2)), (3, (0, v3))] [] ε μ → ((4 : Int) ≤ v3 → (m_ty [] [] ε μ → Q 0 ε μ)) ∧ (v3 < (4 : Int) → (m_ty [(0, (2, v0)), (1, (2, v1)), (2, (2, v2)), (3, (0, v3))] [] ε μ → (kd ε v0 = 3) ∧ (kd ε (fn ε v0 0) = 100) ∧ ((0 : Int) ≤ v3 ∧ v3 < ln ε (fn ε v0 0)) ∧ (kd ε v1 = 1) ∧ o_X1_codeAt [(2, v1), (0, μ (fn ε v0 0) v3)] ε μ (fun z ε_1 μ_1 => G cd_X3_report Q X 34 [(0, (2, v0)), (1, (2, v1)), (2, (2, v2)), (3, (0, v3))] [(0, z), (2, v2)] ε_1 μ_1) m_F))))
  intro hty
  replace h := h hty.1 (hty.2.1 _ (List.mem_of_getElem? (i := 3) rfl))
  obtain ⟨k1, h⟩ := h
  refine And.intro k1 ?_
  obtain ⟨ha, hb⟩ := h
  refine And.intro (fun c6 => ?_) (fun c6 => ?_)
  · replace h := ha c6
    clear ha hb
    intro _
    exact h
  · replace h := hb c6
    clear ha hb
    intro _
    obtain ⟨ha, hb⟩ := h
    refine And.intro (fun c5 => ?_) (fun c5 => ?_)
    · replace h := ha c5
      clear ha hb
      intro _
      exact h
    · replace h := hb c5
      clear ha hb
      intro _
      refine And.intro k1 ?_
      obtain ⟨k2, h⟩ := h
      refine And.intro k2 ?_
      obtain ⟨k3, h⟩ := h
      obtain ⟨k4, h⟩ := h
      refine And.intro (And.intro k3 k4) ?_
      obtain ⟨k5, h⟩ := h
      refine And.intro k5 ?_
      exact h
set_option maxRecDepth 20000 in
theorem g_X3_report_8 {Q X : m_Po} {v0 v1 v2 : Int} {ε : m_E} {μ : m_M} (h : TY ε μ → ∀ v3 : Int, v3 = 0 → G cd_X3_report Q X 10 [(0, (2, v0)), (1, (2, v1)), (2, (2, v2)), (3, (0, v3))] [] ε μ) : G cd_X3_report Q X 8 [(0, (2, v0)), (1, (2, v1)), (2, (2, v2))] [] ε μ := by
  refine G_run (m_in [8, 10, 34, 43]) 9 _ _ _ _ ?_
  show m_ty [(0, (2, v0)), (1, (2, v1)), (2, (2, v2))] [] ε μ → ∀ v3 : Int, v3 = 0 → G cd_X3_report Q X 10 [(0, (2, v0)), (1, (2, v1)), (2, (2, v2)), (3, (0, v3))] [] ε μ
  intro hty
  replace h := h hty.1 
  intro v3 e_v3
  replace h := h v3 e_v3
  exact h
set_option maxRecDepth 20000 in
theorem g_X3_report_0 {Q X : m_Po} {v0 v1 v2 : Int} {ε : m_E} {μ : m_M} (h : TY ε μ → kd ε v0 = 3 ∧ kd ε v2 = 7 ∧ o_X8_beginNever [(2, v2), (2, fn ε v0 3)] ε μ (fun z ε_1 μ_1 => G cd_X3_report Q X 8 [(0, (2, v0)), (1, (2, v1)), (2, (2, v2))] [] ε_1 μ_1) m_F) : G cd_X3_report Q X 0 [(0, (2, v0)), (1, (2, v1)), (2, (2, v2))] [] ε μ := by
  refine G_run (m_in [8, 10, 34, 43]) 9 _ _ _ _ ?_
  show m_ty [(0, (2, v0)), (1, (2, v1)), (2, (2, v2))] [] ε μ → (kd ε v0 = 3) ∧ (kd ε v2 = 7) ∧ o_X8_beginNever [(2, v2), (2, fn ε v0 3)] ε μ (fun z ε_1 μ_1 => G cd_X3_report Q X 8 [(0, (2, v0)), (1, (2, v1)), (2, (2, v2))] [] ε_1 μ_1) m_F
  intro hty
  replace h := h hty.1 
  obtain ⟨k1, h⟩ := h
  refine And.intro k1 ?_
  obtain ⟨k2, h⟩ := h
  refine And.intro k2 ?_
  exact h
theorem e_X3_report {Q X : m_Po} {v0 v1 v2 : Int} {ε : m_E} {μ : m_M} (h : TY ε μ → kd ε v0 = 3 ∧ kd ε v2 = 7 ∧ o_X8_beginNever [(2, v2), (2, fn ε v0 3)] ε μ (fun z ε_1 μ_1 => G cd_X3_report Q X 8 [(0, (2, v0)), (1, (2, v1)), (2, (2, v2))] [] ε_1 μ_1) m_F) : o_X3_report [(2, v0), (2, v1), (2, v2)] ε μ Q X := And.intro rfl (g_X3_report_0 h)
/-! ArchYard$Page.<init>()V -/
set_option maxRecDepth 20000 in
theorem g_X4_init_28 {Q X : m_Po} {t t_1 : Int} {ε : m_E} {μ : m_M} (h : TY ε μ → kd ε t = 4 ∧ ∀ ε_1 : m_E, ε_1 = efin ε t 2 t_1 → Q 0 ε_1 μ) : G cd_X4_init Q X 28 [] [(2, t_1), (2, t)] ε μ := by
  refine G_run (m_in [28]) 3 _ _ _ _ ?_
  show m_ty [] [(2, t_1), (2, t)] ε μ → (kd ε t = 4) ∧ ∀ ε_1 : m_E, ε_1 = efin ε t 2 t_1 → Q 0 ε_1 μ
  intro hty
  replace h := h hty.1 
  obtain ⟨k1, h⟩ := h
  refine And.intro k1 ?_
  intro ε_1 e_ε_1
  replace h := h ε_1 e_ε_1
  exact h
set_option maxRecDepth 20000 in
theorem g_X4_init_0 {Q X : m_Po} {v0 : Int} {ε : m_E} {μ : m_M} (h : TY ε μ → 0 < v0 ∧ ∀ (a : Int) (ε_1 : m_E) (μ_1 : m_M), a = nx ε → ε_1 = ealloc ε 102 80 → μ_1 = mnew μ a → kd ε_1 v0 = 4 ∧ ∀ ε_2 : m_E, ε_2 = efin ε_1 v0 0 a → ∀ (a_1 : Int) (ε_3 : m_E) (μ_2 : m_M), a_1 = nx ε_2 → ε_3 = ealloc ε_2 102 80 → μ_2 = mnew μ_1 a_1 → kd ε_3 v0 = 4 ∧ ∀ ε_4 : m_E, ε_4 = efin ε_3 v0 1 a_1 → ∀ (a_2 : Int) (ε_5 : m_E) (μ_3 : m_M), a_2 = nx ε_4 → ε_5 = ealloc ε_4 8 0 → μ_3 = mnew μ_2 a_2 → kd ε_5 a_2 = 8 ∧ o_X9_init [(2, a_2)] ε_5 μ_3 (fun z ε_6 μ_4 => G cd_X4_init Q X 28 [] [(2, a_2), (2, v0)] ε_6 μ_4) m_F) : G cd_X4_init Q X 0 [(0, (2, v0))] [] ε μ := by
  refine G_run (m_in [28]) 3 _ _ _ _ ?_
  show m_ty [(0, (2, v0))] [] ε μ → (0 < v0) ∧ m_cs [] ≤ 8 ∧ ((0 : Int) ≤ 80 ∧ (80 : Int) ≤ 80) ∧ ∀ (a : Int) (ε_1 : m_E) (μ_1 : m_M), a = nx ε → ε_1 = ealloc ε 102 80 → μ_1 = mnew μ a → (kd ε_1 v0 = 4) ∧ ∀ ε_2 : m_E, ε_2 = efin ε_1 v0 0 a → ((0 : Int) ≤ 80 ∧ (80 : Int) ≤ 80) ∧ ∀ (a_1 : Int) (ε_3 : m_E) (μ_2 : m_M), a_1 = nx ε_2 → ε_3 = ealloc ε_2 102 80 → μ_2 = mnew μ_1 a_1 → (kd ε_3 v0 = 4) ∧ ∀ ε_4 : m_E, ε_4 = efin ε_3 v0 1 a_1 → ∀ (a_2 : Int) (ε_5 : m_E) (μ_3 : m_M), a_2 = nx ε_4 → ε_5 = ealloc ε_4 8 0 → μ_3 = mnew μ_2 a_2 → (kd ε_5 a_2 = 8) ∧ o_X9_init [(2, a_2)] ε_5 μ_3 (fun z ε_6 μ_4 => G cd_X4_init Q X 28 [] [(2, a_2), (2, v0)] ε_6 μ_4) m_F
  intro hty
  replace h := h hty.1 
  obtain ⟨k1, h⟩ := h
  refine And.intro k1 ?_
  refine And.intro (Nat.le_of_ble_eq_true rfl) ?_
  refine And.intro (And.intro (by decide) (by decide)) ?_
  intro a ε_1 μ_1 e_a e_ε_1 e_μ_1
  replace h := h a ε_1 μ_1 e_a e_ε_1 e_μ_1
  obtain ⟨k2, h⟩ := h
  refine And.intro k2 ?_
  intro ε_2 e_ε_2
  replace h := h ε_2 e_ε_2
  refine And.intro (And.intro (by decide) (by decide)) ?_
  intro a_1 ε_3 μ_2 e_a_1 e_ε_3 e_μ_2
  replace h := h a_1 ε_3 μ_2 e_a_1 e_ε_3 e_μ_2
  obtain ⟨k3, h⟩ := h
  refine And.intro k3 ?_
  intro ε_4 e_ε_4
  replace h := h ε_4 e_ε_4
  intro a_2 ε_5 μ_3 e_a_2 e_ε_5 e_μ_3
  replace h := h a_2 ε_5 μ_3 e_a_2 e_ε_5 e_μ_3
  obtain ⟨k4, h⟩ := h
  refine And.intro k4 ?_
  exact h
theorem e_X4_init {Q X : m_Po} {v0 : Int} {ε : m_E} {μ : m_M} (h : TY ε μ → 0 < v0 ∧ ∀ (a : Int) (ε_1 : m_E) (μ_1 : m_M), a = nx ε → ε_1 = ealloc ε 102 80 → μ_1 = mnew μ a → kd ε_1 v0 = 4 ∧ ∀ ε_2 : m_E, ε_2 = efin ε_1 v0 0 a → ∀ (a_1 : Int) (ε_3 : m_E) (μ_2 : m_M), a_1 = nx ε_2 → ε_3 = ealloc ε_2 102 80 → μ_2 = mnew μ_1 a_1 → kd ε_3 v0 = 4 ∧ ∀ ε_4 : m_E, ε_4 = efin ε_3 v0 1 a_1 → ∀ (a_2 : Int) (ε_5 : m_E) (μ_3 : m_M), a_2 = nx ε_4 → ε_5 = ealloc ε_4 8 0 → μ_3 = mnew μ_2 a_2 → kd ε_5 a_2 = 8 ∧ o_X9_init [(2, a_2)] ε_5 μ_3 (fun z ε_6 μ_4 => G cd_X4_init Q X 28 [] [(2, a_2), (2, v0)] ε_6 μ_4) m_F) : o_X4_init [(2, v0)] ε μ Q X := And.intro rfl (g_X4_init_0 h)
/-! ArchYard$Page.length()I -/
set_option maxRecDepth 20000 in
theorem g_X4_length_0 {Q X : m_Po} {v0 : Int} {ε : m_E} {μ : m_M} (h : TY ε μ → kd ε v0 = 4 ∧ Q (μ v0 3) ε μ) : G cd_X4_length Q X 0 [(0, (2, v0))] [] ε μ := by
  refine G_run (m_in []) 2 _ _ _ _ ?_
  show m_ty [(0, (2, v0))] [] ε μ → (kd ε v0 = 4) ∧ Q (μ v0 3) ε μ
  intro hty
  replace h := h hty.1 
  obtain ⟨k1, h⟩ := h
  refine And.intro k1 ?_
  exact h
theorem e_X4_length {Q X : m_Po} {v0 : Int} {ε : m_E} {μ : m_M} (h : TY ε μ → kd ε v0 = 4 ∧ Q (μ v0 3) ε μ) : o_X4_length [(2, v0)] ε μ Q X := And.intro rfl (g_X4_length_0 h)
/-! ArchYard$Page.byteAt(I)I -/
set_option maxRecDepth 20000 in
theorem g_X4_byteAt_28 {Q X : m_Po} {t : Int} {ε : m_E} {μ : m_M} (h : TY ε μ → i32 t → Q t ε μ) : G cd_X4_byteAt Q X 28 [] [(0, t)] ε μ := by
  refine G_run (m_in [28]) 7 _ _ _ _ ?_
  show m_ty [] [(0, t)] ε μ → Q t ε μ
  intro hty
  replace h := h hty.1 (hty.2.2 _ (List.mem_of_getElem? (i := 0) rfl))
  exact h
set_option maxRecDepth 20000 in
theorem g_X4_byteAt_0 {Q X : m_Po} {v0 v1 : Int} {ε : m_E} {μ : m_M} (h : TY ε μ → i32 v1 → ((0 ≤ v1 → kd ε v0 = 4 ∧ (v1 < (μ v0 3) → (v1 < (80 : Int) → kd ε (fn ε v0 0) = 102 ∧ (0 : Int) ≤ v1 ∧ v1 < ln ε (fn ε v0 0))))) ∧ ∀ t : Int, t = (if v1 < 0 then (-1) else if (μ v0 3) ≤ v1 then (-1) else if (80 : Int) ≤ v1 then (-1) else μ (fn ε v0 0) v1) → Q t ε μ) : G cd_X4_byteAt Q X 0 [(0, (2, v0)), (1, (0, v1))] [] ε μ := by
  refine G_run (m_in [28]) 7 _ _ _ _ ?_
  show m_ty [(0, (2, v0)), (1, (0, v1))] [] ε μ → (v1 < 0 → (m_ty [] [] ε μ → G cd_X4_byteAt Q X 28 [] [(0, (-1))] ε μ)) ∧ (0 ≤ v1 → (m_ty [(0, (2, v0)), (1, (0, v1))] [] ε μ → (kd ε v0 = 4) ∧ ((μ v0 3) ≤ v1 → (m_ty [] [] ε μ → G cd_X4_byteAt Q X 28 [] [(0, (-1))] ε μ)) ∧ (v1 < (μ v0 3) → (m_ty [(0, (2, v0)), (1, (0, v1))] [] ε μ → ((80 : Int) ≤ v1 → (m_ty [] [] ε μ → G cd_X4_byteAt Q X 28 [] [(0, (-1))] ε μ)) ∧ (v1 < (80 : Int) → (m_ty [(0, (2, v0)), (1, (0, v1))] [] ε μ → (kd ε v0 = 4) ∧ (kd ε (fn ε v0 0) = 102) ∧ ((0 : Int) ≤ v1 ∧ v1 < ln ε (fn ε v0 0)) ∧ G cd_X4_byteAt Q X 28 [] [(0, μ (fn ε v0 0) v1)] ε μ))))))
  intro hty
  replace h := h hty.1 (hty.2.1 _ (List.mem_of_getElem? (i := 1) rfl))
  obtain ⟨hc, hj⟩ := h
  refine And.intro (fun c0 => ?_) (fun c0 => ?_)
  · intro _
    exact g_X4_byteAt_28 (fun _ _ => (hj _ (((if_pos c0).trans rfl)).symm))
  · replace hc := hc c0
    intro _
    obtain ⟨k2, k8⟩ := hc
    refine And.intro k2 ?_
    refine And.intro (fun c2 => ?_) (fun c2 => ?_)
    · intro _
      exact g_X4_byteAt_28 (fun _ _ => (hj _ (((if_neg (Int.not_lt.mpr c0)).trans ((if_pos c2).trans rfl))).symm))
    · replace k8 := k8 c2
      intro _
      refine And.intro (fun c3 => ?_) (fun c3 => ?_)
      · intro _
        exact g_X4_byteAt_28 (fun _ _ => (hj _ (((if_neg (Int.not_lt.mpr c0)).trans ((if_neg (Int.not_le.mpr c2)).trans ((if_pos c3).trans rfl)))).symm))
      · replace k8 := k8 c3
        intro _
        obtain ⟨k5, k6, k7⟩ := k8
        refine And.intro k2 ?_
        refine And.intro k5 ?_
        refine And.intro (And.intro k6 k7) ?_
        exact g_X4_byteAt_28 (fun _ _ => (hj _ (((if_neg (Int.not_lt.mpr c0)).trans ((if_neg (Int.not_le.mpr c2)).trans ((if_neg (Int.not_le.mpr c3)).trans rfl)))).symm))
theorem e_X4_byteAt {Q X : m_Po} {v0 v1 : Int} {ε : m_E} {μ : m_M} (h : TY ε μ → i32 v1 → ((0 ≤ v1 → kd ε v0 = 4 ∧ (v1 < (μ v0 3) → (v1 < (80 : Int) → kd ε (fn ε v0 0) = 102 ∧ (0 : Int) ≤ v1 ∧ v1 < ln ε (fn ε v0 0))))) ∧ ∀ t : Int, t = (if v1 < 0 then (-1) else if (μ v0 3) ≤ v1 then (-1) else if (80 : Int) ≤ v1 then (-1) else μ (fn ε v0 0) v1) → Q t ε μ) : o_X4_byteAt [(2, v0), (0, v1)] ε μ Q X := And.intro rfl (g_X4_byteAt_0 h)
/-! ArchYard$Page.add(I)V -/
set_option maxRecDepth 20000 in
theorem g_X4_add_0 {Q X : m_Po} {v0 v1 : Int} {ε : m_E} {μ : m_M} (h : TY ε μ → i32 v1 → kd ε v0 = 4 ∧ ((80 : Int) ≤ (μ v0 3) → Q 0 ε μ) ∧ ((μ v0 3) < (80 : Int) → kd ε (fn ε v0 0) = 102 ∧ (0 : Int) ≤ μ v0 3 ∧ μ v0 3 < ln ε (fn ε v0 0) ∧ ∀ μ_1 : m_M, μ_1 = st μ (fn ε v0 0) (μ v0 3) (w8 (w8 v1)) → ∀ μ_2 : m_M, μ_2 = st μ_1 v0 3 (w32 ((μ_1 v0 3) + 1)) → Q 0 ε μ_2)) : G cd_X4_add Q X 0 [(0, (2, v0)), (1, (0, v1))] [] ε μ := by
  refine G_run (m_in []) 4 _ _ _ _ ?_
  show m_ty [(0, (2, v0)), (1, (0, v1))] [] ε μ → (kd ε v0 = 4) ∧ ((80 : Int) ≤ (μ v0 3) → (m_ty [] [] ε μ → Q 0 ε μ)) ∧ ((μ v0 3) < (80 : Int) → (m_ty [(0, (2, v0)), (1, (0, v1))] [] ε μ → (kd ε v0 = 4) ∧ (kd ε v0 = 4) ∧ (kd ε (fn ε v0 0) = 102) ∧ ((0 : Int) ≤ μ v0 3 ∧ μ v0 3 < ln ε (fn ε v0 0)) ∧ ∀ μ_1 : m_M, μ_1 = st μ (fn ε v0 0) (μ v0 3) (w8 (w8 v1)) → (kd ε v0 = 4) ∧ (kd ε v0 = 4) ∧ ∀ μ_2 : m_M, μ_2 = st μ_1 v0 3 (w32 ((μ_1 v0 3) + 1)) → (m_ty [] [] ε μ_2 → Q 0 ε μ_2)))
  intro hty
  replace h := h hty.1 (hty.2.1 _ (List.mem_of_getElem? (i := 1) rfl))
  obtain ⟨k1, h⟩ := h
  refine And.intro k1 ?_
  obtain ⟨ha, hb⟩ := h
  refine And.intro (fun c4 => ?_) (fun c4 => ?_)
  · replace h := ha c4
    clear ha hb
    intro _
    exact h
  · replace h := hb c4
    clear ha hb
    intro _
    refine And.intro k1 ?_
    refine And.intro k1 ?_
    obtain ⟨k2, h⟩ := h
    refine And.intro k2 ?_
    obtain ⟨k3, h⟩ := h
    obtain ⟨k4, h⟩ := h
    refine And.intro (And.intro k3 k4) ?_
    intro μ_1 e_μ_1
    replace h := h μ_1 e_μ_1
    refine And.intro k1 ?_
    refine And.intro k1 ?_
    intro μ_2 e_μ_2
    replace h := h μ_2 e_μ_2
    intro _
    exact h
theorem e_X4_add {Q X : m_Po} {v0 v1 : Int} {ε : m_E} {μ : m_M} (h : TY ε μ → i32 v1 → kd ε v0 = 4 ∧ ((80 : Int) ≤ (μ v0 3) → Q 0 ε μ) ∧ ((μ v0 3) < (80 : Int) → kd ε (fn ε v0 0) = 102 ∧ (0 : Int) ≤ μ v0 3 ∧ μ v0 3 < ln ε (fn ε v0 0) ∧ ∀ μ_1 : m_M, μ_1 = st μ (fn ε v0 0) (μ v0 3) (w8 (w8 v1)) → ∀ μ_2 : m_M, μ_2 = st μ_1 v0 3 (w32 ((μ_1 v0 3) + 1)) → Q 0 ε μ_2)) : o_X4_add [(2, v0), (0, v1)] ε μ Q X := And.intro rfl (g_X4_add_0 h)
/-! ArchYard$Wide.negate()V -/
set_option maxRecDepth 20000 in
theorem g_X9_negate_26 {Q X : m_Po} {v0 t t_1 : Int} {ε : m_E} {μ : m_M} (h : TY ε μ → i64 t_1 → kd ε t = 8 ∧ ∀ μ_1 : m_M, μ_1 = st μ t 0 t_1 → kd ε v0 = 8 ∧ ∀ μ_2 : m_M, μ_2 = st μ_1 v0 1 (w64 (-(μ_1 v0 1))) → Q 0 ε μ_2) : G cd_X9_negate Q X 26 [(0, (2, v0))] [(1, t_1), (2, t)] ε μ := by
  refine G_run (m_in [26]) 5 _ _ _ _ ?_
  show m_ty [(0, (2, v0))] [(1, t_1), (2, t)] ε μ → (kd ε t = 8) ∧ ∀ μ_1 : m_M, μ_1 = st μ t 0 t_1 → (kd ε v0 = 8) ∧ (kd ε v0 = 8) ∧ ∀ μ_2 : m_M, μ_2 = st μ_1 v0 1 (w64 (-(μ_1 v0 1))) → Q 0 ε μ_2
  intro hty
  replace h := h hty.1 (hty.2.2 _ (List.mem_of_getElem? (i := 0) rfl))
  obtain ⟨k1, h⟩ := h
  refine And.intro k1 ?_
  intro μ_1 e_μ_1
  replace h := h μ_1 e_μ_1
  obtain ⟨k2, h⟩ := h
  refine And.intro k2 ?_
  refine And.intro k2 ?_
  intro μ_2 e_μ_2
  replace h := h μ_2 e_μ_2
  exact h
set_option maxRecDepth 20000 in
theorem g_X9_negate_0 {Q X : m_Po} {v0 : Int} {ε : m_E} {μ : m_M} (h : TY ε μ → kd ε v0 = 8 ∧ ∀ t : Int, t = (if (μ v0 1) = (0 : Int) then w64 (-(μ v0 0)) else o_xor64 (μ v0 0) (-1)) → kd ε v0 = 8 ∧ ∀ μ_1 : m_M, μ_1 = st μ v0 0 t → kd ε v0 = 8 ∧ ∀ μ_2 : m_M, μ_2 = st μ_1 v0 1 (w64 (-(μ_1 v0 1))) → Q 0 ε μ_2) : G cd_X9_negate Q X 0 [(0, (2, v0))] [] ε μ := by
  refine G_run (m_in [26]) 5 _ _ _ _ ?_
  show m_ty [(0, (2, v0))] [] ε μ → (kd ε v0 = 8) ∧ ((μ v0 1) ≠ (0 : Int) → (m_ty [(0, (2, v0))] [(2, v0)] ε μ → (kd ε v0 = 8) ∧ G cd_X9_negate Q X 26 [(0, (2, v0))] [(1, o_xor64 (μ v0 0) (-1)), (2, v0)] ε μ)) ∧ ((μ v0 1) = (0 : Int) → (m_ty [(0, (2, v0))] [(2, v0)] ε μ → (kd ε v0 = 8) ∧ G cd_X9_negate Q X 26 [(0, (2, v0))] [(1, w64 (-(μ v0 0))), (2, v0)] ε μ))
  intro hty
  replace h := h hty.1 
  obtain ⟨k1, h⟩ := h
  refine And.intro k1 ?_
  have hj := h
  refine And.intro (fun c1 => ?_) (fun c1 => ?_)
  · intro _
    refine And.intro k1 ?_
    exact g_X9_negate_26 (fun _ _ => (hj _ (((if_neg (c1)).trans rfl)).symm))
  · intro _
    refine And.intro k1 ?_
    exact g_X9_negate_26 (fun _ _ => (hj _ (((if_pos c1).trans rfl)).symm))
theorem e_X9_negate {Q X : m_Po} {v0 : Int} {ε : m_E} {μ : m_M} (h : TY ε μ → kd ε v0 = 8 ∧ ∀ t : Int, t = (if (μ v0 1) = (0 : Int) then w64 (-(μ v0 0)) else o_xor64 (μ v0 0) (-1)) → kd ε v0 = 8 ∧ ∀ μ_1 : m_M, μ_1 = st μ v0 0 t → kd ε v0 = 8 ∧ ∀ μ_2 : m_M, μ_2 = st μ_1 v0 1 (w64 (-(μ_1 v0 1))) → Q 0 ε μ_2) : o_X9_negate [(2, v0)] ε μ Q X := And.intro rfl (g_X9_negate_0 h)
/-! ArchYard$Wide.divide(J)J -/
set_option maxRecDepth 20000 in
theorem g_X9_divide_76 {Q X : m_Po} {v0 v1 v3 v5 v7 v9 : Int} {ε : m_E} {μ : m_M} (h : TY ε μ → i64 v1 → i64 v3 → i64 v5 → i64 v7 → i64 v9 → v1 ≠ 0 ∧ kd ε v0 = 8 ∧ ∀ μ_1 : m_M, μ_1 = st μ v0 0 (o_or64 (o_shl64 (w64 (Int.tdiv v3 v1)) 32) (w64 (Int.tdiv v5 v1))) → ∀ μ_2 : m_M, μ_2 = st μ_1 v0 1 (o_or64 (o_shl64 (w64 (Int.tdiv v7 v1)) 32) (w64 (Int.tdiv v9 v1))) → Q (Int.tmod v9 v1) ε μ_2) : G cd_X9_divide Q X 76 [(0, (2, v0)), (1, (1, v1)), (3, (1, v3)), (5, (1, v5)), (7, (1, v7)), (9, (1, v9))] [] ε μ := by
  refine G_run (m_in [41, 76]) 7 _ _ _ _ ?_
  show m_ty [(0, (2, v0)), (1, (1, v1)), (3, (1, v3)), (5, (1, v5)), (7, (1, v7)), (9, (1, v9))] [] ε μ → (v1 ≠ 0) ∧ (v1 ≠ 0) ∧ (kd ε v0 = 8) ∧ ∀ μ_1 : m_M, μ_1 = st μ v0 0 (o_or64 (o_shl64 (w64 (Int.tdiv v3 v1)) 32) (w64 (Int.tdiv v5 v1))) → (v1 ≠ 0) ∧ (v1 ≠ 0) ∧ (kd ε v0 = 8) ∧ ∀ μ_2 : m_M, μ_2 = st μ_1 v0 1 (o_or64 (o_shl64 (w64 (Int.tdiv v7 v1)) 32) (w64 (Int.tdiv v9 v1))) → (v1 ≠ 0) ∧ Q (Int.tmod v9 v1) ε μ_2
  intro hty
  replace h := h hty.1 (hty.2.1 _ (List.mem_of_getElem? (i := 1) rfl)) (hty.2.1 _ (List.mem_of_getElem? (i := 2) rfl)) (hty.2.1 _ (List.mem_of_getElem? (i := 3) rfl)) (hty.2.1 _ (List.mem_of_getElem? (i := 4) rfl)) (hty.2.1 _ (List.mem_of_getElem? (i := 5) rfl))
  obtain ⟨k1, h⟩ := h
  refine And.intro k1 ?_
  refine And.intro k1 ?_
  obtain ⟨k2, h⟩ := h
  refine And.intro k2 ?_
  intro μ_1 e_μ_1
  replace h := h μ_1 e_μ_1
  refine And.intro k1 ?_
  refine And.intro k1 ?_
  refine And.intro k2 ?_
  intro μ_2 e_μ_2
  replace h := h μ_2 e_μ_2
  refine And.intro k1 ?_
  exact h
set_option maxRecDepth 20000 in
theorem g_X9_divide_41 {Q X : m_Po} {v0 v1 v3 v5 : Int} {ε : m_E} {μ : m_M} (h : TY ε μ → i64 v1 → i64 v3 → i64 v5 → v1 ≠ 0 ∧ kd ε v0 = 8 ∧ ∀ v7 : Int, v7 = o_or64 (o_shl64 (Int.tmod v5 v1) 32) (o_ushr64 (μ v0 1) 32) → ∀ v9 : Int, v9 = o_or64 (o_shl64 (Int.tmod v7 v1) 32) (o_and64 (μ v0 1) 4294967295) → v1 ≠ 0 ∧ kd ε v0 = 8 ∧ ∀ μ_1 : m_M, μ_1 = st μ v0 0 (o_or64 (o_shl64 (w64 (Int.tdiv v3 v1)) 32) (w64 (Int.tdiv v5 v1))) → ∀ μ_2 : m_M, μ_2 = st μ_1 v0 1 (o_or64 (o_shl64 (w64 (Int.tdiv v7 v1)) 32) (w64 (Int.tdiv v9 v1))) → Q (Int.tmod v9 v1) ε μ_2) : G cd_X9_divide Q X 41 [(0, (2, v0)), (1, (1, v1)), (3, (1, v3)), (5, (1, v5))] [] ε μ := by
  refine G_run (m_in [41, 76]) 7 _ _ _ _ ?_
  show m_ty [(0, (2, v0)), (1, (1, v1)), (3, (1, v3)), (5, (1, v5))] [] ε μ → (v1 ≠ 0) ∧ (kd ε v0 = 8) ∧ ∀ v7 : Int, v7 = o_or64 (o_shl64 (Int.tmod v5 v1) 32) (o_ushr64 (μ v0 1) 32) → (v1 ≠ 0) ∧ (kd ε v0 = 8) ∧ ∀ v9 : Int, v9 = o_or64 (o_shl64 (Int.tmod v7 v1) 32) (o_and64 (μ v0 1) 4294967295) → G cd_X9_divide Q X 76 [(0, (2, v0)), (1, (1, v1)), (3, (1, v3)), (5, (1, v5)), (7, (1, v7)), (9, (1, v9))] [] ε μ
  intro hty
  replace h := h hty.1 (hty.2.1 _ (List.mem_of_getElem? (i := 1) rfl)) (hty.2.1 _ (List.mem_of_getElem? (i := 2) rfl)) (hty.2.1 _ (List.mem_of_getElem? (i := 3) rfl))
  obtain ⟨k1, h⟩ := h
  refine And.intro k1 ?_
  obtain ⟨k2, h⟩ := h
  refine And.intro k2 ?_
  intro v7 e_v7
  replace h := h v7 e_v7
  refine And.intro k1 ?_
  refine And.intro k2 ?_
  intro v9 e_v9
  replace h := h v9 e_v9
  exact g_X9_divide_76 (fun _ _ _ _ _ _ => h)
set_option maxRecDepth 20000 in
theorem g_X9_divide_0 {Q X : m_Po} {v0 v1 : Int} {ε : m_E} {μ : m_M} (h : TY ε μ → i64 v1 → (v1 < (1 : Int) → Q 0 ε μ) ∧ ((1 : Int) ≤ v1 → (v1 ≤ (2147483648 : Int) → kd ε v0 = 8 ∧ ∀ v3 : Int, v3 = o_ushr64 (μ v0 0) 32 → v1 ≠ 0 ∧ ∀ v5 : Int, v5 = o_or64 (o_shl64 (Int.tmod v3 v1) 32) (o_and64 (μ v0 0) 4294967295) → v1 ≠ 0 ∧ kd ε v0 = 8 ∧ ∀ v7 : Int, v7 = o_or64 (o_shl64 (Int.tmod v5 v1) 32) (o_ushr64 (μ v0 1) 32) → ∀ v9 : Int, v9 = o_or64 (o_shl64 (Int.tmod v7 v1) 32) (o_and64 (μ v0 1) 4294967295) → v1 ≠ 0 ∧ kd ε v0 = 8 ∧ ∀ μ_1 : m_M, μ_1 = st μ v0 0 (o_or64 (o_shl64 (w64 (Int.tdiv v3 v1)) 32) (w64 (Int.tdiv v5 v1))) → ∀ μ_2 : m_M, μ_2 = st μ_1 v0 1 (o_or64 (o_shl64 (w64 (Int.tdiv v7 v1)) 32) (w64 (Int.tdiv v9 v1))) → Q (Int.tmod v9 v1) ε μ_2) ∧ ((2147483648 : Int) < v1 → Q 0 ε μ))) : G cd_X9_divide Q X 0 [(0, (2, v0)), (1, (1, v1))] [] ε μ := by
  refine G_run (m_in [41, 76]) 7 _ _ _ _ ?_
  show m_ty [(0, (2, v0)), (1, (1, v1))] [] ε μ → (v1 < (1 : Int) → (m_ty [] [] ε μ → Q 0 ε μ)) ∧ ((1 : Int) ≤ v1 → (m_ty [(0, (2, v0)), (1, (1, v1))] [] ε μ → (v1 ≤ (2147483648 : Int) → (m_ty [(0, (2, v0)), (1, (1, v1))] [] ε μ → (kd ε v0 = 8) ∧ ∀ v3 : Int, v3 = o_ushr64 (μ v0 0) 32 → (v1 ≠ 0) ∧ (kd ε v0 = 8) ∧ ∀ v5 : Int, v5 = o_or64 (o_shl64 (Int.tmod v3 v1) 32) (o_and64 (μ v0 0) 4294967295) → G cd_X9_divide Q X 41 [(0, (2, v0)), (1, (1, v1)), (3, (1, v3)), (5, (1, v5))] [] ε μ)) ∧ ((2147483648 : Int) < v1 → (m_ty [] [] ε μ → Q 0 ε μ))))
  intro hty
  replace h := h hty.1 (hty.2.1 _ (List.mem_of_getElem? (i := 1) rfl))
  obtain ⟨ha, hb⟩ := h
  refine And.intro (fun c7 => ?_) (fun c7 => ?_)
  · replace h := ha c7
    clear ha hb
    intro _
    exact h
  · replace h := hb c7
    clear ha hb
    intro _
    obtain ⟨ha, hb⟩ := h
    refine And.intro (fun c6 => ?_) (fun c6 => ?_)
    · replace h := ha c6
      clear ha hb
      intro _
      obtain ⟨k1, h⟩ := h
      refine And.intro k1 ?_
      intro v3 e_v3
      replace h := h v3 e_v3
      obtain ⟨k2, h⟩ := h
      refine And.intro k2 ?_
      refine And.intro k1 ?_
      intro v5 e_v5
      replace h := h v5 e_v5
      exact g_X9_divide_41 (fun _ _ _ _ => h)
    · replace h := hb c6
      clear ha hb
      intro _
      exact h
theorem e_X9_divide {Q X : m_Po} {v0 v1 : Int} {ε : m_E} {μ : m_M} (h : TY ε μ → i64 v1 → (v1 < (1 : Int) → Q 0 ε μ) ∧ ((1 : Int) ≤ v1 → (v1 ≤ (2147483648 : Int) → kd ε v0 = 8 ∧ ∀ v3 : Int, v3 = o_ushr64 (μ v0 0) 32 → v1 ≠ 0 ∧ ∀ v5 : Int, v5 = o_or64 (o_shl64 (Int.tmod v3 v1) 32) (o_and64 (μ v0 0) 4294967295) → v1 ≠ 0 ∧ kd ε v0 = 8 ∧ ∀ v7 : Int, v7 = o_or64 (o_shl64 (Int.tmod v5 v1) 32) (o_ushr64 (μ v0 1) 32) → ∀ v9 : Int, v9 = o_or64 (o_shl64 (Int.tmod v7 v1) 32) (o_and64 (μ v0 1) 4294967295) → v1 ≠ 0 ∧ kd ε v0 = 8 ∧ ∀ μ_1 : m_M, μ_1 = st μ v0 0 (o_or64 (o_shl64 (w64 (Int.tdiv v3 v1)) 32) (w64 (Int.tdiv v5 v1))) → ∀ μ_2 : m_M, μ_2 = st μ_1 v0 1 (o_or64 (o_shl64 (w64 (Int.tdiv v7 v1)) 32) (w64 (Int.tdiv v9 v1))) → Q (Int.tmod v9 v1) ε μ_2) ∧ ((2147483648 : Int) < v1 → Q 0 ε μ))) : o_X9_divide [(2, v0), (1, v1)] ε μ Q X := And.intro rfl (g_X9_divide_0 h)
/-! ArchYard$Page.addDigits()V -/
set_option maxRecDepth 20000 in
theorem g_X4_addDigits_61 {Q X : m_Po} {v0 v2 : Int} {ε : m_E} {μ : m_M} (h : TY ε μ → i32 v2 → ∀ v2_1 : Int, v2_1 = w32 (v2 + (-1)) → G cd_X4_addDigits Q X 47 [(0, (2, v0)), (2, (0, v2_1))] [] ε μ) : G cd_X4_addDigits Q X 61 [(0, (2, v0)), (2, (0, v2))] [] ε μ := by
  refine G_run (m_in [2, 20, 34, 43, 47, 61]) 11 _ _ _ _ ?_
  show m_ty [(0, (2, v0)), (2, (0, v2))] [] ε μ → ∀ v2_1 : Int, v2_1 = w32 (v2 + (-1)) → G cd_X4_addDigits Q X 47 [(0, (2, v0)), (2, (0, v2_1))] [] ε μ
  intro hty
  replace h := h hty.1 (hty.2.1 _ (List.mem_of_getElem? (i := 1) rfl))
  intro v2_1 e_v2_1
  replace h := h v2_1 e_v2_1
  exact h
set_option maxRecDepth 20000 in
theorem g_X4_addDigits_47 {Q X : m_Po} {v0 v2 : Int} {ε : m_E} {μ : m_M} (h : TY ε μ → i32 v2 → (v2 < 0 → Q 0 ε μ) ∧ (0 ≤ v2 → kd ε v0 = 4 ∧ kd ε (fn ε v0 1) = 102 ∧ (0 : Int) ≤ v2 ∧ v2 < ln ε (fn ε v0 1) ∧ o_X4_add [(2, v0), (0, μ (fn ε v0 1) v2)] ε μ (fun z ε_1 μ_1 => G cd_X4_addDigits Q X 61 [(0, (2, v0)), (2, (0, v2))] [] ε_1 μ_1) m_F)) : G cd_X4_addDigits Q X 47 [(0, (2, v0)), (2, (0, v2))] [] ε μ := by
  refine G_run (m_in [2, 20, 34, 43, 47, 61]) 11 _ _ _ _ ?_
  show m_ty [(0, (2, v0)), (2, (0, v2))] [] ε μ → (v2 < 0 → (m_ty [] [] ε μ → Q 0 ε μ)) ∧ (0 ≤ v2 → (m_ty [(0, (2, v0)), (2, (0, v2))] [] ε μ → (kd ε v0 = 4) ∧ (kd ε (fn ε v0 1) = 102) ∧ ((0 : Int) ≤ v2 ∧ v2 < ln ε (fn ε v0 1)) ∧ (kd ε v0 = 4) ∧ o_X4_add [(2, v0), (0, μ (fn ε v0 1) v2)] ε μ (fun z ε_1 μ_1 => G cd_X4_addDigits Q X 61 [(0, (2, v0)), (2, (0, v2))] [] ε_1 μ_1) m_F))
  intro hty
  replace h := h hty.1 (hty.2.1 _ (List.mem_of_getElem? (i := 1) rfl))
  obtain ⟨ha, hb⟩ := h
  refine And.intro (fun c4 => ?_) (fun c4 => ?_)
  · replace h := ha c4
    clear ha hb
    intro _
    exact h
  · replace h := hb c4
    clear ha hb
    intro _
    obtain ⟨k1, h⟩ := h
    refine And.intro k1 ?_
    obtain ⟨k2, h⟩ := h
    refine And.intro k2 ?_
    obtain ⟨k3, h⟩ := h
    obtain ⟨k4, h⟩ := h
    refine And.intro (And.intro k3 k4) ?_
    refine And.intro k1 ?_
    exact h
set_option maxRecDepth 20000 in
theorem g_X4_addDigits_43 {Q X : m_Po} {v0 v1 : Int} {ε : m_E} {μ : m_M} (h : TY ε μ → i32 v1 → ∀ v2 : Int, v2 = w32 (v1 - 1) → G cd_X4_addDigits Q X 47 [(0, (2, v0)), (2, (0, v2))] [] ε μ) : G cd_X4_addDigits Q X 43 [(0, (2, v0)), (1, (0, v1))] [] ε μ := by
  refine G_run (m_in [2, 20, 34, 43, 47, 61]) 11 _ _ _ _ ?_
  show m_ty [(0, (2, v0)), (1, (0, v1))] [] ε μ → ∀ v2 : Int, v2 = w32 (v1 - 1) → G cd_X4_addDigits Q X 47 [(0, (2, v0)), (2, (0, v2))] [] ε μ
  intro hty
  replace h := h hty.1 (hty.2.1 _ (List.mem_of_getElem? (i := 1) rfl))
  intro v2 e_v2
  replace h := h v2 e_v2
  exact h
set_option maxRecDepth 20000 in
theorem g_X4_addDigits_34 {Q X : m_Po} {v0 v1 t : Int} {ε : m_E} {μ : m_M} (h : TY ε μ → i32 v1 → i32 t → (t = 0 → G cd_X4_addDigits Q X 43 [(0, (2, v0)), (1, (0, v1))] [] ε μ) ∧ (t ≠ 0 → (v1 < (80 : Int) → G cd_X4_addDigits Q X 2 [(0, (2, v0)), (1, (0, v1))] [] ε μ) ∧ ((80 : Int) ≤ v1 → G cd_X4_addDigits Q X 43 [(0, (2, v0)), (1, (0, v1))] [] ε μ))) : G cd_X4_addDigits Q X 34 [(0, (2, v0)), (1, (0, v1))] [(0, t)] ε μ := by
  refine G_run (m_in [2, 20, 34, 43, 47, 61]) 11 _ _ _ _ ?_
  show m_ty [(0, (2, v0)), (1, (0, v1))] [(0, t)] ε μ → (t = 0 → G cd_X4_addDigits Q X 43 [(0, (2, v0)), (1, (0, v1))] [] ε μ) ∧ (t ≠ 0 → (m_ty [(0, (2, v0)), (1, (0, v1))] [] ε μ → (v1 < (80 : Int) → G cd_X4_addDigits Q X 2 [(0, (2, v0)), (1, (0, v1))] [] ε μ) ∧ ((80 : Int) ≤ v1 → G cd_X4_addDigits Q X 43 [(0, (2, v0)), (1, (0, v1))] [] ε μ)))
  intro hty
  replace h := h hty.1 (hty.2.1 _ (List.mem_of_getElem? (i := 1) rfl)) (hty.2.2 _ (List.mem_of_getElem? (i := 0) rfl))
  obtain ⟨ha, hb⟩ := h
  refine And.intro (fun c1 => ?_) (fun c1 => ?_)
  · replace h := ha c1
    clear ha hb
    exact h
  · replace h := hb c1
    clear ha hb
    intro _
    obtain ⟨ha, hb⟩ := h
    refine And.intro (fun c0 => ?_) (fun c0 => ?_)
    · replace h := ha c0
      clear ha hb
      exact h
    · replace h := hb c0
      clear ha hb
      exact h
set_option maxRecDepth 20000 in
theorem g_X4_addDigits_20 {Q X : m_Po} {v0 v1 t t_1 t_2 t_3 : Int} {ε : m_E} {μ : m_M} (h : TY ε μ → i32 v1 → i32 t_1 → i64 t_2 → i64 t_3 → kd ε t = 102 ∧ (0 : Int) ≤ t_1 ∧ t_1 < ln ε t ∧ ∀ μ_1 : m_M, μ_1 = st μ t t_1 (w8 (w8 (w32 (w64 (t_2 + t_3))))) → ∀ v1_1 : Int, v1_1 = w32 (v1 + 1) → kd ε v0 = 4 ∧ kd ε (fn ε v0 2) = 8 ∧ o_X9_sign [(2, fn ε v0 2)] ε μ_1 (fun z ε_1 μ_2 => G cd_X4_addDigits Q X 34 [(0, (2, v0)), (1, (0, v1_1))] [(0, z)] ε_1 μ_2) m_F) : G cd_X4_addDigits Q X 20 [(0, (2, v0)), (1, (0, v1))] [(1, t_3), (1, t_2), (0, t_1), (2, t)] ε μ := by
  refine G_run (m_in [2, 20, 34, 43, 47, 61]) 11 _ _ _ _ ?_
  show m_ty [(0, (2, v0)), (1, (0, v1))] [(1, t_3), (1, t_2), (0, t_1), (2, t)] ε μ → (kd ε t = 102) ∧ ((0 : Int) ≤ t_1 ∧ t_1 < ln ε t) ∧ ∀ μ_1 : m_M, μ_1 = st μ t t_1 (w8 (w8 (w32 (w64 (t_2 + t_3))))) → ∀ v1_1 : Int, v1_1 = w32 (v1 + 1) → (kd ε v0 = 4) ∧ (kd ε (fn ε v0 2) = 8) ∧ o_X9_sign [(2, fn ε v0 2)] ε μ_1 (fun z ε_1 μ_2 => G cd_X4_addDigits Q X 34 [(0, (2, v0)), (1, (0, v1_1))] [(0, z)] ε_1 μ_2) m_F
  intro hty
  replace h := h hty.1 (hty.2.1 _ (List.mem_of_getElem? (i := 1) rfl)) (hty.2.2 _ (List.mem_of_getElem? (i := 2) rfl)) (hty.2.2 _ (List.mem_of_getElem? (i := 1) rfl)) (hty.2.2 _ (List.mem_of_getElem? (i := 0) rfl))
  obtain ⟨k1, h⟩ := h
  refine And.intro k1 ?_
  obtain ⟨k2, h⟩ := h
  obtain ⟨k3, h⟩ := h
  refine And.intro (And.intro k2 k3) ?_
  intro μ_1 e_μ_1
  replace h := h μ_1 e_μ_1
  intro v1_1 e_v1_1
  replace h := h v1_1 e_v1_1
  obtain ⟨k4, h⟩ := h
  refine And.intro k4 ?_
  obtain ⟨k5, h⟩ := h
  refine And.intro k5 ?_
  exact h
set_option maxRecDepth 20000 in
theorem g_X4_addDigits_2 {Q X : m_Po} {v0 v1 : Int} {ε : m_E} {μ : m_M} (h : TY ε μ → i32 v1 → kd ε v0 = 4 ∧ kd ε (fn ε v0 2) = 8 ∧ o_X9_divide [(2, fn ε v0 2), (1, 10)] ε μ (fun z ε_1 μ_1 => G cd_X4_addDigits Q X 20 [(0, (2, v0)), (1, (0, v1))] [(1, z), (1, 48), (0, v1), (2, fn ε v0 1)] ε_1 μ_1) m_F) : G cd_X4_addDigits Q X 2 [(0, (2, v0)), (1, (0, v1))] [] ε μ := by
  refine G_run (m_in [2, 20, 34, 43, 47, 61]) 11 _ _ _ _ ?_
  show m_ty [(0, (2, v0)), (1, (0, v1))] [] ε μ → (kd ε v0 = 4) ∧ (kd ε v0 = 4) ∧ (kd ε (fn ε v0 2) = 8) ∧ o_X9_divide [(2, fn ε v0 2), (1, 10)] ε μ (fun z ε_1 μ_1 => G cd_X4_addDigits Q X 20 [(0, (2, v0)), (1, (0, v1))] [(1, z), (1, 48), (0, v1), (2, fn ε v0 1)] ε_1 μ_1) m_F
  intro hty
  replace h := h hty.1 (hty.2.1 _ (List.mem_of_getElem? (i := 1) rfl))
  obtain ⟨k1, h⟩ := h
  refine And.intro k1 ?_
  refine And.intro k1 ?_
  obtain ⟨k2, h⟩ := h
  refine And.intro k2 ?_
  exact h
set_option maxRecDepth 20000 in
theorem g_X4_addDigits_0 {Q X : m_Po} {v0 : Int} {ε : m_E} {μ : m_M} (h : TY ε μ → ∀ v1 : Int, v1 = 0 → G cd_X4_addDigits Q X 2 [(0, (2, v0)), (1, (0, v1))] [] ε μ) : G cd_X4_addDigits Q X 0 [(0, (2, v0))] [] ε μ := by
  refine G_run (m_in [2, 20, 34, 43, 47, 61]) 11 _ _ _ _ ?_
  show m_ty [(0, (2, v0))] [] ε μ → ∀ v1 : Int, v1 = 0 → G cd_X4_addDigits Q X 2 [(0, (2, v0)), (1, (0, v1))] [] ε μ
  intro hty
  replace h := h hty.1 
  intro v1 e_v1
  replace h := h v1 e_v1
  exact h
theorem e_X4_addDigits {Q X : m_Po} {v0 : Int} {ε : m_E} {μ : m_M} (h : TY ε μ → ∀ v1 : Int, v1 = 0 → G cd_X4_addDigits Q X 2 [(0, (2, v0)), (1, (0, v1))] [] ε μ) : o_X4_addDigits [(2, v0)] ε μ Q X := And.intro rfl (g_X4_addDigits_0 h)
/-! ArchYard$Page.write(JJJ)I -/
set_option maxRecDepth 20000 in
theorem g_X4_write_142 {Q X : m_Po} {v0 : Int} {ε : m_E} {μ : m_M} (h : TY ε μ → kd ε v0 = 4 ∧ Q (μ v0 3) ε μ) : G cd_X4_write Q X 142 [(0, (2, v0))] [] ε μ := by
  refine G_run (m_in [14, 21, 30, 37, 55, 66, 69, 82, 91, 96, 113, 128, 138, 142]) 20 _ _ _ _ ?_
  show m_ty [(0, (2, v0))] [] ε μ → (kd ε v0 = 4) ∧ Q (μ v0 3) ε μ
  intro hty
  replace h := h hty.1 
  obtain ⟨k1, h⟩ := h
  refine And.intro k1 ?_
  exact h
set_option maxRecDepth 20000 in
theorem g_X4_write_138 {Q X : m_Po} {v0 : Int} {ε : m_E} {μ : m_M} (h : TY ε μ → kd ε v0 = 4 ∧ o_X4_addDigits [(2, v0)] ε μ (fun z ε_1 μ_1 => G cd_X4_write Q X 142 [(0, (2, v0))] [] ε_1 μ_1) m_F) : G cd_X4_write Q X 138 [(0, (2, v0))] [] ε μ := by
  refine G_run (m_in [14, 21, 30, 37, 55, 66, 69, 82, 91, 96, 113, 128, 138, 142]) 20 _ _ _ _ ?_
  show m_ty [(0, (2, v0))] [] ε μ → (kd ε v0 = 4) ∧ o_X4_addDigits [(2, v0)] ε μ (fun z ε_1 μ_1 => G cd_X4_write Q X 142 [(0, (2, v0))] [] ε_1 μ_1) m_F
  intro hty
  replace h := h hty.1 
  obtain ⟨k1, h⟩ := h
  refine And.intro k1 ?_
  exact h
set_option maxRecDepth 20000 in
theorem g_X4_write_128 {Q X : m_Po} {v0 v13 : Int} {ε : m_E} {μ : m_M} (h : TY ε μ → i64 v13 → kd ε v0 = 4 ∧ kd ε (fn ε v0 2) = 8 ∧ o_X9_set [(2, fn ε v0 2), (1, 0), (1, v13)] ε μ (fun z ε_1 μ_1 => G cd_X4_write Q X 138 [(0, (2, v0))] [] ε_1 μ_1) m_F) : G cd_X4_write Q X 128 [(0, (2, v0)), (13, (1, v13))] [] ε μ := by
  refine G_run (m_in [14, 21, 30, 37, 55, 66, 69, 82, 91, 96, 113, 128, 138, 142]) 20 _ _ _ _ ?_
  show m_ty [(0, (2, v0)), (13, (1, v13))] [] ε μ → (kd ε v0 = 4) ∧ (kd ε (fn ε v0 2) = 8) ∧ o_X9_set [(2, fn ε v0 2), (1, 0), (1, v13)] ε μ (fun z ε_1 μ_1 => G cd_X4_write Q X 138 [(0, (2, v0))] [] ε_1 μ_1) m_F
  intro hty
  replace h := h hty.1 (hty.2.1 _ (List.mem_of_getElem? (i := 1) rfl))
  obtain ⟨k1, h⟩ := h
  refine And.intro k1 ?_
  obtain ⟨k2, h⟩ := h
  refine And.intro k2 ?_
  exact h
set_option maxRecDepth 20000 in
theorem g_X4_write_113 {Q X : m_Po} {v0 t : Int} {ε : m_E} {μ : m_M} (h : TY ε μ → i64 t → ∀ v13 : Int, v13 = t → (v13 = (1 : Int) → G cd_X4_write Q X 142 [(0, (2, v0))] [] ε μ) ∧ (v13 ≠ (1 : Int) → kd ε v0 = 4 ∧ o_X4_add [(2, v0), (0, 47)] ε μ (fun z ε_1 μ_1 => G cd_X4_write Q X 128 [(0, (2, v0)), (13, (1, v13))] [] ε_1 μ_1) m_F)) : G cd_X4_write Q X 113 [(0, (2, v0))] [(1, t)] ε μ := by
  refine G_run (m_in [14, 21, 30, 37, 55, 66, 69, 82, 91, 96, 113, 128, 138, 142]) 20 _ _ _ _ ?_
  show m_ty [(0, (2, v0))] [(1, t)] ε μ → ∀ v13 : Int, v13 = t → (v13 = (1 : Int) → G cd_X4_write Q X 142 [(0, (2, v0))] [] ε μ) ∧ (v13 ≠ (1 : Int) → (m_ty [(0, (2, v0)), (13, (1, v13))] [] ε μ → (kd ε v0 = 4) ∧ o_X4_add [(2, v0), (0, 47)] ε μ (fun z ε_1 μ_1 => G cd_X4_write Q X 128 [(0, (2, v0)), (13, (1, v13))] [] ε_1 μ_1) m_F))
  intro hty
  replace h := h hty.1 (hty.2.2 _ (List.mem_of_getElem? (i := 0) rfl))
  intro v13 e_v13
  replace h := h v13 e_v13
  obtain ⟨ha, hb⟩ := h
  refine And.intro (fun c1 => ?_) (fun c1 => ?_)
  · replace h := ha c1
    clear ha hb
    exact h
  · replace h := hb c1
    clear ha hb
    intro _
    obtain ⟨k1, h⟩ := h
    refine And.intro k1 ?_
    exact h
set_option maxRecDepth 20000 in
theorem g_X4_write_96 {Q X : m_Po} {v0 v5 v11 : Int} {ε : m_E} {μ : m_M} (h : TY ε μ → i64 v5 → i64 v11 → ((v11 ≠ (0 : Int) → v11 ≠ 0)) ∧ ∀ t : Int, t = (if v11 = (0 : Int) then v5 else w64 (Int.tdiv v5 v11)) → ∀ v13 : Int, v13 = t → (v13 = (1 : Int) → G cd_X4_write Q X 142 [(0, (2, v0))] [] ε μ) ∧ (v13 ≠ (1 : Int) → kd ε v0 = 4 ∧ o_X4_add [(2, v0), (0, 47)] ε μ (fun z ε_1 μ_1 => G cd_X4_write Q X 128 [(0, (2, v0)), (13, (1, v13))] [] ε_1 μ_1) m_F)) : G cd_X4_write Q X 96 [(0, (2, v0)), (5, (1, v5)), (11, (1, v11))] [] ε μ := by
  refine G_run (m_in [14, 21, 30, 37, 55, 66, 69, 82, 91, 96, 113, 128, 138, 142]) 20 _ _ _ _ ?_
  show m_ty [(0, (2, v0)), (5, (1, v5)), (11, (1, v11))] [] ε μ → (v11 ≠ (0 : Int) → (m_ty [(0, (2, v0)), (5, (1, v5)), (11, (1, v11))] [] ε μ → (v11 ≠ 0) ∧ G cd_X4_write Q X 113 [(0, (2, v0))] [(1, w64 (Int.tdiv v5 v11))] ε μ)) ∧ (v11 = (0 : Int) → (m_ty [(0, (2, v0)), (5, (1, v5))] [] ε μ → G cd_X4_write Q X 113 [(0, (2, v0))] [(1, v5)] ε μ))
  intro hty
  replace h := h hty.1 (hty.2.1 _ (List.mem_of_getElem? (i := 1) rfl)) (hty.2.1 _ (List.mem_of_getElem? (i := 2) rfl))
  obtain ⟨hc, hj⟩ := h
  refine And.intro (fun c0 => ?_) (fun c0 => ?_)
  · replace hc := hc c0
    intro _
    have k2 := hc
    refine And.intro k2 ?_
    exact g_X4_write_113 (fun _ _ => (hj _ (((if_neg (c0)).trans rfl)).symm))
  · intro _
    exact g_X4_write_113 (fun _ _ => (hj _ (((if_pos c0).trans rfl)).symm))
set_option maxRecDepth 20000 in
theorem g_X4_write_91 {Q X : m_Po} {v0 v5 v11 t : Int} {ε : m_E} {μ : m_M} (h : TY ε μ → i64 v5 → i64 v11 → i64 t → kd ε v0 = 4 ∧ o_X4_addDigits [(2, v0)] ε μ (fun z ε_1 μ_1 => G cd_X4_write Q X 96 [(0, (2, v0)), (5, (1, v5)), (11, (1, v11))] [] ε_1 μ_1) m_F) : G cd_X4_write Q X 91 [(0, (2, v0)), (5, (1, v5)), (11, (1, v11))] [(1, t)] ε μ := by
  refine G_run (m_in [14, 21, 30, 37, 55, 66, 69, 82, 91, 96, 113, 128, 138, 142]) 20 _ _ _ _ ?_
  show m_ty [(0, (2, v0)), (5, (1, v5)), (11, (1, v11))] [(1, t)] ε μ → (kd ε v0 = 4) ∧ o_X4_addDigits [(2, v0)] ε μ (fun z ε_1 μ_1 => G cd_X4_write Q X 96 [(0, (2, v0)), (5, (1, v5)), (11, (1, v11))] [] ε_1 μ_1) m_F
  intro hty
  replace h := h hty.1 (hty.2.1 _ (List.mem_of_getElem? (i := 1) rfl)) (hty.2.1 _ (List.mem_of_getElem? (i := 2) rfl)) (hty.2.2 _ (List.mem_of_getElem? (i := 0) rfl))
  obtain ⟨k1, h⟩ := h
  refine And.intro k1 ?_
  exact h
set_option maxRecDepth 20000 in
theorem g_X4_write_82 {Q X : m_Po} {v0 v5 v11 : Int} {ε : m_E} {μ : m_M} (h : TY ε μ → i64 v5 → i64 v11 → kd ε v0 = 4 ∧ kd ε (fn ε v0 2) = 8 ∧ o_X9_divide [(2, fn ε v0 2), (1, v11)] ε μ (fun z ε_1 μ_1 => G cd_X4_write Q X 91 [(0, (2, v0)), (5, (1, v5)), (11, (1, v11))] [(1, z)] ε_1 μ_1) m_F) : G cd_X4_write Q X 82 [(0, (2, v0)), (5, (1, v5)), (11, (1, v11))] [] ε μ := by
  refine G_run (m_in [14, 21, 30, 37, 55, 66, 69, 82, 91, 96, 113, 128, 138, 142]) 20 _ _ _ _ ?_
  show m_ty [(0, (2, v0)), (5, (1, v5)), (11, (1, v11))] [] ε μ → (kd ε v0 = 4) ∧ (kd ε (fn ε v0 2) = 8) ∧ o_X9_divide [(2, fn ε v0 2), (1, v11)] ε μ (fun z ε_1 μ_1 => G cd_X4_write Q X 91 [(0, (2, v0)), (5, (1, v5)), (11, (1, v11))] [(1, z)] ε_1 μ_1) m_F
  intro hty
  replace h := h hty.1 (hty.2.1 _ (List.mem_of_getElem? (i := 1) rfl)) (hty.2.1 _ (List.mem_of_getElem? (i := 2) rfl))
  obtain ⟨k1, h⟩ := h
  refine And.intro k1 ?_
  obtain ⟨k2, h⟩ := h
  refine And.intro k2 ?_
  exact h
set_option maxRecDepth 20000 in
theorem g_X4_write_69 {Q X : m_Po} {v0 v5 v7 v9 t : Int} {ε : m_E} {μ : m_M} (h : TY ε μ → i64 v5 → i64 v7 → i64 v9 → i64 t → ∀ v11 : Int, v11 = t → kd ε v0 = 4 ∧ kd ε (fn ε v0 2) = 8 ∧ o_X9_set [(2, fn ε v0 2), (1, v7), (1, v9)] ε μ (fun z ε_1 μ_1 => G cd_X4_write Q X 82 [(0, (2, v0)), (5, (1, v5)), (11, (1, v11))] [] ε_1 μ_1) m_F) : G cd_X4_write Q X 69 [(0, (2, v0)), (5, (1, v5)), (7, (1, v7)), (9, (1, v9))] [(1, t)] ε μ := by
  refine G_run (m_in [14, 21, 30, 37, 55, 66, 69, 82, 91, 96, 113, 128, 138, 142]) 20 _ _ _ _ ?_
  show m_ty [(0, (2, v0)), (5, (1, v5)), (7, (1, v7)), (9, (1, v9))] [(1, t)] ε μ → ∀ v11 : Int, v11 = t → (kd ε v0 = 4) ∧ (kd ε (fn ε v0 2) = 8) ∧ o_X9_set [(2, fn ε v0 2), (1, v7), (1, v9)] ε μ (fun z ε_1 μ_1 => G cd_X4_write Q X 82 [(0, (2, v0)), (5, (1, v5)), (11, (1, v11))] [] ε_1 μ_1) m_F
  intro hty
  replace h := h hty.1 (hty.2.1 _ (List.mem_of_getElem? (i := 1) rfl)) (hty.2.1 _ (List.mem_of_getElem? (i := 2) rfl)) (hty.2.1 _ (List.mem_of_getElem? (i := 3) rfl)) (hty.2.2 _ (List.mem_of_getElem? (i := 0) rfl))
  intro v11 e_v11
  replace h := h v11 e_v11
  obtain ⟨k1, h⟩ := h
  refine And.intro k1 ?_
  obtain ⟨k2, h⟩ := h
  refine And.intro k2 ?_
  exact h
set_option maxRecDepth 20000 in
theorem g_X4_write_66 {Q X : m_Po} {v0 v5 v7 v9 t t_1 : Int} {ε : m_E} {μ : m_M} (h : TY ε μ → i64 v5 → i64 v7 → i64 v9 → i64 t → i64 t_1 → o_X10_commonDivisor [(1, t), (1, t_1)] ε μ (fun z ε_1 μ_1 => G cd_X4_write Q X 69 [(0, (2, v0)), (5, (1, v5)), (7, (1, v7)), (9, (1, v9))] [(1, z)] ε_1 μ_1) m_F) : G cd_X4_write Q X 66 [(0, (2, v0)), (5, (1, v5)), (7, (1, v7)), (9, (1, v9))] [(1, t_1), (1, t)] ε μ := by
  refine G_run (m_in [14, 21, 30, 37, 55, 66, 69, 82, 91, 96, 113, 128, 138, 142]) 20 _ _ _ _ ?_
  show m_ty [(0, (2, v0)), (5, (1, v5)), (7, (1, v7)), (9, (1, v9))] [(1, t_1), (1, t)] ε μ → o_X10_commonDivisor [(1, t), (1, t_1)] ε μ (fun z ε_1 μ_1 => G cd_X4_write Q X 69 [(0, (2, v0)), (5, (1, v5)), (7, (1, v7)), (9, (1, v9))] [(1, z)] ε_1 μ_1) m_F
  intro hty
  replace h := h hty.1 (hty.2.1 _ (List.mem_of_getElem? (i := 1) rfl)) (hty.2.1 _ (List.mem_of_getElem? (i := 2) rfl)) (hty.2.1 _ (List.mem_of_getElem? (i := 3) rfl)) (hty.2.2 _ (List.mem_of_getElem? (i := 1) rfl)) (hty.2.2 _ (List.mem_of_getElem? (i := 0) rfl))
  exact h
set_option maxRecDepth 20000 in
theorem g_X4_write_55 {Q X : m_Po} {v0 v5 v7 v9 : Int} {ε : m_E} {μ : m_M} (h : TY ε μ → i64 v5 → i64 v7 → i64 v9 → kd ε v0 = 4 ∧ kd ε (fn ε v0 2) = 8 ∧ o_X9_divide [(2, fn ε v0 2), (1, v5)] ε μ (fun z ε_1 μ_1 => G cd_X4_write Q X 66 [(0, (2, v0)), (5, (1, v5)), (7, (1, v7)), (9, (1, v9))] [(1, z), (1, v5)] ε_1 μ_1) m_F) : G cd_X4_write Q X 55 [(0, (2, v0)), (5, (1, v5)), (7, (1, v7)), (9, (1, v9))] [] ε μ := by
  refine G_run (m_in [14, 21, 30, 37, 55, 66, 69, 82, 91, 96, 113, 128, 138, 142]) 20 _ _ _ _ ?_
  show m_ty [(0, (2, v0)), (5, (1, v5)), (7, (1, v7)), (9, (1, v9))] [] ε μ → (kd ε v0 = 4) ∧ (kd ε (fn ε v0 2) = 8) ∧ o_X9_divide [(2, fn ε v0 2), (1, v5)] ε μ (fun z ε_1 μ_1 => G cd_X4_write Q X 66 [(0, (2, v0)), (5, (1, v5)), (7, (1, v7)), (9, (1, v9))] [(1, z), (1, v5)] ε_1 μ_1) m_F
  intro hty
  replace h := h hty.1 (hty.2.1 _ (List.mem_of_getElem? (i := 1) rfl)) (hty.2.1 _ (List.mem_of_getElem? (i := 2) rfl)) (hty.2.1 _ (List.mem_of_getElem? (i := 3) rfl))
  obtain ⟨k1, h⟩ := h
  refine And.intro k1 ?_
  obtain ⟨k2, h⟩ := h
  refine And.intro k2 ?_
  exact h
set_option maxRecDepth 20000 in
theorem g_X4_write_37 {Q X : m_Po} {v0 v5 : Int} {ε : m_E} {μ : m_M} (h : TY ε μ → i64 v5 → kd ε v0 = 4 ∧ kd ε (fn ε v0 2) = 8 ∧ ∀ v7 : Int, v7 = μ (fn ε v0 2) 0 → ∀ v9 : Int, v9 = μ (fn ε v0 2) 1 → kd ε v0 = 4 ∧ kd ε (fn ε v0 2) = 8 ∧ o_X9_divide [(2, fn ε v0 2), (1, v5)] ε μ (fun z ε_1 μ_1 => G cd_X4_write Q X 66 [(0, (2, v0)), (5, (1, v5)), (7, (1, v7)), (9, (1, v9))] [(1, z), (1, v5)] ε_1 μ_1) m_F) : G cd_X4_write Q X 37 [(0, (2, v0)), (5, (1, v5))] [] ε μ := by
  refine G_run (m_in [14, 21, 30, 37, 55, 66, 69, 82, 91, 96, 113, 128, 138, 142]) 20 _ _ _ _ ?_
  show m_ty [(0, (2, v0)), (5, (1, v5))] [] ε μ → (kd ε v0 = 4) ∧ (kd ε (fn ε v0 2) = 8) ∧ ∀ v7 : Int, v7 = μ (fn ε v0 2) 0 → (kd ε v0 = 4) ∧ (kd ε (fn ε v0 2) = 8) ∧ ∀ v9 : Int, v9 = μ (fn ε v0 2) 1 → G cd_X4_write Q X 55 [(0, (2, v0)), (5, (1, v5)), (7, (1, v7)), (9, (1, v9))] [] ε μ
  intro hty
  replace h := h hty.1 (hty.2.1 _ (List.mem_of_getElem? (i := 1) rfl))
  obtain ⟨k1, h⟩ := h
  refine And.intro k1 ?_
  obtain ⟨k2, h⟩ := h
  refine And.intro k2 ?_
  intro v7 e_v7
  replace h := h v7 e_v7
  refine And.intro k1 ?_
  refine And.intro k2 ?_
  intro v9 e_v9
  replace h := h v9 e_v9
  exact g_X4_write_55 (fun _ _ _ _ => h)
set_option maxRecDepth 20000 in
theorem g_X4_write_30 {Q X : m_Po} {v0 v5 : Int} {ε : m_E} {μ : m_M} (h : TY ε μ → i64 v5 → kd ε v0 = 4 ∧ kd ε (fn ε v0 2) = 8 ∧ o_X9_negate [(2, fn ε v0 2)] ε μ (fun z ε_1 μ_1 => G cd_X4_write Q X 37 [(0, (2, v0)), (5, (1, v5))] [] ε_1 μ_1) m_F) : G cd_X4_write Q X 30 [(0, (2, v0)), (5, (1, v5))] [] ε μ := by
  refine G_run (m_in [14, 21, 30, 37, 55, 66, 69, 82, 91, 96, 113, 128, 138, 142]) 20 _ _ _ _ ?_
  show m_ty [(0, (2, v0)), (5, (1, v5))] [] ε μ → (kd ε v0 = 4) ∧ (kd ε (fn ε v0 2) = 8) ∧ o_X9_negate [(2, fn ε v0 2)] ε μ (fun z ε_1 μ_1 => G cd_X4_write Q X 37 [(0, (2, v0)), (5, (1, v5))] [] ε_1 μ_1) m_F
  intro hty
  replace h := h hty.1 (hty.2.1 _ (List.mem_of_getElem? (i := 1) rfl))
  obtain ⟨k1, h⟩ := h
  refine And.intro k1 ?_
  obtain ⟨k2, h⟩ := h
  refine And.intro k2 ?_
  exact h
set_option maxRecDepth 20000 in
theorem g_X4_write_21 {Q X : m_Po} {v0 v5 t : Int} {ε : m_E} {μ : m_M} (h : TY ε μ → i64 v5 → i32 t → (0 ≤ t → G cd_X4_write Q X 37 [(0, (2, v0)), (5, (1, v5))] [] ε μ) ∧ (t < 0 → kd ε v0 = 4 ∧ o_X4_add [(2, v0), (0, 45)] ε μ (fun z ε_1 μ_1 => G cd_X4_write Q X 30 [(0, (2, v0)), (5, (1, v5))] [] ε_1 μ_1) m_F)) : G cd_X4_write Q X 21 [(0, (2, v0)), (5, (1, v5))] [(0, t)] ε μ := by
  refine G_run (m_in [14, 21, 30, 37, 55, 66, 69, 82, 91, 96, 113, 128, 138, 142]) 20 _ _ _ _ ?_
  show m_ty [(0, (2, v0)), (5, (1, v5))] [(0, t)] ε μ → (0 ≤ t → G cd_X4_write Q X 37 [(0, (2, v0)), (5, (1, v5))] [] ε μ) ∧ (t < 0 → (m_ty [(0, (2, v0)), (5, (1, v5))] [] ε μ → (kd ε v0 = 4) ∧ o_X4_add [(2, v0), (0, 45)] ε μ (fun z ε_1 μ_1 => G cd_X4_write Q X 30 [(0, (2, v0)), (5, (1, v5))] [] ε_1 μ_1) m_F))
  intro hty
  replace h := h hty.1 (hty.2.1 _ (List.mem_of_getElem? (i := 1) rfl)) (hty.2.2 _ (List.mem_of_getElem? (i := 0) rfl))
  obtain ⟨ha, hb⟩ := h
  refine And.intro (fun c1 => ?_) (fun c1 => ?_)
  · replace h := ha c1
    clear ha hb
    exact h
  · replace h := hb c1
    clear ha hb
    intro _
    obtain ⟨k1, h⟩ := h
    refine And.intro k1 ?_
    exact h
set_option maxRecDepth 20000 in
theorem g_X4_write_14 {Q X : m_Po} {v0 v5 : Int} {ε : m_E} {μ : m_M} (h : TY ε μ → i64 v5 → kd ε v0 = 4 ∧ kd ε (fn ε v0 2) = 8 ∧ o_X9_sign [(2, fn ε v0 2)] ε μ (fun z ε_1 μ_1 => G cd_X4_write Q X 21 [(0, (2, v0)), (5, (1, v5))] [(0, z)] ε_1 μ_1) m_F) : G cd_X4_write Q X 14 [(0, (2, v0)), (5, (1, v5))] [] ε μ := by
  refine G_run (m_in [14, 21, 30, 37, 55, 66, 69, 82, 91, 96, 113, 128, 138, 142]) 20 _ _ _ _ ?_
  show m_ty [(0, (2, v0)), (5, (1, v5))] [] ε μ → (kd ε v0 = 4) ∧ (kd ε (fn ε v0 2) = 8) ∧ o_X9_sign [(2, fn ε v0 2)] ε μ (fun z ε_1 μ_1 => G cd_X4_write Q X 21 [(0, (2, v0)), (5, (1, v5))] [(0, z)] ε_1 μ_1) m_F
  intro hty
  replace h := h hty.1 (hty.2.1 _ (List.mem_of_getElem? (i := 1) rfl))
  obtain ⟨k1, h⟩ := h
  refine And.intro k1 ?_
  obtain ⟨k2, h⟩ := h
  refine And.intro k2 ?_
  exact h
set_option maxRecDepth 20000 in
theorem g_X4_write_0 {Q X : m_Po} {v0 v1 v3 v5 : Int} {ε : m_E} {μ : m_M} (h : TY ε μ → i64 v1 → i64 v3 → i64 v5 → kd ε v0 = 4 ∧ ∀ μ_1 : m_M, μ_1 = st μ v0 3 0 → kd ε (fn ε v0 2) = 8 ∧ o_X9_set [(2, fn ε v0 2), (1, v1), (1, v3)] ε μ_1 (fun z ε_1 μ_2 => G cd_X4_write Q X 14 [(0, (2, v0)), (5, (1, v5))] [] ε_1 μ_2) m_F) : G cd_X4_write Q X 0 [(0, (2, v0)), (1, (1, v1)), (3, (1, v3)), (5, (1, v5))] [] ε μ := by
  refine G_run (m_in [14, 21, 30, 37, 55, 66, 69, 82, 91, 96, 113, 128, 138, 142]) 20 _ _ _ _ ?_
  show m_ty [(0, (2, v0)), (1, (1, v1)), (3, (1, v3)), (5, (1, v5))] [] ε μ → (kd ε v0 = 4) ∧ ∀ μ_1 : m_M, μ_1 = st μ v0 3 0 → (kd ε v0 = 4) ∧ (kd ε (fn ε v0 2) = 8) ∧ o_X9_set [(2, fn ε v0 2), (1, v1), (1, v3)] ε μ_1 (fun z ε_1 μ_2 => G cd_X4_write Q X 14 [(0, (2, v0)), (5, (1, v5))] [] ε_1 μ_2) m_F
  intro hty
  replace h := h hty.1 (hty.2.1 _ (List.mem_of_getElem? (i := 1) rfl)) (hty.2.1 _ (List.mem_of_getElem? (i := 2) rfl)) (hty.2.1 _ (List.mem_of_getElem? (i := 3) rfl))
  obtain ⟨k1, h⟩ := h
  refine And.intro k1 ?_
  intro μ_1 e_μ_1
  replace h := h μ_1 e_μ_1
  refine And.intro k1 ?_
  obtain ⟨k2, h⟩ := h
  refine And.intro k2 ?_
  exact h
theorem e_X4_write {Q X : m_Po} {v0 v1 v3 v5 : Int} {ε : m_E} {μ : m_M} (h : TY ε μ → i64 v1 → i64 v3 → i64 v5 → kd ε v0 = 4 ∧ ∀ μ_1 : m_M, μ_1 = st μ v0 3 0 → kd ε (fn ε v0 2) = 8 ∧ o_X9_set [(2, fn ε v0 2), (1, v1), (1, v3)] ε μ_1 (fun z ε_1 μ_2 => G cd_X4_write Q X 14 [(0, (2, v0)), (5, (1, v5))] [] ε_1 μ_2) m_F) : o_X4_write [(2, v0), (1, v1), (1, v3), (1, v5)] ε μ Q X := And.intro rfl (g_X4_write_0 h)
/-! ArchYard$Rack.<init>(Z)V -/
set_option maxRecDepth 20000 in
theorem g_X5_init_28 {Q X : m_Po} {v0 v2 : Int} {ε : m_E} {μ : m_M} (h : TY ε μ → i32 v2 → ((40 : Int) ≤ v2 → Q 0 ε μ) ∧ (v2 < (40 : Int) → kd ε v0 = 5 ∧ kd ε (fn ε v0 1) = 100 ∧ (0 : Int) ≤ v2 ∧ v2 < ln ε (fn ε v0 1) ∧ ∀ μ_1 : m_M, μ_1 = st μ (fn ε v0 1) v2 (-1) → ∀ v2_1 : Int, v2_1 = w32 (v2 + 1) → G cd_X5_init Q X 28 [(0, (2, v0)), (2, (0, v2_1))] [] ε μ_1)) : G cd_X5_init Q X 28 [(0, (2, v0)), (2, (0, v2))] [] ε μ := by
  refine G_run (m_in [28]) 5 _ _ _ _ ?_
  show m_ty [(0, (2, v0)), (2, (0, v2))] [] ε μ → ((40 : Int) ≤ v2 → (m_ty [] [] ε μ → Q 0 ε μ)) ∧ (v2 < (40 : Int) → (m_ty [(0, (2, v0)), (2, (0, v2))] [] ε μ → (kd ε v0 = 5) ∧ (kd ε (fn ε v0 1) = 100) ∧ ((0 : Int) ≤ v2 ∧ v2 < ln ε (fn ε v0 1)) ∧ ∀ μ_1 : m_M, μ_1 = st μ (fn ε v0 1) v2 (-1) → ∀ v2_1 : Int, v2_1 = w32 (v2 + 1) → G cd_X5_init Q X 28 [(0, (2, v0)), (2, (0, v2_1))] [] ε μ_1))
  intro hty
  replace h := h hty.1 (hty.2.1 _ (List.mem_of_getElem? (i := 1) rfl))
  obtain ⟨ha, hb⟩ := h
  refine And.intro (fun c4 => ?_) (fun c4 => ?_)
  · replace h := ha c4
    clear ha hb
    intro _
    exact h
  · replace h := hb c4
    clear ha hb
    intro _
    obtain ⟨k1, h⟩ := h
    refine And.intro k1 ?_
    obtain ⟨k2, h⟩ := h
    refine And.intro k2 ?_
    obtain ⟨k3, h⟩ := h
    obtain ⟨k4, h⟩ := h
    refine And.intro (And.intro k3 k4) ?_
    intro μ_1 e_μ_1
    replace h := h μ_1 e_μ_1
    intro v2_1 e_v2_1
    replace h := h v2_1 e_v2_1
    exact h
set_option maxRecDepth 20000 in
theorem g_X5_init_0 {Q X : m_Po} {v0 v1 : Int} {ε : m_E} {μ : m_M} (h : TY ε μ → i32 v1 → 0 < v0 ∧ ∀ (a : Int) (ε_1 : m_E) (μ_1 : m_M), a = nx ε → ε_1 = ealloc ε 100 40 → μ_1 = mnew μ a → kd ε_1 v0 = 5 ∧ ∀ ε_2 : m_E, ε_2 = efin ε_1 v0 1 a → ∀ (a_1 : Int) (ε_3 : m_E) (μ_2 : m_M), a_1 = nx ε_2 → ε_3 = ealloc ε_2 100 1600 → μ_2 = mnew μ_1 a_1 → kd ε_3 v0 = 5 ∧ ∀ ε_4 : m_E, ε_4 = efin ε_3 v0 2 a_1 → kd ε_4 v0 = 5 ∧ (v1 = 0 ∨ v1 = 1) ∧ ∀ ε_5 : m_E, ε_5 = efin ε_4 v0 0 v1 → ∀ v2 : Int, v2 = 0 → G cd_X5_init Q X 28 [(0, (2, v0)), (2, (0, v2))] [] ε_5 μ_2) : G cd_X5_init Q X 0 [(0, (2, v0)), (1, (0, v1))] [] ε μ := by
  refine G_run (m_in [28]) 5 _ _ _ _ ?_
  show m_ty [(0, (2, v0)), (1, (0, v1))] [] ε μ → (0 < v0) ∧ m_cs [] ≤ 8 ∧ ((0 : Int) ≤ 40 ∧ (40 : Int) ≤ 40) ∧ ∀ (a : Int) (ε_1 : m_E) (μ_1 : m_M), a = nx ε → ε_1 = ealloc ε 100 40 → μ_1 = mnew μ a → (kd ε_1 v0 = 5) ∧ ∀ ε_2 : m_E, ε_2 = efin ε_1 v0 1 a → ((0 : Int) ≤ 1600 ∧ (1600 : Int) ≤ 1600) ∧ ∀ (a_1 : Int) (ε_3 : m_E) (μ_2 : m_M), a_1 = nx ε_2 → ε_3 = ealloc ε_2 100 1600 → μ_2 = mnew μ_1 a_1 → (kd ε_3 v0 = 5) ∧ ∀ ε_4 : m_E, ε_4 = efin ε_3 v0 2 a_1 → (kd ε_4 v0 = 5) ∧ (v1 = 0 ∨ v1 = 1) ∧ ∀ ε_5 : m_E, ε_5 = efin ε_4 v0 0 v1 → ∀ v2 : Int, v2 = 0 → G cd_X5_init Q X 28 [(0, (2, v0)), (2, (0, v2))] [] ε_5 μ_2
  intro hty
  replace h := h hty.1 (hty.2.1 _ (List.mem_of_getElem? (i := 1) rfl))
  obtain ⟨k1, h⟩ := h
  refine And.intro k1 ?_
  refine And.intro (Nat.le_of_ble_eq_true rfl) ?_
  refine And.intro (And.intro (by decide) (by decide)) ?_
  intro a ε_1 μ_1 e_a e_ε_1 e_μ_1
  replace h := h a ε_1 μ_1 e_a e_ε_1 e_μ_1
  obtain ⟨k2, h⟩ := h
  refine And.intro k2 ?_
  intro ε_2 e_ε_2
  replace h := h ε_2 e_ε_2
  refine And.intro (And.intro (by decide) (by decide)) ?_
  intro a_1 ε_3 μ_2 e_a_1 e_ε_3 e_μ_2
  replace h := h a_1 ε_3 μ_2 e_a_1 e_ε_3 e_μ_2
  obtain ⟨k3, h⟩ := h
  refine And.intro k3 ?_
  intro ε_4 e_ε_4
  replace h := h ε_4 e_ε_4
  obtain ⟨k4, h⟩ := h
  refine And.intro k4 ?_
  obtain ⟨k5, h⟩ := h
  refine And.intro k5 ?_
  intro ε_5 e_ε_5
  replace h := h ε_5 e_ε_5
  intro v2 e_v2
  replace h := h v2 e_v2
  exact h
theorem e_X5_init {Q X : m_Po} {v0 v1 : Int} {ε : m_E} {μ : m_M} (h : TY ε μ → i32 v1 → 0 < v0 ∧ ∀ (a : Int) (ε_1 : m_E) (μ_1 : m_M), a = nx ε → ε_1 = ealloc ε 100 40 → μ_1 = mnew μ a → kd ε_1 v0 = 5 ∧ ∀ ε_2 : m_E, ε_2 = efin ε_1 v0 1 a → ∀ (a_1 : Int) (ε_3 : m_E) (μ_2 : m_M), a_1 = nx ε_2 → ε_3 = ealloc ε_2 100 1600 → μ_2 = mnew μ_1 a_1 → kd ε_3 v0 = 5 ∧ ∀ ε_4 : m_E, ε_4 = efin ε_3 v0 2 a_1 → kd ε_4 v0 = 5 ∧ (v1 = 0 ∨ v1 = 1) ∧ ∀ ε_5 : m_E, ε_5 = efin ε_4 v0 0 v1 → ∀ v2 : Int, v2 = 0 → G cd_X5_init Q X 28 [(0, (2, v0)), (2, (0, v2))] [] ε_5 μ_2) : o_X5_init [(2, v0), (0, v1)] ε μ Q X := And.intro rfl (g_X5_init_0 h)
/-! ArchYard$Rack.sizeOf(I)I -/
set_option maxRecDepth 20000 in
theorem g_X5_sizeOf_20 {Q X : m_Po} {t : Int} {ε : m_E} {μ : m_M} (h : TY ε μ → i32 t → Q t ε μ) : G cd_X5_sizeOf Q X 20 [] [(0, t)] ε μ := by
  refine G_run (m_in [20]) 6 _ _ _ _ ?_
  show m_ty [] [(0, t)] ε μ → Q t ε μ
  intro hty
  replace h := h hty.1 (hty.2.2 _ (List.mem_of_getElem? (i := 0) rfl))
  exact h
set_option maxRecDepth 20000 in
theorem g_X5_sizeOf_0 {Q X : m_Po} {v0 v1 : Int} {ε : m_E} {μ : m_M} (h : TY ε μ → i32 v1 → ((0 ≤ v1 → (v1 < (40 : Int) → kd ε v0 = 5 ∧ kd ε (fn ε v0 1) = 100 ∧ (0 : Int) ≤ v1 ∧ v1 < ln ε (fn ε v0 1)))) ∧ ∀ t : Int, t = (if v1 < 0 then (-1) else if (40 : Int) ≤ v1 then (-1) else μ (fn ε v0 1) v1) → Q t ε μ) : G cd_X5_sizeOf Q X 0 [(0, (2, v0)), (1, (0, v1))] [] ε μ := by
  refine G_run (m_in [20]) 6 _ _ _ _ ?_
  show m_ty [(0, (2, v0)), (1, (0, v1))] [] ε μ → (v1 < 0 → (m_ty [] [] ε μ → G cd_X5_sizeOf Q X 20 [] [(0, (-1))] ε μ)) ∧ (0 ≤ v1 → (m_ty [(0, (2, v0)), (1, (0, v1))] [] ε μ → ((40 : Int) ≤ v1 → (m_ty [] [] ε μ → G cd_X5_sizeOf Q X 20 [] [(0, (-1))] ε μ)) ∧ (v1 < (40 : Int) → (m_ty [(0, (2, v0)), (1, (0, v1))] [] ε μ → (kd ε v0 = 5) ∧ (kd ε (fn ε v0 1) = 100) ∧ ((0 : Int) ≤ v1 ∧ v1 < ln ε (fn ε v0 1)) ∧ G cd_X5_sizeOf Q X 20 [] [(0, μ (fn ε v0 1) v1)] ε μ))))
  intro hty
  replace h := h hty.1 (hty.2.1 _ (List.mem_of_getElem? (i := 1) rfl))
  obtain ⟨hc, hj⟩ := h
  refine And.intro (fun c0 => ?_) (fun c0 => ?_)
  · intro _
    exact g_X5_sizeOf_20 (fun _ _ => (hj _ (((if_pos c0).trans rfl)).symm))
  · replace hc := hc c0
    intro _
    refine And.intro (fun c1 => ?_) (fun c1 => ?_)
    · intro _
      exact g_X5_sizeOf_20 (fun _ _ => (hj _ (((if_neg (Int.not_lt.mpr c0)).trans ((if_pos c1).trans rfl))).symm))
    · replace hc := hc c1
      intro _
      obtain ⟨k3, k4, k5, k6⟩ := hc
      refine And.intro k3 ?_
      refine And.intro k4 ?_
      refine And.intro (And.intro k5 k6) ?_
      exact g_X5_sizeOf_20 (fun _ _ => (hj _ (((if_neg (Int.not_lt.mpr c0)).trans ((if_neg (Int.not_le.mpr c1)).trans rfl))).symm))
theorem e_X5_sizeOf {Q X : m_Po} {v0 v1 : Int} {ε : m_E} {μ : m_M} (h : TY ε μ → i32 v1 → ((0 ≤ v1 → (v1 < (40 : Int) → kd ε v0 = 5 ∧ kd ε (fn ε v0 1) = 100 ∧ (0 : Int) ≤ v1 ∧ v1 < ln ε (fn ε v0 1)))) ∧ ∀ t : Int, t = (if v1 < 0 then (-1) else if (40 : Int) ≤ v1 then (-1) else μ (fn ε v0 1) v1) → Q t ε μ) : o_X5_sizeOf [(2, v0), (0, v1)] ε μ Q X := And.intro rfl (g_X5_sizeOf_0 h)
/-! ArchYard$Rack.lay(II)V -/
set_option maxRecDepth 20000 in
theorem g_X5_lay_30 {Q X : m_Po} {v0 v1 v3 : Int} {ε : m_E} {μ : m_M} (h : TY ε μ → i32 v1 → i32 v3 → ((40 : Int) ≤ v3 → Q 0 ε μ) ∧ (v3 < (40 : Int) → kd ε v0 = 5 ∧ kd ε (fn ε v0 2) = 100 ∧ (0 : Int) ≤ w32 ((w32 (v1 * 40)) + v3) ∧ w32 ((w32 (v1 * 40)) + v3) < ln ε (fn ε v0 2) ∧ ∀ μ_1 : m_M, μ_1 = st μ (fn ε v0 2) (w32 ((w32 (v1 * 40)) + v3)) 0 → ∀ v3_1 : Int, v3_1 = w32 (v3 + 1) → G cd_X5_lay Q X 30 [(0, (2, v0)), (1, (0, v1)), (3, (0, v3_1))] [] ε μ_1)) : G cd_X5_lay Q X 30 [(0, (2, v0)), (1, (0, v1)), (3, (0, v3))] [] ε μ := by
  refine G_run (m_in [30]) 10 _ _ _ _ ?_
  show m_ty [(0, (2, v0)), (1, (0, v1)), (3, (0, v3))] [] ε μ → ((40 : Int) ≤ v3 → (m_ty [] [] ε μ → Q 0 ε μ)) ∧ (v3 < (40 : Int) → (m_ty [(0, (2, v0)), (1, (0, v1)), (3, (0, v3))] [] ε μ → (kd ε v0 = 5) ∧ (kd ε (fn ε v0 2) = 100) ∧ ((0 : Int) ≤ w32 ((w32 (v1 * 40)) + v3) ∧ w32 ((w32 (v1 * 40)) + v3) < ln ε (fn ε v0 2)) ∧ ∀ μ_1 : m_M, μ_1 = st μ (fn ε v0 2) (w32 ((w32 (v1 * 40)) + v3)) 0 → ∀ v3_1 : Int, v3_1 = w32 (v3 + 1) → G cd_X5_lay Q X 30 [(0, (2, v0)), (1, (0, v1)), (3, (0, v3_1))] [] ε μ_1))
  intro hty
  replace h := h hty.1 (hty.2.1 _ (List.mem_of_getElem? (i := 1) rfl)) (hty.2.1 _ (List.mem_of_getElem? (i := 2) rfl))
  obtain ⟨ha, hb⟩ := h
  refine And.intro (fun c4 => ?_) (fun c4 => ?_)
  · replace h := ha c4
    clear ha hb
    intro _
    exact h
  · replace h := hb c4
    clear ha hb
    intro _
    obtain ⟨k1, h⟩ := h
    refine And.intro k1 ?_
    obtain ⟨k2, h⟩ := h
    refine And.intro k2 ?_
    obtain ⟨k3, h⟩ := h
    obtain ⟨k4, h⟩ := h
    refine And.intro (And.intro k3 k4) ?_
    intro μ_1 e_μ_1
    replace h := h μ_1 e_μ_1
    intro v3_1 e_v3_1
    replace h := h v3_1 e_v3_1
    exact h
set_option maxRecDepth 20000 in
theorem g_X5_lay_0 {Q X : m_Po} {v0 v1 v2 : Int} {ε : m_E} {μ : m_M} (h : TY ε μ → i32 v1 → i32 v2 → (v1 < 0 → Q 0 ε μ) ∧ (0 ≤ v1 → ((40 : Int) ≤ v1 → Q 0 ε μ) ∧ (v1 < (40 : Int) → (v2 < 0 → Q 0 ε μ) ∧ (0 ≤ v2 → (v2 ≤ (40 : Int) → kd ε v0 = 5 ∧ kd ε (fn ε v0 1) = 100 ∧ (0 : Int) ≤ v1 ∧ v1 < ln ε (fn ε v0 1) ∧ ∀ μ_1 : m_M, μ_1 = st μ (fn ε v0 1) v1 v2 → ∀ v3 : Int, v3 = 0 → G cd_X5_lay Q X 30 [(0, (2, v0)), (1, (0, v1)), (3, (0, v3))] [] ε μ_1) ∧ ((40 : Int) < v2 → Q 0 ε μ))))) : G cd_X5_lay Q X 0 [(0, (2, v0)), (1, (0, v1)), (2, (0, v2))] [] ε μ := by
  refine G_run (m_in [30]) 10 _ _ _ _ ?_
  show m_ty [(0, (2, v0)), (1, (0, v1)), (2, (0, v2))] [] ε μ → (v1 < 0 → (m_ty [] [] ε μ → Q 0 ε μ)) ∧ (0 ≤ v1 → (m_ty [(0, (2, v0)), (1, (0, v1)), (2, (0, v2))] [] ε μ → ((40 : Int) ≤ v1 → (m_ty [] [] ε μ → Q 0 ε μ)) ∧ (v1 < (40 : Int) → (m_ty [(0, (2, v0)), (1, (0, v1)), (2, (0, v2))] [] ε μ → (v2 < 0 → (m_ty [] [] ε μ → Q 0 ε μ)) ∧ (0 ≤ v2 → (m_ty [(0, (2, v0)), (1, (0, v1)), (2, (0, v2))] [] ε μ → (v2 ≤ (40 : Int) → (m_ty [(0, (2, v0)), (1, (0, v1)), (2, (0, v2))] [] ε μ → (kd ε v0 = 5) ∧ (kd ε (fn ε v0 1) = 100) ∧ ((0 : Int) ≤ v1 ∧ v1 < ln ε (fn ε v0 1)) ∧ ∀ μ_1 : m_M, μ_1 = st μ (fn ε v0 1) v1 v2 → ∀ v3 : Int, v3 = 0 → G cd_X5_lay Q X 30 [(0, (2, v0)), (1, (0, v1)), (3, (0, v3))] [] ε μ_1)) ∧ ((40 : Int) < v2 → (m_ty [] [] ε μ → Q 0 ε μ))))))))
  intro hty
  replace h := h hty.1 (hty.2.1 _ (List.mem_of_getElem? (i := 1) rfl)) (hty.2.1 _ (List.mem_of_getElem? (i := 2) rfl))
  obtain ⟨ha, hb⟩ := h
  refine And.intro (fun c7 => ?_) (fun c7 => ?_)
  · replace h := ha c7
    clear ha hb
    intro _
    exact h
  · replace h := hb c7
    clear ha hb
    intro _
    obtain ⟨ha, hb⟩ := h
    refine And.intro (fun c6 => ?_) (fun c6 => ?_)
    · replace h := ha c6
      clear ha hb
      intro _
      exact h
    · replace h := hb c6
      clear ha hb
      intro _
      obtain ⟨ha, hb⟩ := h
      refine And.intro (fun c5 => ?_) (fun c5 => ?_)
      · replace h := ha c5
        clear ha hb
        intro _
        exact h
      · replace h := hb c5
        clear ha hb
        intro _
        obtain ⟨ha, hb⟩ := h
        refine And.intro (fun c4 => ?_) (fun c4 => ?_)
        · replace h := ha c4
          clear ha hb
          intro _
          obtain ⟨k1, h⟩ := h
          refine And.intro k1 ?_
          obtain ⟨k2, h⟩ := h
          refine And.intro k2 ?_
          obtain ⟨k3, h⟩ := h
          obtain ⟨k4, h⟩ := h
          refine And.intro (And.intro k3 k4) ?_
          intro μ_1 e_μ_1
          replace h := h μ_1 e_μ_1
          intro v3 e_v3
          replace h := h v3 e_v3
          exact h
        · replace h := hb c4
          clear ha hb
          intro _
          exact h
theorem e_X5_lay {Q X : m_Po} {v0 v1 v2 : Int} {ε : m_E} {μ : m_M} (h : TY ε μ → i32 v1 → i32 v2 → (v1 < 0 → Q 0 ε μ) ∧ (0 ≤ v1 → ((40 : Int) ≤ v1 → Q 0 ε μ) ∧ (v1 < (40 : Int) → (v2 < 0 → Q 0 ε μ) ∧ (0 ≤ v2 → (v2 ≤ (40 : Int) → kd ε v0 = 5 ∧ kd ε (fn ε v0 1) = 100 ∧ (0 : Int) ≤ v1 ∧ v1 < ln ε (fn ε v0 1) ∧ ∀ μ_1 : m_M, μ_1 = st μ (fn ε v0 1) v1 v2 → ∀ v3 : Int, v3 = 0 → G cd_X5_lay Q X 30 [(0, (2, v0)), (1, (0, v1)), (3, (0, v3))] [] ε μ_1) ∧ ((40 : Int) < v2 → Q 0 ε μ))))) : o_X5_lay [(2, v0), (0, v1), (0, v2)] ε μ Q X := And.intro rfl (g_X5_lay_0 h)
/-! ArchYard$Rack.exchange(III)I -/
set_option maxRecDepth 20000 in
theorem g_X5_exchange_58 {Q X : m_Po} {v5 t t_1 t_2 : Int} {ε : m_E} {μ : m_M} (h : TY ε μ → i32 v5 → i32 t_1 → i32 t_2 → kd ε t = 100 ∧ (0 : Int) ≤ t_1 ∧ t_1 < ln ε t ∧ ∀ μ_1 : m_M, μ_1 = st μ t t_1 t_2 → Q v5 ε μ_1) : G cd_X5_exchange Q X 58 [(5, (0, v5))] [(0, t_2), (0, t_1), (2, t)] ε μ := by
  refine G_run (m_in [16, 39, 58]) 11 _ _ _ _ ?_
  show m_ty [(5, (0, v5))] [(0, t_2), (0, t_1), (2, t)] ε μ → (kd ε t = 100) ∧ ((0 : Int) ≤ t_1 ∧ t_1 < ln ε t) ∧ ∀ μ_1 : m_M, μ_1 = st μ t t_1 t_2 → Q v5 ε μ_1
  intro hty
  replace h := h hty.1 (hty.2.1 _ (List.mem_of_getElem? (i := 0) rfl)) (hty.2.2 _ (List.mem_of_getElem? (i := 1) rfl)) (hty.2.2 _ (List.mem_of_getElem? (i := 0) rfl))
  obtain ⟨k1, h⟩ := h
  refine And.intro k1 ?_
  obtain ⟨k2, h⟩ := h
  obtain ⟨k3, h⟩ := h
  refine And.intro (And.intro k2 k3) ?_
  intro μ_1 e_μ_1
  replace h := h μ_1 e_μ_1
  exact h
set_option maxRecDepth 20000 in
theorem g_X5_exchange_39 {Q X : m_Po} {v0 v3 v4 v5 : Int} {ε : m_E} {μ : m_M} (h : TY ε μ → i32 v3 → i32 v4 → i32 v5 → kd ε v0 = 5 ∧ ∀ t : Int, t = (if (fn ε v0 0) = 0 then v3 else w16 v3) → kd ε (fn ε v0 2) = 100 ∧ (0 : Int) ≤ v4 ∧ v4 < ln ε (fn ε v0 2) ∧ ∀ μ_1 : m_M, μ_1 = st μ (fn ε v0 2) v4 t → Q v5 ε μ_1) : G cd_X5_exchange Q X 39 [(0, (2, v0)), (3, (0, v3)), (4, (0, v4)), (5, (0, v5))] [] ε μ := by
  refine G_run (m_in [16, 39, 58]) 11 _ _ _ _ ?_
  show m_ty [(0, (2, v0)), (3, (0, v3)), (4, (0, v4)), (5, (0, v5))] [] ε μ → (kd ε v0 = 5) ∧ (kd ε v0 = 5) ∧ ((fn ε v0 0) = 0 → (m_ty [(3, (0, v3)), (5, (0, v5))] [(0, v4), (2, fn ε v0 2)] ε μ → G cd_X5_exchange Q X 58 [(5, (0, v5))] [(0, v3), (0, v4), (2, fn ε v0 2)] ε μ)) ∧ ((fn ε v0 0) ≠ 0 → (m_ty [(3, (0, v3)), (5, (0, v5))] [(0, v4), (2, fn ε v0 2)] ε μ → G cd_X5_exchange Q X 58 [(5, (0, v5))] [(0, w16 v3), (0, v4), (2, fn ε v0 2)] ε μ))
  intro hty
  replace h := h hty.1 (hty.2.1 _ (List.mem_of_getElem? (i := 1) rfl)) (hty.2.1 _ (List.mem_of_getElem? (i := 2) rfl)) (hty.2.1 _ (List.mem_of_getElem? (i := 3) rfl))
  obtain ⟨k1, h⟩ := h
  refine And.intro k1 ?_
  refine And.intro k1 ?_
  have hj := h
  refine And.intro (fun c1 => ?_) (fun c1 => ?_)
  · intro _
    exact g_X5_exchange_58 (fun _ _ _ _ => (hj _ (((if_pos c1).trans rfl)).symm))
  · intro _
    exact g_X5_exchange_58 (fun _ _ _ _ => (hj _ (((if_neg (c1)).trans rfl)).symm))
set_option maxRecDepth 20000 in
theorem g_X5_exchange_16 {Q X : m_Po} {v0 v1 v2 v3 t t_1 : Int} {ε : m_E} {μ : m_M} (h : TY ε μ → i32 v1 → i32 v2 → i32 v3 → i32 t → i32 t_1 → (t < t_1 → ∀ v4 : Int, v4 = w32 ((w32 (v1 * 40)) + v2) → kd ε v0 = 5 ∧ kd ε (fn ε v0 2) = 100 ∧ (0 : Int) ≤ v4 ∧ v4 < ln ε (fn ε v0 2) ∧ ∀ v5 : Int, v5 = μ (fn ε v0 2) v4 → kd ε v0 = 5 ∧ ∀ t_2 : Int, t_2 = (if (fn ε v0 0) = 0 then v3 else w16 v3) → kd ε (fn ε v0 2) = 100 ∧ (0 : Int) ≤ v4 ∧ v4 < ln ε (fn ε v0 2) ∧ ∀ μ_1 : m_M, μ_1 = st μ (fn ε v0 2) v4 t_2 → Q v5 ε μ_1) ∧ (t_1 ≤ t → Q (-2147483648) ε μ)) : G cd_X5_exchange Q X 16 [(0, (2, v0)), (1, (0, v1)), (2, (0, v2)), (3, (0, v3))] [(0, t_1), (0, t)] ε μ := by
  refine G_run (m_in [16, 39, 58]) 11 _ _ _ _ ?_
  show m_ty [(0, (2, v0)), (1, (0, v1)), (2, (0, v2)), (3, (0, v3))] [(0, t_1), (0, t)] ε μ → (t < t_1 → (m_ty [(0, (2, v0)), (1, (0, v1)), (2, (0, v2)), (3, (0, v3))] [] ε μ → ∀ v4 : Int, v4 = w32 ((w32 (v1 * 40)) + v2) → (kd ε v0 = 5) ∧ (kd ε (fn ε v0 2) = 100) ∧ ((0 : Int) ≤ v4 ∧ v4 < ln ε (fn ε v0 2)) ∧ ∀ v5 : Int, v5 = μ (fn ε v0 2) v4 → G cd_X5_exchange Q X 39 [(0, (2, v0)), (3, (0, v3)), (4, (0, v4)), (5, (0, v5))] [] ε μ)) ∧ (t_1 ≤ t → (m_ty [] [] ε μ → Q (-2147483648) ε μ))
  intro hty
  replace h := h hty.1 (hty.2.1 _ (List.mem_of_getElem? (i := 1) rfl)) (hty.2.1 _ (List.mem_of_getElem? (i := 2) rfl)) (hty.2.1 _ (List.mem_of_getElem? (i := 3) rfl)) (hty.2.2 _ (List.mem_of_getElem? (i := 1) rfl)) (hty.2.2 _ (List.mem_of_getElem? (i := 0) rfl))
  obtain ⟨ha, hb⟩ := h
  refine And.intro (fun c9 => ?_) (fun c9 => ?_)
  · replace h := ha c9
    clear ha hb
    intro _
    intro v4 e_v4
    replace h := h v4 e_v4
    obtain ⟨k1, h⟩ := h
    refine And.intro k1 ?_
    obtain ⟨k2, h⟩ := h
    refine And.intro k2 ?_
    obtain ⟨k3, h⟩ := h
    obtain ⟨k4, h⟩ := h
    refine And.intro (And.intro k3 k4) ?_
    intro v5 e_v5
    replace h := h v5 e_v5
    exact g_X5_exchange_39 (fun _ _ _ _ => h)
  · replace h := hb c9
    clear ha hb
    intro _
    exact h
set_option maxRecDepth 20000 in
theorem g_X5_exchange_0 {Q X : m_Po} {v0 v1 v2 v3 : Int} {ε : m_E} {μ : m_M} (h : TY ε μ → i32 v1 → i32 v2 → i32 v3 → (v2 < 0 → Q (-2147483648) ε μ) ∧ (0 ≤ v2 → ((40 : Int) ≤ v2 → Q (-2147483648) ε μ) ∧ (v2 < (40 : Int) → kd ε v0 = 5 ∧ o_X5_sizeOf [(2, v0), (0, v1)] ε μ (fun z ε_1 μ_1 => G cd_X5_exchange Q X 16 [(0, (2, v0)), (1, (0, v1)), (2, (0, v2)), (3, (0, v3))] [(0, z), (0, v2)] ε_1 μ_1) m_F))) : G cd_X5_exchange Q X 0 [(0, (2, v0)), (1, (0, v1)), (2, (0, v2)), (3, (0, v3))] [] ε μ := by
  refine G_run (m_in [16, 39, 58]) 11 _ _ _ _ ?_
  show m_ty [(0, (2, v0)), (1, (0, v1)), (2, (0, v2)), (3, (0, v3))] [] ε μ → (v2 < 0 → (m_ty [] [] ε μ → Q (-2147483648) ε μ)) ∧ (0 ≤ v2 → (m_ty [(0, (2, v0)), (1, (0, v1)), (2, (0, v2)), (3, (0, v3))] [] ε μ → ((40 : Int) ≤ v2 → (m_ty [] [] ε μ → Q (-2147483648) ε μ)) ∧ (v2 < (40 : Int) → (m_ty [(0, (2, v0)), (1, (0, v1)), (2, (0, v2)), (3, (0, v3))] [] ε μ → (kd ε v0 = 5) ∧ o_X5_sizeOf [(2, v0), (0, v1)] ε μ (fun z ε_1 μ_1 => G cd_X5_exchange Q X 16 [(0, (2, v0)), (1, (0, v1)), (2, (0, v2)), (3, (0, v3))] [(0, z), (0, v2)] ε_1 μ_1) m_F))))
  intro hty
  replace h := h hty.1 (hty.2.1 _ (List.mem_of_getElem? (i := 1) rfl)) (hty.2.1 _ (List.mem_of_getElem? (i := 2) rfl)) (hty.2.1 _ (List.mem_of_getElem? (i := 3) rfl))
  obtain ⟨ha, hb⟩ := h
  refine And.intro (fun c2 => ?_) (fun c2 => ?_)
  · replace h := ha c2
    clear ha hb
    intro _
    exact h
  · replace h := hb c2
    clear ha hb
    intro _
    obtain ⟨ha, hb⟩ := h
    refine And.intro (fun c1 => ?_) (fun c1 => ?_)
    · replace h := ha c1
      clear ha hb
      intro _
      exact h
    · replace h := hb c1
      clear ha hb
      intro _
      obtain ⟨k1, h⟩ := h
      refine And.intro k1 ?_
      exact h
theorem e_X5_exchange {Q X : m_Po} {v0 v1 v2 v3 : Int} {ε : m_E} {μ : m_M} (h : TY ε μ → i32 v1 → i32 v2 → i32 v3 → (v2 < 0 → Q (-2147483648) ε μ) ∧ (0 ≤ v2 → ((40 : Int) ≤ v2 → Q (-2147483648) ε μ) ∧ (v2 < (40 : Int) → kd ε v0 = 5 ∧ o_X5_sizeOf [(2, v0), (0, v1)] ε μ (fun z ε_1 μ_1 => G cd_X5_exchange Q X 16 [(0, (2, v0)), (1, (0, v1)), (2, (0, v2)), (3, (0, v3))] [(0, z), (0, v2)] ε_1 μ_1) m_F))) : o_X5_exchange [(2, v0), (0, v1), (0, v2), (0, v3)] ε μ Q X := And.intro rfl (g_X5_exchange_0 h)
/-! ArchYard$Rack.cut(II)Z -/
set_option maxRecDepth 20000 in
theorem g_X5_cut_10 {Q X : m_Po} {v0 v1 v2 t t_1 : Int} {ε : m_E} {μ : m_M} (h : TY ε μ → i32 v1 → i32 v2 → i32 t → i32 t_1 → (t ≤ t_1 → kd ε v0 = 5 ∧ kd ε (fn ε v0 1) = 100 ∧ (0 : Int) ≤ v1 ∧ v1 < ln ε (fn ε v0 1) ∧ ∀ μ_1 : m_M, μ_1 = st μ (fn ε v0 1) v1 v2 → Q 1 ε μ_1) ∧ (t_1 < t → Q 0 ε μ)) : G cd_X5_cut Q X 10 [(0, (2, v0)), (1, (0, v1)), (2, (0, v2))] [(0, t_1), (0, t)] ε μ := by
  refine G_run (m_in [10]) 6 _ _ _ _ ?_
  show m_ty [(0, (2, v0)), (1, (0, v1)), (2, (0, v2))] [(0, t_1), (0, t)] ε μ → (t ≤ t_1 → (m_ty [(0, (2, v0)), (1, (0, v1)), (2, (0, v2))] [] ε μ → (kd ε v0 = 5) ∧ (kd ε (fn ε v0 1) = 100) ∧ ((0 : Int) ≤ v1 ∧ v1 < ln ε (fn ε v0 1)) ∧ ∀ μ_1 : m_M, μ_1 = st μ (fn ε v0 1) v1 v2 → (1 = 0 ∨ 1 = 1) ∧ Q 1 ε μ_1)) ∧ (t_1 < t → (m_ty [] [] ε μ → (0 = 0 ∨ 0 = 1) ∧ Q 0 ε μ))
  intro hty
  replace h := h hty.1 (hty.2.1 _ (List.mem_of_getElem? (i := 1) rfl)) (hty.2.1 _ (List.mem_of_getElem? (i := 2) rfl)) (hty.2.2 _ (List.mem_of_getElem? (i := 1) rfl)) (hty.2.2 _ (List.mem_of_getElem? (i := 0) rfl))
  obtain ⟨ha, hb⟩ := h
  refine And.intro (fun c4 => ?_) (fun c4 => ?_)
  · replace h := ha c4
    clear ha hb
    intro _
    obtain ⟨k1, h⟩ := h
    refine And.intro k1 ?_
    obtain ⟨k2, h⟩ := h
    refine And.intro k2 ?_
    obtain ⟨k3, h⟩ := h
    obtain ⟨k4, h⟩ := h
    refine And.intro (And.intro k3 k4) ?_
    intro μ_1 e_μ_1
    replace h := h μ_1 e_μ_1
    refine And.intro (Or.inr rfl) ?_
    exact h
  · replace h := hb c4
    clear ha hb
    intro _
    refine And.intro (Or.inl rfl) ?_
    exact h
set_option maxRecDepth 20000 in
theorem g_X5_cut_0 {Q X : m_Po} {v0 v1 v2 : Int} {ε : m_E} {μ : m_M} (h : TY ε μ → i32 v1 → i32 v2 → (v2 < 0 → Q 0 ε μ) ∧ (0 ≤ v2 → kd ε v0 = 5 ∧ o_X5_sizeOf [(2, v0), (0, v1)] ε μ (fun z ε_1 μ_1 => G cd_X5_cut Q X 10 [(0, (2, v0)), (1, (0, v1)), (2, (0, v2))] [(0, z), (0, v2)] ε_1 μ_1) m_F)) : G cd_X5_cut Q X 0 [(0, (2, v0)), (1, (0, v1)), (2, (0, v2))] [] ε μ := by
  refine G_run (m_in [10]) 6 _ _ _ _ ?_
  show m_ty [(0, (2, v0)), (1, (0, v1)), (2, (0, v2))] [] ε μ → (v2 < 0 → (m_ty [] [] ε μ → (0 = 0 ∨ 0 = 1) ∧ Q 0 ε μ)) ∧ (0 ≤ v2 → (m_ty [(0, (2, v0)), (1, (0, v1)), (2, (0, v2))] [] ε μ → (kd ε v0 = 5) ∧ o_X5_sizeOf [(2, v0), (0, v1)] ε μ (fun z ε_1 μ_1 => G cd_X5_cut Q X 10 [(0, (2, v0)), (1, (0, v1)), (2, (0, v2))] [(0, z), (0, v2)] ε_1 μ_1) m_F))
  intro hty
  replace h := h hty.1 (hty.2.1 _ (List.mem_of_getElem? (i := 1) rfl)) (hty.2.1 _ (List.mem_of_getElem? (i := 2) rfl))
  obtain ⟨ha, hb⟩ := h
  refine And.intro (fun c1 => ?_) (fun c1 => ?_)
  · replace h := ha c1
    clear ha hb
    intro _
    refine And.intro (Or.inl rfl) ?_
    exact h
  · replace h := hb c1
    clear ha hb
    intro _
    obtain ⟨k1, h⟩ := h
    refine And.intro k1 ?_
    exact h
theorem e_X5_cut {Q X : m_Po} {v0 v1 v2 : Int} {ε : m_E} {μ : m_M} (h : TY ε μ → i32 v1 → i32 v2 → (v2 < 0 → Q 0 ε μ) ∧ (0 ≤ v2 → kd ε v0 = 5 ∧ o_X5_sizeOf [(2, v0), (0, v1)] ε μ (fun z ε_1 μ_1 => G cd_X5_cut Q X 10 [(0, (2, v0)), (1, (0, v1)), (2, (0, v2))] [(0, z), (0, v2)] ε_1 μ_1) m_F)) : o_X5_cut [(2, v0), (0, v1), (0, v2)] ε μ Q X := And.intro rfl (g_X5_cut_0 h)
/-! ArchYard$Rack.copyOf(I)[I -/
set_option maxRecDepth 20000 in
theorem g_X5_copyOf_17 {Q X : m_Po} {v0 v1 v2 v3 v4 : Int} {ε : m_E} {μ : m_M} (h : TY ε μ → i32 v1 → i32 v2 → i32 v4 → (v2 ≤ v4 → Q v3 ε μ) ∧ (v4 < v2 → kd ε v0 = 5 ∧ kd ε (fn ε v0 2) = 100 ∧ (0 : Int) ≤ w32 ((w32 (v1 * 40)) + v4) ∧ w32 ((w32 (v1 * 40)) + v4) < ln ε (fn ε v0 2) ∧ kd ε v3 = 100 ∧ (0 : Int) ≤ v4 ∧ v4 < ln ε v3 ∧ ∀ μ_1 : m_M, μ_1 = st μ v3 v4 (μ (fn ε v0 2) (w32 ((w32 (v1 * 40)) + v4))) → ∀ v4_1 : Int, v4_1 = w32 (v4 + 1) → G cd_X5_copyOf Q X 17 [(0, (2, v0)), (1, (0, v1)), (2, (0, v2)), (3, (2, v3)), (4, (0, v4_1))] [] ε μ_1)) : G cd_X5_copyOf Q X 17 [(0, (2, v0)), (1, (0, v1)), (2, (0, v2)), (3, (2, v3)), (4, (0, v4))] [] ε μ := by
  refine G_run (m_in [6, 14, 17]) 7 _ _ _ _ ?_
  show m_ty [(0, (2, v0)), (1, (0, v1)), (2, (0, v2)), (3, (2, v3)), (4, (0, v4))] [] ε μ → (v2 ≤ v4 → (m_ty [(3, (2, v3))] [] ε μ → Q v3 ε μ)) ∧ (v4 < v2 → (m_ty [(0, (2, v0)), (1, (0, v1)), (2, (0, v2)), (3, (2, v3)), (4, (0, v4))] [] ε μ → (kd ε v0 = 5) ∧ (kd ε (fn ε v0 2) = 100) ∧ ((0 : Int) ≤ w32 ((w32 (v1 * 40)) + v4) ∧ w32 ((w32 (v1 * 40)) + v4) < ln ε (fn ε v0 2)) ∧ (kd ε v3 = 100) ∧ ((0 : Int) ≤ v4 ∧ v4 < ln ε v3) ∧ ∀ μ_1 : m_M, μ_1 = st μ v3 v4 (μ (fn ε v0 2) (w32 ((w32 (v1 * 40)) + v4))) → ∀ v4_1 : Int, v4_1 = w32 (v4 + 1) → G cd_X5_copyOf Q X 17 [(0, (2, v0)), (1, (0, v1)), (2, (0, v2)), (3, (2, v3)), (4, (0, v4_1))] [] ε μ_1))
  intro hty
  replace h := h hty.1 (hty.2.1 _ (List.mem_of_getElem? (i := 1) rfl)) (hty.2.1 _ (List.mem_of_getElem? (i := 2) rfl)) (hty.2.1 _ (List.mem_of_getElem? (i := 4) rfl))
  obtain ⟨ha, hb⟩ := h
  refine And.intro (fun c7 => ?_) (fun c7 => ?_)
  · replace h := ha c7
    clear ha hb
    intro _
    exact h
  · replace h := hb c7
    clear ha hb
    intro _
    obtain ⟨k1, h⟩ := h
    refine And.intro k1 ?_
    obtain ⟨k2, h⟩ := h
    refine And.intro k2 ?_
    obtain ⟨k3, h⟩ := h
    obtain ⟨k4, h⟩ := h
    refine And.intro (And.intro k3 k4) ?_
    obtain ⟨k5, h⟩ := h
    refine And.intro k5 ?_
    obtain ⟨k6, h⟩ := h
    obtain ⟨k7, h⟩ := h
    refine And.intro (And.intro k6 k7) ?_
    intro μ_1 e_μ_1
    replace h := h μ_1 e_μ_1
    intro v4_1 e_v4_1
    replace h := h v4_1 e_v4_1
    exact h
set_option maxRecDepth 20000 in
theorem g_X5_copyOf_14 {Q X : m_Po} {v0 v1 v2 v3 : Int} {ε : m_E} {μ : m_M} (h : TY ε μ → i32 v1 → i32 v2 → ∀ v4 : Int, v4 = 0 → G cd_X5_copyOf Q X 17 [(0, (2, v0)), (1, (0, v1)), (2, (0, v2)), (3, (2, v3)), (4, (0, v4))] [] ε μ) : G cd_X5_copyOf Q X 14 [(0, (2, v0)), (1, (0, v1)), (2, (0, v2)), (3, (2, v3))] [] ε μ := by
  refine G_run (m_in [6, 14, 17]) 7 _ _ _ _ ?_
  show m_ty [(0, (2, v0)), (1, (0, v1)), (2, (0, v2)), (3, (2, v3))] [] ε μ → ∀ v4 : Int, v4 = 0 → G cd_X5_copyOf Q X 17 [(0, (2, v0)), (1, (0, v1)), (2, (0, v2)), (3, (2, v3)), (4, (0, v4))] [] ε μ
  intro hty
  replace h := h hty.1 (hty.2.1 _ (List.mem_of_getElem? (i := 1) rfl)) (hty.2.1 _ (List.mem_of_getElem? (i := 2) rfl))
  intro v4 e_v4
  replace h := h v4 e_v4
  exact h
set_option maxRecDepth 20000 in
theorem g_X5_copyOf_6 {Q X : m_Po} {v0 v1 t t_1 : Int} {ε : m_E} {μ : m_M} (h : TY ε μ → i32 v1 → i32 t → i32 t_1 → ∀ v2 : Int, v2 = (if t < t_1 then t_1 else t) → (0 : Int) ≤ v2 ∧ (v2 : Int) ≤ 40 ∧ ∀ (a : Int) (ε_1 : m_E) (μ_1 : m_M), a = nx ε → ε_1 = ealloc ε 100 v2 → μ_1 = mnew μ a → ∀ v3 : Int, v3 = a → ∀ v4 : Int, v4 = 0 → G cd_X5_copyOf Q X 17 [(0, (2, v0)), (1, (0, v1)), (2, (0, v2)), (3, (2, v3)), (4, (0, v4))] [] ε_1 μ_1) : G cd_X5_copyOf Q X 6 [(0, (2, v0)), (1, (0, v1))] [(0, t_1), (0, t)] ε μ := by
  refine G_run (m_in [6, 14, 17]) 7 _ _ _ _ ?_
  show m_ty [(0, (2, v0)), (1, (0, v1))] [(0, t_1), (0, t)] ε μ → ∀ v2 : Int, v2 = (if t < t_1 then t_1 else t) → ((0 : Int) ≤ v2 ∧ (v2 : Int) ≤ 40) ∧ ∀ (a : Int) (ε_1 : m_E) (μ_1 : m_M), a = nx ε → ε_1 = ealloc ε 100 v2 → μ_1 = mnew μ a → ∀ v3 : Int, v3 = a → G cd_X5_copyOf Q X 14 [(0, (2, v0)), (1, (0, v1)), (2, (0, v2)), (3, (2, v3))] [] ε_1 μ_1
  intro hty
  replace h := h hty.1 (hty.2.1 _ (List.mem_of_getElem? (i := 1) rfl)) (hty.2.2 _ (List.mem_of_getElem? (i := 1) rfl)) (hty.2.2 _ (List.mem_of_getElem? (i := 0) rfl))
  intro v2 e_v2
  replace h := h v2 e_v2
  obtain ⟨k1, h⟩ := h
  obtain ⟨k2, h⟩ := h
  refine And.intro (And.intro k1 k2) ?_
  intro a ε_1 μ_1 e_a e_ε_1 e_μ_1
  replace h := h a ε_1 μ_1 e_a e_ε_1 e_μ_1
  intro v3 e_v3
  replace h := h v3 e_v3
  exact g_X5_copyOf_14 (fun _ _ _ => h)
set_option maxRecDepth 20000 in
theorem g_X5_copyOf_0 {Q X : m_Po} {v0 v1 : Int} {ε : m_E} {μ : m_M} (h : TY ε μ → i32 v1 → kd ε v0 = 5 ∧ o_X5_sizeOf [(2, v0), (0, v1)] ε μ (fun z ε_1 μ_1 => G cd_X5_copyOf Q X 6 [(0, (2, v0)), (1, (0, v1))] [(0, z), (0, 0)] ε_1 μ_1) m_F) : G cd_X5_copyOf Q X 0 [(0, (2, v0)), (1, (0, v1))] [] ε μ := by
  refine G_run (m_in [6, 14, 17]) 7 _ _ _ _ ?_
  show m_ty [(0, (2, v0)), (1, (0, v1))] [] ε μ → (kd ε v0 = 5) ∧ o_X5_sizeOf [(2, v0), (0, v1)] ε μ (fun z ε_1 μ_1 => G cd_X5_copyOf Q X 6 [(0, (2, v0)), (1, (0, v1))] [(0, z), (0, 0)] ε_1 μ_1) m_F
  intro hty
  replace h := h hty.1 (hty.2.1 _ (List.mem_of_getElem? (i := 1) rfl))
  obtain ⟨k1, h⟩ := h
  refine And.intro k1 ?_
  exact h
theorem e_X5_copyOf {Q X : m_Po} {v0 v1 : Int} {ε : m_E} {μ : m_M} (h : TY ε μ → i32 v1 → kd ε v0 = 5 ∧ o_X5_sizeOf [(2, v0), (0, v1)] ε μ (fun z ε_1 μ_1 => G cd_X5_copyOf Q X 6 [(0, (2, v0)), (1, (0, v1))] [(0, z), (0, 0)] ε_1 μ_1) m_F) : o_X5_copyOf [(2, v0), (0, v1)] ε μ Q X := And.intro rfl (g_X5_copyOf_0 h)
/-! ArchYard.isFar(II)Z -/
set_option maxRecDepth 20000 in
theorem g_X10_isFar_16 {Q X : m_Po} {t : Int} {ε : m_E} {μ : m_M} (h : TY ε μ → i32 t → (t = 0 ∨ t = 1) ∧ Q t ε μ) : G cd_X10_isFar Q X 16 [] [(0, t)] ε μ := by
  refine G_run (m_in [16]) 6 _ _ _ _ ?_
  show m_ty [] [(0, t)] ε μ → (t = 0 ∨ t = 1) ∧ Q t ε μ
  intro hty
  replace h := h hty.1 (hty.2.2 _ (List.mem_of_getElem? (i := 0) rfl))
  obtain ⟨k1, h⟩ := h
  refine And.intro k1 ?_
  exact h
set_option maxRecDepth 20000 in
theorem g_X10_isFar_0 {Q X : m_Po} {v0 v1 : Int} {ε : m_E} {μ : m_M} (h : TY ε μ → i32 v0 → i32 v1 → ∀ t : Int, t = (if v0 < (w32 (-v1)) then 1 else if v0 ≤ v1 then 0 else 1) → Q t ε μ) : G cd_X10_isFar Q X 0 [(0, (0, v0)), (1, (0, v1))] [] ε μ := by
  refine G_run (m_in [16]) 6 _ _ _ _ ?_
  show m_ty [(0, (0, v0)), (1, (0, v1))] [] ε μ → (v0 < (w32 (-v1)) → (m_ty [] [] ε μ → G cd_X10_isFar Q X 16 [] [(0, 1)] ε μ)) ∧ ((w32 (-v1)) ≤ v0 → (m_ty [(0, (0, v0)), (1, (0, v1))] [] ε μ → (v0 ≤ v1 → (m_ty [] [] ε μ → G cd_X10_isFar Q X 16 [] [(0, 0)] ε μ)) ∧ (v1 < v0 → (m_ty [] [] ε μ → G cd_X10_isFar Q X 16 [] [(0, 1)] ε μ))))
  intro hty
  replace h := h hty.1 (hty.2.1 _ (List.mem_of_getElem? (i := 0) rfl)) (hty.2.1 _ (List.mem_of_getElem? (i := 1) rfl))
  have hj := h
  refine And.intro (fun c0 => ?_) (fun c0 => ?_)
  · intro _
    exact g_X10_isFar_16 (fun _ _ => (And.intro (Or.inr rfl) (hj _ (((if_pos c0).trans rfl)).symm)))
  · intro _
    refine And.intro (fun c1 => ?_) (fun c1 => ?_)
    · intro _
      exact g_X10_isFar_16 (fun _ _ => (And.intro (Or.inl rfl) (hj _ (((if_neg (Int.not_lt.mpr c0)).trans ((if_pos c1).trans rfl))).symm)))
    · intro _
      exact g_X10_isFar_16 (fun _ _ => (And.intro (Or.inr rfl) (hj _ (((if_neg (Int.not_lt.mpr c0)).trans ((if_neg (Int.not_le.mpr c1)).trans rfl))).symm)))
theorem e_X10_isFar {Q X : m_Po} {v0 v1 : Int} {ε : m_E} {μ : m_M} (h : TY ε μ → i32 v0 → i32 v1 → ∀ t : Int, t = (if v0 < (w32 (-v1)) then 1 else if v0 ≤ v1 then 0 else 1) → Q t ε μ) : o_X10_isFar [(0, v0), (0, v1)] ε μ Q X := And.intro rfl (g_X10_isFar_0 h)
/-! ArchYard$Shape.isNear([I)Z -/
set_option maxRecDepth 20000 in
theorem g_X6_isNear_16 {Q X : m_Po} {v0 v1 t : Int} {ε : m_E} {μ : m_M} (h : TY ε μ → i32 v1 → i32 t → (t = 0 → ∀ v1_1 : Int, v1_1 = w32 (v1 + 1) → G cd_X6_isNear Q X 2 [(0, (2, v0)), (1, (0, v1_1))] [] ε μ) ∧ (t ≠ 0 → Q 0 ε μ)) : G cd_X6_isNear Q X 16 [(0, (2, v0)), (1, (0, v1))] [(0, t)] ε μ := by
  refine G_run (m_in [2, 16]) 8 _ _ _ _ ?_
  show m_ty [(0, (2, v0)), (1, (0, v1))] [(0, t)] ε μ → (t = 0 → (m_ty [(0, (2, v0)), (1, (0, v1))] [] ε μ → ∀ v1_1 : Int, v1_1 = w32 (v1 + 1) → G cd_X6_isNear Q X 2 [(0, (2, v0)), (1, (0, v1_1))] [] ε μ)) ∧ (t ≠ 0 → (m_ty [] [] ε μ → (0 = 0 ∨ 0 = 1) ∧ Q 0 ε μ))
  intro hty
  replace h := h hty.1 (hty.2.1 _ (List.mem_of_getElem? (i := 1) rfl)) (hty.2.2 _ (List.mem_of_getElem? (i := 0) rfl))
  obtain ⟨ha, hb⟩ := h
  refine And.intro (fun c0 => ?_) (fun c0 => ?_)
  · replace h := ha c0
    clear ha hb
    intro _
    intro v1_1 e_v1_1
    replace h := h v1_1 e_v1_1
    exact h
  · replace h := hb c0
    clear ha hb
    intro _
    refine And.intro (Or.inl rfl) ?_
    exact h
set_option maxRecDepth 20000 in
theorem g_X6_isNear_2 {Q X : m_Po} {v0 v1 : Int} {ε : m_E} {μ : m_M} (h : TY ε μ → i32 v1 → kd ε v0 = 100 ∧ ((ln ε v0) ≤ v1 → Q 1 ε μ) ∧ (v1 < (ln ε v0) → (0 : Int) ≤ v1 ∧ v1 < ln ε v0 ∧ o_X10_isFar [(0, μ v0 v1), (0, 100)] ε μ (fun z ε_1 μ_1 => G cd_X6_isNear Q X 16 [(0, (2, v0)), (1, (0, v1))] [(0, z)] ε_1 μ_1) m_F)) : G cd_X6_isNear Q X 2 [(0, (2, v0)), (1, (0, v1))] [] ε μ := by
  refine G_run (m_in [2, 16]) 8 _ _ _ _ ?_
  show m_ty [(0, (2, v0)), (1, (0, v1))] [] ε μ → (kd ε v0 = 100) ∧ ((ln ε v0) ≤ v1 → (m_ty [] [] ε μ → (1 = 0 ∨ 1 = 1) ∧ Q 1 ε μ)) ∧ (v1 < (ln ε v0) → (m_ty [(0, (2, v0)), (1, (0, v1))] [] ε μ → (kd ε v0 = 100) ∧ ((0 : Int) ≤ v1 ∧ v1 < ln ε v0) ∧ o_X10_isFar [(0, μ v0 v1), (0, 100)] ε μ (fun z ε_1 μ_1 => G cd_X6_isNear Q X 16 [(0, (2, v0)), (1, (0, v1))] [(0, z)] ε_1 μ_1) m_F))
  intro hty
  replace h := h hty.1 (hty.2.1 _ (List.mem_of_getElem? (i := 1) rfl))
  obtain ⟨k1, h⟩ := h
  refine And.intro k1 ?_
  obtain ⟨ha, hb⟩ := h
  refine And.intro (fun c3 => ?_) (fun c3 => ?_)
  · replace h := ha c3
    clear ha hb
    intro _
    refine And.intro (Or.inr rfl) ?_
    exact h
  · replace h := hb c3
    clear ha hb
    intro _
    refine And.intro k1 ?_
    obtain ⟨k2, h⟩ := h
    obtain ⟨k3, h⟩ := h
    refine And.intro (And.intro k2 k3) ?_
    exact h
set_option maxRecDepth 20000 in
theorem g_X6_isNear_0 {Q X : m_Po} {v0 : Int} {ε : m_E} {μ : m_M} (h : TY ε μ → ∀ v1 : Int, v1 = 0 → G cd_X6_isNear Q X 2 [(0, (2, v0)), (1, (0, v1))] [] ε μ) : G cd_X6_isNear Q X 0 [(0, (2, v0))] [] ε μ := by
  refine G_run (m_in [2, 16]) 8 _ _ _ _ ?_
  show m_ty [(0, (2, v0))] [] ε μ → ∀ v1 : Int, v1 = 0 → G cd_X6_isNear Q X 2 [(0, (2, v0)), (1, (0, v1))] [] ε μ
  intro hty
  replace h := h hty.1 
  intro v1 e_v1
  replace h := h v1 e_v1
  exact h
theorem e_X6_isNear {Q X : m_Po} {v0 : Int} {ε : m_E} {μ : m_M} (h : TY ε μ → ∀ v1 : Int, v1 = 0 → G cd_X6_isNear Q X 2 [(0, (2, v0)), (1, (0, v1))] [] ε μ) : o_X6_isNear [(2, v0)] ε μ Q X := And.intro rfl (g_X6_isNear_0 h)
/-! ArchYard$Shape.hasNoLength([II)Z -/
set_option maxRecDepth 20000 in
theorem g_X6_hasNoLength_34 {Q X : m_Po} {ε : m_E} {μ : m_M} (h : TY ε μ → Q 0 ε μ) : G cd_X6_hasNoLength Q X 34 [] [] ε μ := by
  refine G_run (m_in [5, 12, 20, 27, 34]) 10 _ _ _ _ ?_
  show m_ty [] [] ε μ → (m_ty [] [(0, 0)] ε μ → (0 = 0 ∨ 0 = 1) ∧ Q 0 ε μ)
  intro hty
  replace h := h hty.1 
  intro _
  refine And.intro (Or.inl rfl) ?_
  exact h
set_option maxRecDepth 20000 in
theorem g_X6_hasNoLength_27 {Q X : m_Po} {t t_1 : Int} {ε : m_E} {μ : m_M} (h : TY ε μ → i32 t → i32 t_1 → (t ≠ t_1 → G cd_X6_hasNoLength Q X 34 [] [] ε μ) ∧ (t = t_1 → Q 1 ε μ)) : G cd_X6_hasNoLength Q X 27 [] [(0, t_1), (0, t)] ε μ := by
  refine G_run (m_in [5, 12, 20, 27, 34]) 10 _ _ _ _ ?_
  show m_ty [] [(0, t_1), (0, t)] ε μ → (t ≠ t_1 → G cd_X6_hasNoLength Q X 34 [] [] ε μ) ∧ (t = t_1 → (m_ty [] [] ε μ → (m_ty [] [(0, 1)] ε μ → (1 = 0 ∨ 1 = 1) ∧ Q 1 ε μ)))
  intro hty
  replace h := h hty.1 (hty.2.2 _ (List.mem_of_getElem? (i := 1) rfl)) (hty.2.2 _ (List.mem_of_getElem? (i := 0) rfl))
  obtain ⟨ha, hb⟩ := h
  refine And.intro (fun c0 => ?_) (fun c0 => ?_)
  · replace h := ha c0
    clear ha hb
    exact h
  · replace h := hb c0
    clear ha hb
    intro _
    intro _
    refine And.intro (Or.inr rfl) ?_
    exact h
set_option maxRecDepth 20000 in
theorem g_X6_hasNoLength_20 {Q X : m_Po} {v0 v1 t : Int} {ε : m_E} {μ : m_M} (h : TY ε μ → i32 v1 → i32 t → o_X6_yOf [(2, v0), (0, w32 (v1 + 1))] ε μ (fun z ε_1 μ_1 => G cd_X6_hasNoLength Q X 27 [] [(0, z), (0, t)] ε_1 μ_1) m_F) : G cd_X6_hasNoLength Q X 20 [(0, (2, v0)), (1, (0, v1))] [(0, t)] ε μ := by
  refine G_run (m_in [5, 12, 20, 27, 34]) 10 _ _ _ _ ?_
  show m_ty [(0, (2, v0)), (1, (0, v1))] [(0, t)] ε μ → o_X6_yOf [(2, v0), (0, w32 (v1 + 1))] ε μ (fun z ε_1 μ_1 => G cd_X6_hasNoLength Q X 27 [] [(0, z), (0, t)] ε_1 μ_1) m_F
  intro hty
  replace h := h hty.1 (hty.2.1 _ (List.mem_of_getElem? (i := 1) rfl)) (hty.2.2 _ (List.mem_of_getElem? (i := 0) rfl))
  exact h
set_option maxRecDepth 20000 in
theorem g_X6_hasNoLength_12 {Q X : m_Po} {v0 v1 t t_1 : Int} {ε : m_E} {μ : m_M} (h : TY ε μ → i32 v1 → i32 t → i32 t_1 → (t ≠ t_1 → G cd_X6_hasNoLength Q X 34 [] [] ε μ) ∧ (t = t_1 → o_X6_yOf [(2, v0), (0, v1)] ε μ (fun z ε_1 μ_1 => G cd_X6_hasNoLength Q X 20 [(0, (2, v0)), (1, (0, v1))] [(0, z)] ε_1 μ_1) m_F)) : G cd_X6_hasNoLength Q X 12 [(0, (2, v0)), (1, (0, v1))] [(0, t_1), (0, t)] ε μ := by
  refine G_run (m_in [5, 12, 20, 27, 34]) 10 _ _ _ _ ?_
  show m_ty [(0, (2, v0)), (1, (0, v1))] [(0, t_1), (0, t)] ε μ → (t ≠ t_1 → G cd_X6_hasNoLength Q X 34 [] [] ε μ) ∧ (t = t_1 → (m_ty [(0, (2, v0)), (1, (0, v1))] [] ε μ → o_X6_yOf [(2, v0), (0, v1)] ε μ (fun z ε_1 μ_1 => G cd_X6_hasNoLength Q X 20 [(0, (2, v0)), (1, (0, v1))] [(0, z)] ε_1 μ_1) m_F))
  intro hty
  replace h := h hty.1 (hty.2.1 _ (List.mem_of_getElem? (i := 1) rfl)) (hty.2.2 _ (List.mem_of_getElem? (i := 1) rfl)) (hty.2.2 _ (List.mem_of_getElem? (i := 0) rfl))
  obtain ⟨ha, hb⟩ := h
  refine And.intro (fun c0 => ?_) (fun c0 => ?_)
  · replace h := ha c0
    clear ha hb
    exact h
  · replace h := hb c0
    clear ha hb
    intro _
    exact h
set_option maxRecDepth 20000 in
theorem g_X6_hasNoLength_5 {Q X : m_Po} {v0 v1 t : Int} {ε : m_E} {μ : m_M} (h : TY ε μ → i32 v1 → i32 t → o_X6_xOf [(2, v0), (0, w32 (v1 + 1))] ε μ (fun z ε_1 μ_1 => G cd_X6_hasNoLength Q X 12 [(0, (2, v0)), (1, (0, v1))] [(0, z), (0, t)] ε_1 μ_1) m_F) : G cd_X6_hasNoLength Q X 5 [(0, (2, v0)), (1, (0, v1))] [(0, t)] ε μ := by
  refine G_run (m_in [5, 12, 20, 27, 34]) 10 _ _ _ _ ?_
  show m_ty [(0, (2, v0)), (1, (0, v1))] [(0, t)] ε μ → o_X6_xOf [(2, v0), (0, w32 (v1 + 1))] ε μ (fun z ε_1 μ_1 => G cd_X6_hasNoLength Q X 12 [(0, (2, v0)), (1, (0, v1))] [(0, z), (0, t)] ε_1 μ_1) m_F
  intro hty
  replace h := h hty.1 (hty.2.1 _ (List.mem_of_getElem? (i := 1) rfl)) (hty.2.2 _ (List.mem_of_getElem? (i := 0) rfl))
  exact h
set_option maxRecDepth 20000 in
theorem g_X6_hasNoLength_0 {Q X : m_Po} {v0 v1 : Int} {ε : m_E} {μ : m_M} (h : TY ε μ → i32 v1 → o_X6_xOf [(2, v0), (0, v1)] ε μ (fun z ε_1 μ_1 => G cd_X6_hasNoLength Q X 5 [(0, (2, v0)), (1, (0, v1))] [(0, z)] ε_1 μ_1) m_F) : G cd_X6_hasNoLength Q X 0 [(0, (2, v0)), (1, (0, v1))] [] ε μ := by
  refine G_run (m_in [5, 12, 20, 27, 34]) 10 _ _ _ _ ?_
  show m_ty [(0, (2, v0)), (1, (0, v1))] [] ε μ → o_X6_xOf [(2, v0), (0, v1)] ε μ (fun z ε_1 μ_1 => G cd_X6_hasNoLength Q X 5 [(0, (2, v0)), (1, (0, v1))] [(0, z)] ε_1 μ_1) m_F
  intro hty
  replace h := h hty.1 (hty.2.1 _ (List.mem_of_getElem? (i := 1) rfl))
  exact h
theorem e_X6_hasNoLength {Q X : m_Po} {v0 v1 : Int} {ε : m_E} {μ : m_M} (h : TY ε μ → i32 v1 → o_X6_xOf [(2, v0), (0, v1)] ε μ (fun z ε_1 μ_1 => G cd_X6_hasNoLength Q X 5 [(0, (2, v0)), (1, (0, v1))] [(0, z)] ε_1 μ_1) m_F) : o_X6_hasNoLength [(2, v0), (0, v1)] ε μ Q X := And.intro rfl (g_X6_hasNoLength_0 h)
/-! ArchYard$Shape.foldsBack([II)Z -/
set_option maxRecDepth 20000 in
theorem g_X6_foldsBack_91 {Q X : m_Po} {t : Int} {ε : m_E} {μ : m_M} (h : TY ε μ → i32 t → (t = 0 ∨ t = 1) ∧ Q t ε μ) : G cd_X6_foldsBack Q X 91 [] [(0, t)] ε μ := by
  refine G_run (m_in [7, 12, 21, 26, 35, 42, 52, 59, 91]) 14 _ _ _ _ ?_
  show m_ty [] [(0, t)] ε μ → (t = 0 ∨ t = 1) ∧ Q t ε μ
  intro hty
  replace h := h hty.1 (hty.2.2 _ (List.mem_of_getElem? (i := 0) rfl))
  obtain ⟨k1, h⟩ := h
  refine And.intro k1 ?_
  exact h
set_option maxRecDepth 20000 in
theorem g_X6_foldsBack_59 {Q X : m_Po} {v2 v3 v4 t t_1 : Int} {ε : m_E} {μ : m_M} (h : TY ε μ → i32 v2 → i32 v3 → i32 v4 → i32 t → i32 t_1 → ∀ v5 : Int, v5 = w32 (t - t_1) → ∀ t_2 : Int, t_2 = (if (w32 ((w32 (v2 * v5)) - (w32 (v3 * v4)))) = 0 then if 0 ≤ (w32 ((w32 (v2 * v4)) + (w32 (v3 * v5)))) then 0 else 1 else 0) → Q t_2 ε μ) : G cd_X6_foldsBack Q X 59 [(2, (0, v2)), (3, (0, v3)), (4, (0, v4))] [(0, t_1), (0, t)] ε μ := by
  refine G_run (m_in [7, 12, 21, 26, 35, 42, 52, 59, 91]) 14 _ _ _ _ ?_
  show m_ty [(2, (0, v2)), (3, (0, v3)), (4, (0, v4))] [(0, t_1), (0, t)] ε μ → ∀ v5 : Int, v5 = w32 (t - t_1) → ((w32 ((w32 (v2 * v5)) - (w32 (v3 * v4)))) ≠ 0 → (m_ty [] [] ε μ → G cd_X6_foldsBack Q X 91 [] [(0, 0)] ε μ)) ∧ ((w32 ((w32 (v2 * v5)) - (w32 (v3 * v4)))) = 0 → (m_ty [(2, (0, v2)), (3, (0, v3)), (4, (0, v4)), (5, (0, v5))] [] ε μ → (0 ≤ (w32 ((w32 (v2 * v4)) + (w32 (v3 * v5)))) → (m_ty [] [] ε μ → G cd_X6_foldsBack Q X 91 [] [(0, 0)] ε μ)) ∧ ((w32 ((w32 (v2 * v4)) + (w32 (v3 * v5)))) < 0 → (m_ty [] [] ε μ → G cd_X6_foldsBack Q X 91 [] [(0, 1)] ε μ))))
  intro hty
  replace h := h hty.1 (hty.2.1 _ (List.mem_of_getElem? (i := 0) rfl)) (hty.2.1 _ (List.mem_of_getElem? (i := 1) rfl)) (hty.2.1 _ (List.mem_of_getElem? (i := 2) rfl)) (hty.2.2 _ (List.mem_of_getElem? (i := 1) rfl)) (hty.2.2 _ (List.mem_of_getElem? (i := 0) rfl))
  intro v5 e_v5
  replace h := h v5 e_v5
  have hj := h
  refine And.intro (fun c0 => ?_) (fun c0 => ?_)
  · intro _
    exact g_X6_foldsBack_91 (fun _ _ => (And.intro (Or.inl rfl) (hj _ (((if_neg (c0)).trans rfl)).symm)))
  · intro _
    refine And.intro (fun c1 => ?_) (fun c1 => ?_)
    · intro _
      exact g_X6_foldsBack_91 (fun _ _ => (And.intro (Or.inl rfl) (hj _ (((if_pos c0).trans ((if_pos c1).trans rfl))).symm)))
    · intro _
      exact g_X6_foldsBack_91 (fun _ _ => (And.intro (Or.inr rfl) (hj _ (((if_pos c0).trans ((if_neg (Int.not_le.mpr c1)).trans rfl))).symm)))
set_option maxRecDepth 20000 in
theorem g_X6_foldsBack_52 {Q X : m_Po} {v0 v1 v2 v3 v4 t : Int} {ε : m_E} {μ : m_M} (h : TY ε μ → i32 v1 → i32 v2 → i32 v3 → i32 v4 → i32 t → o_X6_yOf [(2, v0), (0, w32 (v1 + 1))] ε μ (fun z ε_1 μ_1 => G cd_X6_foldsBack Q X 59 [(2, (0, v2)), (3, (0, v3)), (4, (0, v4))] [(0, z), (0, t)] ε_1 μ_1) m_F) : G cd_X6_foldsBack Q X 52 [(0, (2, v0)), (1, (0, v1)), (2, (0, v2)), (3, (0, v3)), (4, (0, v4))] [(0, t)] ε μ := by
  refine G_run (m_in [7, 12, 21, 26, 35, 42, 52, 59, 91]) 14 _ _ _ _ ?_
  show m_ty [(0, (2, v0)), (1, (0, v1)), (2, (0, v2)), (3, (0, v3)), (4, (0, v4))] [(0, t)] ε μ → o_X6_yOf [(2, v0), (0, w32 (v1 + 1))] ε μ (fun z ε_1 μ_1 => G cd_X6_foldsBack Q X 59 [(2, (0, v2)), (3, (0, v3)), (4, (0, v4))] [(0, z), (0, t)] ε_1 μ_1) m_F
  intro hty
  replace h := h hty.1 (hty.2.1 _ (List.mem_of_getElem? (i := 1) rfl)) (hty.2.1 _ (List.mem_of_getElem? (i := 2) rfl)) (hty.2.1 _ (List.mem_of_getElem? (i := 3) rfl)) (hty.2.1 _ (List.mem_of_getElem? (i := 4) rfl)) (hty.2.2 _ (List.mem_of_getElem? (i := 0) rfl))
  exact h
set_option maxRecDepth 20000 in
theorem g_X6_foldsBack_42 {Q X : m_Po} {v0 v1 v2 v3 t t_1 : Int} {ε : m_E} {μ : m_M} (h : TY ε μ → i32 v1 → i32 v2 → i32 v3 → i32 t → i32 t_1 → ∀ v4 : Int, v4 = w32 (t - t_1) → o_X6_yOf [(2, v0), (0, w32 (v1 + 2))] ε μ (fun z ε_1 μ_1 => G cd_X6_foldsBack Q X 52 [(0, (2, v0)), (1, (0, v1)), (2, (0, v2)), (3, (0, v3)), (4, (0, v4))] [(0, z)] ε_1 μ_1) m_F) : G cd_X6_foldsBack Q X 42 [(0, (2, v0)), (1, (0, v1)), (2, (0, v2)), (3, (0, v3))] [(0, t_1), (0, t)] ε μ := by
  refine G_run (m_in [7, 12, 21, 26, 35, 42, 52, 59, 91]) 14 _ _ _ _ ?_
  show m_ty [(0, (2, v0)), (1, (0, v1)), (2, (0, v2)), (3, (0, v3))] [(0, t_1), (0, t)] ε μ → ∀ v4 : Int, v4 = w32 (t - t_1) → o_X6_yOf [(2, v0), (0, w32 (v1 + 2))] ε μ (fun z ε_1 μ_1 => G cd_X6_foldsBack Q X 52 [(0, (2, v0)), (1, (0, v1)), (2, (0, v2)), (3, (0, v3)), (4, (0, v4))] [(0, z)] ε_1 μ_1) m_F
  intro hty
  replace h := h hty.1 (hty.2.1 _ (List.mem_of_getElem? (i := 1) rfl)) (hty.2.1 _ (List.mem_of_getElem? (i := 2) rfl)) (hty.2.1 _ (List.mem_of_getElem? (i := 3) rfl)) (hty.2.2 _ (List.mem_of_getElem? (i := 1) rfl)) (hty.2.2 _ (List.mem_of_getElem? (i := 0) rfl))
  intro v4 e_v4
  replace h := h v4 e_v4
  exact h
set_option maxRecDepth 20000 in
theorem g_X6_foldsBack_35 {Q X : m_Po} {v0 v1 v2 v3 t : Int} {ε : m_E} {μ : m_M} (h : TY ε μ → i32 v1 → i32 v2 → i32 v3 → i32 t → o_X6_xOf [(2, v0), (0, w32 (v1 + 1))] ε μ (fun z ε_1 μ_1 => G cd_X6_foldsBack Q X 42 [(0, (2, v0)), (1, (0, v1)), (2, (0, v2)), (3, (0, v3))] [(0, z), (0, t)] ε_1 μ_1) m_F) : G cd_X6_foldsBack Q X 35 [(0, (2, v0)), (1, (0, v1)), (2, (0, v2)), (3, (0, v3))] [(0, t)] ε μ := by
  refine G_run (m_in [7, 12, 21, 26, 35, 42, 52, 59, 91]) 14 _ _ _ _ ?_
  show m_ty [(0, (2, v0)), (1, (0, v1)), (2, (0, v2)), (3, (0, v3))] [(0, t)] ε μ → o_X6_xOf [(2, v0), (0, w32 (v1 + 1))] ε μ (fun z ε_1 μ_1 => G cd_X6_foldsBack Q X 42 [(0, (2, v0)), (1, (0, v1)), (2, (0, v2)), (3, (0, v3))] [(0, z), (0, t)] ε_1 μ_1) m_F
  intro hty
  replace h := h hty.1 (hty.2.1 _ (List.mem_of_getElem? (i := 1) rfl)) (hty.2.1 _ (List.mem_of_getElem? (i := 2) rfl)) (hty.2.1 _ (List.mem_of_getElem? (i := 3) rfl)) (hty.2.2 _ (List.mem_of_getElem? (i := 0) rfl))
  exact h
set_option maxRecDepth 20000 in
theorem g_X6_foldsBack_26 {Q X : m_Po} {v0 v1 v2 t t_1 : Int} {ε : m_E} {μ : m_M} (h : TY ε μ → i32 v1 → i32 v2 → i32 t → i32 t_1 → ∀ v3 : Int, v3 = w32 (t - t_1) → o_X6_xOf [(2, v0), (0, w32 (v1 + 2))] ε μ (fun z ε_1 μ_1 => G cd_X6_foldsBack Q X 35 [(0, (2, v0)), (1, (0, v1)), (2, (0, v2)), (3, (0, v3))] [(0, z)] ε_1 μ_1) m_F) : G cd_X6_foldsBack Q X 26 [(0, (2, v0)), (1, (0, v1)), (2, (0, v2))] [(0, t_1), (0, t)] ε μ := by
  refine G_run (m_in [7, 12, 21, 26, 35, 42, 52, 59, 91]) 14 _ _ _ _ ?_
  show m_ty [(0, (2, v0)), (1, (0, v1)), (2, (0, v2))] [(0, t_1), (0, t)] ε μ → ∀ v3 : Int, v3 = w32 (t - t_1) → o_X6_xOf [(2, v0), (0, w32 (v1 + 2))] ε μ (fun z ε_1 μ_1 => G cd_X6_foldsBack Q X 35 [(0, (2, v0)), (1, (0, v1)), (2, (0, v2)), (3, (0, v3))] [(0, z)] ε_1 μ_1) m_F
  intro hty
  replace h := h hty.1 (hty.2.1 _ (List.mem_of_getElem? (i := 1) rfl)) (hty.2.1 _ (List.mem_of_getElem? (i := 2) rfl)) (hty.2.2 _ (List.mem_of_getElem? (i := 1) rfl)) (hty.2.2 _ (List.mem_of_getElem? (i := 0) rfl))
  intro v3 e_v3
  replace h := h v3 e_v3
  exact h
set_option maxRecDepth 20000 in
theorem g_X6_foldsBack_21 {Q X : m_Po} {v0 v1 v2 t : Int} {ε : m_E} {μ : m_M} (h : TY ε μ → i32 v1 → i32 v2 → i32 t → o_X6_yOf [(2, v0), (0, v1)] ε μ (fun z ε_1 μ_1 => G cd_X6_foldsBack Q X 26 [(0, (2, v0)), (1, (0, v1)), (2, (0, v2))] [(0, z), (0, t)] ε_1 μ_1) m_F) : G cd_X6_foldsBack Q X 21 [(0, (2, v0)), (1, (0, v1)), (2, (0, v2))] [(0, t)] ε μ := by
  refine G_run (m_in [7, 12, 21, 26, 35, 42, 52, 59, 91]) 14 _ _ _ _ ?_
  show m_ty [(0, (2, v0)), (1, (0, v1)), (2, (0, v2))] [(0, t)] ε μ → o_X6_yOf [(2, v0), (0, v1)] ε μ (fun z ε_1 μ_1 => G cd_X6_foldsBack Q X 26 [(0, (2, v0)), (1, (0, v1)), (2, (0, v2))] [(0, z), (0, t)] ε_1 μ_1) m_F
  intro hty
  replace h := h hty.1 (hty.2.1 _ (List.mem_of_getElem? (i := 1) rfl)) (hty.2.1 _ (List.mem_of_getElem? (i := 2) rfl)) (hty.2.2 _ (List.mem_of_getElem? (i := 0) rfl))
  exact h
set_option maxRecDepth 20000 in
theorem g_X6_foldsBack_12 {Q X : m_Po} {v0 v1 t t_1 : Int} {ε : m_E} {μ : m_M} (h : TY ε μ → i32 v1 → i32 t → i32 t_1 → ∀ v2 : Int, v2 = w32 (t - t_1) → o_X6_yOf [(2, v0), (0, w32 (v1 + 1))] ε μ (fun z ε_1 μ_1 => G cd_X6_foldsBack Q X 21 [(0, (2, v0)), (1, (0, v1)), (2, (0, v2))] [(0, z)] ε_1 μ_1) m_F) : G cd_X6_foldsBack Q X 12 [(0, (2, v0)), (1, (0, v1))] [(0, t_1), (0, t)] ε μ := by
  refine G_run (m_in [7, 12, 21, 26, 35, 42, 52, 59, 91]) 14 _ _ _ _ ?_
  show m_ty [(0, (2, v0)), (1, (0, v1))] [(0, t_1), (0, t)] ε μ → ∀ v2 : Int, v2 = w32 (t - t_1) → o_X6_yOf [(2, v0), (0, w32 (v1 + 1))] ε μ (fun z ε_1 μ_1 => G cd_X6_foldsBack Q X 21 [(0, (2, v0)), (1, (0, v1)), (2, (0, v2))] [(0, z)] ε_1 μ_1) m_F
  intro hty
  replace h := h hty.1 (hty.2.1 _ (List.mem_of_getElem? (i := 1) rfl)) (hty.2.2 _ (List.mem_of_getElem? (i := 1) rfl)) (hty.2.2 _ (List.mem_of_getElem? (i := 0) rfl))
  intro v2 e_v2
  replace h := h v2 e_v2
  exact h
set_option maxRecDepth 20000 in
theorem g_X6_foldsBack_7 {Q X : m_Po} {v0 v1 t : Int} {ε : m_E} {μ : m_M} (h : TY ε μ → i32 v1 → i32 t → o_X6_xOf [(2, v0), (0, v1)] ε μ (fun z ε_1 μ_1 => G cd_X6_foldsBack Q X 12 [(0, (2, v0)), (1, (0, v1))] [(0, z), (0, t)] ε_1 μ_1) m_F) : G cd_X6_foldsBack Q X 7 [(0, (2, v0)), (1, (0, v1))] [(0, t)] ε μ := by
  refine G_run (m_in [7, 12, 21, 26, 35, 42, 52, 59, 91]) 14 _ _ _ _ ?_
  show m_ty [(0, (2, v0)), (1, (0, v1))] [(0, t)] ε μ → o_X6_xOf [(2, v0), (0, v1)] ε μ (fun z ε_1 μ_1 => G cd_X6_foldsBack Q X 12 [(0, (2, v0)), (1, (0, v1))] [(0, z), (0, t)] ε_1 μ_1) m_F
  intro hty
  replace h := h hty.1 (hty.2.1 _ (List.mem_of_getElem? (i := 1) rfl)) (hty.2.2 _ (List.mem_of_getElem? (i := 0) rfl))
  exact h
set_option maxRecDepth 20000 in
theorem g_X6_foldsBack_0 {Q X : m_Po} {v0 v1 : Int} {ε : m_E} {μ : m_M} (h : TY ε μ → i32 v1 → o_X6_xOf [(2, v0), (0, w32 (v1 + 1))] ε μ (fun z ε_1 μ_1 => G cd_X6_foldsBack Q X 7 [(0, (2, v0)), (1, (0, v1))] [(0, z)] ε_1 μ_1) m_F) : G cd_X6_foldsBack Q X 0 [(0, (2, v0)), (1, (0, v1))] [] ε μ := by
  refine G_run (m_in [7, 12, 21, 26, 35, 42, 52, 59, 91]) 14 _ _ _ _ ?_
  show m_ty [(0, (2, v0)), (1, (0, v1))] [] ε μ → o_X6_xOf [(2, v0), (0, w32 (v1 + 1))] ε μ (fun z ε_1 μ_1 => G cd_X6_foldsBack Q X 7 [(0, (2, v0)), (1, (0, v1))] [(0, z)] ε_1 μ_1) m_F
  intro hty
  replace h := h hty.1 (hty.2.1 _ (List.mem_of_getElem? (i := 1) rfl))
  exact h
theorem e_X6_foldsBack {Q X : m_Po} {v0 v1 : Int} {ε : m_E} {μ : m_M} (h : TY ε μ → i32 v1 → o_X6_xOf [(2, v0), (0, w32 (v1 + 1))] ε μ (fun z ε_1 μ_1 => G cd_X6_foldsBack Q X 7 [(0, (2, v0)), (1, (0, v1))] [(0, z)] ε_1 μ_1) m_F) : o_X6_foldsBack [(2, v0), (0, v1)] ε μ Q X := And.intro rfl (g_X6_foldsBack_0 h)
