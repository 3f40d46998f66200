/-! ArchYardModel.orders(I)V -/
set_option maxRecDepth 20000 in
theorem g_X12_orders_153 {Q X : m_Po} {v0 v1 v2 v4 v5 t t_1 t_2 : Int} {ε : m_E} {μ : m_M} (h : TY ε μ → i32 v1 → i32 v2 → i32 v4 → i32 v5 → i32 t_1 → i32 t_2 → kd ε t = 100 ∧ (0 : Int) ≤ t_1 ∧ t_1 < ln ε t ∧ ∀ μ_1 : m_M, μ_1 = st μ t t_1 t_2 → kd ε v0 = 11 ∧ ∀ μ_2 : m_M, μ_2 = st μ_1 v0 67 (w32 ((μ_1 v0 67) + 1)) → G cd_X12_orders Q X 85 [(0, (2, v0)), (1, (0, v1)), (2, (0, v2)), (4, (0, v4)), (5, (0, v5))] [] ε μ_2) : G cd_X12_orders Q X 153 [(0, (2, v0)), (1, (0, v1)), (2, (0, v2)), (4, (0, v4)), (5, (0, v5))] [(0, t_2), (0, t_1), (2, t)] ε μ := by
  refine G_run (m_in [9, 35, 47, 56, 73, 85, 109, 116, 117, 133, 153]) 27 _ _ _ _ ?_
  show m_ty [(0, (2, v0)), (1, (0, v1)), (2, (0, v2)), (4, (0, v4)), (5, (0, v5))] [(0, t_2), (0, t_1), (2, t)] ε μ → (kd ε t = 100) ∧ ((0 : Int) ≤ t_1 ∧ t_1 < ln ε t) ∧ ∀ μ_1 : m_M, μ_1 = st μ t t_1 t_2 → (kd ε v0 = 11) ∧ (kd ε v0 = 11) ∧ ∀ μ_2 : m_M, μ_2 = st μ_1 v0 67 (w32 ((μ_1 v0 67) + 1)) → G cd_X12_orders Q X 85 [(0, (2, v0)), (1, (0, v1)), (2, (0, v2)), (4, (0, v4)), (5, (0, v5))] [] ε μ_2
  intro hty
  replace h := h hty.1 (hty.2.1 _ (List.mem_of_getElem? (i := 1) rfl)) (hty.2.1 _ (List.mem_of_getElem? (i := 2) rfl)) (hty.2.1 _ (List.mem_of_getElem? (i := 3) rfl)) (hty.2.1 _ (List.mem_of_getElem? (i := 4) rfl)) (hty.2.2 _ (List.mem_of_getElem? (i := 1) rfl)) (hty.2.2 _ (List.mem_of_getElem? (i := 0) rfl))
  obtain ⟨k1, h⟩ := h
  refine And.intro k1 ?_
  obtain ⟨k2, h⟩ := h
  obtain ⟨k3, h⟩ := h
  refine And.intro (And.intro k2 k3) ?_
  intro μ_1 e_μ_1
  replace h := h μ_1 e_μ_1
  obtain ⟨k4, h⟩ := h
  refine And.intro k4 ?_
  refine And.intro k4 ?_
  intro μ_2 e_μ_2
  replace h := h μ_2 e_μ_2
  exact h
set_option maxRecDepth 20000 in
theorem g_X12_orders_133 {Q X : m_Po} {v0 v1 v2 v4 v5 v6 : Int} {ε : m_E} {μ : m_M} (h : TY ε μ → i32 v1 → i32 v2 → i32 v4 → i32 v5 → i32 v6 → kd ε v0 = 11 ∧ ∀ t : Int, t = (if v6 = 0 then v5 else v4) → kd ε (fn ε v0 64) = 100 ∧ (0 : Int) ≤ (μ v0 67) ∧ (μ v0 67) < ln ε (fn ε v0 64) ∧ ∀ μ_1 : m_M, μ_1 = st μ (fn ε v0 64) (μ v0 67) t → kd ε v0 = 11 ∧ ∀ μ_2 : m_M, μ_2 = st μ_1 v0 67 (w32 ((μ_1 v0 67) + 1)) → G cd_X12_orders Q X 85 [(0, (2, v0)), (1, (0, v1)), (2, (0, v2)), (4, (0, v4)), (5, (0, v5))] [] ε μ_2) : G cd_X12_orders Q X 133 [(0, (2, v0)), (1, (0, v1)), (2, (0, v2)), (4, (0, v4)), (5, (0, v5)), (6, (0, v6))] [] ε μ := by
  refine G_run (m_in [9, 35, 47, 56, 73, 85, 109, 116, 117, 133, 153]) 27 _ _ _ _ ?_
  show m_ty [(0, (2, v0)), (1, (0, v1)), (2, (0, v2)), (4, (0, v4)), (5, (0, v5)), (6, (0, v6))] [] ε μ → (kd ε v0 = 11) ∧ (kd ε v0 = 11) ∧ (v6 = 0 → (m_ty [(0, (2, v0)), (1, (0, v1)), (2, (0, v2)), (4, (0, v4)), (5, (0, v5))] [(0, μ v0 67), (2, fn ε v0 64)] ε μ → G cd_X12_orders Q X 153 [(0, (2, v0)), (1, (0, v1)), (2, (0, v2)), (4, (0, v4)), (5, (0, v5))] [(0, v5), (0, μ v0 67), (2, fn ε v0 64)] ε μ)) ∧ (v6 ≠ 0 → (m_ty [(0, (2, v0)), (1, (0, v1)), (2, (0, v2)), (4, (0, v4)), (5, (0, v5))] [(0, μ v0 67), (2, fn ε v0 64)] ε μ → G cd_X12_orders Q X 153 [(0, (2, v0)), (1, (0, v1)), (2, (0, v2)), (4, (0, v4)), (5, (0, v5))] [(0, v4), (0, μ v0 67), (2, fn ε v0 64)] ε μ))
  intro hty
  replace h := h hty.1 (hty.2.1 _ (List.mem_of_getElem? (i := 1) rfl)) (hty.2.1 _ (List.mem_of_getElem? (i := 2) rfl)) (hty.2.1 _ (List.mem_of_getElem? (i := 3) rfl)) (hty.2.1 _ (List.mem_of_getElem? (i := 4) rfl)) (hty.2.1 _ (List.mem_of_getElem? (i := 5) rfl))
  obtain ⟨k1, h⟩ := h
  refine And.intro k1 ?_
  refine And.intro k1 ?_
  have hj := h
  refine And.intro (fun c1 => ?_) (fun c1 => ?_)
  · intro _
    exact g_X12_orders_153 (fun _ _ _ _ _ _ _ => (hj _ (((if_pos c1).trans rfl)).symm))
  · intro _
    exact g_X12_orders_153 (fun _ _ _ _ _ _ _ => (hj _ (((if_neg (c1)).trans rfl)).symm))
set_option maxRecDepth 20000 in
theorem g_X12_orders_117 {Q X : m_Po} {v0 v1 v2 v4 v5 t : Int} {ε : m_E} {μ : m_M} (h : TY ε μ → i32 v1 → i32 v2 → i32 v4 → i32 v5 → i32 t → ∀ v6 : Int, v6 = t → ∀ v4_2 : Int, v4_2 = (if v6 = 0 then v4 else (w32 (v4 + (-1)))) → ∀ v5_2 : Int, v5_2 = (if v6 = 0 then (w32 (v5 + 1)) else v5) → kd ε v0 = 11 ∧ ∀ t_1 : Int, t_1 = (if v6 = 0 then v5_2 else v4_2) → kd ε (fn ε v0 64) = 100 ∧ (0 : Int) ≤ (μ v0 67) ∧ (μ v0 67) < ln ε (fn ε v0 64) ∧ ∀ μ_1 : m_M, μ_1 = st μ (fn ε v0 64) (μ v0 67) t_1 → kd ε v0 = 11 ∧ ∀ μ_2 : m_M, μ_2 = st μ_1 v0 67 (w32 ((μ_1 v0 67) + 1)) → G cd_X12_orders Q X 85 [(0, (2, v0)), (1, (0, v1)), (2, (0, v2)), (4, (0, v4_2)), (5, (0, v5_2))] [] ε μ_2) : G cd_X12_orders Q X 117 [(0, (2, v0)), (1, (0, v1)), (2, (0, v2)), (4, (0, v4)), (5, (0, v5))] [(0, t)] ε μ := by
  refine G_run (m_in [9, 35, 47, 56, 73, 85, 109, 116, 117, 133, 153]) 27 _ _ _ _ ?_
  show m_ty [(0, (2, v0)), (1, (0, v1)), (2, (0, v2)), (4, (0, v4)), (5, (0, v5))] [(0, t)] ε μ → ∀ v6 : Int, v6 = t → (v6 = 0 → (m_ty [(0, (2, v0)), (1, (0, v1)), (2, (0, v2)), (4, (0, v4)), (5, (0, v5)), (6, (0, v6))] [] ε μ → ∀ v5_1 : Int, v5_1 = w32 (v5 + 1) → G cd_X12_orders Q X 133 [(0, (2, v0)), (1, (0, v1)), (2, (0, v2)), (4, (0, v4)), (5, (0, v5_1)), (6, (0, v6))] [] ε μ)) ∧ (v6 ≠ 0 → (m_ty [(0, (2, v0)), (1, (0, v1)), (2, (0, v2)), (4, (0, v4)), (5, (0, v5)), (6, (0, v6))] [] ε μ → ∀ v4_1 : Int, v4_1 = w32 (v4 + (-1)) → G cd_X12_orders Q X 133 [(0, (2, v0)), (1, (0, v1)), (2, (0, v2)), (4, (0, v4_1)), (5, (0, v5)), (6, (0, v6))] [] ε μ))
  intro hty
  replace h := h hty.1 (hty.2.1 _ (List.mem_of_getElem? (i := 1) rfl)) (hty.2.1 _ (List.mem_of_getElem? (i := 2) rfl)) (hty.2.1 _ (List.mem_of_getElem? (i := 3) rfl)) (hty.2.1 _ (List.mem_of_getElem? (i := 4) rfl)) (hty.2.2 _ (List.mem_of_getElem? (i := 0) rfl))
  intro v6 e_v6
  replace h := h v6 e_v6
  have hj := h
  refine And.intro (fun c0 => ?_) (fun c0 => ?_)
  · intro _
    intro v5_1 e_v5_1
    subst e_v5_1
    exact g_X12_orders_133 (fun _ _ _ _ _ _ => (hj _ (((if_pos c0).trans rfl)).symm _ (((if_pos c0).trans rfl)).symm))
  · intro _
    intro v4_1 e_v4_1
    subst e_v4_1
    exact g_X12_orders_133 (fun _ _ _ _ _ _ => (hj _ (((if_neg (c0)).trans rfl)).symm _ (((if_neg (c0)).trans rfl)).symm))
set_option maxRecDepth 20000 in
theorem g_X12_orders_116 {Q X : m_Po} {v0 v1 v2 v4 v5 : Int} {ε : m_E} {μ : m_M} (h : TY ε μ → i32 v1 → i32 v2 → i32 v4 → i32 v5 → G cd_X12_orders Q X 117 [(0, (2, v0)), (1, (0, v1)), (2, (0, v2)), (4, (0, v4)), (5, (0, v5))] [(0, 0)] ε μ) : G cd_X12_orders Q X 116 [(0, (2, v0)), (1, (0, v1)), (2, (0, v2)), (4, (0, v4)), (5, (0, v5))] [] ε μ := by
  refine G_run (m_in [9, 35, 47, 56, 73, 85, 109, 116, 117, 133, 153]) 27 _ _ _ _ ?_
  show m_ty [(0, (2, v0)), (1, (0, v1)), (2, (0, v2)), (4, (0, v4)), (5, (0, v5))] [] ε μ → G cd_X12_orders Q X 117 [(0, (2, v0)), (1, (0, v1)), (2, (0, v2)), (4, (0, v4)), (5, (0, v5))] [(0, 0)] ε μ
  intro hty
  replace h := h hty.1 (hty.2.1 _ (List.mem_of_getElem? (i := 1) rfl)) (hty.2.1 _ (List.mem_of_getElem? (i := 2) rfl)) (hty.2.1 _ (List.mem_of_getElem? (i := 3) rfl)) (hty.2.1 _ (List.mem_of_getElem? (i := 4) rfl))
  exact h
set_option maxRecDepth 20000 in
theorem g_X12_orders_109 {Q X : m_Po} {v0 v1 v2 v4 v5 t : Int} {ε : m_E} {μ : m_M} (h : TY ε μ → i32 v1 → i32 v2 → i32 v4 → i32 v5 → i32 t → (t = 0 → G cd_X12_orders Q X 116 [(0, (2, v0)), (1, (0, v1)), (2, (0, v2)), (4, (0, v4)), (5, (0, v5))] [] ε μ) ∧ (t ≠ 0 → G cd_X12_orders Q X 117 [(0, (2, v0)), (1, (0, v1)), (2, (0, v2)), (4, (0, v4)), (5, (0, v5))] [(0, 1)] ε μ)) : G cd_X12_orders Q X 109 [(0, (2, v0)), (1, (0, v1)), (2, (0, v2)), (4, (0, v4)), (5, (0, v5))] [(0, t)] ε μ := by
  refine G_run (m_in [9, 35, 47, 56, 73, 85, 109, 116, 117, 133, 153]) 27 _ _ _ _ ?_
  show m_ty [(0, (2, v0)), (1, (0, v1)), (2, (0, v2)), (4, (0, v4)), (5, (0, v5))] [(0, t)] ε μ → (t = 0 → G cd_X12_orders Q X 116 [(0, (2, v0)), (1, (0, v1)), (2, (0, v2)), (4, (0, v4)), (5, (0, v5))] [] ε μ) ∧ (t ≠ 0 → (m_ty [(0, (2, v0)), (1, (0, v1)), (2, (0, v2)), (4, (0, v4)), (5, (0, v5))] [] ε μ → G cd_X12_orders Q X 117 [(0, (2, v0)), (1, (0, v1)), (2, (0, v2)), (4, (0, v4)), (5, (0, v5))] [(0, 1)] ε μ))
  intro hty
  replace h := h hty.1 (hty.2.1 _ (List.mem_of_getElem? (i := 1) rfl)) (hty.2.1 _ (List.mem_of_getElem? (i := 2) rfl)) (hty.2.1 _ (List.mem_of_getElem? (i := 3) rfl)) (hty.2.1 _ (List.mem_of_getElem? (i := 4) rfl)) (hty.2.2 _ (List.mem_of_getElem? (i := 0) rfl))
  obtain ⟨ha, hb⟩ := h
  refine And.intro (fun c0 => ?_) (fun c0 => ?_)
  · replace h := ha c0
    clear ha hb
    exact h
  · replace h := hb c0
    clear ha hb
    intro _
    exact h
set_option maxRecDepth 20000 in
theorem g_X12_orders_85 {Q X : m_Po} {v0 v1 v2 v4 v5 : Int} {ε : m_E} {μ : m_M} (h : TY ε μ → i32 v1 → i32 v2 → i32 v4 → i32 v5 → kd ε v0 = 11 ∧ (v2 ≤ (μ v0 67) → Q 0 ε μ) ∧ ((μ v0 67) < v2 → (v4 ≤ 0 → G cd_X12_orders Q X 116 [(0, (2, v0)), (1, (0, v1)), (2, (0, v2)), (4, (0, v4)), (5, (0, v5))] [] ε μ) ∧ (0 < v4 → o_X12_gr10 [(2, v0), (0, v1), (0, w32 (v4 - 1)), (0, v5)] ε μ (fun z ε_1 μ_1 => G cd_X12_orders Q X 109 [(0, (2, v0)), (1, (0, v1)), (2, (0, v2)), (4, (0, v4)), (5, (0, v5))] [(0, z)] ε_1 μ_1) m_F))) : G cd_X12_orders Q X 85 [(0, (2, v0)), (1, (0, v1)), (2, (0, v2)), (4, (0, v4)), (5, (0, v5))] [] ε μ := by
  refine G_run (m_in [9, 35, 47, 56, 73, 85, 109, 116, 117, 133, 153]) 27 _ _ _ _ ?_
  show m_ty [(0, (2, v0)), (1, (0, v1)), (2, (0, v2)), (4, (0, v4)), (5, (0, v5))] [] ε μ → (kd ε v0 = 11) ∧ (v2 ≤ (μ v0 67) → (m_ty [] [] ε μ → Q 0 ε μ)) ∧ ((μ v0 67) < v2 → (m_ty [(0, (2, v0)), (1, (0, v1)), (2, (0, v2)), (4, (0, v4)), (5, (0, v5))] [] ε μ → (v4 ≤ 0 → G cd_X12_orders Q X 116 [(0, (2, v0)), (1, (0, v1)), (2, (0, v2)), (4, (0, v4)), (5, (0, v5))] [] ε μ) ∧ (0 < v4 → (m_ty [(0, (2, v0)), (1, (0, v1)), (2, (0, v2)), (4, (0, v4)), (5, (0, v5))] [] ε μ → (kd ε v0 = 11) ∧ o_X12_gr10 [(2, v0), (0, v1), (0, w32 (v4 - 1)), (0, v5)] ε μ (fun z ε_1 μ_1 => G cd_X12_orders Q X 109 [(0, (2, v0)), (1, (0, v1)), (2, (0, v2)), (4, (0, v4)), (5, (0, v5))] [(0, z)] ε_1 μ_1) m_F))))
  intro hty
  replace h := h hty.1 (hty.2.1 _ (List.mem_of_getElem? (i := 1) rfl)) (hty.2.1 _ (List.mem_of_getElem? (i := 2) rfl)) (hty.2.1 _ (List.mem_of_getElem? (i := 3) rfl)) (hty.2.1 _ (List.mem_of_getElem? (i := 4) rfl))
  obtain ⟨k1, h⟩ := h
  refine And.intro k1 ?_
  obtain ⟨ha, hb⟩ := h
  refine And.intro (fun c2 => ?_) (fun c2 => ?_)
  · replace h := ha c2
    clear ha hb
    intro _
    exact h
  · replace h := hb c2
    clear ha hb
    intro _
    obtain ⟨ha, hb⟩ := h
    refine And.intro (fun c1 => ?_) (fun c1 => ?_)
    · replace h := ha c1
      clear ha hb
      exact h
    · replace h := hb c1
      clear ha hb
      intro _
      refine And.intro k1 ?_
      exact h
set_option maxRecDepth 20000 in
theorem g_X12_orders_73 {Q X : m_Po} {v0 v1 v2 v3 v4 v5 : Int} {ε : m_E} {μ : m_M} (h : TY ε μ → i32 v1 → i32 v2 → i32 v3 → i32 v4 → i32 v5 → kd ε v0 = 11 ∧ kd ε (fn ε v0 64) = 100 ∧ 0 < ln ε (fn ε v0 64) ∧ ∀ μ_1 : m_M, μ_1 = st μ (fn ε v0 64) 0 v3 → ∀ μ_2 : m_M, μ_2 = st μ_1 v0 67 1 → G cd_X12_orders Q X 85 [(0, (2, v0)), (1, (0, v1)), (2, (0, v2)), (4, (0, v4)), (5, (0, v5))] [] ε μ_2) : G cd_X12_orders Q X 73 [(0, (2, v0)), (1, (0, v1)), (2, (0, v2)), (3, (0, v3)), (4, (0, v4)), (5, (0, v5))] [] ε μ := by
  refine G_run (m_in [9, 35, 47, 56, 73, 85, 109, 116, 117, 133, 153]) 27 _ _ _ _ ?_
  show m_ty [(0, (2, v0)), (1, (0, v1)), (2, (0, v2)), (3, (0, v3)), (4, (0, v4)), (5, (0, v5))] [] ε μ → (kd ε v0 = 11) ∧ (kd ε (fn ε v0 64) = 100) ∧ ((0 : Int) ≤ 0 ∧ 0 < ln ε (fn ε v0 64)) ∧ ∀ μ_1 : m_M, μ_1 = st μ (fn ε v0 64) 0 v3 → (kd ε v0 = 11) ∧ ∀ μ_2 : m_M, μ_2 = st μ_1 v0 67 1 → G cd_X12_orders Q X 85 [(0, (2, v0)), (1, (0, v1)), (2, (0, v2)), (4, (0, v4)), (5, (0, v5))] [] ε μ_2
  intro hty
  replace h := h hty.1 (hty.2.1 _ (List.mem_of_getElem? (i := 1) rfl)) (hty.2.1 _ (List.mem_of_getElem? (i := 2) rfl)) (hty.2.1 _ (List.mem_of_getElem? (i := 3) rfl)) (hty.2.1 _ (List.mem_of_getElem? (i := 4) rfl)) (hty.2.1 _ (List.mem_of_getElem? (i := 5) rfl))
  obtain ⟨k1, h⟩ := h
  refine And.intro k1 ?_
  obtain ⟨k2, h⟩ := h
  refine And.intro k2 ?_
  obtain ⟨k3, h⟩ := h
  refine And.intro (And.intro (by decide) k3) ?_
  intro μ_1 e_μ_1
  replace h := h μ_1 e_μ_1
  refine And.intro k1 ?_
  intro μ_2 e_μ_2
  replace h := h μ_2 e_μ_2
  exact h
set_option maxRecDepth 20000 in
theorem g_X12_orders_56 {Q X : m_Po} {v0 v1 v2 v3 : Int} {ε : m_E} {μ : m_M} (h : TY ε μ → i32 v1 → i32 v2 → i32 v3 → kd ε v0 = 11 ∧ ∀ μ_1 : m_M, μ_1 = st μ v0 66 v1 → (v3 ≠ v2 → ∀ v4 : Int, v4 = v3 → ∀ v5 : Int, v5 = v3 → kd ε v0 = 11 ∧ kd ε (fn ε v0 64) = 100 ∧ 0 < ln ε (fn ε v0 64) ∧ ∀ μ_2 : m_M, μ_2 = st μ_1 (fn ε v0 64) 0 v3 → ∀ μ_3 : m_M, μ_3 = st μ_2 v0 67 1 → G cd_X12_orders Q X 85 [(0, (2, v0)), (1, (0, v1)), (2, (0, v2)), (4, (0, v4)), (5, (0, v5))] [] ε μ_3) ∧ (v3 = v2 → Q 0 ε μ_1)) : G cd_X12_orders Q X 56 [(0, (2, v0)), (1, (0, v1)), (2, (0, v2)), (3, (0, v3))] [] ε μ := by
  refine G_run (m_in [9, 35, 47, 56, 73, 85, 109, 116, 117, 133, 153]) 27 _ _ _ _ ?_
  show m_ty [(0, (2, v0)), (1, (0, v1)), (2, (0, v2)), (3, (0, v3))] [] ε μ → (kd ε v0 = 11) ∧ ∀ μ_1 : m_M, μ_1 = st μ v0 66 v1 → (v3 ≠ v2 → (m_ty [(0, (2, v0)), (1, (0, v1)), (2, (0, v2)), (3, (0, v3))] [] ε μ_1 → ∀ v4 : Int, v4 = v3 → ∀ v5 : Int, v5 = v3 → G cd_X12_orders Q X 73 [(0, (2, v0)), (1, (0, v1)), (2, (0, v2)), (3, (0, v3)), (4, (0, v4)), (5, (0, v5))] [] ε μ_1)) ∧ (v3 = v2 → (m_ty [] [] ε μ_1 → Q 0 ε μ_1))
  intro hty
  replace h := h hty.1 (hty.2.1 _ (List.mem_of_getElem? (i := 1) rfl)) (hty.2.1 _ (List.mem_of_getElem? (i := 2) rfl)) (hty.2.1 _ (List.mem_of_getElem? (i := 3) rfl))
  obtain ⟨k1, h⟩ := h
  refine And.intro k1 ?_
  intro μ_1 e_μ_1
  replace h := h μ_1 e_μ_1
  obtain ⟨ha, hb⟩ := h
  refine And.intro (fun c4 => ?_) (fun c4 => ?_)
  · replace h := ha c4
    clear ha hb
    intro _
    intro v4 e_v4
    replace h := h v4 e_v4
    intro v5 e_v5
    replace h := h v5 e_v5
    exact g_X12_orders_73 (fun _ _ _ _ _ _ => h)
  · replace h := hb c4
    clear ha hb
    intro _
    exact h
set_option maxRecDepth 20000 in
theorem g_X12_orders_47 {Q X : m_Po} {v0 v1 v2 v3 t : Int} {ε : m_E} {μ : m_M} (h : TY ε μ → i32 v1 → i32 v2 → i32 v3 → i32 t → (t ≠ 0 → G cd_X12_orders Q X 56 [(0, (2, v0)), (1, (0, v1)), (2, (0, v2)), (3, (0, v3))] [] ε μ) ∧ (t = 0 → ∀ v3_1 : Int, v3_1 = w32 (v3 + 1) → G cd_X12_orders Q X 35 [(0, (2, v0)), (1, (0, v1)), (2, (0, v2)), (3, (0, v3_1))] [] ε μ)) : G cd_X12_orders Q X 47 [(0, (2, v0)), (1, (0, v1)), (2, (0, v2)), (3, (0, v3))] [(0, t)] ε μ := by
  refine G_run (m_in [9, 35, 47, 56, 73, 85, 109, 116, 117, 133, 153]) 27 _ _ _ _ ?_
  show m_ty [(0, (2, v0)), (1, (0, v1)), (2, (0, v2)), (3, (0, v3))] [(0, t)] ε μ → (t ≠ 0 → G cd_X12_orders Q X 56 [(0, (2, v0)), (1, (0, v1)), (2, (0, v2)), (3, (0, v3))] [] ε μ) ∧ (t = 0 → (m_ty [(0, (2, v0)), (1, (0, v1)), (2, (0, v2)), (3, (0, v3))] [] ε μ → ∀ v3_1 : Int, v3_1 = w32 (v3 + 1) → G cd_X12_orders Q X 35 [(0, (2, v0)), (1, (0, v1)), (2, (0, v2)), (3, (0, v3_1))] [] ε μ))
  intro hty
  replace h := h hty.1 (hty.2.1 _ (List.mem_of_getElem? (i := 1) rfl)) (hty.2.1 _ (List.mem_of_getElem? (i := 2) rfl)) (hty.2.1 _ (List.mem_of_getElem? (i := 3) rfl)) (hty.2.2 _ (List.mem_of_getElem? (i := 0) rfl))
  obtain ⟨ha, hb⟩ := h
  refine And.intro (fun c0 => ?_) (fun c0 => ?_)
  · replace h := ha c0
    clear ha hb
    exact h
  · replace h := hb c0
    clear ha hb
    intro _
    intro v3_1 e_v3_1
    replace h := h v3_1 e_v3_1
    exact h
set_option maxRecDepth 20000 in
theorem g_X12_orders_35 {Q X : m_Po} {v0 v1 v2 v3 : Int} {ε : m_E} {μ : m_M} (h : TY ε μ → i32 v1 → i32 v2 → i32 v3 → (v2 ≤ v3 → G cd_X12_orders Q X 56 [(0, (2, v0)), (1, (0, v1)), (2, (0, v2)), (3, (0, v3))] [] ε μ) ∧ (v3 < v2 → kd ε v0 = 11 ∧ o_X12_gr10 [(2, v0), (0, v1), (0, v3), (0, v3)] ε μ (fun z ε_1 μ_1 => G cd_X12_orders Q X 47 [(0, (2, v0)), (1, (0, v1)), (2, (0, v2)), (3, (0, v3))] [(0, z)] ε_1 μ_1) m_F)) : G cd_X12_orders Q X 35 [(0, (2, v0)), (1, (0, v1)), (2, (0, v2)), (3, (0, v3))] [] ε μ := by
  refine G_run (m_in [9, 35, 47, 56, 73, 85, 109, 116, 117, 133, 153]) 27 _ _ _ _ ?_
  show m_ty [(0, (2, v0)), (1, (0, v1)), (2, (0, v2)), (3, (0, v3))] [] ε μ → (v2 ≤ v3 → G cd_X12_orders Q X 56 [(0, (2, v0)), (1, (0, v1)), (2, (0, v2)), (3, (0, v3))] [] ε μ) ∧ (v3 < v2 → (m_ty [(0, (2, v0)), (1, (0, v1)), (2, (0, v2)), (3, (0, v3))] [] ε μ → (kd ε v0 = 11) ∧ o_X12_gr10 [(2, v0), (0, v1), (0, v3), (0, v3)] ε μ (fun z ε_1 μ_1 => G cd_X12_orders Q X 47 [(0, (2, v0)), (1, (0, v1)), (2, (0, v2)), (3, (0, v3))] [(0, z)] ε_1 μ_1) m_F))
  intro hty
  replace h := h hty.1 (hty.2.1 _ (List.mem_of_getElem? (i := 1) rfl)) (hty.2.1 _ (List.mem_of_getElem? (i := 2) rfl)) (hty.2.1 _ (List.mem_of_getElem? (i := 3) rfl))
  obtain ⟨ha, hb⟩ := h
  refine And.intro (fun c1 => ?_) (fun c1 => ?_)
  · replace h := ha c1
    clear ha hb
    exact h
  · replace h := hb c1
    clear ha hb
    intro _
    obtain ⟨k1, h⟩ := h
    refine And.intro k1 ?_
    exact h
set_option maxRecDepth 20000 in
theorem g_X12_orders_9 {Q X : m_Po} {v0 v1 v2 v3 : Int} {ε : m_E} {μ : m_M} (h : TY ε μ → i32 v1 → i32 v2 → i32 v3 → ((100 : Int) ≤ v3 → kd ε v0 = 11 ∧ ∀ μ_1 : m_M, μ_1 = st μ v0 67 0 → ∀ v3_1 : Int, v3_1 = 0 → G cd_X12_orders Q X 35 [(0, (2, v0)), (1, (0, v1)), (2, (0, v2)), (3, (0, v3_1))] [] ε μ_1) ∧ (v3 < (100 : Int) → kd ε v0 = 11 ∧ kd ε (fn ε v0 65) = 100 ∧ (0 : Int) ≤ v3 ∧ v3 < ln ε (fn ε v0 65) ∧ ∀ μ_2 : m_M, μ_2 = st μ (fn ε v0 65) v3 0 → ∀ v3_2 : Int, v3_2 = w32 (v3 + 1) → G cd_X12_orders Q X 9 [(0, (2, v0)), (1, (0, v1)), (2, (0, v2)), (3, (0, v3_2))] [] ε μ_2)) : G cd_X12_orders Q X 9 [(0, (2, v0)), (1, (0, v1)), (2, (0, v2)), (3, (0, v3))] [] ε μ := by
  refine G_run (m_in [9, 35, 47, 56, 73, 85, 109, 116, 117, 133, 153]) 27 _ _ _ _ ?_
  show m_ty [(0, (2, v0)), (1, (0, v1)), (2, (0, v2)), (3, (0, v3))] [] ε μ → ((100 : Int) ≤ v3 → (m_ty [(0, (2, v0)), (1, (0, v1)), (2, (0, v2))] [] ε μ → (kd ε v0 = 11) ∧ ∀ μ_1 : m_M, μ_1 = st μ v0 67 0 → ∀ v3_1 : Int, v3_1 = 0 → G cd_X12_orders Q X 35 [(0, (2, v0)), (1, (0, v1)), (2, (0, v2)), (3, (0, v3_1))] [] ε μ_1)) ∧ (v3 < (100 : Int) → (m_ty [(0, (2, v0)), (1, (0, v1)), (2, (0, v2)), (3, (0, v3))] [] ε μ → (kd ε v0 = 11) ∧ (kd ε (fn ε v0 65) = 100) ∧ ((0 : Int) ≤ v3 ∧ v3 < ln ε (fn ε v0 65)) ∧ ∀ μ_2 : m_M, μ_2 = st μ (fn ε v0 65) v3 0 → ∀ v3_2 : Int, v3_2 = w32 (v3 + 1) → G cd_X12_orders Q X 9 [(0, (2, v0)), (1, (0, v1)), (2, (0, v2)), (3, (0, v3_2))] [] ε μ_2))
  intro hty
  replace h := h hty.1 (hty.2.1 _ (List.mem_of_getElem? (i := 1) rfl)) (hty.2.1 _ (List.mem_of_getElem? (i := 2) rfl)) (hty.2.1 _ (List.mem_of_getElem? (i := 3) rfl))
  obtain ⟨ha, hb⟩ := h
  refine And.intro (fun c5 => ?_) (fun c5 => ?_)
  · replace h := ha c5
    clear ha hb
    intro _
    obtain ⟨k1, h⟩ := h
    refine And.intro k1 ?_
    intro μ_1 e_μ_1
    replace h := h μ_1 e_μ_1
    intro v3_1 e_v3_1
    replace h := h v3_1 e_v3_1
    exact h
  · replace h := hb c5
    clear ha hb
    intro _
    obtain ⟨k2, h⟩ := h
    refine And.intro k2 ?_
    obtain ⟨k3, h⟩ := h
    refine And.intro k3 ?_
    obtain ⟨k4, h⟩ := h
    obtain ⟨k5, h⟩ := h
    refine And.intro (And.intro k4 k5) ?_
    intro μ_2 e_μ_2
    replace h := h μ_2 e_μ_2
    intro v3_2 e_v3_2
    replace h := h v3_2 e_v3_2
    exact h
set_option maxRecDepth 20000 in
theorem g_X12_orders_0 {Q X : m_Po} {v0 v1 : Int} {ε : m_E} {μ : m_M} (h : TY ε μ → i32 v1 → kd ε v0 = 11 ∧ kd ε (fn ε v0 17) = 100 ∧ (0 : Int) ≤ v1 ∧ v1 < ln ε (fn ε v0 17) ∧ ∀ v2 : Int, v2 = μ (fn ε v0 17) v1 → ∀ v3 : Int, v3 = 0 → G cd_X12_orders Q X 9 [(0, (2, v0)), (1, (0, v1)), (2, (0, v2)), (3, (0, v3))] [] ε μ) : G cd_X12_orders Q X 0 [(0, (2, v0)), (1, (0, v1))] [] ε μ := by
  refine G_run (m_in [9, 35, 47, 56, 73, 85, 109, 116, 117, 133, 153]) 27 _ _ _ _ ?_
  show m_ty [(0, (2, v0)), (1, (0, v1))] [] ε μ → (kd ε v0 = 11) ∧ (kd ε (fn ε v0 17) = 100) ∧ ((0 : Int) ≤ v1 ∧ v1 < ln ε (fn ε v0 17)) ∧ ∀ v2 : Int, v2 = μ (fn ε v0 17) v1 → ∀ v3 : Int, v3 = 0 → G cd_X12_orders Q X 9 [(0, (2, v0)), (1, (0, v1)), (2, (0, v2)), (3, (0, v3))] [] ε μ
  intro hty
  replace h := h hty.1 (hty.2.1 _ (List.mem_of_getElem? (i := 1) rfl))
  obtain ⟨k1, h⟩ := h
  refine And.intro k1 ?_
  obtain ⟨k2, h⟩ := h
  refine And.intro k2 ?_
  obtain ⟨k3, h⟩ := h
  obtain ⟨k4, h⟩ := h
  refine And.intro (And.intro k3 k4) ?_
  intro v2 e_v2
  replace h := h v2 e_v2
  intro v3 e_v3
  replace h := h v3 e_v3
  exact h
theorem e_X12_orders {Q X : m_Po} {v0 v1 : Int} {ε : m_E} {μ : m_M} (h : TY ε μ → i32 v1 → kd ε v0 = 11 ∧ kd ε (fn ε v0 17) = 100 ∧ (0 : Int) ≤ v1 ∧ v1 < ln ε (fn ε v0 17) ∧ ∀ v2 : Int, v2 = μ (fn ε v0 17) v1 → ∀ v3 : Int, v3 = 0 → G cd_X12_orders Q X 9 [(0, (2, v0)), (1, (0, v1)), (2, (0, v2)), (3, (0, v3))] [] ε μ) : o_X12_orders [(2, v0), (0, v1)] ε μ Q X := And.intro rfl (g_X12_orders_0 h)
/-! ArchYardModel.order(II)I -/
set_option maxRecDepth 20000 in
theorem g_X12_order_72 {Q X : m_Po} {t : Int} {ε : m_E} {μ : m_M} (h : TY ε μ → i32 t → Q t ε μ) : G cd_X12_order Q X 72 [] [(0, t)] ε μ := by
  refine G_run (m_in [5, 16, 25, 50, 72]) 17 _ _ _ _ ?_
  show m_ty [] [(0, t)] ε μ → Q t ε μ
  intro hty
  replace h := h hty.1 (hty.2.2 _ (List.mem_of_getElem? (i := 0) rfl))
  exact h
set_option maxRecDepth 20000 in
theorem g_X12_order_50 {Q X : m_Po} {v0 v2 : Int} {ε : m_E} {μ : m_M} (h : TY ε μ → i32 v2 → ((0 ≤ v2 → kd ε v0 = 11 ∧ (v2 < (μ v0 67) → kd ε (fn ε v0 64) = 100 ∧ (0 : Int) ≤ v2 ∧ v2 < ln ε (fn ε v0 64)))) ∧ ∀ t : Int, t = (if v2 < 0 then (-1) else if (μ v0 67) ≤ v2 then (-1) else μ (fn ε v0 64) v2) → Q t ε μ) : G cd_X12_order Q X 50 [(0, (2, v0)), (2, (0, v2))] [] ε μ := by
  refine G_run (m_in [5, 16, 25, 50, 72]) 17 _ _ _ _ ?_
  show m_ty [(0, (2, v0)), (2, (0, v2))] [] ε μ → (v2 < 0 → (m_ty [] [] ε μ → G cd_X12_order Q X 72 [] [(0, (-1))] ε μ)) ∧ (0 ≤ v2 → (m_ty [(0, (2, v0)), (2, (0, v2))] [] ε μ → (kd ε v0 = 11) ∧ ((μ v0 67) ≤ v2 → (m_ty [] [] ε μ → G cd_X12_order Q X 72 [] [(0, (-1))] ε μ)) ∧ (v2 < (μ v0 67) → (m_ty [(0, (2, v0)), (2, (0, v2))] [] ε μ → (kd ε v0 = 11) ∧ (kd ε (fn ε v0 64) = 100) ∧ ((0 : Int) ≤ v2 ∧ v2 < ln ε (fn ε v0 64)) ∧ G cd_X12_order Q X 72 [] [(0, μ (fn ε v0 64) v2)] ε μ))))
  intro hty
  replace h := h hty.1 (hty.2.1 _ (List.mem_of_getElem? (i := 1) rfl))
  obtain ⟨hc, hj⟩ := h
  refine And.intro (fun c0 => ?_) (fun c0 => ?_)
  · intro _
    exact g_X12_order_72 (fun _ _ => (hj _ (((if_pos c0).trans rfl)).symm))
  · replace hc := hc c0
    intro _
    obtain ⟨k2, k7⟩ := hc
    refine And.intro k2 ?_
    refine And.intro (fun c2 => ?_) (fun c2 => ?_)
    · intro _
      exact g_X12_order_72 (fun _ _ => (hj _ (((if_neg (Int.not_lt.mpr c0)).trans ((if_pos c2).trans rfl))).symm))
    · replace k7 := k7 c2
      intro _
      obtain ⟨k4, k5, k6⟩ := k7
      refine And.intro k2 ?_
      refine And.intro k4 ?_
      refine And.intro (And.intro k5 k6) ?_
      exact g_X12_order_72 (fun _ _ => (hj _ (((if_neg (Int.not_lt.mpr c0)).trans ((if_neg (Int.not_le.mpr c2)).trans rfl))).symm))
set_option maxRecDepth 20000 in
theorem g_X12_order_25 {Q X : m_Po} {v0 v1 v2 t t_1 : Int} {ε : m_E} {μ : m_M} (h : TY ε μ → i32 v1 → i32 v2 → i32 t_1 → kd ε t = 11 ∧ ∀ μ_1 : m_M, μ_1 = st μ t 0 t_1 → kd ε v0 = 11 ∧ ((μ_1 v0 0) ≤ 0 → ((μ_1 v0 66) = v1 → G cd_X12_order Q X 50 [(0, (2, v0)), (2, (0, v2))] [] ε μ_1) ∧ ((μ_1 v0 66) ≠ v1 → o_X12_orders [(2, v0), (0, v1)] ε μ_1 (fun z ε_1 μ_2 => G cd_X12_order Q X 50 [(0, (2, v0)), (2, (0, v2))] [] ε_1 μ_2) m_F)) ∧ (0 < (μ_1 v0 0) → Q 0 ε μ_1)) : G cd_X12_order Q X 25 [(0, (2, v0)), (1, (0, v1)), (2, (0, v2))] [(0, t_1), (2, t)] ε μ := by
  refine G_run (m_in [5, 16, 25, 50, 72]) 17 _ _ _ _ ?_
  show m_ty [(0, (2, v0)), (1, (0, v1)), (2, (0, v2))] [(0, t_1), (2, t)] ε μ → (kd ε t = 11) ∧ ∀ μ_1 : m_M, μ_1 = st μ t 0 t_1 → (kd ε v0 = 11) ∧ ((μ_1 v0 0) ≤ 0 → (m_ty [(0, (2, v0)), (1, (0, v1)), (2, (0, v2))] [] ε μ_1 → (kd ε v0 = 11) ∧ ((μ_1 v0 66) = v1 → G cd_X12_order Q X 50 [(0, (2, v0)), (2, (0, v2))] [] ε μ_1) ∧ ((μ_1 v0 66) ≠ v1 → (m_ty [(0, (2, v0)), (1, (0, v1)), (2, (0, v2))] [] ε μ_1 → (kd ε v0 = 11) ∧ o_X12_orders [(2, v0), (0, v1)] ε μ_1 (fun z ε_1 μ_2 => G cd_X12_order Q X 50 [(0, (2, v0)), (2, (0, v2))] [] ε_1 μ_2) m_F)))) ∧ (0 < (μ_1 v0 0) → (m_ty [] [] ε μ_1 → Q 0 ε μ_1))
  intro hty
  replace h := h hty.1 (hty.2.1 _ (List.mem_of_getElem? (i := 1) rfl)) (hty.2.1 _ (List.mem_of_getElem? (i := 2) rfl)) (hty.2.2 _ (List.mem_of_getElem? (i := 0) rfl))
  obtain ⟨k1, h⟩ := h
  refine And.intro k1 ?_
  intro μ_1 e_μ_1
  replace h := h μ_1 e_μ_1
  obtain ⟨k2, h⟩ := h
  refine And.intro k2 ?_
  obtain ⟨ha, hb⟩ := h
  refine And.intro (fun c3 => ?_) (fun c3 => ?_)
  · replace h := ha c3
    clear ha hb
    intro _
    refine And.intro k2 ?_
    obtain ⟨ha, hb⟩ := h
    refine And.intro (fun c2 => ?_) (fun c2 => ?_)
    · replace h := ha c2
      clear ha hb
      exact h
    · replace h := hb c2
      clear ha hb
      intro _
      refine And.intro k2 ?_
      exact h
  · replace h := hb c3
    clear ha hb
    intro _
    exact h
set_option maxRecDepth 20000 in
theorem g_X12_order_16 {Q X : m_Po} {v0 v1 v2 t t_1 : Int} {ε : m_E} {μ : m_M} (h : TY ε μ → i32 v1 → i32 v2 → i32 t_1 → ∀ t_2 : Int, t_2 = (if t_1 = (-1) then 0 else 2) → kd ε t = 11 ∧ ∀ μ_1 : m_M, μ_1 = st μ t 0 t_2 → kd ε v0 = 11 ∧ ((μ_1 v0 0) ≤ 0 → ((μ_1 v0 66) = v1 → G cd_X12_order Q X 50 [(0, (2, v0)), (2, (0, v2))] [] ε μ_1) ∧ ((μ_1 v0 66) ≠ v1 → o_X12_orders [(2, v0), (0, v1)] ε μ_1 (fun z ε_1 μ_2 => G cd_X12_order Q X 50 [(0, (2, v0)), (2, (0, v2))] [] ε_1 μ_2) m_F)) ∧ (0 < (μ_1 v0 0) → Q 0 ε μ_1)) : G cd_X12_order Q X 16 [(0, (2, v0)), (1, (0, v1)), (2, (0, v2))] [(0, t_1), (2, t)] ε μ := by
  refine G_run (m_in [5, 16, 25, 50, 72]) 17 _ _ _ _ ?_
  show m_ty [(0, (2, v0)), (1, (0, v1)), (2, (0, v2))] [(0, t_1), (2, t)] ε μ → (t_1 = (-1) → (m_ty [(0, (2, v0)), (1, (0, v1)), (2, (0, v2))] [(2, t)] ε μ → G cd_X12_order Q X 25 [(0, (2, v0)), (1, (0, v1)), (2, (0, v2))] [(0, 0), (2, t)] ε μ)) ∧ (t_1 ≠ (-1) → (m_ty [(0, (2, v0)), (1, (0, v1)), (2, (0, v2))] [(2, t)] ε μ → G cd_X12_order Q X 25 [(0, (2, v0)), (1, (0, v1)), (2, (0, v2))] [(0, 2), (2, t)] ε μ))
  intro hty
  replace h := h hty.1 (hty.2.1 _ (List.mem_of_getElem? (i := 1) rfl)) (hty.2.1 _ (List.mem_of_getElem? (i := 2) rfl)) (hty.2.2 _ (List.mem_of_getElem? (i := 0) rfl))
  have hj := h
  refine And.intro (fun c0 => ?_) (fun c0 => ?_)
  · intro _
    exact g_X12_order_25 (fun _ _ _ _ => (hj _ (((if_pos c0).trans rfl)).symm))
  · intro _
    exact g_X12_order_25 (fun _ _ _ _ => (hj _ (((if_neg (c0)).trans rfl)).symm))
set_option maxRecDepth 20000 in
theorem g_X12_order_5 {Q X : m_Po} {v0 v1 v2 t : Int} {ε : m_E} {μ : m_M} (h : TY ε μ → i32 v1 → i32 v2 → i32 t → (t ≠ 0 → kd ε v0 = 11 ∧ o_X12_holeOf [(2, v0), (0, v1)] ε μ (fun z ε_1 μ_1 => G cd_X12_order Q X 16 [(0, (2, v0)), (1, (0, v1)), (2, (0, v2))] [(0, z), (2, v0)] ε_1 μ_1) m_F) ∧ (t = 0 → Q 0 ε μ)) : G cd_X12_order Q X 5 [(0, (2, v0)), (1, (0, v1)), (2, (0, v2))] [(0, t)] ε μ := by
  refine G_run (m_in [5, 16, 25, 50, 72]) 17 _ _ _ _ ?_
  show m_ty [(0, (2, v0)), (1, (0, v1)), (2, (0, v2))] [(0, t)] ε μ → (t ≠ 0 → (m_ty [(0, (2, v0)), (1, (0, v1)), (2, (0, v2))] [] ε μ → (kd ε v0 = 11) ∧ o_X12_holeOf [(2, v0), (0, v1)] ε μ (fun z ε_1 μ_1 => G cd_X12_order Q X 16 [(0, (2, v0)), (1, (0, v1)), (2, (0, v2))] [(0, z), (2, v0)] ε_1 μ_1) m_F)) ∧ (t = 0 → (m_ty [] [] ε μ → Q 0 ε μ))
  intro hty
  replace h := h hty.1 (hty.2.1 _ (List.mem_of_getElem? (i := 1) rfl)) (hty.2.1 _ (List.mem_of_getElem? (i := 2) rfl)) (hty.2.2 _ (List.mem_of_getElem? (i := 0) rfl))
  obtain ⟨ha, hb⟩ := h
  refine And.intro (fun c1 => ?_) (fun c1 => ?_)
  · replace h := ha c1
    clear ha hb
    intro _
    obtain ⟨k1, h⟩ := h
    refine And.intro k1 ?_
    exact h
  · replace h := hb c1
    clear ha hb
    intro _
    exact h
set_option maxRecDepth 20000 in
theorem g_X12_order_0 {Q X : m_Po} {v0 v1 v2 : Int} {ε : m_E} {μ : m_M} (h : TY ε μ → i32 v1 → i32 v2 → kd ε v0 = 11 ∧ o_X12_isArch [(2, v0), (0, v1)] ε μ (fun z ε_1 μ_1 => G cd_X12_order Q X 5 [(0, (2, v0)), (1, (0, v1)), (2, (0, v2))] [(0, z)] ε_1 μ_1) m_F) : G cd_X12_order Q X 0 [(0, (2, v0)), (1, (0, v1)), (2, (0, v2))] [] ε μ := by
  refine G_run (m_in [5, 16, 25, 50, 72]) 17 _ _ _ _ ?_
  show m_ty [(0, (2, v0)), (1, (0, v1)), (2, (0, v2))] [] ε μ → (kd ε v0 = 11) ∧ o_X12_isArch [(2, v0), (0, v1)] ε μ (fun z ε_1 μ_1 => G cd_X12_order Q X 5 [(0, (2, v0)), (1, (0, v1)), (2, (0, v2))] [(0, z)] ε_1 μ_1) m_F
  intro hty
  replace h := h hty.1 (hty.2.1 _ (List.mem_of_getElem? (i := 1) rfl)) (hty.2.1 _ (List.mem_of_getElem? (i := 2) rfl))
  obtain ⟨k1, h⟩ := h
  refine And.intro k1 ?_
  exact h
theorem e_X12_order {Q X : m_Po} {v0 v1 v2 : Int} {ε : m_E} {μ : m_M} (h : TY ε μ → i32 v1 → i32 v2 → kd ε v0 = 11 ∧ o_X12_isArch [(2, v0), (0, v1)] ε μ (fun z ε_1 μ_1 => G cd_X12_order Q X 5 [(0, (2, v0)), (1, (0, v1)), (2, (0, v2))] [(0, z)] ε_1 μ_1) m_F) : o_X12_order [(2, v0), (0, v1), (0, v2)] ε μ Q X := And.intro rfl (g_X12_order_0 h)
