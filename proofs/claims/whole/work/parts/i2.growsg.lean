/-! ArchYardModel.grows(III)Z -/
set_option maxRecDepth 20000 in
theorem g_X12_gr1_112 {Q X : m_Po} {t : Int} {ε : m_E} {μ : m_M} (h : TY ε μ → i32 t → (t = 0 ∨ t = 1) ∧ Q t ε μ) : G cd_X12_gr1 Q X 112 [] [(0, t)] ε μ := by
  refine G_run (m_in [16, 39, 54, 67, 70, 87, 90, 94, 95, 96, 112]) 20 _ _ _ _ ?_
  show m_ty [] [(0, t)] ε μ → (t = 0 ∨ t = 1) ∧ Q t ε μ
  intro hty
  replace h := h hty.1 (hty.2.2 _ (List.mem_of_getElem? (i := 0) rfl))
  obtain ⟨k1, h⟩ := h
  refine And.intro k1 ?_
  exact h
set_option maxRecDepth 20000 in
theorem g_X12_gr1_96 {Q X : m_Po} {v0 v5 : Int} {ε : m_E} {μ : m_M} (h : TY ε μ → i32 v5 → kd ε v0 = 11 ∧ kd ε (fn ε v0 65) = 100 ∧ (0 : Int) ≤ v5 ∧ v5 < ln ε (fn ε v0 65) ∧ ∀ t : Int, t = (if (μ (fn ε v0 65) v5) = (1 : Int) then 1 else 0) → Q t ε μ) : G cd_X12_gr1 Q X 96 [(0, (2, v0)), (5, (0, v5))] [] ε μ := by
  refine G_run (m_in [16, 39, 54, 67, 70, 87, 90, 94, 95, 96, 112]) 20 _ _ _ _ ?_
  show m_ty [(0, (2, v0)), (5, (0, v5))] [] ε μ → (kd ε v0 = 11) ∧ (kd ε (fn ε v0 65) = 100) ∧ ((0 : Int) ≤ v5 ∧ v5 < ln ε (fn ε v0 65)) ∧ ((μ (fn ε v0 65) v5) ≠ (1 : Int) → (m_ty [] [] ε μ → G cd_X12_gr1 Q X 112 [] [(0, 0)] ε μ)) ∧ ((μ (fn ε v0 65) v5) = (1 : Int) → (m_ty [] [] ε μ → G cd_X12_gr1 Q X 112 [] [(0, 1)] ε μ))
  intro hty
  replace h := h hty.1 (hty.2.1 _ (List.mem_of_getElem? (i := 1) rfl))
  obtain ⟨k1, h⟩ := h
  refine And.intro k1 ?_
  obtain ⟨k2, h⟩ := h
  refine And.intro k2 ?_
  obtain ⟨k3, h⟩ := h
  obtain ⟨k4, h⟩ := h
  refine And.intro (And.intro k3 k4) ?_
  have hj := h
  refine And.intro (fun c4 => ?_) (fun c4 => ?_)
  · intro _
    exact g_X12_gr1_112 (fun _ _ => (And.intro (Or.inl rfl) (hj _ (((if_neg (c4)).trans rfl)).symm)))
  · intro _
    exact g_X12_gr1_112 (fun _ _ => (And.intro (Or.inr rfl) (hj _ (((if_pos c4).trans rfl)).symm)))
set_option maxRecDepth 20000 in
theorem g_X12_gr1_95 {Q X : m_Po} {v0 v5 t t_1 t_2 : Int} {ε : m_E} {μ : m_M} (h : TY ε μ → i32 v5 → i32 t_1 → i32 t_2 → kd ε t = 100 ∧ (0 : Int) ≤ t_1 ∧ t_1 < ln ε t ∧ ∀ μ_1 : m_M, μ_1 = st μ t t_1 t_2 → G cd_X12_gr1 Q X 96 [(0, (2, v0)), (5, (0, v5))] [] ε μ_1) : G cd_X12_gr1 Q X 95 [(0, (2, v0)), (5, (0, v5))] [(0, t_2), (0, t_1), (2, t)] ε μ := by
  refine G_run (m_in [16, 39, 54, 67, 70, 87, 90, 94, 95, 96, 112]) 20 _ _ _ _ ?_
  show m_ty [(0, (2, v0)), (5, (0, v5))] [(0, t_2), (0, t_1), (2, t)] ε μ → (kd ε t = 100) ∧ ((0 : Int) ≤ t_1 ∧ t_1 < ln ε t) ∧ ∀ μ_1 : m_M, μ_1 = st μ t t_1 t_2 → G cd_X12_gr1 Q X 96 [(0, (2, v0)), (5, (0, v5))] [] ε μ_1
  intro hty
  replace h := h hty.1 (hty.2.1 _ (List.mem_of_getElem? (i := 1) rfl)) (hty.2.2 _ (List.mem_of_getElem? (i := 1) rfl)) (hty.2.2 _ (List.mem_of_getElem? (i := 0) rfl))
  obtain ⟨k1, h⟩ := h
  refine And.intro k1 ?_
  obtain ⟨k2, h⟩ := h
  obtain ⟨k3, h⟩ := h
  refine And.intro (And.intro k2 k3) ?_
  intro μ_1 e_μ_1
  replace h := h μ_1 e_μ_1
  exact h
set_option maxRecDepth 20000 in
theorem g_X12_gr1_94 {Q X : m_Po} {v0 v5 t t_1 : Int} {ε : m_E} {μ : m_M} (h : TY ε μ → i32 v5 → i32 t_1 → G cd_X12_gr1 Q X 95 [(0, (2, v0)), (5, (0, v5))] [(0, 2), (0, t_1), (2, t)] ε μ) : G cd_X12_gr1 Q X 94 [(0, (2, v0)), (5, (0, v5))] [(0, t_1), (2, t)] ε μ := by
  refine G_run (m_in [16, 39, 54, 67, 70, 87, 90, 94, 95, 96, 112]) 20 _ _ _ _ ?_
  show m_ty [(0, (2, v0)), (5, (0, v5))] [(0, t_1), (2, t)] ε μ → G cd_X12_gr1 Q X 95 [(0, (2, v0)), (5, (0, v5))] [(0, 2), (0, t_1), (2, t)] ε μ
  intro hty
  replace h := h hty.1 (hty.2.1 _ (List.mem_of_getElem? (i := 1) rfl)) (hty.2.2 _ (List.mem_of_getElem? (i := 0) rfl))
  exact h
set_option maxRecDepth 20000 in
theorem g_X12_gr1_90 {Q X : m_Po} {v0 v5 t t_1 : Int} {ε : m_E} {μ : m_M} (h : TY ε μ → i32 v5 → i32 t_1 → G cd_X12_gr1 Q X 95 [(0, (2, v0)), (5, (0, v5))] [(0, 1), (0, t_1), (2, t)] ε μ) : G cd_X12_gr1 Q X 90 [(0, (2, v0)), (5, (0, v5))] [(0, t_1), (2, t)] ε μ := by
  refine G_run (m_in [16, 39, 54, 67, 70, 87, 90, 94, 95, 96, 112]) 20 _ _ _ _ ?_
  show m_ty [(0, (2, v0)), (5, (0, v5))] [(0, t_1), (2, t)] ε μ → G cd_X12_gr1 Q X 95 [(0, (2, v0)), (5, (0, v5))] [(0, 1), (0, t_1), (2, t)] ε μ
  intro hty
  replace h := h hty.1 (hty.2.1 _ (List.mem_of_getElem? (i := 1) rfl)) (hty.2.2 _ (List.mem_of_getElem? (i := 0) rfl))
  exact h
set_option maxRecDepth 20000 in
theorem g_X12_gr1_87 {Q X : m_Po} {v0 v5 t t_1 t_2 : Int} {ε : m_E} {μ : m_M} (h : TY ε μ → i32 v5 → i32 t_1 → i32 t_2 → (t_2 = 0 → G cd_X12_gr1 Q X 94 [(0, (2, v0)), (5, (0, v5))] [(0, t_1), (2, t)] ε μ) ∧ (t_2 ≠ 0 → G cd_X12_gr1 Q X 90 [(0, (2, v0)), (5, (0, v5))] [(0, t_1), (2, t)] ε μ)) : G cd_X12_gr1 Q X 87 [(0, (2, v0)), (5, (0, v5))] [(0, t_2), (0, t_1), (2, t)] ε μ := by
  refine G_run (m_in [16, 39, 54, 67, 70, 87, 90, 94, 95, 96, 112]) 20 _ _ _ _ ?_
  show m_ty [(0, (2, v0)), (5, (0, v5))] [(0, t_2), (0, t_1), (2, t)] ε μ → (t_2 = 0 → G cd_X12_gr1 Q X 94 [(0, (2, v0)), (5, (0, v5))] [(0, t_1), (2, t)] ε μ) ∧ (t_2 ≠ 0 → G cd_X12_gr1 Q X 90 [(0, (2, v0)), (5, (0, v5))] [(0, t_1), (2, t)] ε μ)
  intro hty
  replace h := h hty.1 (hty.2.1 _ (List.mem_of_getElem? (i := 1) rfl)) (hty.2.2 _ (List.mem_of_getElem? (i := 1) rfl)) (hty.2.2 _ (List.mem_of_getElem? (i := 0) rfl))
  obtain ⟨ha, hb⟩ := h
  refine And.intro (fun c0 => ?_) (fun c0 => ?_)
  · replace h := ha c0
    clear ha hb
    exact h
  · replace h := hb c0
    clear ha hb
    exact h
set_option maxRecDepth 20000 in
theorem g_X12_gr1_70 {Q X : m_Po} {v0 v1 v2 v3 v4 v5 t t_1 : Int} {ε : m_E} {μ : m_M} (h : TY ε μ → i32 v1 → i32 v2 → i32 v3 → i32 v4 → i32 v5 → i32 t_1 → ((w32 (v4 - 1)) ≤ v3 → G cd_X12_gr1 Q X 94 [(0, (2, v0)), (5, (0, v5))] [(0, t_1), (2, t)] ε μ) ∧ (v3 < (w32 (v4 - 1)) → kd ε v0 = 11 ∧ o_X12_gr0 [(2, v0), (0, v1), (0, v2), (0, w32 (v3 + 1))] ε μ (fun z ε_1 μ_1 => G cd_X12_gr1 Q X 87 [(0, (2, v0)), (5, (0, v5))] [(0, z), (0, t_1), (2, t)] ε_1 μ_1) m_F)) : G cd_X12_gr1 Q X 70 [(0, (2, v0)), (1, (0, v1)), (2, (0, v2)), (3, (0, v3)), (4, (0, v4)), (5, (0, v5))] [(0, t_1), (2, t)] ε μ := by
  refine G_run (m_in [16, 39, 54, 67, 70, 87, 90, 94, 95, 96, 112]) 20 _ _ _ _ ?_
  show m_ty [(0, (2, v0)), (1, (0, v1)), (2, (0, v2)), (3, (0, v3)), (4, (0, v4)), (5, (0, v5))] [(0, t_1), (2, t)] ε μ → ((w32 (v4 - 1)) ≤ v3 → G cd_X12_gr1 Q X 94 [(0, (2, v0)), (5, (0, v5))] [(0, t_1), (2, t)] ε μ) ∧ (v3 < (w32 (v4 - 1)) → (m_ty [(0, (2, v0)), (1, (0, v1)), (2, (0, v2)), (3, (0, v3)), (5, (0, v5))] [(0, t_1), (2, t)] ε μ → (kd ε v0 = 11) ∧ o_X12_gr0 [(2, v0), (0, v1), (0, v2), (0, w32 (v3 + 1))] ε μ (fun z ε_1 μ_1 => G cd_X12_gr1 Q X 87 [(0, (2, v0)), (5, (0, v5))] [(0, z), (0, t_1), (2, t)] ε_1 μ_1) m_F))
  intro hty
  replace h := h hty.1 (hty.2.1 _ (List.mem_of_getElem? (i := 1) rfl)) (hty.2.1 _ (List.mem_of_getElem? (i := 2) rfl)) (hty.2.1 _ (List.mem_of_getElem? (i := 3) rfl)) (hty.2.1 _ (List.mem_of_getElem? (i := 4) rfl)) (hty.2.1 _ (List.mem_of_getElem? (i := 5) rfl)) (hty.2.2 _ (List.mem_of_getElem? (i := 0) rfl))
  obtain ⟨ha, hb⟩ := h
  refine And.intro (fun c1 => ?_) (fun c1 => ?_)
  · replace h := ha c1
    clear ha hb
    exact h
  · replace h := hb c1
    clear ha hb
    intro _
    obtain ⟨k1, h⟩ := h
    refine And.intro k1 ?_
    exact h
set_option maxRecDepth 20000 in
theorem g_X12_gr1_67 {Q X : m_Po} {v0 v1 v2 v3 v4 v5 t t_1 t_2 : Int} {ε : m_E} {μ : m_M} (h : TY ε μ → i32 v1 → i32 v2 → i32 v3 → i32 v4 → i32 v5 → i32 t_1 → i32 t_2 → (t_2 ≠ 0 → G cd_X12_gr1 Q X 90 [(0, (2, v0)), (5, (0, v5))] [(0, t_1), (2, t)] ε μ) ∧ (t_2 = 0 → G cd_X12_gr1 Q X 70 [(0, (2, v0)), (1, (0, v1)), (2, (0, v2)), (3, (0, v3)), (4, (0, v4)), (5, (0, v5))] [(0, t_1), (2, t)] ε μ)) : G cd_X12_gr1 Q X 67 [(0, (2, v0)), (1, (0, v1)), (2, (0, v2)), (3, (0, v3)), (4, (0, v4)), (5, (0, v5))] [(0, t_2), (0, t_1), (2, t)] ε μ := by
  refine G_run (m_in [16, 39, 54, 67, 70, 87, 90, 94, 95, 96, 112]) 20 _ _ _ _ ?_
  show m_ty [(0, (2, v0)), (1, (0, v1)), (2, (0, v2)), (3, (0, v3)), (4, (0, v4)), (5, (0, v5))] [(0, t_2), (0, t_1), (2, t)] ε μ → (t_2 ≠ 0 → G cd_X12_gr1 Q X 90 [(0, (2, v0)), (5, (0, v5))] [(0, t_1), (2, t)] ε μ) ∧ (t_2 = 0 → G cd_X12_gr1 Q X 70 [(0, (2, v0)), (1, (0, v1)), (2, (0, v2)), (3, (0, v3)), (4, (0, v4)), (5, (0, v5))] [(0, t_1), (2, t)] ε μ)
  intro hty
  replace h := h hty.1 (hty.2.1 _ (List.mem_of_getElem? (i := 1) rfl)) (hty.2.1 _ (List.mem_of_getElem? (i := 2) rfl)) (hty.2.1 _ (List.mem_of_getElem? (i := 3) rfl)) (hty.2.1 _ (List.mem_of_getElem? (i := 4) rfl)) (hty.2.1 _ (List.mem_of_getElem? (i := 5) rfl)) (hty.2.2 _ (List.mem_of_getElem? (i := 1) rfl)) (hty.2.2 _ (List.mem_of_getElem? (i := 0) rfl))
  obtain ⟨ha, hb⟩ := h
  refine And.intro (fun c0 => ?_) (fun c0 => ?_)
  · replace h := ha c0
    clear ha hb
    exact h
  · replace h := hb c0
    clear ha hb
    exact h
set_option maxRecDepth 20000 in
theorem g_X12_gr1_54 {Q X : m_Po} {v0 v1 v2 v3 v4 v5 t t_1 : Int} {ε : m_E} {μ : m_M} (h : TY ε μ → i32 v1 → i32 v2 → i32 v3 → i32 v4 → i32 v5 → i32 t_1 → (v2 ≤ 0 → G cd_X12_gr1 Q X 70 [(0, (2, v0)), (1, (0, v1)), (2, (0, v2)), (3, (0, v3)), (4, (0, v4)), (5, (0, v5))] [(0, t_1), (2, t)] ε μ) ∧ (0 < v2 → kd ε v0 = 11 ∧ o_X12_gr0 [(2, v0), (0, v1), (0, w32 (v2 - 1)), (0, v3)] ε μ (fun z ε_1 μ_1 => G cd_X12_gr1 Q X 67 [(0, (2, v0)), (1, (0, v1)), (2, (0, v2)), (3, (0, v3)), (4, (0, v4)), (5, (0, v5))] [(0, z), (0, t_1), (2, t)] ε_1 μ_1) m_F)) : G cd_X12_gr1 Q X 54 [(0, (2, v0)), (1, (0, v1)), (2, (0, v2)), (3, (0, v3)), (4, (0, v4)), (5, (0, v5))] [(0, t_1), (2, t)] ε μ := by
  refine G_run (m_in [16, 39, 54, 67, 70, 87, 90, 94, 95, 96, 112]) 20 _ _ _ _ ?_
  show m_ty [(0, (2, v0)), (1, (0, v1)), (2, (0, v2)), (3, (0, v3)), (4, (0, v4)), (5, (0, v5))] [(0, t_1), (2, t)] ε μ → (v2 ≤ 0 → G cd_X12_gr1 Q X 70 [(0, (2, v0)), (1, (0, v1)), (2, (0, v2)), (3, (0, v3)), (4, (0, v4)), (5, (0, v5))] [(0, t_1), (2, t)] ε μ) ∧ (0 < v2 → (m_ty [(0, (2, v0)), (1, (0, v1)), (2, (0, v2)), (3, (0, v3)), (4, (0, v4)), (5, (0, v5))] [(0, t_1), (2, t)] ε μ → (kd ε v0 = 11) ∧ o_X12_gr0 [(2, v0), (0, v1), (0, w32 (v2 - 1)), (0, v3)] ε μ (fun z ε_1 μ_1 => G cd_X12_gr1 Q X 67 [(0, (2, v0)), (1, (0, v1)), (2, (0, v2)), (3, (0, v3)), (4, (0, v4)), (5, (0, v5))] [(0, z), (0, t_1), (2, t)] ε_1 μ_1) m_F))
  intro hty
  replace h := h hty.1 (hty.2.1 _ (List.mem_of_getElem? (i := 1) rfl)) (hty.2.1 _ (List.mem_of_getElem? (i := 2) rfl)) (hty.2.1 _ (List.mem_of_getElem? (i := 3) rfl)) (hty.2.1 _ (List.mem_of_getElem? (i := 4) rfl)) (hty.2.1 _ (List.mem_of_getElem? (i := 5) rfl)) (hty.2.2 _ (List.mem_of_getElem? (i := 0) rfl))
  obtain ⟨ha, hb⟩ := h
  refine And.intro (fun c1 => ?_) (fun c1 => ?_)
  · replace h := ha c1
    clear ha hb
    exact h
  · replace h := hb c1
    clear ha hb
    intro _
    obtain ⟨k1, h⟩ := h
    refine And.intro k1 ?_
    exact h
set_option maxRecDepth 20000 in
theorem g_X12_gr1_39 {Q X : m_Po} {v0 v1 v2 v3 v4 v5 t t_1 t_2 : Int} {ε : m_E} {μ : m_M} (h : TY ε μ → i32 v1 → i32 v2 → i32 v3 → i32 v4 → i32 v5 → i32 t_1 → i32 t_2 → (t_2 = 0 → G cd_X12_gr1 Q X 94 [(0, (2, v0)), (5, (0, v5))] [(0, t_1), (2, t)] ε μ) ∧ (t_2 ≠ 0 → (v2 ≠ 0 → G cd_X12_gr1 Q X 54 [(0, (2, v0)), (1, (0, v1)), (2, (0, v2)), (3, (0, v3)), (4, (0, v4)), (5, (0, v5))] [(0, t_1), (2, t)] ε μ) ∧ (v2 = 0 → (v3 = (w32 (v4 - 1)) → G cd_X12_gr1 Q X 90 [(0, (2, v0)), (5, (0, v5))] [(0, t_1), (2, t)] ε μ) ∧ (v3 ≠ (w32 (v4 - 1)) → G cd_X12_gr1 Q X 54 [(0, (2, v0)), (1, (0, v1)), (2, (0, v2)), (3, (0, v3)), (4, (0, v4)), (5, (0, v5))] [(0, t_1), (2, t)] ε μ)))) : G cd_X12_gr1 Q X 39 [(0, (2, v0)), (1, (0, v1)), (2, (0, v2)), (3, (0, v3)), (4, (0, v4)), (5, (0, v5))] [(0, t_2), (0, t_1), (2, t)] ε μ := by
  refine G_run (m_in [16, 39, 54, 67, 70, 87, 90, 94, 95, 96, 112]) 20 _ _ _ _ ?_
  show m_ty [(0, (2, v0)), (1, (0, v1)), (2, (0, v2)), (3, (0, v3)), (4, (0, v4)), (5, (0, v5))] [(0, t_2), (0, t_1), (2, t)] ε μ → (t_2 = 0 → G cd_X12_gr1 Q X 94 [(0, (2, v0)), (5, (0, v5))] [(0, t_1), (2, t)] ε μ) ∧ (t_2 ≠ 0 → (m_ty [(0, (2, v0)), (1, (0, v1)), (2, (0, v2)), (3, (0, v3)), (4, (0, v4)), (5, (0, v5))] [(0, t_1), (2, t)] ε μ → (v2 ≠ 0 → G cd_X12_gr1 Q X 54 [(0, (2, v0)), (1, (0, v1)), (2, (0, v2)), (3, (0, v3)), (4, (0, v4)), (5, (0, v5))] [(0, t_1), (2, t)] ε μ) ∧ (v2 = 0 → (m_ty [(0, (2, v0)), (1, (0, v1)), (2, (0, v2)), (3, (0, v3)), (4, (0, v4)), (5, (0, v5))] [(0, t_1), (2, t)] ε μ → (v3 = (w32 (v4 - 1)) → G cd_X12_gr1 Q X 90 [(0, (2, v0)), (5, (0, v5))] [(0, t_1), (2, t)] ε μ) ∧ (v3 ≠ (w32 (v4 - 1)) → G cd_X12_gr1 Q X 54 [(0, (2, v0)), (1, (0, v1)), (2, (0, v2)), (3, (0, v3)), (4, (0, v4)), (5, (0, v5))] [(0, t_1), (2, t)] ε μ)))))
  intro hty
  replace h := h hty.1 (hty.2.1 _ (List.mem_of_getElem? (i := 1) rfl)) (hty.2.1 _ (List.mem_of_getElem? (i := 2) rfl)) (hty.2.1 _ (List.mem_of_getElem? (i := 3) rfl)) (hty.2.1 _ (List.mem_of_getElem? (i := 4) rfl)) (hty.2.1 _ (List.mem_of_getElem? (i := 5) rfl)) (hty.2.2 _ (List.mem_of_getElem? (i := 1) rfl)) (hty.2.2 _ (List.mem_of_getElem? (i := 0) rfl))
  obtain ⟨ha, hb⟩ := h
  refine And.intro (fun c2 => ?_) (fun c2 => ?_)
  · replace h := ha c2
    clear ha hb
    exact h
  · replace h := hb c2
    clear ha hb
    intro _
    obtain ⟨ha, hb⟩ := h
    refine And.intro (fun c1 => ?_) (fun c1 => ?_)
    · replace h := ha c1
      clear ha hb
      exact h
    · replace h := hb c1
      clear ha hb
      intro _
      obtain ⟨ha, hb⟩ := h
      refine And.intro (fun c0 => ?_) (fun c0 => ?_)
      · replace h := ha c0
        clear ha hb
        exact h
      · replace h := hb c0
        clear ha hb
        exact h
set_option maxRecDepth 20000 in
theorem g_X12_gr1_16 {Q X : m_Po} {v0 v1 v2 v3 v4 v5 : Int} {ε : m_E} {μ : m_M} (h : TY ε μ → i32 v1 → i32 v2 → i32 v3 → i32 v4 → i32 v5 → kd ε v0 = 11 ∧ kd ε (fn ε v0 65) = 100 ∧ (0 : Int) ≤ v5 ∧ v5 < ln ε (fn ε v0 65) ∧ ((μ (fn ε v0 65) v5) ≠ 0 → G cd_X12_gr1 Q X 96 [(0, (2, v0)), (5, (0, v5))] [] ε μ) ∧ ((μ (fn ε v0 65) v5) = 0 → o_X12_strikes [(2, v0), (0, v1), (0, v2), (0, v3)] ε μ (fun z ε_1 μ_1 => G cd_X12_gr1 Q X 39 [(0, (2, v0)), (1, (0, v1)), (2, (0, v2)), (3, (0, v3)), (4, (0, v4)), (5, (0, v5))] [(0, z), (0, v5), (2, fn ε v0 65)] ε_1 μ_1) m_F)) : G cd_X12_gr1 Q X 16 [(0, (2, v0)), (1, (0, v1)), (2, (0, v2)), (3, (0, v3)), (4, (0, v4)), (5, (0, v5))] [] ε μ := by
  refine G_run (m_in [16, 39, 54, 67, 70, 87, 90, 94, 95, 96, 112]) 20 _ _ _ _ ?_
  show m_ty [(0, (2, v0)), (1, (0, v1)), (2, (0, v2)), (3, (0, v3)), (4, (0, v4)), (5, (0, v5))] [] ε μ → (kd ε v0 = 11) ∧ (kd ε (fn ε v0 65) = 100) ∧ ((0 : Int) ≤ v5 ∧ v5 < ln ε (fn ε v0 65)) ∧ ((μ (fn ε v0 65) v5) ≠ 0 → G cd_X12_gr1 Q X 96 [(0, (2, v0)), (5, (0, v5))] [] ε μ) ∧ ((μ (fn ε v0 65) v5) = 0 → (m_ty [(0, (2, v0)), (1, (0, v1)), (2, (0, v2)), (3, (0, v3)), (4, (0, v4)), (5, (0, v5))] [] ε μ → (kd ε v0 = 11) ∧ (kd ε v0 = 11) ∧ o_X12_strikes [(2, v0), (0, v1), (0, v2), (0, v3)] ε μ (fun z ε_1 μ_1 => G cd_X12_gr1 Q X 39 [(0, (2, v0)), (1, (0, v1)), (2, (0, v2)), (3, (0, v3)), (4, (0, v4)), (5, (0, v5))] [(0, z), (0, v5), (2, fn ε v0 65)] ε_1 μ_1) m_F))
  intro hty
  replace h := h hty.1 (hty.2.1 _ (List.mem_of_getElem? (i := 1) rfl)) (hty.2.1 _ (List.mem_of_getElem? (i := 2) rfl)) (hty.2.1 _ (List.mem_of_getElem? (i := 3) rfl)) (hty.2.1 _ (List.mem_of_getElem? (i := 4) rfl)) (hty.2.1 _ (List.mem_of_getElem? (i := 5) rfl))
  obtain ⟨k1, h⟩ := h
  refine And.intro k1 ?_
  obtain ⟨k2, h⟩ := h
  refine And.intro k2 ?_
  obtain ⟨k3, h⟩ := h
  obtain ⟨k4, h⟩ := h
  refine And.intro (And.intro k3 k4) ?_
  obtain ⟨ha, hb⟩ := h
  refine And.intro (fun c4 => ?_) (fun c4 => ?_)
  · replace h := ha c4
    clear ha hb
    exact h
  · replace h := hb c4
    clear ha hb
    intro _
    refine And.intro k1 ?_
    refine And.intro k1 ?_
    exact h
set_option maxRecDepth 20000 in
theorem g_X12_gr1_0 {Q X : m_Po} {v0 v1 v2 v3 : Int} {ε : m_E} {μ : m_M} (h : TY ε μ → i32 v1 → i32 v2 → i32 v3 → kd ε v0 = 11 ∧ kd ε (fn ε v0 17) = 100 ∧ (0 : Int) ≤ v1 ∧ v1 < ln ε (fn ε v0 17) ∧ ∀ v4 : Int, v4 = μ (fn ε v0 17) v1 → ∀ v5 : Int, v5 = w32 ((w32 (10 * v2)) + v3) → kd ε v0 = 11 ∧ kd ε (fn ε v0 65) = 100 ∧ (0 : Int) ≤ v5 ∧ v5 < ln ε (fn ε v0 65) ∧ ((μ (fn ε v0 65) v5) ≠ 0 → G cd_X12_gr1 Q X 96 [(0, (2, v0)), (5, (0, v5))] [] ε μ) ∧ ((μ (fn ε v0 65) v5) = 0 → o_X12_strikes [(2, v0), (0, v1), (0, v2), (0, v3)] ε μ (fun z ε_1 μ_1 => G cd_X12_gr1 Q X 39 [(0, (2, v0)), (1, (0, v1)), (2, (0, v2)), (3, (0, v3)), (4, (0, v4)), (5, (0, v5))] [(0, z), (0, v5), (2, fn ε v0 65)] ε_1 μ_1) m_F)) : G cd_X12_gr1 Q X 0 [(0, (2, v0)), (1, (0, v1)), (2, (0, v2)), (3, (0, v3))] [] ε μ := by
  refine G_run (m_in [16, 39, 54, 67, 70, 87, 90, 94, 95, 96, 112]) 20 _ _ _ _ ?_
  show m_ty [(0, (2, v0)), (1, (0, v1)), (2, (0, v2)), (3, (0, v3))] [] ε μ → (kd ε v0 = 11) ∧ (kd ε (fn ε v0 17) = 100) ∧ ((0 : Int) ≤ v1 ∧ v1 < ln ε (fn ε v0 17)) ∧ ∀ v4 : Int, v4 = μ (fn ε v0 17) v1 → ∀ v5 : Int, v5 = w32 ((w32 (10 * v2)) + v3) → G cd_X12_gr1 Q X 16 [(0, (2, v0)), (1, (0, v1)), (2, (0, v2)), (3, (0, v3)), (4, (0, v4)), (5, (0, v5))] [] ε μ
  intro hty
  replace h := h hty.1 (hty.2.1 _ (List.mem_of_getElem? (i := 1) rfl)) (hty.2.1 _ (List.mem_of_getElem? (i := 2) rfl)) (hty.2.1 _ (List.mem_of_getElem? (i := 3) rfl))
  obtain ⟨k1, h⟩ := h
  refine And.intro k1 ?_
  obtain ⟨k2, h⟩ := h
  refine And.intro k2 ?_
  obtain ⟨k3, h⟩ := h
  obtain ⟨k4, h⟩ := h
  refine And.intro (And.intro k3 k4) ?_
  intro v4 e_v4
  replace h := h v4 e_v4
  intro v5 e_v5
  replace h := h v5 e_v5
  exact g_X12_gr1_16 (fun _ _ _ _ _ _ => h)
theorem e_X12_gr1 {Q X : m_Po} {v0 v1 v2 v3 : Int} {ε : m_E} {μ : m_M} (h : TY ε μ → i32 v1 → i32 v2 → i32 v3 → kd ε v0 = 11 ∧ kd ε (fn ε v0 17) = 100 ∧ (0 : Int) ≤ v1 ∧ v1 < ln ε (fn ε v0 17) ∧ ∀ v4 : Int, v4 = μ (fn ε v0 17) v1 → ∀ v5 : Int, v5 = w32 ((w32 (10 * v2)) + v3) → kd ε v0 = 11 ∧ kd ε (fn ε v0 65) = 100 ∧ (0 : Int) ≤ v5 ∧ v5 < ln ε (fn ε v0 65) ∧ ((μ (fn ε v0 65) v5) ≠ 0 → G cd_X12_gr1 Q X 96 [(0, (2, v0)), (5, (0, v5))] [] ε μ) ∧ ((μ (fn ε v0 65) v5) = 0 → o_X12_strikes [(2, v0), (0, v1), (0, v2), (0, v3)] ε μ (fun z ε_1 μ_1 => G cd_X12_gr1 Q X 39 [(0, (2, v0)), (1, (0, v1)), (2, (0, v2)), (3, (0, v3)), (4, (0, v4)), (5, (0, v5))] [(0, z), (0, v5), (2, fn ε v0 65)] ε_1 μ_1) m_F)) : o_X12_gr1 [(2, v0), (0, v1), (0, v2), (0, v3)] ε μ Q X := And.intro rfl (g_X12_gr1_0 h)
/-! ArchYardModel.grows(III)Z -/
set_option maxRecDepth 20000 in
theorem g_X12_gr2_112 {Q X : m_Po} {t : Int} {ε : m_E} {μ : m_M} (h : TY ε μ → i32 t → (t = 0 ∨ t = 1) ∧ Q t ε μ) : G cd_X12_gr2 Q X 112 [] [(0, t)] ε μ := by
  refine G_run (m_in [16, 39, 54, 67, 70, 87, 90, 94, 95, 96, 112]) 20 _ _ _ _ ?_
  show m_ty [] [(0, t)] ε μ → (t = 0 ∨ t = 1) ∧ Q t ε μ
  intro hty
  replace h := h hty.1 (hty.2.2 _ (List.mem_of_getElem? (i := 0) rfl))
  obtain ⟨k1, h⟩ := h
  refine And.intro k1 ?_
  exact h
set_option maxRecDepth 20000 in
theorem g_X12_gr2_96 {Q X : m_Po} {v0 v5 : Int} {ε : m_E} {μ : m_M} (h : TY ε μ → i32 v5 → kd ε v0 = 11 ∧ kd ε (fn ε v0 65) = 100 ∧ (0 : Int) ≤ v5 ∧ v5 < ln ε (fn ε v0 65) ∧ ∀ t : Int, t = (if (μ (fn ε v0 65) v5) = (1 : Int) then 1 else 0) → Q t ε μ) : G cd_X12_gr2 Q X 96 [(0, (2, v0)), (5, (0, v5))] [] ε μ := by
  refine G_run (m_in [16, 39, 54, 67, 70, 87, 90, 94, 95, 96, 112]) 20 _ _ _ _ ?_
  show m_ty [(0, (2, v0)), (5, (0, v5))] [] ε μ → (kd ε v0 = 11) ∧ (kd ε (fn ε v0 65) = 100) ∧ ((0 : Int) ≤ v5 ∧ v5 < ln ε (fn ε v0 65)) ∧ ((μ (fn ε v0 65) v5) ≠ (1 : Int) → (m_ty [] [] ε μ → G cd_X12_gr2 Q X 112 [] [(0, 0)] ε μ)) ∧ ((μ (fn ε v0 65) v5) = (1 : Int) → (m_ty [] [] ε μ → G cd_X12_gr2 Q X 112 [] [(0, 1)] ε μ))
  intro hty
  replace h := h hty.1 (hty.2.1 _ (List.mem_of_getElem? (i := 1) rfl))
  obtain ⟨k1, h⟩ := h
  refine And.intro k1 ?_
  obtain ⟨k2, h⟩ := h
  refine And.intro k2 ?_
  obtain ⟨k3, h⟩ := h
  obtain ⟨k4, h⟩ := h
  refine And.intro (And.intro k3 k4) ?_
  have hj := h
  refine And.intro (fun c4 => ?_) (fun c4 => ?_)
  · intro _
    exact g_X12_gr2_112 (fun _ _ => (And.intro (Or.inl rfl) (hj _ (((if_neg (c4)).trans rfl)).symm)))
  · intro _
    exact g_X12_gr2_112 (fun _ _ => (And.intro (Or.inr rfl) (hj _ (((if_pos c4).trans rfl)).symm)))
set_option maxRecDepth 20000 in
theorem g_X12_gr2_95 {Q X : m_Po} {v0 v5 t t_1 t_2 : Int} {ε : m_E} {μ : m_M} (h : TY ε μ → i32 v5 → i32 t_1 → i32 t_2 → kd ε t = 100 ∧ (0 : Int) ≤ t_1 ∧ t_1 < ln ε t ∧ ∀ μ_1 : m_M, μ_1 = st μ t t_1 t_2 → G cd_X12_gr2 Q X 96 [(0, (2, v0)), (5, (0, v5))] [] ε μ_1) : G cd_X12_gr2 Q X 95 [(0, (2, v0)), (5, (0, v5))] [(0, t_2), (0, t_1), (2, t)] ε μ := by
  refine G_run (m_in [16, 39, 54, 67, 70, 87, 90, 94, 95, 96, 112]) 20 _ _ _ _ ?_
  show m_ty [(0, (2, v0)), (5, (0, v5))] [(0, t_2), (0, t_1), (2, t)] ε μ → (kd ε t = 100) ∧ ((0 : Int) ≤ t_1 ∧ t_1 < ln ε t) ∧ ∀ μ_1 : m_M, μ_1 = st μ t t_1 t_2 → G cd_X12_gr2 Q X 96 [(0, (2, v0)), (5, (0, v5))] [] ε μ_1
  intro hty
  replace h := h hty.1 (hty.2.1 _ (List.mem_of_getElem? (i := 1) rfl)) (hty.2.2 _ (List.mem_of_getElem? (i := 1) rfl)) (hty.2.2 _ (List.mem_of_getElem? (i := 0) rfl))
  obtain ⟨k1, h⟩ := h
  refine And.intro k1 ?_
  obtain ⟨k2, h⟩ := h
  obtain ⟨k3, h⟩ := h
  refine And.intro (And.intro k2 k3) ?_
  intro μ_1 e_μ_1
  replace h := h μ_1 e_μ_1
  exact h
set_option maxRecDepth 20000 in
theorem g_X12_gr2_94 {Q X : m_Po} {v0 v5 t t_1 : Int} {ε : m_E} {μ : m_M} (h : TY ε μ → i32 v5 → i32 t_1 → G cd_X12_gr2 Q X 95 [(0, (2, v0)), (5, (0, v5))] [(0, 2), (0, t_1), (2, t)] ε μ) : G cd_X12_gr2 Q X 94 [(0, (2, v0)), (5, (0, v5))] [(0, t_1), (2, t)] ε μ := by
  refine G_run (m_in [16, 39, 54, 67, 70, 87, 90, 94, 95, 96, 112]) 20 _ _ _ _ ?_
  show m_ty [(0, (2, v0)), (5, (0, v5))] [(0, t_1), (2, t)] ε μ → G cd_X12_gr2 Q X 95 [(0, (2, v0)), (5, (0, v5))] [(0, 2), (0, t_1), (2, t)] ε μ
  intro hty
  replace h := h hty.1 (hty.2.1 _ (List.mem_of_getElem? (i := 1) rfl)) (hty.2.2 _ (List.mem_of_getElem? (i := 0) rfl))
  exact h
set_option maxRecDepth 20000 in
theorem g_X12_gr2_90 {Q X : m_Po} {v0 v5 t t_1 : Int} {ε : m_E} {μ : m_M} (h : TY ε μ → i32 v5 → i32 t_1 → G cd_X12_gr2 Q X 95 [(0, (2, v0)), (5, (0, v5))] [(0, 1), (0, t_1), (2, t)] ε μ) : G cd_X12_gr2 Q X 90 [(0, (2, v0)), (5, (0, v5))] [(0, t_1), (2, t)] ε μ := by
  refine G_run (m_in [16, 39, 54, 67, 70, 87, 90, 94, 95, 96, 112]) 20 _ _ _ _ ?_
  show m_ty [(0, (2, v0)), (5, (0, v5))] [(0, t_1), (2, t)] ε μ → G cd_X12_gr2 Q X 95 [(0, (2, v0)), (5, (0, v5))] [(0, 1), (0, t_1), (2, t)] ε μ
  intro hty
  replace h := h hty.1 (hty.2.1 _ (List.mem_of_getElem? (i := 1) rfl)) (hty.2.2 _ (List.mem_of_getElem? (i := 0) rfl))
  exact h
set_option maxRecDepth 20000 in
theorem g_X12_gr2_87 {Q X : m_Po} {v0 v5 t t_1 t_2 : Int} {ε : m_E} {μ : m_M} (h : TY ε μ → i32 v5 → i32 t_1 → i32 t_2 → (t_2 = 0 → G cd_X12_gr2 Q X 94 [(0, (2, v0)), (5, (0, v5))] [(0, t_1), (2, t)] ε μ) ∧ (t_2 ≠ 0 → G cd_X12_gr2 Q X 90 [(0, (2, v0)), (5, (0, v5))] [(0, t_1), (2, t)] ε μ)) : G cd_X12_gr2 Q X 87 [(0, (2, v0)), (5, (0, v5))] [(0, t_2), (0, t_1), (2, t)] ε μ := by
  refine G_run (m_in [16, 39, 54, 67, 70, 87, 90, 94, 95, 96, 112]) 20 _ _ _ _ ?_
  show m_ty [(0, (2, v0)), (5, (0, v5))] [(0, t_2), (0, t_1), (2, t)] ε μ → (t_2 = 0 → G cd_X12_gr2 Q X 94 [(0, (2, v0)), (5, (0, v5))] [(0, t_1), (2, t)] ε μ) ∧ (t_2 ≠ 0 → G cd_X12_gr2 Q X 90 [(0, (2, v0)), (5, (0, v5))] [(0, t_1), (2, t)] ε μ)
  intro hty
  replace h := h hty.1 (hty.2.1 _ (List.mem_of_getElem? (i := 1) rfl)) (hty.2.2 _ (List.mem_of_getElem? (i := 1) rfl)) (hty.2.2 _ (List.mem_of_getElem? (i := 0) rfl))
  obtain ⟨ha, hb⟩ := h
  refine And.intro (fun c0 => ?_) (fun c0 => ?_)
  · replace h := ha c0
    clear ha hb
    exact h
  · replace h := hb c0
    clear ha hb
    exact h
set_option maxRecDepth 20000 in
theorem g_X12_gr2_70 {Q X : m_Po} {v0 v1 v2 v3 v4 v5 t t_1 : Int} {ε : m_E} {μ : m_M} (h : TY ε μ → i32 v1 → i32 v2 → i32 v3 → i32 v4 → i32 v5 → i32 t_1 → ((w32 (v4 - 1)) ≤ v3 → G cd_X12_gr2 Q X 94 [(0, (2, v0)), (5, (0, v5))] [(0, t_1), (2, t)] ε μ) ∧ (v3 < (w32 (v4 - 1)) → kd ε v0 = 11 ∧ o_X12_gr1 [(2, v0), (0, v1), (0, v2), (0, w32 (v3 + 1))] ε μ (fun z ε_1 μ_1 => G cd_X12_gr2 Q X 87 [(0, (2, v0)), (5, (0, v5))] [(0, z), (0, t_1), (2, t)] ε_1 μ_1) m_F)) : G cd_X12_gr2 Q X 70 [(0, (2, v0)), (1, (0, v1)), (2, (0, v2)), (3, (0, v3)), (4, (0, v4)), (5, (0, v5))] [(0, t_1), (2, t)] ε μ := by
  refine G_run (m_in [16, 39, 54, 67, 70, 87, 90, 94, 95, 96, 112]) 20 _ _ _ _ ?_
  show m_ty [(0, (2, v0)), (1, (0, v1)), (2, (0, v2)), (3, (0, v3)), (4, (0, v4)), (5, (0, v5))] [(0, t_1), (2, t)] ε μ → ((w32 (v4 - 1)) ≤ v3 → G cd_X12_gr2 Q X 94 [(0, (2, v0)), (5, (0, v5))] [(0, t_1), (2, t)] ε μ) ∧ (v3 < (w32 (v4 - 1)) → (m_ty [(0, (2, v0)), (1, (0, v1)), (2, (0, v2)), (3, (0, v3)), (5, (0, v5))] [(0, t_1), (2, t)] ε μ → (kd ε v0 = 11) ∧ o_X12_gr1 [(2, v0), (0, v1), (0, v2), (0, w32 (v3 + 1))] ε μ (fun z ε_1 μ_1 => G cd_X12_gr2 Q X 87 [(0, (2, v0)), (5, (0, v5))] [(0, z), (0, t_1), (2, t)] ε_1 μ_1) m_F))
  intro hty
  replace h := h hty.1 (hty.2.1 _ (List.mem_of_getElem? (i := 1) rfl)) (hty.2.1 _ (List.mem_of_getElem? (i := 2) rfl)) (hty.2.1 _ (List.mem_of_getElem? (i := 3) rfl)) (hty.2.1 _ (List.mem_of_getElem? (i := 4) rfl)) (hty.2.1 _ (List.mem_of_getElem? (i := 5) rfl)) (hty.2.2 _ (List.mem_of_getElem? (i := 0) rfl))
  obtain ⟨ha, hb⟩ := h
  refine And.intro (fun c1 => ?_) (fun c1 => ?_)
  · replace h := ha c1
    clear ha hb
    exact h
  · replace h := hb c1
    clear ha hb
    intro _
    obtain ⟨k1, h⟩ := h
    refine And.intro k1 ?_
    exact h
set_option maxRecDepth 20000 in
theorem g_X12_gr2_67 {Q X : m_Po} {v0 v1 v2 v3 v4 v5 t t_1 t_2 : Int} {ε : m_E} {μ : m_M} (h : TY ε μ → i32 v1 → i32 v2 → i32 v3 → i32 v4 → i32 v5 → i32 t_1 → i32 t_2 → (t_2 ≠ 0 → G cd_X12_gr2 Q X 90 [(0, (2, v0)), (5, (0, v5))] [(0, t_1), (2, t)] ε μ) ∧ (t_2 = 0 → G cd_X12_gr2 Q X 70 [(0, (2, v0)), (1, (0, v1)), (2, (0, v2)), (3, (0, v3)), (4, (0, v4)), (5, (0, v5))] [(0, t_1), (2, t)] ε μ)) : G cd_X12_gr2 Q X 67 [(0, (2, v0)), (1, (0, v1)), (2, (0, v2)), (3, (0, v3)), (4, (0, v4)), (5, (0, v5))] [(0, t_2), (0, t_1), (2, t)] ε μ := by
  refine G_run (m_in [16, 39, 54, 67, 70, 87, 90, 94, 95, 96, 112]) 20 _ _ _ _ ?_
  show m_ty [(0, (2, v0)), (1, (0, v1)), (2, (0, v2)), (3, (0, v3)), (4, (0, v4)), (5, (0, v5))] [(0, t_2), (0, t_1), (2, t)] ε μ → (t_2 ≠ 0 → G cd_X12_gr2 Q X 90 [(0, (2, v0)), (5, (0, v5))] [(0, t_1), (2, t)] ε μ) ∧ (t_2 = 0 → G cd_X12_gr2 Q X 70 [(0, (2, v0)), (1, (0, v1)), (2, (0, v2)), (3, (0, v3)), (4, (0, v4)), (5, (0, v5))] [(0, t_1), (2, t)] ε μ)
  intro hty
  replace h := h hty.1 (hty.2.1 _ (List.mem_of_getElem? (i := 1) rfl)) (hty.2.1 _ (List.mem_of_getElem? (i := 2) rfl)) (hty.2.1 _ (List.mem_of_getElem? (i := 3) rfl)) (hty.2.1 _ (List.mem_of_getElem? (i := 4) rfl)) (hty.2.1 _ (List.mem_of_getElem? (i := 5) rfl)) (hty.2.2 _ (List.mem_of_getElem? (i := 1) rfl)) (hty.2.2 _ (List.mem_of_getElem? (i := 0) rfl))
  obtain ⟨ha, hb⟩ := h
  refine And.intro (fun c0 => ?_) (fun c0 => ?_)
  · replace h := ha c0
    clear ha hb
    exact h
  · replace h := hb c0
    clear ha hb
    exact h
set_option maxRecDepth 20000 in
theorem g_X12_gr2_54 {Q X : m_Po} {v0 v1 v2 v3 v4 v5 t t_1 : Int} {ε : m_E} {μ : m_M} (h : TY ε μ → i32 v1 → i32 v2 → i32 v3 → i32 v4 → i32 v5 → i32 t_1 → (v2 ≤ 0 → G cd_X12_gr2 Q X 70 [(0, (2, v0)), (1, (0, v1)), (2, (0, v2)), (3, (0, v3)), (4, (0, v4)), (5, (0, v5))] [(0, t_1), (2, t)] ε μ) ∧ (0 < v2 → kd ε v0 = 11 ∧ o_X12_gr1 [(2, v0), (0, v1), (0, w32 (v2 - 1)), (0, v3)] ε μ (fun z ε_1 μ_1 => G cd_X12_gr2 Q X 67 [(0, (2, v0)), (1, (0, v1)), (2, (0, v2)), (3, (0, v3)), (4, (0, v4)), (5, (0, v5))] [(0, z), (0, t_1), (2, t)] ε_1 μ_1) m_F)) : G cd_X12_gr2 Q X 54 [(0, (2, v0)), (1, (0, v1)), (2, (0, v2)), (3, (0, v3)), (4, (0, v4)), (5, (0, v5))] [(0, t_1), (2, t)] ε μ := by
  refine G_run (m_in [16, 39, 54, 67, 70, 87, 90, 94, 95, 96, 112]) 20 _ _ _ _ ?_
  show m_ty [(0, (2, v0)), (1, (0, v1)), (2, (0, v2)), (3, (0, v3)), (4, (0, v4)), (5, (0, v5))] [(0, t_1), (2, t)] ε μ → (v2 ≤ 0 → G cd_X12_gr2 Q X 70 [(0, (2, v0)), (1, (0, v1)), (2, (0, v2)), (3, (0, v3)), (4, (0, v4)), (5, (0, v5))] [(0, t_1), (2, t)] ε μ) ∧ (0 < v2 → (m_ty [(0, (2, v0)), (1, (0, v1)), (2, (0, v2)), (3, (0, v3)), (4, (0, v4)), (5, (0, v5))] [(0, t_1), (2, t)] ε μ → (kd ε v0 = 11) ∧ o_X12_gr1 [(2, v0), (0, v1), (0, w32 (v2 - 1)), (0, v3)] ε μ (fun z ε_1 μ_1 => G cd_X12_gr2 Q X 67 [(0, (2, v0)), (1, (0, v1)), (2, (0, v2)), (3, (0, v3)), (4, (0, v4)), (5, (0, v5))] [(0, z), (0, t_1), (2, t)] ε_1 μ_1) m_F))
  intro hty
  replace h := h hty.1 (hty.2.1 _ (List.mem_of_getElem? (i := 1) rfl)) (hty.2.1 _ (List.mem_of_getElem? (i := 2) rfl)) (hty.2.1 _ (List.mem_of_getElem? (i := 3) rfl)) (hty.2.1 _ (List.mem_of_getElem? (i := 4) rfl)) (hty.2.1 _ (List.mem_of_getElem? (i := 5) rfl)) (hty.2.2 _ (List.mem_of_getElem? (i := 0) rfl))
  obtain ⟨ha, hb⟩ := h
  refine And.intro (fun c1 => ?_) (fun c1 => ?_)
  · replace h := ha c1
    clear ha hb
    exact h
  · replace h := hb c1
    clear ha hb
    intro _
    obtain ⟨k1, h⟩ := h
    refine And.intro k1 ?_
    exact h
set_option maxRecDepth 20000 in
theorem g_X12_gr2_39 {Q X : m_Po} {v0 v1 v2 v3 v4 v5 t t_1 t_2 : Int} {ε : m_E} {μ : m_M} (h : TY ε μ → i32 v1 → i32 v2 → i32 v3 → i32 v4 → i32 v5 → i32 t_1 → i32 t_2 → (t_2 = 0 → G cd_X12_gr2 Q X 94 [(0, (2, v0)), (5, (0, v5))] [(0, t_1), (2, t)] ε μ) ∧ (t_2 ≠ 0 → (v2 ≠ 0 → G cd_X12_gr2 Q X 54 [(0, (2, v0)), (1, (0, v1)), (2, (0, v2)), (3, (0, v3)), (4, (0, v4)), (5, (0, v5))] [(0, t_1), (2, t)] ε μ) ∧ (v2 = 0 → (v3 = (w32 (v4 - 1)) → G cd_X12_gr2 Q X 90 [(0, (2, v0)), (5, (0, v5))] [(0, t_1), (2, t)] ε μ) ∧ (v3 ≠ (w32 (v4 - 1)) → G cd_X12_gr2 Q X 54 [(0, (2, v0)), (1, (0, v1)), (2, (0, v2)), (3, (0, v3)), (4, (0, v4)), (5, (0, v5))] [(0, t_1), (2, t)] ε μ)))) : G cd_X12_gr2 Q X 39 [(0, (2, v0)), (1, (0, v1)), (2, (0, v2)), (3, (0, v3)), (4, (0, v4)), (5, (0, v5))] [(0, t_2), (0, t_1), (2, t)] ε μ := by
  refine G_run (m_in [16, 39, 54, 67, 70, 87, 90, 94, 95, 96, 112]) 20 _ _ _ _ ?_
  show m_ty [(0, (2, v0)), (1, (0, v1)), (2, (0, v2)), (3, (0, v3)), (4, (0, v4)), (5, (0, v5))] [(0, t_2), (0, t_1), (2, t)] ε μ → (t_2 = 0 → G cd_X12_gr2 Q X 94 [(0, (2, v0)), (5, (0, v5))] [(0, t_1), (2, t)] ε μ) ∧ (t_2 ≠ 0 → (m_ty [(0, (2, v0)), (1, (0, v1)), (2, (0, v2)), (3, (0, v3)), (4, (0, v4)), (5, (0, v5))] [(0, t_1), (2, t)] ε μ → (v2 ≠ 0 → G cd_X12_gr2 Q X 54 [(0, (2, v0)), (1, (0, v1)), (2, (0, v2)), (3, (0, v3)), (4, (0, v4)), (5, (0, v5))] [(0, t_1), (2, t)] ε μ) ∧ (v2 = 0 → (m_ty [(0, (2, v0)), (1, (0, v1)), (2, (0, v2)), (3, (0, v3)), (4, (0, v4)), (5, (0, v5))] [(0, t_1), (2, t)] ε μ → (v3 = (w32 (v4 - 1)) → G cd_X12_gr2 Q X 90 [(0, (2, v0)), (5, (0, v5))] [(0, t_1), (2, t)] ε μ) ∧ (v3 ≠ (w32 (v4 - 1)) → G cd_X12_gr2 Q X 54 [(0, (2, v0)), (1, (0, v1)), (2, (0, v2)), (3, (0, v3)), (4, (0, v4)), (5, (0, v5))] [(0, t_1), (2, t)] ε μ)))))
  intro hty
  replace h := h hty.1 (hty.2.1 _ (List.mem_of_getElem? (i := 1) rfl)) (hty.2.1 _ (List.mem_of_getElem? (i := 2) rfl)) (hty.2.1 _ (List.mem_of_getElem? (i := 3) rfl)) (hty.2.1 _ (List.mem_of_getElem? (i := 4) rfl)) (hty.2.1 _ (List.mem_of_getElem? (i := 5) rfl)) (hty.2.2 _ (List.mem_of_getElem? (i := 1) rfl)) (hty.2.2 _ (List.mem_of_getElem? (i := 0) rfl))
  obtain ⟨ha, hb⟩ := h
  refine And.intro (fun c2 => ?_) (fun c2 => ?_)
  · replace h := ha c2
    clear ha hb
    exact h
  · replace h := hb c2
    clear ha hb
    intro _
    obtain ⟨ha, hb⟩ := h
    refine And.intro (fun c1 => ?_) (fun c1 => ?_)
    · replace h := ha c1
      clear ha hb
      exact h
    · replace h := hb c1
      clear ha hb
      intro _
      obtain ⟨ha, hb⟩ := h
      refine And.intro (fun c0 => ?_) (fun c0 => ?_)
      · replace h := ha c0
        clear ha hb
        exact h
      · replace h := hb c0
        clear ha hb
        exact h
set_option maxRecDepth 20000 in
theorem g_X12_gr2_16 {Q X : m_Po} {v0 v1 v2 v3 v4 v5 : Int} {ε : m_E} {μ : m_M} (h : TY ε μ → i32 v1 → i32 v2 → i32 v3 → i32 v4 → i32 v5 → kd ε v0 = 11 ∧ kd ε (fn ε v0 65) = 100 ∧ (0 : Int) ≤ v5 ∧ v5 < ln ε (fn ε v0 65) ∧ ((μ (fn ε v0 65) v5) ≠ 0 → G cd_X12_gr2 Q X 96 [(0, (2, v0)), (5, (0, v5))] [] ε μ) ∧ ((μ (fn ε v0 65) v5) = 0 → o_X12_strikes [(2, v0), (0, v1), (0, v2), (0, v3)] ε μ (fun z ε_1 μ_1 => G cd_X12_gr2 Q X 39 [(0, (2, v0)), (1, (0, v1)), (2, (0, v2)), (3, (0, v3)), (4, (0, v4)), (5, (0, v5))] [(0, z), (0, v5), (2, fn ε v0 65)] ε_1 μ_1) m_F)) : G cd_X12_gr2 Q X 16 [(0, (2, v0)), (1, (0, v1)), (2, (0, v2)), (3, (0, v3)), (4, (0, v4)), (5, (0, v5))] [] ε μ := by
  refine G_run (m_in [16, 39, 54, 67, 70, 87, 90, 94, 95, 96, 112]) 20 _ _ _ _ ?_
  show m_ty [(0, (2, v0)), (1, (0, v1)), (2, (0, v2)), (3, (0, v3)), (4, (0, v4)), (5, (0, v5))] [] ε μ → (kd ε v0 = 11) ∧ (kd ε (fn ε v0 65) = 100) ∧ ((0 : Int) ≤ v5 ∧ v5 < ln ε (fn ε v0 65)) ∧ ((μ (fn ε v0 65) v5) ≠ 0 → G cd_X12_gr2 Q X 96 [(0, (2, v0)), (5, (0, v5))] [] ε μ) ∧ ((μ (fn ε v0 65) v5) = 0 → (m_ty [(0, (2, v0)), (1, (0, v1)), (2, (0, v2)), (3, (0, v3)), (4, (0, v4)), (5, (0, v5))] [] ε μ → (kd ε v0 = 11) ∧ (kd ε v0 = 11) ∧ o_X12_strikes [(2, v0), (0, v1), (0, v2), (0, v3)] ε μ (fun z ε_1 μ_1 => G cd_X12_gr2 Q X 39 [(0, (2, v0)), (1, (0, v1)), (2, (0, v2)), (3, (0, v3)), (4, (0, v4)), (5, (0, v5))] [(0, z), (0, v5), (2, fn ε v0 65)] ε_1 μ_1) m_F))
  intro hty
  replace h := h hty.1 (hty.2.1 _ (List.mem_of_getElem? (i := 1) rfl)) (hty.2.1 _ (List.mem_of_getElem? (i := 2) rfl)) (hty.2.1 _ (List.mem_of_getElem? (i := 3) rfl)) (hty.2.1 _ (List.mem_of_getElem? (i := 4) rfl)) (hty.2.1 _ (List.mem_of_getElem? (i := 5) rfl))
  obtain ⟨k1, h⟩ := h
  refine And.intro k1 ?_
  obtain ⟨k2, h⟩ := h
  refine And.intro k2 ?_
  obtain ⟨k3, h⟩ := h
  obtain ⟨k4, h⟩ := h
  refine And.intro (And.intro k3 k4) ?_
  obtain ⟨ha, hb⟩ := h
  refine And.intro (fun c4 => ?_) (fun c4 => ?_)
  · replace h := ha c4
    clear ha hb
    exact h
  · replace h := hb c4
    clear ha hb
    intro _
    refine And.intro k1 ?_
    refine And.intro k1 ?_
    exact h
set_option maxRecDepth 20000 in
theorem g_X12_gr2_0 {Q X : m_Po} {v0 v1 v2 v3 : Int} {ε : m_E} {μ : m_M} (h : TY ε μ → i32 v1 → i32 v2 → i32 v3 → kd ε v0 = 11 ∧ kd ε (fn ε v0 17) = 100 ∧ (0 : Int) ≤ v1 ∧ v1 < ln ε (fn ε v0 17) ∧ ∀ v4 : Int, v4 = μ (fn ε v0 17) v1 → ∀ v5 : Int, v5 = w32 ((w32 (10 * v2)) + v3) → kd ε v0 = 11 ∧ kd ε (fn ε v0 65) = 100 ∧ (0 : Int) ≤ v5 ∧ v5 < ln ε (fn ε v0 65) ∧ ((μ (fn ε v0 65) v5) ≠ 0 → G cd_X12_gr2 Q X 96 [(0, (2, v0)), (5, (0, v5))] [] ε μ) ∧ ((μ (fn ε v0 65) v5) = 0 → o_X12_strikes [(2, v0), (0, v1), (0, v2), (0, v3)] ε μ (fun z ε_1 μ_1 => G cd_X12_gr2 Q X 39 [(0, (2, v0)), (1, (0, v1)), (2, (0, v2)), (3, (0, v3)), (4, (0, v4)), (5, (0, v5))] [(0, z), (0, v5), (2, fn ε v0 65)] ε_1 μ_1) m_F)) : G cd_X12_gr2 Q X 0 [(0, (2, v0)), (1, (0, v1)), (2, (0, v2)), (3, (0, v3))] [] ε μ := by
  refine G_run (m_in [16, 39, 54, 67, 70, 87, 90, 94, 95, 96, 112]) 20 _ _ _ _ ?_
  show m_ty [(0, (2, v0)), (1, (0, v1)), (2, (0, v2)), (3, (0, v3))] [] ε μ → (kd ε v0 = 11) ∧ (kd ε (fn ε v0 17) = 100) ∧ ((0 : Int) ≤ v1 ∧ v1 < ln ε (fn ε v0 17)) ∧ ∀ v4 : Int, v4 = μ (fn ε v0 17) v1 → ∀ v5 : Int, v5 = w32 ((w32 (10 * v2)) + v3) → G cd_X12_gr2 Q X 16 [(0, (2, v0)), (1, (0, v1)), (2, (0, v2)), (3, (0, v3)), (4, (0, v4)), (5, (0, v5))] [] ε μ
  intro hty
  replace h := h hty.1 (hty.2.1 _ (List.mem_of_getElem? (i := 1) rfl)) (hty.2.1 _ (List.mem_of_getElem? (i := 2) rfl)) (hty.2.1 _ (List.mem_of_getElem? (i := 3) rfl))
  obtain ⟨k1, h⟩ := h
  refine And.intro k1 ?_
  obtain ⟨k2, h⟩ := h
  refine And.intro k2 ?_
  obtain ⟨k3, h⟩ := h
  obtain ⟨k4, h⟩ := h
  refine And.intro (And.intro k3 k4) ?_
  intro v4 e_v4
  replace h := h v4 e_v4
  intro v5 e_v5
  replace h := h v5 e_v5
  exact g_X12_gr2_16 (fun _ _ _ _ _ _ => h)
theorem e_X12_gr2 {Q X : m_Po} {v0 v1 v2 v3 : Int} {ε : m_E} {μ : m_M} (h : TY ε μ → i32 v1 → i32 v2 → i32 v3 → kd ε v0 = 11 ∧ kd ε (fn ε v0 17) = 100 ∧ (0 : Int) ≤ v1 ∧ v1 < ln ε (fn ε v0 17) ∧ ∀ v4 : Int, v4 = μ (fn ε v0 17) v1 → ∀ v5 : Int, v5 = w32 ((w32 (10 * v2)) + v3) → kd ε v0 = 11 ∧ kd ε (fn ε v0 65) = 100 ∧ (0 : Int) ≤ v5 ∧ v5 < ln ε (fn ε v0 65) ∧ ((μ (fn ε v0 65) v5) ≠ 0 → G cd_X12_gr2 Q X 96 [(0, (2, v0)), (5, (0, v5))] [] ε μ) ∧ ((μ (fn ε v0 65) v5) = 0 → o_X12_strikes [(2, v0), (0, v1), (0, v2), (0, v3)] ε μ (fun z ε_1 μ_1 => G cd_X12_gr2 Q X 39 [(0, (2, v0)), (1, (0, v1)), (2, (0, v2)), (3, (0, v3)), (4, (0, v4)), (5, (0, v5))] [(0, z), (0, v5), (2, fn ε v0 65)] ε_1 μ_1) m_F)) : o_X12_gr2 [(2, v0), (0, v1), (0, v2), (0, v3)] ε μ Q X := And.intro rfl (g_X12_gr2_0 h)
/-! ArchYardModel.grows(III)Z -/
set_option maxRecDepth 20000 in
theorem g_X12_gr3_112 {Q X : m_Po} {t : Int} {ε : m_E} {μ : m_M} (h : TY ε μ → i32 t → (t = 0 ∨ t = 1) ∧ Q t ε μ) : G cd_X12_gr3 Q X 112 [] [(0, t)] ε μ := by
  refine G_run (m_in [16, 39, 54, 67, 70, 87, 90, 94, 95, 96, 112]) 20 _ _ _ _ ?_
  show m_ty [] [(0, t)] ε μ → (t = 0 ∨ t = 1) ∧ Q t ε μ
  intro hty
  replace h := h hty.1 (hty.2.2 _ (List.mem_of_getElem? (i := 0) rfl))
  obtain ⟨k1, h⟩ := h
  refine And.intro k1 ?_
  exact h
set_option maxRecDepth 20000 in
theorem g_X12_gr3_96 {Q X : m_Po} {v0 v5 : Int} {ε : m_E} {μ : m_M} (h : TY ε μ → i32 v5 → kd ε v0 = 11 ∧ kd ε (fn ε v0 65) = 100 ∧ (0 : Int) ≤ v5 ∧ v5 < ln ε (fn ε v0 65) ∧ ∀ t : Int, t = (if (μ (fn ε v0 65) v5) = (1 : Int) then 1 else 0) → Q t ε μ) : G cd_X12_gr3 Q X 96 [(0, (2, v0)), (5, (0, v5))] [] ε μ := by
  refine G_run (m_in [16, 39, 54, 67, 70, 87, 90, 94, 95, 96, 112]) 20 _ _ _ _ ?_
  show m_ty [(0, (2, v0)), (5, (0, v5))] [] ε μ → (kd ε v0 = 11) ∧ (kd ε (fn ε v0 65) = 100) ∧ ((0 : Int) ≤ v5 ∧ v5 < ln ε (fn ε v0 65)) ∧ ((μ (fn ε v0 65) v5) ≠ (1 : Int) → (m_ty [] [] ε μ → G cd_X12_gr3 Q X 112 [] [(0, 0)] ε μ)) ∧ ((μ (fn ε v0 65) v5) = (1 : Int) → (m_ty [] [] ε μ → G cd_X12_gr3 Q X 112 [] [(0, 1)] ε μ))
  intro hty
  replace h := h hty.1 (hty.2.1 _ (List.mem_of_getElem? (i := 1) rfl))
  obtain ⟨k1, h⟩ := h
  refine And.intro k1 ?_
  obtain ⟨k2, h⟩ := h
  refine And.intro k2 ?_
  obtain ⟨k3, h⟩ := h
  obtain ⟨k4, h⟩ := h
  refine And.intro (And.intro k3 k4) ?_
  have hj := h
  refine And.intro (fun c4 => ?_) (fun c4 => ?_)
  · intro _
    exact g_X12_gr3_112 (fun _ _ => (And.intro (Or.inl rfl) (hj _ (((if_neg (c4)).trans rfl)).symm)))
  · intro _
    exact g_X12_gr3_112 (fun _ _ => (And.intro (Or.inr rfl) (hj _ (((if_pos c4).trans rfl)).symm)))
set_option maxRecDepth 20000 in
theorem g_X12_gr3_95 {Q X : m_Po} {v0 v5 t t_1 t_2 : Int} {ε : m_E} {μ : m_M} (h : TY ε μ → i32 v5 → i32 t_1 → i32 t_2 → kd ε t = 100 ∧ (0 : Int) ≤ t_1 ∧ t_1 < ln ε t ∧ ∀ μ_1 : m_M, μ_1 = st μ t t_1 t_2 → G cd_X12_gr3 Q X 96 [(0, (2, v0)), (5, (0, v5))] [] ε μ_1) : G cd_X12_gr3 Q X 95 [(0, (2, v0)), (5, (0, v5))] [(0, t_2), (0, t_1), (2, t)] ε μ := by
  refine G_run (m_in [16, 39, 54, 67, 70, 87, 90, 94, 95, 96, 112]) 20 _ _ _ _ ?_
  show m_ty [(0, (2, v0)), (5, (0, v5))] [(0, t_2), (0, t_1), (2, t)] ε μ → (kd ε t = 100) ∧ ((0 : Int) ≤ t_1 ∧ t_1 < ln ε t) ∧ ∀ μ_1 : m_M, μ_1 = st μ t t_1 t_2 → G cd_X12_gr3 Q X 96 [(0, (2, v0)), (5, (0, v5))] [] ε μ_1
  intro hty
  replace h := h hty.1 (hty.2.1 _ (List.mem_of_getElem? (i := 1) rfl)) (hty.2.2 _ (List.mem_of_getElem? (i := 1) rfl)) (hty.2.2 _ (List.mem_of_getElem? (i := 0) rfl))
  obtain ⟨k1, h⟩ := h
  refine And.intro k1 ?_
  obtain ⟨k2, h⟩ := h
  obtain ⟨k3, h⟩ := h
  refine And.intro (And.intro k2 k3) ?_
  intro μ_1 e_μ_1
  replace h := h μ_1 e_μ_1
  exact h
set_option maxRecDepth 20000 in
theorem g_X12_gr3_94 {Q X : m_Po} {v0 v5 t t_1 : Int} {ε : m_E} {μ : m_M} (h : TY ε μ → i32 v5 → i32 t_1 → G cd_X12_gr3 Q X 95 [(0, (2, v0)), (5, (0, v5))] [(0, 2), (0, t_1), (2, t)] ε μ) : G cd_X12_gr3 Q X 94 [(0, (2, v0)), (5, (0, v5))] [(0, t_1), (2, t)] ε μ := by
  refine G_run (m_in [16, 39, 54, 67, 70, 87, 90, 94, 95, 96, 112]) 20 _ _ _ _ ?_
  show m_ty [(0, (2, v0)), (5, (0, v5))] [(0, t_1), (2, t)] ε μ → G cd_X12_gr3 Q X 95 [(0, (2, v0)), (5, (0, v5))] [(0, 2), (0, t_1), (2, t)] ε μ
  intro hty
  replace h := h hty.1 (hty.2.1 _ (List.mem_of_getElem? (i := 1) rfl)) (hty.2.2 _ (List.mem_of_getElem? (i := 0) rfl))
  exact h
set_option maxRecDepth 20000 in
theorem g_X12_gr3_90 {Q X : m_Po} {v0 v5 t t_1 : Int} {ε : m_E} {μ : m_M} (h : TY ε μ → i32 v5 → i32 t_1 → G cd_X12_gr3 Q X 95 [(0, (2, v0)), (5, (0, v5))] [(0, 1), (0, t_1), (2, t)] ε μ) : G cd_X12_gr3 Q X 90 [(0, (2, v0)), (5, (0, v5))] [(0, t_1), (2, t)] ε μ := by
  refine G_run (m_in [16, 39, 54, 67, 70, 87, 90, 94, 95, 96, 112]) 20 _ _ _ _ ?_
  show m_ty [(0, (2, v0)), (5, (0, v5))] [(0, t_1), (2, t)] ε μ → G cd_X12_gr3 Q X 95 [(0, (2, v0)), (5, (0, v5))] [(0, 1), (0, t_1), (2, t)] ε μ
  intro hty
  replace h := h hty.1 (hty.2.1 _ (List.mem_of_getElem? (i := 1) rfl)) (hty.2.2 _ (List.mem_of_getElem? (i := 0) rfl))
  exact h
set_option maxRecDepth 20000 in
theorem g_X12_gr3_87 {Q X : m_Po} {v0 v5 t t_1 t_2 : Int} {ε : m_E} {μ : m_M} (h : TY ε μ → i32 v5 → i32 t_1 → i32 t_2 → (t_2 = 0 → G cd_X12_gr3 Q X 94 [(0, (2, v0)), (5, (0, v5))] [(0, t_1), (2, t)] ε μ) ∧ (t_2 ≠ 0 → G cd_X12_gr3 Q X 90 [(0, (2, v0)), (5, (0, v5))] [(0, t_1), (2, t)] ε μ)) : G cd_X12_gr3 Q X 87 [(0, (2, v0)), (5, (0, v5))] [(0, t_2), (0, t_1), (2, t)] ε μ := by
  refine G_run (m_in [16, 39, 54, 67, 70, 87, 90, 94, 95, 96, 112]) 20 _ _ _ _ ?_
  show m_ty [(0, (2, v0)), (5, (0, v5))] [(0, t_2), (0, t_1), (2, t)] ε μ → (t_2 = 0 → G cd_X12_gr3 Q X 94 [(0, (2, v0)), (5, (0, v5))] [(0, t_1), (2, t)] ε μ) ∧ (t_2 ≠ 0 → G cd_X12_gr3 Q X 90 [(0, (2, v0)), (5, (0, v5))] [(0, t_1), (2, t)] ε μ)
  intro hty
  replace h := h hty.1 (hty.2.1 _ (List.mem_of_getElem? (i := 1) rfl)) (hty.2.2 _ (List.mem_of_getElem? (i := 1) rfl)) (hty.2.2 _ (List.mem_of_getElem? (i := 0) rfl))
  obtain ⟨ha, hb⟩ := h
  refine And.intro (fun c0 => ?_) (fun c0 => ?_)
  · replace h := ha c0
    clear ha hb
    exact h
  · replace h := hb c0
    clear ha hb
    exact h
set_option maxRecDepth 20000 in
theorem g_X12_gr3_70 {Q X : m_Po} {v0 v1 v2 v3 v4 v5 t t_1 : Int} {ε : m_E} {μ : m_M} (h : TY ε μ → i32 v1 → i32 v2 → i32 v3 → i32 v4 → i32 v5 → i32 t_1 → ((w32 (v4 - 1)) ≤ v3 → G cd_X12_gr3 Q X 94 [(0, (2, v0)), (5, (0, v5))] [(0, t_1), (2, t)] ε μ) ∧ (v3 < (w32 (v4 - 1)) → kd ε v0 = 11 ∧ o_X12_gr2 [(2, v0), (0, v1), (0, v2), (0, w32 (v3 + 1))] ε μ (fun z ε_1 μ_1 => G cd_X12_gr3 Q X 87 [(0, (2, v0)), (5, (0, v5))] [(0, z), (0, t_1), (2, t)] ε_1 μ_1) m_F)) : G cd_X12_gr3 Q X 70 [(0, (2, v0)), (1, (0, v1)), (2, (0, v2)), (3, (0, v3)), (4, (0, v4)), (5, (0, v5))] [(0, t_1), (2, t)] ε μ := by
  refine G_run (m_in [16, 39, 54, 67, 70, 87, 90, 94, 95, 96, 112]) 20 _ _ _ _ ?_
  show m_ty [(0, (2, v0)), (1, (0, v1)), (2, (0, v2)), (3, (0, v3)), (4, (0, v4)), (5, (0, v5))] [(0, t_1), (2, t)] ε μ → ((w32 (v4 - 1)) ≤ v3 → G cd_X12_gr3 Q X 94 [(0, (2, v0)), (5, (0, v5))] [(0, t_1), (2, t)] ε μ) ∧ (v3 < (w32 (v4 - 1)) → (m_ty [(0, (2, v0)), (1, (0, v1)), (2, (0, v2)), (3, (0, v3)), (5, (0, v5))] [(0, t_1), (2, t)] ε μ → (kd ε v0 = 11) ∧ o_X12_gr2 [(2, v0), (0, v1), (0, v2), (0, w32 (v3 + 1))] ε μ (fun z ε_1 μ_1 => G cd_X12_gr3 Q X 87 [(0, (2, v0)), (5, (0, v5))] [(0, z), (0, t_1), (2, t)] ε_1 μ_1) m_F))
  intro hty
  replace h := h hty.1 (hty.2.1 _ (List.mem_of_getElem? (i := 1) rfl)) (hty.2.1 _ (List.mem_of_getElem? (i := 2) rfl)) (hty.2.1 _ (List.mem_of_getElem? (i := 3) rfl)) (hty.2.1 _ (List.mem_of_getElem? (i := 4) rfl)) (hty.2.1 _ (List.mem_of_getElem? (i := 5) rfl)) (hty.2.2 _ (List.mem_of_getElem? (i := 0) rfl))
  obtain ⟨ha, hb⟩ := h
  refine And.intro (fun c1 => ?_) (fun c1 => ?_)
  · replace h := ha c1
    clear ha hb
    exact h
  · replace h := hb c1
    clear ha hb
    intro _
    obtain ⟨k1, h⟩ := h
    refine And.intro k1 ?_
    exact h
set_option maxRecDepth 20000 in
theorem g_X12_gr3_67 {Q X : m_Po} {v0 v1 v2 v3 v4 v5 t t_1 t_2 : Int} {ε : m_E} {μ : m_M} (h : TY ε μ → i32 v1 → i32 v2 → i32 v3 → i32 v4 → i32 v5 → i32 t_1 → i32 t_2 → (t_2 ≠ 0 → G cd_X12_gr3 Q X 90 [(0, (2, v0)), (5, (0, v5))] [(0, t_1), (2, t)] ε μ) ∧ (t_2 = 0 → G cd_X12_gr3 Q X 70 [(0, (2, v0)), (1, (0, v1)), (2, (0, v2)), (3, (0, v3)), (4, (0, v4)), (5, (0, v5))] [(0, t_1), (2, t)] ε μ)) : G cd_X12_gr3 Q X 67 [(0, (2, v0)), (1, (0, v1)), (2, (0, v2)), (3, (0, v3)), (4, (0, v4)), (5, (0, v5))] [(0, t_2), (0, t_1), (2, t)] ε μ := by
  refine G_run (m_in [16, 39, 54, 67, 70, 87, 90, 94, 95, 96, 112]) 20 _ _ _ _ ?_
  show m_ty [(0, (2, v0)), (1, (0, v1)), (2, (0, v2)), (3, (0, v3)), (4, (0, v4)), (5, (0, v5))] [(0, t_2), (0, t_1), (2, t)] ε μ → (t_2 ≠ 0 → G cd_X12_gr3 Q X 90 [(0, (2, v0)), (5, (0, v5))] [(0, t_1), (2, t)] ε μ) ∧ (t_2 = 0 → G cd_X12_gr3 Q X 70 [(0, (2, v0)), (1, (0, v1)), (2, (0, v2)), (3, (0, v3)), (4, (0, v4)), (5, (0, v5))] [(0, t_1), (2, t)] ε μ)
  intro hty
  replace h := h hty.1 (hty.2.1 _ (List.mem_of_getElem? (i := 1) rfl)) (hty.2.1 _ (List.mem_of_getElem? (i := 2) rfl)) (hty.2.1 _ (List.mem_of_getElem? (i := 3) rfl)) (hty.2.1 _ (List.mem_of_getElem? (i := 4) rfl)) (hty.2.1 _ (List.mem_of_getElem? (i := 5) rfl)) (hty.2.2 _ (List.mem_of_getElem? (i := 1) rfl)) (hty.2.2 _ (List.mem_of_getElem? (i := 0) rfl))
  obtain ⟨ha, hb⟩ := h
  refine And.intro (fun c0 => ?_) (fun c0 => ?_)
  · replace h := ha c0
    clear ha hb
    exact h
  · replace h := hb c0
    clear ha hb
    exact h
set_option maxRecDepth 20000 in
theorem g_X12_gr3_54 {Q X : m_Po} {v0 v1 v2 v3 v4 v5 t t_1 : Int} {ε : m_E} {μ : m_M} (h : TY ε μ → i32 v1 → i32 v2 → i32 v3 → i32 v4 → i32 v5 → i32 t_1 → (v2 ≤ 0 → G cd_X12_gr3 Q X 70 [(0, (2, v0)), (1, (0, v1)), (2, (0, v2)), (3, (0, v3)), (4, (0, v4)), (5, (0, v5))] [(0, t_1), (2, t)] ε μ) ∧ (0 < v2 → kd ε v0 = 11 ∧ o_X12_gr2 [(2, v0), (0, v1), (0, w32 (v2 - 1)), (0, v3)] ε μ (fun z ε_1 μ_1 => G cd_X12_gr3 Q X 67 [(0, (2, v0)), (1, (0, v1)), (2, (0, v2)), (3, (0, v3)), (4, (0, v4)), (5, (0, v5))] [(0, z), (0, t_1), (2, t)] ε_1 μ_1) m_F)) : G cd_X12_gr3 Q X 54 [(0, (2, v0)), (1, (0, v1)), (2, (0, v2)), (3, (0, v3)), (4, (0, v4)), (5, (0, v5))] [(0, t_1), (2, t)] ε μ := by
  refine G_run (m_in [16, 39, 54, 67, 70, 87, 90, 94, 95, 96, 112]) 20 _ _ _ _ ?_
  show m_ty [(0, (2, v0)), (1, (0, v1)), (2, (0, v2)), (3, (0, v3)), (4, (0, v4)), (5, (0, v5))] [(0, t_1), (2, t)] ε μ → (v2 ≤ 0 → G cd_X12_gr3 Q X 70 [(0, (2, v0)), (1, (0, v1)), (2, (0, v2)), (3, (0, v3)), (4, (0, v4)), (5, (0, v5))] [(0, t_1), (2, t)] ε μ) ∧ (0 < v2 → (m_ty [(0, (2, v0)), (1, (0, v1)), (2, (0, v2)), (3, (0, v3)), (4, (0, v4)), (5, (0, v5))] [(0, t_1), (2, t)] ε μ → (kd ε v0 = 11) ∧ o_X12_gr2 [(2, v0), (0, v1), (0, w32 (v2 - 1)), (0, v3)] ε μ (fun z ε_1 μ_1 => G cd_X12_gr3 Q X 67 [(0, (2, v0)), (1, (0, v1)), (2, (0, v2)), (3, (0, v3)), (4, (0, v4)), (5, (0, v5))] [(0, z), (0, t_1), (2, t)] ε_1 μ_1) m_F))
  intro hty
  replace h := h hty.1 (hty.2.1 _ (List.mem_of_getElem? (i := 1) rfl)) (hty.2.1 _ (List.mem_of_getElem? (i := 2) rfl)) (hty.2.1 _ (List.mem_of_getElem? (i := 3) rfl)) (hty.2.1 _ (List.mem_of_getElem? (i := 4) rfl)) (hty.2.1 _ (List.mem_of_getElem? (i := 5) rfl)) (hty.2.2 _ (List.mem_of_getElem? (i := 0) rfl))
  obtain ⟨ha, hb⟩ := h
  refine And.intro (fun c1 => ?_) (fun c1 => ?_)
  · replace h := ha c1
    clear ha hb
    exact h
  · replace h := hb c1
    clear ha hb
    intro _
    obtain ⟨k1, h⟩ := h
    refine And.intro k1 ?_
    exact h
set_option maxRecDepth 20000 in
theorem g_X12_gr3_39 {Q X : m_Po} {v0 v1 v2 v3 v4 v5 t t_1 t_2 : Int} {ε : m_E} {μ : m_M} (h : TY ε μ → i32 v1 → i32 v2 → i32 v3 → i32 v4 → i32 v5 → i32 t_1 → i32 t_2 → (t_2 = 0 → G cd_X12_gr3 Q X 94 [(0, (2, v0)), (5, (0, v5))] [(0, t_1), (2, t)] ε μ) ∧ (t_2 ≠ 0 → (v2 ≠ 0 → G cd_X12_gr3 Q X 54 [(0, (2, v0)), (1, (0, v1)), (2, (0, v2)), (3, (0, v3)), (4, (0, v4)), (5, (0, v5))] [(0, t_1), (2, t)] ε μ) ∧ (v2 = 0 → (v3 = (w32 (v4 - 1)) → G cd_X12_gr3 Q X 90 [(0, (2, v0)), (5, (0, v5))] [(0, t_1), (2, t)] ε μ) ∧ (v3 ≠ (w32 (v4 - 1)) → G cd_X12_gr3 Q X 54 [(0, (2, v0)), (1, (0, v1)), (2, (0, v2)), (3, (0, v3)), (4, (0, v4)), (5, (0, v5))] [(0, t_1), (2, t)] ε μ)))) : G cd_X12_gr3 Q X 39 [(0, (2, v0)), (1, (0, v1)), (2, (0, v2)), (3, (0, v3)), (4, (0, v4)), (5, (0, v5))] [(0, t_2), (0, t_1), (2, t)] ε μ := by
  refine G_run (m_in [16, 39, 54, 67, 70, 87, 90, 94, 95, 96, 112]) 20 _ _ _ _ ?_
  show m_ty [(0, (2, v0)), (1, (0, v1)), (2, (0, v2)), (3, (0, v3)), (4, (0, v4)), (5, (0, v5))] [(0, t_2), (0, t_1), (2, t)] ε μ → (t_2 = 0 → G cd_X12_gr3 Q X 94 [(0, (2, v0)), (5, (0, v5))] [(0, t_1), (2, t)] ε μ) ∧ (t_2 ≠ 0 → (m_ty [(0, (2, v0)), (1, (0, v1)), (2, (0, v2)), (3, (0, v3)), (4, (0, v4)), (5, (0, v5))] [(0, t_1), (2, t)] ε μ → (v2 ≠ 0 → G cd_X12_gr3 Q X 54 [(0, (2, v0)), (1, (0, v1)), (2, (0, v2)), (3, (0, v3)), (4, (0, v4)), (5, (0, v5))] [(0, t_1), (2, t)] ε μ) ∧ (v2 = 0 → (m_ty [(0, (2, v0)), (1, (0, v1)), (2, (0, v2)), (3, (0, v3)), (4, (0, v4)), (5, (0, v5))] [(0, t_1), (2, t)] ε μ → (v3 = (w32 (v4 - 1)) → G cd_X12_gr3 Q X 90 [(0, (2, v0)), (5, (0, v5))] [(0, t_1), (2, t)] ε μ) ∧ (v3 ≠ (w32 (v4 - 1)) → G cd_X12_gr3 Q X 54 [(0, (2, v0)), (1, (0, v1)), (2, (0, v2)), (3, (0, v3)), (4, (0, v4)), (5, (0, v5))] [(0, t_1), (2, t)] ε μ)))))
  intro hty
  replace h := h hty.1 (hty.2.1 _ (List.mem_of_getElem? (i := 1) rfl)) (hty.2.1 _ (List.mem_of_getElem? (i := 2) rfl)) (hty.2.1 _ (List.mem_of_getElem? (i := 3) rfl)) (hty.2.1 _ (List.mem_of_getElem? (i := 4) rfl)) (hty.2.1 _ (List.mem_of_getElem? (i := 5) rfl)) (hty.2.2 _ (List.mem_of_getElem? (i := 1) rfl)) (hty.2.2 _ (List.mem_of_getElem? (i := 0) rfl))
  obtain ⟨ha, hb⟩ := h
  refine And.intro (fun c2 => ?_) (fun c2 => ?_)
  · replace h := ha c2
    clear ha hb
    exact h
  · replace h := hb c2
    clear ha hb
    intro _
    obtain ⟨ha, hb⟩ := h
    refine And.intro (fun c1 => ?_) (fun c1 => ?_)
    · replace h := ha c1
      clear ha hb
      exact h
    · replace h := hb c1
      clear ha hb
      intro _
      obtain ⟨ha, hb⟩ := h
      refine And.intro (fun c0 => ?_) (fun c0 => ?_)
      · replace h := ha c0
        clear ha hb
        exact h
      · replace h := hb c0
        clear ha hb
        exact h
set_option maxRecDepth 20000 in
theorem g_X12_gr3_16 {Q X : m_Po} {v0 v1 v2 v3 v4 v5 : Int} {ε : m_E} {μ : m_M} (h : TY ε μ → i32 v1 → i32 v2 → i32 v3 → i32 v4 → i32 v5 → kd ε v0 = 11 ∧ kd ε (fn ε v0 65) = 100 ∧ (0 : Int) ≤ v5 ∧ v5 < ln ε (fn ε v0 65) ∧ ((μ (fn ε v0 65) v5) ≠ 0 → G cd_X12_gr3 Q X 96 [(0, (2, v0)), (5, (0, v5))] [] ε μ) ∧ ((μ (fn ε v0 65) v5) = 0 → o_X12_strikes [(2, v0), (0, v1), (0, v2), (0, v3)] ε μ (fun z ε_1 μ_1 => G cd_X12_gr3 Q X 39 [(0, (2, v0)), (1, (0, v1)), (2, (0, v2)), (3, (0, v3)), (4, (0, v4)), (5, (0, v5))] [(0, z), (0, v5), (2, fn ε v0 65)] ε_1 μ_1) m_F)) : G cd_X12_gr3 Q X 16 [(0, (2, v0)), (1, (0, v1)), (2, (0, v2)), (3, (0, v3)), (4, (0, v4)), (5, (0, v5))] [] ε μ := by
  refine G_run (m_in [16, 39, 54, 67, 70, 87, 90, 94, 95, 96, 112]) 20 _ _ _ _ ?_
  show m_ty [(0, (2, v0)), (1, (0, v1)), (2, (0, v2)), (3, (0, v3)), (4, (0, v4)), (5, (0, v5))] [] ε μ → (kd ε v0 = 11) ∧ (kd ε (fn ε v0 65) = 100) ∧ ((0 : Int) ≤ v5 ∧ v5 < ln ε (fn ε v0 65)) ∧ ((μ (fn ε v0 65) v5) ≠ 0 → G cd_X12_gr3 Q X 96 [(0, (2, v0)), (5, (0, v5))] [] ε μ) ∧ ((μ (fn ε v0 65) v5) = 0 → (m_ty [(0, (2, v0)), (1, (0, v1)), (2, (0, v2)), (3, (0, v3)), (4, (0, v4)), (5, (0, v5))] [] ε μ → (kd ε v0 = 11) ∧ (kd ε v0 = 11) ∧ o_X12_strikes [(2, v0), (0, v1), (0, v2), (0, v3)] ε μ (fun z ε_1 μ_1 => G cd_X12_gr3 Q X 39 [(0, (2, v0)), (1, (0, v1)), (2, (0, v2)), (3, (0, v3)), (4, (0, v4)), (5, (0, v5))] [(0, z), (0, v5), (2, fn ε v0 65)] ε_1 μ_1) m_F))
  intro hty
  replace h := h hty.1 (hty.2.1 _ (List.mem_of_getElem? (i := 1) rfl)) (hty.2.1 _ (List.mem_of_getElem? (i := 2) rfl)) (hty.2.1 _ (List.mem_of_getElem? (i := 3) rfl)) (hty.2.1 _ (List.mem_of_getElem? (i := 4) rfl)) (hty.2.1 _ (List.mem_of_getElem? (i := 5) rfl))
  obtain ⟨k1, h⟩ := h
  refine And.intro k1 ?_
  obtain ⟨k2, h⟩ := h
  refine And.intro k2 ?_
  obtain ⟨k3, h⟩ := h
  obtain ⟨k4, h⟩ := h
  refine And.intro (And.intro k3 k4) ?_
  obtain ⟨ha, hb⟩ := h
  refine And.intro (fun c4 => ?_) (fun c4 => ?_)
  · replace h := ha c4
    clear ha hb
    exact h
  · replace h := hb c4
    clear ha hb
    intro _
    refine And.intro k1 ?_
    refine And.intro k1 ?_
    exact h
set_option maxRecDepth 20000 in
theorem g_X12_gr3_0 {Q X : m_Po} {v0 v1 v2 v3 : Int} {ε : m_E} {μ : m_M} (h : TY ε μ → i32 v1 → i32 v2 → i32 v3 → kd ε v0 = 11 ∧ kd ε (fn ε v0 17) = 100 ∧ (0 : Int) ≤ v1 ∧ v1 < ln ε (fn ε v0 17) ∧ ∀ v4 : Int, v4 = μ (fn ε v0 17) v1 → ∀ v5 : Int, v5 = w32 ((w32 (10 * v2)) + v3) → kd ε v0 = 11 ∧ kd ε (fn ε v0 65) = 100 ∧ (0 : Int) ≤ v5 ∧ v5 < ln ε (fn ε v0 65) ∧ ((μ (fn ε v0 65) v5) ≠ 0 → G cd_X12_gr3 Q X 96 [(0, (2, v0)), (5, (0, v5))] [] ε μ) ∧ ((μ (fn ε v0 65) v5) = 0 → o_X12_strikes [(2, v0), (0, v1), (0, v2), (0, v3)] ε μ (fun z ε_1 μ_1 => G cd_X12_gr3 Q X 39 [(0, (2, v0)), (1, (0, v1)), (2, (0, v2)), (3, (0, v3)), (4, (0, v4)), (5, (0, v5))] [(0, z), (0, v5), (2, fn ε v0 65)] ε_1 μ_1) m_F)) : G cd_X12_gr3 Q X 0 [(0, (2, v0)), (1, (0, v1)), (2, (0, v2)), (3, (0, v3))] [] ε μ := by
  refine G_run (m_in [16, 39, 54, 67, 70, 87, 90, 94, 95, 96, 112]) 20 _ _ _ _ ?_
  show m_ty [(0, (2, v0)), (1, (0, v1)), (2, (0, v2)), (3, (0, v3))] [] ε μ → (kd ε v0 = 11) ∧ (kd ε (fn ε v0 17) = 100) ∧ ((0 : Int) ≤ v1 ∧ v1 < ln ε (fn ε v0 17)) ∧ ∀ v4 : Int, v4 = μ (fn ε v0 17) v1 → ∀ v5 : Int, v5 = w32 ((w32 (10 * v2)) + v3) → G cd_X12_gr3 Q X 16 [(0, (2, v0)), (1, (0, v1)), (2, (0, v2)), (3, (0, v3)), (4, (0, v4)), (5, (0, v5))] [] ε μ
  intro hty
  replace h := h hty.1 (hty.2.1 _ (List.mem_of_getElem? (i := 1) rfl)) (hty.2.1 _ (List.mem_of_getElem? (i := 2) rfl)) (hty.2.1 _ (List.mem_of_getElem? (i := 3) rfl))
  obtain ⟨k1, h⟩ := h
  refine And.intro k1 ?_
  obtain ⟨k2, h⟩ := h
  refine And.intro k2 ?_
  obtain ⟨k3, h⟩ := h
  obtain ⟨k4, h⟩ := h
  refine And.intro (And.intro k3 k4) ?_
  intro v4 e_v4
  replace h := h v4 e_v4
  intro v5 e_v5
  replace h := h v5 e_v5
  exact g_X12_gr3_16 (fun _ _ _ _ _ _ => h)
theorem e_X12_gr3 {Q X : m_Po} {v0 v1 v2 v3 : Int} {ε : m_E} {μ : m_M} (h : TY ε μ → i32 v1 → i32 v2 → i32 v3 → kd ε v0 = 11 ∧ kd ε (fn ε v0 17) = 100 ∧ (0 : Int) ≤ v1 ∧ v1 < ln ε (fn ε v0 17) ∧ ∀ v4 : Int, v4 = μ (fn ε v0 17) v1 → ∀ v5 : Int, v5 = w32 ((w32 (10 * v2)) + v3) → kd ε v0 = 11 ∧ kd ε (fn ε v0 65) = 100 ∧ (0 : Int) ≤ v5 ∧ v5 < ln ε (fn ε v0 65) ∧ ((μ (fn ε v0 65) v5) ≠ 0 → G cd_X12_gr3 Q X 96 [(0, (2, v0)), (5, (0, v5))] [] ε μ) ∧ ((μ (fn ε v0 65) v5) = 0 → o_X12_strikes [(2, v0), (0, v1), (0, v2), (0, v3)] ε μ (fun z ε_1 μ_1 => G cd_X12_gr3 Q X 39 [(0, (2, v0)), (1, (0, v1)), (2, (0, v2)), (3, (0, v3)), (4, (0, v4)), (5, (0, v5))] [(0, z), (0, v5), (2, fn ε v0 65)] ε_1 μ_1) m_F)) : o_X12_gr3 [(2, v0), (0, v1), (0, v2), (0, v3)] ε μ Q X := And.intro rfl (g_X12_gr3_0 h)
/-! ArchYardModel.grows(III)Z -/
set_option maxRecDepth 20000 in
theorem g_X12_gr4_112 {Q X : m_Po} {t : Int} {ε : m_E} {μ : m_M} (h : TY ε μ → i32 t → (t = 0 ∨ t = 1) ∧ Q t ε μ) : G cd_X12_gr4 Q X 112 [] [(0, t)] ε μ := by
  refine G_run (m_in [16, 39, 54, 67, 70, 87, 90, 94, 95, 96, 112]) 20 _ _ _ _ ?_
  show m_ty [] [(0, t)] ε μ → (t = 0 ∨ t = 1) ∧ Q t ε μ
  intro hty
  replace h := h hty.1 (hty.2.2 _ (List.mem_of_getElem? (i := 0) rfl))
  obtain ⟨k1, h⟩ := h
  refine And.intro k1 ?_
  exact h
set_option maxRecDepth 20000 in
theorem g_X12_gr4_96 {Q X : m_Po} {v0 v5 : Int} {ε : m_E} {μ : m_M} (h : TY ε μ → i32 v5 → kd ε v0 = 11 ∧ kd ε (fn ε v0 65) = 100 ∧ (0 : Int) ≤ v5 ∧ v5 < ln ε (fn ε v0 65) ∧ ∀ t : Int, t = (if (μ (fn ε v0 65) v5) = (1 : Int) then 1 else 0) → Q t ε μ) : G cd_X12_gr4 Q X 96 [(0, (2, v0)), (5, (0, v5))] [] ε μ := by
  refine G_run (m_in [16, 39, 54, 67, 70, 87, 90, 94, 95, 96, 112]) 20 _ _ _ _ ?_
  show m_ty [(0, (2, v0)), (5, (0, v5))] [] ε μ → (kd ε v0 = 11) ∧ (kd ε (fn ε v0 65) = 100) ∧ ((0 : Int) ≤ v5 ∧ v5 < ln ε (fn ε v0 65)) ∧ ((μ (fn ε v0 65) v5) ≠ (1 : Int) → (m_ty [] [] ε μ → G cd_X12_gr4 Q X 112 [] [(0, 0)] ε μ)) ∧ ((μ (fn ε v0 65) v5) = (1 : Int) → (m_ty [] [] ε μ → G cd_X12_gr4 Q X 112 [] [(0, 1)] ε μ))
  intro hty
  replace h := h hty.1 (hty.2.1 _ (List.mem_of_getElem? (i := 1) rfl))
  obtain ⟨k1, h⟩ := h
  refine And.intro k1 ?_
  obtain ⟨k2, h⟩ := h
  refine And.intro k2 ?_
  obtain ⟨k3, h⟩ := h
  obtain ⟨k4, h⟩ := h
  refine And.intro (And.intro k3 k4) ?_
  have hj := h
  refine And.intro (fun c4 => ?_) (fun c4 => ?_)
  · intro _
    exact g_X12_gr4_112 (fun _ _ => (And.intro (Or.inl rfl) (hj _ (((if_neg (c4)).trans rfl)).symm)))
  · intro _
    exact g_X12_gr4_112 (fun _ _ => (And.intro (Or.inr rfl) (hj _ (((if_pos c4).trans rfl)).symm)))
set_option maxRecDepth 20000 in
theorem g_X12_gr4_95 {Q X : m_Po} {v0 v5 t t_1 t_2 : Int} {ε : m_E} {μ : m_M} (h : TY ε μ → i32 v5 → i32 t_1 → i32 t_2 → kd ε t = 100 ∧ (0 : Int) ≤ t_1 ∧ t_1 < ln ε t ∧ ∀ μ_1 : m_M, μ_1 = st μ t t_1 t_2 → G cd_X12_gr4 Q X 96 [(0, (2, v0)), (5, (0, v5))] [] ε μ_1) : G cd_X12_gr4 Q X 95 [(0, (2, v0)), (5, (0, v5))] [(0, t_2), (0, t_1), (2, t)] ε μ := by
  refine G_run (m_in [16, 39, 54, 67, 70, 87, 90, 94, 95, 96, 112]) 20 _ _ _ _ ?_
  show m_ty [(0, (2, v0)), (5, (0, v5))] [(0, t_2), (0, t_1), (2, t)] ε μ → (kd ε t = 100) ∧ ((0 : Int) ≤ t_1 ∧ t_1 < ln ε t) ∧ ∀ μ_1 : m_M, μ_1 = st μ t t_1 t_2 → G cd_X12_gr4 Q X 96 [(0, (2, v0)), (5, (0, v5))] [] ε μ_1
  intro hty
  replace h := h hty.1 (hty.2.1 _ (List.mem_of_getElem? (i := 1) rfl)) (hty.2.2 _ (List.mem_of_getElem? (i := 1) rfl)) (hty.2.2 _ (List.mem_of_getElem? (i := 0) rfl))
  obtain ⟨k1, h⟩ := h
  refine And.intro k1 ?_
  obtain ⟨k2, h⟩ := h
  obtain ⟨k3, h⟩ := h
  refine And.intro (And.intro k2 k3) ?_
  intro μ_1 e_μ_1
  replace h := h μ_1 e_μ_1
  exact h
set_option maxRecDepth 20000 in
theorem g_X12_gr4_94 {Q X : m_Po} {v0 v5 t t_1 : Int} {ε : m_E} {μ : m_M} (h : TY ε μ → i32 v5 → i32 t_1 → G cd_X12_gr4 Q X 95 [(0, (2, v0)), (5, (0, v5))] [(0, 2), (0, t_1), (2, t)] ε μ) : G cd_X12_gr4 Q X 94 [(0, (2, v0)), (5, (0, v5))] [(0, t_1), (2, t)] ε μ := by
  refine G_run (m_in [16, 39, 54, 67, 70, 87, 90, 94, 95, 96, 112]) 20 _ _ _ _ ?_
  show m_ty [(0, (2, v0)), (5, (0, v5))] [(0, t_1), (2, t)] ε μ → G cd_X12_gr4 Q X 95 [(0, (2, v0)), (5, (0, v5))] [(0, 2), (0, t_1), (2, t)] ε μ
  intro hty
  replace h := h hty.1 (hty.2.1 _ (List.mem_of_getElem? (i := 1) rfl)) (hty.2.2 _ (List.mem_of_getElem? (i := 0) rfl))
  exact h
set_option maxRecDepth 20000 in
theorem g_X12_gr4_90 {Q X : m_Po} {v0 v5 t t_1 : Int} {ε : m_E} {μ : m_M} (h : TY ε μ → i32 v5 → i32 t_1 → G cd_X12_gr4 Q X 95 [(0, (2, v0)), (5, (0, v5))] [(0, 1), (0, t_1), (2, t)] ε μ) : G cd_X12_gr4 Q X 90 [(0, (2, v0)), (5, (0, v5))] [(0, t_1), (2, t)] ε μ := by
  refine G_run (m_in [16, 39, 54, 67, 70, 87, 90, 94, 95, 96, 112]) 20 _ _ _ _ ?_
  show m_ty [(0, (2, v0)), (5, (0, v5))] [(0, t_1), (2, t)] ε μ → G cd_X12_gr4 Q X 95 [(0, (2, v0)), (5, (0, v5))] [(0, 1), (0, t_1), (2, t)] ε μ
  intro hty
  replace h := h hty.1 (hty.2.1 _ (List.mem_of_getElem? (i := 1) rfl)) (hty.2.2 _ (List.mem_of_getElem? (i := 0) rfl))
  exact h
set_option maxRecDepth 20000 in
theorem g_X12_gr4_87 {Q X : m_Po} {v0 v5 t t_1 t_2 : Int} {ε : m_E} {μ : m_M} (h : TY ε μ → i32 v5 → i32 t_1 → i32 t_2 → (t_2 = 0 → G cd_X12_gr4 Q X 94 [(0, (2, v0)), (5, (0, v5))] [(0, t_1), (2, t)] ε μ) ∧ (t_2 ≠ 0 → G cd_X12_gr4 Q X 90 [(0, (2, v0)), (5, (0, v5))] [(0, t_1), (2, t)] ε μ)) : G cd_X12_gr4 Q X 87 [(0, (2, v0)), (5, (0, v5))] [(0, t_2), (0, t_1), (2, t)] ε μ := by
  refine G_run (m_in [16, 39, 54, 67, 70, 87, 90, 94, 95, 96, 112]) 20 _ _ _ _ ?_
  show m_ty [(0, (2, v0)), (5, (0, v5))] [(0, t_2), (0, t_1), (2, t)] ε μ → (t_2 = 0 → G cd_X12_gr4 Q X 94 [(0, (2, v0)), (5, (0, v5))] [(0, t_1), (2, t)] ε μ) ∧ (t_2 ≠ 0 → G cd_X12_gr4 Q X 90 [(0, (2, v0)), (5, (0, v5))] [(0, t_1), (2, t)] ε μ)
  intro hty
  replace h := h hty.1 (hty.2.1 _ (List.mem_of_getElem? (i := 1) rfl)) (hty.2.2 _ (List.mem_of_getElem? (i := 1) rfl)) (hty.2.2 _ (List.mem_of_getElem? (i := 0) rfl))
  obtain ⟨ha, hb⟩ := h
  refine And.intro (fun c0 => ?_) (fun c0 => ?_)
  · replace h := ha c0
    clear ha hb
    exact h
  · replace h := hb c0
    clear ha hb
    exact h
set_option maxRecDepth 20000 in
theorem g_X12_gr4_70 {Q X : m_Po} {v0 v1 v2 v3 v4 v5 t t_1 : Int} {ε : m_E} {μ : m_M} (h : TY ε μ → i32 v1 → i32 v2 → i32 v3 → i32 v4 → i32 v5 → i32 t_1 → ((w32 (v4 - 1)) ≤ v3 → G cd_X12_gr4 Q X 94 [(0, (2, v0)), (5, (0, v5))] [(0, t_1), (2, t)] ε μ) ∧ (v3 < (w32 (v4 - 1)) → kd ε v0 = 11 ∧ o_X12_gr3 [(2, v0), (0, v1), (0, v2), (0, w32 (v3 + 1))] ε μ (fun z ε_1 μ_1 => G cd_X12_gr4 Q X 87 [(0, (2, v0)), (5, (0, v5))] [(0, z), (0, t_1), (2, t)] ε_1 μ_1) m_F)) : G cd_X12_gr4 Q X 70 [(0, (2, v0)), (1, (0, v1)), (2, (0, v2)), (3, (0, v3)), (4, (0, v4)), (5, (0, v5))] [(0, t_1), (2, t)] ε μ := by
  refine G_run (m_in [16, 39, 54, 67, 70, 87, 90, 94, 95, 96, 112]) 20 _ _ _ _ ?_
  show m_ty [(0, (2, v0)), (1, (0, v1)), (2, (0, v2)), (3, (0, v3)), (4, (0, v4)), (5, (0, v5))] [(0, t_1), (2, t)] ε μ → ((w32 (v4 - 1)) ≤ v3 → G cd_X12_gr4 Q X 94 [(0, (2, v0)), (5, (0, v5))] [(0, t_1), (2, t)] ε μ) ∧ (v3 < (w32 (v4 - 1)) → (m_ty [(0, (2, v0)), (1, (0, v1)), (2, (0, v2)), (3, (0, v3)), (5, (0, v5))] [(0, t_1), (2, t)] ε μ → (kd ε v0 = 11) ∧ o_X12_gr3 [(2, v0), (0, v1), (0, v2), (0, w32 (v3 + 1))] ε μ (fun z ε_1 μ_1 => G cd_X12_gr4 Q X 87 [(0, (2, v0)), (5, (0, v5))] [(0, z), (0, t_1), (2, t)] ε_1 μ_1) m_F))
  intro hty
  replace h := h hty.1 (hty.2.1 _ (List.mem_of_getElem? (i := 1) rfl)) (hty.2.1 _ (List.mem_of_getElem? (i := 2) rfl)) (hty.2.1 _ (List.mem_of_getElem? (i := 3) rfl)) (hty.2.1 _ (List.mem_of_getElem? (i := 4) rfl)) (hty.2.1 _ (List.mem_of_getElem? (i := 5) rfl)) (hty.2.2 _ (List.mem_of_getElem? (i := 0) rfl))
  obtain ⟨ha, hb⟩ := h
  refine And.intro (fun c1 => ?_) (fun c1 => ?_)
  · replace h := ha c1
    clear ha hb
    exact h
  · replace h := hb c1
    clear ha hb
    intro _
    obtain ⟨k1, h⟩ := h
    refine And.intro k1 ?_
    exact h
set_option maxRecDepth 20000 in
theorem g_X12_gr4_67 {Q X : m_Po} {v0 v1 v2 v3 v4 v5 t t_1 t_2 : Int} {ε : m_E} {μ : m_M} (h : TY ε μ → i32 v1 → i32 v2 → i32 v3 → i32 v4 → i32 v5 → i32 t_1 → i32 t_2 → (t_2 ≠ 0 → G cd_X12_gr4 Q X 90 [(0, (2, v0)), (5, (0, v5))] [(0, t_1), (2, t)] ε μ) ∧ (t_2 = 0 → G cd_X12_gr4 Q X 70 [(0, (2, v0)), (1, (0, v1)), (2, (0, v2)), (3, (0, v3)), (4, (0, v4)), (5, (0, v5))] [(0, t_1), (2, t)] ε μ)) : G cd_X12_gr4 Q X 67 [(0, (2, v0)), (1, (0, v1)), (2, (0, v2)), (3, (0, v3)), (4, (0, v4)), (5, (0, v5))] [(0, t_2), (0, t_1), (2, t)] ε μ := by
  refine G_run (m_in [16, 39, 54, 67, 70, 87, 90, 94, 95, 96, 112]) 20 _ _ _ _ ?_
  show m_ty [(0, (2, v0)), (1, (0, v1)), (2, (0, v2)), (3, (0, v3)), (4, (0, v4)), (5, (0, v5))] [(0, t_2), (0, t_1), (2, t)] ε μ → (t_2 ≠ 0 → G cd_X12_gr4 Q X 90 [(0, (2, v0)), (5, (0, v5))] [(0, t_1), (2, t)] ε μ) ∧ (t_2 = 0 → G cd_X12_gr4 Q X 70 [(0, (2, v0)), (1, (0, v1)), (2, (0, v2)), (3, (0, v3)), (4, (0, v4)), (5, (0, v5))] [(0, t_1), (2, t)] ε μ)
  intro hty
  replace h := h hty.1 (hty.2.1 _ (List.mem_of_getElem? (i := 1) rfl)) (hty.2.1 _ (List.mem_of_getElem? (i := 2) rfl)) (hty.2.1 _ (List.mem_of_getElem? (i := 3) rfl)) (hty.2.1 _ (List.mem_of_getElem? (i := 4) rfl)) (hty.2.1 _ (List.mem_of_getElem? (i := 5) rfl)) (hty.2.2 _ (List.mem_of_getElem? (i := 1) rfl)) (hty.2.2 _ (List.mem_of_getElem? (i := 0) rfl))
  obtain ⟨ha, hb⟩ := h
  refine And.intro (fun c0 => ?_) (fun c0 => ?_)
  · replace h := ha c0
    clear ha hb
    exact h
  · replace h := hb c0
    clear ha hb
    exact h
set_option maxRecDepth 20000 in
theorem g_X12_gr4_54 {Q X : m_Po} {v0 v1 v2 v3 v4 v5 t t_1 : Int} {ε : m_E} {μ : m_M} (h : TY ε μ → i32 v1 → i32 v2 → i32 v3 → i32 v4 → i32 v5 → i32 t_1 → (v2 ≤ 0 → G cd_X12_gr4 Q X 70 [(0, (2, v0)), (1, (0, v1)), (2, (0, v2)), (3, (0, v3)), (4, (0, v4)), (5, (0, v5))] [(0, t_1), (2, t)] ε μ) ∧ (0 < v2 → kd ε v0 = 11 ∧ o_X12_gr3 [(2, v0), (0, v1), (0, w32 (v2 - 1)), (0, v3)] ε μ (fun z ε_1 μ_1 => G cd_X12_gr4 Q X 67 [(0, (2, v0)), (1, (0, v1)), (2, (0, v2)), (3, (0, v3)), (4, (0, v4)), (5, (0, v5))] [(0, z), (0, t_1), (2, t)] ε_1 μ_1) m_F)) : G cd_X12_gr4 Q X 54 [(0, (2, v0)), (1, (0, v1)), (2, (0, v2)), (3, (0, v3)), (4, (0, v4)), (5, (0, v5))] [(0, t_1), (2, t)] ε μ := by
  refine G_run (m_in [16, 39, 54, 67, 70, 87, 90, 94, 95, 96, 112]) 20 _ _ _ _ ?_
  show m_ty [(0, (2, v0)), (1, (0, v1)), (2, (0, v2)), (3, (0, v3)), (4, (0, v4)), (5, (0, v5))] [(0, t_1), (2, t)] ε μ → (v2 ≤ 0 → G cd_X12_gr4 Q X 70 [(0, (2, v0)), (1, (0, v1)), (2, (0, v2)), (3, (0, v3)), (4, (0, v4)), (5, (0, v5))] [(0, t_1), (2, t)] ε μ) ∧ (0 < v2 → (m_ty [(0, (2, v0)), (1, (0, v1)), (2, (0, v2)), (3, (0, v3)), (4, (0, v4)), (5, (0, v5))] [(0, t_1), (2, t)] ε μ → (kd ε v0 = 11) ∧ o_X12_gr3 [(2, v0), (0, v1), (0, w32 (v2 - 1)), (0, v3)] ε μ (fun z ε_1 μ_1 => G cd_X12_gr4 Q X 67 [(0, (2, v0)), (1, (0, v1)), (2, (0, v2)), (3, (0, v3)), (4, (0, v4)), (5, (0, v5))] [(0, z), (0, t_1), (2, t)] ε_1 μ_1) m_F))
  intro hty
  replace h := h hty.1 (hty.2.1 _ (List.mem_of_getElem? (i := 1) rfl)) (hty.2.1 _ (List.mem_of_getElem? (i := 2) rfl)) (hty.2.1 _ (List.mem_of_getElem? (i := 3) rfl)) (hty.2.1 _ (List.mem_of_getElem? (i := 4) rfl)) (hty.2.1 _ (List.mem_of_getElem? (i := 5) rfl)) (hty.2.2 _ (List.mem_of_getElem? (i := 0) rfl))
  obtain ⟨ha, hb⟩ := h
  refine And.intro (fun c1 => ?_) (fun c1 => ?_)
  · replace h := ha c1
    clear ha hb
    exact h
  · replace h := hb c1
    clear ha hb
    intro _
    obtain ⟨k1, h⟩ := h
    refine And.intro k1 ?_
    exact h
set_option maxRecDepth 20000 in
theorem g_X12_gr4_39 {Q X : m_Po} {v0 v1 v2 v3 v4 v5 t t_1 t_2 : Int} {ε : m_E} {μ : m_M} (h : TY ε μ → i32 v1 → i32 v2 → i32 v3 → i32 v4 → i32 v5 → i32 t_1 → i32 t_2 → (t_2 = 0 → G cd_X12_gr4 Q X 94 [(0, (2, v0)), (5, (0, v5))] [(0, t_1), (2, t)] ε μ) ∧ (t_2 ≠ 0 → (v2 ≠ 0 → G cd_X12_gr4 Q X 54 [(0, (2, v0)), (1, (0, v1)), (2, (0, v2)), (3, (0, v3)), (4, (0, v4)), (5, (0, v5))] [(0, t_1), (2, t)] ε μ) ∧ (v2 = 0 → (v3 = (w32 (v4 - 1)) → G cd_X12_gr4 Q X 90 [(0, (2, v0)), (5, (0, v5))] [(0, t_1), (2, t)] ε μ) ∧ (v3 ≠ (w32 (v4 - 1)) → G cd_X12_gr4 Q X 54 [(0, (2, v0)), (1, (0, v1)), (2, (0, v2)), (3, (0, v3)), (4, (0, v4)), (5, (0, v5))] [(0, t_1), (2, t)] ε μ)))) : G cd_X12_gr4 Q X 39 [(0, (2, v0)), (1, (0, v1)), (2, (0, v2)), (3, (0, v3)), (4, (0, v4)), (5, (0, v5))] [(0, t_2), (0, t_1), (2, t)] ε μ := by
  refine G_run (m_in [16, 39, 54, 67, 70, 87, 90, 94, 95, 96, 112]) 20 _ _ _ _ ?_
  show m_ty [(0, (2, v0)), (1, (0, v1)), (2, (0, v2)), (3, (0, v3)), (4, (0, v4)), (5, (0, v5))] [(0, t_2), (0, t_1), (2, t)] ε μ → (t_2 = 0 → G cd_X12_gr4 Q X 94 [(0, (2, v0)), (5, (0, v5))] [(0, t_1), (2, t)] ε μ) ∧ (t_2 ≠ 0 → (m_ty [(0, (2, v0)), (1, (0, v1)), (2, (0, v2)), (3, (0, v3)), (4, (0, v4)), (5, (0, v5))] [(0, t_1), (2, t)] ε μ → (v2 ≠ 0 → G cd_X12_gr4 Q X 54 [(0, (2, v0)), (1, (0, v1)), (2, (0, v2)), (3, (0, v3)), (4, (0, v4)), (5, (0, v5))] [(0, t_1), (2, t)] ε μ) ∧ (v2 = 0 → (m_ty [(0, (2, v0)), (1, (0, v1)), (2, (0, v2)), (3, (0, v3)), (4, (0, v4)), (5, (0, v5))] [(0, t_1), (2, t)] ε μ → (v3 = (w32 (v4 - 1)) → G cd_X12_gr4 Q X 90 [(0, (2, v0)), (5, (0, v5))] [(0, t_1), (2, t)] ε μ) ∧ (v3 ≠ (w32 (v4 - 1)) → G cd_X12_gr4 Q X 54 [(0, (2, v0)), (1, (0, v1)), (2, (0, v2)), (3, (0, v3)), (4, (0, v4)), (5, (0, v5))] [(0, t_1), (2, t)] ε μ)))))
  intro hty
  replace h := h hty.1 (hty.2.1 _ (List.mem_of_getElem? (i := 1) rfl)) (hty.2.1 _ (List.mem_of_getElem? (i := 2) rfl)) (hty.2.1 _ (List.mem_of_getElem? (i := 3) rfl)) (hty.2.1 _ (List.mem_of_getElem? (i := 4) rfl)) (hty.2.1 _ (List.mem_of_getElem? (i := 5) rfl)) (hty.2.2 _ (List.mem_of_getElem? (i := 1) rfl)) (hty.2.2 _ (List.mem_of_getElem? (i := 0) rfl))
  obtain ⟨ha, hb⟩ := h
  refine And.intro (fun c2 => ?_) (fun c2 => ?_)
  · replace h := ha c2
    clear ha hb
    exact h
  · replace h := hb c2
    clear ha hb
    intro _
    obtain ⟨ha, hb⟩ := h
    refine And.intro (fun c1 => ?_) (fun c1 => ?_)
    · replace h := ha c1
      clear ha hb
      exact h
    · replace h := hb c1
      clear ha hb
      intro _
      obtain ⟨ha, hb⟩ := h
      refine And.intro (fun c0 => ?_) (fun c0 => ?_)
      · replace h := ha c0
        clear ha hb
        exact h
      · replace h := hb c0
        clear ha hb
        exact h
set_option maxRecDepth 20000 in
theorem g_X12_gr4_16 {Q X : m_Po} {v0 v1 v2 v3 v4 v5 : Int} {ε : m_E} {μ : m_M} (h : TY ε μ → i32 v1 → i32 v2 → i32 v3 → i32 v4 → i32 v5 → kd ε v0 = 11 ∧ kd ε (fn ε v0 65) = 100 ∧ (0 : Int) ≤ v5 ∧ v5 < ln ε (fn ε v0 65) ∧ ((μ (fn ε v0 65) v5) ≠ 0 → G cd_X12_gr4 Q X 96 [(0, (2, v0)), (5, (0, v5))] [] ε μ) ∧ ((μ (fn ε v0 65) v5) = 0 → o_X12_strikes [(2, v0), (0, v1), (0, v2), (0, v3)] ε μ (fun z ε_1 μ_1 => G cd_X12_gr4 Q X 39 [(0, (2, v0)), (1, (0, v1)), (2, (0, v2)), (3, (0, v3)), (4, (0, v4)), (5, (0, v5))] [(0, z), (0, v5), (2, fn ε v0 65)] ε_1 μ_1) m_F)) : G cd_X12_gr4 Q X 16 [(0, (2, v0)), (1, (0, v1)), (2, (0, v2)), (3, (0, v3)), (4, (0, v4)), (5, (0, v5))] [] ε μ := by
  refine G_run (m_in [16, 39, 54, 67, 70, 87, 90, 94, 95, 96, 112]) 20 _ _ _ _ ?_
  show m_ty [(0, (2, v0)), (1, (0, v1)), (2, (0, v2)), (3, (0, v3)), (4, (0, v4)), (5, (0, v5))] [] ε μ → (kd ε v0 = 11) ∧ (kd ε (fn ε v0 65) = 100) ∧ ((0 : Int) ≤ v5 ∧ v5 < ln ε (fn ε v0 65)) ∧ ((μ (fn ε v0 65) v5) ≠ 0 → G cd_X12_gr4 Q X 96 [(0, (2, v0)), (5, (0, v5))] [] ε μ) ∧ ((μ (fn ε v0 65) v5) = 0 → (m_ty [(0, (2, v0)), (1, (0, v1)), (2, (0, v2)), (3, (0, v3)), (4, (0, v4)), (5, (0, v5))] [] ε μ → (kd ε v0 = 11) ∧ (kd ε v0 = 11) ∧ o_X12_strikes [(2, v0), (0, v1), (0, v2), (0, v3)] ε μ (fun z ε_1 μ_1 => G cd_X12_gr4 Q X 39 [(0, (2, v0)), (1, (0, v1)), (2, (0, v2)), (3, (0, v3)), (4, (0, v4)), (5, (0, v5))] [(0, z), (0, v5), (2, fn ε v0 65)] ε_1 μ_1) m_F))
  intro hty
  replace h := h hty.1 (hty.2.1 _ (List.mem_of_getElem? (i := 1) rfl)) (hty.2.1 _ (List.mem_of_getElem? (i := 2) rfl)) (hty.2.1 _ (List.mem_of_getElem? (i := 3) rfl)) (hty.2.1 _ (List.mem_of_getElem? (i := 4) rfl)) (hty.2.1 _ (List.mem_of_getElem? (i := 5) rfl))
  obtain ⟨k1, h⟩ := h
  refine And.intro k1 ?_
  obtain ⟨k2, h⟩ := h
  refine And.intro k2 ?_
  obtain ⟨k3, h⟩ := h
  obtain ⟨k4, h⟩ := h
  refine And.intro (And.intro k3 k4) ?_
  obtain ⟨ha, hb⟩ := h
  refine And.intro (fun c4 => ?_) (fun c4 => ?_)
  · replace h := ha c4
    clear ha hb
    exact h
  · replace h := hb c4
    clear ha hb
    intro _
    refine And.intro k1 ?_
    refine And.intro k1 ?_
    exact h
set_option maxRecDepth 20000 in
theorem g_X12_gr4_0 {Q X : m_Po} {v0 v1 v2 v3 : Int} {ε : m_E} {μ : m_M} (h : TY ε μ → i32 v1 → i32 v2 → i32 v3 → kd ε v0 = 11 ∧ kd ε (fn ε v0 17) = 100 ∧ (0 : Int) ≤ v1 ∧ v1 < ln ε (fn ε v0 17) ∧ ∀ v4 : Int, v4 = μ (fn ε v0 17) v1 → ∀ v5 : Int, v5 = w32 ((w32 (10 * v2)) + v3) → kd ε v0 = 11 ∧ kd ε (fn ε v0 65) = 100 ∧ (0 : Int) ≤ v5 ∧ v5 < ln ε (fn ε v0 65) ∧ ((μ (fn ε v0 65) v5) ≠ 0 → G cd_X12_gr4 Q X 96 [(0, (2, v0)), (5, (0, v5))] [] ε μ) ∧ ((μ (fn ε v0 65) v5) = 0 → o_X12_strikes [(2, v0), (0, v1), (0, v2), (0, v3)] ε μ (fun z ε_1 μ_1 => G cd_X12_gr4 Q X 39 [(0, (2, v0)), (1, (0, v1)), (2, (0, v2)), (3, (0, v3)), (4, (0, v4)), (5, (0, v5))] [(0, z), (0, v5), (2, fn ε v0 65)] ε_1 μ_1) m_F)) : G cd_X12_gr4 Q X 0 [(0, (2, v0)), (1, (0, v1)), (2, (0, v2)), (3, (0, v3))] [] ε μ := by
  refine G_run (m_in [16, 39, 54, 67, 70, 87, 90, 94, 95, 96, 112]) 20 _ _ _ _ ?_
  show m_ty [(0, (2, v0)), (1, (0, v1)), (2, (0, v2)), (3, (0, v3))] [] ε μ → (kd ε v0 = 11) ∧ (kd ε (fn ε v0 17) = 100) ∧ ((0 : Int) ≤ v1 ∧ v1 < ln ε (fn ε v0 17)) ∧ ∀ v4 : Int, v4 = μ (fn ε v0 17) v1 → ∀ v5 : Int, v5 = w32 ((w32 (10 * v2)) + v3) → G cd_X12_gr4 Q X 16 [(0, (2, v0)), (1, (0, v1)), (2, (0, v2)), (3, (0, v3)), (4, (0, v4)), (5, (0, v5))] [] ε μ
  intro hty
  replace h := h hty.1 (hty.2.1 _ (List.mem_of_getElem? (i := 1) rfl)) (hty.2.1 _ (List.mem_of_getElem? (i := 2) rfl)) (hty.2.1 _ (List.mem_of_getElem? (i := 3) rfl))
  obtain ⟨k1, h⟩ := h
  refine And.intro k1 ?_
  obtain ⟨k2, h⟩ := h
  refine And.intro k2 ?_
  obtain ⟨k3, h⟩ := h
  obtain ⟨k4, h⟩ := h
  refine And.intro (And.intro k3 k4) ?_
  intro v4 e_v4
  replace h := h v4 e_v4
  intro v5 e_v5
  replace h := h v5 e_v5
  exact g_X12_gr4_16 (fun _ _ _ _ _ _ => h)
theorem e_X12_gr4 {Q X : m_Po} {v0 v1 v2 v3 : Int} {ε : m_E} {μ : m_M} (h : TY ε μ → i32 v1 → i32 v2 → i32 v3 → kd ε v0 = 11 ∧ kd ε (fn ε v0 17) = 100 ∧ (0 : Int) ≤ v1 ∧ v1 < ln ε (fn ε v0 17) ∧ ∀ v4 : Int, v4 = μ (fn ε v0 17) v1 → ∀ v5 : Int, v5 = w32 ((w32 (10 * v2)) + v3) → kd ε v0 = 11 ∧ kd ε (fn ε v0 65) = 100 ∧ (0 : Int) ≤ v5 ∧ v5 < ln ε (fn ε v0 65) ∧ ((μ (fn ε v0 65) v5) ≠ 0 → G cd_X12_gr4 Q X 96 [(0, (2, v0)), (5, (0, v5))] [] ε μ) ∧ ((μ (fn ε v0 65) v5) = 0 → o_X12_strikes [(2, v0), (0, v1), (0, v2), (0, v3)] ε μ (fun z ε_1 μ_1 => G cd_X12_gr4 Q X 39 [(0, (2, v0)), (1, (0, v1)), (2, (0, v2)), (3, (0, v3)), (4, (0, v4)), (5, (0, v5))] [(0, z), (0, v5), (2, fn ε v0 65)] ε_1 μ_1) m_F)) : o_X12_gr4 [(2, v0), (0, v1), (0, v2), (0, v3)] ε μ Q X := And.intro rfl (g_X12_gr4_0 h)
/-! ArchYardModel.grows(III)Z -/
set_option maxRecDepth 20000 in
theorem g_X12_gr5_112 {Q X : m_Po} {t : Int} {ε : m_E} {μ : m_M} (h : TY ε μ → i32 t → (t = 0 ∨ t = 1) ∧ Q t ε μ) : G cd_X12_gr5 Q X 112 [] [(0, t)] ε μ := by
  refine G_run (m_in [16, 39, 54, 67, 70, 87, 90, 94, 95, 96, 112]) 20 _ _ _ _ ?_
  show m_ty [] [(0, t)] ε μ → (t = 0 ∨ t = 1) ∧ Q t ε μ
  intro hty
  replace h := h hty.1 (hty.2.2 _ (List.mem_of_getElem? (i := 0) rfl))
  obtain ⟨k1, h⟩ := h
  refine And.intro k1 ?_
  exact h
set_option maxRecDepth 20000 in
theorem g_X12_gr5_96 {Q X : m_Po} {v0 v5 : Int} {ε : m_E} {μ : m_M} (h : TY ε μ → i32 v5 → kd ε v0 = 11 ∧ kd ε (fn ε v0 65) = 100 ∧ (0 : Int) ≤ v5 ∧ v5 < ln ε (fn ε v0 65) ∧ ∀ t : Int, t = (if (μ (fn ε v0 65) v5) = (1 : Int) then 1 else 0) → Q t ε μ) : G cd_X12_gr5 Q X 96 [(0, (2, v0)), (5, (0, v5))] [] ε μ := by
  refine G_run (m_in [16, 39, 54, 67, 70, 87, 90, 94, 95, 96, 112]) 20 _ _ _ _ ?_
  show m_ty [(0, (2, v0)), (5, (0, v5))] [] ε μ → (kd ε v0 = 11) ∧ (kd ε (fn ε v0 65) = 100) ∧ ((0 : Int) ≤ v5 ∧ v5 < ln ε (fn ε v0 65)) ∧ ((μ (fn ε v0 65) v5) ≠ (1 : Int) → (m_ty [] [] ε μ → G cd_X12_gr5 Q X 112 [] [(0, 0)] ε μ)) ∧ ((μ (fn ε v0 65) v5) = (1 : Int) → (m_ty [] [] ε μ → G cd_X12_gr5 Q X 112 [] [(0, 1)] ε μ))
  intro hty
  replace h := h hty.1 (hty.2.1 _ (List.mem_of_getElem? (i := 1) rfl))
  obtain ⟨k1, h⟩ := h
  refine And.intro k1 ?_
  obtain ⟨k2, h⟩ := h
  refine And.intro k2 ?_
  obtain ⟨k3, h⟩ := h
  obtain ⟨k4, h⟩ := h
  refine And.intro (And.intro k3 k4) ?_
  have hj := h
  refine And.intro (fun c4 => ?_) (fun c4 => ?_)
  · intro _
    exact g_X12_gr5_112 (fun _ _ => (And.intro (Or.inl rfl) (hj _ (((if_neg (c4)).trans rfl)).symm)))
  · intro _
    exact g_X12_gr5_112 (fun _ _ => (And.intro (Or.inr rfl) (hj _ (((if_pos c4).trans rfl)).symm)))
set_option maxRecDepth 20000 in
theorem g_X12_gr5_95 {Q X : m_Po} {v0 v5 t t_1 t_2 : Int} {ε : m_E} {μ : m_M} (h : TY ε μ → i32 v5 → i32 t_1 → i32 t_2 → kd ε t = 100 ∧ (0 : Int) ≤ t_1 ∧ t_1 < ln ε t ∧ ∀ μ_1 : m_M, μ_1 = st μ t t_1 t_2 → G cd_X12_gr5 Q X 96 [(0, (2, v0)), (5, (0, v5))] [] ε μ_1) : G cd_X12_gr5 Q X 95 [(0, (2, v0)), (5, (0, v5))] [(0, t_2), (0, t_1), (2, t)] ε μ := by
  refine G_run (m_in [16, 39, 54, 67, 70, 87, 90, 94, 95, 96, 112]) 20 _ _ _ _ ?_
  show m_ty [(0, (2, v0)), (5, (0, v5))] [(0, t_2), (0, t_1), (2, t)] ε μ → (kd ε t = 100) ∧ ((0 : Int) ≤ t_1 ∧ t_1 < ln ε t) ∧ ∀ μ_1 : m_M, μ_1 = st μ t t_1 t_2 → G cd_X12_gr5 Q X 96 [(0, (2, v0)), (5, (0, v5))] [] ε μ_1
  intro hty
  replace h := h hty.1 (hty.2.1 _ (List.mem_of_getElem? (i := 1) rfl)) (hty.2.2 _ (List.mem_of_getElem? (i := 1) rfl)) (hty.2.2 _ (List.mem_of_getElem? (i := 0) rfl))
  obtain ⟨k1, h⟩ := h
  refine And.intro k1 ?_
  obtain ⟨k2, h⟩ := h
  obtain ⟨k3, h⟩ := h
  refine And.intro (And.intro k2 k3) ?_
  intro μ_1 e_μ_1
  replace h := h μ_1 e_μ_1
  exact h
set_option maxRecDepth 20000 in
theorem g_X12_gr5_94 {Q X : m_Po} {v0 v5 t t_1 : Int} {ε : m_E} {μ : m_M} (h : TY ε μ → i32 v5 → i32 t_1 → G cd_X12_gr5 Q X 95 [(0, (2, v0)), (5, (0, v5))] [(0, 2), (0, t_1), (2, t)] ε μ) : G cd_X12_gr5 Q X 94 [(0, (2, v0)), (5, (0, v5))] [(0, t_1), (2, t)] ε μ := by
  refine G_run (m_in [16, 39, 54, 67, 70, 87, 90, 94, 95, 96, 112]) 20 _ _ _ _ ?_
  show m_ty [(0, (2, v0)), (5, (0, v5))] [(0, t_1), (2, t)] ε μ → G cd_X12_gr5 Q X 95 [(0, (2, v0)), (5, (0, v5))] [(0, 2), (0, t_1), (2, t)] ε μ
  intro hty
  replace h := h hty.1 (hty.2.1 _ (List.mem_of_getElem? (i := 1) rfl)) (hty.2.2 _ (List.mem_of_getElem? (i := 0) rfl))
  exact h
set_option maxRecDepth 20000 in
theorem g_X12_gr5_90 {Q X : m_Po} {v0 v5 t t_1 : Int} {ε : m_E} {μ : m_M} (h : TY ε μ → i32 v5 → i32 t_1 → G cd_X12_gr5 Q X 95 [(0, (2, v0)), (5, (0, v5))] [(0, 1), (0, t_1), (2, t)] ε μ) : G cd_X12_gr5 Q X 90 [(0, (2, v0)), (5, (0, v5))] [(0, t_1), (2, t)] ε μ := by
  refine G_run (m_in [16, 39, 54, 67, 70, 87, 90, 94, 95, 96, 112]) 20 _ _ _ _ ?_
  show m_ty [(0, (2, v0)), (5, (0, v5))] [(0, t_1), (2, t)] ε μ → G cd_X12_gr5 Q X 95 [(0, (2, v0)), (5, (0, v5))] [(0, 1), (0, t_1), (2, t)] ε μ
  intro hty
  replace h := h hty.1 (hty.2.1 _ (List.mem_of_getElem? (i := 1) rfl)) (hty.2.2 _ (List.mem_of_getElem? (i := 0) rfl))
  exact h
set_option maxRecDepth 20000 in
theorem g_X12_gr5_87 {Q X : m_Po} {v0 v5 t t_1 t_2 : Int} {ε : m_E} {μ : m_M} (h : TY ε μ → i32 v5 → i32 t_1 → i32 t_2 → (t_2 = 0 → G cd_X12_gr5 Q X 94 [(0, (2, v0)), (5, (0, v5))] [(0, t_1), (2, t)] ε μ) ∧ (t_2 ≠ 0 → G cd_X12_gr5 Q X 90 [(0, (2, v0)), (5, (0, v5))] [(0, t_1), (2, t)] ε μ)) : G cd_X12_gr5 Q X 87 [(0, (2, v0)), (5, (0, v5))] [(0, t_2), (0, t_1), (2, t)] ε μ := by
  refine G_run (m_in [16, 39, 54, 67, 70, 87, 90, 94, 95, 96, 112]) 20 _ _ _ _ ?_
  show m_ty [(0, (2, v0)), (5, (0, v5))] [(0, t_2), (0, t_1), (2, t)] ε μ → (t_2 = 0 → G cd_X12_gr5 Q X 94 [(0, (2, v0)), (5, (0, v5))] [(0, t_1), (2, t)] ε μ) ∧ (t_2 ≠ 0 → G cd_X12_gr5 Q X 90 [(0, (2, v0)), (5, (0, v5))] [(0, t_1), (2, t)] ε μ)
  intro hty
  replace h := h hty.1 (hty.2.1 _ (List.mem_of_getElem? (i := 1) rfl)) (hty.2.2 _ (List.mem_of_getElem? (i := 1) rfl)) (hty.2.2 _ (List.mem_of_getElem? (i := 0) rfl))
  obtain ⟨ha, hb⟩ := h
  refine And.intro (fun c0 => ?_) (fun c0 => ?_)
  · replace h := ha c0
    clear ha hb
    exact h
  · replace h := hb c0
    clear ha hb
    exact h
set_option maxRecDepth 20000 in
theorem g_X12_gr5_70 {Q X : m_Po} {v0 v1 v2 v3 v4 v5 t t_1 : Int} {ε : m_E} {μ : m_M} (h : TY ε μ → i32 v1 → i32 v2 → i32 v3 → i32 v4 → i32 v5 → i32 t_1 → ((w32 (v4 - 1)) ≤ v3 → G cd_X12_gr5 Q X 94 [(0, (2, v0)), (5, (0, v5))] [(0, t_1), (2, t)] ε μ) ∧ (v3 < (w32 (v4 - 1)) → kd ε v0 = 11 ∧ o_X12_gr4 [(2, v0), (0, v1), (0, v2), (0, w32 (v3 + 1))] ε μ (fun z ε_1 μ_1 => G cd_X12_gr5 Q X 87 [(0, (2, v0)), (5, (0, v5))] [(0, z), (0, t_1), (2, t)] ε_1 μ_1) m_F)) : G cd_X12_gr5 Q X 70 [(0, (2, v0)), (1, (0, v1)), (2, (0, v2)), (3, (0, v3)), (4, (0, v4)), (5, (0, v5))] [(0, t_1), (2, t)] ε μ := by
  refine G_run (m_in [16, 39, 54, 67, 70, 87, 90, 94, 95, 96, 112]) 20 _ _ _ _ ?_
  show m_ty [(0, (2, v0)), (1, (0, v1)), (2, (0, v2)), (3, (0, v3)), (4, (0, v4)), (5, (0, v5))] [(0, t_1), (2, t)] ε μ → ((w32 (v4 - 1)) ≤ v3 → G cd_X12_gr5 Q X 94 [(0, (2, v0)), (5, (0, v5))] [(0, t_1), (2, t)] ε μ) ∧ (v3 < (w32 (v4 - 1)) → (m_ty [(0, (2, v0)), (1, (0, v1)), (2, (0, v2)), (3, (0, v3)), (5, (0, v5))] [(0, t_1), (2, t)] ε μ → (kd ε v0 = 11) ∧ o_X12_gr4 [(2, v0), (0, v1), (0, v2), (0, w32 (v3 + 1))] ε μ (fun z ε_1 μ_1 => G cd_X12_gr5 Q X 87 [(0, (2, v0)), (5, (0, v5))] [(0, z), (0, t_1), (2, t)] ε_1 μ_1) m_F))
  intro hty
  replace h := h hty.1 (hty.2.1 _ (List.mem_of_getElem? (i := 1) rfl)) (hty.2.1 _ (List.mem_of_getElem? (i := 2) rfl)) (hty.2.1 _ (List.mem_of_getElem? (i := 3) rfl)) (hty.2.1 _ (List.mem_of_getElem? (i := 4) rfl)) (hty.2.1 _ (List.mem_of_getElem? (i := 5) rfl)) (hty.2.2 _ (List.mem_of_getElem? (i := 0) rfl))
  obtain ⟨ha, hb⟩ := h
  refine And.intro (fun c1 => ?_) (fun c1 => ?_)
  · replace h := ha c1
    clear ha hb
    exact h
  · replace h := hb c1
    clear ha hb
    intro _
    obtain ⟨k1, h⟩ := h
    refine And.intro k1 ?_
    exact h
set_option maxRecDepth 20000 in
theorem g_X12_gr5_67 {Q X : m_Po} {v0 v1 v2 v3 v4 v5 t t_1 t_2 : Int} {ε : m_E} {μ : m_M} (h : TY ε μ → i32 v1 → i32 v2 → i32 v3 → i32 v4 → i32 v5 → i32 t_1 → i32 t_2 → (t_2 ≠ 0 → G cd_X12_gr5 Q X 90 [(0, (2, v0)), (5, (0, v5))] [(0, t_1), (2, t)] ε μ) ∧ (t_2 = 0 → G cd_X12_gr5 Q X 70 [(0, (2, v0)), (1, (0, v1)), (2, (0, v2)), (3, (0, v3)), (4, (0, v4)), (5, (0, v5))] [(0, t_1), (2, t)] ε μ)) : G cd_X12_gr5 Q X 67 [(0, (2, v0)), (1, (0, v1)), (2, (0, v2)), (3, (0, v3)), (4, (0, v4)), (5, (0, v5))] [(0, t_2), (0, t_1), (2, t)] ε μ := by
  refine G_run (m_in [16, 39, 54, 67, 70, 87, 90, 94, 95, 96, 112]) 20 _ _ _ _ ?_
  show m_ty [(0, (2, v0)), (1, (0, v1)), (2, (0, v2)), (3, (0, v3)), (4, (0, v4)), (5, (0, v5))] [(0, t_2), (0, t_1), (2, t)] ε μ → (t_2 ≠ 0 → G cd_X12_gr5 Q X 90 [(0, (2, v0)), (5, (0, v5))] [(0, t_1), (2, t)] ε μ) ∧ (t_2 = 0 → G cd_X12_gr5 Q X 70 [(0, (2, v0)), (1, (0, v1)), (2, (0, v2)), (3, (0, v3)), (4, (0, v4)), (5, (0, v5))] [(0, t_1), (2, t)] ε μ)
  intro hty
  replace h := h hty.1 (hty.2.1 _ (List.mem_of_getElem? (i := 1) rfl)) (hty.2.1 _ (List.mem_of_getElem? (i := 2) rfl)) (hty.2.1 _ (List.mem_of_getElem? (i := 3) rfl)) (hty.2.1 _ (List.mem_of_getElem? (i := 4) rfl)) (hty.2.1 _ (List.mem_of_getElem? (i := 5) rfl)) (hty.2.2 _ (List.mem_of_getElem? (i := 1) rfl)) (hty.2.2 _ (List.mem_of_getElem? (i := 0) rfl))
  obtain ⟨ha, hb⟩ := h
  refine And.intro (fun c0 => ?_) (fun c0 => ?_)
  · replace h := ha c0
    clear ha hb
    exact h
  · replace h := hb c0
    clear ha hb
    exact h
set_option maxRecDepth 20000 in
theorem g_X12_gr5_54 {Q X : m_Po} {v0 v1 v2 v3 v4 v5 t t_1 : Int} {ε : m_E} {μ : m_M} (h : TY ε μ → i32 v1 → i32 v2 → i32 v3 → i32 v4 → i32 v5 → i32 t_1 → (v2 ≤ 0 → G cd_X12_gr5 Q X 70 [(0, (2, v0)), (1, (0, v1)), (2, (0, v2)), (3, (0, v3)), (4, (0, v4)), (5, (0, v5))] [(0, t_1), (2, t)] ε μ) ∧ (0 < v2 → kd ε v0 = 11 ∧ o_X12_gr4 [(2, v0), (0, v1), (0, w32 (v2 - 1)), (0, v3)] ε μ (fun z ε_1 μ_1 => G cd_X12_gr5 Q X 67 [(0, (2, v0)), (1, (0, v1)), (2, (0, v2)), (3, (0, v3)), (4, (0, v4)), (5, (0, v5))] [(0, z), (0, t_1), (2, t)] ε_1 μ_1) m_F)) : G cd_X12_gr5 Q X 54 [(0, (2, v0)), (1, (0, v1)), (2, (0, v2)), (3, (0, v3)), (4, (0, v4)), (5, (0, v5))] [(0, t_1), (2, t)] ε μ := by
  refine G_run (m_in [16, 39, 54, 67, 70, 87, 90, 94, 95, 96, 112]) 20 _ _ _ _ ?_
  show m_ty [(0, (2, v0)), (1, (0, v1)), (2, (0, v2)), (3, (0, v3)), (4, (0, v4)), (5, (0, v5))] [(0, t_1), (2, t)] ε μ → (v2 ≤ 0 → G cd_X12_gr5 Q X 70 [(0, (2, v0)), (1, (0, v1)), (2, (0, v2)), (3, (0, v3)), (4, (0, v4)), (5, (0, v5))] [(0, t_1), (2, t)] ε μ) ∧ (0 < v2 → (m_ty [(0, (2, v0)), (1, (0, v1)), (2, (0, v2)), (3, (0, v3)), (4, (0, v4)), (5, (0, v5))] [(0, t_1), (2, t)] ε μ → (kd ε v0 = 11) ∧ o_X12_gr4 [(2, v0), (0, v1), (0, w32 (v2 - 1)), (0, v3)] ε μ (fun z ε_1 μ_1 => G cd_X12_gr5 Q X 67 [(0, (2, v0)), (1, (0, v1)), (2, (0, v2)), (3, (0, v3)), (4, (0, v4)), (5, (0, v5))] [(0, z), (0, t_1), (2, t)] ε_1 μ_1) m_F))
  intro hty
  replace h := h hty.1 (hty.2.1 _ (List.mem_of_getElem? (i := 1) rfl)) (hty.2.1 _ (List.mem_of_getElem? (i := 2) rfl)) (hty.2.1 _ (List.mem_of_getElem? (i := 3) rfl)) (hty.2.1 _ (List.mem_of_getElem? (i := 4) rfl)) (hty.2.1 _ (List.mem_of_getElem? (i := 5) rfl)) (hty.2.2 _ (List.mem_of_getElem? (i := 0) rfl))
  obtain ⟨ha, hb⟩ := h
  refine And.intro (fun c1 => ?_) (fun c1 => ?_)
  · replace h := ha c1
    clear ha hb
    exact h
  · replace h := hb c1
    clear ha hb
    intro _
    obtain ⟨k1, h⟩ := h
    refine And.intro k1 ?_
    exact h
set_option maxRecDepth 20000 in
theorem g_X12_gr5_39 {Q X : m_Po} {v0 v1 v2 v3 v4 v5 t t_1 t_2 : Int} {ε : m_E} {μ : m_M} (h : TY ε μ → i32 v1 → i32 v2 → i32 v3 → i32 v4 → i32 v5 → i32 t_1 → i32 t_2 → (t_2 = 0 → G cd_X12_gr5 Q X 94 [(0, (2, v0)), (5, (0, v5))] [(0, t_1), (2, t)] ε μ) ∧ (t_2 ≠ 0 → (v2 ≠ 0 → G cd_X12_gr5 Q X 54 [(0, (2, v0)), (1, (0, v1)), (2, (0, v2)), (3, (0, v3)), (4, (0, v4)), (5, (0, v5))] [(0, t_1), (2, t)] ε μ) ∧ (v2 = 0 → (v3 = (w32 (v4 - 1)) → G cd_X12_gr5 Q X 90 [(0, (2, v0)), (5, (0, v5))] [(0, t_1), (2, t)] ε μ) ∧ (v3 ≠ (w32 (v4 - 1)) → G cd_X12_gr5 Q X 54 [(0, (2, v0)), (1, (0, v1)), (2, (0, v2)), (3, (0, v3)), (4, (0, v4)), (5, (0, v5))] [(0, t_1), (2, t)] ε μ)))) : G cd_X12_gr5 Q X 39 [(0, (2, v0)), (1, (0, v1)), (2, (0, v2)), (3, (0, v3)), (4, (0, v4)), (5, (0, v5))] [(0, t_2), (0, t_1), (2, t)] ε μ := by
  refine G_run (m_in [16, 39, 54, 67, 70, 87, 90, 94, 95, 96, 112]) 20 _ _ _ _ ?_
  show m_ty [(0, (2, v0)), (1, (0, v1)), (2, (0, v2)), (3, (0, v3)), (4, (0, v4)), (5, (0, v5))] [(0, t_2), (0, t_1), (2, t)] ε μ → (t_2 = 0 → G cd_X12_gr5 Q X 94 [(0, (2, v0)), (5, (0, v5))] [(0, t_1), (2, t)] ε μ) ∧ (t_2 ≠ 0 → (m_ty [(0, (2, v0)), (1, (0, v1)), (2, (0, v2)), (3, (0, v3)), (4, (0, v4)), (5, (0, v5))] [(0, t_1), (2, t)] ε μ → (v2 ≠ 0 → G cd_X12_gr5 Q X 54 [(0, (2, v0)), (1, (0, v1)), (2, (0, v2)), (3, (0, v3)), (4, (0, v4)), (5, (0, v5))] [(0, t_1), (2, t)] ε μ) ∧ (v2 = 0 → (m_ty [(0, (2, v0)), (1, (0, v1)), (2, (0, v2)), (3, (0, v3)), (4, (0, v4)), (5, (0, v5))] [(0, t_1), (2, t)] ε μ → (v3 = (w32 (v4 - 1)) → G cd_X12_gr5 Q X 90 [(0, (2, v0)), (5, (0, v5))] [(0, t_1), (2, t)] ε μ) ∧ (v3 ≠ (w32 (v4 - 1)) → G cd_X12_gr5 Q X 54 [(0, (2, v0)), (1, (0, v1)), (2, (0, v2)), (3, (0, v3)), (4, (0, v4)), (5, (0, v5))] [(0, t_1), (2, t)] ε μ)))))
  intro hty
  replace h := h hty.1 (hty.2.1 _ (List.mem_of_getElem? (i := 1) rfl)) (hty.2.1 _ (List.mem_of_getElem? (i := 2) rfl)) (hty.2.1 _ (List.mem_of_getElem? (i := 3) rfl)) (hty.2.1 _ (List.mem_of_getElem? (i := 4) rfl)) (hty.2.1 _ (List.mem_of_getElem? (i := 5) rfl)) (hty.2.2 _ (List.mem_of_getElem? (i := 1) rfl)) (hty.2.2 _ (List.mem_of_getElem? (i := 0) rfl))
  obtain ⟨ha, hb⟩ := h
  refine And.intro (fun c2 => ?_) (fun c2 => ?_)
  · replace h := ha c2
    clear ha hb
    exact h
  · replace h := hb c2
    clear ha hb
    intro _
    obtain ⟨ha, hb⟩ := h
    refine And.intro (fun c1 => ?_) (fun c1 => ?_)
    · replace h := ha c1
      clear ha hb
      exact h
    · replace h := hb c1
      clear ha hb
      intro _
      obtain ⟨ha, hb⟩ := h
      refine And.intro (fun c0 => ?_) (fun c0 => ?_)
      · replace h := ha c0
        clear ha hb
        exact h
      · replace h := hb c0
        clear ha hb
        exact h
set_option maxRecDepth 20000 in
theorem g_X12_gr5_16 {Q X : m_Po} {v0 v1 v2 v3 v4 v5 : Int} {ε : m_E} {μ : m_M} (h : TY ε μ → i32 v1 → i32 v2 → i32 v3 → i32 v4 → i32 v5 → kd ε v0 = 11 ∧ kd ε (fn ε v0 65) = 100 ∧ (0 : Int) ≤ v5 ∧ v5 < ln ε (fn ε v0 65) ∧ ((μ (fn ε v0 65) v5) ≠ 0 → G cd_X12_gr5 Q X 96 [(0, (2, v0)), (5, (0, v5))] [] ε μ) ∧ ((μ (fn ε v0 65) v5) = 0 → o_X12_strikes [(2, v0), (0, v1), (0, v2), (0, v3)] ε μ (fun z ε_1 μ_1 => G cd_X12_gr5 Q X 39 [(0, (2, v0)), (1, (0, v1)), (2, (0, v2)), (3, (0, v3)), (4, (0, v4)), (5, (0, v5))] [(0, z), (0, v5), (2, fn ε v0 65)] ε_1 μ_1) m_F)) : G cd_X12_gr5 Q X 16 [(0, (2, v0)), (1, (0, v1)), (2, (0, v2)), (3, (0, v3)), (4, (0, v4)), (5, (0, v5))] [] ε μ := by
  refine G_run (m_in [16, 39, 54, 67, 70, 87, 90, 94, 95, 96, 112]) 20 _ _ _ _ ?_
  show m_ty [(0, (2, v0)), (1, (0, v1)), (2, (0, v2)), (3, (0, v3)), (4, (0, v4)), (5, (0, v5))] [] ε μ → (kd ε v0 = 11) ∧ (kd ε (fn ε v0 65) = 100) ∧ ((0 : Int) ≤ v5 ∧ v5 < ln ε (fn ε v0 65)) ∧ ((μ (fn ε v0 65) v5) ≠ 0 → G cd_X12_gr5 Q X 96 [(0, (2, v0)), (5, (0, v5))] [] ε μ) ∧ ((μ (fn ε v0 65) v5) = 0 → (m_ty [(0, (2, v0)), (1, (0, v1)), (2, (0, v2)), (3, (0, v3)), (4, (0, v4)), (5, (0, v5))] [] ε μ → (kd ε v0 = 11) ∧ (kd ε v0 = 11) ∧ o_X12_strikes [(2, v0), (0, v1), (0, v2), (0, v3)] ε μ (fun z ε_1 μ_1 => G cd_X12_gr5 Q X 39 [(0, (2, v0)), (1, (0, v1)), (2, (0, v2)), (3, (0, v3)), (4, (0, v4)), (5, (0, v5))] [(0, z), (0, v5), (2, fn ε v0 65)] ε_1 μ_1) m_F))
  intro hty
  replace h := h hty.1 (hty.2.1 _ (List.mem_of_getElem? (i := 1) rfl)) (hty.2.1 _ (List.mem_of_getElem? (i := 2) rfl)) (hty.2.1 _ (List.mem_of_getElem? (i := 3) rfl)) (hty.2.1 _ (List.mem_of_getElem? (i := 4) rfl)) (hty.2.1 _ (List.mem_of_getElem? (i := 5) rfl))
  obtain ⟨k1, h⟩ := h
  refine And.intro k1 ?_
  obtain ⟨k2, h⟩ := h
  refine And.intro k2 ?_
  obtain ⟨k3, h⟩ := h
  obtain ⟨k4, h⟩ := h
  refine And.intro (And.intro k3 k4) ?_
  obtain ⟨ha, hb⟩ := h
  refine And.intro (fun c4 => ?_) (fun c4 => ?_)
  · replace h := ha c4
    clear ha hb
    exact h
  · replace h := hb c4
    clear ha hb
    intro _
    refine And.intro k1 ?_
    refine And.intro k1 ?_
    exact h
set_option maxRecDepth 20000 in
theorem g_X12_gr5_0 {Q X : m_Po} {v0 v1 v2 v3 : Int} {ε : m_E} {μ : m_M} (h : TY ε μ → i32 v1 → i32 v2 → i32 v3 → kd ε v0 = 11 ∧ kd ε (fn ε v0 17) = 100 ∧ (0 : Int) ≤ v1 ∧ v1 < ln ε (fn ε v0 17) ∧ ∀ v4 : Int, v4 = μ (fn ε v0 17) v1 → ∀ v5 : Int, v5 = w32 ((w32 (10 * v2)) + v3) → kd ε v0 = 11 ∧ kd ε (fn ε v0 65) = 100 ∧ (0 : Int) ≤ v5 ∧ v5 < ln ε (fn ε v0 65) ∧ ((μ (fn ε v0 65) v5) ≠ 0 → G cd_X12_gr5 Q X 96 [(0, (2, v0)), (5, (0, v5))] [] ε μ) ∧ ((μ (fn ε v0 65) v5) = 0 → o_X12_strikes [(2, v0), (0, v1), (0, v2), (0, v3)] ε μ (fun z ε_1 μ_1 => G cd_X12_gr5 Q X 39 [(0, (2, v0)), (1, (0, v1)), (2, (0, v2)), (3, (0, v3)), (4, (0, v4)), (5, (0, v5))] [(0, z), (0, v5), (2, fn ε v0 65)] ε_1 μ_1) m_F)) : G cd_X12_gr5 Q X 0 [(0, (2, v0)), (1, (0, v1)), (2, (0, v2)), (3, (0, v3))] [] ε μ := by
  refine G_run (m_in [16, 39, 54, 67, 70, 87, 90, 94, 95, 96, 112]) 20 _ _ _ _ ?_
  show m_ty [(0, (2, v0)), (1, (0, v1)), (2, (0, v2)), (3, (0, v3))] [] ε μ → (kd ε v0 = 11) ∧ (kd ε (fn ε v0 17) = 100) ∧ ((0 : Int) ≤ v1 ∧ v1 < ln ε (fn ε v0 17)) ∧ ∀ v4 : Int, v4 = μ (fn ε v0 17) v1 → ∀ v5 : Int, v5 = w32 ((w32 (10 * v2)) + v3) → G cd_X12_gr5 Q X 16 [(0, (2, v0)), (1, (0, v1)), (2, (0, v2)), (3, (0, v3)), (4, (0, v4)), (5, (0, v5))] [] ε μ
  intro hty
  replace h := h hty.1 (hty.2.1 _ (List.mem_of_getElem? (i := 1) rfl)) (hty.2.1 _ (List.mem_of_getElem? (i := 2) rfl)) (hty.2.1 _ (List.mem_of_getElem? (i := 3) rfl))
  obtain ⟨k1, h⟩ := h
  refine And.intro k1 ?_
  obtain ⟨k2, h⟩ := h
  refine And.intro k2 ?_
  obtain ⟨k3, h⟩ := h
  obtain ⟨k4, h⟩ := h
  refine And.intro (And.intro k3 k4) ?_
  intro v4 e_v4
  replace h := h v4 e_v4
  intro v5 e_v5
  replace h := h v5 e_v5
  exact g_X12_gr5_16 (fun _ _ _ _ _ _ => h)
theorem e_X12_gr5 {Q X : m_Po} {v0 v1 v2 v3 : Int} {ε : m_E} {μ : m_M} (h : TY ε μ → i32 v1 → i32 v2 → i32 v3 → kd ε v0 = 11 ∧ kd ε (fn ε v0 17) = 100 ∧ (0 : Int) ≤ v1 ∧ v1 < ln ε (fn ε v0 17) ∧ ∀ v4 : Int, v4 = μ (fn ε v0 17) v1 → ∀ v5 : Int, v5 = w32 ((w32 (10 * v2)) + v3) → kd ε v0 = 11 ∧ kd ε (fn ε v0 65) = 100 ∧ (0 : Int) ≤ v5 ∧ v5 < ln ε (fn ε v0 65) ∧ ((μ (fn ε v0 65) v5) ≠ 0 → G cd_X12_gr5 Q X 96 [(0, (2, v0)), (5, (0, v5))] [] ε μ) ∧ ((μ (fn ε v0 65) v5) = 0 → o_X12_strikes [(2, v0), (0, v1), (0, v2), (0, v3)] ε μ (fun z ε_1 μ_1 => G cd_X12_gr5 Q X 39 [(0, (2, v0)), (1, (0, v1)), (2, (0, v2)), (3, (0, v3)), (4, (0, v4)), (5, (0, v5))] [(0, z), (0, v5), (2, fn ε v0 65)] ε_1 μ_1) m_F)) : o_X12_gr5 [(2, v0), (0, v1), (0, v2), (0, v3)] ε μ Q X := And.intro rfl (g_X12_gr5_0 h)
/-! ArchYardModel.grows(III)Z -/
set_option maxRecDepth 20000 in
theorem g_X12_gr6_112 {Q X : m_Po} {t : Int} {ε : m_E} {μ : m_M} (h : TY ε μ → i32 t → (t = 0 ∨ t = 1) ∧ Q t ε μ) : G cd_X12_gr6 Q X 112 [] [(0, t)] ε μ := by
  refine G_run (m_in [16, 39, 54, 67, 70, 87, 90, 94, 95, 96, 112]) 20 _ _ _ _ ?_
  show m_ty [] [(0, t)] ε μ → (t = 0 ∨ t = 1) ∧ Q t ε μ
  intro hty
  replace h := h hty.1 (hty.2.2 _ (List.mem_of_getElem? (i := 0) rfl))
  obtain ⟨k1, h⟩ := h
  refine And.intro k1 ?_
  exact h
set_option maxRecDepth 20000 in
theorem g_X12_gr6_96 {Q X : m_Po} {v0 v5 : Int} {ε : m_E} {μ : m_M} (h : TY ε μ → i32 v5 → kd ε v0 = 11 ∧ kd ε (fn ε v0 65) = 100 ∧ (0 : Int) ≤ v5 ∧ v5 < ln ε (fn ε v0 65) ∧ ∀ t : Int, t = (if (μ (fn ε v0 65) v5) = (1 : Int) then 1 else 0) → Q t ε μ) : G cd_X12_gr6 Q X 96 [(0, (2, v0)), (5, (0, v5))] [] ε μ := by
  refine G_run (m_in [16, 39, 54, 67, 70, 87, 90, 94, 95, 96, 112]) 20 _ _ _ _ ?_
  show m_ty [(0, (2, v0)), (5, (0, v5))] [] ε μ → (kd ε v0 = 11) ∧ (kd ε (fn ε v0 65) = 100) ∧ ((0 : Int) ≤ v5 ∧ v5 < ln ε (fn ε v0 65)) ∧ ((μ (fn ε v0 65) v5) ≠ (1 : Int) → (m_ty [] [] ε μ → G cd_X12_gr6 Q X 112 [] [(0, 0)] ε μ)) ∧ ((μ (fn ε v0 65) v5) = (1 : Int) → (m_ty [] [] ε μ → G cd_X12_gr6 Q X 112 [] [(0, 1)] ε μ))
  intro hty
  replace h := h hty.1 (hty.2.1 _ (List.mem_of_getElem? (i := 1) rfl))
  obtain ⟨k1, h⟩ := h
  refine And.intro k1 ?_
  obtain ⟨k2, h⟩ := h
  refine And.intro k2 ?_
  obtain ⟨k3, h⟩ := h
  obtain ⟨k4, h⟩ := h
  refine And.intro (And.intro k3 k4) ?_
  have hj := h
  refine And.intro (fun c4 => ?_) (fun c4 => ?_)
  · intro _
    exact g_X12_gr6_112 (fun _ _ => (And.intro (Or.inl rfl) (hj _ (((if_neg (c4)).trans rfl)).symm)))
  · intro _
    exact g_X12_gr6_112 (fun _ _ => (And.intro (Or.inr rfl) (hj _ (((if_pos c4).trans rfl)).symm)))
set_option maxRecDepth 20000 in
theorem g_X12_gr6_95 {Q X : m_Po} {v0 v5 t t_1 t_2 : Int} {ε : m_E} {μ : m_M} (h : TY ε μ → i32 v5 → i32 t_1 → i32 t_2 → kd ε t = 100 ∧ (0 : Int) ≤ t_1 ∧ t_1 < ln ε t ∧ ∀ μ_1 : m_M, μ_1 = st μ t t_1 t_2 → G cd_X12_gr6 Q X 96 [(0, (2, v0)), (5, (0, v5))] [] ε μ_1) : G cd_X12_gr6 Q X 95 [(0, (2, v0)), (5, (0, v5))] [(0, t_2), (0, t_1), (2, t)] ε μ := by
  refine G_run (m_in [16, 39, 54, 67, 70, 87, 90, 94, 95, 96, 112]) 20 _ _ _ _ ?_
  show m_ty [(0, (2, v0)), (5, (0, v5))] [(0, t_2), (0, t_1), (2, t)] ε μ → (kd ε t = 100) ∧ ((0 : Int) ≤ t_1 ∧ t_1 < ln ε t) ∧ ∀ μ_1 : m_M, μ_1 = st μ t t_1 t_2 → G cd_X12_gr6 Q X 96 [(0, (2, v0)), (5, (0, v5))] [] ε μ_1
  intro hty
  replace h := h hty.1 (hty.2.1 _ (List.mem_of_getElem? (i := 1) rfl)) (hty.2.2 _ (List.mem_of_getElem? (i := 1) rfl)) (hty.2.2 _ (List.mem_of_getElem? (i := 0) rfl))
  obtain ⟨k1, h⟩ := h
  refine And.intro k1 ?_
  obtain ⟨k2, h⟩ := h
  obtain ⟨k3, h⟩ := h
  refine And.intro (And.intro k2 k3) ?_
  intro μ_1 e_μ_1
  replace h := h μ_1 e_μ_1
  exact h
set_option maxRecDepth 20000 in
theorem g_X12_gr6_94 {Q X : m_Po} {v0 v5 t t_1 : Int} {ε : m_E} {μ : m_M} (h : TY ε μ → i32 v5 → i32 t_1 → G cd_X12_gr6 Q X 95 [(0, (2, v0)), (5, (0, v5))] [(0, 2), (0, t_1), (2, t)] ε μ) : G cd_X12_gr6 Q X 94 [(0, (2, v0)), (5, (0, v5))] [(0, t_1), (2, t)] ε μ := by
  refine G_run (m_in [16, 39, 54, 67, 70, 87, 90, 94, 95, 96, 112]) 20 _ _ _ _ ?_
  show m_ty [(0, (2, v0)), (5, (0, v5))] [(0, t_1), (2, t)] ε μ → G cd_X12_gr6 Q X 95 [(0, (2, v0)), (5, (0, v5))] [(0, 2), (0, t_1), (2, t)] ε μ
  intro hty
  replace h := h hty.1 (hty.2.1 _ (List.mem_of_getElem? (i := 1) rfl)) (hty.2.2 _ (List.mem_of_getElem? (i := 0) rfl))
  exact h
set_option maxRecDepth 20000 in
theorem g_X12_gr6_90 {Q X : m_Po} {v0 v5 t t_1 : Int} {ε : m_E} {μ : m_M} (h : TY ε μ → i32 v5 → i32 t_1 → G cd_X12_gr6 Q X 95 [(0, (2, v0)), (5, (0, v5))] [(0, 1), (0, t_1), (2, t)] ε μ) : G cd_X12_gr6 Q X 90 [(0, (2, v0)), (5, (0, v5))] [(0, t_1), (2, t)] ε μ := by
  refine G_run (m_in [16, 39, 54, 67, 70, 87, 90, 94, 95, 96, 112]) 20 _ _ _ _ ?_
  show m_ty [(0, (2, v0)), (5, (0, v5))] [(0, t_1), (2, t)] ε μ → G cd_X12_gr6 Q X 95 [(0, (2, v0)), (5, (0, v5))] [(0, 1), (0, t_1), (2, t)] ε μ
  intro hty
  replace h := h hty.1 (hty.2.1 _ (List.mem_of_getElem? (i := 1) rfl)) (hty.2.2 _ (List.mem_of_getElem? (i := 0) rfl))
  exact h
set_option maxRecDepth 20000 in
theorem g_X12_gr6_87 {Q X : m_Po} {v0 v5 t t_1 t_2 : Int} {ε : m_E} {μ : m_M} (h : TY ε μ → i32 v5 → i32 t_1 → i32 t_2 → (t_2 = 0 → G cd_X12_gr6 Q X 94 [(0, (2, v0)), (5, (0, v5))] [(0, t_1), (2, t)] ε μ) ∧ (t_2 ≠ 0 → G cd_X12_gr6 Q X 90 [(0, (2, v0)), (5, (0, v5))] [(0, t_1), (2, t)] ε μ)) : G cd_X12_gr6 Q X 87 [(0, (2, v0)), (5, (0, v5))] [(0, t_2), (0, t_1), (2, t)] ε μ := by
  refine G_run (m_in [16, 39, 54, 67, 70, 87, 90, 94, 95, 96, 112]) 20 _ _ _ _ ?_
  show m_ty [(0, (2, v0)), (5, (0, v5))] [(0, t_2), (0, t_1), (2, t)] ε μ → (t_2 = 0 → G cd_X12_gr6 Q X 94 [(0, (2, v0)), (5, (0, v5))] [(0, t_1), (2, t)] ε μ) ∧ (t_2 ≠ 0 → G cd_X12_gr6 Q X 90 [(0, (2, v0)), (5, (0, v5))] [(0, t_1), (2, t)] ε μ)
  intro hty
  replace h := h hty.1 (hty.2.1 _ (List.mem_of_getElem? (i := 1) rfl)) (hty.2.2 _ (List.mem_of_getElem? (i := 1) rfl)) (hty.2.2 _ (List.mem_of_getElem? (i := 0) rfl))
  obtain ⟨ha, hb⟩ := h
  refine And.intro (fun c0 => ?_) (fun c0 => ?_)
  · replace h := ha c0
    clear ha hb
    exact h
  · replace h := hb c0
    clear ha hb
    exact h
set_option maxRecDepth 20000 in
theorem g_X12_gr6_70 {Q X : m_Po} {v0 v1 v2 v3 v4 v5 t t_1 : Int} {ε : m_E} {μ : m_M} (h : TY ε μ → i32 v1 → i32 v2 → i32 v3 → i32 v4 → i32 v5 → i32 t_1 → ((w32 (v4 - 1)) ≤ v3 → G cd_X12_gr6 Q X 94 [(0, (2, v0)), (5, (0, v5))] [(0, t_1), (2, t)] ε μ) ∧ (v3 < (w32 (v4 - 1)) → kd ε v0 = 11 ∧ o_X12_gr5 [(2, v0), (0, v1), (0, v2), (0, w32 (v3 + 1))] ε μ (fun z ε_1 μ_1 => G cd_X12_gr6 Q X 87 [(0, (2, v0)), (5, (0, v5))] [(0, z), (0, t_1), (2, t)] ε_1 μ_1) m_F)) : G cd_X12_gr6 Q X 70 [(0, (2, v0)), (1, (0, v1)), (2, (0, v2)), (3, (0, v3)), (4, (0, v4)), (5, (0, v5))] [(0, t_1), (2, t)] ε μ := by
  refine G_run (m_in [16, 39, 54, 67, 70, 87, 90, 94, 95, 96, 112]) 20 _ _ _ _ ?_
  show m_ty [(0, (2, v0)), (1, (0, v1)), (2, (0, v2)), (3, (0, v3)), (4, (0, v4)), (5, (0, v5))] [(0, t_1), (2, t)] ε μ → ((w32 (v4 - 1)) ≤ v3 → G cd_X12_gr6 Q X 94 [(0, (2, v0)), (5, (0, v5))] [(0, t_1), (2, t)] ε μ) ∧ (v3 < (w32 (v4 - 1)) → (m_ty [(0, (2, v0)), (1, (0, v1)), (2, (0, v2)), (3, (0, v3)), (5, (0, v5))] [(0, t_1), (2, t)] ε μ → (kd ε v0 = 11) ∧ o_X12_gr5 [(2, v0), (0, v1), (0, v2), (0, w32 (v3 + 1))] ε μ (fun z ε_1 μ_1 => G cd_X12_gr6 Q X 87 [(0, (2, v0)), (5, (0, v5))] [(0, z), (0, t_1), (2, t)] ε_1 μ_1) m_F))
  intro hty
  replace h := h hty.1 (hty.2.1 _ (List.mem_of_getElem? (i := 1) rfl)) (hty.2.1 _ (List.mem_of_getElem? (i := 2) rfl)) (hty.2.1 _ (List.mem_of_getElem? (i := 3) rfl)) (hty.2.1 _ (List.mem_of_getElem? (i := 4) rfl)) (hty.2.1 _ (List.mem_of_getElem? (i := 5) rfl)) (hty.2.2 _ (List.mem_of_getElem? (i := 0) rfl))
  obtain ⟨ha, hb⟩ := h
  refine And.intro (fun c1 => ?_) (fun c1 => ?_)
  · replace h := ha c1
    clear ha hb
    exact h
  · replace h := hb c1
    clear ha hb
    intro _
    obtain ⟨k1, h⟩ := h
    refine And.intro k1 ?_
    exact h
set_option maxRecDepth 20000 in
theorem g_X12_gr6_67 {Q X : m_Po} {v0 v1 v2 v3 v4 v5 t t_1 t_2 : Int} {ε : m_E} {μ : m_M} (h : TY ε μ → i32 v1 → i32 v2 → i32 v3 → i32 v4 → i32 v5 → i32 t_1 → i32 t_2 → (t_2 ≠ 0 → G cd_X12_gr6 Q X 90 [(0, (2, v0)), (5, (0, v5))] [(0, t_1), (2, t)] ε μ) ∧ (t_2 = 0 → G cd_X12_gr6 Q X 70 [(0, (2, v0)), (1, (0, v1)), (2, (0, v2)), (3, (0, v3)), (4, (0, v4)), (5, (0, v5))] [(0, t_1), (2, t)] ε μ)) : G cd_X12_gr6 Q X 67 [(0, (2, v0)), (1, (0, v1)), (2, (0, v2)), (3, (0, v3)), (4, (0, v4)), (5, (0, v5))] [(0, t_2), (0, t_1), (2, t)] ε μ := by
  refine G_run (m_in [16, 39, 54, 67, 70, 87, 90, 94, 95, 96, 112]) 20 _ _ _ _ ?_
  show m_ty [(0, (2, v0)), (1, (0, v1)), (2, (0, v2)), (3, (0, v3)), (4, (0, v4)), (5, (0, v5))] [(0, t_2), (0, t_1), (2, t)] ε μ → (t_2 ≠ 0 → G cd_X12_gr6 Q X 90 [(0, (2, v0)), (5, (0, v5))] [(0, t_1), (2, t)] ε μ) ∧ (t_2 = 0 → G cd_X12_gr6 Q X 70 [(0, (2, v0)), (1, (0, v1)), (2, (0, v2)), (3, (0, v3)), (4, (0, v4)), (5, (0, v5))] [(0, t_1), (2, t)] ε μ)
  intro hty
  replace h := h hty.1 (hty.2.1 _ (List.mem_of_getElem? (i := 1) rfl)) (hty.2.1 _ (List.mem_of_getElem? (i := 2) rfl)) (hty.2.1 _ (List.mem_of_getElem? (i := 3) rfl)) (hty.2.1 _ (List.mem_of_getElem? (i := 4) rfl)) (hty.2.1 _ (List.mem_of_getElem? (i := 5) rfl)) (hty.2.2 _ (List.mem_of_getElem? (i := 1) rfl)) (hty.2.2 _ (List.mem_of_getElem? (i := 0) rfl))
  obtain ⟨ha, hb⟩ := h
  refine And.intro (fun c0 => ?_) (fun c0 => ?_)
  · replace h := ha c0
    clear ha hb
    exact h
  · replace h := hb c0
    clear ha hb
    exact h
set_option maxRecDepth 20000 in
theorem g_X12_gr6_54 {Q X : m_Po} {v0 v1 v2 v3 v4 v5 t t_1 : Int} {ε : m_E} {μ : m_M} (h : TY ε μ → i32 v1 → i32 v2 → i32 v3 → i32 v4 → i32 v5 → i32 t_1 → (v2 ≤ 0 → G cd_X12_gr6 Q X 70 [(0, (2, v0)), (1, (0, v1)), (2, (0, v2)), (3, (0, v3)), (4, (0, v4)), (5, (0, v5))] [(0, t_1), (2, t)] ε μ) ∧ (0 < v2 → kd ε v0 = 11 ∧ o_X12_gr5 [(2, v0), (0, v1), (0, w32 (v2 - 1)), (0, v3)] ε μ (fun z ε_1 μ_1 => G cd_X12_gr6 Q X 67 [(0, (2, v0)), (1, (0, v1)), (2, (0, v2)), (3, (0, v3)), (4, (0, v4)), (5, (0, v5))] [(0, z), (0, t_1), (2, t)] ε_1 μ_1) m_F)) : G cd_X12_gr6 Q X 54 [(0, (2, v0)), (1, (0, v1)), (2, (0, v2)), (3, (0, v3)), (4, (0, v4)), (5, (0, v5))] [(0, t_1), (2, t)] ε μ := by
  refine G_run (m_in [16, 39, 54, 67, 70, 87, 90, 94, 95, 96, 112]) 20 _ _ _ _ ?_
  show m_ty [(0, (2, v0)), (1, (0, v1)), (2, (0, v2)), (3, (0, v3)), (4, (0, v4)), (5, (0, v5))] [(0, t_1), (2, t)] ε μ → (v2 ≤ 0 → G cd_X12_gr6 Q X 70 [(0, (2, v0)), (1, (0, v1)), (2, (0, v2)), (3, (0, v3)), (4, (0, v4)), (5, (0, v5))] [(0, t_1), (2, t)] ε μ) ∧ (0 < v2 → (m_ty [(0, (2, v0)), (1, (0, v1)), (2, (0, v2)), (3, (0, v3)), (4, (0, v4)), (5, (0, v5))] [(0, t_1), (2, t)] ε μ → (kd ε v0 = 11) ∧ o_X12_gr5 [(2, v0), (0, v1), (0, w32 (v2 - 1)), (0, v3)] ε μ (fun z ε_1 μ_1 => G cd_X12_gr6 Q X 67 [(0, (2, v0)), (1, (0, v1)), (2, (0, v2)), (3, (0, v3)), (4, (0, v4)), (5, (0, v5))] [(0, z), (0, t_1), (2, t)] ε_1 μ_1) m_F))
  intro hty
  replace h := h hty.1 (hty.2.1 _ (List.mem_of_getElem? (i := 1) rfl)) (hty.2.1 _ (List.mem_of_getElem? (i := 2) rfl)) (hty.2.1 _ (List.mem_of_getElem? (i := 3) rfl)) (hty.2.1 _ (List.mem_of_getElem? (i := 4) rfl)) (hty.2.1 _ (List.mem_of_getElem? (i := 5) rfl)) (hty.2.2 _ (List.mem_of_getElem? (i := 0) rfl))
  obtain ⟨ha, hb⟩ := h
  refine And.intro (fun c1 => ?_) (fun c1 => ?_)
  · replace h := ha c1
    clear ha hb
    exact h
  · replace h := hb c1
    clear ha hb
    intro _
    obtain ⟨k1, h⟩ := h
    refine And.intro k1 ?_
    exact h
set_option maxRecDepth 20000 in
theorem g_X12_gr6_39 {Q X : m_Po} {v0 v1 v2 v3 v4 v5 t t_1 t_2 : Int} {ε : m_E} {μ : m_M} (h : TY ε μ → i32 v1 → i32 v2 → i32 v3 → i32 v4 → i32 v5 → i32 t_1 → i32 t_2 → (t_2 = 0 → G cd_X12_gr6 Q X 94 [(0, (2, v0)), (5, (0, v5))] [(0, t_1), (2, t)] ε μ) ∧ (t_2 ≠ 0 → (v2 ≠ 0 → G cd_X12_gr6 Q X 54 [(0, (2, v0)), (1, (0, v1)), (2, (0, v2)), (3, (0, v3)), (4, (0, v4)), (5, (0, v5))] [(0, t_1), (2, t)] ε μ) ∧ (v2 = 0 → (v3 = (w32 (v4 - 1)) → G cd_X12_gr6 Q X 90 [(0, (2, v0)), (5, (0, v5))] [(0, t_1), (2, t)] ε μ) ∧ (v3 ≠ (w32 (v4 - 1)) → G cd_X12_gr6 Q X 54 [(0, (2, v0)), (1, (0, v1)), (2, (0, v2)), (3, (0, v3)), (4, (0, v4)), (5, (0, v5))] [(0, t_1), (2, t)] ε μ)))) : G cd_X12_gr6 Q X 39 [(0, (2, v0)), (1, (0, v1)), (2, (0, v2)), (3, (0, v3)), (4, (0, v4)), (5, (0, v5))] [(0, t_2), (0, t_1), (2, t)] ε μ := by
  refine G_run (m_in [16, 39, 54, 67, 70, 87, 90, 94, 95, 96, 112]) 20 _ _ _ _ ?_
  show m_ty [(0, (2, v0)), (1, (0, v1)), (2, (0, v2)), (3, (0, v3)), (4, (0, v4)), (5, (0, v5))] [(0, t_2), (0, t_1), (2, t)] ε μ → (t_2 = 0 → G cd_X12_gr6 Q X 94 [(0, (2, v0)), (5, (0, v5))] [(0, t_1), (2, t)] ε μ) ∧ (t_2 ≠ 0 → (m_ty [(0, (2, v0)), (1, (0, v1)), (2, (0, v2)), (3, (0, v3)), (4, (0, v4)), (5, (0, v5))] [(0, t_1), (2, t)] ε μ → (v2 ≠ 0 → G cd_X12_gr6 Q X 54 [(0, (2, v0)), (1, (0, v1)), (2, (0, v2)), (3, (0, v3)), (4, (0, v4)), (5, (0, v5))] [(0, t_1), (2, t)] ε μ) ∧ (v2 = 0 → (m_ty [(0, (2, v0)), (1, (0, v1)), (2, (0, v2)), (3, (0, v3)), (4, (0, v4)), (5, (0, v5))] [(0, t_1), (2, t)] ε μ → (v3 = (w32 (v4 - 1)) → G cd_X12_gr6 Q X 90 [(0, (2, v0)), (5, (0, v5))] [(0, t_1), (2, t)] ε μ) ∧ (v3 ≠ (w32 (v4 - 1)) → G cd_X12_gr6 Q X 54 [(0, (2, v0)), (1, (0, v1)), (2, (0, v2)), (3, (0, v3)), (4, (0, v4)), (5, (0, v5))] [(0, t_1), (2, t)] ε μ)))))
  intro hty
  replace h := h hty.1 (hty.2.1 _ (List.mem_of_getElem? (i := 1) rfl)) (hty.2.1 _ (List.mem_of_getElem? (i := 2) rfl)) (hty.2.1 _ (List.mem_of_getElem? (i := 3) rfl)) (hty.2.1 _ (List.mem_of_getElem? (i := 4) rfl)) (hty.2.1 _ (List.mem_of_getElem? (i := 5) rfl)) (hty.2.2 _ (List.mem_of_getElem? (i := 1) rfl)) (hty.2.2 _ (List.mem_of_getElem? (i := 0) rfl))
  obtain ⟨ha, hb⟩ := h
  refine And.intro (fun c2 => ?_) (fun c2 => ?_)
  · replace h := ha c2
    clear ha hb
    exact h
  · replace h := hb c2
    clear ha hb
    intro _
    obtain ⟨ha, hb⟩ := h
    refine And.intro (fun c1 => ?_) (fun c1 => ?_)
    · replace h := ha c1
      clear ha hb
      exact h
    · replace h := hb c1
      clear ha hb
      intro _
      obtain ⟨ha, hb⟩ := h
      refine And.intro (fun c0 => ?_) (fun c0 => ?_)
      · replace h := ha c0
        clear ha hb
        exact h
      · replace h := hb c0
        clear ha hb
        exact h
set_option maxRecDepth 20000 in
theorem g_X12_gr6_16 {Q X : m_Po} {v0 v1 v2 v3 v4 v5 : Int} {ε : m_E} {μ : m_M} (h : TY ε μ → i32 v1 → i32 v2 → i32 v3 → i32 v4 → i32 v5 → kd ε v0 = 11 ∧ kd ε (fn ε v0 65) = 100 ∧ (0 : Int) ≤ v5 ∧ v5 < ln ε (fn ε v0 65) ∧ ((μ (fn ε v0 65) v5) ≠ 0 → G cd_X12_gr6 Q X 96 [(0, (2, v0)), (5, (0, v5))] [] ε μ) ∧ ((μ (fn ε v0 65) v5) = 0 → o_X12_strikes [(2, v0), (0, v1), (0, v2), (0, v3)] ε μ (fun z ε_1 μ_1 => G cd_X12_gr6 Q X 39 [(0, (2, v0)), (1, (0, v1)), (2, (0, v2)), (3, (0, v3)), (4, (0, v4)), (5, (0, v5))] [(0, z), (0, v5), (2, fn ε v0 65)] ε_1 μ_1) m_F)) : G cd_X12_gr6 Q X 16 [(0, (2, v0)), (1, (0, v1)), (2, (0, v2)), (3, (0, v3)), (4, (0, v4)), (5, (0, v5))] [] ε μ := by
  refine G_run (m_in [16, 39, 54, 67, 70, 87, 90, 94, 95, 96, 112]) 20 _ _ _ _ ?_
  show m_ty [(0, (2, v0)), (1, (0, v1)), (2, (0, v2)), (3, (0, v3)), (4, (0, v4)), (5, (0, v5))] [] ε μ → (kd ε v0 = 11) ∧ (kd ε (fn ε v0 65) = 100) ∧ ((0 : Int) ≤ v5 ∧ v5 < ln ε (fn ε v0 65)) ∧ ((μ (fn ε v0 65) v5) ≠ 0 → G cd_X12_gr6 Q X 96 [(0, (2, v0)), (5, (0, v5))] [] ε μ) ∧ ((μ (fn ε v0 65) v5) = 0 → (m_ty [(0, (2, v0)), (1, (0, v1)), (2, (0, v2)), (3, (0, v3)), (4, (0, v4)), (5, (0, v5))] [] ε μ → (kd ε v0 = 11) ∧ (kd ε v0 = 11) ∧ o_X12_strikes [(2, v0), (0, v1), (0, v2), (0, v3)] ε μ (fun z ε_1 μ_1 => G cd_X12_gr6 Q X 39 [(0, (2, v0)), (1, (0, v1)), (2, (0, v2)), (3, (0, v3)), (4, (0, v4)), (5, (0, v5))] [(0, z), (0, v5), (2, fn ε v0 65)] ε_1 μ_1) m_F))
  intro hty
  replace h := h hty.1 (hty.2.1 _ (List.mem_of_getElem? (i := 1) rfl)) (hty.2.1 _ (List.mem_of_getElem? (i := 2) rfl)) (hty.2.1 _ (List.mem_of_getElem? (i := 3) rfl)) (hty.2.1 _ (List.mem_of_getElem? (i := 4) rfl)) (hty.2.1 _ (List.mem_of_getElem? (i := 5) rfl))
  obtain ⟨k1, h⟩ := h
  refine And.intro k1 ?_
  obtain ⟨k2, h⟩ := h
  refine And.intro k2 ?_
  obtain ⟨k3, h⟩ := h
  obtain ⟨k4, h⟩ := h
  refine And.intro (And.intro k3 k4) ?_
  obtain ⟨ha, hb⟩ := h
  refine And.intro (fun c4 => ?_) (fun c4 => ?_)
  · replace h := ha c4
    clear ha hb
    exact h
  · replace h := hb c4
    clear ha hb
    intro _
    refine And.intro k1 ?_
    refine And.intro k1 ?_
    exact h
set_option maxRecDepth 20000 in
theorem g_X12_gr6_0 {Q X : m_Po} {v0 v1 v2 v3 : Int} {ε : m_E} {μ : m_M} (h : TY ε μ → i32 v1 → i32 v2 → i32 v3 → kd ε v0 = 11 ∧ kd ε (fn ε v0 17) = 100 ∧ (0 : Int) ≤ v1 ∧ v1 < ln ε (fn ε v0 17) ∧ ∀ v4 : Int, v4 = μ (fn ε v0 17) v1 → ∀ v5 : Int, v5 = w32 ((w32 (10 * v2)) + v3) → kd ε v0 = 11 ∧ kd ε (fn ε v0 65) = 100 ∧ (0 : Int) ≤ v5 ∧ v5 < ln ε (fn ε v0 65) ∧ ((μ (fn ε v0 65) v5) ≠ 0 → G cd_X12_gr6 Q X 96 [(0, (2, v0)), (5, (0, v5))] [] ε μ) ∧ ((μ (fn ε v0 65) v5) = 0 → o_X12_strikes [(2, v0), (0, v1), (0, v2), (0, v3)] ε μ (fun z ε_1 μ_1 => G cd_X12_gr6 Q X 39 [(0, (2, v0)), (1, (0, v1)), (2, (0, v2)), (3, (0, v3)), (4, (0, v4)), (5, (0, v5))] [(0, z), (0, v5), (2, fn ε v0 65)] ε_1 μ_1) m_F)) : G cd_X12_gr6 Q X 0 [(0, (2, v0)), (1, (0, v1)), (2, (0, v2)), (3, (0, v3))] [] ε μ := by
  refine G_run (m_in [16, 39, 54, 67, 70, 87, 90, 94, 95, 96, 112]) 20 _ _ _ _ ?_
  show m_ty [(0, (2, v0)), (1, (0, v1)), (2, (0, v2)), (3, (0, v3))] [] ε μ → (kd ε v0 = 11) ∧ (kd ε (fn ε v0 17) = 100) ∧ ((0 : Int) ≤ v1 ∧ v1 < ln ε (fn ε v0 17)) ∧ ∀ v4 : Int, v4 = μ (fn ε v0 17) v1 → ∀ v5 : Int, v5 = w32 ((w32 (10 * v2)) + v3) → G cd_X12_gr6 Q X 16 [(0, (2, v0)), (1, (0, v1)), (2, (0, v2)), (3, (0, v3)), (4, (0, v4)), (5, (0, v5))] [] ε μ
  intro hty
  replace h := h hty.1 (hty.2.1 _ (List.mem_of_getElem? (i := 1) rfl)) (hty.2.1 _ (List.mem_of_getElem? (i := 2) rfl)) (hty.2.1 _ (List.mem_of_getElem? (i := 3) rfl))
  obtain ⟨k1, h⟩ := h
  refine And.intro k1 ?_
  obtain ⟨k2, h⟩ := h
  refine And.intro k2 ?_
  obtain ⟨k3, h⟩ := h
  obtain ⟨k4, h⟩ := h
  refine And.intro (And.intro k3 k4) ?_
  intro v4 e_v4
  replace h := h v4 e_v4
  intro v5 e_v5
  replace h := h v5 e_v5
  exact g_X12_gr6_16 (fun _ _ _ _ _ _ => h)
theorem e_X12_gr6 {Q X : m_Po} {v0 v1 v2 v3 : Int} {ε : m_E} {μ : m_M} (h : TY ε μ → i32 v1 → i32 v2 → i32 v3 → kd ε v0 = 11 ∧ kd ε (fn ε v0 17) = 100 ∧ (0 : Int) ≤ v1 ∧ v1 < ln ε (fn ε v0 17) ∧ ∀ v4 : Int, v4 = μ (fn ε v0 17) v1 → ∀ v5 : Int, v5 = w32 ((w32 (10 * v2)) + v3) → kd ε v0 = 11 ∧ kd ε (fn ε v0 65) = 100 ∧ (0 : Int) ≤ v5 ∧ v5 < ln ε (fn ε v0 65) ∧ ((μ (fn ε v0 65) v5) ≠ 0 → G cd_X12_gr6 Q X 96 [(0, (2, v0)), (5, (0, v5))] [] ε μ) ∧ ((μ (fn ε v0 65) v5) = 0 → o_X12_strikes [(2, v0), (0, v1), (0, v2), (0, v3)] ε μ (fun z ε_1 μ_1 => G cd_X12_gr6 Q X 39 [(0, (2, v0)), (1, (0, v1)), (2, (0, v2)), (3, (0, v3)), (4, (0, v4)), (5, (0, v5))] [(0, z), (0, v5), (2, fn ε v0 65)] ε_1 μ_1) m_F)) : o_X12_gr6 [(2, v0), (0, v1), (0, v2), (0, v3)] ε μ Q X := And.intro rfl (g_X12_gr6_0 h)
/-! ArchYardModel.grows(III)Z -/
set_option maxRecDepth 20000 in
theorem g_X12_gr7_112 {Q X : m_Po} {t : Int} {ε : m_E} {μ : m_M} (h : TY ε μ → i32 t → (t = 0 ∨ t = 1) ∧ Q t ε μ) : G cd_X12_gr7 Q X 112 [] [(0, t)] ε μ := by
  refine G_run (m_in [16, 39, 54, 67, 70, 87, 90, 94, 95, 96, 112]) 20 _ _ _ _ ?_
  show m_ty [] [(0, t)] ε μ → (t = 0 ∨ t = 1) ∧ Q t ε μ
  intro hty
  replace h := h hty.1 (hty.2.2 _ (List.mem_of_getElem? (i := 0) rfl))
  obtain ⟨k1, h⟩ := h
  refine And.intro k1 ?_
  exact h
set_option maxRecDepth 20000 in
theorem g_X12_gr7_96 {Q X : m_Po} {v0 v5 : Int} {ε : m_E} {μ : m_M} (h : TY ε μ → i32 v5 → kd ε v0 = 11 ∧ kd ε (fn ε v0 65) = 100 ∧ (0 : Int) ≤ v5 ∧ v5 < ln ε (fn ε v0 65) ∧ ∀ t : Int, t = (if (μ (fn ε v0 65) v5) = (1 : Int) then 1 else 0) → Q t ε μ) : G cd_X12_gr7 Q X 96 [(0, (2, v0)), (5, (0, v5))] [] ε μ := by
  refine G_run (m_in [16, 39, 54, 67, 70, 87, 90, 94, 95, 96, 112]) 20 _ _ _ _ ?_
  show m_ty [(0, (2, v0)), (5, (0, v5))] [] ε μ → (kd ε v0 = 11) ∧ (kd ε (fn ε v0 65) = 100) ∧ ((0 : Int) ≤ v5 ∧ v5 < ln ε (fn ε v0 65)) ∧ ((μ (fn ε v0 65) v5) ≠ (1 : Int) → (m_ty [] [] ε μ → G cd_X12_gr7 Q X 112 [] [(0, 0)] ε μ)) ∧ ((μ (fn ε v0 65) v5) = (1 : Int) → (m_ty [] [] ε μ → G cd_X12_gr7 Q X 112 [] [(0, 1)] ε μ))
  intro hty
  replace h := h hty.1 (hty.2.1 _ (List.mem_of_getElem? (i := 1) rfl))
  obtain ⟨k1, h⟩ := h
  refine And.intro k1 ?_
  obtain ⟨k2, h⟩ := h
  refine And.intro k2 ?_
  obtain ⟨k3, h⟩ := h
  obtain ⟨k4, h⟩ := h
  refine And.intro (And.intro k3 k4) ?_
  have hj := h
  refine And.intro (fun c4 => ?_) (fun c4 => ?_)
  · intro _
    exact g_X12_gr7_112 (fun _ _ => (And.intro (Or.inl rfl) (hj _ (((if_neg (c4)).trans rfl)).symm)))
  · intro _
    exact g_X12_gr7_112 (fun _ _ => (And.intro (Or.inr rfl) (hj _ (((if_pos c4).trans rfl)).symm)))
set_option maxRecDepth 20000 in
theorem g_X12_gr7_95 {Q X : m_Po} {v0 v5 t t_1 t_2 : Int} {ε : m_E} {μ : m_M} (h : TY ε μ → i32 v5 → i32 t_1 → i32 t_2 → kd ε t = 100 ∧ (0 : Int) ≤ t_1 ∧ t_1 < ln ε t ∧ ∀ μ_1 : m_M, μ_1 = st μ t t_1 t_2 → G cd_X12_gr7 Q X 96 [(0, (2, v0)), (5, (0, v5))] [] ε μ_1) : G cd_X12_gr7 Q X 95 [(0, (2, v0)), (5, (0, v5))] [(0, t_2), (0, t_1), (2, t)] ε μ := by
  refine G_run (m_in [16, 39, 54, 67, 70, 87, 90, 94, 95, 96, 112]) 20 _ _ _ _ ?_
  show m_ty [(0, (2, v0)), (5, (0, v5))] [(0, t_2), (0, t_1), (2, t)] ε μ → (kd ε t = 100) ∧ ((0 : Int) ≤ t_1 ∧ t_1 < ln ε t) ∧ ∀ μ_1 : m_M, μ_1 = st μ t t_1 t_2 → G cd_X12_gr7 Q X 96 [(0, (2, v0)), (5, (0, v5))] [] ε μ_1
  intro hty
  replace h := h hty.1 (hty.2.1 _ (List.mem_of_getElem? (i := 1) rfl)) (hty.2.2 _ (List.mem_of_getElem? (i := 1) rfl)) (hty.2.2 _ (List.mem_of_getElem? (i := 0) rfl))
  obtain ⟨k1, h⟩ := h
  refine And.intro k1 ?_
  obtain ⟨k2, h⟩ := h
  obtain ⟨k3, h⟩ := h
  refine And.intro (And.intro k2 k3) ?_
  intro μ_1 e_μ_1
  replace h := h μ_1 e_μ_1
  exact h
set_option maxRecDepth 20000 in
theorem g_X12_gr7_94 {Q X : m_Po} {v0 v5 t t_1 : Int} {ε : m_E} {μ : m_M} (h : TY ε μ → i32 v5 → i32 t_1 → G cd_X12_gr7 Q X 95 [(0, (2, v0)), (5, (0, v5))] [(0, 2), (0, t_1), (2, t)] ε μ) : G cd_X12_gr7 Q X 94 [(0, (2, v0)), (5, (0, v5))] [(0, t_1), (2, t)] ε μ := by
  refine G_run (m_in [16, 39, 54, 67, 70, 87, 90, 94, 95, 96, 112]) 20 _ _ _ _ ?_
  show m_ty [(0, (2, v0)), (5, (0, v5))] [(0, t_1), (2, t)] ε μ → G cd_X12_gr7 Q X 95 [(0, (2, v0)), (5, (0, v5))] [(0, 2), (0, t_1), (2, t)] ε μ
  intro hty
  replace h := h hty.1 (hty.2.1 _ (List.mem_of_getElem? (i := 1) rfl)) (hty.2.2 _ (List.mem_of_getElem? (i := 0) rfl))
  exact h
set_option maxRecDepth 20000 in
theorem g_X12_gr7_90 {Q X : m_Po} {v0 v5 t t_1 : Int} {ε : m_E} {μ : m_M} (h : TY ε μ → i32 v5 → i32 t_1 → G cd_X12_gr7 Q X 95 [(0, (2, v0)), (5, (0, v5))] [(0, 1), (0, t_1), (2, t)] ε μ) : G cd_X12_gr7 Q X 90 [(0, (2, v0)), (5, (0, v5))] [(0, t_1), (2, t)] ε μ := by
  refine G_run (m_in [16, 39, 54, 67, 70, 87, 90, 94, 95, 96, 112]) 20 _ _ _ _ ?_
  show m_ty [(0, (2, v0)), (5, (0, v5))] [(0, t_1), (2, t)] ε μ → G cd_X12_gr7 Q X 95 [(0, (2, v0)), (5, (0, v5))] [(0, 1), (0, t_1), (2, t)] ε μ
  intro hty
  replace h := h hty.1 (hty.2.1 _ (List.mem_of_getElem? (i := 1) rfl)) (hty.2.2 _ (List.mem_of_getElem? (i := 0) rfl))
  exact h
set_option maxRecDepth 20000 in
theorem g_X12_gr7_87 {Q X : m_Po} {v0 v5 t t_1 t_2 : Int} {ε : m_E} {μ : m_M} (h : TY ε μ → i32 v5 → i32 t_1 → i32 t_2 → (t_2 = 0 → G cd_X12_gr7 Q X 94 [(0, (2, v0)), (5, (0, v5))] [(0, t_1), (2, t)] ε μ) ∧ (t_2 ≠ 0 → G cd_X12_gr7 Q X 90 [(0, (2, v0)), (5, (0, v5))] [(0, t_1), (2, t)] ε μ)) : G cd_X12_gr7 Q X 87 [(0, (2, v0)), (5, (0, v5))] [(0, t_2), (0, t_1), (2, t)] ε μ := by
  refine G_run (m_in [16, 39, 54, 67, 70, 87, 90, 94, 95, 96, 112]) 20 _ _ _ _ ?_
  show m_ty [(0, (2, v0)), (5, (0, v5))] [(0, t_2), (0, t_1), (2, t)] ε μ → (t_2 = 0 → G cd_X12_gr7 Q X 94 [(0, (2, v0)), (5, (0, v5))] [(0, t_1), (2, t)] ε μ) ∧ (t_2 ≠ 0 → G cd_X12_gr7 Q X 90 [(0, (2, v0)), (5, (0, v5))] [(0, t_1), (2, t)] ε μ)
  intro hty
  replace h := h hty.1 (hty.2.1 _ (List.mem_of_getElem? (i := 1) rfl)) (hty.2.2 _ (List.mem_of_getElem? (i := 1) rfl)) (hty.2.2 _ (List.mem_of_getElem? (i := 0) rfl))
  obtain ⟨ha, hb⟩ := h
  refine And.intro (fun c0 => ?_) (fun c0 => ?_)
  · replace h := ha c0
    clear ha hb
    exact h
  · replace h := hb c0
    clear ha hb
    exact h
set_option maxRecDepth 20000 in
theorem g_X12_gr7_70 {Q X : m_Po} {v0 v1 v2 v3 v4 v5 t t_1 : Int} {ε : m_E} {μ : m_M} (h : TY ε μ → i32 v1 → i32 v2 → i32 v3 → i32 v4 → i32 v5 → i32 t_1 → ((w32 (v4 - 1)) ≤ v3 → G cd_X12_gr7 Q X 94 [(0, (2, v0)), (5, (0, v5))] [(0, t_1), (2, t)] ε μ) ∧ (v3 < (w32 (v4 - 1)) → kd ε v0 = 11 ∧ o_X12_gr6 [(2, v0), (0, v1), (0, v2), (0, w32 (v3 + 1))] ε μ (fun z ε_1 μ_1 => G cd_X12_gr7 Q X 87 [(0, (2, v0)), (5, (0, v5))] [(0, z), (0, t_1), (2, t)] ε_1 μ_1) m_F)) : G cd_X12_gr7 Q X 70 [(0, (2, v0)), (1, (0, v1)), (2, (0, v2)), (3, (0, v3)), (4, (0, v4)), (5, (0, v5))] [(0, t_1), (2, t)] ε μ := by
  refine G_run (m_in [16, 39, 54, 67, 70, 87, 90, 94, 95, 96, 112]) 20 _ _ _ _ ?_
  show m_ty [(0, (2, v0)), (1, (0, v1)), (2, (0, v2)), (3, (0, v3)), (4, (0, v4)), (5, (0, v5))] [(0, t_1), (2, t)] ε μ → ((w32 (v4 - 1)) ≤ v3 → G cd_X12_gr7 Q X 94 [(0, (2, v0)), (5, (0, v5))] [(0, t_1), (2, t)] ε μ) ∧ (v3 < (w32 (v4 - 1)) → (m_ty [(0, (2, v0)), (1, (0, v1)), (2, (0, v2)), (3, (0, v3)), (5, (0, v5))] [(0, t_1), (2, t)] ε μ → (kd ε v0 = 11) ∧ o_X12_gr6 [(2, v0), (0, v1), (0, v2), (0, w32 (v3 + 1))] ε μ (fun z ε_1 μ_1 => G cd_X12_gr7 Q X 87 [(0, (2, v0)), (5, (0, v5))] [(0, z), (0, t_1), (2, t)] ε_1 μ_1) m_F))
  intro hty
  replace h := h hty.1 (hty.2.1 _ (List.mem_of_getElem? (i := 1) rfl)) (hty.2.1 _ (List.mem_of_getElem? (i := 2) rfl)) (hty.2.1 _ (List.mem_of_getElem? (i := 3) rfl)) (hty.2.1 _ (List.mem_of_getElem? (i := 4) rfl)) (hty.2.1 _ (List.mem_of_getElem? (i := 5) rfl)) (hty.2.2 _ (List.mem_of_getElem? (i := 0) rfl))
  obtain ⟨ha, hb⟩ := h
  refine And.intro (fun c1 => ?_) (fun c1 => ?_)
  · replace h := ha c1
    clear ha hb
    exact h
  · replace h := hb c1
    clear ha hb
    intro _
    obtain ⟨k1, h⟩ := h
    refine And.intro k1 ?_
    exact h
set_option maxRecDepth 20000 in
theorem g_X12_gr7_67 {Q X : m_Po} {v0 v1 v2 v3 v4 v5 t t_1 t_2 : Int} {ε : m_E} {μ : m_M} (h : TY ε μ → i32 v1 → i32 v2 → i32 v3 → i32 v4 → i32 v5 → i32 t_1 → i32 t_2 → (t_2 ≠ 0 → G cd_X12_gr7 Q X 90 [(0, (2, v0)), (5, (0, v5))] [(0, t_1), (2, t)] ε μ) ∧ (t_2 = 0 → G cd_X12_gr7 Q X 70 [(0, (2, v0)), (1, (0, v1)), (2, (0, v2)), (3, (0, v3)), (4, (0, v4)), (5, (0, v5))] [(0, t_1), (2, t)] ε μ)) : G cd_X12_gr7 Q X 67 [(0, (2, v0)), (1, (0, v1)), (2, (0, v2)), (3, (0, v3)), (4, (0, v4)), (5, (0, v5))] [(0, t_2), (0, t_1), (2, t)] ε μ := by
  refine G_run (m_in [16, 39, 54, 67, 70, 87, 90, 94, 95, 96, 112]) 20 _ _ _ _ ?_
  show m_ty [(0, (2, v0)), (1, (0, v1)), (2, (0, v2)), (3, (0, v3)), (4, (0, v4)), (5, (0, v5))] [(0, t_2), (0, t_1), (2, t)] ε μ → (t_2 ≠ 0 → G cd_X12_gr7 Q X 90 [(0, (2, v0)), (5, (0, v5))] [(0, t_1), (2, t)] ε μ) ∧ (t_2 = 0 → G cd_X12_gr7 Q X 70 [(0, (2, v0)), (1, (0, v1)), (2, (0, v2)), (3, (0, v3)), (4, (0, v4)), (5, (0, v5))] [(0, t_1), (2, t)] ε μ)
  intro hty
  replace h := h hty.1 (hty.2.1 _ (List.mem_of_getElem? (i := 1) rfl)) (hty.2.1 _ (List.mem_of_getElem? (i := 2) rfl)) (hty.2.1 _ (List.mem_of_getElem? (i := 3) rfl)) (hty.2.1 _ (List.mem_of_getElem? (i := 4) rfl)) (hty.2.1 _ (List.mem_of_getElem? (i := 5) rfl)) (hty.2.2 _ (List.mem_of_getElem? (i := 1) rfl)) (hty.2.2 _ (List.mem_of_getElem? (i := 0) rfl))
  obtain ⟨ha, hb⟩ := h
  refine And.intro (fun c0 => ?_) (fun c0 => ?_)
  · replace h := ha c0
    clear ha hb
    exact h
  · replace h := hb c0
    clear ha hb
    exact h
set_option maxRecDepth 20000 in
theorem g_X12_gr7_54 {Q X : m_Po} {v0 v1 v2 v3 v4 v5 t t_1 : Int} {ε : m_E} {μ : m_M} (h : TY ε μ → i32 v1 → i32 v2 → i32 v3 → i32 v4 → i32 v5 → i32 t_1 → (v2 ≤ 0 → G cd_X12_gr7 Q X 70 [(0, (2, v0)), (1, (0, v1)), (2, (0, v2)), (3, (0, v3)), (4, (0, v4)), (5, (0, v5))] [(0, t_1), (2, t)] ε μ) ∧ (0 < v2 → kd ε v0 = 11 ∧ o_X12_gr6 [(2, v0), (0, v1), (0, w32 (v2 - 1)), (0, v3)] ε μ (fun z ε_1 μ_1 => G cd_X12_gr7 Q X 67 [(0, (2, v0)), (1, (0, v1)), (2, (0, v2)), (3, (0, v3)), (4, (0, v4)), (5, (0, v5))] [(0, z), (0, t_1), (2, t)] ε_1 μ_1) m_F)) : G cd_X12_gr7 Q X 54 [(0, (2, v0)), (1, (0, v1)), (2, (0, v2)), (3, (0, v3)), (4, (0, v4)), (5, (0, v5))] [(0, t_1), (2, t)] ε μ := by
  refine G_run (m_in [16, 39, 54, 67, 70, 87, 90, 94, 95, 96, 112]) 20 _ _ _ _ ?_
  show m_ty [(0, (2, v0)), (1, (0, v1)), (2, (0, v2)), (3, (0, v3)), (4, (0, v4)), (5, (0, v5))] [(0, t_1), (2, t)] ε μ → (v2 ≤ 0 → G cd_X12_gr7 Q X 70 [(0, (2, v0)), (1, (0, v1)), (2, (0, v2)), (3, (0, v3)), (4, (0, v4)), (5, (0, v5))] [(0, t_1), (2, t)] ε μ) ∧ (0 < v2 → (m_ty [(0, (2, v0)), (1, (0, v1)), (2, (0, v2)), (3, (0, v3)), (4, (0, v4)), (5, (0, v5))] [(0, t_1), (2, t)] ε μ → (kd ε v0 = 11) ∧ o_X12_gr6 [(2, v0), (0, v1), (0, w32 (v2 - 1)), (0, v3)] ε μ (fun z ε_1 μ_1 => G cd_X12_gr7 Q X 67 [(0, (2, v0)), (1, (0, v1)), (2, (0, v2)), (3, (0, v3)), (4, (0, v4)), (5, (0, v5))] [(0, z), (0, t_1), (2, t)] ε_1 μ_1) m_F))
  intro hty
  replace h := h hty.1 (hty.2.1 _ (List.mem_of_getElem? (i := 1) rfl)) (hty.2.1 _ (List.mem_of_getElem? (i := 2) rfl)) (hty.2.1 _ (List.mem_of_getElem? (i := 3) rfl)) (hty.2.1 _ (List.mem_of_getElem? (i := 4) rfl)) (hty.2.1 _ (List.mem_of_getElem? (i := 5) rfl)) (hty.2.2 _ (List.mem_of_getElem? (i := 0) rfl))
  obtain ⟨ha, hb⟩ := h
  refine And.intro (fun c1 => ?_) (fun c1 => ?_)
  · replace h := ha c1
    clear ha hb
    exact h
  · replace h := hb c1
    clear ha hb
    intro _
    obtain ⟨k1, h⟩ := h
    refine And.intro k1 ?_
    exact h
set_option maxRecDepth 20000 in
theorem g_X12_gr7_39 {Q X : m_Po} {v0 v1 v2 v3 v4 v5 t t_1 t_2 : Int} {ε : m_E} {μ : m_M} (h : TY ε μ → i32 v1 → i32 v2 → i32 v3 → i32 v4 → i32 v5 → i32 t_1 → i32 t_2 → (t_2 = 0 → G cd_X12_gr7 Q X 94 [(0, (2, v0)), (5, (0, v5))] [(0, t_1), (2, t)] ε μ) ∧ (t_2 ≠ 0 → (v2 ≠ 0 → G cd_X12_gr7 Q X 54 [(0, (2, v0)), (1, (0, v1)), (2, (0, v2)), (3, (0, v3)), (4, (0, v4)), (5, (0, v5))] [(0, t_1), (2, t)] ε μ) ∧ (v2 = 0 → (v3 = (w32 (v4 - 1)) → G cd_X12_gr7 Q X 90 [(0, (2, v0)), (5, (0, v5))] [(0, t_1), (2, t)] ε μ) ∧ (v3 ≠ (w32 (v4 - 1)) → G cd_X12_gr7 Q X 54 [(0, (2, v0)), (1, (0, v1)), (2, (0, v2)), (3, (0, v3)), (4, (0, v4)), (5, (0, v5))] [(0, t_1), (2, t)] ε μ)))) : G cd_X12_gr7 Q X 39 [(0, (2, v0)), (1, (0, v1)), (2, (0, v2)), (3, (0, v3)), (4, (0, v4)), (5, (0, v5))] [(0, t_2), (0, t_1), (2, t)] ε μ := by
  refine G_run (m_in [16, 39, 54, 67, 70, 87, 90, 94, 95, 96, 112]) 20 _ _ _ _ ?_
  show m_ty [(0, (2, v0)), (1, (0, v1)), (2, (0, v2)), (3, (0, v3)), (4, (0, v4)), (5, (0, v5))] [(0, t_2), (0, t_1), (2, t)] ε μ → (t_2 = 0 → G cd_X12_gr7 Q X 94 [(0, (2, v0)), (5, (0, v5))] [(0, t_1), (2, t)] ε μ) ∧ (t_2 ≠ 0 → (m_ty [(0, (2, v0)), (1, (0, v1)), (2, (0, v2)), (3, (0, v3)), (4, (0, v4)), (5, (0, v5))] [(0, t_1), (2, t)] ε μ → (v2 ≠ 0 → G cd_X12_gr7 Q X 54 [(0, (2, v0)), (1, (0, v1)), (2, (0, v2)), (3, (0, v3)), (4, (0, v4)), (5, (0, v5))] [(0, t_1), (2, t)] ε μ) ∧ (v2 = 0 → (m_ty [(0, (2, v0)), (1, (0, v1)), (2, (0, v2)), (3, (0, v3)), (4, (0, v4)), (5, (0, v5))] [(0, t_1), (2, t)] ε μ → (v3 = (w32 (v4 - 1)) → G cd_X12_gr7 Q X 90 [(0, (2, v0)), (5, (0, v5))] [(0, t_1), (2, t)] ε μ) ∧ (v3 ≠ (w32 (v4 - 1)) → G cd_X12_gr7 Q X 54 [(0, (2, v0)), (1, (0, v1)), (2, (0, v2)), (3, (0, v3)), (4, (0, v4)), (5, (0, v5))] [(0, t_1), (2, t)] ε μ)))))
  intro hty
  replace h := h hty.1 (hty.2.1 _ (List.mem_of_getElem? (i := 1) rfl)) (hty.2.1 _ (List.mem_of_getElem? (i := 2) rfl)) (hty.2.1 _ (List.mem_of_getElem? (i := 3) rfl)) (hty.2.1 _ (List.mem_of_getElem? (i := 4) rfl)) (hty.2.1 _ (List.mem_of_getElem? (i := 5) rfl)) (hty.2.2 _ (List.mem_of_getElem? (i := 1) rfl)) (hty.2.2 _ (List.mem_of_getElem? (i := 0) rfl))
  obtain ⟨ha, hb⟩ := h
  refine And.intro (fun c2 => ?_) (fun c2 => ?_)
  · replace h := ha c2
    clear ha hb
    exact h
  · replace h := hb c2
    clear ha hb
    intro _
    obtain ⟨ha, hb⟩ := h
    refine And.intro (fun c1 => ?_) (fun c1 => ?_)
    · replace h := ha c1
      clear ha hb
      exact h
    · replace h := hb c1
      clear ha hb
      intro _
      obtain ⟨ha, hb⟩ := h
      refine And.intro (fun c0 => ?_) (fun c0 => ?_)
      · replace h := ha c0
        clear ha hb
        exact h
      · replace h := hb c0
        clear ha hb
        exact h
set_option maxRecDepth 20000 in
theorem g_X12_gr7_16 {Q X : m_Po} {v0 v1 v2 v3 v4 v5 : Int} {ε : m_E} {μ : m_M} (h : TY ε μ → i32 v1 → i32 v2 → i32 v3 → i32 v4 → i32 v5 → kd ε v0 = 11 ∧ kd ε (fn ε v0 65) = 100 ∧ (0 : Int) ≤ v5 ∧ v5 < ln ε (fn ε v0 65) ∧ ((μ (fn ε v0 65) v5) ≠ 0 → G cd_X12_gr7 Q X 96 [(0, (2, v0)), (5, (0, v5))] [] ε μ) ∧ ((μ (fn ε v0 65) v5) = 0 → o_X12_strikes [(2, v0), (0, v1), (0, v2), (0, v3)] ε μ (fun z ε_1 μ_1 => G cd_X12_gr7 Q X 39 [(0, (2, v0)), (1, (0, v1)), (2, (0, v2)), (3, (0, v3)), (4, (0, v4)), (5, (0, v5))] [(0, z), (0, v5), (2, fn ε v0 65)] ε_1 μ_1) m_F)) : G cd_X12_gr7 Q X 16 [(0, (2, v0)), (1, (0, v1)), (2, (0, v2)), (3, (0, v3)), (4, (0, v4)), (5, (0, v5))] [] ε μ := by
  refine G_run (m_in [16, 39, 54, 67, 70, 87, 90, 94, 95, 96, 112]) 20 _ _ _ _ ?_
  show m_ty [(0, (2, v0)), (1, (0, v1)), (2, (0, v2)), (3, (0, v3)), (4, (0, v4)), (5, (0, v5))] [] ε μ → (kd ε v0 = 11) ∧ (kd ε (fn ε v0 65) = 100) ∧ ((0 : Int) ≤ v5 ∧ v5 < ln ε (fn ε v0 65)) ∧ ((μ (fn ε v0 65) v5) ≠ 0 → G cd_X12_gr7 Q X 96 [(0, (2, v0)), (5, (0, v5))] [] ε μ) ∧ ((μ (fn ε v0 65) v5) = 0 → (m_ty [(0, (2, v0)), (1, (0, v1)), (2, (0, v2)), (3, (0, v3)), (4, (0, v4)), (5, (0, v5))] [] ε μ → (kd ε v0 = 11) ∧ (kd ε v0 = 11) ∧ o_X12_strikes [(2, v0), (0, v1), (0, v2), (0, v3)] ε μ (fun z ε_1 μ_1 => G cd_X12_gr7 Q X 39 [(0, (2, v0)), (1, (0, v1)), (2, (0, v2)), (3, (0, v3)), (4, (0, v4)), (5, (0, v5))] [(0, z), (0, v5), (2, fn ε v0 65)] ε_1 μ_1) m_F))
  intro hty
  replace h := h hty.1 (hty.2.1 _ (List.mem_of_getElem? (i := 1) rfl)) (hty.2.1 _ (List.mem_of_getElem? (i := 2) rfl)) (hty.2.1 _ (List.mem_of_getElem? (i := 3) rfl)) (hty.2.1 _ (List.mem_of_getElem? (i := 4) rfl)) (hty.2.1 _ (List.mem_of_getElem? (i := 5) rfl))
  obtain ⟨k1, h⟩ := h
  refine And.intro k1 ?_
  obtain ⟨k2, h⟩ := h
  refine And.intro k2 ?_
  obtain ⟨k3, h⟩ := h
  obtain ⟨k4, h⟩ := h
  refine And.intro (And.intro k3 k4) ?_
  obtain ⟨ha, hb⟩ := h
  refine And.intro (fun c4 => ?_) (fun c4 => ?_)
  · replace h := ha c4
    clear ha hb
    exact h
  · replace h := hb c4
    clear ha hb
    intro _
    refine And.intro k1 ?_
    refine And.intro k1 ?_
    exact h
set_option maxRecDepth 20000 in
theorem g_X12_gr7_0 {Q X : m_Po} {v0 v1 v2 v3 : Int} {ε : m_E} {μ : m_M} (h : TY ε μ → i32 v1 → i32 v2 → i32 v3 → kd ε v0 = 11 ∧ kd ε (fn ε v0 17) = 100 ∧ (0 : Int) ≤ v1 ∧ v1 < ln ε (fn ε v0 17) ∧ ∀ v4 : Int, v4 = μ (fn ε v0 17) v1 → ∀ v5 : Int, v5 = w32 ((w32 (10 * v2)) + v3) → kd ε v0 = 11 ∧ kd ε (fn ε v0 65) = 100 ∧ (0 : Int) ≤ v5 ∧ v5 < ln ε (fn ε v0 65) ∧ ((μ (fn ε v0 65) v5) ≠ 0 → G cd_X12_gr7 Q X 96 [(0, (2, v0)), (5, (0, v5))] [] ε μ) ∧ ((μ (fn ε v0 65) v5) = 0 → o_X12_strikes [(2, v0), (0, v1), (0, v2), (0, v3)] ε μ (fun z ε_1 μ_1 => G cd_X12_gr7 Q X 39 [(0, (2, v0)), (1, (0, v1)), (2, (0, v2)), (3, (0, v3)), (4, (0, v4)), (5, (0, v5))] [(0, z), (0, v5), (2, fn ε v0 65)] ε_1 μ_1) m_F)) : G cd_X12_gr7 Q X 0 [(0, (2, v0)), (1, (0, v1)), (2, (0, v2)), (3, (0, v3))] [] ε μ := by
  refine G_run (m_in [16, 39, 54, 67, 70, 87, 90, 94, 95, 96, 112]) 20 _ _ _ _ ?_
  show m_ty [(0, (2, v0)), (1, (0, v1)), (2, (0, v2)), (3, (0, v3))] [] ε μ → (kd ε v0 = 11) ∧ (kd ε (fn ε v0 17) = 100) ∧ ((0 : Int) ≤ v1 ∧ v1 < ln ε (fn ε v0 17)) ∧ ∀ v4 : Int, v4 = μ (fn ε v0 17) v1 → ∀ v5 : Int, v5 = w32 ((w32 (10 * v2)) + v3) → G cd_X12_gr7 Q X 16 [(0, (2, v0)), (1, (0, v1)), (2, (0, v2)), (3, (0, v3)), (4, (0, v4)), (5, (0, v5))] [] ε μ
  intro hty
  replace h := h hty.1 (hty.2.1 _ (List.mem_of_getElem? (i := 1) rfl)) (hty.2.1 _ (List.mem_of_getElem? (i := 2) rfl)) (hty.2.1 _ (List.mem_of_getElem? (i := 3) rfl))
  obtain ⟨k1, h⟩ := h
  refine And.intro k1 ?_
  obtain ⟨k2, h⟩ := h
  refine And.intro k2 ?_
  obtain ⟨k3, h⟩ := h
  obtain ⟨k4, h⟩ := h
  refine And.intro (And.intro k3 k4) ?_
  intro v4 e_v4
  replace h := h v4 e_v4
  intro v5 e_v5
  replace h := h v5 e_v5
  exact g_X12_gr7_16 (fun _ _ _ _ _ _ => h)
theorem e_X12_gr7 {Q X : m_Po} {v0 v1 v2 v3 : Int} {ε : m_E} {μ : m_M} (h : TY ε μ → i32 v1 → i32 v2 → i32 v3 → kd ε v0 = 11 ∧ kd ε (fn ε v0 17) = 100 ∧ (0 : Int) ≤ v1 ∧ v1 < ln ε (fn ε v0 17) ∧ ∀ v4 : Int, v4 = μ (fn ε v0 17) v1 → ∀ v5 : Int, v5 = w32 ((w32 (10 * v2)) + v3) → kd ε v0 = 11 ∧ kd ε (fn ε v0 65) = 100 ∧ (0 : Int) ≤ v5 ∧ v5 < ln ε (fn ε v0 65) ∧ ((μ (fn ε v0 65) v5) ≠ 0 → G cd_X12_gr7 Q X 96 [(0, (2, v0)), (5, (0, v5))] [] ε μ) ∧ ((μ (fn ε v0 65) v5) = 0 → o_X12_strikes [(2, v0), (0, v1), (0, v2), (0, v3)] ε μ (fun z ε_1 μ_1 => G cd_X12_gr7 Q X 39 [(0, (2, v0)), (1, (0, v1)), (2, (0, v2)), (3, (0, v3)), (4, (0, v4)), (5, (0, v5))] [(0, z), (0, v5), (2, fn ε v0 65)] ε_1 μ_1) m_F)) : o_X12_gr7 [(2, v0), (0, v1), (0, v2), (0, v3)] ε μ Q X := And.intro rfl (g_X12_gr7_0 h)
/-! ArchYardModel.grows(III)Z -/
set_option maxRecDepth 20000 in
theorem g_X12_gr8_112 {Q X : m_Po} {t : Int} {ε : m_E} {μ : m_M} (h : TY ε μ → i32 t → (t = 0 ∨ t = 1) ∧ Q t ε μ) : G cd_X12_gr8 Q X 112 [] [(0, t)] ε μ := by
  refine G_run (m_in [16, 39, 54, 67, 70, 87, 90, 94, 95, 96, 112]) 20 _ _ _ _ ?_
  show m_ty [] [(0, t)] ε μ → (t = 0 ∨ t = 1) ∧ Q t ε μ
  intro hty
  replace h := h hty.1 (hty.2.2 _ (List.mem_of_getElem? (i := 0) rfl))
  obtain ⟨k1, h⟩ := h
  refine And.intro k1 ?_
  exact h
set_option maxRecDepth 20000 in
theorem g_X12_gr8_96 {Q X : m_Po} {v0 v5 : Int} {ε : m_E} {μ : m_M} (h : TY ε μ → i32 v5 → kd ε v0 = 11 ∧ kd ε (fn ε v0 65) = 100 ∧ (0 : Int) ≤ v5 ∧ v5 < ln ε (fn ε v0 65) ∧ ∀ t : Int, t = (if (μ (fn ε v0 65) v5) = (1 : Int) then 1 else 0) → Q t ε μ) : G cd_X12_gr8 Q X 96 [(0, (2, v0)), (5, (0, v5))] [] ε μ := by
  refine G_run (m_in [16, 39, 54, 67, 70, 87, 90, 94, 95, 96, 112]) 20 _ _ _ _ ?_
  show m_ty [(0, (2, v0)), (5, (0, v5))] [] ε μ → (kd ε v0 = 11) ∧ (kd ε (fn ε v0 65) = 100) ∧ ((0 : Int) ≤ v5 ∧ v5 < ln ε (fn ε v0 65)) ∧ ((μ (fn ε v0 65) v5) ≠ (1 : Int) → (m_ty [] [] ε μ → G cd_X12_gr8 Q X 112 [] [(0, 0)] ε μ)) ∧ ((μ (fn ε v0 65) v5) = (1 : Int) → (m_ty [] [] ε μ → G cd_X12_gr8 Q X 112 [] [(0, 1)] ε μ))
  intro hty
  replace h := h hty.1 (hty.2.1 _ (List.mem_of_getElem? (i := 1) rfl))
  obtain ⟨k1, h⟩ := h
  refine And.intro k1 ?_
  obtain ⟨k2, h⟩ := h
  refine And.intro k2 ?_
  obtain ⟨k3, h⟩ := h
  obtain ⟨k4, h⟩ := h
  refine And.intro (And.intro k3 k4) ?_
  have hj := h
  refine And.intro (fun c4 => ?_) (fun c4 => ?_)
  · intro _
    exact g_X12_gr8_112 (fun _ _ => (And.intro (Or.inl rfl) (hj _ (((if_neg (c4)).trans rfl)).symm)))
  · intro _
    exact g_X12_gr8_112 (fun _ _ => (And.intro (Or.inr rfl) (hj _ (((if_pos c4).trans rfl)).symm)))
set_option maxRecDepth 20000 in
theorem g_X12_gr8_95 {Q X : m_Po} {v0 v5 t t_1 t_2 : Int} {ε : m_E} {μ : m_M} (h : TY ε μ → i32 v5 → i32 t_1 → i32 t_2 → kd ε t = 100 ∧ (0 : Int) ≤ t_1 ∧ t_1 < ln ε t ∧ ∀ μ_1 : m_M, μ_1 = st μ t t_1 t_2 → G cd_X12_gr8 Q X 96 [(0, (2, v0)), (5, (0, v5))] [] ε μ_1) : G cd_X12_gr8 Q X 95 [(0, (2, v0)), (5, (0, v5))] [(0, t_2), (0, t_1), (2, t)] ε μ := by
  refine G_run (m_in [16, 39, 54, 67, 70, 87, 90, 94, 95, 96, 112]) 20 _ _ _ _ ?_
  show m_ty [(0, (2, v0)), (5, (0, v5))] [(0, t_2), (0, t_1), (2, t)] ε μ → (kd ε t = 100) ∧ ((0 : Int) ≤ t_1 ∧ t_1 < ln ε t) ∧ ∀ μ_1 : m_M, μ_1 = st μ t t_1 t_2 → G cd_X12_gr8 Q X 96 [(0, (2, v0)), (5, (0, v5))] [] ε μ_1
  intro hty
  replace h := h hty.1 (hty.2.1 _ (List.mem_of_getElem? (i := 1) rfl)) (hty.2.2 _ (List.mem_of_getElem? (i := 1) rfl)) (hty.2.2 _ (List.mem_of_getElem? (i := 0) rfl))
  obtain ⟨k1, h⟩ := h
  refine And.intro k1 ?_
  obtain ⟨k2, h⟩ := h
  obtain ⟨k3, h⟩ := h
  refine And.intro (And.intro k2 k3) ?_
  intro μ_1 e_μ_1
  replace h := h μ_1 e_μ_1
  exact h
set_option maxRecDepth 20000 in
theorem g_X12_gr8_94 {Q X : m_Po} {v0 v5 t t_1 : Int} {ε : m_E} {μ : m_M} (h : TY ε μ → i32 v5 → i32 t_1 → G cd_X12_gr8 Q X 95 [(0, (2, v0)), (5, (0, v5))] [(0, 2), (0, t_1), (2, t)] ε μ) : G cd_X12_gr8 Q X 94 [(0, (2, v0)), (5, (0, v5))] [(0, t_1), (2, t)] ε μ := by
  refine G_run (m_in [16, 39, 54, 67, 70, 87, 90, 94, 95, 96, 112]) 20 _ _ _ _ ?_
  show m_ty [(0, (2, v0)), (5, (0, v5))] [(0, t_1), (2, t)] ε μ → G cd_X12_gr8 Q X 95 [(0, (2, v0)), (5, (0, v5))] [(0, 2), (0, t_1), (2, t)] ε μ
  intro hty
  replace h := h hty.1 (hty.2.1 _ (List.mem_of_getElem? (i := 1) rfl)) (hty.2.2 _ (List.mem_of_getElem? (i := 0) rfl))
  exact h
set_option maxRecDepth 20000 in
theorem g_X12_gr8_90 {Q X : m_Po} {v0 v5 t t_1 : Int} {ε : m_E} {μ : m_M} (h : TY ε μ → i32 v5 → i32 t_1 → G cd_X12_gr8 Q X 95 [(0, (2, v0)), (5, (0, v5))] [(0, 1), (0, t_1), (2, t)] ε μ) : G cd_X12_gr8 Q X 90 [(0, (2, v0)), (5, (0, v5))] [(0, t_1), (2, t)] ε μ := by
  refine G_run (m_in [16, 39, 54, 67, 70, 87, 90, 94, 95, 96, 112]) 20 _ _ _ _ ?_
  show m_ty [(0, (2, v0)), (5, (0, v5))] [(0, t_1), (2, t)] ε μ → G cd_X12_gr8 Q X 95 [(0, (2, v0)), (5, (0, v5))] [(0, 1), (0, t_1), (2, t)] ε μ
  intro hty
  replace h := h hty.1 (hty.2.1 _ (List.mem_of_getElem? (i := 1) rfl)) (hty.2.2 _ (List.mem_of_getElem? (i := 0) rfl))
  exact h
set_option maxRecDepth 20000 in
theorem g_X12_gr8_87 {Q X : m_Po} {v0 v5 t t_1 t_2 : Int} {ε : m_E} {μ : m_M} (h : TY ε μ → i32 v5 → i32 t_1 → i32 t_2 → (t_2 = 0 → G cd_X12_gr8 Q X 94 [(0, (2, v0)), (5, (0, v5))] [(0, t_1), (2, t)] ε μ) ∧ (t_2 ≠ 0 → G cd_X12_gr8 Q X 90 [(0, (2, v0)), (5, (0, v5))] [(0, t_1), (2, t)] ε μ)) : G cd_X12_gr8 Q X 87 [(0, (2, v0)), (5, (0, v5))] [(0, t_2), (0, t_1), (2, t)] ε μ := by
  refine G_run (m_in [16, 39, 54, 67, 70, 87, 90, 94, 95, 96, 112]) 20 _ _ _ _ ?_
  show m_ty [(0, (2, v0)), (5, (0, v5))] [(0, t_2), (0, t_1), (2, t)] ε μ → (t_2 = 0 → G cd_X12_gr8 Q X 94 [(0, (2, v0)), (5, (0, v5))] [(0, t_1), (2, t)] ε μ) ∧ (t_2 ≠ 0 → G cd_X12_gr8 Q X 90 [(0, (2, v0)), (5, (0, v5))] [(0, t_1), (2, t)] ε μ)
  intro hty
  replace h := h hty.1 (hty.2.1 _ (List.mem_of_getElem? (i := 1) rfl)) (hty.2.2 _ (List.mem_of_getElem? (i := 1) rfl)) (hty.2.2 _ (List.mem_of_getElem? (i := 0) rfl))
  obtain ⟨ha, hb⟩ := h
  refine And.intro (fun c0 => ?_) (fun c0 => ?_)
  · replace h := ha c0
    clear ha hb
    exact h
  · replace h := hb c0
    clear ha hb
    exact h
set_option maxRecDepth 20000 in
theorem g_X12_gr8_70 {Q X : m_Po} {v0 v1 v2 v3 v4 v5 t t_1 : Int} {ε : m_E} {μ : m_M} (h : TY ε μ → i32 v1 → i32 v2 → i32 v3 → i32 v4 → i32 v5 → i32 t_1 → ((w32 (v4 - 1)) ≤ v3 → G cd_X12_gr8 Q X 94 [(0, (2, v0)), (5, (0, v5))] [(0, t_1), (2, t)] ε μ) ∧ (v3 < (w32 (v4 - 1)) → kd ε v0 = 11 ∧ o_X12_gr7 [(2, v0), (0, v1), (0, v2), (0, w32 (v3 + 1))] ε μ (fun z ε_1 μ_1 => G cd_X12_gr8 Q X 87 [(0, (2, v0)), (5, (0, v5))] [(0, z), (0, t_1), (2, t)] ε_1 μ_1) m_F)) : G cd_X12_gr8 Q X 70 [(0, (2, v0)), (1, (0, v1)), (2, (0, v2)), (3, (0, v3)), (4, (0, v4)), (5, (0, v5))] [(0, t_1), (2, t)] ε μ := by
  refine G_run (m_in [16, 39, 54, 67, 70, 87, 90, 94, 95, 96, 112]) 20 _ _ _ _ ?_
  show m_ty [(0, (2, v0)), (1, (0, v1)), (2, (0, v2)), (3, (0, v3)), (4, (0, v4)), (5, (0, v5))] [(0, t_1), (2, t)] ε μ → ((w32 (v4 - 1)) ≤ v3 → G cd_X12_gr8 Q X 94 [(0, (2, v0)), (5, (0, v5))] [(0, t_1), (2, t)] ε μ) ∧ (v3 < (w32 (v4 - 1)) → (m_ty [(0, (2, v0)), (1, (0, v1)), (2, (0, v2)), (3, (0, v3)), (5, (0, v5))] [(0, t_1), (2, t)] ε μ → (kd ε v0 = 11) ∧ o_X12_gr7 [(2, v0), (0, v1), (0, v2), (0, w32 (v3 + 1))] ε μ (fun z ε_1 μ_1 => G cd_X12_gr8 Q X 87 [(0, (2, v0)), (5, (0, v5))] [(0, z), (0, t_1), (2, t)] ε_1 μ_1) m_F))
  intro hty
  replace h := h hty.1 (hty.2.1 _ (List.mem_of_getElem? (i := 1) rfl)) (hty.2.1 _ (List.mem_of_getElem? (i := 2) rfl)) (hty.2.1 _ (List.mem_of_getElem? (i := 3) rfl)) (hty.2.1 _ (List.mem_of_getElem? (i := 4) rfl)) (hty.2.1 _ (List.mem_of_getElem? (i := 5) rfl)) (hty.2.2 _ (List.mem_of_getElem? (i := 0) rfl))
  obtain ⟨ha, hb⟩ := h
  refine And.intro (fun c1 => ?_) (fun c1 => ?_)
  · replace h := ha c1
    clear ha hb
    exact h
  · replace h := hb c1
    clear ha hb
    intro _
    obtain ⟨k1, h⟩ := h
    refine And.intro k1 ?_
    exact h
set_option maxRecDepth 20000 in
theorem g_X12_gr8_67 {Q X : m_Po} {v0 v1 v2 v3 v4 v5 t t_1 t_2 : Int} {ε : m_E} {μ : m_M} (h : TY ε μ → i32 v1 → i32 v2 → i32 v3 → i32 v4 → i32 v5 → i32 t_1 → i32 t_2 → (t_2 ≠ 0 → G cd_X12_gr8 Q X 90 [(0, (2, v0)), (5, (0, v5))] [(0, t_1), (2, t)] ε μ) ∧ (t_2 = 0 → G cd_X12_gr8 Q X 70 [(0, (2, v0)), (1, (0, v1)), (2, (0, v2)), (3, (0, v3)), (4, (0, v4)), (5, (0, v5))] [(0, t_1), (2, t)] ε μ)) : G cd_X12_gr8 Q X 67 [(0, (2, v0)), (1, (0, v1)), (2, (0, v2)), (3, (0, v3)), (4, (0, v4)), (5, (0, v5))] [(0, t_2), (0, t_1), (2, t)] ε μ := by
  refine G_run (m_in [16, 39, 54, 67, 70, 87, 90, 94, 95, 96, 112]) 20 _ _ _ _ ?_
  show m_ty [(0, (2, v0)), (1, (0, v1)), (2, (0, v2)), (3, (0, v3)), (4, (0, v4)), (5, (0, v5))] [(0, t_2), (0, t_1), (2, t)] ε μ → (t_2 ≠ 0 → G cd_X12_gr8 Q X 90 [(0, (2, v0)), (5, (0, v5))] [(0, t_1), (2, t)] ε μ) ∧ (t_2 = 0 → G cd_X12_gr8 Q X 70 [(0, (2, v0)), (1, (0, v1)), (2, (0, v2)), (3, (0, v3)), (4, (0, v4)), (5, (0, v5))] [(0, t_1), (2, t)] ε μ)
  intro hty
  replace h := h hty.1 (hty.2.1 _ (List.mem_of_getElem? (i := 1) rfl)) (hty.2.1 _ (List.mem_of_getElem? (i := 2) rfl)) (hty.2.1 _ (List.mem_of_getElem? (i := 3) rfl)) (hty.2.1 _ (List.mem_of_getElem? (i := 4) rfl)) (hty.2.1 _ (List.mem_of_getElem? (i := 5) rfl)) (hty.2.2 _ (List.mem_of_getElem? (i := 1) rfl)) (hty.2.2 _ (List.mem_of_getElem? (i := 0) rfl))
  obtain ⟨ha, hb⟩ := h
  refine And.intro (fun c0 => ?_) (fun c0 => ?_)
  · replace h := ha c0
    clear ha hb
    exact h
  · replace h := hb c0
    clear ha hb
    exact h
set_option maxRecDepth 20000 in
theorem g_X12_gr8_54 {Q X : m_Po} {v0 v1 v2 v3 v4 v5 t t_1 : Int} {ε : m_E} {μ : m_M} (h : TY ε μ → i32 v1 → i32 v2 → i32 v3 → i32 v4 → i32 v5 → i32 t_1 → (v2 ≤ 0 → G cd_X12_gr8 Q X 70 [(0, (2, v0)), (1, (0, v1)), (2, (0, v2)), (3, (0, v3)), (4, (0, v4)), (5, (0, v5))] [(0, t_1), (2, t)] ε μ) ∧ (0 < v2 → kd ε v0 = 11 ∧ o_X12_gr7 [(2, v0), (0, v1), (0, w32 (v2 - 1)), (0, v3)] ε μ (fun z ε_1 μ_1 => G cd_X12_gr8 Q X 67 [(0, (2, v0)), (1, (0, v1)), (2, (0, v2)), (3, (0, v3)), (4, (0, v4)), (5, (0, v5))] [(0, z), (0, t_1), (2, t)] ε_1 μ_1) m_F)) : G cd_X12_gr8 Q X 54 [(0, (2, v0)), (1, (0, v1)), (2, (0, v2)), (3, (0, v3)), (4, (0, v4)), (5, (0, v5))] [(0, t_1), (2, t)] ε μ := by
  refine G_run (m_in [16, 39, 54, 67, 70, 87, 90, 94, 95, 96, 112]) 20 _ _ _ _ ?_
  show m_ty [(0, (2, v0)), (1, (0, v1)), (2, (0, v2)), (3, (0, v3)), (4, (0, v4)), (5, (0, v5))] [(0, t_1), (2, t)] ε μ → (v2 ≤ 0 → G cd_X12_gr8 Q X 70 [(0, (2, v0)), (1, (0, v1)), (2, (0, v2)), (3, (0, v3)), (4, (0, v4)), (5, (0, v5))] [(0, t_1), (2, t)] ε μ) ∧ (0 < v2 → (m_ty [(0, (2, v0)), (1, (0, v1)), (2, (0, v2)), (3, (0, v3)), (4, (0, v4)), (5, (0, v5))] [(0, t_1), (2, t)] ε μ → (kd ε v0 = 11) ∧ o_X12_gr7 [(2, v0), (0, v1), (0, w32 (v2 - 1)), (0, v3)] ε μ (fun z ε_1 μ_1 => G cd_X12_gr8 Q X 67 [(0, (2, v0)), (1, (0, v1)), (2, (0, v2)), (3, (0, v3)), (4, (0, v4)), (5, (0, v5))] [(0, z), (0, t_1), (2, t)] ε_1 μ_1) m_F))
  intro hty
  replace h := h hty.1 (hty.2.1 _ (List.mem_of_getElem? (i := 1) rfl)) (hty.2.1 _ (List.mem_of_getElem? (i := 2) rfl)) (hty.2.1 _ (List.mem_of_getElem? (i := 3) rfl)) (hty.2.1 _ (List.mem_of_getElem? (i := 4) rfl)) (hty.2.1 _ (List.mem_of_getElem? (i := 5) rfl)) (hty.2.2 _ (List.mem_of_getElem? (i := 0) rfl))
  obtain ⟨ha, hb⟩ := h
  refine And.intro (fun c1 => ?_) (fun c1 => ?_)
  · replace h := ha c1
    clear ha hb
    exact h
  · replace h := hb c1
    clear ha hb
    intro _
    obtain ⟨k1, h⟩ := h
    refine And.intro k1 ?_
    exact h
set_option maxRecDepth 20000 in
theorem g_X12_gr8_39 {Q X : m_Po} {v0 v1 v2 v3 v4 v5 t t_1 t_2 : Int} {ε : m_E} {μ : m_M} (h : TY ε μ → i32 v1 → i32 v2 → i32 v3 → i32 v4 → i32 v5 → i32 t_1 → i32 t_2 → (t_2 = 0 → G cd_X12_gr8 Q X 94 [(0, (2, v0)), (5, (0, v5))] [(0, t_1), (2, t)] ε μ) ∧ (t_2 ≠ 0 → (v2 ≠ 0 → G cd_X12_gr8 Q X 54 [(0, (2, v0)), (1, (0, v1)), (2, (0, v2)), (3, (0, v3)), (4, (0, v4)), (5, (0, v5))] [(0, t_1), (2, t)] ε μ) ∧ (v2 = 0 → (v3 = (w32 (v4 - 1)) → G cd_X12_gr8 Q X 90 [(0, (2, v0)), (5, (0, v5))] [(0, t_1), (2, t)] ε μ) ∧ (v3 ≠ (w32 (v4 - 1)) → G cd_X12_gr8 Q X 54 [(0, (2, v0)), (1, (0, v1)), (2, (0, v2)), (3, (0, v3)), (4, (0, v4)), (5, (0, v5))] [(0, t_1), (2, t)] ε μ)))) : G cd_X12_gr8 Q X 39 [(0, (2, v0)), (1, (0, v1)), (2, (0, v2)), (3, (0, v3)), (4, (0, v4)), (5, (0, v5))] [(0, t_2), (0, t_1), (2, t)] ε μ := by
  refine G_run (m_in [16, 39, 54, 67, 70, 87, 90, 94, 95, 96, 112]) 20 _ _ _ _ ?_
  show m_ty [(0, (2, v0)), (1, (0, v1)), (2, (0, v2)), (3, (0, v3)), (4, (0, v4)), (5, (0, v5))] [(0, t_2), (0, t_1), (2, t)] ε μ → (t_2 = 0 → G cd_X12_gr8 Q X 94 [(0, (2, v0)), (5, (0, v5))] [(0, t_1), (2, t)] ε μ) ∧ (t_2 ≠ 0 → (m_ty [(0, (2, v0)), (1, (0, v1)), (2, (0, v2)), (3, (0, v3)), (4, (0, v4)), (5, (0, v5))] [(0, t_1), (2, t)] ε μ → (v2 ≠ 0 → G cd_X12_gr8 Q X 54 [(0, (2, v0)), (1, (0, v1)), (2, (0, v2)), (3, (0, v3)), (4, (0, v4)), (5, (0, v5))] [(0, t_1), (2, t)] ε μ) ∧ (v2 = 0 → (m_ty [(0, (2, v0)), (1, (0, v1)), (2, (0, v2)), (3, (0, v3)), (4, (0, v4)), (5, (0, v5))] [(0, t_1), (2, t)] ε μ → (v3 = (w32 (v4 - 1)) → G cd_X12_gr8 Q X 90 [(0, (2, v0)), (5, (0, v5))] [(0, t_1), (2, t)] ε μ) ∧ (v3 ≠ (w32 (v4 - 1)) → G cd_X12_gr8 Q X 54 [(0, (2, v0)), (1, (0, v1)), (2, (0, v2)), (3, (0, v3)), (4, (0, v4)), (5, (0, v5))] [(0, t_1), (2, t)] ε μ)))))
  intro hty
  replace h := h hty.1 (hty.2.1 _ (List.mem_of_getElem? (i := 1) rfl)) (hty.2.1 _ (List.mem_of_getElem? (i := 2) rfl)) (hty.2.1 _ (List.mem_of_getElem? (i := 3) rfl)) (hty.2.1 _ (List.mem_of_getElem? (i := 4) rfl)) (hty.2.1 _ (List.mem_of_getElem? (i := 5) rfl)) (hty.2.2 _ (List.mem_of_getElem? (i := 1) rfl)) (hty.2.2 _ (List.mem_of_getElem? (i := 0) rfl))
  obtain ⟨ha, hb⟩ := h
  refine And.intro (fun c2 => ?_) (fun c2 => ?_)
  · replace h := ha c2
    clear ha hb
    exact h
  · replace h := hb c2
    clear ha hb
    intro _
    obtain ⟨ha, hb⟩ := h
    refine And.intro (fun c1 => ?_) (fun c1 => ?_)
    · replace h := ha c1
      clear ha hb
      exact h
    · replace h := hb c1
      clear ha hb
      intro _
      obtain ⟨ha, hb⟩ := h
      refine And.intro (fun c0 => ?_) (fun c0 => ?_)
      · replace h := ha c0
        clear ha hb
        exact h
      · replace h := hb c0
        clear ha hb
        exact h
set_option maxRecDepth 20000 in
theorem g_X12_gr8_16 {Q X : m_Po} {v0 v1 v2 v3 v4 v5 : Int} {ε : m_E} {μ : m_M} (h : TY ε μ → i32 v1 → i32 v2 → i32 v3 → i32 v4 → i32 v5 → kd ε v0 = 11 ∧ kd ε (fn ε v0 65) = 100 ∧ (0 : Int) ≤ v5 ∧ v5 < ln ε (fn ε v0 65) ∧ ((μ (fn ε v0 65) v5) ≠ 0 → G cd_X12_gr8 Q X 96 [(0, (2, v0)), (5, (0, v5))] [] ε μ) ∧ ((μ (fn ε v0 65) v5) = 0 → o_X12_strikes [(2, v0), (0, v1), (0, v2), (0, v3)] ε μ (fun z ε_1 μ_1 => G cd_X12_gr8 Q X 39 [(0, (2, v0)), (1, (0, v1)), (2, (0, v2)), (3, (0, v3)), (4, (0, v4)), (5, (0, v5))] [(0, z), (0, v5), (2, fn ε v0 65)] ε_1 μ_1) m_F)) : G cd_X12_gr8 Q X 16 [(0, (2, v0)), (1, (0, v1)), (2, (0, v2)), (3, (0, v3)), (4, (0, v4)), (5, (0, v5))] [] ε μ := by
  refine G_run (m_in [16, 39, 54, 67, 70, 87, 90, 94, 95, 96, 112]) 20 _ _ _ _ ?_
  show m_ty [(0, (2, v0)), (1, (0, v1)), (2, (0, v2)), (3, (0, v3)), (4, (0, v4)), (5, (0, v5))] [] ε μ → (kd ε v0 = 11) ∧ (kd ε (fn ε v0 65) = 100) ∧ ((0 : Int) ≤ v5 ∧ v5 < ln ε (fn ε v0 65)) ∧ ((μ (fn ε v0 65) v5) ≠ 0 → G cd_X12_gr8 Q X 96 [(0, (2, v0)), (5, (0, v5))] [] ε μ) ∧ ((μ (fn ε v0 65) v5) = 0 → (m_ty [(0, (2, v0)), (1, (0, v1)), (2, (0, v2)), (3, (0, v3)), (4, (0, v4)), (5, (0, v5))] [] ε μ → (kd ε v0 = 11) ∧ (kd ε v0 = 11) ∧ o_X12_strikes [(2, v0), (0, v1), (0, v2), (0, v3)] ε μ (fun z ε_1 μ_1 => G cd_X12_gr8 Q X 39 [(0, (2, v0)), (1, (0, v1)), (2, (0, v2)), (3, (0, v3)), (4, (0, v4)), (5, (0, v5))] [(0, z), (0, v5), (2, fn ε v0 65)] ε_1 μ_1) m_F))
  intro hty
  replace h := h hty.1 (hty.2.1 _ (List.mem_of_getElem? (i := 1) rfl)) (hty.2.1 _ (List.mem_of_getElem? (i := 2) rfl)) (hty.2.1 _ (List.mem_of_getElem? (i := 3) rfl)) (hty.2.1 _ (List.mem_of_getElem? (i := 4) rfl)) (hty.2.1 _ (List.mem_of_getElem? (i := 5) rfl))
  obtain ⟨k1, h⟩ := h
  refine And.intro k1 ?_
  obtain ⟨k2, h⟩ := h
  refine And.intro k2 ?_
  obtain ⟨k3, h⟩ := h
  obtain ⟨k4, h⟩ := h
  refine And.intro (And.intro k3 k4) ?_
  obtain ⟨ha, hb⟩ := h
  refine And.intro (fun c4 => ?_) (fun c4 => ?_)
  · replace h := ha c4
    clear ha hb
    exact h
  · replace h := hb c4
    clear ha hb
    intro _
    refine And.intro k1 ?_
    refine And.intro k1 ?_
    exact h
set_option maxRecDepth 20000 in
theorem g_X12_gr8_0 {Q X : m_Po} {v0 v1 v2 v3 : Int} {ε : m_E} {μ : m_M} (h : TY ε μ → i32 v1 → i32 v2 → i32 v3 → kd ε v0 = 11 ∧ kd ε (fn ε v0 17) = 100 ∧ (0 : Int) ≤ v1 ∧ v1 < ln ε (fn ε v0 17) ∧ ∀ v4 : Int, v4 = μ (fn ε v0 17) v1 → ∀ v5 : Int, v5 = w32 ((w32 (10 * v2)) + v3) → kd ε v0 = 11 ∧ kd ε (fn ε v0 65) = 100 ∧ (0 : Int) ≤ v5 ∧ v5 < ln ε (fn ε v0 65) ∧ ((μ (fn ε v0 65) v5) ≠ 0 → G cd_X12_gr8 Q X 96 [(0, (2, v0)), (5, (0, v5))] [] ε μ) ∧ ((μ (fn ε v0 65) v5) = 0 → o_X12_strikes [(2, v0), (0, v1), (0, v2), (0, v3)] ε μ (fun z ε_1 μ_1 => G cd_X12_gr8 Q X 39 [(0, (2, v0)), (1, (0, v1)), (2, (0, v2)), (3, (0, v3)), (4, (0, v4)), (5, (0, v5))] [(0, z), (0, v5), (2, fn ε v0 65)] ε_1 μ_1) m_F)) : G cd_X12_gr8 Q X 0 [(0, (2, v0)), (1, (0, v1)), (2, (0, v2)), (3, (0, v3))] [] ε μ := by
  refine G_run (m_in [16, 39, 54, 67, 70, 87, 90, 94, 95, 96, 112]) 20 _ _ _ _ ?_
  show m_ty [(0, (2, v0)), (1, (0, v1)), (2, (0, v2)), (3, (0, v3))] [] ε μ → (kd ε v0 = 11) ∧ (kd ε (fn ε v0 17) = 100) ∧ ((0 : Int) ≤ v1 ∧ v1 < ln ε (fn ε v0 17)) ∧ ∀ v4 : Int, v4 = μ (fn ε v0 17) v1 → ∀ v5 : Int, v5 = w32 ((w32 (10 * v2)) + v3) → G cd_X12_gr8 Q X 16 [(0, (2, v0)), (1, (0, v1)), (2, (0, v2)), (3, (0, v3)), (4, (0, v4)), (5, (0, v5))] [] ε μ
  intro hty
  replace h := h hty.1 (hty.2.1 _ (List.mem_of_getElem? (i := 1) rfl)) (hty.2.1 _ (List.mem_of_getElem? (i := 2) rfl)) (hty.2.1 _ (List.mem_of_getElem? (i := 3) rfl))
  obtain ⟨k1, h⟩ := h
  refine And.intro k1 ?_
  obtain ⟨k2, h⟩ := h
  refine And.intro k2 ?_
  obtain ⟨k3, h⟩ := h
  obtain ⟨k4, h⟩ := h
  refine And.intro (And.intro k3 k4) ?_
  intro v4 e_v4
  replace h := h v4 e_v4
  intro v5 e_v5
  replace h := h v5 e_v5
  exact g_X12_gr8_16 (fun _ _ _ _ _ _ => h)
theorem e_X12_gr8 {Q X : m_Po} {v0 v1 v2 v3 : Int} {ε : m_E} {μ : m_M} (h : TY ε μ → i32 v1 → i32 v2 → i32 v3 → kd ε v0 = 11 ∧ kd ε (fn ε v0 17) = 100 ∧ (0 : Int) ≤ v1 ∧ v1 < ln ε (fn ε v0 17) ∧ ∀ v4 : Int, v4 = μ (fn ε v0 17) v1 → ∀ v5 : Int, v5 = w32 ((w32 (10 * v2)) + v3) → kd ε v0 = 11 ∧ kd ε (fn ε v0 65) = 100 ∧ (0 : Int) ≤ v5 ∧ v5 < ln ε (fn ε v0 65) ∧ ((μ (fn ε v0 65) v5) ≠ 0 → G cd_X12_gr8 Q X 96 [(0, (2, v0)), (5, (0, v5))] [] ε μ) ∧ ((μ (fn ε v0 65) v5) = 0 → o_X12_strikes [(2, v0), (0, v1), (0, v2), (0, v3)] ε μ (fun z ε_1 μ_1 => G cd_X12_gr8 Q X 39 [(0, (2, v0)), (1, (0, v1)), (2, (0, v2)), (3, (0, v3)), (4, (0, v4)), (5, (0, v5))] [(0, z), (0, v5), (2, fn ε v0 65)] ε_1 μ_1) m_F)) : o_X12_gr8 [(2, v0), (0, v1), (0, v2), (0, v3)] ε μ Q X := And.intro rfl (g_X12_gr8_0 h)
/-! ArchYardModel.grows(III)Z -/
set_option maxRecDepth 20000 in
theorem g_X12_gr9_112 {Q X : m_Po} {t : Int} {ε : m_E} {μ : m_M} (h : TY ε μ → i32 t → (t = 0 ∨ t = 1) ∧ Q t ε μ) : G cd_X12_gr9 Q X 112 [] [(0, t)] ε μ := by
  refine G_run (m_in [16, 39, 54, 67, 70, 87, 90, 94, 95, 96, 112]) 20 _ _ _ _ ?_
  show m_ty [] [(0, t)] ε μ → (t = 0 ∨ t = 1) ∧ Q t ε μ
  intro hty
  replace h := h hty.1 (hty.2.2 _ (List.mem_of_getElem? (i := 0) rfl))
  obtain ⟨k1, h⟩ := h
  refine And.intro k1 ?_
  exact h
set_option maxRecDepth 20000 in
theorem g_X12_gr9_96 {Q X : m_Po} {v0 v5 : Int} {ε : m_E} {μ : m_M} (h : TY ε μ → i32 v5 → kd ε v0 = 11 ∧ kd ε (fn ε v0 65) = 100 ∧ (0 : Int) ≤ v5 ∧ v5 < ln ε (fn ε v0 65) ∧ ∀ t : Int, t = (if (μ (fn ε v0 65) v5) = (1 : Int) then 1 else 0) → Q t ε μ) : G cd_X12_gr9 Q X 96 [(0, (2, v0)), (5, (0, v5))] [] ε μ := by
  refine G_run (m_in [16, 39, 54, 67, 70, 87, 90, 94, 95, 96, 112]) 20 _ _ _ _ ?_
  show m_ty [(0, (2, v0)), (5, (0, v5))] [] ε μ → (kd ε v0 = 11) ∧ (kd ε (fn ε v0 65) = 100) ∧ ((0 : Int) ≤ v5 ∧ v5 < ln ε (fn ε v0 65)) ∧ ((μ (fn ε v0 65) v5) ≠ (1 : Int) → (m_ty [] [] ε μ → G cd_X12_gr9 Q X 112 [] [(0, 0)] ε μ)) ∧ ((μ (fn ε v0 65) v5) = (1 : Int) → (m_ty [] [] ε μ → G cd_X12_gr9 Q X 112 [] [(0, 1)] ε μ))
  intro hty
  replace h := h hty.1 (hty.2.1 _ (List.mem_of_getElem? (i := 1) rfl))
  obtain ⟨k1, h⟩ := h
  refine And.intro k1 ?_
  obtain ⟨k2, h⟩ := h
  refine And.intro k2 ?_
  obtain ⟨k3, h⟩ := h
  obtain ⟨k4, h⟩ := h
  refine And.intro (And.intro k3 k4) ?_
  have hj := h
  refine And.intro (fun c4 => ?_) (fun c4 => ?_)
  · intro _
    exact g_X12_gr9_112 (fun _ _ => (And.intro (Or.inl rfl) (hj _ (((if_neg (c4)).trans rfl)).symm)))
  · intro _
    exact g_X12_gr9_112 (fun _ _ => (And.intro (Or.inr rfl) (hj _ (((if_pos c4).trans rfl)).symm)))
set_option maxRecDepth 20000 in
theorem g_X12_gr9_95 {Q X : m_Po} {v0 v5 t t_1 t_2 : Int} {ε : m_E} {μ : m_M} (h : TY ε μ → i32 v5 → i32 t_1 → i32 t_2 → kd ε t = 100 ∧ (0 : Int) ≤ t_1 ∧ t_1 < ln ε t ∧ ∀ μ_1 : m_M, μ_1 = st μ t t_1 t_2 → G cd_X12_gr9 Q X 96 [(0, (2, v0)), (5, (0, v5))] [] ε μ_1) : G cd_X12_gr9 Q X 95 [(0, (2, v0)), (5, (0, v5))] [(0, t_2), (0, t_1), (2, t)] ε μ := by
  refine G_run (m_in [16, 39, 54, 67, 70, 87, 90, 94, 95, 96, 112]) 20 _ _ _ _ ?_
  show m_ty [(0, (2, v0)), (5, (0, v5))] [(0, t_2), (0, t_1), (2, t)] ε μ → (kd ε t = 100) ∧ ((0 : Int) ≤ t_1 ∧ t_1 < ln ε t) ∧ ∀ μ_1 : m_M, μ_1 = st μ t t_1 t_2 → G cd_X12_gr9 Q X 96 [(0, (2, v0)), (5, (0, v5))] [] ε μ_1
  intro hty
  replace h := h hty.1 (hty.2.1 _ (List.mem_of_getElem? (i := 1) rfl)) (hty.2.2 _ (List.mem_of_getElem? (i := 1) rfl)) (hty.2.2 _ (List.mem_of_getElem? (i := 0) rfl))
  obtain ⟨k1, h⟩ := h
  refine And.intro k1 ?_
  obtain ⟨k2, h⟩ := h
  obtain ⟨k3, h⟩ := h
  refine And.intro (And.intro k2 k3) ?_
  intro μ_1 e_μ_1
  replace h := h μ_1 e_μ_1
  exact h
set_option maxRecDepth 20000 in
theorem g_X12_gr9_94 {Q X : m_Po} {v0 v5 t t_1 : Int} {ε : m_E} {μ : m_M} (h : TY ε μ → i32 v5 → i32 t_1 → G cd_X12_gr9 Q X 95 [(0, (2, v0)), (5, (0, v5))] [(0, 2), (0, t_1), (2, t)] ε μ) : G cd_X12_gr9 Q X 94 [(0, (2, v0)), (5, (0, v5))] [(0, t_1), (2, t)] ε μ := by
  refine G_run (m_in [16, 39, 54, 67, 70, 87, 90, 94, 95, 96, 112]) 20 _ _ _ _ ?_
  show m_ty [(0, (2, v0)), (5, (0, v5))] [(0, t_1), (2, t)] ε μ → G cd_X12_gr9 Q X 95 [(0, (2, v0)), (5, (0, v5))] [(0, 2), (0, t_1), (2, t)] ε μ
  intro hty
  replace h := h hty.1 (hty.2.1 _ (List.mem_of_getElem? (i := 1) rfl)) (hty.2.2 _ (List.mem_of_getElem? (i := 0) rfl))
  exact h
set_option maxRecDepth 20000 in
theorem g_X12_gr9_90 {Q X : m_Po} {v0 v5 t t_1 : Int} {ε : m_E} {μ : m_M} (h : TY ε μ → i32 v5 → i32 t_1 → G cd_X12_gr9 Q X 95 [(0, (2, v0)), (5, (0, v5))] [(0, 1), (0, t_1), (2, t)] ε μ) : G cd_X12_gr9 Q X 90 [(0, (2, v0)), (5, (0, v5))] [(0, t_1), (2, t)] ε μ := by
  refine G_run (m_in [16, 39, 54, 67, 70, 87, 90, 94, 95, 96, 112]) 20 _ _ _ _ ?_
  show m_ty [(0, (2, v0)), (5, (0, v5))] [(0, t_1), (2, t)] ε μ → G cd_X12_gr9 Q X 95 [(0, (2, v0)), (5, (0, v5))] [(0, 1), (0, t_1), (2, t)] ε μ
  intro hty
  replace h := h hty.1 (hty.2.1 _ (List.mem_of_getElem? (i := 1) rfl)) (hty.2.2 _ (List.mem_of_getElem? (i := 0) rfl))
  exact h
set_option maxRecDepth 20000 in
theorem g_X12_gr9_87 {Q X : m_Po} {v0 v5 t t_1 t_2 : Int} {ε : m_E} {μ : m_M} (h : TY ε μ → i32 v5 → i32 t_1 → i32 t_2 → (t_2 = 0 → G cd_X12_gr9 Q X 94 [(0, (2, v0)), (5, (0, v5))] [(0, t_1), (2, t)] ε μ) ∧ (t_2 ≠ 0 → G cd_X12_gr9 Q X 90 [(0, (2, v0)), (5, (0, v5))] [(0, t_1), (2, t)] ε μ)) : G cd_X12_gr9 Q X 87 [(0, (2, v0)), (5, (0, v5))] [(0, t_2), (0, t_1), (2, t)] ε μ := by
  refine G_run (m_in [16, 39, 54, 67, 70, 87, 90, 94, 95, 96, 112]) 20 _ _ _ _ ?_
  show m_ty [(0, (2, v0)), (5, (0, v5))] [(0, t_2), (0, t_1), (2, t)] ε μ → (t_2 = 0 → G cd_X12_gr9 Q X 94 [(0, (2, v0)), (5, (0, v5))] [(0, t_1), (2, t)] ε μ) ∧ (t_2 ≠ 0 → G cd_X12_gr9 Q X 90 [(0, (2, v0)), (5, (0, v5))] [(0, t_1), (2, t)] ε μ)
  intro hty
  replace h := h hty.1 (hty.2.1 _ (List.mem_of_getElem? (i := 1) rfl)) (hty.2.2 _ (List.mem_of_getElem? (i := 1) rfl)) (hty.2.2 _ (List.mem_of_getElem? (i := 0) rfl))
  obtain ⟨ha, hb⟩ := h
  refine And.intro (fun c0 => ?_) (fun c0 => ?_)
  · replace h := ha c0
    clear ha hb
    exact h
  · replace h := hb c0
    clear ha hb
    exact h
set_option maxRecDepth 20000 in
theorem g_X12_gr9_70 {Q X : m_Po} {v0 v1 v2 v3 v4 v5 t t_1 : Int} {ε : m_E} {μ : m_M} (h : TY ε μ → i32 v1 → i32 v2 → i32 v3 → i32 v4 → i32 v5 → i32 t_1 → ((w32 (v4 - 1)) ≤ v3 → G cd_X12_gr9 Q X 94 [(0, (2, v0)), (5, (0, v5))] [(0, t_1), (2, t)] ε μ) ∧ (v3 < (w32 (v4 - 1)) → kd ε v0 = 11 ∧ o_X12_gr8 [(2, v0), (0, v1), (0, v2), (0, w32 (v3 + 1))] ε μ (fun z ε_1 μ_1 => G cd_X12_gr9 Q X 87 [(0, (2, v0)), (5, (0, v5))] [(0, z), (0, t_1), (2, t)] ε_1 μ_1) m_F)) : G cd_X12_gr9 Q X 70 [(0, (2, v0)), (1, (0, v1)), (2, (0, v2)), (3, (0, v3)), (4, (0, v4)), (5, (0, v5))] [(0, t_1), (2, t)] ε μ := by
  refine G_run (m_in [16, 39, 54, 67, 70, 87, 90, 94, 95, 96, 112]) 20 _ _ _ _ ?_
  show m_ty [(0, (2, v0)), (1, (0, v1)), (2, (0, v2)), (3, (0, v3)), (4, (0, v4)), (5, (0, v5))] [(0, t_1), (2, t)] ε μ → ((w32 (v4 - 1)) ≤ v3 → G cd_X12_gr9 Q X 94 [(0, (2, v0)), (5, (0, v5))] [(0, t_1), (2, t)] ε μ) ∧ (v3 < (w32 (v4 - 1)) → (m_ty [(0, (2, v0)), (1, (0, v1)), (2, (0, v2)), (3, (0, v3)), (5, (0, v5))] [(0, t_1), (2, t)] ε μ → (kd ε v0 = 11) ∧ o_X12_gr8 [(2, v0), (0, v1), (0, v2), (0, w32 (v3 + 1))] ε μ (fun z ε_1 μ_1 => G cd_X12_gr9 Q X 87 [(0, (2, v0)), (5, (0, v5))] [(0, z), (0, t_1), (2, t)] ε_1 μ_1) m_F))
  intro hty
  replace h := h hty.1 (hty.2.1 _ (List.mem_of_getElem? (i := 1) rfl)) (hty.2.1 _ (List.mem_of_getElem? (i := 2) rfl)) (hty.2.1 _ (List.mem_of_getElem? (i := 3) rfl)) (hty.2.1 _ (List.mem_of_getElem? (i := 4) rfl)) (hty.2.1 _ (List.mem_of_getElem? (i := 5) rfl)) (hty.2.2 _ (List.mem_of_getElem? (i := 0) rfl))
  obtain ⟨ha, hb⟩ := h
  refine And.intro (fun c1 => ?_) (fun c1 => ?_)
  · replace h := ha c1
    clear ha hb
    exact h
  · replace h := hb c1
    clear ha hb
    intro _
    obtain ⟨k1, h⟩ := h
    refine And.intro k1 ?_
    exact h
set_option maxRecDepth 20000 in
theorem g_X12_gr9_67 {Q X : m_Po} {v0 v1 v2 v3 v4 v5 t t_1 t_2 : Int} {ε : m_E} {μ : m_M} (h : TY ε μ → i32 v1 → i32 v2 → i32 v3 → i32 v4 → i32 v5 → i32 t_1 → i32 t_2 → (t_2 ≠ 0 → G cd_X12_gr9 Q X 90 [(0, (2, v0)), (5, (0, v5))] [(0, t_1), (2, t)] ε μ) ∧ (t_2 = 0 → G cd_X12_gr9 Q X 70 [(0, (2, v0)), (1, (0, v1)), (2, (0, v2)), (3, (0, v3)), (4, (0, v4)), (5, (0, v5))] [(0, t_1), (2, t)] ε μ)) : G cd_X12_gr9 Q X 67 [(0, (2, v0)), (1, (0, v1)), (2, (0, v2)), (3, (0, v3)), (4, (0, v4)), (5, (0, v5))] [(0, t_2), (0, t_1), (2, t)] ε μ := by
  refine G_run (m_in [16, 39, 54, 67, 70, 87, 90, 94, 95, 96, 112]) 20 _ _ _ _ ?_
  show m_ty [(0, (2, v0)), (1, (0, v1)), (2, (0, v2)), (3, (0, v3)), (4, (0, v4)), (5, (0, v5))] [(0, t_2), (0, t_1), (2, t)] ε μ → (t_2 ≠ 0 → G cd_X12_gr9 Q X 90 [(0, (2, v0)), (5, (0, v5))] [(0, t_1), (2, t)] ε μ) ∧ (t_2 = 0 → G cd_X12_gr9 Q X 70 [(0, (2, v0)), (1, (0, v1)), (2, (0, v2)), (3, (0, v3)), (4, (0, v4)), (5, (0, v5))] [(0, t_1), (2, t)] ε μ)
  intro hty
  replace h := h hty.1 (hty.2.1 _ (List.mem_of_getElem? (i := 1) rfl)) (hty.2.1 _ (List.mem_of_getElem? (i := 2) rfl)) (hty.2.1 _ (List.mem_of_getElem? (i := 3) rfl)) (hty.2.1 _ (List.mem_of_getElem? (i := 4) rfl)) (hty.2.1 _ (List.mem_of_getElem? (i := 5) rfl)) (hty.2.2 _ (List.mem_of_getElem? (i := 1) rfl)) (hty.2.2 _ (List.mem_of_getElem? (i := 0) rfl))
  obtain ⟨ha, hb⟩ := h
  refine And.intro (fun c0 => ?_) (fun c0 => ?_)
  · replace h := ha c0
    clear ha hb
    exact h
  · replace h := hb c0
    clear ha hb
    exact h
set_option maxRecDepth 20000 in
theorem g_X12_gr9_54 {Q X : m_Po} {v0 v1 v2 v3 v4 v5 t t_1 : Int} {ε : m_E} {μ : m_M} (h : TY ε μ → i32 v1 → i32 v2 → i32 v3 → i32 v4 → i32 v5 → i32 t_1 → (v2 ≤ 0 → G cd_X12_gr9 Q X 70 [(0, (2, v0)), (1, (0, v1)), (2, (0, v2)), (3, (0, v3)), (4, (0, v4)), (5, (0, v5))] [(0, t_1), (2, t)] ε μ) ∧ (0 < v2 → kd ε v0 = 11 ∧ o_X12_gr8 [(2, v0), (0, v1), (0, w32 (v2 - 1)), (0, v3)] ε μ (fun z ε_1 μ_1 => G cd_X12_gr9 Q X 67 [(0, (2, v0)), (1, (0, v1)), (2, (0, v2)), (3, (0, v3)), (4, (0, v4)), (5, (0, v5))] [(0, z), (0, t_1), (2, t)] ε_1 μ_1) m_F)) : G cd_X12_gr9 Q X 54 [(0, (2, v0)), (1, (0, v1)), (2, (0, v2)), (3, (0, v3)), (4, (0, v4)), (5, (0, v5))] [(0, t_1), (2, t)] ε μ := by
  refine G_run (m_in [16, 39, 54, 67, 70, 87, 90, 94, 95, 96, 112]) 20 _ _ _ _ ?_
  show m_ty [(0, (2, v0)), (1, (0, v1)), (2, (0, v2)), (3, (0, v3)), (4, (0, v4)), (5, (0, v5))] [(0, t_1), (2, t)] ε μ → (v2 ≤ 0 → G cd_X12_gr9 Q X 70 [(0, (2, v0)), (1, (0, v1)), (2, (0, v2)), (3, (0, v3)), (4, (0, v4)), (5, (0, v5))] [(0, t_1), (2, t)] ε μ) ∧ (0 < v2 → (m_ty [(0, (2, v0)), (1, (0, v1)), (2, (0, v2)), (3, (0, v3)), (4, (0, v4)), (5, (0, v5))] [(0, t_1), (2, t)] ε μ → (kd ε v0 = 11) ∧ o_X12_gr8 [(2, v0), (0, v1), (0, w32 (v2 - 1)), (0, v3)] ε μ (fun z ε_1 μ_1 => G cd_X12_gr9 Q X 67 [(0, (2, v0)), (1, (0, v1)), (2, (0, v2)), (3, (0, v3)), (4, (0, v4)), (5, (0, v5))] [(0, z), (0, t_1), (2, t)] ε_1 μ_1) m_F))
  intro hty
  replace h := h hty.1 (hty.2.1 _ (List.mem_of_getElem? (i := 1) rfl)) (hty.2.1 _ (List.mem_of_getElem? (i := 2) rfl)) (hty.2.1 _ (List.mem_of_getElem? (i := 3) rfl)) (hty.2.1 _ (List.mem_of_getElem? (i := 4) rfl)) (hty.2.1 _ (List.mem_of_getElem? (i := 5) rfl)) (hty.2.2 _ (List.mem_of_getElem? (i := 0) rfl))
  obtain ⟨ha, hb⟩ := h
  refine And.intro (fun c1 => ?_) (fun c1 => ?_)
  · replace h := ha c1
    clear ha hb
    exact h
  · replace h := hb c1
    clear ha hb
    intro _
    obtain ⟨k1, h⟩ := h
    refine And.intro k1 ?_
    exact h
set_option maxRecDepth 20000 in
theorem g_X12_gr9_39 {Q X : m_Po} {v0 v1 v2 v3 v4 v5 t t_1 t_2 : Int} {ε : m_E} {μ : m_M} (h : TY ε μ → i32 v1 → i32 v2 → i32 v3 → i32 v4 → i32 v5 → i32 t_1 → i32 t_2 → (t_2 = 0 → G cd_X12_gr9 Q X 94 [(0, (2, v0)), (5, (0, v5))] [(0, t_1), (2, t)] ε μ) ∧ (t_2 ≠ 0 → (v2 ≠ 0 → G cd_X12_gr9 Q X 54 [(0, (2, v0)), (1, (0, v1)), (2, (0, v2)), (3, (0, v3)), (4, (0, v4)), (5, (0, v5))] [(0, t_1), (2, t)] ε μ) ∧ (v2 = 0 → (v3 = (w32 (v4 - 1)) → G cd_X12_gr9 Q X 90 [(0, (2, v0)), (5, (0, v5))] [(0, t_1), (2, t)] ε μ) ∧ (v3 ≠ (w32 (v4 - 1)) → G cd_X12_gr9 Q X 54 [(0, (2, v0)), (1, (0, v1)), (2, (0, v2)), (3, (0, v3)), (4, (0, v4)), (5, (0, v5))] [(0, t_1), (2, t)] ε μ)))) : G cd_X12_gr9 Q X 39 [(0, (2, v0)), (1, (0, v1)), (2, (0, v2)), (3, (0, v3)), (4, (0, v4)), (5, (0, v5))] [(0, t_2), (0, t_1), (2, t)] ε μ := by
  refine G_run (m_in [16, 39, 54, 67, 70, 87, 90, 94, 95, 96, 112]) 20 _ _ _ _ ?_
  show m_ty [(0, (2, v0)), (1, (0, v1)), (2, (0, v2)), (3, (0, v3)), (4, (0, v4)), (5, (0, v5))] [(0, t_2), (0, t_1), (2, t)] ε μ → (t_2 = 0 → G cd_X12_gr9 Q X 94 [(0, (2, v0)), (5, (0, v5))] [(0, t_1), (2, t)] ε μ) ∧ (t_2 ≠ 0 → (m_ty [(0, (2, v0)), (1, (0, v1)), (2, (0, v2)), (3, (0, v3)), (4, (0, v4)), (5, (0, v5))] [(0, t_1), (2, t)] ε μ → (v2 ≠ 0 → G cd_X12_gr9 Q X 54 [(0, (2, v0)), (1, (0, v1)), (2, (0, v2)), (3, (0, v3)), (4, (0, v4)), (5, (0, v5))] [(0, t_1), (2, t)] ε μ) ∧ (v2 = 0 → (m_ty [(0, (2, v0)), (1, (0, v1)), (2, (0, v2)), (3, (0, v3)), (4, (0, v4)), (5, (0, v5))] [(0, t_1), (2, t)] ε μ → (v3 = (w32 (v4 - 1)) → G cd_X12_gr9 Q X 90 [(0, (2, v0)), (5, (0, v5))] [(0, t_1), (2, t)] ε μ) ∧ (v3 ≠ (w32 (v4 - 1)) → G cd_X12_gr9 Q X 54 [(0, (2, v0)), (1, (0, v1)), (2, (0, v2)), (3, (0, v3)), (4, (0, v4)), (5, (0, v5))] [(0, t_1), (2, t)] ε μ)))))
  intro hty
  replace h := h hty.1 (hty.2.1 _ (List.mem_of_getElem? (i := 1) rfl)) (hty.2.1 _ (List.mem_of_getElem? (i := 2) rfl)) (hty.2.1 _ (List.mem_of_getElem? (i := 3) rfl)) (hty.2.1 _ (List.mem_of_getElem? (i := 4) rfl)) (hty.2.1 _ (List.mem_of_getElem? (i := 5) rfl)) (hty.2.2 _ (List.mem_of_getElem? (i := 1) rfl)) (hty.2.2 _ (List.mem_of_getElem? (i := 0) rfl))
  obtain ⟨ha, hb⟩ := h
  refine And.intro (fun c2 => ?_) (fun c2 => ?_)
  · replace h := ha c2
    clear ha hb
    exact h
  · replace h := hb c2
    clear ha hb
    intro _
    obtain ⟨ha, hb⟩ := h
    refine And.intro (fun c1 => ?_) (fun c1 => ?_)
    · replace h := ha c1
      clear ha hb
      exact h
    · replace h := hb c1
      clear ha hb
      intro _
      obtain ⟨ha, hb⟩ := h
      refine And.intro (fun c0 => ?_) (fun c0 => ?_)
      · replace h := ha c0
        clear ha hb
        exact h
      · replace h := hb c0
        clear ha hb
        exact h
set_option maxRecDepth 20000 in
theorem g_X12_gr9_16 {Q X : m_Po} {v0 v1 v2 v3 v4 v5 : Int} {ε : m_E} {μ : m_M} (h : TY ε μ → i32 v1 → i32 v2 → i32 v3 → i32 v4 → i32 v5 → kd ε v0 = 11 ∧ kd ε (fn ε v0 65) = 100 ∧ (0 : Int) ≤ v5 ∧ v5 < ln ε (fn ε v0 65) ∧ ((μ (fn ε v0 65) v5) ≠ 0 → G cd_X12_gr9 Q X 96 [(0, (2, v0)), (5, (0, v5))] [] ε μ) ∧ ((μ (fn ε v0 65) v5) = 0 → o_X12_strikes [(2, v0), (0, v1), (0, v2), (0, v3)] ε μ (fun z ε_1 μ_1 => G cd_X12_gr9 Q X 39 [(0, (2, v0)), (1, (0, v1)), (2, (0, v2)), (3, (0, v3)), (4, (0, v4)), (5, (0, v5))] [(0, z), (0, v5), (2, fn ε v0 65)] ε_1 μ_1) m_F)) : G cd_X12_gr9 Q X 16 [(0, (2, v0)), (1, (0, v1)), (2, (0, v2)), (3, (0, v3)), (4, (0, v4)), (5, (0, v5))] [] ε μ := by
  refine G_run (m_in [16, 39, 54, 67, 70, 87, 90, 94, 95, 96, 112]) 20 _ _ _ _ ?_
  show m_ty [(0, (2, v0)), (1, (0, v1)), (2, (0, v2)), (3, (0, v3)), (4, (0, v4)), (5, (0, v5))] [] ε μ → (kd ε v0 = 11) ∧ (kd ε (fn ε v0 65) = 100) ∧ ((0 : Int) ≤ v5 ∧ v5 < ln ε (fn ε v0 65)) ∧ ((μ (fn ε v0 65) v5) ≠ 0 → G cd_X12_gr9 Q X 96 [(0, (2, v0)), (5, (0, v5))] [] ε μ) ∧ ((μ (fn ε v0 65) v5) = 0 → (m_ty [(0, (2, v0)), (1, (0, v1)), (2, (0, v2)), (3, (0, v3)), (4, (0, v4)), (5, (0, v5))] [] ε μ → (kd ε v0 = 11) ∧ (kd ε v0 = 11) ∧ o_X12_strikes [(2, v0), (0, v1), (0, v2), (0, v3)] ε μ (fun z ε_1 μ_1 => G cd_X12_gr9 Q X 39 [(0, (2, v0)), (1, (0, v1)), (2, (0, v2)), (3, (0, v3)), (4, (0, v4)), (5, (0, v5))] [(0, z), (0, v5), (2, fn ε v0 65)] ε_1 μ_1) m_F))
  intro hty
  replace h := h hty.1 (hty.2.1 _ (List.mem_of_getElem? (i := 1) rfl)) (hty.2.1 _ (List.mem_of_getElem? (i := 2) rfl)) (hty.2.1 _ (List.mem_of_getElem? (i := 3) rfl)) (hty.2.1 _ (List.mem_of_getElem? (i := 4) rfl)) (hty.2.1 _ (List.mem_of_getElem? (i := 5) rfl))
  obtain ⟨k1, h⟩ := h
  refine And.intro k1 ?_
  obtain ⟨k2, h⟩ := h
  refine And.intro k2 ?_
  obtain ⟨k3, h⟩ := h
  obtain ⟨k4, h⟩ := h
  refine And.intro (And.intro k3 k4) ?_
  obtain ⟨ha, hb⟩ := h
  refine And.intro (fun c4 => ?_) (fun c4 => ?_)
  · replace h := ha c4
    clear ha hb
    exact h
  · replace h := hb c4
    clear ha hb
    intro _
    refine And.intro k1 ?_
    refine And.intro k1 ?_
    exact h
set_option maxRecDepth 20000 in
theorem g_X12_gr9_0 {Q X : m_Po} {v0 v1 v2 v3 : Int} {ε : m_E} {μ : m_M} (h : TY ε μ → i32 v1 → i32 v2 → i32 v3 → kd ε v0 = 11 ∧ kd ε (fn ε v0 17) = 100 ∧ (0 : Int) ≤ v1 ∧ v1 < ln ε (fn ε v0 17) ∧ ∀ v4 : Int, v4 = μ (fn ε v0 17) v1 → ∀ v5 : Int, v5 = w32 ((w32 (10 * v2)) + v3) → kd ε v0 = 11 ∧ kd ε (fn ε v0 65) = 100 ∧ (0 : Int) ≤ v5 ∧ v5 < ln ε (fn ε v0 65) ∧ ((μ (fn ε v0 65) v5) ≠ 0 → G cd_X12_gr9 Q X 96 [(0, (2, v0)), (5, (0, v5))] [] ε μ) ∧ ((μ (fn ε v0 65) v5) = 0 → o_X12_strikes [(2, v0), (0, v1), (0, v2), (0, v3)] ε μ (fun z ε_1 μ_1 => G cd_X12_gr9 Q X 39 [(0, (2, v0)), (1, (0, v1)), (2, (0, v2)), (3, (0, v3)), (4, (0, v4)), (5, (0, v5))] [(0, z), (0, v5), (2, fn ε v0 65)] ε_1 μ_1) m_F)) : G cd_X12_gr9 Q X 0 [(0, (2, v0)), (1, (0, v1)), (2, (0, v2)), (3, (0, v3))] [] ε μ := by
  refine G_run (m_in [16, 39, 54, 67, 70, 87, 90, 94, 95, 96, 112]) 20 _ _ _ _ ?_
  show m_ty [(0, (2, v0)), (1, (0, v1)), (2, (0, v2)), (3, (0, v3))] [] ε μ → (kd ε v0 = 11) ∧ (kd ε (fn ε v0 17) = 100) ∧ ((0 : Int) ≤ v1 ∧ v1 < ln ε (fn ε v0 17)) ∧ ∀ v4 : Int, v4 = μ (fn ε v0 17) v1 → ∀ v5 : Int, v5 = w32 ((w32 (10 * v2)) + v3) → G cd_X12_gr9 Q X 16 [(0, (2, v0)), (1, (0, v1)), (2, (0, v2)), (3, (0, v3)), (4, (0, v4)), (5, (0, v5))] [] ε μ
  intro hty
  replace h := h hty.1 (hty.2.1 _ (List.mem_of_getElem? (i := 1) rfl)) (hty.2.1 _ (List.mem_of_getElem? (i := 2) rfl)) (hty.2.1 _ (List.mem_of_getElem? (i := 3) rfl))
  obtain ⟨k1, h⟩ := h
  refine And.intro k1 ?_
  obtain ⟨k2, h⟩ := h
  refine And.intro k2 ?_
  obtain ⟨k3, h⟩ := h
  obtain ⟨k4, h⟩ := h
  refine And.intro (And.intro k3 k4) ?_
  intro v4 e_v4
  replace h := h v4 e_v4
  intro v5 e_v5
  replace h := h v5 e_v5
  exact g_X12_gr9_16 (fun _ _ _ _ _ _ => h)
theorem e_X12_gr9 {Q X : m_Po} {v0 v1 v2 v3 : Int} {ε : m_E} {μ : m_M} (h : TY ε μ → i32 v1 → i32 v2 → i32 v3 → kd ε v0 = 11 ∧ kd ε (fn ε v0 17) = 100 ∧ (0 : Int) ≤ v1 ∧ v1 < ln ε (fn ε v0 17) ∧ ∀ v4 : Int, v4 = μ (fn ε v0 17) v1 → ∀ v5 : Int, v5 = w32 ((w32 (10 * v2)) + v3) → kd ε v0 = 11 ∧ kd ε (fn ε v0 65) = 100 ∧ (0 : Int) ≤ v5 ∧ v5 < ln ε (fn ε v0 65) ∧ ((μ (fn ε v0 65) v5) ≠ 0 → G cd_X12_gr9 Q X 96 [(0, (2, v0)), (5, (0, v5))] [] ε μ) ∧ ((μ (fn ε v0 65) v5) = 0 → o_X12_strikes [(2, v0), (0, v1), (0, v2), (0, v3)] ε μ (fun z ε_1 μ_1 => G cd_X12_gr9 Q X 39 [(0, (2, v0)), (1, (0, v1)), (2, (0, v2)), (3, (0, v3)), (4, (0, v4)), (5, (0, v5))] [(0, z), (0, v5), (2, fn ε v0 65)] ε_1 μ_1) m_F)) : o_X12_gr9 [(2, v0), (0, v1), (0, v2), (0, v3)] ε μ Q X := And.intro rfl (g_X12_gr9_0 h)
/-! ArchYardModel.grows(III)Z -/
set_option maxRecDepth 20000 in
theorem g_X12_gr10_112 {Q X : m_Po} {t : Int} {ε : m_E} {μ : m_M} (h : TY ε μ → i32 t → (t = 0 ∨ t = 1) ∧ Q t ε μ) : G cd_X12_gr10 Q X 112 [] [(0, t)] ε μ := by
  refine G_run (m_in [16, 39, 54, 67, 70, 87, 90, 94, 95, 96, 112]) 20 _ _ _ _ ?_
  show m_ty [] [(0, t)] ε μ → (t = 0 ∨ t = 1) ∧ Q t ε μ
  intro hty
  replace h := h hty.1 (hty.2.2 _ (List.mem_of_getElem? (i := 0) rfl))
  obtain ⟨k1, h⟩ := h
  refine And.intro k1 ?_
  exact h
set_option maxRecDepth 20000 in
theorem g_X12_gr10_96 {Q X : m_Po} {v0 v5 : Int} {ε : m_E} {μ : m_M} (h : TY ε μ → i32 v5 → kd ε v0 = 11 ∧ kd ε (fn ε v0 65) = 100 ∧ (0 : Int) ≤ v5 ∧ v5 < ln ε (fn ε v0 65) ∧ ∀ t : Int, t = (if (μ (fn ε v0 65) v5) = (1 : Int) then 1 else 0) → Q t ε μ) : G cd_X12_gr10 Q X 96 [(0, (2, v0)), (5, (0, v5))] [] ε μ := by
  refine G_run (m_in [16, 39, 54, 67, 70, 87, 90, 94, 95, 96, 112]) 20 _ _ _ _ ?_
  show m_ty [(0, (2, v0)), (5, (0, v5))] [] ε μ → (kd ε v0 = 11) ∧ (kd ε (fn ε v0 65) = 100) ∧ ((0 : Int) ≤ v5 ∧ v5 < ln ε (fn ε v0 65)) ∧ ((μ (fn ε v0 65) v5) ≠ (1 : Int) → (m_ty [] [] ε μ → G cd_X12_gr10 Q X 112 [] [(0, 0)] ε μ)) ∧ ((μ (fn ε v0 65) v5) = (1 : Int) → (m_ty [] [] ε μ → G cd_X12_gr10 Q X 112 [] [(0, 1)] ε μ))
  intro hty
  replace h := h hty.1 (hty.2.1 _ (List.mem_of_getElem? (i := 1) rfl))
  obtain ⟨k1, h⟩ := h
  refine And.intro k1 ?_
  obtain ⟨k2, h⟩ := h
  refine And.intro k2 ?_
  obtain ⟨k3, h⟩ := h
  obtain ⟨k4, h⟩ := h
  refine And.intro (And.intro k3 k4) ?_
  have hj := h
  refine And.intro (fun c4 => ?_) (fun c4 => ?_)
  · intro _
    exact g_X12_gr10_112 (fun _ _ => (And.intro (Or.inl rfl) (hj _ (((if_neg (c4)).trans rfl)).symm)))
  · intro _
    exact g_X12_gr10_112 (fun _ _ => (And.intro (Or.inr rfl) (hj _ (((if_pos c4).trans rfl)).symm)))
set_option maxRecDepth 20000 in
theorem g_X12_gr10_95 {Q X : m_Po} {v0 v5 t t_1 t_2 : Int} {ε : m_E} {μ : m_M} (h : TY ε μ → i32 v5 → i32 t_1 → i32 t_2 → kd ε t = 100 ∧ (0 : Int) ≤ t_1 ∧ t_1 < ln ε t ∧ ∀ μ_1 : m_M, μ_1 = st μ t t_1 t_2 → G cd_X12_gr10 Q X 96 [(0, (2, v0)), (5, (0, v5))] [] ε μ_1) : G cd_X12_gr10 Q X 95 [(0, (2, v0)), (5, (0, v5))] [(0, t_2), (0, t_1), (2, t)] ε μ := by
  refine G_run (m_in [16, 39, 54, 67, 70, 87, 90, 94, 95, 96, 112]) 20 _ _ _ _ ?_
  show m_ty [(0, (2, v0)), (5, (0, v5))] [(0, t_2), (0, t_1), (2, t)] ε μ → (kd ε t = 100) ∧ ((0 : Int) ≤ t_1 ∧ t_1 < ln ε t) ∧ ∀ μ_1 : m_M, μ_1 = st μ t t_1 t_2 → G cd_X12_gr10 Q X 96 [(0, (2, v0)), (5, (0, v5))] [] ε μ_1
  intro hty
  replace h := h hty.1 (hty.2.1 _ (List.mem_of_getElem? (i := 1) rfl)) (hty.2.2 _ (List.mem_of_getElem? (i := 1) rfl)) (hty.2.2 _ (List.mem_of_getElem? (i := 0) rfl))
  obtain ⟨k1, h⟩ := h
  refine And.intro k1 ?_
  obtain ⟨k2, h⟩ := h
  obtain ⟨k3, h⟩ := h
  refine And.intro (And.intro k2 k3) ?_
  intro μ_1 e_μ_1
  replace h := h μ_1 e_μ_1
  exact h
set_option maxRecDepth 20000 in
theorem g_X12_gr10_94 {Q X : m_Po} {v0 v5 t t_1 : Int} {ε : m_E} {μ : m_M} (h : TY ε μ → i32 v5 → i32 t_1 → G cd_X12_gr10 Q X 95 [(0, (2, v0)), (5, (0, v5))] [(0, 2), (0, t_1), (2, t)] ε μ) : G cd_X12_gr10 Q X 94 [(0, (2, v0)), (5, (0, v5))] [(0, t_1), (2, t)] ε μ := by
  refine G_run (m_in [16, 39, 54, 67, 70, 87, 90, 94, 95, 96, 112]) 20 _ _ _ _ ?_
  show m_ty [(0, (2, v0)), (5, (0, v5))] [(0, t_1), (2, t)] ε μ → G cd_X12_gr10 Q X 95 [(0, (2, v0)), (5, (0, v5))] [(0, 2), (0, t_1), (2, t)] ε μ
  intro hty
  replace h := h hty.1 (hty.2.1 _ (List.mem_of_getElem? (i := 1) rfl)) (hty.2.2 _ (List.mem_of_getElem? (i := 0) rfl))
  exact h
set_option maxRecDepth 20000 in
theorem g_X12_gr10_90 {Q X : m_Po} {v0 v5 t t_1 : Int} {ε : m_E} {μ : m_M} (h : TY ε μ → i32 v5 → i32 t_1 → G cd_X12_gr10 Q X 95 [(0, (2, v0)), (5, (0, v5))] [(0, 1), (0, t_1), (2, t)] ε μ) : G cd_X12_gr10 Q X 90 [(0, (2, v0)), (5, (0, v5))] [(0, t_1), (2, t)] ε μ := by
  refine G_run (m_in [16, 39, 54, 67, 70, 87, 90, 94, 95, 96, 112]) 20 _ _ _ _ ?_
  show m_ty [(0, (2, v0)), (5, (0, v5))] [(0, t_1), (2, t)] ε μ → G cd_X12_gr10 Q X 95 [(0, (2, v0)), (5, (0, v5))] [(0, 1), (0, t_1), (2, t)] ε μ
  intro hty
  replace h := h hty.1 (hty.2.1 _ (List.mem_of_getElem? (i := 1) rfl)) (hty.2.2 _ (List.mem_of_getElem? (i := 0) rfl))
  exact h
set_option maxRecDepth 20000 in
theorem g_X12_gr10_87 {Q X : m_Po} {v0 v5 t t_1 t_2 : Int} {ε : m_E} {μ : m_M} (h : TY ε μ → i32 v5 → i32 t_1 → i32 t_2 → (t_2 = 0 → G cd_X12_gr10 Q X 94 [(0, (2, v0)), (5, (0, v5))] [(0, t_1), (2, t)] ε μ) ∧ (t_2 ≠ 0 → G cd_X12_gr10 Q X 90 [(0, (2, v0)), (5, (0, v5))] [(0, t_1), (2, t)] ε μ)) : G cd_X12_gr10 Q X 87 [(0, (2, v0)), (5, (0, v5))] [(0, t_2), (0, t_1), (2, t)] ε μ := by
  refine G_run (m_in [16, 39, 54, 67, 70, 87, 90, 94, 95, 96, 112]) 20 _ _ _ _ ?_
  show m_ty [(0, (2, v0)), (5, (0, v5))] [(0, t_2), (0, t_1), (2, t)] ε μ → (t_2 = 0 → G cd_X12_gr10 Q X 94 [(0, (2, v0)), (5, (0, v5))] [(0, t_1), (2, t)] ε μ) ∧ (t_2 ≠ 0 → G cd_X12_gr10 Q X 90 [(0, (2, v0)), (5, (0, v5))] [(0, t_1), (2, t)] ε μ)
  intro hty
  replace h := h hty.1 (hty.2.1 _ (List.mem_of_getElem? (i := 1) rfl)) (hty.2.2 _ (List.mem_of_getElem? (i := 1) rfl)) (hty.2.2 _ (List.mem_of_getElem? (i := 0) rfl))
  obtain ⟨ha, hb⟩ := h
  refine And.intro (fun c0 => ?_) (fun c0 => ?_)
  · replace h := ha c0
    clear ha hb
    exact h
  · replace h := hb c0
    clear ha hb
    exact h
set_option maxRecDepth 20000 in
theorem g_X12_gr10_70 {Q X : m_Po} {v0 v1 v2 v3 v4 v5 t t_1 : Int} {ε : m_E} {μ : m_M} (h : TY ε μ → i32 v1 → i32 v2 → i32 v3 → i32 v4 → i32 v5 → i32 t_1 → ((w32 (v4 - 1)) ≤ v3 → G cd_X12_gr10 Q X 94 [(0, (2, v0)), (5, (0, v5))] [(0, t_1), (2, t)] ε μ) ∧ (v3 < (w32 (v4 - 1)) → kd ε v0 = 11 ∧ o_X12_gr9 [(2, v0), (0, v1), (0, v2), (0, w32 (v3 + 1))] ε μ (fun z ε_1 μ_1 => G cd_X12_gr10 Q X 87 [(0, (2, v0)), (5, (0, v5))] [(0, z), (0, t_1), (2, t)] ε_1 μ_1) m_F)) : G cd_X12_gr10 Q X 70 [(0, (2, v0)), (1, (0, v1)), (2, (0, v2)), (3, (0, v3)), (4, (0, v4)), (5, (0, v5))] [(0, t_1), (2, t)] ε μ := by
  refine G_run (m_in [16, 39, 54, 67, 70, 87, 90, 94, 95, 96, 112]) 20 _ _ _ _ ?_
  show m_ty [(0, (2, v0)), (1, (0, v1)), (2, (0, v2)), (3, (0, v3)), (4, (0, v4)), (5, (0, v5))] [(0, t_1), (2, t)] ε μ → ((w32 (v4 - 1)) ≤ v3 → G cd_X12_gr10 Q X 94 [(0, (2, v0)), (5, (0, v5))] [(0, t_1), (2, t)] ε μ) ∧ (v3 < (w32 (v4 - 1)) → (m_ty [(0, (2, v0)), (1, (0, v1)), (2, (0, v2)), (3, (0, v3)), (5, (0, v5))] [(0, t_1), (2, t)] ε μ → (kd ε v0 = 11) ∧ o_X12_gr9 [(2, v0), (0, v1), (0, v2), (0, w32 (v3 + 1))] ε μ (fun z ε_1 μ_1 => G cd_X12_gr10 Q X 87 [(0, (2, v0)), (5, (0, v5))] [(0, z), (0, t_1), (2, t)] ε_1 μ_1) m_F))
  intro hty
  replace h := h hty.1 (hty.2.1 _ (List.mem_of_getElem? (i := 1) rfl)) (hty.2.1 _ (List.mem_of_getElem? (i := 2) rfl)) (hty.2.1 _ (List.mem_of_getElem? (i := 3) rfl)) (hty.2.1 _ (List.mem_of_getElem? (i := 4) rfl)) (hty.2.1 _ (List.mem_of_getElem? (i := 5) rfl)) (hty.2.2 _ (List.mem_of_getElem? (i := 0) rfl))
  obtain ⟨ha, hb⟩ := h
  refine And.intro (fun c1 => ?_) (fun c1 => ?_)
  · replace h := ha c1
    clear ha hb
    exact h
  · replace h := hb c1
    clear ha hb
    intro _
    obtain ⟨k1, h⟩ := h
    refine And.intro k1 ?_
    exact h
set_option maxRecDepth 20000 in
theorem g_X12_gr10_67 {Q X : m_Po} {v0 v1 v2 v3 v4 v5 t t_1 t_2 : Int} {ε : m_E} {μ : m_M} (h : TY ε μ → i32 v1 → i32 v2 → i32 v3 → i32 v4 → i32 v5 → i32 t_1 → i32 t_2 → (t_2 ≠ 0 → G cd_X12_gr10 Q X 90 [(0, (2, v0)), (5, (0, v5))] [(0, t_1), (2, t)] ε μ) ∧ (t_2 = 0 → G cd_X12_gr10 Q X 70 [(0, (2, v0)), (1, (0, v1)), (2, (0, v2)), (3, (0, v3)), (4, (0, v4)), (5, (0, v5))] [(0, t_1), (2, t)] ε μ)) : G cd_X12_gr10 Q X 67 [(0, (2, v0)), (1, (0, v1)), (2, (0, v2)), (3, (0, v3)), (4, (0, v4)), (5, (0, v5))] [(0, t_2), (0, t_1), (2, t)] ε μ := by
  refine G_run (m_in [16, 39, 54, 67, 70, 87, 90, 94, 95, 96, 112]) 20 _ _ _ _ ?_
  show m_ty [(0, (2, v0)), (1, (0, v1)), (2, (0, v2)), (3, (0, v3)), (4, (0, v4)), (5, (0, v5))] [(0, t_2), (0, t_1), (2, t)] ε μ → (t_2 ≠ 0 → G cd_X12_gr10 Q X 90 [(0, (2, v0)), (5, (0, v5))] [(0, t_1), (2, t)] ε μ) ∧ (t_2 = 0 → G cd_X12_gr10 Q X 70 [(0, (2, v0)), (1, (0, v1)), (2, (0, v2)), (3, (0, v3)), (4, (0, v4)), (5, (0, v5))] [(0, t_1), (2, t)] ε μ)
  intro hty
  replace h := h hty.1 (hty.2.1 _ (List.mem_of_getElem? (i := 1) rfl)) (hty.2.1 _ (List.mem_of_getElem? (i := 2) rfl)) (hty.2.1 _ (List.mem_of_getElem? (i := 3) rfl)) (hty.2.1 _ (List.mem_of_getElem? (i := 4) rfl)) (hty.2.1 _ (List.mem_of_getElem? (i := 5) rfl)) (hty.2.2 _ (List.mem_of_getElem? (i := 1) rfl)) (hty.2.2 _ (List.mem_of_getElem? (i := 0) rfl))
  obtain ⟨ha, hb⟩ := h
  refine And.intro (fun c0 => ?_) (fun c0 => ?_)
  · replace h := ha c0
    clear ha hb
    exact h
  · replace h := hb c0
    clear ha hb
    exact h
set_option maxRecDepth 20000 in
theorem g_X12_gr10_54 {Q X : m_Po} {v0 v1 v2 v3 v4 v5 t t_1 : Int} {ε : m_E} {μ : m_M} (h : TY ε μ → i32 v1 → i32 v2 → i32 v3 → i32 v4 → i32 v5 → i32 t_1 → (v2 ≤ 0 → G cd_X12_gr10 Q X 70 [(0, (2, v0)), (1, (0, v1)), (2, (0, v2)), (3, (0, v3)), (4, (0, v4)), (5, (0, v5))] [(0, t_1), (2, t)] ε μ) ∧ (0 < v2 → kd ε v0 = 11 ∧ o_X12_gr9 [(2, v0), (0, v1), (0, w32 (v2 - 1)), (0, v3)] ε μ (fun z ε_1 μ_1 => G cd_X12_gr10 Q X 67 [(0, (2, v0)), (1, (0, v1)), (2, (0, v2)), (3, (0, v3)), (4, (0, v4)), (5, (0, v5))] [(0, z), (0, t_1), (2, t)] ε_1 μ_1) m_F)) : G cd_X12_gr10 Q X 54 [(0, (2, v0)), (1, (0, v1)), (2, (0, v2)), (3, (0, v3)), (4, (0, v4)), (5, (0, v5))] [(0, t_1), (2, t)] ε μ := by
  refine G_run (m_in [16, 39, 54, 67, 70, 87, 90, 94, 95, 96, 112]) 20 _ _ _ _ ?_
  show m_ty [(0, (2, v0)), (1, (0, v1)), (2, (0, v2)), (3, (0, v3)), (4, (0, v4)), (5, (0, v5))] [(0, t_1), (2, t)] ε μ → (v2 ≤ 0 → G cd_X12_gr10 Q X 70 [(0, (2, v0)), (1, (0, v1)), (2, (0, v2)), (3, (0, v3)), (4, (0, v4)), (5, (0, v5))] [(0, t_1), (2, t)] ε μ) ∧ (0 < v2 → (m_ty [(0, (2, v0)), (1, (0, v1)), (2, (0, v2)), (3, (0, v3)), (4, (0, v4)), (5, (0, v5))] [(0, t_1), (2, t)] ε μ → (kd ε v0 = 11) ∧ o_X12_gr9 [(2, v0), (0, v1), (0, w32 (v2 - 1)), (0, v3)] ε μ (fun z ε_1 μ_1 => G cd_X12_gr10 Q X 67 [(0, (2, v0)), (1, (0, v1)), (2, (0, v2)), (3, (0, v3)), (4, (0, v4)), (5, (0, v5))] [(0, z), (0, t_1), (2, t)] ε_1 μ_1) m_F))
  intro hty
  replace h := h hty.1 (hty.2.1 _ (List.mem_of_getElem? (i := 1) rfl)) (hty.2.1 _ (List.mem_of_getElem? (i := 2) rfl)) (hty.2.1 _ (List.mem_of_getElem? (i := 3) rfl)) (hty.2.1 _ (List.mem_of_getElem? (i := 4) rfl)) (hty.2.1 _ (List.mem_of_getElem? (i := 5) rfl)) (hty.2.2 _ (List.mem_of_getElem? (i := 0) rfl))
  obtain ⟨ha, hb⟩ := h
  refine And.intro (fun c1 => ?_) (fun c1 => ?_)
  · replace h := ha c1
    clear ha hb
    exact h
  · replace h := hb c1
    clear ha hb
    intro _
    obtain ⟨k1, h⟩ := h
    refine And.intro k1 ?_
    exact h
set_option maxRecDepth 20000 in
theorem g_X12_gr10_39 {Q X : m_Po} {v0 v1 v2 v3 v4 v5 t t_1 t_2 : Int} {ε : m_E} {μ : m_M} (h : TY ε μ → i32 v1 → i32 v2 → i32 v3 → i32 v4 → i32 v5 → i32 t_1 → i32 t_2 → (t_2 = 0 → G cd_X12_gr10 Q X 94 [(0, (2, v0)), (5, (0, v5))] [(0, t_1), (2, t)] ε μ) ∧ (t_2 ≠ 0 → (v2 ≠ 0 → G cd_X12_gr10 Q X 54 [(0, (2, v0)), (1, (0, v1)), (2, (0, v2)), (3, (0, v3)), (4, (0, v4)), (5, (0, v5))] [(0, t_1), (2, t)] ε μ) ∧ (v2 = 0 → (v3 = (w32 (v4 - 1)) → G cd_X12_gr10 Q X 90 [(0, (2, v0)), (5, (0, v5))] [(0, t_1), (2, t)] ε μ) ∧ (v3 ≠ (w32 (v4 - 1)) → G cd_X12_gr10 Q X 54 [(0, (2, v0)), (1, (0, v1)), (2, (0, v2)), (3, (0, v3)), (4, (0, v4)), (5, (0, v5))] [(0, t_1), (2, t)] ε μ)))) : G cd_X12_gr10 Q X 39 [(0, (2, v0)), (1, (0, v1)), (2, (0, v2)), (3, (0, v3)), (4, (0, v4)), (5, (0, v5))] [(0, t_2), (0, t_1), (2, t)] ε μ := by
  refine G_run (m_in [16, 39, 54, 67, 70, 87, 90, 94, 95, 96, 112]) 20 _ _ _ _ ?_
  show m_ty [(0, (2, v0)), (1, (0, v1)), (2, (0, v2)), (3, (0, v3)), (4, (0, v4)), (5, (0, v5))] [(0, t_2), (0, t_1), (2, t)] ε μ → (t_2 = 0 → G cd_X12_gr10 Q X 94 [(0, (2, v0)), (5, (0, v5))] [(0, t_1), (2, t)] ε μ) ∧ (t_2 ≠ 0 → (m_ty [(0, (2, v0)), (1, (0, v1)), (2, (0, v2)), (3, (0, v3)), (4, (0, v4)), (5, (0, v5))] [(0, t_1), (2, t)] ε μ → (v2 ≠ 0 → G cd_X12_gr10 Q X 54 [(0, (2, v0)), (1, (0, v1)), (2, (0, v2)), (3, (0, v3)), (4, (0, v4)), (5, (0, v5))] [(0, t_1), (2, t)] ε μ) ∧ (v2 = 0 → (m_ty [(0, (2, v0)), (1, (0, v1)), (2, (0, v2)), (3, (0, v3)), (4, (0, v4)), (5, (0, v5))] [(0, t_1), (2, t)] ε μ → (v3 = (w32 (v4 - 1)) → G cd_X12_gr10 Q X 90 [(0, (2, v0)), (5, (0, v5))] [(0, t_1), (2, t)] ε μ) ∧ (v3 ≠ (w32 (v4 - 1)) → G cd_X12_gr10 Q X 54 [(0, (2, v0)), (1, (0, v1)), (2, (0, v2)), (3, (0, v3)), (4, (0, v4)), (5, (0, v5))] [(0, t_1), (2, t)] ε μ)))))
  intro hty
  replace h := h hty.1 (hty.2.1 _ (List.mem_of_getElem? (i := 1) rfl)) (hty.2.1 _ (List.mem_of_getElem? (i := 2) rfl)) (hty.2.1 _ (List.mem_of_getElem? (i := 3) rfl)) (hty.2.1 _ (List.mem_of_getElem? (i := 4) rfl)) (hty.2.1 _ (List.mem_of_getElem? (i := 5) rfl)) (hty.2.2 _ (List.mem_of_getElem? (i := 1) rfl)) (hty.2.2 _ (List.mem_of_getElem? (i := 0) rfl))
  obtain ⟨ha, hb⟩ := h
  refine And.intro (fun c2 => ?_) (fun c2 => ?_)
  · replace h := ha c2
    clear ha hb
    exact h
  · replace h := hb c2
    clear ha hb
    intro _
    obtain ⟨ha, hb⟩ := h
    refine And.intro (fun c1 => ?_) (fun c1 => ?_)
    · replace h := ha c1
      clear ha hb
      exact h
    · replace h := hb c1
      clear ha hb
      intro _
      obtain ⟨ha, hb⟩ := h
      refine And.intro (fun c0 => ?_) (fun c0 => ?_)
      · replace h := ha c0
        clear ha hb
        exact h
      · replace h := hb c0
        clear ha hb
        exact h
set_option maxRecDepth 20000 in
theorem g_X12_gr10_16 {Q X : m_Po} {v0 v1 v2 v3 v4 v5 : Int} {ε : m_E} {μ : m_M} (h : TY ε μ → i32 v1 → i32 v2 → i32 v3 → i32 v4 → i32 v5 → kd ε v0 = 11 ∧ kd ε (fn ε v0 65) = 100 ∧ (0 : Int) ≤ v5 ∧ v5 < ln ε (fn ε v0 65) ∧ ((μ (fn ε v0 65) v5) ≠ 0 → G cd_X12_gr10 Q X 96 [(0, (2, v0)), (5, (0, v5))] [] ε μ) ∧ ((μ (fn ε v0 65) v5) = 0 → o_X12_strikes [(2, v0), (0, v1), (0, v2), (0, v3)] ε μ (fun z ε_1 μ_1 => G cd_X12_gr10 Q X 39 [(0, (2, v0)), (1, (0, v1)), (2, (0, v2)), (3, (0, v3)), (4, (0, v4)), (5, (0, v5))] [(0, z), (0, v5), (2, fn ε v0 65)] ε_1 μ_1) m_F)) : G cd_X12_gr10 Q X 16 [(0, (2, v0)), (1, (0, v1)), (2, (0, v2)), (3, (0, v3)), (4, (0, v4)), (5, (0, v5))] [] ε μ := by
  refine G_run (m_in [16, 39, 54, 67, 70, 87, 90, 94, 95, 96, 112]) 20 _ _ _ _ ?_
  show m_ty [(0, (2, v0)), (1, (0, v1)), (2, (0, v2)), (3, (0, v3)), (4, (0, v4)), (5, (0, v5))] [] ε μ → (kd ε v0 = 11) ∧ (kd ε (fn ε v0 65) = 100) ∧ ((0 : Int) ≤ v5 ∧ v5 < ln ε (fn ε v0 65)) ∧ ((μ (fn ε v0 65) v5) ≠ 0 → G cd_X12_gr10 Q X 96 [(0, (2, v0)), (5, (0, v5))] [] ε μ) ∧ ((μ (fn ε v0 65) v5) = 0 → (m_ty [(0, (2, v0)), (1, (0, v1)), (2, (0, v2)), (3, (0, v3)), (4, (0, v4)), (5, (0, v5))] [] ε μ → (kd ε v0 = 11) ∧ (kd ε v0 = 11) ∧ o_X12_strikes [(2, v0), (0, v1), (0, v2), (0, v3)] ε μ (fun z ε_1 μ_1 => G cd_X12_gr10 Q X 39 [(0, (2, v0)), (1, (0, v1)), (2, (0, v2)), (3, (0, v3)), (4, (0, v4)), (5, (0, v5))] [(0, z), (0, v5), (2, fn ε v0 65)] ε_1 μ_1) m_F))
  intro hty
  replace h := h hty.1 (hty.2.1 _ (List.mem_of_getElem? (i := 1) rfl)) (hty.2.1 _ (List.mem_of_getElem? (i := 2) rfl)) (hty.2.1 _ (List.mem_of_getElem? (i := 3) rfl)) (hty.2.1 _ (List.mem_of_getElem? (i := 4) rfl)) (hty.2.1 _ (List.mem_of_getElem? (i := 5) rfl))
  obtain ⟨k1, h⟩ := h
  refine And.intro k1 ?_
  obtain ⟨k2, h⟩ := h
  refine And.intro k2 ?_
  obtain ⟨k3, h⟩ := h
  obtain ⟨k4, h⟩ := h
  refine And.intro (And.intro k3 k4) ?_
  obtain ⟨ha, hb⟩ := h
  refine And.intro (fun c4 => ?_) (fun c4 => ?_)
  · replace h := ha c4
    clear ha hb
    exact h
  · replace h := hb c4
    clear ha hb
    intro _
    refine And.intro k1 ?_
    refine And.intro k1 ?_
    exact h
set_option maxRecDepth 20000 in
theorem g_X12_gr10_0 {Q X : m_Po} {v0 v1 v2 v3 : Int} {ε : m_E} {μ : m_M} (h : TY ε μ → i32 v1 → i32 v2 → i32 v3 → kd ε v0 = 11 ∧ kd ε (fn ε v0 17) = 100 ∧ (0 : Int) ≤ v1 ∧ v1 < ln ε (fn ε v0 17) ∧ ∀ v4 : Int, v4 = μ (fn ε v0 17) v1 → ∀ v5 : Int, v5 = w32 ((w32 (10 * v2)) + v3) → kd ε v0 = 11 ∧ kd ε (fn ε v0 65) = 100 ∧ (0 : Int) ≤ v5 ∧ v5 < ln ε (fn ε v0 65) ∧ ((μ (fn ε v0 65) v5) ≠ 0 → G cd_X12_gr10 Q X 96 [(0, (2, v0)), (5, (0, v5))] [] ε μ) ∧ ((μ (fn ε v0 65) v5) = 0 → o_X12_strikes [(2, v0), (0, v1), (0, v2), (0, v3)] ε μ (fun z ε_1 μ_1 => G cd_X12_gr10 Q X 39 [(0, (2, v0)), (1, (0, v1)), (2, (0, v2)), (3, (0, v3)), (4, (0, v4)), (5, (0, v5))] [(0, z), (0, v5), (2, fn ε v0 65)] ε_1 μ_1) m_F)) : G cd_X12_gr10 Q X 0 [(0, (2, v0)), (1, (0, v1)), (2, (0, v2)), (3, (0, v3))] [] ε μ := by
  refine G_run (m_in [16, 39, 54, 67, 70, 87, 90, 94, 95, 96, 112]) 20 _ _ _ _ ?_
  show m_ty [(0, (2, v0)), (1, (0, v1)), (2, (0, v2)), (3, (0, v3))] [] ε μ → (kd ε v0 = 11) ∧ (kd ε (fn ε v0 17) = 100) ∧ ((0 : Int) ≤ v1 ∧ v1 < ln ε (fn ε v0 17)) ∧ ∀ v4 : Int, v4 = μ (fn ε v0 17) v1 → ∀ v5 : Int, v5 = w32 ((w32 (10 * v2)) + v3) → G cd_X12_gr10 Q X 16 [(0, (2, v0)), (1, (0, v1)), (2, (0, v2)), (3, (0, v3)), (4, (0, v4)), (5, (0, v5))] [] ε μ
  intro hty
  replace h := h hty.1 (hty.2.1 _ (List.mem_of_getElem? (i := 1) rfl)) (hty.2.1 _ (List.mem_of_getElem? (i := 2) rfl)) (hty.2.1 _ (List.mem_of_getElem? (i := 3) rfl))
  obtain ⟨k1, h⟩ := h
  refine And.intro k1 ?_
  obtain ⟨k2, h⟩ := h
  refine And.intro k2 ?_
  obtain ⟨k3, h⟩ := h
  obtain ⟨k4, h⟩ := h
  refine And.intro (And.intro k3 k4) ?_
  intro v4 e_v4
  replace h := h v4 e_v4
  intro v5 e_v5
  replace h := h v5 e_v5
  exact g_X12_gr10_16 (fun _ _ _ _ _ _ => h)
theorem e_X12_gr10 {Q X : m_Po} {v0 v1 v2 v3 : Int} {ε : m_E} {μ : m_M} (h : TY ε μ → i32 v1 → i32 v2 → i32 v3 → kd ε v0 = 11 ∧ kd ε (fn ε v0 17) = 100 ∧ (0 : Int) ≤ v1 ∧ v1 < ln ε (fn ε v0 17) ∧ ∀ v4 : Int, v4 = μ (fn ε v0 17) v1 → ∀ v5 : Int, v5 = w32 ((w32 (10 * v2)) + v3) → kd ε v0 = 11 ∧ kd ε (fn ε v0 65) = 100 ∧ (0 : Int) ≤ v5 ∧ v5 < ln ε (fn ε v0 65) ∧ ((μ (fn ε v0 65) v5) ≠ 0 → G cd_X12_gr10 Q X 96 [(0, (2, v0)), (5, (0, v5))] [] ε μ) ∧ ((μ (fn ε v0 65) v5) = 0 → o_X12_strikes [(2, v0), (0, v1), (0, v2), (0, v3)] ε μ (fun z ε_1 μ_1 => G cd_X12_gr10 Q X 39 [(0, (2, v0)), (1, (0, v1)), (2, (0, v2)), (3, (0, v3)), (4, (0, v4)), (5, (0, v5))] [(0, z), (0, v5), (2, fn ε v0 65)] ε_1 μ_1) m_F)) : o_X12_gr10 [(2, v0), (0, v1), (0, v2), (0, v3)] ε μ Q X := And.intro rfl (g_X12_gr10_0 h)
