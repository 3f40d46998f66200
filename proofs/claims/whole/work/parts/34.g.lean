/-! ArchYard.requireHow(I)V -/
set_option maxRecDepth 20000 in
theorem g_X10_requireHow_0 {Q X : m_Po} {v0 : Int} {ε : m_E} {μ : m_M} (h : TY ε μ → i32 v0 → (v0 = 0 → Q 0 ε μ) ∧ (v0 ≠ 0 → (v0 = (1 : Int) → Q 0 ε μ) ∧ (v0 ≠ (1 : Int) → ∀ n : Int, nx ε ≤ n → X 2 (enx ε n) μ))) : G cd_X10_requireHow Q X 0 [(0, (0, v0))] [] ε μ := by
  refine G_run (m_in []) 5 _ _ _ _ ?_
  show m_ty [(0, (0, v0))] [] ε μ → (v0 = 0 → (m_ty [] [] ε μ → Q 0 ε μ)) ∧ (v0 ≠ 0 → (m_ty [(0, (0, v0))] [] ε μ → (v0 = (1 : Int) → (m_ty [] [] ε μ → Q 0 ε μ)) ∧ (v0 ≠ (1 : Int) → (m_ty [] [] ε μ → ∀ n : Int, nx ε ≤ n → X 2 (enx ε n) μ))))
  intro hty
  replace h := h hty.1 (hty.2.1 _ (List.mem_of_getElem? (i := 0) rfl))
  obtain ⟨ha, hb⟩ := h
  refine And.intro (fun c1 => ?_) (fun c1 => ?_)
  · replace h := ha c1
    clear ha hb
    intro _
    exact h
  · replace h := hb c1
    clear ha hb
    intro _
    obtain ⟨ha, hb⟩ := h
    refine And.intro (fun c0 => ?_) (fun c0 => ?_)
    · replace h := ha c0
      clear ha hb
      intro _
      exact h
    · replace h := hb c0
      clear ha hb
      intro _
      exact h
theorem e_X10_requireHow {Q X : m_Po} {v0 : Int} {ε : m_E} {μ : m_M} (h : TY ε μ → i32 v0 → (v0 = 0 → Q 0 ε μ) ∧ (v0 ≠ 0 → (v0 = (1 : Int) → Q 0 ε μ) ∧ (v0 ≠ (1 : Int) → ∀ n : Int, nx ε ≤ n → X 2 (enx ε n) μ))) : o_X10_requireHow [(0, v0)] ε μ Q X := And.intro rfl (g_X10_requireHow_0 h)
/-! ArchYard.requireWhole(LArchYard$Arch;)V -/
set_option maxRecDepth 20000 in
theorem g_X10_requireWhole_4 {Q X : m_Po} {t : Int} {ε : m_E} {μ : m_M} (h : TY ε μ → i32 t → (t = (-1) → Q 0 ε μ) ∧ (t ≠ (-1) → ∀ n : Int, nx ε ≤ n → X 3 (enx ε n) μ)) : G cd_X10_requireWhole Q X 4 [] [(0, t)] ε μ := by
  refine G_run (m_in [4]) 5 _ _ _ _ ?_
  show m_ty [] [(0, t)] ε μ → (t = (-1) → (m_ty [] [] ε μ → Q 0 ε μ)) ∧ (t ≠ (-1) → (m_ty [] [] ε μ → ∀ n : Int, nx ε ≤ n → X 3 (enx ε n) μ))
  intro hty
  replace h := h hty.1 (hty.2.2 _ (List.mem_of_getElem? (i := 0) rfl))
  obtain ⟨ha, hb⟩ := h
  refine And.intro (fun c0 => ?_) (fun c0 => ?_)
  · replace h := ha c0
    clear ha hb
    intro _
    exact h
  · replace h := hb c0
    clear ha hb
    intro _
    exact h
set_option maxRecDepth 20000 in
theorem g_X10_requireWhole_0 {Q X : m_Po} {v0 : Int} {ε : m_E} {μ : m_M} (h : TY ε μ → kd ε v0 = 0 ∧ o_X0_fault [(2, v0)] ε μ (fun z ε_1 μ_1 => G cd_X10_requireWhole Q X 4 [] [(0, z)] ε_1 μ_1) m_F) : G cd_X10_requireWhole Q X 0 [(0, (2, v0))] [] ε μ := by
  refine G_run (m_in [4]) 5 _ _ _ _ ?_
  show m_ty [(0, (2, v0))] [] ε μ → (kd ε v0 = 0) ∧ o_X0_fault [(2, v0)] ε μ (fun z ε_1 μ_1 => G cd_X10_requireWhole Q X 4 [] [(0, z)] ε_1 μ_1) m_F
  intro hty
  replace h := h hty.1 
  obtain ⟨k1, h⟩ := h
  refine And.intro k1 ?_
  exact h
theorem e_X10_requireWhole {Q X : m_Po} {v0 : Int} {ε : m_E} {μ : m_M} (h : TY ε μ → kd ε v0 = 0 ∧ o_X0_fault [(2, v0)] ε μ (fun z ε_1 μ_1 => G cd_X10_requireWhole Q X 4 [] [(0, z)] ε_1 μ_1) m_F) : o_X10_requireWhole [(2, v0)] ε μ Q X := And.intro rfl (g_X10_requireWhole_0 h)
/-! ArchYard.line(IIIII)I -/
set_option maxRecDepth 20000 in
theorem g_X10_line_88 {Q X : m_Po} {t : Int} {ε : m_E} {μ : m_M} (h : TY ε μ → i32 t → Q t ε μ) : G cd_X10_line Q X 88 [] [(0, t)] ε μ := by
  refine G_run (m_in [5, 11, 17, 27, 37, 55, 70, 73, 88]) 17 _ _ _ _ ?_
  show m_ty [] [(0, t)] ε μ → Q t ε μ
  intro hty
  replace h := h hty.1 (hty.2.2 _ (List.mem_of_getElem? (i := 0) rfl))
  exact h
set_option maxRecDepth 20000 in
theorem g_X10_line_73 {Q X : m_Po} {v0 v3 v4 v5 : Int} {ε : m_E} {μ : m_M} (h : TY ε μ → i32 v3 → i32 v4 → i32 v5 → kd ε v0 = 9 ∧ kd ε (fn ε v0 3) = 1 ∧ o_X1_firstBelow [(2, fn ε v0 3), (1, v3), (1, v4), (1, v5)] ε μ (fun z ε_1 μ_1 => G cd_X10_line Q X 88 [] [(0, z)] ε_1 μ_1) m_F) : G cd_X10_line Q X 73 [(0, (2, v0)), (3, (0, v3)), (4, (0, v4)), (5, (0, v5))] [] ε μ := by
  refine G_run (m_in [5, 11, 17, 27, 37, 55, 70, 73, 88]) 17 _ _ _ _ ?_
  show m_ty [(0, (2, v0)), (3, (0, v3)), (4, (0, v4)), (5, (0, v5))] [] ε μ → (kd ε v0 = 9) ∧ (kd ε (fn ε v0 3) = 1) ∧ o_X1_firstBelow [(2, fn ε v0 3), (1, v3), (1, v4), (1, v5)] ε μ (fun z ε_1 μ_1 => G cd_X10_line Q X 88 [] [(0, z)] ε_1 μ_1) m_F
  intro hty
  replace h := h hty.1 (hty.2.1 _ (List.mem_of_getElem? (i := 1) rfl)) (hty.2.1 _ (List.mem_of_getElem? (i := 2) rfl)) (hty.2.1 _ (List.mem_of_getElem? (i := 3) rfl))
  obtain ⟨k1, h⟩ := h
  refine And.intro k1 ?_
  obtain ⟨k2, h⟩ := h
  refine And.intro k2 ?_
  exact h
set_option maxRecDepth 20000 in
theorem g_X10_line_70 {Q X : m_Po} {v0 v3 v4 v5 t t_1 t_2 : Int} {ε : m_E} {μ : m_M} (h : TY ε μ → i32 v3 → i32 v4 → i32 v5 → i32 t_2 → kd ε t = 1 ∧ o_X1_gather [(2, t), (2, t_1), (0, t_2)] ε μ (fun z ε_1 μ_1 => G cd_X10_line Q X 73 [(0, (2, v0)), (3, (0, v3)), (4, (0, v4)), (5, (0, v5))] [] ε_1 μ_1) m_F) : G cd_X10_line Q X 70 [(0, (2, v0)), (3, (0, v3)), (4, (0, v4)), (5, (0, v5))] [(0, t_2), (2, t_1), (2, t)] ε μ := by
  refine G_run (m_in [5, 11, 17, 27, 37, 55, 70, 73, 88]) 17 _ _ _ _ ?_
  show m_ty [(0, (2, v0)), (3, (0, v3)), (4, (0, v4)), (5, (0, v5))] [(0, t_2), (2, t_1), (2, t)] ε μ → (kd ε t = 1) ∧ o_X1_gather [(2, t), (2, t_1), (0, t_2)] ε μ (fun z ε_1 μ_1 => G cd_X10_line Q X 73 [(0, (2, v0)), (3, (0, v3)), (4, (0, v4)), (5, (0, v5))] [] ε_1 μ_1) m_F
  intro hty
  replace h := h hty.1 (hty.2.1 _ (List.mem_of_getElem? (i := 1) rfl)) (hty.2.1 _ (List.mem_of_getElem? (i := 2) rfl)) (hty.2.1 _ (List.mem_of_getElem? (i := 3) rfl)) (hty.2.2 _ (List.mem_of_getElem? (i := 0) rfl))
  obtain ⟨k1, h⟩ := h
  refine And.intro k1 ?_
  exact h
set_option maxRecDepth 20000 in
theorem g_X10_line_55 {Q X : m_Po} {v0 v2 v3 v4 v5 v6 : Int} {ε : m_E} {μ : m_M} (h : TY ε μ → i32 v2 → i32 v3 → i32 v4 → i32 v5 → kd ε v0 = 9 ∧ ∀ t : Int, t = (if v2 = 0 then 1 else 0) → kd ε (fn ε v0 3) = 1 ∧ o_X1_gather [(2, (fn ε v0 3)), (2, v6), (0, t)] ε μ (fun z ε_1 μ_1 => G cd_X10_line Q X 73 [(0, (2, v0)), (3, (0, v3)), (4, (0, v4)), (5, (0, v5))] [] ε_1 μ_1) m_F) : G cd_X10_line Q X 55 [(0, (2, v0)), (2, (0, v2)), (3, (0, v3)), (4, (0, v4)), (5, (0, v5)), (6, (2, v6))] [] ε μ := by
  refine G_run (m_in [5, 11, 17, 27, 37, 55, 70, 73, 88]) 17 _ _ _ _ ?_
  show m_ty [(0, (2, v0)), (2, (0, v2)), (3, (0, v3)), (4, (0, v4)), (5, (0, v5)), (6, (2, v6))] [] ε μ → (kd ε v0 = 9) ∧ (v2 ≠ 0 → (m_ty [(0, (2, v0)), (3, (0, v3)), (4, (0, v4)), (5, (0, v5))] [(2, v6), (2, fn ε v0 3)] ε μ → G cd_X10_line Q X 70 [(0, (2, v0)), (3, (0, v3)), (4, (0, v4)), (5, (0, v5))] [(0, 0), (2, v6), (2, fn ε v0 3)] ε μ)) ∧ (v2 = 0 → (m_ty [(0, (2, v0)), (3, (0, v3)), (4, (0, v4)), (5, (0, v5))] [(2, v6), (2, fn ε v0 3)] ε μ → G cd_X10_line Q X 70 [(0, (2, v0)), (3, (0, v3)), (4, (0, v4)), (5, (0, v5))] [(0, 1), (2, v6), (2, fn ε v0 3)] ε μ))
  intro hty
  replace h := h hty.1 (hty.2.1 _ (List.mem_of_getElem? (i := 1) rfl)) (hty.2.1 _ (List.mem_of_getElem? (i := 2) rfl)) (hty.2.1 _ (List.mem_of_getElem? (i := 3) rfl)) (hty.2.1 _ (List.mem_of_getElem? (i := 4) rfl))
  obtain ⟨k1, h⟩ := h
  refine And.intro k1 ?_
  have hj := h
  refine And.intro (fun c1 => ?_) (fun c1 => ?_)
  · intro _
    exact g_X10_line_70 (fun _ _ _ _ _ => (hj _ (((if_neg (c1)).trans rfl)).symm))
  · intro _
    exact g_X10_line_70 (fun _ _ _ _ _ => (hj _ (((if_pos c1).trans rfl)).symm))
set_option maxRecDepth 20000 in
theorem g_X10_line_37 {Q X : m_Po} {v0 v2 v3 v4 v5 v6 t : Int} {ε : m_E} {μ : m_M} (h : TY ε μ → i32 v2 → i32 v3 → i32 v4 → i32 v5 → i32 t → (t = 0 → o_X10_requireWhole [(2, v6)] ε μ (fun z ε_1 μ_1 => G cd_X10_line Q X 55 [(0, (2, v0)), (2, (0, v2)), (3, (0, v3)), (4, (0, v4)), (5, (0, v5)), (6, (2, v6))] [] ε_1 μ_1) X) ∧ (t ≠ 0 → ∀ n : Int, nx ε ≤ n → X 2 (enx ε n) μ)) : G cd_X10_line Q X 37 [(0, (2, v0)), (2, (0, v2)), (3, (0, v3)), (4, (0, v4)), (5, (0, v5)), (6, (2, v6))] [(0, t)] ε μ := by
  refine G_run (m_in [5, 11, 17, 27, 37, 55, 70, 73, 88]) 17 _ _ _ _ ?_
  show m_ty [(0, (2, v0)), (2, (0, v2)), (3, (0, v3)), (4, (0, v4)), (5, (0, v5)), (6, (2, v6))] [(0, t)] ε μ → (t = 0 → (m_ty [(0, (2, v0)), (2, (0, v2)), (3, (0, v3)), (4, (0, v4)), (5, (0, v5)), (6, (2, v6))] [] ε μ → o_X10_requireWhole [(2, v6)] ε μ (fun z ε_1 μ_1 => G cd_X10_line Q X 55 [(0, (2, v0)), (2, (0, v2)), (3, (0, v3)), (4, (0, v4)), (5, (0, v5)), (6, (2, v6))] [] ε_1 μ_1) X)) ∧ (t ≠ 0 → (m_ty [] [] ε μ → ∀ n : Int, nx ε ≤ n → X 2 (enx ε n) μ))
  intro hty
  replace h := h hty.1 (hty.2.1 _ (List.mem_of_getElem? (i := 1) rfl)) (hty.2.1 _ (List.mem_of_getElem? (i := 2) rfl)) (hty.2.1 _ (List.mem_of_getElem? (i := 3) rfl)) (hty.2.1 _ (List.mem_of_getElem? (i := 4) rfl)) (hty.2.2 _ (List.mem_of_getElem? (i := 0) rfl))
  obtain ⟨ha, hb⟩ := h
  refine And.intro (fun c0 => ?_) (fun c0 => ?_)
  · replace h := ha c0
    clear ha hb
    intro _
    exact h
  · replace h := hb c0
    clear ha hb
    intro _
    exact h
set_option maxRecDepth 20000 in
theorem g_X10_line_27 {Q X : m_Po} {v0 v2 v3 v4 v5 v6 t : Int} {ε : m_E} {μ : m_M} (h : TY ε μ → i32 v2 → i32 v3 → i32 v4 → i32 v5 → i32 t → (t ≠ 0 → ∀ n : Int, nx ε ≤ n → X 2 (enx ε n) μ) ∧ (t = 0 → o_X10_isFar [(0, v5), (0, 1000000000)] ε μ (fun z ε_1 μ_1 => G cd_X10_line Q X 37 [(0, (2, v0)), (2, (0, v2)), (3, (0, v3)), (4, (0, v4)), (5, (0, v5)), (6, (2, v6))] [(0, z)] ε_1 μ_1) m_F)) : G cd_X10_line Q X 27 [(0, (2, v0)), (2, (0, v2)), (3, (0, v3)), (4, (0, v4)), (5, (0, v5)), (6, (2, v6))] [(0, t)] ε μ := by
  refine G_run (m_in [5, 11, 17, 27, 37, 55, 70, 73, 88]) 17 _ _ _ _ ?_
  show m_ty [(0, (2, v0)), (2, (0, v2)), (3, (0, v3)), (4, (0, v4)), (5, (0, v5)), (6, (2, v6))] [(0, t)] ε μ → (t ≠ 0 → (m_ty [] [] ε μ → ∀ n : Int, nx ε ≤ n → X 2 (enx ε n) μ)) ∧ (t = 0 → (m_ty [(0, (2, v0)), (2, (0, v2)), (3, (0, v3)), (4, (0, v4)), (5, (0, v5)), (6, (2, v6))] [] ε μ → o_X10_isFar [(0, v5), (0, 1000000000)] ε μ (fun z ε_1 μ_1 => G cd_X10_line Q X 37 [(0, (2, v0)), (2, (0, v2)), (3, (0, v3)), (4, (0, v4)), (5, (0, v5)), (6, (2, v6))] [(0, z)] ε_1 μ_1) m_F))
  intro hty
  replace h := h hty.1 (hty.2.1 _ (List.mem_of_getElem? (i := 1) rfl)) (hty.2.1 _ (List.mem_of_getElem? (i := 2) rfl)) (hty.2.1 _ (List.mem_of_getElem? (i := 3) rfl)) (hty.2.1 _ (List.mem_of_getElem? (i := 4) rfl)) (hty.2.2 _ (List.mem_of_getElem? (i := 0) rfl))
  obtain ⟨ha, hb⟩ := h
  refine And.intro (fun c0 => ?_) (fun c0 => ?_)
  · replace h := ha c0
    clear ha hb
    intro _
    exact h
  · replace h := hb c0
    clear ha hb
    intro _
    exact h
set_option maxRecDepth 20000 in
theorem g_X10_line_17 {Q X : m_Po} {v0 v2 v3 v4 v5 v6 t : Int} {ε : m_E} {μ : m_M} (h : TY ε μ → i32 v2 → i32 v3 → i32 v4 → i32 v5 → i32 t → (t ≠ 0 → ∀ n : Int, nx ε ≤ n → X 2 (enx ε n) μ) ∧ (t = 0 → o_X10_isFar [(0, v4), (0, 1000000000)] ε μ (fun z ε_1 μ_1 => G cd_X10_line Q X 27 [(0, (2, v0)), (2, (0, v2)), (3, (0, v3)), (4, (0, v4)), (5, (0, v5)), (6, (2, v6))] [(0, z)] ε_1 μ_1) m_F)) : G cd_X10_line Q X 17 [(0, (2, v0)), (2, (0, v2)), (3, (0, v3)), (4, (0, v4)), (5, (0, v5)), (6, (2, v6))] [(0, t)] ε μ := by
  refine G_run (m_in [5, 11, 17, 27, 37, 55, 70, 73, 88]) 17 _ _ _ _ ?_
  show m_ty [(0, (2, v0)), (2, (0, v2)), (3, (0, v3)), (4, (0, v4)), (5, (0, v5)), (6, (2, v6))] [(0, t)] ε μ → (t ≠ 0 → (m_ty [] [] ε μ → ∀ n : Int, nx ε ≤ n → X 2 (enx ε n) μ)) ∧ (t = 0 → (m_ty [(0, (2, v0)), (2, (0, v2)), (3, (0, v3)), (4, (0, v4)), (5, (0, v5)), (6, (2, v6))] [] ε μ → o_X10_isFar [(0, v4), (0, 1000000000)] ε μ (fun z ε_1 μ_1 => G cd_X10_line Q X 27 [(0, (2, v0)), (2, (0, v2)), (3, (0, v3)), (4, (0, v4)), (5, (0, v5)), (6, (2, v6))] [(0, z)] ε_1 μ_1) m_F))
  intro hty
  replace h := h hty.1 (hty.2.1 _ (List.mem_of_getElem? (i := 1) rfl)) (hty.2.1 _ (List.mem_of_getElem? (i := 2) rfl)) (hty.2.1 _ (List.mem_of_getElem? (i := 3) rfl)) (hty.2.1 _ (List.mem_of_getElem? (i := 4) rfl)) (hty.2.2 _ (List.mem_of_getElem? (i := 0) rfl))
  obtain ⟨ha, hb⟩ := h
  refine And.intro (fun c0 => ?_) (fun c0 => ?_)
  · replace h := ha c0
    clear ha hb
    intro _
    exact h
  · replace h := hb c0
    clear ha hb
    intro _
    exact h
set_option maxRecDepth 20000 in
theorem g_X10_line_11 {Q X : m_Po} {v0 v2 v3 v4 v5 v6 : Int} {ε : m_E} {μ : m_M} (h : TY ε μ → i32 v2 → i32 v3 → i32 v4 → i32 v5 → o_X10_isFar [(0, v3), (0, 1000000000)] ε μ (fun z ε_1 μ_1 => G cd_X10_line Q X 17 [(0, (2, v0)), (2, (0, v2)), (3, (0, v3)), (4, (0, v4)), (5, (0, v5)), (6, (2, v6))] [(0, z)] ε_1 μ_1) m_F) : G cd_X10_line Q X 11 [(0, (2, v0)), (2, (0, v2)), (3, (0, v3)), (4, (0, v4)), (5, (0, v5)), (6, (2, v6))] [] ε μ := by
  refine G_run (m_in [5, 11, 17, 27, 37, 55, 70, 73, 88]) 17 _ _ _ _ ?_
  show m_ty [(0, (2, v0)), (2, (0, v2)), (3, (0, v3)), (4, (0, v4)), (5, (0, v5)), (6, (2, v6))] [] ε μ → o_X10_isFar [(0, v3), (0, 1000000000)] ε μ (fun z ε_1 μ_1 => G cd_X10_line Q X 17 [(0, (2, v0)), (2, (0, v2)), (3, (0, v3)), (4, (0, v4)), (5, (0, v5)), (6, (2, v6))] [(0, z)] ε_1 μ_1) m_F
  intro hty
  replace h := h hty.1 (hty.2.1 _ (List.mem_of_getElem? (i := 1) rfl)) (hty.2.1 _ (List.mem_of_getElem? (i := 2) rfl)) (hty.2.1 _ (List.mem_of_getElem? (i := 3) rfl)) (hty.2.1 _ (List.mem_of_getElem? (i := 4) rfl))
  exact h
set_option maxRecDepth 20000 in
theorem g_X10_line_5 {Q X : m_Po} {v0 v2 v3 v4 v5 t : Int} {ε : m_E} {μ : m_M} (h : TY ε μ → i32 v2 → i32 v3 → i32 v4 → i32 v5 → ∀ v6 : Int, v6 = t → o_X10_requireHow [(0, v2)] ε μ (fun z ε_1 μ_1 => G cd_X10_line Q X 11 [(0, (2, v0)), (2, (0, v2)), (3, (0, v3)), (4, (0, v4)), (5, (0, v5)), (6, (2, v6))] [] ε_1 μ_1) X) : G cd_X10_line Q X 5 [(0, (2, v0)), (2, (0, v2)), (3, (0, v3)), (4, (0, v4)), (5, (0, v5))] [(2, t)] ε μ := by
  refine G_run (m_in [5, 11, 17, 27, 37, 55, 70, 73, 88]) 17 _ _ _ _ ?_
  show m_ty [(0, (2, v0)), (2, (0, v2)), (3, (0, v3)), (4, (0, v4)), (5, (0, v5))] [(2, t)] ε μ → ∀ v6 : Int, v6 = t → o_X10_requireHow [(0, v2)] ε μ (fun z ε_1 μ_1 => G cd_X10_line Q X 11 [(0, (2, v0)), (2, (0, v2)), (3, (0, v3)), (4, (0, v4)), (5, (0, v5)), (6, (2, v6))] [] ε_1 μ_1) X
  intro hty
  replace h := h hty.1 (hty.2.1 _ (List.mem_of_getElem? (i := 1) rfl)) (hty.2.1 _ (List.mem_of_getElem? (i := 2) rfl)) (hty.2.1 _ (List.mem_of_getElem? (i := 3) rfl)) (hty.2.1 _ (List.mem_of_getElem? (i := 4) rfl))
  intro v6 e_v6
  replace h := h v6 e_v6
  exact h
set_option maxRecDepth 20000 in
theorem g_X10_line_0 {Q X : m_Po} {v0 v1 v2 v3 v4 v5 : Int} {ε : m_E} {μ : m_M} (h : TY ε μ → i32 v1 → i32 v2 → i32 v3 → i32 v4 → i32 v5 → kd ε v0 = 9 ∧ o_X10_archAt [(2, v0), (0, v1)] ε μ (fun z ε_1 μ_1 => G cd_X10_line Q X 5 [(0, (2, v0)), (2, (0, v2)), (3, (0, v3)), (4, (0, v4)), (5, (0, v5))] [(2, z)] ε_1 μ_1) X) : G cd_X10_line Q X 0 [(0, (2, v0)), (1, (0, v1)), (2, (0, v2)), (3, (0, v3)), (4, (0, v4)), (5, (0, v5))] [] ε μ := by
  refine G_run (m_in [5, 11, 17, 27, 37, 55, 70, 73, 88]) 17 _ _ _ _ ?_
  show m_ty [(0, (2, v0)), (1, (0, v1)), (2, (0, v2)), (3, (0, v3)), (4, (0, v4)), (5, (0, v5))] [] ε μ → (kd ε v0 = 9) ∧ o_X10_archAt [(2, v0), (0, v1)] ε μ (fun z ε_1 μ_1 => G cd_X10_line Q X 5 [(0, (2, v0)), (2, (0, v2)), (3, (0, v3)), (4, (0, v4)), (5, (0, v5))] [(2, z)] ε_1 μ_1) X
  intro hty
  replace h := h hty.1 (hty.2.1 _ (List.mem_of_getElem? (i := 1) rfl)) (hty.2.1 _ (List.mem_of_getElem? (i := 2) rfl)) (hty.2.1 _ (List.mem_of_getElem? (i := 3) rfl)) (hty.2.1 _ (List.mem_of_getElem? (i := 4) rfl)) (hty.2.1 _ (List.mem_of_getElem? (i := 5) rfl))
  obtain ⟨k1, h⟩ := h
  refine And.intro k1 ?_
  exact h
theorem e_X10_line {Q X : m_Po} {v0 v1 v2 v3 v4 v5 : Int} {ε : m_E} {μ : m_M} (h : TY ε μ → i32 v1 → i32 v2 → i32 v3 → i32 v4 → i32 v5 → kd ε v0 = 9 ∧ o_X10_archAt [(2, v0), (0, v1)] ε μ (fun z ε_1 μ_1 => G cd_X10_line Q X 5 [(0, (2, v0)), (2, (0, v2)), (3, (0, v3)), (4, (0, v4)), (5, (0, v5))] [(2, z)] ε_1 μ_1) X) : o_X10_line [(2, v0), (0, v1), (0, v2), (0, v3), (0, v4), (0, v5)] ε μ Q X := And.intro rfl (g_X10_line_0 h)
/-! ArchYard.judge(II)I -/
set_option maxRecDepth 20000 in
theorem g_X10_judge_119 {Q X : m_Po} {ε : m_E} {μ : m_M} (h : TY ε μ → Q 0 ε μ) : G cd_X10_judge Q X 119 [] [] ε μ := by
  refine G_run (m_in [5, 10, 14, 28, 31, 43, 62, 74, 91, 104, 119]) 17 _ _ _ _ ?_
  show m_ty [] [] ε μ → Q 0 ε μ
  intro hty
  replace h := h hty.1 
  exact h
set_option maxRecDepth 20000 in
theorem g_X10_judge_104 {Q X : m_Po} {v0 : Int} {ε : m_E} {μ : m_M} (h : TY ε μ → kd ε v0 = 9 ∧ kd ε (fn ε v0 5) = 3 ∧ o_X3_report [(2, fn ε v0 5), (2, fn ε v0 3), (2, fn ε v0 6)] ε μ (fun z ε_1 μ_1 => G cd_X10_judge Q X 119 [] [] ε_1 μ_1) m_F) : G cd_X10_judge Q X 104 [(0, (2, v0))] [] ε μ := by
  refine G_run (m_in [5, 10, 14, 28, 31, 43, 62, 74, 91, 104, 119]) 17 _ _ _ _ ?_
  show m_ty [(0, (2, v0))] [] ε μ → (kd ε v0 = 9) ∧ (kd ε v0 = 9) ∧ (kd ε v0 = 9) ∧ (kd ε (fn ε v0 5) = 3) ∧ o_X3_report [(2, fn ε v0 5), (2, fn ε v0 3), (2, fn ε v0 6)] ε μ (fun z ε_1 μ_1 => G cd_X10_judge Q X 119 [] [] ε_1 μ_1) m_F
  intro hty
  replace h := h hty.1 
  obtain ⟨k1, h⟩ := h
  refine And.intro k1 ?_
  refine And.intro k1 ?_
  refine And.intro k1 ?_
  obtain ⟨k2, h⟩ := h
  refine And.intro k2 ?_
  exact h
set_option maxRecDepth 20000 in
theorem g_X10_judge_91 {Q X : m_Po} {ε : m_E} {μ : m_M} (h : TY ε μ → Q 1 ε μ) : G cd_X10_judge Q X 91 [] [] ε μ := by
  refine G_run (m_in [5, 10, 14, 28, 31, 43, 62, 74, 91, 104, 119]) 17 _ _ _ _ ?_
  show m_ty [] [] ε μ → Q 1 ε μ
  intro hty
  replace h := h hty.1 
  exact h
set_option maxRecDepth 20000 in
theorem g_X10_judge_74 {Q X : m_Po} {v0 t : Int} {ε : m_E} {μ : m_M} (h : TY ε μ → i32 t → kd ε v0 = 9 ∧ kd ε (fn ε v0 4) = 2 ∧ o_X2_report [(2, fn ε v0 4), (2, fn ε v0 3), (2, fn ε v0 6), (0, 1)] ε μ (fun z ε_1 μ_1 => G cd_X10_judge Q X 91 [] [] ε_1 μ_1) m_F) : G cd_X10_judge Q X 74 [(0, (2, v0))] [(0, t)] ε μ := by
  refine G_run (m_in [5, 10, 14, 28, 31, 43, 62, 74, 91, 104, 119]) 17 _ _ _ _ ?_
  show m_ty [(0, (2, v0))] [(0, t)] ε μ → (kd ε v0 = 9) ∧ (kd ε v0 = 9) ∧ (kd ε v0 = 9) ∧ (kd ε (fn ε v0 4) = 2) ∧ o_X2_report [(2, fn ε v0 4), (2, fn ε v0 3), (2, fn ε v0 6), (0, 1)] ε μ (fun z ε_1 μ_1 => G cd_X10_judge Q X 91 [] [] ε_1 μ_1) m_F
  intro hty
  replace h := h hty.1 (hty.2.2 _ (List.mem_of_getElem? (i := 0) rfl))
  obtain ⟨k1, h⟩ := h
  refine And.intro k1 ?_
  refine And.intro k1 ?_
  refine And.intro k1 ?_
  obtain ⟨k2, h⟩ := h
  refine And.intro k2 ?_
  exact h
set_option maxRecDepth 20000 in
theorem g_X10_judge_62 {Q X : m_Po} {v0 : Int} {ε : m_E} {μ : m_M} (h : TY ε μ → kd ε v0 = 9 ∧ kd ε (fn ε v0 4) = 2 ∧ o_X2_seek [(2, fn ε v0 4), (2, fn ε v0 3), (0, 1)] ε μ (fun z ε_1 μ_1 => G cd_X10_judge Q X 74 [(0, (2, v0))] [(0, z)] ε_1 μ_1) m_F) : G cd_X10_judge Q X 62 [(0, (2, v0))] [] ε μ := by
  refine G_run (m_in [5, 10, 14, 28, 31, 43, 62, 74, 91, 104, 119]) 17 _ _ _ _ ?_
  show m_ty [(0, (2, v0))] [] ε μ → (kd ε v0 = 9) ∧ (kd ε v0 = 9) ∧ (kd ε (fn ε v0 4) = 2) ∧ o_X2_seek [(2, fn ε v0 4), (2, fn ε v0 3), (0, 1)] ε μ (fun z ε_1 μ_1 => G cd_X10_judge Q X 74 [(0, (2, v0))] [(0, z)] ε_1 μ_1) m_F
  intro hty
  replace h := h hty.1 
  obtain ⟨k1, h⟩ := h
  refine And.intro k1 ?_
  refine And.intro k1 ?_
  obtain ⟨k2, h⟩ := h
  refine And.intro k2 ?_
  exact h
set_option maxRecDepth 20000 in
theorem g_X10_judge_43 {Q X : m_Po} {v0 t : Int} {ε : m_E} {μ : m_M} (h : TY ε μ → i32 t → (t = 0 → kd ε v0 = 9 ∧ kd ε (fn ε v0 5) = 3 ∧ o_X3_search [(2, fn ε v0 5), (2, fn ε v0 3)] ε μ (fun z ε_1 μ_1 => G cd_X10_judge Q X 104 [(0, (2, v0))] [] ε_1 μ_1) m_F) ∧ (t ≠ 0 → kd ε v0 = 9 ∧ kd ε (fn ε v0 4) = 2 ∧ o_X2_report [(2, fn ε v0 4), (2, fn ε v0 3), (2, fn ε v0 6), (0, 0)] ε μ (fun z_1 ε_2 μ_2 => G cd_X10_judge Q X 62 [(0, (2, v0))] [] ε_2 μ_2) m_F)) : G cd_X10_judge Q X 43 [(0, (2, v0))] [(0, t)] ε μ := by
  refine G_run (m_in [5, 10, 14, 28, 31, 43, 62, 74, 91, 104, 119]) 17 _ _ _ _ ?_
  show m_ty [(0, (2, v0))] [(0, t)] ε μ → (t = 0 → (m_ty [(0, (2, v0))] [] ε μ → (kd ε v0 = 9) ∧ (kd ε v0 = 9) ∧ (kd ε (fn ε v0 5) = 3) ∧ o_X3_search [(2, fn ε v0 5), (2, fn ε v0 3)] ε μ (fun z ε_1 μ_1 => G cd_X10_judge Q X 104 [(0, (2, v0))] [] ε_1 μ_1) m_F)) ∧ (t ≠ 0 → (m_ty [(0, (2, v0))] [] ε μ → (kd ε v0 = 9) ∧ (kd ε v0 = 9) ∧ (kd ε v0 = 9) ∧ (kd ε (fn ε v0 4) = 2) ∧ o_X2_report [(2, fn ε v0 4), (2, fn ε v0 3), (2, fn ε v0 6), (0, 0)] ε μ (fun z_1 ε_2 μ_2 => G cd_X10_judge Q X 62 [(0, (2, v0))] [] ε_2 μ_2) m_F))
  intro hty
  replace h := h hty.1 (hty.2.2 _ (List.mem_of_getElem? (i := 0) rfl))
  obtain ⟨ha, hb⟩ := h
  refine And.intro (fun c4 => ?_) (fun c4 => ?_)
  · replace h := ha c4
    clear ha hb
    intro _
    obtain ⟨k1, h⟩ := h
    refine And.intro k1 ?_
    refine And.intro k1 ?_
    obtain ⟨k2, h⟩ := h
    refine And.intro k2 ?_
    exact h
  · replace h := hb c4
    clear ha hb
    intro _
    obtain ⟨k3, h⟩ := h
    refine And.intro k3 ?_
    refine And.intro k3 ?_
    refine And.intro k3 ?_
    obtain ⟨k4, h⟩ := h
    refine And.intro k4 ?_
    exact h
set_option maxRecDepth 20000 in
theorem g_X10_judge_31 {Q X : m_Po} {v0 : Int} {ε : m_E} {μ : m_M} (h : TY ε μ → kd ε v0 = 9 ∧ kd ε (fn ε v0 4) = 2 ∧ o_X2_seek [(2, fn ε v0 4), (2, fn ε v0 3), (0, 0)] ε μ (fun z ε_1 μ_1 => G cd_X10_judge Q X 43 [(0, (2, v0))] [(0, z)] ε_1 μ_1) m_F) : G cd_X10_judge Q X 31 [(0, (2, v0))] [] ε μ := by
  refine G_run (m_in [5, 10, 14, 28, 31, 43, 62, 74, 91, 104, 119]) 17 _ _ _ _ ?_
  show m_ty [(0, (2, v0))] [] ε μ → (kd ε v0 = 9) ∧ (kd ε v0 = 9) ∧ (kd ε (fn ε v0 4) = 2) ∧ o_X2_seek [(2, fn ε v0 4), (2, fn ε v0 3), (0, 0)] ε μ (fun z ε_1 μ_1 => G cd_X10_judge Q X 43 [(0, (2, v0))] [(0, z)] ε_1 μ_1) m_F
  intro hty
  replace h := h hty.1 
  obtain ⟨k1, h⟩ := h
  refine And.intro k1 ?_
  refine And.intro k1 ?_
  obtain ⟨k2, h⟩ := h
  refine And.intro k2 ?_
  exact h
set_option maxRecDepth 20000 in
theorem g_X10_judge_28 {Q X : m_Po} {v0 t t_1 t_2 : Int} {ε : m_E} {μ : m_M} (h : TY ε μ → i32 t_2 → kd ε t = 1 ∧ o_X1_gather [(2, t), (2, t_1), (0, t_2)] ε μ (fun z ε_1 μ_1 => G cd_X10_judge Q X 31 [(0, (2, v0))] [] ε_1 μ_1) m_F) : G cd_X10_judge Q X 28 [(0, (2, v0))] [(0, t_2), (2, t_1), (2, t)] ε μ := by
  refine G_run (m_in [5, 10, 14, 28, 31, 43, 62, 74, 91, 104, 119]) 17 _ _ _ _ ?_
  show m_ty [(0, (2, v0))] [(0, t_2), (2, t_1), (2, t)] ε μ → (kd ε t = 1) ∧ o_X1_gather [(2, t), (2, t_1), (0, t_2)] ε μ (fun z ε_1 μ_1 => G cd_X10_judge Q X 31 [(0, (2, v0))] [] ε_1 μ_1) m_F
  intro hty
  replace h := h hty.1 (hty.2.2 _ (List.mem_of_getElem? (i := 0) rfl))
  obtain ⟨k1, h⟩ := h
  refine And.intro k1 ?_
  exact h
set_option maxRecDepth 20000 in
theorem g_X10_judge_14 {Q X : m_Po} {v0 v2 v3 : Int} {ε : m_E} {μ : m_M} (h : TY ε μ → i32 v2 → kd ε v0 = 9 ∧ ∀ t : Int, t = (if v2 = 0 then 1 else 0) → kd ε (fn ε v0 3) = 1 ∧ o_X1_gather [(2, (fn ε v0 3)), (2, v3), (0, t)] ε μ (fun z ε_1 μ_1 => G cd_X10_judge Q X 31 [(0, (2, v0))] [] ε_1 μ_1) m_F) : G cd_X10_judge Q X 14 [(0, (2, v0)), (2, (0, v2)), (3, (2, v3))] [] ε μ := by
  refine G_run (m_in [5, 10, 14, 28, 31, 43, 62, 74, 91, 104, 119]) 17 _ _ _ _ ?_
  show m_ty [(0, (2, v0)), (2, (0, v2)), (3, (2, v3))] [] ε μ → (kd ε v0 = 9) ∧ (v2 ≠ 0 → (m_ty [(0, (2, v0))] [(2, v3), (2, fn ε v0 3)] ε μ → G cd_X10_judge Q X 28 [(0, (2, v0))] [(0, 0), (2, v3), (2, fn ε v0 3)] ε μ)) ∧ (v2 = 0 → (m_ty [(0, (2, v0))] [(2, v3), (2, fn ε v0 3)] ε μ → G cd_X10_judge Q X 28 [(0, (2, v0))] [(0, 1), (2, v3), (2, fn ε v0 3)] ε μ))
  intro hty
  replace h := h hty.1 (hty.2.1 _ (List.mem_of_getElem? (i := 1) rfl))
  obtain ⟨k1, h⟩ := h
  refine And.intro k1 ?_
  have hj := h
  refine And.intro (fun c1 => ?_) (fun c1 => ?_)
  · intro _
    exact g_X10_judge_28 (fun _ _ => (hj _ (((if_neg (c1)).trans rfl)).symm))
  · intro _
    exact g_X10_judge_28 (fun _ _ => (hj _ (((if_pos c1).trans rfl)).symm))
set_option maxRecDepth 20000 in
theorem g_X10_judge_10 {Q X : m_Po} {v0 v2 v3 : Int} {ε : m_E} {μ : m_M} (h : TY ε μ → i32 v2 → o_X10_requireWhole [(2, v3)] ε μ (fun z ε_1 μ_1 => G cd_X10_judge Q X 14 [(0, (2, v0)), (2, (0, v2)), (3, (2, v3))] [] ε_1 μ_1) X) : G cd_X10_judge Q X 10 [(0, (2, v0)), (2, (0, v2)), (3, (2, v3))] [] ε μ := by
  refine G_run (m_in [5, 10, 14, 28, 31, 43, 62, 74, 91, 104, 119]) 17 _ _ _ _ ?_
  show m_ty [(0, (2, v0)), (2, (0, v2)), (3, (2, v3))] [] ε μ → o_X10_requireWhole [(2, v3)] ε μ (fun z ε_1 μ_1 => G cd_X10_judge Q X 14 [(0, (2, v0)), (2, (0, v2)), (3, (2, v3))] [] ε_1 μ_1) X
  intro hty
  replace h := h hty.1 (hty.2.1 _ (List.mem_of_getElem? (i := 1) rfl))
  exact h
set_option maxRecDepth 20000 in
theorem g_X10_judge_5 {Q X : m_Po} {v0 v2 t : Int} {ε : m_E} {μ : m_M} (h : TY ε μ → i32 v2 → ∀ v3 : Int, v3 = t → o_X10_requireHow [(0, v2)] ε μ (fun z ε_1 μ_1 => G cd_X10_judge Q X 10 [(0, (2, v0)), (2, (0, v2)), (3, (2, v3))] [] ε_1 μ_1) X) : G cd_X10_judge Q X 5 [(0, (2, v0)), (2, (0, v2))] [(2, t)] ε μ := by
  refine G_run (m_in [5, 10, 14, 28, 31, 43, 62, 74, 91, 104, 119]) 17 _ _ _ _ ?_
  show m_ty [(0, (2, v0)), (2, (0, v2))] [(2, t)] ε μ → ∀ v3 : Int, v3 = t → o_X10_requireHow [(0, v2)] ε μ (fun z ε_1 μ_1 => G cd_X10_judge Q X 10 [(0, (2, v0)), (2, (0, v2)), (3, (2, v3))] [] ε_1 μ_1) X
  intro hty
  replace h := h hty.1 (hty.2.1 _ (List.mem_of_getElem? (i := 1) rfl))
  intro v3 e_v3
  replace h := h v3 e_v3
  exact h
set_option maxRecDepth 20000 in
theorem g_X10_judge_0 {Q X : m_Po} {v0 v1 v2 : Int} {ε : m_E} {μ : m_M} (h : TY ε μ → i32 v1 → i32 v2 → kd ε v0 = 9 ∧ o_X10_archAt [(2, v0), (0, v1)] ε μ (fun z ε_1 μ_1 => G cd_X10_judge Q X 5 [(0, (2, v0)), (2, (0, v2))] [(2, z)] ε_1 μ_1) X) : G cd_X10_judge Q X 0 [(0, (2, v0)), (1, (0, v1)), (2, (0, v2))] [] ε μ := by
  refine G_run (m_in [5, 10, 14, 28, 31, 43, 62, 74, 91, 104, 119]) 17 _ _ _ _ ?_
  show m_ty [(0, (2, v0)), (1, (0, v1)), (2, (0, v2))] [] ε μ → (kd ε v0 = 9) ∧ o_X10_archAt [(2, v0), (0, v1)] ε μ (fun z ε_1 μ_1 => G cd_X10_judge Q X 5 [(0, (2, v0)), (2, (0, v2))] [(2, z)] ε_1 μ_1) X
  intro hty
  replace h := h hty.1 (hty.2.1 _ (List.mem_of_getElem? (i := 1) rfl)) (hty.2.1 _ (List.mem_of_getElem? (i := 2) rfl))
  obtain ⟨k1, h⟩ := h
  refine And.intro k1 ?_
  exact h
theorem e_X10_judge {Q X : m_Po} {v0 v1 v2 : Int} {ε : m_E} {μ : m_M} (h : TY ε μ → i32 v1 → i32 v2 → kd ε v0 = 9 ∧ o_X10_archAt [(2, v0), (0, v1)] ε μ (fun z ε_1 μ_1 => G cd_X10_judge Q X 5 [(0, (2, v0)), (2, (0, v2))] [(2, z)] ε_1 μ_1) X) : o_X10_judge [(2, v0), (0, v1), (0, v2)] ε μ Q X := And.intro rfl (g_X10_judge_0 h)
/-! ArchYard.number(I)I -/
set_option maxRecDepth 20000 in
theorem g_X10_number_52 {Q X : m_Po} {t : Int} {ε : m_E} {μ : m_M} (h : TY ε μ → i32 t → Q t ε μ) : G cd_X10_number Q X 52 [] [(0, t)] ε μ := by
  refine G_run (m_in [7, 52]) 9 _ _ _ _ ?_
  show m_ty [] [(0, t)] ε μ → Q t ε μ
  intro hty
  replace h := h hty.1 (hty.2.2 _ (List.mem_of_getElem? (i := 0) rfl))
  exact h
set_option maxRecDepth 20000 in
theorem g_X10_number_7 {Q X : m_Po} {v0 v1 t : Int} {ε : m_E} {μ : m_M} (h : TY ε μ → i32 v1 → i32 t → (t ≠ 0 → (v1 < 0 → ∀ n : Int, nx ε ≤ n → X 2 (enx ε n) μ) ∧ (0 ≤ v1 → (v1 < (6 : Int) → kd ε v0 = 9 ∧ kd ε (fn ε v0 6) = 7 ∧ o_X8_writeNumber [(2, fn ε v0 6), (0, v1), (2, fn ε v0 7)] ε μ (fun z ε_1 μ_1 => G cd_X10_number Q X 52 [] [(0, z)] ε_1 μ_1) m_F) ∧ ((6 : Int) ≤ v1 → ∀ n_1 : Int, nx ε ≤ n_1 → X 2 (enx ε n_1) μ))) ∧ (t = 0 → ∀ n_2 : Int, nx ε ≤ n_2 → X 3 (enx ε n_2) μ)) : G cd_X10_number Q X 7 [(0, (2, v0)), (1, (0, v1))] [(0, t)] ε μ := by
  refine G_run (m_in [7, 52]) 9 _ _ _ _ ?_
  show m_ty [(0, (2, v0)), (1, (0, v1))] [(0, t)] ε μ → (t ≠ 0 → (m_ty [(0, (2, v0)), (1, (0, v1))] [] ε μ → (v1 < 0 → (m_ty [] [] ε μ → ∀ n : Int, nx ε ≤ n → X 2 (enx ε n) μ)) ∧ (0 ≤ v1 → (m_ty [(0, (2, v0)), (1, (0, v1))] [] ε μ → (v1 < (6 : Int) → (m_ty [(0, (2, v0)), (1, (0, v1))] [] ε μ → (kd ε v0 = 9) ∧ (kd ε v0 = 9) ∧ (kd ε (fn ε v0 6) = 7) ∧ o_X8_writeNumber [(2, fn ε v0 6), (0, v1), (2, fn ε v0 7)] ε μ (fun z ε_1 μ_1 => G cd_X10_number Q X 52 [] [(0, z)] ε_1 μ_1) m_F)) ∧ ((6 : Int) ≤ v1 → (m_ty [] [] ε μ → ∀ n_1 : Int, nx ε ≤ n_1 → X 2 (enx ε n_1) μ)))))) ∧ (t = 0 → (m_ty [] [] ε μ → ∀ n_2 : Int, nx ε ≤ n_2 → X 3 (enx ε n_2) μ))
  intro hty
  replace h := h hty.1 (hty.2.1 _ (List.mem_of_getElem? (i := 1) rfl)) (hty.2.2 _ (List.mem_of_getElem? (i := 0) rfl))
  obtain ⟨ha, hb⟩ := h
  refine And.intro (fun c4 => ?_) (fun c4 => ?_)
  · replace h := ha c4
    clear ha hb
    intro _
    obtain ⟨ha, hb⟩ := h
    refine And.intro (fun c3 => ?_) (fun c3 => ?_)
    · replace h := ha c3
      clear ha hb
      intro _
      exact h
    · replace h := hb c3
      clear ha hb
      intro _
      obtain ⟨ha, hb⟩ := h
      refine And.intro (fun c2 => ?_) (fun c2 => ?_)
      · replace h := ha c2
        clear ha hb
        intro _
        obtain ⟨k1, h⟩ := h
        refine And.intro k1 ?_
        refine And.intro k1 ?_
        obtain ⟨k2, h⟩ := h
        refine And.intro k2 ?_
        exact h
      · replace h := hb c2
        clear ha hb
        intro _
        exact h
  · replace h := hb c4
    clear ha hb
    intro _
    exact h
set_option maxRecDepth 20000 in
theorem g_X10_number_0 {Q X : m_Po} {v0 v1 : Int} {ε : m_E} {μ : m_M} (h : TY ε μ → i32 v1 → kd ε v0 = 9 ∧ kd ε (fn ε v0 6) = 7 ∧ o_X8_isSafe [(2, fn ε v0 6)] ε μ (fun z ε_1 μ_1 => G cd_X10_number Q X 7 [(0, (2, v0)), (1, (0, v1))] [(0, z)] ε_1 μ_1) m_F) : G cd_X10_number Q X 0 [(0, (2, v0)), (1, (0, v1))] [] ε μ := by
  refine G_run (m_in [7, 52]) 9 _ _ _ _ ?_
  show m_ty [(0, (2, v0)), (1, (0, v1))] [] ε μ → (kd ε v0 = 9) ∧ (kd ε (fn ε v0 6) = 7) ∧ o_X8_isSafe [(2, fn ε v0 6)] ε μ (fun z ε_1 μ_1 => G cd_X10_number Q X 7 [(0, (2, v0)), (1, (0, v1))] [(0, z)] ε_1 μ_1) m_F
  intro hty
  replace h := h hty.1 (hty.2.1 _ (List.mem_of_getElem? (i := 1) rfl))
  obtain ⟨k1, h⟩ := h
  refine And.intro k1 ?_
  obtain ⟨k2, h⟩ := h
  refine And.intro k2 ?_
  exact h
theorem e_X10_number {Q X : m_Po} {v0 v1 : Int} {ε : m_E} {μ : m_M} (h : TY ε μ → i32 v1 → kd ε v0 = 9 ∧ kd ε (fn ε v0 6) = 7 ∧ o_X8_isSafe [(2, fn ε v0 6)] ε μ (fun z ε_1 μ_1 => G cd_X10_number Q X 7 [(0, (2, v0)), (1, (0, v1))] [(0, z)] ε_1 μ_1) m_F) : o_X10_number [(2, v0), (0, v1)] ε μ Q X := And.intro rfl (g_X10_number_0 h)
/-! ArchYard.bound(II)I -/
set_option maxRecDepth 20000 in
theorem g_X10_bound_9 {Q X : m_Po} {t : Int} {ε : m_E} {μ : m_M} (h : TY ε μ → i32 t → Q t ε μ) : G cd_X10_bound Q X 9 [] [(0, t)] ε μ := by
  refine G_run (m_in [9]) 3 _ _ _ _ ?_
  show m_ty [] [(0, t)] ε μ → Q t ε μ
  intro hty
  replace h := h hty.1 (hty.2.2 _ (List.mem_of_getElem? (i := 0) rfl))
  exact h
set_option maxRecDepth 20000 in
theorem g_X10_bound_0 {Q X : m_Po} {v0 v1 v2 : Int} {ε : m_E} {μ : m_M} (h : TY ε μ → i32 v1 → i32 v2 → kd ε v0 = 9 ∧ kd ε (fn ε v0 6) = 7 ∧ o_X8_boundAt [(2, fn ε v0 6), (0, v1), (0, v2)] ε μ (fun z ε_1 μ_1 => G cd_X10_bound Q X 9 [] [(0, z)] ε_1 μ_1) m_F) : G cd_X10_bound Q X 0 [(0, (2, v0)), (1, (0, v1)), (2, (0, v2))] [] ε μ := by
  refine G_run (m_in [9]) 3 _ _ _ _ ?_
  show m_ty [(0, (2, v0)), (1, (0, v1)), (2, (0, v2))] [] ε μ → (kd ε v0 = 9) ∧ (kd ε (fn ε v0 6) = 7) ∧ o_X8_boundAt [(2, fn ε v0 6), (0, v1), (0, v2)] ε μ (fun z ε_1 μ_1 => G cd_X10_bound Q X 9 [] [(0, z)] ε_1 μ_1) m_F
  intro hty
  replace h := h hty.1 (hty.2.1 _ (List.mem_of_getElem? (i := 1) rfl)) (hty.2.1 _ (List.mem_of_getElem? (i := 2) rfl))
  obtain ⟨k1, h⟩ := h
  refine And.intro k1 ?_
  obtain ⟨k2, h⟩ := h
  refine And.intro k2 ?_
  exact h
theorem e_X10_bound {Q X : m_Po} {v0 v1 v2 : Int} {ε : m_E} {μ : m_M} (h : TY ε μ → i32 v1 → i32 v2 → kd ε v0 = 9 ∧ kd ε (fn ε v0 6) = 7 ∧ o_X8_boundAt [(2, fn ε v0 6), (0, v1), (0, v2)] ε μ (fun z ε_1 μ_1 => G cd_X10_bound Q X 9 [] [(0, z)] ε_1 μ_1) m_F) : o_X10_bound [(2, v0), (0, v1), (0, v2)] ε μ Q X := And.intro rfl (g_X10_bound_0 h)
/-! ArchYard.weigh(I)I -/
set_option maxRecDepth 20000 in
theorem g_X10_weigh_12 {Q X : m_Po} {t : Int} {ε : m_E} {μ : m_M} (h : TY ε μ → i32 t → Q t ε μ) : G cd_X10_weigh Q X 12 [] [(0, t)] ε μ := by
  refine G_run (m_in [12]) 3 _ _ _ _ ?_
  show m_ty [] [(0, t)] ε μ → Q t ε μ
  intro hty
  replace h := h hty.1 (hty.2.2 _ (List.mem_of_getElem? (i := 0) rfl))
  exact h
set_option maxRecDepth 20000 in
theorem g_X10_weigh_0 {Q X : m_Po} {v0 v1 : Int} {ε : m_E} {μ : m_M} (h : TY ε μ → i32 v1 → kd ε v0 = 9 ∧ kd ε (fn ε v0 6) = 7 ∧ o_X8_writeWeight [(2, fn ε v0 6), (0, v1), (2, fn ε v0 7)] ε μ (fun z ε_1 μ_1 => G cd_X10_weigh Q X 12 [] [(0, z)] ε_1 μ_1) m_F) : G cd_X10_weigh Q X 0 [(0, (2, v0)), (1, (0, v1))] [] ε μ := by
  refine G_run (m_in [12]) 3 _ _ _ _ ?_
  show m_ty [(0, (2, v0)), (1, (0, v1))] [] ε μ → (kd ε v0 = 9) ∧ (kd ε v0 = 9) ∧ (kd ε (fn ε v0 6) = 7) ∧ o_X8_writeWeight [(2, fn ε v0 6), (0, v1), (2, fn ε v0 7)] ε μ (fun z ε_1 μ_1 => G cd_X10_weigh Q X 12 [] [(0, z)] ε_1 μ_1) m_F
  intro hty
  replace h := h hty.1 (hty.2.1 _ (List.mem_of_getElem? (i := 1) rfl))
  obtain ⟨k1, h⟩ := h
  refine And.intro k1 ?_
  refine And.intro k1 ?_
  obtain ⟨k2, h⟩ := h
  refine And.intro k2 ?_
  exact h
theorem e_X10_weigh {Q X : m_Po} {v0 v1 : Int} {ε : m_E} {μ : m_M} (h : TY ε μ → i32 v1 → kd ε v0 = 9 ∧ kd ε (fn ε v0 6) = 7 ∧ o_X8_writeWeight [(2, fn ε v0 6), (0, v1), (2, fn ε v0 7)] ε μ (fun z ε_1 μ_1 => G cd_X10_weigh Q X 12 [] [(0, z)] ε_1 μ_1) m_F) : o_X10_weigh [(2, v0), (0, v1)] ε μ Q X := And.intro rfl (g_X10_weigh_0 h)
/-! ArchYard.isSafeNarrowed(LArchYard$Arch;I)Z -/
set_option maxRecDepth 20000 in
theorem g_X10_isSafeNarrowed_21 {Q X : m_Po} {t : Int} {ε : m_E} {μ : m_M} (h : TY ε μ → i32 t → (t = 0 ∨ t = 1) ∧ Q t ε μ) : G cd_X10_isSafeNarrowed Q X 21 [] [(0, t)] ε μ := by
  refine G_run (m_in [9, 21]) 4 _ _ _ _ ?_
  show m_ty [] [(0, t)] ε μ → (t = 0 ∨ t = 1) ∧ Q t ε μ
  intro hty
  replace h := h hty.1 (hty.2.2 _ (List.mem_of_getElem? (i := 0) rfl))
  obtain ⟨k1, h⟩ := h
  refine And.intro k1 ?_
  exact h
set_option maxRecDepth 20000 in
theorem g_X10_isSafeNarrowed_9 {Q X : m_Po} {v0 : Int} {ε : m_E} {μ : m_M} (h : TY ε μ → kd ε v0 = 9 ∧ kd ε (fn ε v0 4) = 2 ∧ o_X2_seek [(2, fn ε v0 4), (2, fn ε v0 3), (0, 0)] ε μ (fun z ε_1 μ_1 => G cd_X10_isSafeNarrowed Q X 21 [] [(0, z)] ε_1 μ_1) m_F) : G cd_X10_isSafeNarrowed Q X 9 [(0, (2, v0))] [] ε μ := by
  refine G_run (m_in [9, 21]) 4 _ _ _ _ ?_
  show m_ty [(0, (2, v0))] [] ε μ → (kd ε v0 = 9) ∧ (kd ε v0 = 9) ∧ (kd ε (fn ε v0 4) = 2) ∧ o_X2_seek [(2, fn ε v0 4), (2, fn ε v0 3), (0, 0)] ε μ (fun z ε_1 μ_1 => G cd_X10_isSafeNarrowed Q X 21 [] [(0, z)] ε_1 μ_1) m_F
  intro hty
  replace h := h hty.1 
  obtain ⟨k1, h⟩ := h
  refine And.intro k1 ?_
  refine And.intro k1 ?_
  obtain ⟨k2, h⟩ := h
  refine And.intro k2 ?_
  exact h
set_option maxRecDepth 20000 in
theorem g_X10_isSafeNarrowed_0 {Q X : m_Po} {v0 v1 v2 : Int} {ε : m_E} {μ : m_M} (h : TY ε μ → i32 v2 → kd ε v0 = 9 ∧ kd ε (fn ε v0 3) = 1 ∧ o_X1_gatherNarrowed [(2, fn ε v0 3), (2, v1), (0, v2)] ε μ (fun z ε_1 μ_1 => G cd_X10_isSafeNarrowed Q X 9 [(0, (2, v0))] [] ε_1 μ_1) m_F) : G cd_X10_isSafeNarrowed Q X 0 [(0, (2, v0)), (1, (2, v1)), (2, (0, v2))] [] ε μ := by
  refine G_run (m_in [9, 21]) 4 _ _ _ _ ?_
  show m_ty [(0, (2, v0)), (1, (2, v1)), (2, (0, v2))] [] ε μ → (kd ε v0 = 9) ∧ (kd ε (fn ε v0 3) = 1) ∧ o_X1_gatherNarrowed [(2, fn ε v0 3), (2, v1), (0, v2)] ε μ (fun z ε_1 μ_1 => G cd_X10_isSafeNarrowed Q X 9 [(0, (2, v0))] [] ε_1 μ_1) m_F
  intro hty
  replace h := h hty.1 (hty.2.1 _ (List.mem_of_getElem? (i := 2) rfl))
  obtain ⟨k1, h⟩ := h
  refine And.intro k1 ?_
  obtain ⟨k2, h⟩ := h
  refine And.intro k2 ?_
  exact h
theorem e_X10_isSafeNarrowed {Q X : m_Po} {v0 v1 v2 : Int} {ε : m_E} {μ : m_M} (h : TY ε μ → i32 v2 → kd ε v0 = 9 ∧ kd ε (fn ε v0 3) = 1 ∧ o_X1_gatherNarrowed [(2, fn ε v0 3), (2, v1), (0, v2)] ε μ (fun z ε_1 μ_1 => G cd_X10_isSafeNarrowed Q X 9 [(0, (2, v0))] [] ε_1 μ_1) m_F) : o_X10_isSafeNarrowed [(2, v0), (2, v1), (0, v2)] ε μ Q X := And.intro rfl (g_X10_isSafeNarrowed_0 h)
/-! ArchYard.room(I)I -/
set_option maxRecDepth 20000 in
theorem g_X10_room_93 {Q X : m_Po} {t : Int} {ε : m_E} {μ : m_M} (h : TY ε μ → i32 t → Q t ε μ) : G cd_X10_room Q X 93 [] [(0, t)] ε μ := by
  refine G_run (m_in [5, 10, 16, 27, 42, 50, 72, 79, 80, 93]) 21 _ _ _ _ ?_
  show m_ty [] [(0, t)] ε μ → Q t ε μ
  intro hty
  replace h := h hty.1 (hty.2.2 _ (List.mem_of_getElem? (i := 0) rfl))
  exact h
set_option maxRecDepth 20000 in
theorem g_X10_room_80 {Q X : m_Po} {v3 t : Int} {ε : m_E} {μ : m_M} (h : TY ε μ → i32 v3 → i32 t → ∀ v4 : Int, v4 = t → ∀ t_1 : Int, t_1 = (if v4 = 0 then v3 else 64) → Q t_1 ε μ) : G cd_X10_room Q X 80 [(3, (0, v3))] [(0, t)] ε μ := by
  refine G_run (m_in [5, 10, 16, 27, 42, 50, 72, 79, 80, 93]) 21 _ _ _ _ ?_
  show m_ty [(3, (0, v3))] [(0, t)] ε μ → ∀ v4 : Int, v4 = t → (v4 = 0 → (m_ty [(3, (0, v3))] [] ε μ → G cd_X10_room Q X 93 [] [(0, v3)] ε μ)) ∧ (v4 ≠ 0 → (m_ty [] [] ε μ → G cd_X10_room Q X 93 [] [(0, 64)] ε μ))
  intro hty
  replace h := h hty.1 (hty.2.1 _ (List.mem_of_getElem? (i := 0) rfl)) (hty.2.2 _ (List.mem_of_getElem? (i := 0) rfl))
  intro v4 e_v4
  replace h := h v4 e_v4
  have hj := h
  refine And.intro (fun c0 => ?_) (fun c0 => ?_)
  · intro _
    exact g_X10_room_93 (fun _ _ => (hj _ (((if_pos c0).trans rfl)).symm))
  · intro _
    exact g_X10_room_93 (fun _ _ => (hj _ (((if_neg (c0)).trans rfl)).symm))
set_option maxRecDepth 20000 in
theorem g_X10_room_79 {Q X : m_Po} {v3 : Int} {ε : m_E} {μ : m_M} (h : TY ε μ → i32 v3 → G cd_X10_room Q X 80 [(3, (0, v3))] [(0, 0)] ε μ) : G cd_X10_room Q X 79 [(3, (0, v3))] [] ε μ := by
  refine G_run (m_in [5, 10, 16, 27, 42, 50, 72, 79, 80, 93]) 21 _ _ _ _ ?_
  show m_ty [(3, (0, v3))] [] ε μ → G cd_X10_room Q X 80 [(3, (0, v3))] [(0, 0)] ε μ
  intro hty
  replace h := h hty.1 (hty.2.1 _ (List.mem_of_getElem? (i := 0) rfl))
  exact h
set_option maxRecDepth 20000 in
theorem g_X10_room_72 {Q X : m_Po} {v3 t : Int} {ε : m_E} {μ : m_M} (h : TY ε μ → i32 v3 → i32 t → (t = 0 → G cd_X10_room Q X 79 [(3, (0, v3))] [] ε μ) ∧ (t ≠ 0 → G cd_X10_room Q X 80 [(3, (0, v3))] [(0, 1)] ε μ)) : G cd_X10_room Q X 72 [(3, (0, v3))] [(0, t)] ε μ := by
  refine G_run (m_in [5, 10, 16, 27, 42, 50, 72, 79, 80, 93]) 21 _ _ _ _ ?_
  show m_ty [(3, (0, v3))] [(0, t)] ε μ → (t = 0 → G cd_X10_room Q X 79 [(3, (0, v3))] [] ε μ) ∧ (t ≠ 0 → (m_ty [(3, (0, v3))] [] ε μ → G cd_X10_room Q X 80 [(3, (0, v3))] [(0, 1)] ε μ))
  intro hty
  replace h := h hty.1 (hty.2.1 _ (List.mem_of_getElem? (i := 0) rfl)) (hty.2.2 _ (List.mem_of_getElem? (i := 0) rfl))
  obtain ⟨ha, hb⟩ := h
  refine And.intro (fun c0 => ?_) (fun c0 => ?_)
  · replace h := ha c0
    clear ha hb
    exact h
  · replace h := hb c0
    clear ha hb
    intro _
    exact h
set_option maxRecDepth 20000 in
theorem g_X10_room_50 {Q X : m_Po} {v0 v2 v3 v4 : Int} {ε : m_E} {μ : m_M} (h : TY ε μ → i32 v3 → i32 v4 → ∀ v4_1 : Int, v4_1 = w32 (Int.tdiv v4 2) → G cd_X10_room Q X 27 [(0, (2, v0)), (2, (2, v2)), (3, (0, v3)), (4, (0, v4_1))] [] ε μ) : G cd_X10_room Q X 50 [(0, (2, v0)), (2, (2, v2)), (3, (0, v3)), (4, (0, v4))] [] ε μ := by
  refine G_run (m_in [5, 10, 16, 27, 42, 50, 72, 79, 80, 93]) 21 _ _ _ _ ?_
  show m_ty [(0, (2, v0)), (2, (2, v2)), (3, (0, v3)), (4, (0, v4))] [] ε μ → (2 : Int) ≠ 0 ∧ ∀ v4_1 : Int, v4_1 = w32 (Int.tdiv v4 2) → G cd_X10_room Q X 27 [(0, (2, v0)), (2, (2, v2)), (3, (0, v3)), (4, (0, v4_1))] [] ε μ
  intro hty
  replace h := h hty.1 (hty.2.1 _ (List.mem_of_getElem? (i := 2) rfl)) (hty.2.1 _ (List.mem_of_getElem? (i := 3) rfl))
  refine And.intro (by decide) ?_
  intro v4_1 e_v4_1
  replace h := h v4_1 e_v4_1
  exact h
set_option maxRecDepth 20000 in
theorem g_X10_room_42 {Q X : m_Po} {v0 v2 v3 v4 t : Int} {ε : m_E} {μ : m_M} (h : TY ε μ → i32 v3 → i32 v4 → i32 t → ∀ v3_2 : Int, v3_2 = (if t = 0 then v3 else (w32 (v3 + v4))) → ∀ v4_1 : Int, v4_1 = w32 (Int.tdiv v4 2) → G cd_X10_room Q X 27 [(0, (2, v0)), (2, (2, v2)), (3, (0, v3_2)), (4, (0, v4_1))] [] ε μ) : G cd_X10_room Q X 42 [(0, (2, v0)), (2, (2, v2)), (3, (0, v3)), (4, (0, v4))] [(0, t)] ε μ := by
  refine G_run (m_in [5, 10, 16, 27, 42, 50, 72, 79, 80, 93]) 21 _ _ _ _ ?_
  show m_ty [(0, (2, v0)), (2, (2, v2)), (3, (0, v3)), (4, (0, v4))] [(0, t)] ε μ → (t = 0 → G cd_X10_room Q X 50 [(0, (2, v0)), (2, (2, v2)), (3, (0, v3)), (4, (0, v4))] [] ε μ) ∧ (t ≠ 0 → (m_ty [(0, (2, v0)), (2, (2, v2)), (3, (0, v3)), (4, (0, v4))] [] ε μ → ∀ v3_1 : Int, v3_1 = w32 (v3 + v4) → G cd_X10_room Q X 50 [(0, (2, v0)), (2, (2, v2)), (3, (0, v3_1)), (4, (0, v4))] [] ε μ))
  intro hty
  replace h := h hty.1 (hty.2.1 _ (List.mem_of_getElem? (i := 2) rfl)) (hty.2.1 _ (List.mem_of_getElem? (i := 3) rfl)) (hty.2.2 _ (List.mem_of_getElem? (i := 0) rfl))
  have hj := h
  refine And.intro (fun c0 => ?_) (fun c0 => ?_)
  · exact g_X10_room_50 (fun _ _ _ => (hj _ (((if_pos c0).trans rfl)).symm))
  · intro _
    intro v3_1 e_v3_1
    subst e_v3_1
    exact g_X10_room_50 (fun _ _ _ => (hj _ (((if_neg (c0)).trans rfl)).symm))
set_option maxRecDepth 20000 in
theorem g_X10_room_27 {Q X : m_Po} {v0 v2 v3 v4 : Int} {ε : m_E} {μ : m_M} (h : TY ε μ → i32 v3 → i32 v4 → (v4 < (1 : Int) → (v3 ≠ (63 : Int) → G cd_X10_room Q X 79 [(3, (0, v3))] [] ε μ) ∧ (v3 = (63 : Int) → kd ε v0 = 9 ∧ o_X10_isSafeNarrowed [(2, v0), (2, v2), (0, 64)] ε μ (fun z ε_1 μ_1 => G cd_X10_room Q X 72 [(3, (0, v3))] [(0, z)] ε_1 μ_1) m_F)) ∧ ((1 : Int) ≤ v4 → kd ε v0 = 9 ∧ o_X10_isSafeNarrowed [(2, v0), (2, v2), (0, w32 (v3 + v4))] ε μ (fun z_1 ε_2 μ_2 => G cd_X10_room Q X 42 [(0, (2, v0)), (2, (2, v2)), (3, (0, v3)), (4, (0, v4))] [(0, z_1)] ε_2 μ_2) m_F)) : G cd_X10_room Q X 27 [(0, (2, v0)), (2, (2, v2)), (3, (0, v3)), (4, (0, v4))] [] ε μ := by
  refine G_run (m_in [5, 10, 16, 27, 42, 50, 72, 79, 80, 93]) 21 _ _ _ _ ?_
  show m_ty [(0, (2, v0)), (2, (2, v2)), (3, (0, v3)), (4, (0, v4))] [] ε μ → (v4 < (1 : Int) → (m_ty [(0, (2, v0)), (2, (2, v2)), (3, (0, v3))] [] ε μ → (v3 ≠ (63 : Int) → G cd_X10_room Q X 79 [(3, (0, v3))] [] ε μ) ∧ (v3 = (63 : Int) → (m_ty [(0, (2, v0)), (2, (2, v2)), (3, (0, v3))] [] ε μ → (kd ε v0 = 9) ∧ o_X10_isSafeNarrowed [(2, v0), (2, v2), (0, 64)] ε μ (fun z ε_1 μ_1 => G cd_X10_room Q X 72 [(3, (0, v3))] [(0, z)] ε_1 μ_1) m_F)))) ∧ ((1 : Int) ≤ v4 → (m_ty [(0, (2, v0)), (2, (2, v2)), (3, (0, v3)), (4, (0, v4))] [] ε μ → (kd ε v0 = 9) ∧ o_X10_isSafeNarrowed [(2, v0), (2, v2), (0, w32 (v3 + v4))] ε μ (fun z_1 ε_2 μ_2 => G cd_X10_room Q X 42 [(0, (2, v0)), (2, (2, v2)), (3, (0, v3)), (4, (0, v4))] [(0, z_1)] ε_2 μ_2) m_F))
  intro hty
  replace h := h hty.1 (hty.2.1 _ (List.mem_of_getElem? (i := 2) rfl)) (hty.2.1 _ (List.mem_of_getElem? (i := 3) rfl))
  obtain ⟨ha, hb⟩ := h
  refine And.intro (fun c3 => ?_) (fun c3 => ?_)
  · replace h := ha c3
    clear ha hb
    intro _
    obtain ⟨ha, hb⟩ := h
    refine And.intro (fun c1 => ?_) (fun c1 => ?_)
    · replace h := ha c1
      clear ha hb
      exact h
    · replace h := hb c1
      clear ha hb
      intro _
      obtain ⟨k1, h⟩ := h
      refine And.intro k1 ?_
      exact h
  · replace h := hb c3
    clear ha hb
    intro _
    obtain ⟨k3, h⟩ := h
    refine And.intro k3 ?_
    exact h
set_option maxRecDepth 20000 in
theorem g_X10_room_16 {Q X : m_Po} {v0 v2 t : Int} {ε : m_E} {μ : m_M} (h : TY ε μ → i32 t → (t ≠ 0 → ∀ v3 : Int, v3 = 0 → ∀ v4 : Int, v4 = 32 → G cd_X10_room Q X 27 [(0, (2, v0)), (2, (2, v2)), (3, (0, v3)), (4, (0, v4))] [] ε μ) ∧ (t = 0 → Q (-1) ε μ)) : G cd_X10_room Q X 16 [(0, (2, v0)), (2, (2, v2))] [(0, t)] ε μ := by
  refine G_run (m_in [5, 10, 16, 27, 42, 50, 72, 79, 80, 93]) 21 _ _ _ _ ?_
  show m_ty [(0, (2, v0)), (2, (2, v2))] [(0, t)] ε μ → (t ≠ 0 → (m_ty [(0, (2, v0)), (2, (2, v2))] [] ε μ → ∀ v3 : Int, v3 = 0 → ∀ v4 : Int, v4 = 32 → G cd_X10_room Q X 27 [(0, (2, v0)), (2, (2, v2)), (3, (0, v3)), (4, (0, v4))] [] ε μ)) ∧ (t = 0 → (m_ty [] [] ε μ → Q (-1) ε μ))
  intro hty
  replace h := h hty.1 (hty.2.2 _ (List.mem_of_getElem? (i := 0) rfl))
  obtain ⟨ha, hb⟩ := h
  refine And.intro (fun c0 => ?_) (fun c0 => ?_)
  · replace h := ha c0
    clear ha hb
    intro _
    intro v3 e_v3
    replace h := h v3 e_v3
    intro v4 e_v4
    replace h := h v4 e_v4
    exact h
  · replace h := hb c0
    clear ha hb
    intro _
    exact h
set_option maxRecDepth 20000 in
theorem g_X10_room_10 {Q X : m_Po} {v0 v2 : Int} {ε : m_E} {μ : m_M} (h : TY ε μ → kd ε v0 = 9 ∧ o_X10_isSafeNarrowed [(2, v0), (2, v2), (0, 0)] ε μ (fun z ε_1 μ_1 => G cd_X10_room Q X 16 [(0, (2, v0)), (2, (2, v2))] [(0, z)] ε_1 μ_1) m_F) : G cd_X10_room Q X 10 [(0, (2, v0)), (2, (2, v2))] [] ε μ := by
  refine G_run (m_in [5, 10, 16, 27, 42, 50, 72, 79, 80, 93]) 21 _ _ _ _ ?_
  show m_ty [(0, (2, v0)), (2, (2, v2))] [] ε μ → (kd ε v0 = 9) ∧ o_X10_isSafeNarrowed [(2, v0), (2, v2), (0, 0)] ε μ (fun z ε_1 μ_1 => G cd_X10_room Q X 16 [(0, (2, v0)), (2, (2, v2))] [(0, z)] ε_1 μ_1) m_F
  intro hty
  replace h := h hty.1 
  obtain ⟨k1, h⟩ := h
  refine And.intro k1 ?_
  exact h
set_option maxRecDepth 20000 in
theorem g_X10_room_5 {Q X : m_Po} {v0 t : Int} {ε : m_E} {μ : m_M} (h : TY ε μ → ∀ v2 : Int, v2 = t → o_X10_requireWhole [(2, v2)] ε μ (fun z ε_1 μ_1 => G cd_X10_room Q X 10 [(0, (2, v0)), (2, (2, v2))] [] ε_1 μ_1) X) : G cd_X10_room Q X 5 [(0, (2, v0))] [(2, t)] ε μ := by
  refine G_run (m_in [5, 10, 16, 27, 42, 50, 72, 79, 80, 93]) 21 _ _ _ _ ?_
  show m_ty [(0, (2, v0))] [(2, t)] ε μ → ∀ v2 : Int, v2 = t → o_X10_requireWhole [(2, v2)] ε μ (fun z ε_1 μ_1 => G cd_X10_room Q X 10 [(0, (2, v0)), (2, (2, v2))] [] ε_1 μ_1) X
  intro hty
  replace h := h hty.1 
  intro v2 e_v2
  replace h := h v2 e_v2
  exact h
set_option maxRecDepth 20000 in
theorem g_X10_room_0 {Q X : m_Po} {v0 v1 : Int} {ε : m_E} {μ : m_M} (h : TY ε μ → i32 v1 → kd ε v0 = 9 ∧ o_X10_archAt [(2, v0), (0, v1)] ε μ (fun z ε_1 μ_1 => G cd_X10_room Q X 5 [(0, (2, v0))] [(2, z)] ε_1 μ_1) X) : G cd_X10_room Q X 0 [(0, (2, v0)), (1, (0, v1))] [] ε μ := by
  refine G_run (m_in [5, 10, 16, 27, 42, 50, 72, 79, 80, 93]) 21 _ _ _ _ ?_
  show m_ty [(0, (2, v0)), (1, (0, v1))] [] ε μ → (kd ε v0 = 9) ∧ o_X10_archAt [(2, v0), (0, v1)] ε μ (fun z ε_1 μ_1 => G cd_X10_room Q X 5 [(0, (2, v0))] [(2, z)] ε_1 μ_1) X
  intro hty
  replace h := h hty.1 (hty.2.1 _ (List.mem_of_getElem? (i := 1) rfl))
  obtain ⟨k1, h⟩ := h
  refine And.intro k1 ?_
  exact h
theorem e_X10_room {Q X : m_Po} {v0 v1 : Int} {ε : m_E} {μ : m_M} (h : TY ε μ → i32 v1 → kd ε v0 = 9 ∧ o_X10_archAt [(2, v0), (0, v1)] ε μ (fun z ε_1 μ_1 => G cd_X10_room Q X 5 [(0, (2, v0))] [(2, z)] ε_1 μ_1) X) : o_X10_room [(2, v0), (0, v1)] ε μ Q X := And.intro rfl (g_X10_room_0 h)
/-! ArchYard.isStruck(LArchYard$Arch;II)Z -/
set_option maxRecDepth 20000 in
theorem g_X10_isStruck_22 {Q X : m_Po} {t : Int} {ε : m_E} {μ : m_M} (h : TY ε μ → i32 t → (t = 0 ∨ t = 1) ∧ Q t ε μ) : G cd_X10_isStruck Q X 22 [] [(0, t)] ε μ := by
  refine G_run (m_in [10, 22]) 4 _ _ _ _ ?_
  show m_ty [] [(0, t)] ε μ → (t = 0 ∨ t = 1) ∧ Q t ε μ
  intro hty
  replace h := h hty.1 (hty.2.2 _ (List.mem_of_getElem? (i := 0) rfl))
  obtain ⟨k1, h⟩ := h
  refine And.intro k1 ?_
  exact h
set_option maxRecDepth 20000 in
theorem g_X10_isStruck_10 {Q X : m_Po} {v0 : Int} {ε : m_E} {μ : m_M} (h : TY ε μ → kd ε v0 = 9 ∧ kd ε (fn ε v0 4) = 2 ∧ o_X2_seek [(2, fn ε v0 4), (2, fn ε v0 3), (0, 0)] ε μ (fun z ε_1 μ_1 => G cd_X10_isStruck Q X 22 [] [(0, z)] ε_1 μ_1) m_F) : G cd_X10_isStruck Q X 10 [(0, (2, v0))] [] ε μ := by
  refine G_run (m_in [10, 22]) 4 _ _ _ _ ?_
  show m_ty [(0, (2, v0))] [] ε μ → (kd ε v0 = 9) ∧ (kd ε v0 = 9) ∧ (kd ε (fn ε v0 4) = 2) ∧ o_X2_seek [(2, fn ε v0 4), (2, fn ε v0 3), (0, 0)] ε μ (fun z ε_1 μ_1 => G cd_X10_isStruck Q X 22 [] [(0, z)] ε_1 μ_1) m_F
  intro hty
  replace h := h hty.1 
  obtain ⟨k1, h⟩ := h
  refine And.intro k1 ?_
  refine And.intro k1 ?_
  obtain ⟨k2, h⟩ := h
  refine And.intro k2 ?_
  exact h
set_option maxRecDepth 20000 in
theorem g_X10_isStruck_0 {Q X : m_Po} {v0 v1 v2 v3 : Int} {ε : m_E} {μ : m_M} (h : TY ε μ → i32 v2 → i32 v3 → kd ε v0 = 9 ∧ kd ε (fn ε v0 3) = 1 ∧ o_X1_gatherRow [(2, fn ε v0 3), (2, v1), (0, v2), (0, v3)] ε μ (fun z ε_1 μ_1 => G cd_X10_isStruck Q X 10 [(0, (2, v0))] [] ε_1 μ_1) m_F) : G cd_X10_isStruck Q X 0 [(0, (2, v0)), (1, (2, v1)), (2, (0, v2)), (3, (0, v3))] [] ε μ := by
  refine G_run (m_in [10, 22]) 4 _ _ _ _ ?_
  show m_ty [(0, (2, v0)), (1, (2, v1)), (2, (0, v2)), (3, (0, v3))] [] ε μ → (kd ε v0 = 9) ∧ (kd ε (fn ε v0 3) = 1) ∧ o_X1_gatherRow [(2, fn ε v0 3), (2, v1), (0, v2), (0, v3)] ε μ (fun z ε_1 μ_1 => G cd_X10_isStruck Q X 10 [(0, (2, v0))] [] ε_1 μ_1) m_F
  intro hty
  replace h := h hty.1 (hty.2.1 _ (List.mem_of_getElem? (i := 2) rfl)) (hty.2.1 _ (List.mem_of_getElem? (i := 3) rfl))
  obtain ⟨k1, h⟩ := h
  refine And.intro k1 ?_
  obtain ⟨k2, h⟩ := h
  refine And.intro k2 ?_
  exact h
theorem e_X10_isStruck {Q X : m_Po} {v0 v1 v2 v3 : Int} {ε : m_E} {μ : m_M} (h : TY ε μ → i32 v2 → i32 v3 → kd ε v0 = 9 ∧ kd ε (fn ε v0 3) = 1 ∧ o_X1_gatherRow [(2, fn ε v0 3), (2, v1), (0, v2), (0, v3)] ε μ (fun z ε_1 μ_1 => G cd_X10_isStruck Q X 10 [(0, (2, v0))] [] ε_1 μ_1) m_F) : o_X10_isStruck [(2, v0), (2, v1), (0, v2), (0, v3)] ε μ Q X := And.intro rfl (g_X10_isStruck_0 h)
/-! ArchYard.strike(III)Z -/
set_option maxRecDepth 20000 in
theorem g_X10_strike_57 {Q X : m_Po} {t : Int} {ε : m_E} {μ : m_M} (h : TY ε μ → i32 t → (t = 0 ∨ t = 1) ∧ Q t ε μ) : G cd_X10_strike Q X 57 [] [(0, t)] ε μ := by
  refine G_run (m_in [6, 14, 49, 57]) 10 _ _ _ _ ?_
  show m_ty [] [(0, t)] ε μ → (t = 0 ∨ t = 1) ∧ Q t ε μ
  intro hty
  replace h := h hty.1 (hty.2.2 _ (List.mem_of_getElem? (i := 0) rfl))
  obtain ⟨k1, h⟩ := h
  refine And.intro k1 ?_
  exact h
set_option maxRecDepth 20000 in
theorem g_X10_strike_49 {Q X : m_Po} {v0 v2 v3 v4 : Int} {ε : m_E} {μ : m_M} (h : TY ε μ → i32 v2 → i32 v3 → kd ε v0 = 9 ∧ o_X10_isStruck [(2, v0), (2, v4), (0, v2), (0, v3)] ε μ (fun z ε_1 μ_1 => G cd_X10_strike Q X 57 [] [(0, z)] ε_1 μ_1) m_F) : G cd_X10_strike Q X 49 [(0, (2, v0)), (2, (0, v2)), (3, (0, v3)), (4, (2, v4))] [] ε μ := by
  refine G_run (m_in [6, 14, 49, 57]) 10 _ _ _ _ ?_
  show m_ty [(0, (2, v0)), (2, (0, v2)), (3, (0, v3)), (4, (2, v4))] [] ε μ → (kd ε v0 = 9) ∧ o_X10_isStruck [(2, v0), (2, v4), (0, v2), (0, v3)] ε μ (fun z ε_1 μ_1 => G cd_X10_strike Q X 57 [] [(0, z)] ε_1 μ_1) m_F
  intro hty
  replace h := h hty.1 (hty.2.1 _ (List.mem_of_getElem? (i := 1) rfl)) (hty.2.1 _ (List.mem_of_getElem? (i := 2) rfl))
  obtain ⟨k1, h⟩ := h
  refine And.intro k1 ?_
  exact h
set_option maxRecDepth 20000 in
theorem g_X10_strike_14 {Q X : m_Po} {v0 v2 v3 v4 t : Int} {ε : m_E} {μ : m_M} (h : TY ε μ → i32 v2 → i32 v3 → i32 t → (t ≠ 0 → (v2 ≤ v3 → o_X10_requireWhole [(2, v4)] ε μ (fun z ε_1 μ_1 => G cd_X10_strike Q X 49 [(0, (2, v0)), (2, (0, v2)), (3, (0, v3)), (4, (2, v4))] [] ε_1 μ_1) X) ∧ (v3 < v2 → ∀ n : Int, nx ε ≤ n → X 2 (enx ε n) μ)) ∧ (t = 0 → ∀ n_1 : Int, nx ε ≤ n_1 → X 1 (enx ε n_1) μ)) : G cd_X10_strike Q X 14 [(0, (2, v0)), (2, (0, v2)), (3, (0, v3)), (4, (2, v4))] [(0, t)] ε μ := by
  refine G_run (m_in [6, 14, 49, 57]) 10 _ _ _ _ ?_
  show m_ty [(0, (2, v0)), (2, (0, v2)), (3, (0, v3)), (4, (2, v4))] [(0, t)] ε μ → (t ≠ 0 → (m_ty [(0, (2, v0)), (2, (0, v2)), (3, (0, v3)), (4, (2, v4))] [] ε μ → (v2 ≤ v3 → (m_ty [(0, (2, v0)), (2, (0, v2)), (3, (0, v3)), (4, (2, v4))] [] ε μ → o_X10_requireWhole [(2, v4)] ε μ (fun z ε_1 μ_1 => G cd_X10_strike Q X 49 [(0, (2, v0)), (2, (0, v2)), (3, (0, v3)), (4, (2, v4))] [] ε_1 μ_1) X)) ∧ (v3 < v2 → (m_ty [] [] ε μ → ∀ n : Int, nx ε ≤ n → X 2 (enx ε n) μ)))) ∧ (t = 0 → (m_ty [] [] ε μ → ∀ n_1 : Int, nx ε ≤ n_1 → X 1 (enx ε n_1) μ))
  intro hty
  replace h := h hty.1 (hty.2.1 _ (List.mem_of_getElem? (i := 1) rfl)) (hty.2.1 _ (List.mem_of_getElem? (i := 2) rfl)) (hty.2.2 _ (List.mem_of_getElem? (i := 0) rfl))
  obtain ⟨ha, hb⟩ := h
  refine And.intro (fun c1 => ?_) (fun c1 => ?_)
  · replace h := ha c1
    clear ha hb
    intro _
    obtain ⟨ha, hb⟩ := h
    refine And.intro (fun c0 => ?_) (fun c0 => ?_)
    · replace h := ha c0
      clear ha hb
      intro _
      exact h
    · replace h := hb c0
      clear ha hb
      intro _
      exact h
  · replace h := hb c1
    clear ha hb
    intro _
    exact h
set_option maxRecDepth 20000 in
theorem g_X10_strike_6 {Q X : m_Po} {v0 v2 v3 t : Int} {ε : m_E} {μ : m_M} (h : TY ε μ → i32 v2 → i32 v3 → ∀ v4 : Int, v4 = t → kd ε v4 = 0 ∧ o_X0_hasPlace [(2, v4), (0, v3)] ε μ (fun z ε_1 μ_1 => G cd_X10_strike Q X 14 [(0, (2, v0)), (2, (0, v2)), (3, (0, v3)), (4, (2, v4))] [(0, z)] ε_1 μ_1) m_F) : G cd_X10_strike Q X 6 [(0, (2, v0)), (2, (0, v2)), (3, (0, v3))] [(2, t)] ε μ := by
  refine G_run (m_in [6, 14, 49, 57]) 10 _ _ _ _ ?_
  show m_ty [(0, (2, v0)), (2, (0, v2)), (3, (0, v3))] [(2, t)] ε μ → ∀ v4 : Int, v4 = t → (kd ε v4 = 0) ∧ o_X0_hasPlace [(2, v4), (0, v3)] ε μ (fun z ε_1 μ_1 => G cd_X10_strike Q X 14 [(0, (2, v0)), (2, (0, v2)), (3, (0, v3)), (4, (2, v4))] [(0, z)] ε_1 μ_1) m_F
  intro hty
  replace h := h hty.1 (hty.2.1 _ (List.mem_of_getElem? (i := 1) rfl)) (hty.2.1 _ (List.mem_of_getElem? (i := 2) rfl))
  intro v4 e_v4
  replace h := h v4 e_v4
  obtain ⟨k1, h⟩ := h
  refine And.intro k1 ?_
  exact h
set_option maxRecDepth 20000 in
theorem g_X10_strike_0 {Q X : m_Po} {v0 v1 v2 v3 : Int} {ε : m_E} {μ : m_M} (h : TY ε μ → i32 v1 → i32 v2 → i32 v3 → kd ε v0 = 9 ∧ o_X10_archWithPlace [(2, v0), (0, v1), (0, v2)] ε μ (fun z ε_1 μ_1 => G cd_X10_strike Q X 6 [(0, (2, v0)), (2, (0, v2)), (3, (0, v3))] [(2, z)] ε_1 μ_1) X) : G cd_X10_strike Q X 0 [(0, (2, v0)), (1, (0, v1)), (2, (0, v2)), (3, (0, v3))] [] ε μ := by
  refine G_run (m_in [6, 14, 49, 57]) 10 _ _ _ _ ?_
  show m_ty [(0, (2, v0)), (1, (0, v1)), (2, (0, v2)), (3, (0, v3))] [] ε μ → (kd ε v0 = 9) ∧ o_X10_archWithPlace [(2, v0), (0, v1), (0, v2)] ε μ (fun z ε_1 μ_1 => G cd_X10_strike Q X 6 [(0, (2, v0)), (2, (0, v2)), (3, (0, v3))] [(2, z)] ε_1 μ_1) X
  intro hty
  replace h := h hty.1 (hty.2.1 _ (List.mem_of_getElem? (i := 1) rfl)) (hty.2.1 _ (List.mem_of_getElem? (i := 2) rfl)) (hty.2.1 _ (List.mem_of_getElem? (i := 3) rfl))
  obtain ⟨k1, h⟩ := h
  refine And.intro k1 ?_
  exact h
theorem e_X10_strike {Q X : m_Po} {v0 v1 v2 v3 : Int} {ε : m_E} {μ : m_M} (h : TY ε μ → i32 v1 → i32 v2 → i32 v3 → kd ε v0 = 9 ∧ o_X10_archWithPlace [(2, v0), (0, v1), (0, v2)] ε μ (fun z ε_1 μ_1 => G cd_X10_strike Q X 6 [(0, (2, v0)), (2, (0, v2)), (3, (0, v3))] [(2, z)] ε_1 μ_1) X) : o_X10_strike [(2, v0), (0, v1), (0, v2), (0, v3)] ε μ Q X := And.intro rfl (g_X10_strike_0 h)
/-! ArchYard.canGrow(III)Z -/
set_option maxRecDepth 20000 in
theorem g_X10_canGrow_39 {Q X : m_Po} {t : Int} {ε : m_E} {μ : m_M} (h : TY ε μ → i32 t → (t = 0 ∨ t = 1) ∧ Q t ε μ) : G cd_X10_canGrow Q X 39 [] [(0, t)] ε μ := by
  refine G_run (m_in [39]) 9 _ _ _ _ ?_
  show m_ty [] [(0, t)] ε μ → (t = 0 ∨ t = 1) ∧ Q t ε μ
  intro hty
  replace h := h hty.1 (hty.2.2 _ (List.mem_of_getElem? (i := 0) rfl))
  obtain ⟨k1, h⟩ := h
  refine And.intro k1 ?_
  exact h
set_option maxRecDepth 20000 in
theorem g_X10_canGrow_0 {Q X : m_Po} {v0 v1 v2 v3 : Int} {ε : m_E} {μ : m_M} (h : TY ε μ → i32 v1 → i32 v2 → i32 v3 → ((0 ≤ v1 → (v1 ≤ v2 → (v2 < v3 → (v3 ≤ (10 : Int) → kd ε v0 = 9 ∧ kd ε (fn ε v0 8) = 103 ∧ (0 : Int) ≤ w32 ((w32 (v1 * 10)) + v2) ∧ w32 ((w32 (v1 * 10)) + v2) < ln ε (fn ε v0 8)))))) ∧ ∀ t : Int, t = (if v1 < 0 then 0 else if v2 < v1 then 0 else if v3 ≤ v2 then 0 else if (10 : Int) < v3 then 0 else if (μ (fn ε v0 8) (w32 ((w32 (v1 * 10)) + v2))) = 0 then 0 else 1) → Q t ε μ) : G cd_X10_canGrow Q X 0 [(0, (2, v0)), (1, (0, v1)), (2, (0, v2)), (3, (0, v3))] [] ε μ := by
  refine G_run (m_in [39]) 9 _ _ _ _ ?_
  show m_ty [(0, (2, v0)), (1, (0, v1)), (2, (0, v2)), (3, (0, v3))] [] ε μ → (v1 < 0 → (m_ty [] [] ε μ → G cd_X10_canGrow Q X 39 [] [(0, 0)] ε μ)) ∧ (0 ≤ v1 → (m_ty [(0, (2, v0)), (1, (0, v1)), (2, (0, v2)), (3, (0, v3))] [] ε μ → (v2 < v1 → (m_ty [] [] ε μ → G cd_X10_canGrow Q X 39 [] [(0, 0)] ε μ)) ∧ (v1 ≤ v2 → (m_ty [(0, (2, v0)), (1, (0, v1)), (2, (0, v2)), (3, (0, v3))] [] ε μ → (v3 ≤ v2 → (m_ty [] [] ε μ → G cd_X10_canGrow Q X 39 [] [(0, 0)] ε μ)) ∧ (v2 < v3 → (m_ty [(0, (2, v0)), (1, (0, v1)), (2, (0, v2)), (3, (0, v3))] [] ε μ → ((10 : Int) < v3 → (m_ty [] [] ε μ → G cd_X10_canGrow Q X 39 [] [(0, 0)] ε μ)) ∧ (v3 ≤ (10 : Int) → (m_ty [(0, (2, v0)), (1, (0, v1)), (2, (0, v2))] [] ε μ → (kd ε v0 = 9) ∧ (kd ε (fn ε v0 8) = 103) ∧ ((0 : Int) ≤ w32 ((w32 (v1 * 10)) + v2) ∧ w32 ((w32 (v1 * 10)) + v2) < ln ε (fn ε v0 8)) ∧ ((μ (fn ε v0 8) (w32 ((w32 (v1 * 10)) + v2))) = 0 → (m_ty [] [] ε μ → G cd_X10_canGrow Q X 39 [] [(0, 0)] ε μ)) ∧ ((μ (fn ε v0 8) (w32 ((w32 (v1 * 10)) + v2))) ≠ 0 → (m_ty [] [] ε μ → G cd_X10_canGrow Q X 39 [] [(0, 1)] ε μ))))))))))
  intro hty
  replace h := h hty.1 (hty.2.1 _ (List.mem_of_getElem? (i := 1) rfl)) (hty.2.1 _ (List.mem_of_getElem? (i := 2) rfl)) (hty.2.1 _ (List.mem_of_getElem? (i := 3) rfl))
  obtain ⟨hc, hj⟩ := h
  refine And.intro (fun c0 => ?_) (fun c0 => ?_)
  · intro _
    exact g_X10_canGrow_39 (fun _ _ => (And.intro (Or.inl rfl) (hj _ (((if_pos c0).trans rfl)).symm)))
  · replace hc := hc c0
    intro _
    refine And.intro (fun c1 => ?_) (fun c1 => ?_)
    · intro _
      exact g_X10_canGrow_39 (fun _ _ => (And.intro (Or.inl rfl) (hj _ (((if_neg (Int.not_lt.mpr c0)).trans ((if_pos c1).trans rfl))).symm)))
    · replace hc := hc c1
      intro _
      refine And.intro (fun c2 => ?_) (fun c2 => ?_)
      · intro _
        exact g_X10_canGrow_39 (fun _ _ => (And.intro (Or.inl rfl) (hj _ (((if_neg (Int.not_lt.mpr c0)).trans ((if_neg (Int.not_lt.mpr c1)).trans ((if_pos c2).trans rfl)))).symm)))
      · replace hc := hc c2
        intro _
        refine And.intro (fun c3 => ?_) (fun c3 => ?_)
        · intro _
          exact g_X10_canGrow_39 (fun _ _ => (And.intro (Or.inl rfl) (hj _ (((if_neg (Int.not_lt.mpr c0)).trans ((if_neg (Int.not_lt.mpr c1)).trans ((if_neg (Int.not_le.mpr c2)).trans ((if_pos c3).trans rfl))))).symm)))
        · replace hc := hc c3
          intro _
          obtain ⟨k5, k6, k7, k8⟩ := hc
          refine And.intro k5 ?_
          refine And.intro k6 ?_
          refine And.intro (And.intro k7 k8) ?_
          refine And.intro (fun c8 => ?_) (fun c8 => ?_)
          · intro _
            exact g_X10_canGrow_39 (fun _ _ => (And.intro (Or.inl rfl) (hj _ (((if_neg (Int.not_lt.mpr c0)).trans ((if_neg (Int.not_lt.mpr c1)).trans ((if_neg (Int.not_le.mpr c2)).trans ((if_neg (Int.not_lt.mpr c3)).trans ((if_pos c8).trans rfl)))))).symm)))
          · intro _
            exact g_X10_canGrow_39 (fun _ _ => (And.intro (Or.inr rfl) (hj _ (((if_neg (Int.not_lt.mpr c0)).trans ((if_neg (Int.not_lt.mpr c1)).trans ((if_neg (Int.not_le.mpr c2)).trans ((if_neg (Int.not_lt.mpr c3)).trans ((if_neg (c8)).trans rfl)))))).symm)))
theorem e_X10_canGrow {Q X : m_Po} {v0 v1 v2 v3 : Int} {ε : m_E} {μ : m_M} (h : TY ε μ → i32 v1 → i32 v2 → i32 v3 → ((0 ≤ v1 → (v1 ≤ v2 → (v2 < v3 → (v3 ≤ (10 : Int) → kd ε v0 = 9 ∧ kd ε (fn ε v0 8) = 103 ∧ (0 : Int) ≤ w32 ((w32 (v1 * 10)) + v2) ∧ w32 ((w32 (v1 * 10)) + v2) < ln ε (fn ε v0 8)))))) ∧ ∀ t : Int, t = (if v1 < 0 then 0 else if v2 < v1 then 0 else if v3 ≤ v2 then 0 else if (10 : Int) < v3 then 0 else if (μ (fn ε v0 8) (w32 ((w32 (v1 * 10)) + v2))) = 0 then 0 else 1) → Q t ε μ) : o_X10_canGrow [(2, v0), (0, v1), (0, v2), (0, v3)] ε μ Q X := And.intro rfl (g_X10_canGrow_0 h)
/-! ArchYard.walkOrder(LArchYard$Arch;I)V -/
set_option maxRecDepth 20000 in
theorem g_X10_walkOrder_60 {Q X : m_Po} {v0 v1 v3 v4 v5 v6 : Int} {ε : m_E} {μ : m_M} (h : TY ε μ → i32 v3 → i32 v4 → i32 v5 → i32 v6 → ∀ v6_1 : Int, v6_1 = w32 (v6 + 1) → G cd_X10_walkOrder Q X 19 [(0, (2, v0)), (1, (2, v1)), (3, (0, v3)), (4, (0, v4)), (5, (0, v5)), (6, (0, v6_1))] [] ε μ) : G cd_X10_walkOrder Q X 60 [(0, (2, v0)), (1, (2, v1)), (3, (0, v3)), (4, (0, v4)), (5, (0, v5)), (6, (0, v6))] [] ε μ := by
  refine G_run (m_in [8, 16, 19, 36, 48, 60]) 12 _ _ _ _ ?_
  show m_ty [(0, (2, v0)), (1, (2, v1)), (3, (0, v3)), (4, (0, v4)), (5, (0, v5)), (6, (0, v6))] [] ε μ → ∀ v6_1 : Int, v6_1 = w32 (v6 + 1) → G cd_X10_walkOrder Q X 19 [(0, (2, v0)), (1, (2, v1)), (3, (0, v3)), (4, (0, v4)), (5, (0, v5)), (6, (0, v6_1))] [] ε μ
  intro hty
  replace h := h hty.1 (hty.2.1 _ (List.mem_of_getElem? (i := 2) rfl)) (hty.2.1 _ (List.mem_of_getElem? (i := 3) rfl)) (hty.2.1 _ (List.mem_of_getElem? (i := 4) rfl)) (hty.2.1 _ (List.mem_of_getElem? (i := 5) rfl))
  intro v6_1 e_v6_1
  replace h := h v6_1 e_v6_1
  exact h
set_option maxRecDepth 20000 in
theorem g_X10_walkOrder_48 {Q X : m_Po} {v0 v1 v3 v4 v5 v6 : Int} {ε : m_E} {μ : m_M} (h : TY ε μ → i32 v3 → i32 v4 → i32 v5 → i32 v6 → G cd_X10_walkOrder Q X 60 [(0, (2, v0)), (1, (2, v1)), (3, (0, v3)), (4, (0, v4)), (5, (0, v5)), (6, (0, v6))] [] ε μ) : G cd_X10_walkOrder Q X 48 [(0, (2, v0)), (1, (2, v1)), (3, (0, v3)), (4, (0, v4)), (5, (0, v5)), (6, (0, v6))] [] ε μ := by
  refine G_run (m_in [8, 16, 19, 36, 48, 60]) 12 _ _ _ _ ?_
  show m_ty [(0, (2, v0)), (1, (2, v1)), (3, (0, v3)), (4, (0, v4)), (5, (0, v5)), (6, (0, v6))] [] ε μ → G cd_X10_walkOrder Q X 60 [(0, (2, v0)), (1, (2, v1)), (3, (0, v3)), (4, (0, v4)), (5, (0, v5)), (6, (0, v6))] [] ε μ
  intro hty
  replace h := h hty.1 (hty.2.1 _ (List.mem_of_getElem? (i := 2) rfl)) (hty.2.1 _ (List.mem_of_getElem? (i := 3) rfl)) (hty.2.1 _ (List.mem_of_getElem? (i := 4) rfl)) (hty.2.1 _ (List.mem_of_getElem? (i := 5) rfl))
  exact h
set_option maxRecDepth 20000 in
theorem g_X10_walkOrder_36 {Q X : m_Po} {v0 v1 v3 v4 v5 v6 t : Int} {ε : m_E} {μ : m_M} (h : TY ε μ → i32 v3 → i32 v4 → i32 v5 → i32 v6 → i32 t → (t = 0 → ∀ v5_1 : Int, v5_1 = w32 (v5 + 1) → kd ε v1 = 0 ∧ o_X0_addToOrder [(2, v1), (0, v5_1)] ε μ (fun z ε_1 μ_1 => G cd_X10_walkOrder Q X 60 [(0, (2, v0)), (1, (2, v1)), (3, (0, v3)), (4, (0, v4)), (5, (0, v5_1)), (6, (0, v6))] [] ε_1 μ_1) m_F) ∧ (t ≠ 0 → ∀ v4_1 : Int, v4_1 = w32 (v4 + (-1)) → kd ε v1 = 0 ∧ o_X0_addToOrder [(2, v1), (0, v4_1)] ε μ (fun z_1 ε_2 μ_2 => G cd_X10_walkOrder Q X 48 [(0, (2, v0)), (1, (2, v1)), (3, (0, v3)), (4, (0, v4_1)), (5, (0, v5)), (6, (0, v6))] [] ε_2 μ_2) m_F)) : G cd_X10_walkOrder Q X 36 [(0, (2, v0)), (1, (2, v1)), (3, (0, v3)), (4, (0, v4)), (5, (0, v5)), (6, (0, v6))] [(0, t)] ε μ := by
  refine G_run (m_in [8, 16, 19, 36, 48, 60]) 12 _ _ _ _ ?_
  show m_ty [(0, (2, v0)), (1, (2, v1)), (3, (0, v3)), (4, (0, v4)), (5, (0, v5)), (6, (0, v6))] [(0, t)] ε μ → (t = 0 → (m_ty [(0, (2, v0)), (1, (2, v1)), (3, (0, v3)), (4, (0, v4)), (5, (0, v5)), (6, (0, v6))] [] ε μ → ∀ v5_1 : Int, v5_1 = w32 (v5 + 1) → (kd ε v1 = 0) ∧ o_X0_addToOrder [(2, v1), (0, v5_1)] ε μ (fun z ε_1 μ_1 => G cd_X10_walkOrder Q X 60 [(0, (2, v0)), (1, (2, v1)), (3, (0, v3)), (4, (0, v4)), (5, (0, v5_1)), (6, (0, v6))] [] ε_1 μ_1) m_F)) ∧ (t ≠ 0 → (m_ty [(0, (2, v0)), (1, (2, v1)), (3, (0, v3)), (4, (0, v4)), (5, (0, v5)), (6, (0, v6))] [] ε μ → ∀ v4_1 : Int, v4_1 = w32 (v4 + (-1)) → (kd ε v1 = 0) ∧ o_X0_addToOrder [(2, v1), (0, v4_1)] ε μ (fun z_1 ε_2 μ_2 => G cd_X10_walkOrder Q X 48 [(0, (2, v0)), (1, (2, v1)), (3, (0, v3)), (4, (0, v4_1)), (5, (0, v5)), (6, (0, v6))] [] ε_2 μ_2) m_F))
  intro hty
  replace h := h hty.1 (hty.2.1 _ (List.mem_of_getElem? (i := 2) rfl)) (hty.2.1 _ (List.mem_of_getElem? (i := 3) rfl)) (hty.2.1 _ (List.mem_of_getElem? (i := 4) rfl)) (hty.2.1 _ (List.mem_of_getElem? (i := 5) rfl)) (hty.2.2 _ (List.mem_of_getElem? (i := 0) rfl))
  obtain ⟨ha, hb⟩ := h
  refine And.intro (fun c2 => ?_) (fun c2 => ?_)
  · replace h := ha c2
    clear ha hb
    intro _
    intro v5_1 e_v5_1
    replace h := h v5_1 e_v5_1
    obtain ⟨k1, h⟩ := h
    refine And.intro k1 ?_
    exact h
  · replace h := hb c2
    clear ha hb
    intro _
    intro v4_1 e_v4_1
    replace h := h v4_1 e_v4_1
    obtain ⟨k2, h⟩ := h
    refine And.intro k2 ?_
    exact h
set_option maxRecDepth 20000 in
theorem g_X10_walkOrder_19 {Q X : m_Po} {v0 v1 v3 v4 v5 v6 : Int} {ε : m_E} {μ : m_M} (h : TY ε μ → i32 v3 → i32 v4 → i32 v5 → i32 v6 → (v3 ≤ v6 → Q 0 ε μ) ∧ (v6 < v3 → kd ε v0 = 9 ∧ o_X10_canGrow [(2, v0), (0, w32 (v4 - 1)), (0, v5), (0, v3)] ε μ (fun z ε_1 μ_1 => G cd_X10_walkOrder Q X 36 [(0, (2, v0)), (1, (2, v1)), (3, (0, v3)), (4, (0, v4)), (5, (0, v5)), (6, (0, v6))] [(0, z)] ε_1 μ_1) m_F)) : G cd_X10_walkOrder Q X 19 [(0, (2, v0)), (1, (2, v1)), (3, (0, v3)), (4, (0, v4)), (5, (0, v5)), (6, (0, v6))] [] ε μ := by
  refine G_run (m_in [8, 16, 19, 36, 48, 60]) 12 _ _ _ _ ?_
  show m_ty [(0, (2, v0)), (1, (2, v1)), (3, (0, v3)), (4, (0, v4)), (5, (0, v5)), (6, (0, v6))] [] ε μ → (v3 ≤ v6 → (m_ty [] [] ε μ → Q 0 ε μ)) ∧ (v6 < v3 → (m_ty [(0, (2, v0)), (1, (2, v1)), (3, (0, v3)), (4, (0, v4)), (5, (0, v5)), (6, (0, v6))] [] ε μ → (kd ε v0 = 9) ∧ o_X10_canGrow [(2, v0), (0, w32 (v4 - 1)), (0, v5), (0, v3)] ε μ (fun z ε_1 μ_1 => G cd_X10_walkOrder Q X 36 [(0, (2, v0)), (1, (2, v1)), (3, (0, v3)), (4, (0, v4)), (5, (0, v5)), (6, (0, v6))] [(0, z)] ε_1 μ_1) m_F))
  intro hty
  replace h := h hty.1 (hty.2.1 _ (List.mem_of_getElem? (i := 2) rfl)) (hty.2.1 _ (List.mem_of_getElem? (i := 3) rfl)) (hty.2.1 _ (List.mem_of_getElem? (i := 4) rfl)) (hty.2.1 _ (List.mem_of_getElem? (i := 5) rfl))
  obtain ⟨ha, hb⟩ := h
  refine And.intro (fun c1 => ?_) (fun c1 => ?_)
  · replace h := ha c1
    clear ha hb
    intro _
    exact h
  · replace h := hb c1
    clear ha hb
    intro _
    obtain ⟨k1, h⟩ := h
    refine And.intro k1 ?_
    exact h
set_option maxRecDepth 20000 in
theorem g_X10_walkOrder_16 {Q X : m_Po} {v0 v1 v3 v4 v5 : Int} {ε : m_E} {μ : m_M} (h : TY ε μ → i32 v3 → i32 v4 → i32 v5 → ∀ v6 : Int, v6 = 1 → G cd_X10_walkOrder Q X 19 [(0, (2, v0)), (1, (2, v1)), (3, (0, v3)), (4, (0, v4)), (5, (0, v5)), (6, (0, v6))] [] ε μ) : G cd_X10_walkOrder Q X 16 [(0, (2, v0)), (1, (2, v1)), (3, (0, v3)), (4, (0, v4)), (5, (0, v5))] [] ε μ := by
  refine G_run (m_in [8, 16, 19, 36, 48, 60]) 12 _ _ _ _ ?_
  show m_ty [(0, (2, v0)), (1, (2, v1)), (3, (0, v3)), (4, (0, v4)), (5, (0, v5))] [] ε μ → ∀ v6 : Int, v6 = 1 → G cd_X10_walkOrder Q X 19 [(0, (2, v0)), (1, (2, v1)), (3, (0, v3)), (4, (0, v4)), (5, (0, v5)), (6, (0, v6))] [] ε μ
  intro hty
  replace h := h hty.1 (hty.2.1 _ (List.mem_of_getElem? (i := 2) rfl)) (hty.2.1 _ (List.mem_of_getElem? (i := 3) rfl)) (hty.2.1 _ (List.mem_of_getElem? (i := 4) rfl))
  intro v6 e_v6
  replace h := h v6 e_v6
  exact h
set_option maxRecDepth 20000 in
theorem g_X10_walkOrder_8 {Q X : m_Po} {v0 v1 v2 v3 v4 : Int} {ε : m_E} {μ : m_M} (h : TY ε μ → i32 v2 → i32 v3 → i32 v4 → ∀ v5 : Int, v5 = v2 → kd ε v1 = 0 ∧ o_X0_addToOrder [(2, v1), (0, v2)] ε μ (fun z ε_1 μ_1 => G cd_X10_walkOrder Q X 16 [(0, (2, v0)), (1, (2, v1)), (3, (0, v3)), (4, (0, v4)), (5, (0, v5))] [] ε_1 μ_1) m_F) : G cd_X10_walkOrder Q X 8 [(0, (2, v0)), (1, (2, v1)), (2, (0, v2)), (3, (0, v3)), (4, (0, v4))] [] ε μ := by
  refine G_run (m_in [8, 16, 19, 36, 48, 60]) 12 _ _ _ _ ?_
  show m_ty [(0, (2, v0)), (1, (2, v1)), (2, (0, v2)), (3, (0, v3)), (4, (0, v4))] [] ε μ → ∀ v5 : Int, v5 = v2 → (kd ε v1 = 0) ∧ o_X0_addToOrder [(2, v1), (0, v2)] ε μ (fun z ε_1 μ_1 => G cd_X10_walkOrder Q X 16 [(0, (2, v0)), (1, (2, v1)), (3, (0, v3)), (4, (0, v4)), (5, (0, v5))] [] ε_1 μ_1) m_F
  intro hty
  replace h := h hty.1 (hty.2.1 _ (List.mem_of_getElem? (i := 2) rfl)) (hty.2.1 _ (List.mem_of_getElem? (i := 3) rfl)) (hty.2.1 _ (List.mem_of_getElem? (i := 4) rfl))
  intro v5 e_v5
  replace h := h v5 e_v5
  obtain ⟨k1, h⟩ := h
  refine And.intro k1 ?_
  exact h
set_option maxRecDepth 20000 in
theorem g_X10_walkOrder_0 {Q X : m_Po} {v0 v1 v2 : Int} {ε : m_E} {μ : m_M} (h : TY ε μ → i32 v2 → kd ε v1 = 0 ∧ ∀ v3 : Int, v3 = fn ε v1 0 → ∀ v4 : Int, v4 = v2 → ∀ v5 : Int, v5 = v2 → kd ε v1 = 0 ∧ o_X0_addToOrder [(2, v1), (0, v2)] ε μ (fun z ε_1 μ_1 => G cd_X10_walkOrder Q X 16 [(0, (2, v0)), (1, (2, v1)), (3, (0, v3)), (4, (0, v4)), (5, (0, v5))] [] ε_1 μ_1) m_F) : G cd_X10_walkOrder Q X 0 [(0, (2, v0)), (1, (2, v1)), (2, (0, v2))] [] ε μ := by
  refine G_run (m_in [8, 16, 19, 36, 48, 60]) 12 _ _ _ _ ?_
  show m_ty [(0, (2, v0)), (1, (2, v1)), (2, (0, v2))] [] ε μ → (kd ε v1 = 0) ∧ ∀ v3 : Int, v3 = fn ε v1 0 → ∀ v4 : Int, v4 = v2 → G cd_X10_walkOrder Q X 8 [(0, (2, v0)), (1, (2, v1)), (2, (0, v2)), (3, (0, v3)), (4, (0, v4))] [] ε μ
  intro hty
  replace h := h hty.1 (hty.2.1 _ (List.mem_of_getElem? (i := 2) rfl))
  obtain ⟨k1, h⟩ := h
  refine And.intro k1 ?_
  intro v3 e_v3
  replace h := h v3 e_v3
  intro v4 e_v4
  replace h := h v4 e_v4
  exact g_X10_walkOrder_8 (fun _ _ _ _ => h)
theorem e_X10_walkOrder {Q X : m_Po} {v0 v1 v2 : Int} {ε : m_E} {μ : m_M} (h : TY ε μ → i32 v2 → kd ε v1 = 0 ∧ ∀ v3 : Int, v3 = fn ε v1 0 → ∀ v4 : Int, v4 = v2 → ∀ v5 : Int, v5 = v2 → kd ε v1 = 0 ∧ o_X0_addToOrder [(2, v1), (0, v2)] ε μ (fun z ε_1 μ_1 => G cd_X10_walkOrder Q X 16 [(0, (2, v0)), (1, (2, v1)), (3, (0, v3)), (4, (0, v4)), (5, (0, v5))] [] ε_1 μ_1) m_F) : o_X10_walkOrder [(2, v0), (2, v1), (0, v2)] ε μ Q X := And.intro rfl (g_X10_walkOrder_0 h)
/-! ArchYard.findOrder(LArchYard$Arch;)V -/
set_option maxRecDepth 20000 in
theorem g_X10_findOrder_156 {Q X : m_Po} {ε : m_E} {μ : m_M} (h : TY ε μ → Q 0 ε μ) : G cd_X10_findOrder Q X 156 [] [] ε μ := by
  refine G_run (m_in [7, 15, 47, 61, 64, 69, 97, 104, 105, 122, 124, 136, 145, 156]) 28 _ _ _ _ ?_
  show m_ty [] [] ε μ → Q 0 ε μ
  intro hty
  replace h := h hty.1 
  exact h
set_option maxRecDepth 20000 in
theorem g_X10_findOrder_145 {Q X : m_Po} {v0 v1 v2 v3 : Int} {ε : m_E} {μ : m_M} (h : TY ε μ → i32 v2 → i32 v3 → (v2 ≤ v3 → G cd_X10_findOrder Q X 156 [] [] ε μ) ∧ (v3 < v2 → kd ε v0 = 9 ∧ o_X10_walkOrder [(2, v0), (2, v1), (0, v3)] ε μ (fun z ε_1 μ_1 => G cd_X10_findOrder Q X 156 [] [] ε_1 μ_1) m_F)) : G cd_X10_findOrder Q X 145 [(0, (2, v0)), (1, (2, v1)), (2, (0, v2)), (3, (0, v3))] [] ε μ := by
  refine G_run (m_in [7, 15, 47, 61, 64, 69, 97, 104, 105, 122, 124, 136, 145, 156]) 28 _ _ _ _ ?_
  show m_ty [(0, (2, v0)), (1, (2, v1)), (2, (0, v2)), (3, (0, v3))] [] ε μ → (v2 ≤ v3 → G cd_X10_findOrder Q X 156 [] [] ε μ) ∧ (v3 < v2 → (m_ty [(0, (2, v0)), (1, (2, v1)), (3, (0, v3))] [] ε μ → (kd ε v0 = 9) ∧ o_X10_walkOrder [(2, v0), (2, v1), (0, v3)] ε μ (fun z ε_1 μ_1 => G cd_X10_findOrder Q X 156 [] [] ε_1 μ_1) m_F))
  intro hty
  replace h := h hty.1 (hty.2.1 _ (List.mem_of_getElem? (i := 2) rfl)) (hty.2.1 _ (List.mem_of_getElem? (i := 3) rfl))
  obtain ⟨ha, hb⟩ := h
  refine And.intro (fun c1 => ?_) (fun c1 => ?_)
  · replace h := ha c1
    clear ha hb
    exact h
  · replace h := hb c1
    clear ha hb
    intro _
    obtain ⟨k1, h⟩ := h
    refine And.intro k1 ?_
    exact h
set_option maxRecDepth 20000 in
theorem g_X10_findOrder_136 {Q X : m_Po} {v0 v1 v2 v3 t : Int} {ε : m_E} {μ : m_M} (h : TY ε μ → i32 v2 → i32 v3 → i32 t → (t ≠ 0 → G cd_X10_findOrder Q X 145 [(0, (2, v0)), (1, (2, v1)), (2, (0, v2)), (3, (0, v3))] [] ε μ) ∧ (t = 0 → ∀ v3_1 : Int, v3_1 = w32 (v3 + 1) → G cd_X10_findOrder Q X 124 [(0, (2, v0)), (1, (2, v1)), (2, (0, v2)), (3, (0, v3_1))] [] ε μ)) : G cd_X10_findOrder Q X 136 [(0, (2, v0)), (1, (2, v1)), (2, (0, v2)), (3, (0, v3))] [(0, t)] ε μ := by
  refine G_run (m_in [7, 15, 47, 61, 64, 69, 97, 104, 105, 122, 124, 136, 145, 156]) 28 _ _ _ _ ?_
  show m_ty [(0, (2, v0)), (1, (2, v1)), (2, (0, v2)), (3, (0, v3))] [(0, t)] ε μ → (t ≠ 0 → G cd_X10_findOrder Q X 145 [(0, (2, v0)), (1, (2, v1)), (2, (0, v2)), (3, (0, v3))] [] ε μ) ∧ (t = 0 → (m_ty [(0, (2, v0)), (1, (2, v1)), (2, (0, v2)), (3, (0, v3))] [] ε μ → ∀ v3_1 : Int, v3_1 = w32 (v3 + 1) → G cd_X10_findOrder Q X 124 [(0, (2, v0)), (1, (2, v1)), (2, (0, v2)), (3, (0, v3_1))] [] ε μ))
  intro hty
  replace h := h hty.1 (hty.2.1 _ (List.mem_of_getElem? (i := 2) rfl)) (hty.2.1 _ (List.mem_of_getElem? (i := 3) rfl)) (hty.2.2 _ (List.mem_of_getElem? (i := 0) rfl))
  obtain ⟨ha, hb⟩ := h
  refine And.intro (fun c0 => ?_) (fun c0 => ?_)
  · replace h := ha c0
    clear ha hb
    exact h
  · replace h := hb c0
    clear ha hb
    intro _
    intro v3_1 e_v3_1
    replace h := h v3_1 e_v3_1
    exact h
set_option maxRecDepth 20000 in
theorem g_X10_findOrder_124 {Q X : m_Po} {v0 v1 v2 v3 : Int} {ε : m_E} {μ : m_M} (h : TY ε μ → i32 v2 → i32 v3 → (v2 ≤ v3 → G cd_X10_findOrder Q X 145 [(0, (2, v0)), (1, (2, v1)), (2, (0, v2)), (3, (0, v3))] [] ε μ) ∧ (v3 < v2 → kd ε v0 = 9 ∧ o_X10_canGrow [(2, v0), (0, v3), (0, v3), (0, v2)] ε μ (fun z ε_1 μ_1 => G cd_X10_findOrder Q X 136 [(0, (2, v0)), (1, (2, v1)), (2, (0, v2)), (3, (0, v3))] [(0, z)] ε_1 μ_1) m_F)) : G cd_X10_findOrder Q X 124 [(0, (2, v0)), (1, (2, v1)), (2, (0, v2)), (3, (0, v3))] [] ε μ := by
  refine G_run (m_in [7, 15, 47, 61, 64, 69, 97, 104, 105, 122, 124, 136, 145, 156]) 28 _ _ _ _ ?_
  show m_ty [(0, (2, v0)), (1, (2, v1)), (2, (0, v2)), (3, (0, v3))] [] ε μ → (v2 ≤ v3 → G cd_X10_findOrder Q X 145 [(0, (2, v0)), (1, (2, v1)), (2, (0, v2)), (3, (0, v3))] [] ε μ) ∧ (v3 < v2 → (m_ty [(0, (2, v0)), (1, (2, v1)), (2, (0, v2)), (3, (0, v3))] [] ε μ → (kd ε v0 = 9) ∧ o_X10_canGrow [(2, v0), (0, v3), (0, v3), (0, v2)] ε μ (fun z ε_1 μ_1 => G cd_X10_findOrder Q X 136 [(0, (2, v0)), (1, (2, v1)), (2, (0, v2)), (3, (0, v3))] [(0, z)] ε_1 μ_1) m_F))
  intro hty
  replace h := h hty.1 (hty.2.1 _ (List.mem_of_getElem? (i := 2) rfl)) (hty.2.1 _ (List.mem_of_getElem? (i := 3) rfl))
  obtain ⟨ha, hb⟩ := h
  refine And.intro (fun c1 => ?_) (fun c1 => ?_)
  · replace h := ha c1
    clear ha hb
    exact h
  · replace h := hb c1
    clear ha hb
    intro _
    obtain ⟨k1, h⟩ := h
    refine And.intro k1 ?_
    exact h
set_option maxRecDepth 20000 in
theorem g_X10_findOrder_122 {Q X : m_Po} {v0 v1 v2 : Int} {ε : m_E} {μ : m_M} (h : TY ε μ → i32 v2 → ∀ v3 : Int, v3 = 0 → G cd_X10_findOrder Q X 124 [(0, (2, v0)), (1, (2, v1)), (2, (0, v2)), (3, (0, v3))] [] ε μ) : G cd_X10_findOrder Q X 122 [(0, (2, v0)), (1, (2, v1)), (2, (0, v2))] [] ε μ := by
  refine G_run (m_in [7, 15, 47, 61, 64, 69, 97, 104, 105, 122, 124, 136, 145, 156]) 28 _ _ _ _ ?_
  show m_ty [(0, (2, v0)), (1, (2, v1)), (2, (0, v2))] [] ε μ → ∀ v3 : Int, v3 = 0 → G cd_X10_findOrder Q X 124 [(0, (2, v0)), (1, (2, v1)), (2, (0, v2)), (3, (0, v3))] [] ε μ
  intro hty
  replace h := h hty.1 (hty.2.1 _ (List.mem_of_getElem? (i := 2) rfl))
  intro v3 e_v3
  replace h := h v3 e_v3
  exact h
set_option maxRecDepth 20000 in
theorem g_X10_findOrder_105 {Q X : m_Po} {v0 v1 v2 v3 v4 t t_1 t_2 : Int} {ε : m_E} {μ : m_M} (h : TY ε μ → i32 v2 → i32 v3 → i32 v4 → i32 t_1 → i32 t_2 → kd ε t = 103 ∧ (0 : Int) ≤ t_1 ∧ t_1 < ln ε t ∧ (t_2 = 0 ∨ t_2 = 1) ∧ ∀ μ_1 : m_M, μ_1 = st μ t t_1 t_2 → ∀ v4_1 : Int, v4_1 = w32 (v4 + 1) → G cd_X10_findOrder Q X 15 [(0, (2, v0)), (1, (2, v1)), (2, (0, v2)), (3, (0, v3)), (4, (0, v4_1))] [] ε μ_1) : G cd_X10_findOrder Q X 105 [(0, (2, v0)), (1, (2, v1)), (2, (0, v2)), (3, (0, v3)), (4, (0, v4))] [(0, t_2), (0, t_1), (2, t)] ε μ := by
  refine G_run (m_in [7, 15, 47, 61, 64, 69, 97, 104, 105, 122, 124, 136, 145, 156]) 28 _ _ _ _ ?_
  show m_ty [(0, (2, v0)), (1, (2, v1)), (2, (0, v2)), (3, (0, v3)), (4, (0, v4))] [(0, t_2), (0, t_1), (2, t)] ε μ → (kd ε t = 103) ∧ ((0 : Int) ≤ t_1 ∧ t_1 < ln ε t) ∧ (t_2 = 0 ∨ t_2 = 1) ∧ ∀ μ_1 : m_M, μ_1 = st μ t t_1 t_2 → ∀ v4_1 : Int, v4_1 = w32 (v4 + 1) → G cd_X10_findOrder Q X 15 [(0, (2, v0)), (1, (2, v1)), (2, (0, v2)), (3, (0, v3)), (4, (0, v4_1))] [] ε μ_1
  intro hty
  replace h := h hty.1 (hty.2.1 _ (List.mem_of_getElem? (i := 2) rfl)) (hty.2.1 _ (List.mem_of_getElem? (i := 3) rfl)) (hty.2.1 _ (List.mem_of_getElem? (i := 4) rfl)) (hty.2.2 _ (List.mem_of_getElem? (i := 1) rfl)) (hty.2.2 _ (List.mem_of_getElem? (i := 0) rfl))
  obtain ⟨k1, h⟩ := h
  refine And.intro k1 ?_
  obtain ⟨k2, h⟩ := h
  obtain ⟨k3, h⟩ := h
  refine And.intro (And.intro k2 k3) ?_
  obtain ⟨k4, h⟩ := h
  refine And.intro k4 ?_
  intro μ_1 e_μ_1
  replace h := h μ_1 e_μ_1
  intro v4_1 e_v4_1
  replace h := h v4_1 e_v4_1
  exact h
set_option maxRecDepth 20000 in
theorem g_X10_findOrder_104 {Q X : m_Po} {v0 v1 v2 v3 v4 t t_1 : Int} {ε : m_E} {μ : m_M} (h : TY ε μ → i32 v2 → i32 v3 → i32 v4 → i32 t_1 → G cd_X10_findOrder Q X 105 [(0, (2, v0)), (1, (2, v1)), (2, (0, v2)), (3, (0, v3)), (4, (0, v4))] [(0, 0), (0, t_1), (2, t)] ε μ) : G cd_X10_findOrder Q X 104 [(0, (2, v0)), (1, (2, v1)), (2, (0, v2)), (3, (0, v3)), (4, (0, v4))] [(0, t_1), (2, t)] ε μ := by
  refine G_run (m_in [7, 15, 47, 61, 64, 69, 97, 104, 105, 122, 124, 136, 145, 156]) 28 _ _ _ _ ?_
  show m_ty [(0, (2, v0)), (1, (2, v1)), (2, (0, v2)), (3, (0, v3)), (4, (0, v4))] [(0, t_1), (2, t)] ε μ → G cd_X10_findOrder Q X 105 [(0, (2, v0)), (1, (2, v1)), (2, (0, v2)), (3, (0, v3)), (4, (0, v4))] [(0, 0), (0, t_1), (2, t)] ε μ
  intro hty
  replace h := h hty.1 (hty.2.1 _ (List.mem_of_getElem? (i := 2) rfl)) (hty.2.1 _ (List.mem_of_getElem? (i := 3) rfl)) (hty.2.1 _ (List.mem_of_getElem? (i := 4) rfl)) (hty.2.2 _ (List.mem_of_getElem? (i := 0) rfl))
  exact h
set_option maxRecDepth 20000 in
theorem g_X10_findOrder_97 {Q X : m_Po} {v0 v1 v2 v3 v4 t t_1 t_2 : Int} {ε : m_E} {μ : m_M} (h : TY ε μ → i32 v2 → i32 v3 → i32 v4 → i32 t_1 → i32 t_2 → (t_2 = 0 → G cd_X10_findOrder Q X 104 [(0, (2, v0)), (1, (2, v1)), (2, (0, v2)), (3, (0, v3)), (4, (0, v4))] [(0, t_1), (2, t)] ε μ) ∧ (t_2 ≠ 0 → G cd_X10_findOrder Q X 105 [(0, (2, v0)), (1, (2, v1)), (2, (0, v2)), (3, (0, v3)), (4, (0, v4))] [(0, 1), (0, t_1), (2, t)] ε μ)) : G cd_X10_findOrder Q X 97 [(0, (2, v0)), (1, (2, v1)), (2, (0, v2)), (3, (0, v3)), (4, (0, v4))] [(0, t_2), (0, t_1), (2, t)] ε μ := by
  refine G_run (m_in [7, 15, 47, 61, 64, 69, 97, 104, 105, 122, 124, 136, 145, 156]) 28 _ _ _ _ ?_
  show m_ty [(0, (2, v0)), (1, (2, v1)), (2, (0, v2)), (3, (0, v3)), (4, (0, v4))] [(0, t_2), (0, t_1), (2, t)] ε μ → (t_2 = 0 → G cd_X10_findOrder Q X 104 [(0, (2, v0)), (1, (2, v1)), (2, (0, v2)), (3, (0, v3)), (4, (0, v4))] [(0, t_1), (2, t)] ε μ) ∧ (t_2 ≠ 0 → (m_ty [(0, (2, v0)), (1, (2, v1)), (2, (0, v2)), (3, (0, v3)), (4, (0, v4))] [(0, t_1), (2, t)] ε μ → G cd_X10_findOrder Q X 105 [(0, (2, v0)), (1, (2, v1)), (2, (0, v2)), (3, (0, v3)), (4, (0, v4))] [(0, 1), (0, t_1), (2, t)] ε μ))
  intro hty
  replace h := h hty.1 (hty.2.1 _ (List.mem_of_getElem? (i := 2) rfl)) (hty.2.1 _ (List.mem_of_getElem? (i := 3) rfl)) (hty.2.1 _ (List.mem_of_getElem? (i := 4) rfl)) (hty.2.2 _ (List.mem_of_getElem? (i := 1) rfl)) (hty.2.2 _ (List.mem_of_getElem? (i := 0) rfl))
  obtain ⟨ha, hb⟩ := h
  refine And.intro (fun c0 => ?_) (fun c0 => ?_)
  · replace h := ha c0
    clear ha hb
    exact h
  · replace h := hb c0
    clear ha hb
    intro _
    exact h
set_option maxRecDepth 20000 in
theorem g_X10_findOrder_69 {Q X : m_Po} {v0 v1 v2 v3 v4 v5 t : Int} {ε : m_E} {μ : m_M} (h : TY ε μ → i32 v2 → i32 v3 → i32 v4 → i32 v5 → i32 t → ∀ v6 : Int, v6 = t → kd ε v0 = 9 ∧ (v6 = 0 → G cd_X10_findOrder Q X 104 [(0, (2, v0)), (1, (2, v1)), (2, (0, v2)), (3, (0, v3)), (4, (0, v4))] [(0, w32 ((w32 (v4 * 10)) + v5)), (2, fn ε v0 8)] ε μ) ∧ (v6 ≠ 0 → o_X10_isStruck [(2, v0), (2, v1), (0, v4), (0, v5)] ε μ (fun z ε_1 μ_1 => G cd_X10_findOrder Q X 97 [(0, (2, v0)), (1, (2, v1)), (2, (0, v2)), (3, (0, v3)), (4, (0, v4))] [(0, z), (0, w32 ((w32 (v4 * 10)) + v5)), (2, fn ε v0 8)] ε_1 μ_1) m_F)) : G cd_X10_findOrder Q X 69 [(0, (2, v0)), (1, (2, v1)), (2, (0, v2)), (3, (0, v3)), (4, (0, v4)), (5, (0, v5))] [(0, t)] ε μ := by
  refine G_run (m_in [7, 15, 47, 61, 64, 69, 97, 104, 105, 122, 124, 136, 145, 156]) 28 _ _ _ _ ?_
  show m_ty [(0, (2, v0)), (1, (2, v1)), (2, (0, v2)), (3, (0, v3)), (4, (0, v4)), (5, (0, v5))] [(0, t)] ε μ → ∀ v6 : Int, v6 = t → (kd ε v0 = 9) ∧ (v6 = 0 → G cd_X10_findOrder Q X 104 [(0, (2, v0)), (1, (2, v1)), (2, (0, v2)), (3, (0, v3)), (4, (0, v4))] [(0, w32 ((w32 (v4 * 10)) + v5)), (2, fn ε v0 8)] ε μ) ∧ (v6 ≠ 0 → (m_ty [(0, (2, v0)), (1, (2, v1)), (2, (0, v2)), (3, (0, v3)), (4, (0, v4)), (5, (0, v5))] [(0, w32 ((w32 (v4 * 10)) + v5)), (2, fn ε v0 8)] ε μ → (kd ε v0 = 9) ∧ o_X10_isStruck [(2, v0), (2, v1), (0, v4), (0, v5)] ε μ (fun z ε_1 μ_1 => G cd_X10_findOrder Q X 97 [(0, (2, v0)), (1, (2, v1)), (2, (0, v2)), (3, (0, v3)), (4, (0, v4))] [(0, z), (0, w32 ((w32 (v4 * 10)) + v5)), (2, fn ε v0 8)] ε_1 μ_1) m_F))
  intro hty
  replace h := h hty.1 (hty.2.1 _ (List.mem_of_getElem? (i := 2) rfl)) (hty.2.1 _ (List.mem_of_getElem? (i := 3) rfl)) (hty.2.1 _ (List.mem_of_getElem? (i := 4) rfl)) (hty.2.1 _ (List.mem_of_getElem? (i := 5) rfl)) (hty.2.2 _ (List.mem_of_getElem? (i := 0) rfl))
  intro v6 e_v6
  replace h := h v6 e_v6
  obtain ⟨k1, h⟩ := h
  refine And.intro k1 ?_
  obtain ⟨ha, hb⟩ := h
  refine And.intro (fun c1 => ?_) (fun c1 => ?_)
  · replace h := ha c1
    clear ha hb
    exact h
  · replace h := hb c1
    clear ha hb
    intro _
    refine And.intro k1 ?_
    exact h
set_option maxRecDepth 20000 in
theorem g_X10_findOrder_64 {Q X : m_Po} {v0 v1 v2 v3 v4 v5 : Int} {ε : m_E} {μ : m_M} (h : TY ε μ → i32 v2 → i32 v3 → i32 v4 → i32 v5 → G cd_X10_findOrder Q X 69 [(0, (2, v0)), (1, (2, v1)), (2, (0, v2)), (3, (0, v3)), (4, (0, v4)), (5, (0, v5))] [(0, 1)] ε μ) : G cd_X10_findOrder Q X 64 [(0, (2, v0)), (1, (2, v1)), (2, (0, v2)), (3, (0, v3)), (4, (0, v4)), (5, (0, v5))] [] ε μ := by
  refine G_run (m_in [7, 15, 47, 61, 64, 69, 97, 104, 105, 122, 124, 136, 145, 156]) 28 _ _ _ _ ?_
  show m_ty [(0, (2, v0)), (1, (2, v1)), (2, (0, v2)), (3, (0, v3)), (4, (0, v4)), (5, (0, v5))] [] ε μ → G cd_X10_findOrder Q X 69 [(0, (2, v0)), (1, (2, v1)), (2, (0, v2)), (3, (0, v3)), (4, (0, v4)), (5, (0, v5))] [(0, 1)] ε μ
  intro hty
  replace h := h hty.1 (hty.2.1 _ (List.mem_of_getElem? (i := 2) rfl)) (hty.2.1 _ (List.mem_of_getElem? (i := 3) rfl)) (hty.2.1 _ (List.mem_of_getElem? (i := 4) rfl)) (hty.2.1 _ (List.mem_of_getElem? (i := 5) rfl))
  exact h
set_option maxRecDepth 20000 in
theorem g_X10_findOrder_61 {Q X : m_Po} {v0 v1 v2 v3 v4 v5 t : Int} {ε : m_E} {μ : m_M} (h : TY ε μ → i32 v2 → i32 v3 → i32 v4 → i32 v5 → i32 t → (t = 0 → G cd_X10_findOrder Q X 69 [(0, (2, v0)), (1, (2, v1)), (2, (0, v2)), (3, (0, v3)), (4, (0, v4)), (5, (0, v5))] [(0, 0)] ε μ) ∧ (t ≠ 0 → G cd_X10_findOrder Q X 64 [(0, (2, v0)), (1, (2, v1)), (2, (0, v2)), (3, (0, v3)), (4, (0, v4)), (5, (0, v5))] [] ε μ)) : G cd_X10_findOrder Q X 61 [(0, (2, v0)), (1, (2, v1)), (2, (0, v2)), (3, (0, v3)), (4, (0, v4)), (5, (0, v5))] [(0, t)] ε μ := by
  refine G_run (m_in [7, 15, 47, 61, 64, 69, 97, 104, 105, 122, 124, 136, 145, 156]) 28 _ _ _ _ ?_
  show m_ty [(0, (2, v0)), (1, (2, v1)), (2, (0, v2)), (3, (0, v3)), (4, (0, v4)), (5, (0, v5))] [(0, t)] ε μ → (t = 0 → (m_ty [(0, (2, v0)), (1, (2, v1)), (2, (0, v2)), (3, (0, v3)), (4, (0, v4)), (5, (0, v5))] [] ε μ → G cd_X10_findOrder Q X 69 [(0, (2, v0)), (1, (2, v1)), (2, (0, v2)), (3, (0, v3)), (4, (0, v4)), (5, (0, v5))] [(0, 0)] ε μ)) ∧ (t ≠ 0 → G cd_X10_findOrder Q X 64 [(0, (2, v0)), (1, (2, v1)), (2, (0, v2)), (3, (0, v3)), (4, (0, v4)), (5, (0, v5))] [] ε μ)
  intro hty
  replace h := h hty.1 (hty.2.1 _ (List.mem_of_getElem? (i := 2) rfl)) (hty.2.1 _ (List.mem_of_getElem? (i := 3) rfl)) (hty.2.1 _ (List.mem_of_getElem? (i := 4) rfl)) (hty.2.1 _ (List.mem_of_getElem? (i := 5) rfl)) (hty.2.2 _ (List.mem_of_getElem? (i := 0) rfl))
  obtain ⟨ha, hb⟩ := h
  refine And.intro (fun c0 => ?_) (fun c0 => ?_)
  · replace h := ha c0
    clear ha hb
    intro _
    exact h
  · replace h := hb c0
    clear ha hb
    exact h
set_option maxRecDepth 20000 in
theorem g_X10_findOrder_47 {Q X : m_Po} {v0 v1 v2 v3 v4 v5 t : Int} {ε : m_E} {μ : m_M} (h : TY ε μ → i32 v2 → i32 v3 → i32 v4 → i32 v5 → i32 t → (t ≠ 0 → G cd_X10_findOrder Q X 64 [(0, (2, v0)), (1, (2, v1)), (2, (0, v2)), (3, (0, v3)), (4, (0, v4)), (5, (0, v5))] [] ε μ) ∧ (t = 0 → kd ε v0 = 9 ∧ o_X10_canGrow [(2, v0), (0, v4), (0, w32 (v5 + 1)), (0, v2)] ε μ (fun z ε_1 μ_1 => G cd_X10_findOrder Q X 61 [(0, (2, v0)), (1, (2, v1)), (2, (0, v2)), (3, (0, v3)), (4, (0, v4)), (5, (0, v5))] [(0, z)] ε_1 μ_1) m_F)) : G cd_X10_findOrder Q X 47 [(0, (2, v0)), (1, (2, v1)), (2, (0, v2)), (3, (0, v3)), (4, (0, v4)), (5, (0, v5))] [(0, t)] ε μ := by
  refine G_run (m_in [7, 15, 47, 61, 64, 69, 97, 104, 105, 122, 124, 136, 145, 156]) 28 _ _ _ _ ?_
  show m_ty [(0, (2, v0)), (1, (2, v1)), (2, (0, v2)), (3, (0, v3)), (4, (0, v4)), (5, (0, v5))] [(0, t)] ε μ → (t ≠ 0 → G cd_X10_findOrder Q X 64 [(0, (2, v0)), (1, (2, v1)), (2, (0, v2)), (3, (0, v3)), (4, (0, v4)), (5, (0, v5))] [] ε μ) ∧ (t = 0 → (m_ty [(0, (2, v0)), (1, (2, v1)), (2, (0, v2)), (3, (0, v3)), (4, (0, v4)), (5, (0, v5))] [] ε μ → (kd ε v0 = 9) ∧ o_X10_canGrow [(2, v0), (0, v4), (0, w32 (v5 + 1)), (0, v2)] ε μ (fun z ε_1 μ_1 => G cd_X10_findOrder Q X 61 [(0, (2, v0)), (1, (2, v1)), (2, (0, v2)), (3, (0, v3)), (4, (0, v4)), (5, (0, v5))] [(0, z)] ε_1 μ_1) m_F))
  intro hty
  replace h := h hty.1 (hty.2.1 _ (List.mem_of_getElem? (i := 2) rfl)) (hty.2.1 _ (List.mem_of_getElem? (i := 3) rfl)) (hty.2.1 _ (List.mem_of_getElem? (i := 4) rfl)) (hty.2.1 _ (List.mem_of_getElem? (i := 5) rfl)) (hty.2.2 _ (List.mem_of_getElem? (i := 0) rfl))
  obtain ⟨ha, hb⟩ := h
  refine And.intro (fun c1 => ?_) (fun c1 => ?_)
  · replace h := ha c1
    clear ha hb
    exact h
  · replace h := hb c1
    clear ha hb
    intro _
    obtain ⟨k1, h⟩ := h
    refine And.intro k1 ?_
    exact h
set_option maxRecDepth 20000 in
theorem g_X10_findOrder_15 {Q X : m_Po} {v0 v1 v2 v3 v4 : Int} {ε : m_E} {μ : m_M} (h : TY ε μ → i32 v2 → i32 v3 → i32 v4 → (v2 < (w32 (v4 + v3)) → ∀ v3_1 : Int, v3_1 = w32 (v3 + (-1)) → G cd_X10_findOrder Q X 7 [(0, (2, v0)), (1, (2, v1)), (2, (0, v2)), (3, (0, v3_1))] [] ε μ) ∧ ((w32 (v4 + v3)) ≤ v2 → ∀ v5 : Int, v5 = w32 ((w32 (v4 + v3)) - 1) → (v3 = v2 → G cd_X10_findOrder Q X 64 [(0, (2, v0)), (1, (2, v1)), (2, (0, v2)), (3, (0, v3)), (4, (0, v4)), (5, (0, v5))] [] ε μ) ∧ (v3 ≠ v2 → kd ε v0 = 9 ∧ o_X10_canGrow [(2, v0), (0, w32 (v4 - 1)), (0, v5), (0, v2)] ε μ (fun z ε_1 μ_1 => G cd_X10_findOrder Q X 47 [(0, (2, v0)), (1, (2, v1)), (2, (0, v2)), (3, (0, v3)), (4, (0, v4)), (5, (0, v5))] [(0, z)] ε_1 μ_1) m_F))) : G cd_X10_findOrder Q X 15 [(0, (2, v0)), (1, (2, v1)), (2, (0, v2)), (3, (0, v3)), (4, (0, v4))] [] ε μ := by
  refine G_run (m_in [7, 15, 47, 61, 64, 69, 97, 104, 105, 122, 124, 136, 145, 156]) 28 _ _ _ _ ?_
  show m_ty [(0, (2, v0)), (1, (2, v1)), (2, (0, v2)), (3, (0, v3)), (4, (0, v4))] [] ε μ → (v2 < (w32 (v4 + v3)) → (m_ty [(0, (2, v0)), (1, (2, v1)), (2, (0, v2)), (3, (0, v3))] [] ε μ → ∀ v3_1 : Int, v3_1 = w32 (v3 + (-1)) → G cd_X10_findOrder Q X 7 [(0, (2, v0)), (1, (2, v1)), (2, (0, v2)), (3, (0, v3_1))] [] ε μ)) ∧ ((w32 (v4 + v3)) ≤ v2 → (m_ty [(0, (2, v0)), (1, (2, v1)), (2, (0, v2)), (3, (0, v3)), (4, (0, v4))] [] ε μ → ∀ v5 : Int, v5 = w32 ((w32 (v4 + v3)) - 1) → (v3 = v2 → G cd_X10_findOrder Q X 64 [(0, (2, v0)), (1, (2, v1)), (2, (0, v2)), (3, (0, v3)), (4, (0, v4)), (5, (0, v5))] [] ε μ) ∧ (v3 ≠ v2 → (m_ty [(0, (2, v0)), (1, (2, v1)), (2, (0, v2)), (3, (0, v3)), (4, (0, v4)), (5, (0, v5))] [] ε μ → (kd ε v0 = 9) ∧ o_X10_canGrow [(2, v0), (0, w32 (v4 - 1)), (0, v5), (0, v2)] ε μ (fun z ε_1 μ_1 => G cd_X10_findOrder Q X 47 [(0, (2, v0)), (1, (2, v1)), (2, (0, v2)), (3, (0, v3)), (4, (0, v4)), (5, (0, v5))] [(0, z)] ε_1 μ_1) m_F))))
  intro hty
  replace h := h hty.1 (hty.2.1 _ (List.mem_of_getElem? (i := 2) rfl)) (hty.2.1 _ (List.mem_of_getElem? (i := 3) rfl)) (hty.2.1 _ (List.mem_of_getElem? (i := 4) rfl))
  obtain ⟨ha, hb⟩ := h
  refine And.intro (fun c2 => ?_) (fun c2 => ?_)
  · replace h := ha c2
    clear ha hb
    intro _
    intro v3_1 e_v3_1
    replace h := h v3_1 e_v3_1
    exact h
  · replace h := hb c2
    clear ha hb
    intro _
    intro v5 e_v5
    replace h := h v5 e_v5
    obtain ⟨ha, hb⟩ := h
    refine And.intro (fun c1 => ?_) (fun c1 => ?_)
    · replace h := ha c1
      clear ha hb
      exact h
    · replace h := hb c1
      clear ha hb
      intro _
      obtain ⟨k1, h⟩ := h
      refine And.intro k1 ?_
      exact h
set_option maxRecDepth 20000 in
theorem g_X10_findOrder_7 {Q X : m_Po} {v0 v1 v2 v3 : Int} {ε : m_E} {μ : m_M} (h : TY ε μ → i32 v2 → i32 v3 → (v3 < (1 : Int) → kd ε v1 = 0 ∧ o_X0_clearOrder [(2, v1)] ε μ (fun z ε_1 μ_1 => G cd_X10_findOrder Q X 122 [(0, (2, v0)), (1, (2, v1)), (2, (0, v2))] [] ε_1 μ_1) m_F) ∧ ((1 : Int) ≤ v3 → ∀ v4 : Int, v4 = 0 → G cd_X10_findOrder Q X 15 [(0, (2, v0)), (1, (2, v1)), (2, (0, v2)), (3, (0, v3)), (4, (0, v4))] [] ε μ)) : G cd_X10_findOrder Q X 7 [(0, (2, v0)), (1, (2, v1)), (2, (0, v2)), (3, (0, v3))] [] ε μ := by
  refine G_run (m_in [7, 15, 47, 61, 64, 69, 97, 104, 105, 122, 124, 136, 145, 156]) 28 _ _ _ _ ?_
  show m_ty [(0, (2, v0)), (1, (2, v1)), (2, (0, v2)), (3, (0, v3))] [] ε μ → (v3 < (1 : Int) → (m_ty [(0, (2, v0)), (1, (2, v1)), (2, (0, v2))] [] ε μ → (kd ε v1 = 0) ∧ o_X0_clearOrder [(2, v1)] ε μ (fun z ε_1 μ_1 => G cd_X10_findOrder Q X 122 [(0, (2, v0)), (1, (2, v1)), (2, (0, v2))] [] ε_1 μ_1) m_F)) ∧ ((1 : Int) ≤ v3 → (m_ty [(0, (2, v0)), (1, (2, v1)), (2, (0, v2)), (3, (0, v3))] [] ε μ → ∀ v4 : Int, v4 = 0 → G cd_X10_findOrder Q X 15 [(0, (2, v0)), (1, (2, v1)), (2, (0, v2)), (3, (0, v3)), (4, (0, v4))] [] ε μ))
  intro hty
  replace h := h hty.1 (hty.2.1 _ (List.mem_of_getElem? (i := 2) rfl)) (hty.2.1 _ (List.mem_of_getElem? (i := 3) rfl))
  obtain ⟨ha, hb⟩ := h
  refine And.intro (fun c1 => ?_) (fun c1 => ?_)
  · replace h := ha c1
    clear ha hb
    intro _
    obtain ⟨k1, h⟩ := h
    refine And.intro k1 ?_
    exact h
  · replace h := hb c1
    clear ha hb
    intro _
    intro v4 e_v4
    replace h := h v4 e_v4
    exact h
set_option maxRecDepth 20000 in
theorem g_X10_findOrder_0 {Q X : m_Po} {v0 v1 : Int} {ε : m_E} {μ : m_M} (h : TY ε μ → kd ε v1 = 0 ∧ ∀ v2 : Int, v2 = fn ε v1 0 → ∀ v3 : Int, v3 = v2 → G cd_X10_findOrder Q X 7 [(0, (2, v0)), (1, (2, v1)), (2, (0, v2)), (3, (0, v3))] [] ε μ) : G cd_X10_findOrder Q X 0 [(0, (2, v0)), (1, (2, v1))] [] ε μ := by
  refine G_run (m_in [7, 15, 47, 61, 64, 69, 97, 104, 105, 122, 124, 136, 145, 156]) 28 _ _ _ _ ?_
  show m_ty [(0, (2, v0)), (1, (2, v1))] [] ε μ → (kd ε v1 = 0) ∧ ∀ v2 : Int, v2 = fn ε v1 0 → ∀ v3 : Int, v3 = v2 → G cd_X10_findOrder Q X 7 [(0, (2, v0)), (1, (2, v1)), (2, (0, v2)), (3, (0, v3))] [] ε μ
  intro hty
  replace h := h hty.1 
  obtain ⟨k1, h⟩ := h
  refine And.intro k1 ?_
  intro v2 e_v2
  replace h := h v2 e_v2
  intro v3 e_v3
  replace h := h v3 e_v3
  exact h
theorem e_X10_findOrder {Q X : m_Po} {v0 v1 : Int} {ε : m_E} {μ : m_M} (h : TY ε μ → kd ε v1 = 0 ∧ ∀ v2 : Int, v2 = fn ε v1 0 → ∀ v3 : Int, v3 = v2 → G cd_X10_findOrder Q X 7 [(0, (2, v0)), (1, (2, v1)), (2, (0, v2)), (3, (0, v3))] [] ε μ) : o_X10_findOrder [(2, v0), (2, v1)] ε μ Q X := And.intro rfl (g_X10_findOrder_0 h)
/-! ArchYard.order(II)I -/
set_option maxRecDepth 20000 in
theorem g_X10_order_27 {Q X : m_Po} {t : Int} {ε : m_E} {μ : m_M} (h : TY ε μ → i32 t → Q t ε μ) : G cd_X10_order Q X 27 [] [(0, t)] ε μ := by
  refine G_run (m_in [5, 10, 14, 22, 27]) 8 _ _ _ _ ?_
  show m_ty [] [(0, t)] ε μ → Q t ε μ
  intro hty
  replace h := h hty.1 (hty.2.2 _ (List.mem_of_getElem? (i := 0) rfl))
  exact h
set_option maxRecDepth 20000 in
theorem g_X10_order_22 {Q X : m_Po} {v2 v3 : Int} {ε : m_E} {μ : m_M} (h : TY ε μ → i32 v2 → kd ε v3 = 0 ∧ o_X0_ordered [(2, v3), (0, v2)] ε μ (fun z ε_1 μ_1 => G cd_X10_order Q X 27 [] [(0, z)] ε_1 μ_1) m_F) : G cd_X10_order Q X 22 [(2, (0, v2)), (3, (2, v3))] [] ε μ := by
  refine G_run (m_in [5, 10, 14, 22, 27]) 8 _ _ _ _ ?_
  show m_ty [(2, (0, v2)), (3, (2, v3))] [] ε μ → (kd ε v3 = 0) ∧ o_X0_ordered [(2, v3), (0, v2)] ε μ (fun z ε_1 μ_1 => G cd_X10_order Q X 27 [] [(0, z)] ε_1 μ_1) m_F
  intro hty
  replace h := h hty.1 (hty.2.1 _ (List.mem_of_getElem? (i := 0) rfl))
  obtain ⟨k1, h⟩ := h
  refine And.intro k1 ?_
  exact h
set_option maxRecDepth 20000 in
theorem g_X10_order_14 {Q X : m_Po} {v0 v2 v3 t : Int} {ε : m_E} {μ : m_M} (h : TY ε μ → i32 v2 → i32 t → (t ≠ 0 → G cd_X10_order Q X 22 [(2, (0, v2)), (3, (2, v3))] [] ε μ) ∧ (t = 0 → kd ε v0 = 9 ∧ o_X10_findOrder [(2, v0), (2, v3)] ε μ (fun z ε_1 μ_1 => G cd_X10_order Q X 22 [(2, (0, v2)), (3, (2, v3))] [] ε_1 μ_1) m_F)) : G cd_X10_order Q X 14 [(0, (2, v0)), (2, (0, v2)), (3, (2, v3))] [(0, t)] ε μ := by
  refine G_run (m_in [5, 10, 14, 22, 27]) 8 _ _ _ _ ?_
  show m_ty [(0, (2, v0)), (2, (0, v2)), (3, (2, v3))] [(0, t)] ε μ → (t ≠ 0 → G cd_X10_order Q X 22 [(2, (0, v2)), (3, (2, v3))] [] ε μ) ∧ (t = 0 → (m_ty [(0, (2, v0)), (2, (0, v2)), (3, (2, v3))] [] ε μ → (kd ε v0 = 9) ∧ o_X10_findOrder [(2, v0), (2, v3)] ε μ (fun z ε_1 μ_1 => G cd_X10_order Q X 22 [(2, (0, v2)), (3, (2, v3))] [] ε_1 μ_1) m_F))
  intro hty
  replace h := h hty.1 (hty.2.1 _ (List.mem_of_getElem? (i := 1) rfl)) (hty.2.2 _ (List.mem_of_getElem? (i := 0) rfl))
  obtain ⟨ha, hb⟩ := h
  refine And.intro (fun c1 => ?_) (fun c1 => ?_)
  · replace h := ha c1
    clear ha hb
    exact h
  · replace h := hb c1
    clear ha hb
    intro _
    obtain ⟨k1, h⟩ := h
    refine And.intro k1 ?_
    exact h
set_option maxRecDepth 20000 in
theorem g_X10_order_10 {Q X : m_Po} {v0 v2 v3 : Int} {ε : m_E} {μ : m_M} (h : TY ε μ → i32 v2 → kd ε v3 = 0 ∧ o_X0_isOrderKnown [(2, v3)] ε μ (fun z ε_1 μ_1 => G cd_X10_order Q X 14 [(0, (2, v0)), (2, (0, v2)), (3, (2, v3))] [(0, z)] ε_1 μ_1) m_F) : G cd_X10_order Q X 10 [(0, (2, v0)), (2, (0, v2)), (3, (2, v3))] [] ε μ := by
  refine G_run (m_in [5, 10, 14, 22, 27]) 8 _ _ _ _ ?_
  show m_ty [(0, (2, v0)), (2, (0, v2)), (3, (2, v3))] [] ε μ → (kd ε v3 = 0) ∧ o_X0_isOrderKnown [(2, v3)] ε μ (fun z ε_1 μ_1 => G cd_X10_order Q X 14 [(0, (2, v0)), (2, (0, v2)), (3, (2, v3))] [(0, z)] ε_1 μ_1) m_F
  intro hty
  replace h := h hty.1 (hty.2.1 _ (List.mem_of_getElem? (i := 1) rfl))
  obtain ⟨k1, h⟩ := h
  refine And.intro k1 ?_
  exact h
set_option maxRecDepth 20000 in
theorem g_X10_order_5 {Q X : m_Po} {v0 v2 t : Int} {ε : m_E} {μ : m_M} (h : TY ε μ → i32 v2 → ∀ v3 : Int, v3 = t → o_X10_requireWhole [(2, v3)] ε μ (fun z ε_1 μ_1 => G cd_X10_order Q X 10 [(0, (2, v0)), (2, (0, v2)), (3, (2, v3))] [] ε_1 μ_1) X) : G cd_X10_order Q X 5 [(0, (2, v0)), (2, (0, v2))] [(2, t)] ε μ := by
  refine G_run (m_in [5, 10, 14, 22, 27]) 8 _ _ _ _ ?_
  show m_ty [(0, (2, v0)), (2, (0, v2))] [(2, t)] ε μ → ∀ v3 : Int, v3 = t → o_X10_requireWhole [(2, v3)] ε μ (fun z ε_1 μ_1 => G cd_X10_order Q X 10 [(0, (2, v0)), (2, (0, v2)), (3, (2, v3))] [] ε_1 μ_1) X
  intro hty
  replace h := h hty.1 (hty.2.1 _ (List.mem_of_getElem? (i := 1) rfl))
  intro v3 e_v3
  replace h := h v3 e_v3
  exact h
set_option maxRecDepth 20000 in
theorem g_X10_order_0 {Q X : m_Po} {v0 v1 v2 : Int} {ε : m_E} {μ : m_M} (h : TY ε μ → i32 v1 → i32 v2 → kd ε v0 = 9 ∧ o_X10_archAt [(2, v0), (0, v1)] ε μ (fun z ε_1 μ_1 => G cd_X10_order Q X 5 [(0, (2, v0)), (2, (0, v2))] [(2, z)] ε_1 μ_1) X) : G cd_X10_order Q X 0 [(0, (2, v0)), (1, (0, v1)), (2, (0, v2))] [] ε μ := by
  refine G_run (m_in [5, 10, 14, 22, 27]) 8 _ _ _ _ ?_
  show m_ty [(0, (2, v0)), (1, (0, v1)), (2, (0, v2))] [] ε μ → (kd ε v0 = 9) ∧ o_X10_archAt [(2, v0), (0, v1)] ε μ (fun z ε_1 μ_1 => G cd_X10_order Q X 5 [(0, (2, v0)), (2, (0, v2))] [(2, z)] ε_1 μ_1) X
  intro hty
  replace h := h hty.1 (hty.2.1 _ (List.mem_of_getElem? (i := 1) rfl)) (hty.2.1 _ (List.mem_of_getElem? (i := 2) rfl))
  obtain ⟨k1, h⟩ := h
  refine And.intro k1 ?_
  exact h
theorem e_X10_order {Q X : m_Po} {v0 v1 v2 : Int} {ε : m_E} {μ : m_M} (h : TY ε μ → i32 v1 → i32 v2 → kd ε v0 = 9 ∧ o_X10_archAt [(2, v0), (0, v1)] ε μ (fun z ε_1 μ_1 => G cd_X10_order Q X 5 [(0, (2, v0)), (2, (0, v2))] [(2, z)] ε_1 μ_1) X) : o_X10_order [(2, v0), (0, v1), (0, v2)] ε μ Q X := And.intro rfl (g_X10_order_0 h)
/-! ArchYard.octet(I)I -/
set_option maxRecDepth 20000 in
theorem g_X10_octet_8 {Q X : m_Po} {t : Int} {ε : m_E} {μ : m_M} (h : TY ε μ → i32 t → Q t ε μ) : G cd_X10_octet Q X 8 [] [(0, t)] ε μ := by
  refine G_run (m_in [8]) 3 _ _ _ _ ?_
  show m_ty [] [(0, t)] ε μ → Q t ε μ
  intro hty
  replace h := h hty.1 (hty.2.2 _ (List.mem_of_getElem? (i := 0) rfl))
  exact h
set_option maxRecDepth 20000 in
theorem g_X10_octet_0 {Q X : m_Po} {v0 v1 : Int} {ε : m_E} {μ : m_M} (h : TY ε μ → i32 v1 → kd ε v0 = 9 ∧ kd ε (fn ε v0 7) = 4 ∧ o_X4_byteAt [(2, fn ε v0 7), (0, v1)] ε μ (fun z ε_1 μ_1 => G cd_X10_octet Q X 8 [] [(0, z)] ε_1 μ_1) m_F) : G cd_X10_octet Q X 0 [(0, (2, v0)), (1, (0, v1))] [] ε μ := by
  refine G_run (m_in [8]) 3 _ _ _ _ ?_
  show m_ty [(0, (2, v0)), (1, (0, v1))] [] ε μ → (kd ε v0 = 9) ∧ (kd ε (fn ε v0 7) = 4) ∧ o_X4_byteAt [(2, fn ε v0 7), (0, v1)] ε μ (fun z ε_1 μ_1 => G cd_X10_octet Q X 8 [] [(0, z)] ε_1 μ_1) m_F
  intro hty
  replace h := h hty.1 (hty.2.1 _ (List.mem_of_getElem? (i := 1) rfl))
  obtain ⟨k1, h⟩ := h
  refine And.intro k1 ?_
  obtain ⟨k2, h⟩ := h
  refine And.intro k2 ?_
  exact h
theorem e_X10_octet {Q X : m_Po} {v0 v1 : Int} {ε : m_E} {μ : m_M} (h : TY ε μ → i32 v1 → kd ε v0 = 9 ∧ kd ε (fn ε v0 7) = 4 ∧ o_X4_byteAt [(2, fn ε v0 7), (0, v1)] ε μ (fun z ε_1 μ_1 => G cd_X10_octet Q X 8 [] [(0, z)] ε_1 μ_1) m_F) : o_X10_octet [(2, v0), (0, v1)] ε μ Q X := And.intro rfl (g_X10_octet_0 h)
/-! ArchYard.count(I)I -/
set_option maxRecDepth 20000 in
theorem g_X10_count_54 {Q X : m_Po} {t : Int} {ε : m_E} {μ : m_M} (h : TY ε μ → i32 t → Q t ε μ) : G cd_X10_count Q X 54 [] [(0, t)] ε μ := by
  refine G_run (m_in [54]) 8 _ _ _ _ ?_
  show m_ty [] [(0, t)] ε μ → Q t ε μ
  intro hty
  replace h := h hty.1 (hty.2.2 _ (List.mem_of_getElem? (i := 0) rfl))
  exact h
set_option maxRecDepth 20000 in
theorem g_X10_count_0 {Q X : m_Po} {v0 v1 : Int} {ε : m_E} {μ : m_M} (h : TY ε μ → i32 v1 → (v1 = 0 → kd ε v0 = 9 ∧ Q (μ v0 9) ε μ) ∧ (v1 = 1 → kd ε v0 = 9 ∧ Q (μ v0 10) ε μ) ∧ (v1 = 2 → kd ε v0 = 9 ∧ Q (μ v0 11) ε μ) ∧ (v1 = 3 → kd ε v0 = 9 ∧ kd ε (fn ε v0 7) = 4 ∧ o_X4_length [(2, fn ε v0 7)] ε μ (fun z ε_1 μ_1 => G cd_X10_count Q X 54 [] [(0, z)] ε_1 μ_1) m_F) ∧ (v1 < 0 ∨ 3 < v1 → Q (-1) ε μ)) : G cd_X10_count Q X 0 [(0, (2, v0)), (1, (0, v1))] [] ε μ := by
  refine G_run (m_in [54]) 8 _ _ _ _ ?_
  show m_ty [(0, (2, v0)), (1, (0, v1))] [] ε μ → ((v1 = 0 → (m_ty [(0, (2, v0))] [] ε μ → (kd ε v0 = 9) ∧ Q (μ v0 9) ε μ)) ∧ (v1 = 1 → (m_ty [(0, (2, v0))] [] ε μ → (kd ε v0 = 9) ∧ Q (μ v0 10) ε μ)) ∧ (v1 = 2 → (m_ty [(0, (2, v0))] [] ε μ → (kd ε v0 = 9) ∧ Q (μ v0 11) ε μ)) ∧ (v1 = 3 → (m_ty [(0, (2, v0))] [] ε μ → (kd ε v0 = 9) ∧ (kd ε (fn ε v0 7) = 4) ∧ o_X4_length [(2, fn ε v0 7)] ε μ (fun z ε_1 μ_1 => G cd_X10_count Q X 54 [] [(0, z)] ε_1 μ_1) m_F)) ∧ True) ∧ (v1 < 0 ∨ 3 < v1 → (m_ty [] [] ε μ → Q (-1) ε μ))
  intro hty
  replace h := h hty.1 (hty.2.1 _ (List.mem_of_getElem? (i := 1) rfl))
  obtain ⟨h0, h1, h2, h3, h4⟩ := h
  refine And.intro (And.intro (fun c0 => ?_) (And.intro (fun c1 => ?_) (And.intro (fun c2 => ?_) (And.intro (fun c3 => ?_) trivial)))) (fun c4 => ?_)
  · replace h := h0 c0
    intro _
    obtain ⟨k1, h⟩ := h
    refine And.intro k1 ?_
    exact h
  · replace h := h1 c1
    intro _
    obtain ⟨k2, h⟩ := h
    refine And.intro k2 ?_
    exact h
  · replace h := h2 c2
    intro _
    obtain ⟨k3, h⟩ := h
    refine And.intro k3 ?_
    exact h
  · replace h := h3 c3
    intro _
    obtain ⟨k4, h⟩ := h
    refine And.intro k4 ?_
    obtain ⟨k5, h⟩ := h
    refine And.intro k5 ?_
    exact h
  · replace h := h4 c4
    intro _
    exact h
theorem e_X10_count {Q X : m_Po} {v0 v1 : Int} {ε : m_E} {μ : m_M} (h : TY ε μ → i32 v1 → (v1 = 0 → kd ε v0 = 9 ∧ Q (μ v0 9) ε μ) ∧ (v1 = 1 → kd ε v0 = 9 ∧ Q (μ v0 10) ε μ) ∧ (v1 = 2 → kd ε v0 = 9 ∧ Q (μ v0 11) ε μ) ∧ (v1 = 3 → kd ε v0 = 9 ∧ kd ε (fn ε v0 7) = 4 ∧ o_X4_length [(2, fn ε v0 7)] ε μ (fun z ε_1 μ_1 => G cd_X10_count Q X 54 [] [(0, z)] ε_1 μ_1) m_F) ∧ (v1 < 0 ∨ 3 < v1 → Q (-1) ε μ)) : o_X10_count [(2, v0), (0, v1)] ε μ Q X := And.intro rfl (g_X10_count_0 h)
/-! ArchYardModel$Big.<init>()V -/
set_option maxRecDepth 20000 in
theorem g_X11_init_0 {Q X : m_Po} {v0 : Int} {ε : m_E} {μ : m_M} (h : TY ε μ → 0 < v0 ∧ ∀ (a : Int) (ε_1 : m_E) (μ_1 : m_M), a = nx ε → ε_1 = ealloc ε 100 12 → μ_1 = mnew μ a → kd ε_1 v0 = 10 ∧ ∀ ε_2 : m_E, ε_2 = efin ε_1 v0 0 a → Q 0 ε_2 μ_1) : G cd_X11_init Q X 0 [(0, (2, v0))] [] ε μ := by
  refine G_run (m_in []) 2 _ _ _ _ ?_
  show m_ty [(0, (2, v0))] [] ε μ → (0 < v0) ∧ m_cs [] ≤ 8 ∧ ((0 : Int) ≤ 12 ∧ (12 : Int) ≤ 12) ∧ ∀ (a : Int) (ε_1 : m_E) (μ_1 : m_M), a = nx ε → ε_1 = ealloc ε 100 12 → μ_1 = mnew μ a → (kd ε_1 v0 = 10) ∧ ∀ ε_2 : m_E, ε_2 = efin ε_1 v0 0 a → Q 0 ε_2 μ_1
  intro hty
  replace h := h hty.1 
  obtain ⟨k1, h⟩ := h
  refine And.intro k1 ?_
  refine And.intro (Nat.le_of_ble_eq_true rfl) ?_
  refine And.intro (And.intro (by decide) (by decide)) ?_
  intro a ε_1 μ_1 e_a e_ε_1 e_μ_1
  replace h := h a ε_1 μ_1 e_a e_ε_1 e_μ_1
  obtain ⟨k2, h⟩ := h
  refine And.intro k2 ?_
  intro ε_2 e_ε_2
  replace h := h ε_2 e_ε_2
  exact h
theorem e_X11_init {Q X : m_Po} {v0 : Int} {ε : m_E} {μ : m_M} (h : TY ε μ → 0 < v0 ∧ ∀ (a : Int) (ε_1 : m_E) (μ_1 : m_M), a = nx ε → ε_1 = ealloc ε 100 12 → μ_1 = mnew μ a → kd ε_1 v0 = 10 ∧ ∀ ε_2 : m_E, ε_2 = efin ε_1 v0 0 a → Q 0 ε_2 μ_1) : o_X11_init [(2, v0)] ε μ Q X := And.intro rfl (g_X11_init_0 h)
/-! ArchYardModel$Big.set(J)V -/
set_option maxRecDepth 20000 in
theorem g_X11_set_63 {Q X : m_Po} {v0 v3 v5 t t_1 t_2 : Int} {ε : m_E} {μ : m_M} (h : TY ε μ → i64 v3 → i32 v5 → i32 t_1 → i32 t_2 → kd ε t = 100 ∧ (0 : Int) ≤ t_1 ∧ t_1 < ln ε t ∧ ∀ μ_1 : m_M, μ_1 = st μ t t_1 t_2 → ∀ v5_1 : Int, v5_1 = w32 (v5 + 1) → G cd_X11_set Q X 32 [(0, (2, v0)), (3, (1, v3)), (5, (0, v5_1))] [] ε μ_1) : G cd_X11_set Q X 63 [(0, (2, v0)), (3, (1, v3)), (5, (0, v5))] [(0, t_2), (0, t_1), (2, t)] ε μ := by
  refine G_run (m_in [12, 28, 32, 63]) 14 _ _ _ _ ?_
  show m_ty [(0, (2, v0)), (3, (1, v3)), (5, (0, v5))] [(0, t_2), (0, t_1), (2, t)] ε μ → (kd ε t = 100) ∧ ((0 : Int) ≤ t_1 ∧ t_1 < ln ε t) ∧ ∀ μ_1 : m_M, μ_1 = st μ t t_1 t_2 → ∀ v5_1 : Int, v5_1 = w32 (v5 + 1) → G cd_X11_set Q X 32 [(0, (2, v0)), (3, (1, v3)), (5, (0, v5_1))] [] ε μ_1
  intro hty
  replace h := h hty.1 (hty.2.1 _ (List.mem_of_getElem? (i := 1) rfl)) (hty.2.1 _ (List.mem_of_getElem? (i := 2) rfl)) (hty.2.2 _ (List.mem_of_getElem? (i := 1) rfl)) (hty.2.2 _ (List.mem_of_getElem? (i := 0) rfl))
  obtain ⟨k1, h⟩ := h
  refine And.intro k1 ?_
  obtain ⟨k2, h⟩ := h
  obtain ⟨k3, h⟩ := h
  refine And.intro (And.intro k2 k3) ?_
  intro μ_1 e_μ_1
  replace h := h μ_1 e_μ_1
  intro v5_1 e_v5_1
  replace h := h v5_1 e_v5_1
  exact h
set_option maxRecDepth 20000 in
theorem g_X11_set_32 {Q X : m_Po} {v0 v3 v5 : Int} {ε : m_E} {μ : m_M} (h : TY ε μ → i64 v3 → i32 v5 → ((12 : Int) ≤ v5 → Q 0 ε μ) ∧ (v5 < (12 : Int) → kd ε v0 = 10 ∧ ∀ t : Int, t = (if (2 : Int) ≤ v5 then 0 else w32 (o_ushr64 v3 (w32 (32 * v5)))) → kd ε (fn ε v0 0) = 100 ∧ (0 : Int) ≤ v5 ∧ v5 < ln ε (fn ε v0 0) ∧ ∀ μ_1 : m_M, μ_1 = st μ (fn ε v0 0) v5 t → ∀ v5_1 : Int, v5_1 = w32 (v5 + 1) → G cd_X11_set Q X 32 [(0, (2, v0)), (3, (1, v3)), (5, (0, v5_1))] [] ε μ_1)) : G cd_X11_set Q X 32 [(0, (2, v0)), (3, (1, v3)), (5, (0, v5))] [] ε μ := by
  refine G_run (m_in [12, 28, 32, 63]) 14 _ _ _ _ ?_
  show m_ty [(0, (2, v0)), (3, (1, v3)), (5, (0, v5))] [] ε μ → ((12 : Int) ≤ v5 → (m_ty [] [] ε μ → Q 0 ε μ)) ∧ (v5 < (12 : Int) → (m_ty [(0, (2, v0)), (3, (1, v3)), (5, (0, v5))] [] ε μ → (kd ε v0 = 10) ∧ ((2 : Int) ≤ v5 → (m_ty [(0, (2, v0)), (3, (1, v3)), (5, (0, v5))] [(0, v5), (2, fn ε v0 0)] ε μ → G cd_X11_set Q X 63 [(0, (2, v0)), (3, (1, v3)), (5, (0, v5))] [(0, 0), (0, v5), (2, fn ε v0 0)] ε μ)) ∧ (v5 < (2 : Int) → (m_ty [(0, (2, v0)), (3, (1, v3)), (5, (0, v5))] [(0, v5), (2, fn ε v0 0)] ε μ → G cd_X11_set Q X 63 [(0, (2, v0)), (3, (1, v3)), (5, (0, v5))] [(0, w32 (o_ushr64 v3 (w32 (32 * v5)))), (0, v5), (2, fn ε v0 0)] ε μ))))
  intro hty
  replace h := h hty.1 (hty.2.1 _ (List.mem_of_getElem? (i := 1) rfl)) (hty.2.1 _ (List.mem_of_getElem? (i := 2) rfl))
  obtain ⟨ha, hb⟩ := h
  refine And.intro (fun c5 => ?_) (fun c5 => ?_)
  · replace h := ha c5
    clear ha hb
    intro _
    exact h
  · replace h := hb c5
    clear ha hb
    intro _
    obtain ⟨k1, h⟩ := h
    refine And.intro k1 ?_
    have hj := h
    refine And.intro (fun c1 => ?_) (fun c1 => ?_)
    · intro _
      exact g_X11_set_63 (fun _ _ _ _ _ => (hj _ (((if_pos c1).trans rfl)).symm))
    · intro _
      exact g_X11_set_63 (fun _ _ _ _ _ => (hj _ (((if_neg (Int.not_le.mpr c1)).trans rfl)).symm))
set_option maxRecDepth 20000 in
theorem g_X11_set_28 {Q X : m_Po} {v0 t : Int} {ε : m_E} {μ : m_M} (h : TY ε μ → i64 t → ∀ v3 : Int, v3 = t → ∀ v5 : Int, v5 = 0 → G cd_X11_set Q X 32 [(0, (2, v0)), (3, (1, v3)), (5, (0, v5))] [] ε μ) : G cd_X11_set Q X 28 [(0, (2, v0))] [(1, t)] ε μ := by
  refine G_run (m_in [12, 28, 32, 63]) 14 _ _ _ _ ?_
  show m_ty [(0, (2, v0))] [(1, t)] ε μ → ∀ v3 : Int, v3 = t → ∀ v5 : Int, v5 = 0 → G cd_X11_set Q X 32 [(0, (2, v0)), (3, (1, v3)), (5, (0, v5))] [] ε μ
  intro hty
  replace h := h hty.1 (hty.2.2 _ (List.mem_of_getElem? (i := 0) rfl))
  intro v3 e_v3
  replace h := h v3 e_v3
  intro v5 e_v5
  replace h := h v5 e_v5
  exact h
set_option maxRecDepth 20000 in
theorem g_X11_set_12 {Q X : m_Po} {v0 v1 t t_1 : Int} {ε : m_E} {μ : m_M} (h : TY ε μ → i64 v1 → i32 t_1 → kd ε t = 10 ∧ (t_1 = 0 ∨ t_1 = 1) ∧ ∀ μ_1 : m_M, μ_1 = st μ t 1 t_1 → kd ε v0 = 10 ∧ ∀ t_2 : Int, t_2 = (if (μ_1 v0 1) = 0 then v1 else w64 (-v1)) → ∀ v3 : Int, v3 = t_2 → ∀ v5 : Int, v5 = 0 → G cd_X11_set Q X 32 [(0, (2, v0)), (3, (1, v3)), (5, (0, v5))] [] ε μ_1) : G cd_X11_set Q X 12 [(0, (2, v0)), (1, (1, v1))] [(0, t_1), (2, t)] ε μ := by
  refine G_run (m_in [12, 28, 32, 63]) 14 _ _ _ _ ?_
  show m_ty [(0, (2, v0)), (1, (1, v1))] [(0, t_1), (2, t)] ε μ → (kd ε t = 10) ∧ (t_1 = 0 ∨ t_1 = 1) ∧ ∀ μ_1 : m_M, μ_1 = st μ t 1 t_1 → (kd ε v0 = 10) ∧ ((μ_1 v0 1) = 0 → (m_ty [(0, (2, v0)), (1, (1, v1))] [] ε μ_1 → G cd_X11_set Q X 28 [(0, (2, v0))] [(1, v1)] ε μ_1)) ∧ ((μ_1 v0 1) ≠ 0 → (m_ty [(0, (2, v0)), (1, (1, v1))] [] ε μ_1 → G cd_X11_set Q X 28 [(0, (2, v0))] [(1, w64 (-v1))] ε μ_1))
  intro hty
  replace h := h hty.1 (hty.2.1 _ (List.mem_of_getElem? (i := 1) rfl)) (hty.2.2 _ (List.mem_of_getElem? (i := 0) rfl))
  obtain ⟨k1, h⟩ := h
  refine And.intro k1 ?_
  obtain ⟨k2, h⟩ := h
  refine And.intro k2 ?_
  intro μ_1 e_μ_1
  replace h := h μ_1 e_μ_1
  obtain ⟨k3, h⟩ := h
  refine And.intro k3 ?_
  have hj := h
  refine And.intro (fun c3 => ?_) (fun c3 => ?_)
  · intro _
    exact g_X11_set_28 (fun _ _ => (hj _ (((if_pos c3).trans rfl)).symm))
  · intro _
    exact g_X11_set_28 (fun _ _ => (hj _ (((if_neg (c3)).trans rfl)).symm))
set_option maxRecDepth 20000 in
theorem g_X11_set_0 {Q X : m_Po} {v0 v1 : Int} {ε : m_E} {μ : m_M} (h : TY ε μ → i64 v1 → ∀ t : Int, t = (if (0 : Int) ≤ v1 then 0 else 1) → kd ε v0 = 10 ∧ (t = 0 ∨ t = 1) ∧ ∀ μ_1 : m_M, μ_1 = st μ v0 1 t → kd ε v0 = 10 ∧ ∀ t_1 : Int, t_1 = (if (μ_1 v0 1) = 0 then v1 else w64 (-v1)) → ∀ v3 : Int, v3 = t_1 → ∀ v5 : Int, v5 = 0 → G cd_X11_set Q X 32 [(0, (2, v0)), (3, (1, v3)), (5, (0, v5))] [] ε μ_1) : G cd_X11_set Q X 0 [(0, (2, v0)), (1, (1, v1))] [] ε μ := by
  refine G_run (m_in [12, 28, 32, 63]) 14 _ _ _ _ ?_
  show m_ty [(0, (2, v0)), (1, (1, v1))] [] ε μ → ((0 : Int) ≤ v1 → (m_ty [(0, (2, v0)), (1, (1, v1))] [(2, v0)] ε μ → G cd_X11_set Q X 12 [(0, (2, v0)), (1, (1, v1))] [(0, 0), (2, v0)] ε μ)) ∧ (v1 < (0 : Int) → (m_ty [(0, (2, v0)), (1, (1, v1))] [(2, v0)] ε μ → G cd_X11_set Q X 12 [(0, (2, v0)), (1, (1, v1))] [(0, 1), (2, v0)] ε μ))
  intro hty
  replace h := h hty.1 (hty.2.1 _ (List.mem_of_getElem? (i := 1) rfl))
  have hj := h
  refine And.intro (fun c0 => ?_) (fun c0 => ?_)
  · intro _
    exact g_X11_set_12 (fun _ _ _ => (hj _ (((if_pos c0).trans rfl)).symm))
  · intro _
    exact g_X11_set_12 (fun _ _ _ => (hj _ (((if_neg (Int.not_le.mpr c0)).trans rfl)).symm))
theorem e_X11_set {Q X : m_Po} {v0 v1 : Int} {ε : m_E} {μ : m_M} (h : TY ε μ → i64 v1 → ∀ t : Int, t = (if (0 : Int) ≤ v1 then 0 else 1) → kd ε v0 = 10 ∧ (t = 0 ∨ t = 1) ∧ ∀ μ_1 : m_M, μ_1 = st μ v0 1 t → kd ε v0 = 10 ∧ ∀ t_1 : Int, t_1 = (if (μ_1 v0 1) = 0 then v1 else w64 (-v1)) → ∀ v3 : Int, v3 = t_1 → ∀ v5 : Int, v5 = 0 → G cd_X11_set Q X 32 [(0, (2, v0)), (3, (1, v3)), (5, (0, v5))] [] ε μ_1) : o_X11_set [(2, v0), (1, v1)] ε μ Q X := And.intro rfl (g_X11_set_0 h)
/-! ArchYardModel$Big.take(LArchYardModel$Big;)V -/
set_option maxRecDepth 20000 in
theorem g_X11_take_2 {Q X : m_Po} {v0 v1 v2 : Int} {ε : m_E} {μ : m_M} (h : TY ε μ → i32 v2 → ((12 : Int) ≤ v2 → kd ε v1 = 10 ∧ kd ε v0 = 10 ∧ (μ v1 1 = 0 ∨ μ v1 1 = 1) ∧ ∀ μ_1 : m_M, μ_1 = st μ v0 1 (μ v1 1) → Q 0 ε μ_1) ∧ (v2 < (12 : Int) → kd ε v0 = 10 ∧ kd ε v1 = 10 ∧ kd ε (fn ε v1 0) = 100 ∧ (0 : Int) ≤ v2 ∧ v2 < ln ε (fn ε v1 0) ∧ kd ε (fn ε v0 0) = 100 ∧ v2 < ln ε (fn ε v0 0) ∧ ∀ μ_2 : m_M, μ_2 = st μ (fn ε v0 0) v2 (μ (fn ε v1 0) v2) → ∀ v2_1 : Int, v2_1 = w32 (v2 + 1) → G cd_X11_take Q X 2 [(0, (2, v0)), (1, (2, v1)), (2, (0, v2_1))] [] ε μ_2)) : G cd_X11_take Q X 2 [(0, (2, v0)), (1, (2, v1)), (2, (0, v2))] [] ε μ := by
  refine G_run (m_in [2]) 5 _ _ _ _ ?_
  show m_ty [(0, (2, v0)), (1, (2, v1)), (2, (0, v2))] [] ε μ → ((12 : Int) ≤ v2 → (m_ty [(0, (2, v0)), (1, (2, v1))] [] ε μ → (kd ε v1 = 10) ∧ (kd ε v0 = 10) ∧ (μ v1 1 = 0 ∨ μ v1 1 = 1) ∧ ∀ μ_1 : m_M, μ_1 = st μ v0 1 (μ v1 1) → Q 0 ε μ_1)) ∧ (v2 < (12 : Int) → (m_ty [(0, (2, v0)), (1, (2, v1)), (2, (0, v2))] [] ε μ → (kd ε v0 = 10) ∧ (kd ε v1 = 10) ∧ (kd ε (fn ε v1 0) = 100) ∧ ((0 : Int) ≤ v2 ∧ v2 < ln ε (fn ε v1 0)) ∧ (kd ε (fn ε v0 0) = 100) ∧ ((0 : Int) ≤ v2 ∧ v2 < ln ε (fn ε v0 0)) ∧ ∀ μ_2 : m_M, μ_2 = st μ (fn ε v0 0) v2 (μ (fn ε v1 0) v2) → ∀ v2_1 : Int, v2_1 = w32 (v2 + 1) → G cd_X11_take Q X 2 [(0, (2, v0)), (1, (2, v1)), (2, (0, v2_1))] [] ε μ_2))
  intro hty
  replace h := h hty.1 (hty.2.1 _ (List.mem_of_getElem? (i := 2) rfl))
  obtain ⟨ha, hb⟩ := h
  refine And.intro (fun c10 => ?_) (fun c10 => ?_)
  · replace h := ha c10
    clear ha hb
    intro _
    obtain ⟨k1, h⟩ := h
    refine And.intro k1 ?_
    obtain ⟨k2, h⟩ := h
    refine And.intro k2 ?_
    obtain ⟨k3, h⟩ := h
    refine And.intro k3 ?_
    intro μ_1 e_μ_1
    replace h := h μ_1 e_μ_1
    exact h
  · replace h := hb c10
    clear ha hb
    intro _
    obtain ⟨k4, h⟩ := h
    refine And.intro k4 ?_
    obtain ⟨k5, h⟩ := h
    refine And.intro k5 ?_
    obtain ⟨k6, h⟩ := h
    refine And.intro k6 ?_
    obtain ⟨k7, h⟩ := h
    obtain ⟨k8, h⟩ := h
    refine And.intro (And.intro k7 k8) ?_
    obtain ⟨k9, h⟩ := h
    refine And.intro k9 ?_
    obtain ⟨k10, h⟩ := h
    refine And.intro (And.intro k7 k10) ?_
    intro μ_2 e_μ_2
    replace h := h μ_2 e_μ_2
    intro v2_1 e_v2_1
    replace h := h v2_1 e_v2_1
    exact h
set_option maxRecDepth 20000 in
theorem g_X11_take_0 {Q X : m_Po} {v0 v1 : Int} {ε : m_E} {μ : m_M} (h : TY ε μ → ∀ v2 : Int, v2 = 0 → G cd_X11_take Q X 2 [(0, (2, v0)), (1, (2, v1)), (2, (0, v2))] [] ε μ) : G cd_X11_take Q X 0 [(0, (2, v0)), (1, (2, v1))] [] ε μ := by
  refine G_run (m_in [2]) 5 _ _ _ _ ?_
  show m_ty [(0, (2, v0)), (1, (2, v1))] [] ε μ → ∀ v2 : Int, v2 = 0 → G cd_X11_take Q X 2 [(0, (2, v0)), (1, (2, v1)), (2, (0, v2))] [] ε μ
  intro hty
  replace h := h hty.1 
  intro v2 e_v2
  replace h := h v2 e_v2
  exact h
theorem e_X11_take {Q X : m_Po} {v0 v1 : Int} {ε : m_E} {μ : m_M} (h : TY ε μ → ∀ v2 : Int, v2 = 0 → G cd_X11_take Q X 2 [(0, (2, v0)), (1, (2, v1)), (2, (0, v2))] [] ε μ) : o_X11_take [(2, v0), (2, v1)] ε μ Q X := And.intro rfl (g_X11_take_0 h)
/-! ArchYardModel$Big.isNothing()Z -/
set_option maxRecDepth 20000 in
theorem g_X11_isNothing_32 {Q X : m_Po} {v0 v1 v2 : Int} {ε : m_E} {μ : m_M} (h : TY ε μ → i32 v1 → i32 v2 → G cd_X11_isNothing Q X 4 [(0, (2, v0)), (1, (0, v1)), (2, (0, v2))] [] ε μ) : G cd_X11_isNothing Q X 32 [(0, (2, v0)), (1, (0, v1)), (2, (0, v2))] [] ε μ := by
  refine G_run (m_in [4, 28, 32]) 10 _ _ _ _ ?_
  show m_ty [(0, (2, v0)), (1, (0, v1)), (2, (0, v2))] [] ε μ → G cd_X11_isNothing Q X 4 [(0, (2, v0)), (1, (0, v1)), (2, (0, v2))] [] ε μ
  intro hty
  replace h := h hty.1 (hty.2.1 _ (List.mem_of_getElem? (i := 1) rfl)) (hty.2.1 _ (List.mem_of_getElem? (i := 2) rfl))
  exact h
set_option maxRecDepth 20000 in
theorem g_X11_isNothing_28 {Q X : m_Po} {v0 v2 t : Int} {ε : m_E} {μ : m_M} (h : TY ε μ → i32 v2 → i32 t → ∀ v1 : Int, v1 = t → ∀ v2_1 : Int, v2_1 = w32 (v2 + 1) → G cd_X11_isNothing Q X 4 [(0, (2, v0)), (1, (0, v1)), (2, (0, v2_1))] [] ε μ) : G cd_X11_isNothing Q X 28 [(0, (2, v0)), (2, (0, v2))] [(0, t)] ε μ := by
  refine G_run (m_in [4, 28, 32]) 10 _ _ _ _ ?_
  show m_ty [(0, (2, v0)), (2, (0, v2))] [(0, t)] ε μ → ∀ v1 : Int, v1 = t → ∀ v2_1 : Int, v2_1 = w32 (v2 + 1) → G cd_X11_isNothing Q X 32 [(0, (2, v0)), (1, (0, v1)), (2, (0, v2_1))] [] ε μ
  intro hty
  replace h := h hty.1 (hty.2.1 _ (List.mem_of_getElem? (i := 1) rfl)) (hty.2.2 _ (List.mem_of_getElem? (i := 0) rfl))
  intro v1 e_v1
  replace h := h v1 e_v1
  intro v2_1 e_v2_1
  replace h := h v2_1 e_v2_1
  exact g_X11_isNothing_32 (fun _ _ _ => h)
set_option maxRecDepth 20000 in
theorem g_X11_isNothing_4 {Q X : m_Po} {v0 v1 v2 : Int} {ε : m_E} {μ : m_M} (h : TY ε μ → i32 v1 → i32 v2 → ((12 : Int) ≤ v2 → (v1 = 0 ∨ v1 = 1) ∧ Q v1 ε μ) ∧ (v2 < (12 : Int) → ((v1 ≠ 0 → kd ε v0 = 10 ∧ kd ε (fn ε v0 0) = 100 ∧ (0 : Int) ≤ v2 ∧ v2 < ln ε (fn ε v0 0))) ∧ ∀ t : Int, t = (if v1 = 0 then 0 else if (μ (fn ε v0 0) v2) = 0 then 1 else 0) → ∀ v1_1 : Int, v1_1 = t → ∀ v2_1 : Int, v2_1 = w32 (v2 + 1) → G cd_X11_isNothing Q X 4 [(0, (2, v0)), (1, (0, v1_1)), (2, (0, v2_1))] [] ε μ)) : G cd_X11_isNothing Q X 4 [(0, (2, v0)), (1, (0, v1)), (2, (0, v2))] [] ε μ := by
  refine G_run (m_in [4, 28, 32]) 10 _ _ _ _ ?_
  show m_ty [(0, (2, v0)), (1, (0, v1)), (2, (0, v2))] [] ε μ → ((12 : Int) ≤ v2 → (m_ty [(1, (0, v1))] [] ε μ → (v1 = 0 ∨ v1 = 1) ∧ Q v1 ε μ)) ∧ (v2 < (12 : Int) → (m_ty [(0, (2, v0)), (1, (0, v1)), (2, (0, v2))] [] ε μ → (v1 = 0 → (m_ty [(0, (2, v0)), (2, (0, v2))] [] ε μ → G cd_X11_isNothing Q X 28 [(0, (2, v0)), (2, (0, v2))] [(0, 0)] ε μ)) ∧ (v1 ≠ 0 → (m_ty [(0, (2, v0)), (2, (0, v2))] [] ε μ → (kd ε v0 = 10) ∧ (kd ε (fn ε v0 0) = 100) ∧ ((0 : Int) ≤ v2 ∧ v2 < ln ε (fn ε v0 0)) ∧ ((μ (fn ε v0 0) v2) ≠ 0 → (m_ty [(0, (2, v0)), (2, (0, v2))] [] ε μ → G cd_X11_isNothing Q X 28 [(0, (2, v0)), (2, (0, v2))] [(0, 0)] ε μ)) ∧ ((μ (fn ε v0 0) v2) = 0 → (m_ty [(0, (2, v0)), (2, (0, v2))] [] ε μ → G cd_X11_isNothing Q X 28 [(0, (2, v0)), (2, (0, v2))] [(0, 1)] ε μ))))))
  intro hty
  replace h := h hty.1 (hty.2.1 _ (List.mem_of_getElem? (i := 1) rfl)) (hty.2.1 _ (List.mem_of_getElem? (i := 2) rfl))
  obtain ⟨ha, hb⟩ := h
  refine And.intro (fun c7 => ?_) (fun c7 => ?_)
  · replace h := ha c7
    clear ha hb
    intro _
    obtain ⟨k1, h⟩ := h
    refine And.intro k1 ?_
    exact h
  · replace h := hb c7
    clear ha hb
    intro _
    obtain ⟨hc, hj⟩ := h
    refine And.intro (fun c1 => ?_) (fun c1 => ?_)
    · intro _
      exact g_X11_isNothing_28 (fun _ _ _ => (hj _ (((if_pos c1).trans rfl)).symm))
    · replace hc := hc c1
      intro _
      obtain ⟨k3, k4, k5, k6⟩ := hc
      refine And.intro k3 ?_
      refine And.intro k4 ?_
      refine And.intro (And.intro k5 k6) ?_
      refine And.intro (fun c6 => ?_) (fun c6 => ?_)
      · intro _
        exact g_X11_isNothing_28 (fun _ _ _ => (hj _ (((if_neg (c1)).trans ((if_neg (c6)).trans rfl))).symm))
      · intro _
        exact g_X11_isNothing_28 (fun _ _ _ => (hj _ (((if_neg (c1)).trans ((if_pos c6).trans rfl))).symm))
set_option maxRecDepth 20000 in
theorem g_X11_isNothing_0 {Q X : m_Po} {v0 : Int} {ε : m_E} {μ : m_M} (h : TY ε μ → ∀ v1 : Int, v1 = 1 → ∀ v2 : Int, v2 = 0 → G cd_X11_isNothing Q X 4 [(0, (2, v0)), (1, (0, v1)), (2, (0, v2))] [] ε μ) : G cd_X11_isNothing Q X 0 [(0, (2, v0))] [] ε μ := by
  refine G_run (m_in [4, 28, 32]) 10 _ _ _ _ ?_
  show m_ty [(0, (2, v0))] [] ε μ → ∀ v1 : Int, v1 = 1 → ∀ v2 : Int, v2 = 0 → G cd_X11_isNothing Q X 4 [(0, (2, v0)), (1, (0, v1)), (2, (0, v2))] [] ε μ
  intro hty
  replace h := h hty.1 
  intro v1 e_v1
  replace h := h v1 e_v1
  intro v2 e_v2
  replace h := h v2 e_v2
  exact h
theorem e_X11_isNothing {Q X : m_Po} {v0 : Int} {ε : m_E} {μ : m_M} (h : TY ε μ → ∀ v1 : Int, v1 = 1 → ∀ v2 : Int, v2 = 0 → G cd_X11_isNothing Q X 4 [(0, (2, v0)), (1, (0, v1)), (2, (0, v2))] [] ε μ) : o_X11_isNothing [(2, v0)] ε μ Q X := And.intro rfl (g_X11_isNothing_0 h)
/-! ArchYardModel$Big.low(I)J -/
set_option maxRecDepth 20000 in
theorem g_X11_low_0 {Q X : m_Po} {v0 : Int} {ε : m_E} {μ : m_M} (h : TY ε μ → i32 v0 → Q (o_and64 v0 4294967295) ε μ) : G cd_X11_low Q X 0 [(0, (0, v0))] [] ε μ := by
  refine G_run (m_in []) 2 _ _ _ _ ?_
  show m_ty [(0, (0, v0))] [] ε μ → Q (o_and64 v0 4294967295) ε μ
  intro hty
  replace h := h hty.1 (hty.2.1 _ (List.mem_of_getElem? (i := 0) rfl))
  exact h
theorem e_X11_low {Q X : m_Po} {v0 : Int} {ε : m_E} {μ : m_M} (h : TY ε μ → i32 v0 → Q (o_and64 v0 4294967295) ε μ) : o_X11_low [(0, v0)] ε μ Q X := And.intro rfl (g_X11_low_0 h)
/-! ArchYardModel$Big.sizes(LArchYardModel$Big;)I -/
set_option maxRecDepth 20000 in
theorem g_X11_sizes_81 {Q X : m_Po} {t : Int} {ε : m_E} {μ : m_M} (h : TY ε μ → i32 t → Q t ε μ) : G cd_X11_sizes Q X 81 [] [(0, t)] ε μ := by
  refine G_run (m_in [3, 28, 37, 46, 63, 72, 81]) 15 _ _ _ _ ?_
  show m_ty [] [(0, t)] ε μ → Q t ε μ
  intro hty
  replace h := h hty.1 (hty.2.2 _ (List.mem_of_getElem? (i := 0) rfl))
  exact h
set_option maxRecDepth 20000 in
theorem g_X11_sizes_72 {Q X : m_Po} {t t_1 : Int} {ε : m_E} {μ : m_M} (h : TY ε μ → i64 t → i64 t_1 → ∀ t_2 : Int, t_2 = (if t ≤ t_1 then 0 else 1) → Q t_2 ε μ) : G cd_X11_sizes Q X 72 [] [(1, t_1), (1, t)] ε μ := by
  refine G_run (m_in [3, 28, 37, 46, 63, 72, 81]) 15 _ _ _ _ ?_
  show m_ty [] [(1, t_1), (1, t)] ε μ → (t ≤ t_1 → (m_ty [] [] ε μ → G cd_X11_sizes Q X 81 [] [(0, 0)] ε μ)) ∧ (t_1 < t → (m_ty [] [] ε μ → G cd_X11_sizes Q X 81 [] [(0, 1)] ε μ))
  intro hty
  replace h := h hty.1 (hty.2.2 _ (List.mem_of_getElem? (i := 1) rfl)) (hty.2.2 _ (List.mem_of_getElem? (i := 0) rfl))
  have hj := h
  refine And.intro (fun c0 => ?_) (fun c0 => ?_)
  · intro _
    exact g_X11_sizes_81 (fun _ _ => (hj _ (((if_pos c0).trans rfl)).symm))
  · intro _
    exact g_X11_sizes_81 (fun _ _ => (hj _ (((if_neg (Int.not_le.mpr c0)).trans rfl)).symm))
set_option maxRecDepth 20000 in
theorem g_X11_sizes_63 {Q X : m_Po} {v1 v2 t : Int} {ε : m_E} {μ : m_M} (h : TY ε μ → i32 v2 → i64 t → kd ε v1 = 10 ∧ kd ε (fn ε v1 0) = 100 ∧ (0 : Int) ≤ v2 ∧ v2 < ln ε (fn ε v1 0) ∧ o_X11_low [(0, μ (fn ε v1 0) v2)] ε μ (fun z ε_1 μ_1 => G cd_X11_sizes Q X 72 [] [(1, z), (1, t)] ε_1 μ_1) m_F) : G cd_X11_sizes Q X 63 [(1, (2, v1)), (2, (0, v2))] [(1, t)] ε μ := by
  refine G_run (m_in [3, 28, 37, 46, 63, 72, 81]) 15 _ _ _ _ ?_
  show m_ty [(1, (2, v1)), (2, (0, v2))] [(1, t)] ε μ → (kd ε v1 = 10) ∧ (kd ε (fn ε v1 0) = 100) ∧ ((0 : Int) ≤ v2 ∧ v2 < ln ε (fn ε v1 0)) ∧ o_X11_low [(0, μ (fn ε v1 0) v2)] ε μ (fun z ε_1 μ_1 => G cd_X11_sizes Q X 72 [] [(1, z), (1, t)] ε_1 μ_1) m_F
  intro hty
  replace h := h hty.1 (hty.2.1 _ (List.mem_of_getElem? (i := 1) rfl)) (hty.2.2 _ (List.mem_of_getElem? (i := 0) rfl))
  obtain ⟨k1, h⟩ := h
  refine And.intro k1 ?_
  obtain ⟨k2, h⟩ := h
  refine And.intro k2 ?_
  obtain ⟨k3, h⟩ := h
  obtain ⟨k4, h⟩ := h
  refine And.intro (And.intro k3 k4) ?_
  exact h
set_option maxRecDepth 20000 in
theorem g_X11_sizes_46 {Q X : m_Po} {v0 v1 v2 t t_1 : Int} {ε : m_E} {μ : m_M} (h : TY ε μ → i32 v2 → i64 t → i64 t_1 → (t_1 ≤ t → kd ε v0 = 10 ∧ kd ε (fn ε v0 0) = 100 ∧ (0 : Int) ≤ v2 ∧ v2 < ln ε (fn ε v0 0) ∧ o_X11_low [(0, μ (fn ε v0 0) v2)] ε μ (fun z ε_1 μ_1 => G cd_X11_sizes Q X 63 [(1, (2, v1)), (2, (0, v2))] [(1, z)] ε_1 μ_1) m_F) ∧ (t < t_1 → Q (-1) ε μ)) : G cd_X11_sizes Q X 46 [(0, (2, v0)), (1, (2, v1)), (2, (0, v2))] [(1, t_1), (1, t)] ε μ := by
  refine G_run (m_in [3, 28, 37, 46, 63, 72, 81]) 15 _ _ _ _ ?_
  show m_ty [(0, (2, v0)), (1, (2, v1)), (2, (0, v2))] [(1, t_1), (1, t)] ε μ → (t_1 ≤ t → (m_ty [(0, (2, v0)), (1, (2, v1)), (2, (0, v2))] [] ε μ → (kd ε v0 = 10) ∧ (kd ε (fn ε v0 0) = 100) ∧ ((0 : Int) ≤ v2 ∧ v2 < ln ε (fn ε v0 0)) ∧ o_X11_low [(0, μ (fn ε v0 0) v2)] ε μ (fun z ε_1 μ_1 => G cd_X11_sizes Q X 63 [(1, (2, v1)), (2, (0, v2))] [(1, z)] ε_1 μ_1) m_F)) ∧ (t < t_1 → (m_ty [] [] ε μ → G cd_X11_sizes Q X 81 [] [(0, (-1))] ε μ))
  intro hty
  replace h := h hty.1 (hty.2.1 _ (List.mem_of_getElem? (i := 2) rfl)) (hty.2.2 _ (List.mem_of_getElem? (i := 1) rfl)) (hty.2.2 _ (List.mem_of_getElem? (i := 0) rfl))
  obtain ⟨ha, hb⟩ := h
  refine And.intro (fun c4 => ?_) (fun c4 => ?_)
  · replace h := ha c4
    clear ha hb
    intro _
    obtain ⟨k1, h⟩ := h
    refine And.intro k1 ?_
    obtain ⟨k2, h⟩ := h
    refine And.intro k2 ?_
    obtain ⟨k3, h⟩ := h
    obtain ⟨k4, h⟩ := h
    refine And.intro (And.intro k3 k4) ?_
    exact h
  · replace h := hb c4
    clear ha hb
    intro _
    exact g_X11_sizes_81 (fun _ _ => h)
set_option maxRecDepth 20000 in
theorem g_X11_sizes_37 {Q X : m_Po} {v0 v1 v2 t : Int} {ε : m_E} {μ : m_M} (h : TY ε μ → i32 v2 → i64 t → kd ε v1 = 10 ∧ kd ε (fn ε v1 0) = 100 ∧ (0 : Int) ≤ v2 ∧ v2 < ln ε (fn ε v1 0) ∧ o_X11_low [(0, μ (fn ε v1 0) v2)] ε μ (fun z ε_1 μ_1 => G cd_X11_sizes Q X 46 [(0, (2, v0)), (1, (2, v1)), (2, (0, v2))] [(1, z), (1, t)] ε_1 μ_1) m_F) : G cd_X11_sizes Q X 37 [(0, (2, v0)), (1, (2, v1)), (2, (0, v2))] [(1, t)] ε μ := by
  refine G_run (m_in [3, 28, 37, 46, 63, 72, 81]) 15 _ _ _ _ ?_
  show m_ty [(0, (2, v0)), (1, (2, v1)), (2, (0, v2))] [(1, t)] ε μ → (kd ε v1 = 10) ∧ (kd ε (fn ε v1 0) = 100) ∧ ((0 : Int) ≤ v2 ∧ v2 < ln ε (fn ε v1 0)) ∧ o_X11_low [(0, μ (fn ε v1 0) v2)] ε μ (fun z ε_1 μ_1 => G cd_X11_sizes Q X 46 [(0, (2, v0)), (1, (2, v1)), (2, (0, v2))] [(1, z), (1, t)] ε_1 μ_1) m_F
  intro hty
  replace h := h hty.1 (hty.2.1 _ (List.mem_of_getElem? (i := 2) rfl)) (hty.2.2 _ (List.mem_of_getElem? (i := 0) rfl))
  obtain ⟨k1, h⟩ := h
  refine And.intro k1 ?_
  obtain ⟨k2, h⟩ := h
  refine And.intro k2 ?_
  obtain ⟨k3, h⟩ := h
  obtain ⟨k4, h⟩ := h
  refine And.intro (And.intro k3 k4) ?_
  exact h
set_option maxRecDepth 20000 in
theorem g_X11_sizes_28 {Q X : m_Po} {v0 v1 v2 : Int} {ε : m_E} {μ : m_M} (h : TY ε μ → i32 v2 → kd ε v0 = 10 ∧ kd ε (fn ε v0 0) = 100 ∧ (0 : Int) ≤ v2 ∧ v2 < ln ε (fn ε v0 0) ∧ o_X11_low [(0, μ (fn ε v0 0) v2)] ε μ (fun z ε_1 μ_1 => G cd_X11_sizes Q X 37 [(0, (2, v0)), (1, (2, v1)), (2, (0, v2))] [(1, z)] ε_1 μ_1) m_F) : G cd_X11_sizes Q X 28 [(0, (2, v0)), (1, (2, v1)), (2, (0, v2))] [] ε μ := by
  refine G_run (m_in [3, 28, 37, 46, 63, 72, 81]) 15 _ _ _ _ ?_
  show m_ty [(0, (2, v0)), (1, (2, v1)), (2, (0, v2))] [] ε μ → (kd ε v0 = 10) ∧ (kd ε (fn ε v0 0) = 100) ∧ ((0 : Int) ≤ v2 ∧ v2 < ln ε (fn ε v0 0)) ∧ o_X11_low [(0, μ (fn ε v0 0) v2)] ε μ (fun z ε_1 μ_1 => G cd_X11_sizes Q X 37 [(0, (2, v0)), (1, (2, v1)), (2, (0, v2))] [(1, z)] ε_1 μ_1) m_F
  intro hty
  replace h := h hty.1 (hty.2.1 _ (List.mem_of_getElem? (i := 2) rfl))
  obtain ⟨k1, h⟩ := h
  refine And.intro k1 ?_
  obtain ⟨k2, h⟩ := h
  refine And.intro k2 ?_
  obtain ⟨k3, h⟩ := h
  obtain ⟨k4, h⟩ := h
  refine And.intro (And.intro k3 k4) ?_
  exact h
set_option maxRecDepth 20000 in
theorem g_X11_sizes_3 {Q X : m_Po} {v0 v1 v2 : Int} {ε : m_E} {μ : m_M} (h : TY ε μ → i32 v2 → (v2 ≤ 0 → G cd_X11_sizes Q X 28 [(0, (2, v0)), (1, (2, v1)), (2, (0, v2))] [] ε μ) ∧ (0 < v2 → kd ε v0 = 10 ∧ kd ε (fn ε v0 0) = 100 ∧ (0 : Int) ≤ v2 ∧ v2 < ln ε (fn ε v0 0) ∧ kd ε v1 = 10 ∧ kd ε (fn ε v1 0) = 100 ∧ v2 < ln ε (fn ε v1 0) ∧ ((μ (fn ε v0 0) v2) ≠ (μ (fn ε v1 0) v2) → G cd_X11_sizes Q X 28 [(0, (2, v0)), (1, (2, v1)), (2, (0, v2))] [] ε μ) ∧ ((μ (fn ε v0 0) v2) = (μ (fn ε v1 0) v2) → ∀ v2_1 : Int, v2_1 = w32 (v2 + (-1)) → G cd_X11_sizes Q X 3 [(0, (2, v0)), (1, (2, v1)), (2, (0, v2_1))] [] ε μ))) : G cd_X11_sizes Q X 3 [(0, (2, v0)), (1, (2, v1)), (2, (0, v2))] [] ε μ := by
  refine G_run (m_in [3, 28, 37, 46, 63, 72, 81]) 15 _ _ _ _ ?_
  show m_ty [(0, (2, v0)), (1, (2, v1)), (2, (0, v2))] [] ε μ → (v2 ≤ 0 → G cd_X11_sizes Q X 28 [(0, (2, v0)), (1, (2, v1)), (2, (0, v2))] [] ε μ) ∧ (0 < v2 → (m_ty [(0, (2, v0)), (1, (2, v1)), (2, (0, v2))] [] ε μ → (kd ε v0 = 10) ∧ (kd ε (fn ε v0 0) = 100) ∧ ((0 : Int) ≤ v2 ∧ v2 < ln ε (fn ε v0 0)) ∧ (kd ε v1 = 10) ∧ (kd ε (fn ε v1 0) = 100) ∧ ((0 : Int) ≤ v2 ∧ v2 < ln ε (fn ε v1 0)) ∧ ((μ (fn ε v0 0) v2) ≠ (μ (fn ε v1 0) v2) → G cd_X11_sizes Q X 28 [(0, (2, v0)), (1, (2, v1)), (2, (0, v2))] [] ε μ) ∧ ((μ (fn ε v0 0) v2) = (μ (fn ε v1 0) v2) → (m_ty [(0, (2, v0)), (1, (2, v1)), (2, (0, v2))] [] ε μ → ∀ v2_1 : Int, v2_1 = w32 (v2 + (-1)) → G cd_X11_sizes Q X 3 [(0, (2, v0)), (1, (2, v1)), (2, (0, v2_1))] [] ε μ))))
  intro hty
  replace h := h hty.1 (hty.2.1 _ (List.mem_of_getElem? (i := 2) rfl))
  obtain ⟨ha, hb⟩ := h
  refine And.intro (fun c8 => ?_) (fun c8 => ?_)
  · replace h := ha c8
    clear ha hb
    exact h
  · replace h := hb c8
    clear ha hb
    intro _
    obtain ⟨k1, h⟩ := h
    refine And.intro k1 ?_
    obtain ⟨k2, h⟩ := h
    refine And.intro k2 ?_
    obtain ⟨k3, h⟩ := h
    obtain ⟨k4, h⟩ := h
    refine And.intro (And.intro k3 k4) ?_
    obtain ⟨k5, h⟩ := h
    refine And.intro k5 ?_
    obtain ⟨k6, h⟩ := h
    refine And.intro k6 ?_
    obtain ⟨k7, h⟩ := h
    refine And.intro (And.intro k3 k7) ?_
    obtain ⟨ha, hb⟩ := h
    refine And.intro (fun c7 => ?_) (fun c7 => ?_)
    · replace h := ha c7
      clear ha hb
      exact h
    · replace h := hb c7
      clear ha hb
      intro _
      intro v2_1 e_v2_1
      replace h := h v2_1 e_v2_1
      exact h
set_option maxRecDepth 20000 in
theorem g_X11_sizes_0 {Q X : m_Po} {v0 v1 : Int} {ε : m_E} {μ : m_M} (h : TY ε μ → ∀ v2 : Int, v2 = 11 → G cd_X11_sizes Q X 3 [(0, (2, v0)), (1, (2, v1)), (2, (0, v2))] [] ε μ) : G cd_X11_sizes Q X 0 [(0, (2, v0)), (1, (2, v1))] [] ε μ := by
  refine G_run (m_in [3, 28, 37, 46, 63, 72, 81]) 15 _ _ _ _ ?_
  show m_ty [(0, (2, v0)), (1, (2, v1))] [] ε μ → ∀ v2 : Int, v2 = 11 → G cd_X11_sizes Q X 3 [(0, (2, v0)), (1, (2, v1)), (2, (0, v2))] [] ε μ
  intro hty
  replace h := h hty.1 
  intro v2 e_v2
  replace h := h v2 e_v2
  exact h
theorem e_X11_sizes {Q X : m_Po} {v0 v1 : Int} {ε : m_E} {μ : m_M} (h : TY ε μ → ∀ v2 : Int, v2 = 11 → G cd_X11_sizes Q X 3 [(0, (2, v0)), (1, (2, v1)), (2, (0, v2))] [] ε μ) : o_X11_sizes [(2, v0), (2, v1)] ε μ Q X := And.intro rfl (g_X11_sizes_0 h)
/-! ArchYardModel$Big.compare(LArchYardModel$Big;)I -/
set_option maxRecDepth 20000 in
theorem g_X11_compare_73 {Q X : m_Po} {t : Int} {ε : m_E} {μ : m_M} (h : TY ε μ → i32 t → Q t ε μ) : G cd_X11_compare Q X 73 [] [(0, t)] ε μ := by
  refine G_run (m_in [11, 18, 19, 31, 38, 39, 54, 64, 73]) 21 _ _ _ _ ?_
  show m_ty [] [(0, t)] ε μ → Q t ε μ
  intro hty
  replace h := h hty.1 (hty.2.2 _ (List.mem_of_getElem? (i := 0) rfl))
  exact h
set_option maxRecDepth 20000 in
theorem g_X11_compare_64 {Q X : m_Po} {t : Int} {ε : m_E} {μ : m_M} (h : TY ε μ → i32 t → G cd_X11_compare Q X 73 [] [(0, w32 (-t))] ε μ) : G cd_X11_compare Q X 64 [] [(0, t)] ε μ := by
  refine G_run (m_in [11, 18, 19, 31, 38, 39, 54, 64, 73]) 21 _ _ _ _ ?_
  show m_ty [] [(0, t)] ε μ → G cd_X11_compare Q X 73 [] [(0, w32 (-t))] ε μ
  intro hty
  replace h := h hty.1 (hty.2.2 _ (List.mem_of_getElem? (i := 0) rfl))
  exact h
set_option maxRecDepth 20000 in
theorem g_X11_compare_54 {Q X : m_Po} {t : Int} {ε : m_E} {μ : m_M} (h : TY ε μ → i32 t → Q t ε μ) : G cd_X11_compare Q X 54 [] [(0, t)] ε μ := by
  refine G_run (m_in [11, 18, 19, 31, 38, 39, 54, 64, 73]) 21 _ _ _ _ ?_
  show m_ty [] [(0, t)] ε μ → Q t ε μ
  intro hty
  replace h := h hty.1 (hty.2.2 _ (List.mem_of_getElem? (i := 0) rfl))
  exact h
set_option maxRecDepth 20000 in
theorem g_X11_compare_39 {Q X : m_Po} {v0 v1 v2 t : Int} {ε : m_E} {μ : m_M} (h : TY ε μ → i32 v2 → i32 t → ∀ v3 : Int, v3 = t → (v2 = v3 → (v2 = 0 → kd ε v0 = 10 ∧ o_X11_sizes [(2, v0), (2, v1)] ε μ (fun z ε_1 μ_1 => G cd_X11_compare Q X 73 [] [(0, z)] ε_1 μ_1) m_F) ∧ (v2 ≠ 0 → kd ε v0 = 10 ∧ o_X11_sizes [(2, v0), (2, v1)] ε μ (fun z_1 ε_2 μ_2 => G cd_X11_compare Q X 64 [] [(0, z_1)] ε_2 μ_2) m_F)) ∧ (v2 ≠ v3 → ∀ t_1 : Int, t_1 = (if v2 = 0 then 1 else (-1)) → Q t_1 ε μ)) : G cd_X11_compare Q X 39 [(0, (2, v0)), (1, (2, v1)), (2, (0, v2))] [(0, t)] ε μ := by
  refine G_run (m_in [11, 18, 19, 31, 38, 39, 54, 64, 73]) 21 _ _ _ _ ?_
  show m_ty [(0, (2, v0)), (1, (2, v1)), (2, (0, v2))] [(0, t)] ε μ → ∀ v3 : Int, v3 = t → (v2 = v3 → (m_ty [(0, (2, v0)), (1, (2, v1)), (2, (0, v2))] [] ε μ → (v2 = 0 → (m_ty [(0, (2, v0)), (1, (2, v1))] [] ε μ → (kd ε v0 = 10) ∧ o_X11_sizes [(2, v0), (2, v1)] ε μ (fun z ε_1 μ_1 => G cd_X11_compare Q X 73 [] [(0, z)] ε_1 μ_1) m_F)) ∧ (v2 ≠ 0 → (m_ty [(0, (2, v0)), (1, (2, v1))] [] ε μ → (kd ε v0 = 10) ∧ o_X11_sizes [(2, v0), (2, v1)] ε μ (fun z_1 ε_2 μ_2 => G cd_X11_compare Q X 64 [] [(0, z_1)] ε_2 μ_2) m_F)))) ∧ (v2 ≠ v3 → (m_ty [(2, (0, v2))] [] ε μ → (v2 = 0 → (m_ty [] [] ε μ → G cd_X11_compare Q X 54 [] [(0, 1)] ε μ)) ∧ (v2 ≠ 0 → (m_ty [] [] ε μ → G cd_X11_compare Q X 54 [] [(0, (-1))] ε μ))))
  intro hty
  replace h := h hty.1 (hty.2.1 _ (List.mem_of_getElem? (i := 2) rfl)) (hty.2.2 _ (List.mem_of_getElem? (i := 0) rfl))
  intro v3 e_v3
  replace h := h v3 e_v3
  obtain ⟨ha, hb⟩ := h
  refine And.intro (fun c4 => ?_) (fun c4 => ?_)
  · replace h := ha c4
    clear ha hb
    intro _
    obtain ⟨ha, hb⟩ := h
    refine And.intro (fun c2 => ?_) (fun c2 => ?_)
    · replace h := ha c2
      clear ha hb
      intro _
      obtain ⟨k1, h⟩ := h
      refine And.intro k1 ?_
      exact h
    · replace h := hb c2
      clear ha hb
      intro _
      obtain ⟨k2, h⟩ := h
      refine And.intro k2 ?_
      exact h
  · replace h := hb c4
    clear ha hb
    intro _
    have hj := h
    refine And.intro (fun c3 => ?_) (fun c3 => ?_)
    · intro _
      exact g_X11_compare_54 (fun _ _ => (hj _ (((if_pos c3).trans rfl)).symm))
    · intro _
      exact g_X11_compare_54 (fun _ _ => (hj _ (((if_neg (c3)).trans rfl)).symm))
set_option maxRecDepth 20000 in
theorem g_X11_compare_38 {Q X : m_Po} {v0 v1 v2 : Int} {ε : m_E} {μ : m_M} (h : TY ε μ → i32 v2 → G cd_X11_compare Q X 39 [(0, (2, v0)), (1, (2, v1)), (2, (0, v2))] [(0, 0)] ε μ) : G cd_X11_compare Q X 38 [(0, (2, v0)), (1, (2, v1)), (2, (0, v2))] [] ε μ := by
  refine G_run (m_in [11, 18, 19, 31, 38, 39, 54, 64, 73]) 21 _ _ _ _ ?_
  show m_ty [(0, (2, v0)), (1, (2, v1)), (2, (0, v2))] [] ε μ → G cd_X11_compare Q X 39 [(0, (2, v0)), (1, (2, v1)), (2, (0, v2))] [(0, 0)] ε μ
  intro hty
  replace h := h hty.1 (hty.2.1 _ (List.mem_of_getElem? (i := 2) rfl))
  exact h
set_option maxRecDepth 20000 in
theorem g_X11_compare_31 {Q X : m_Po} {v0 v1 v2 t : Int} {ε : m_E} {μ : m_M} (h : TY ε μ → i32 v2 → i32 t → (t ≠ 0 → G cd_X11_compare Q X 38 [(0, (2, v0)), (1, (2, v1)), (2, (0, v2))] [] ε μ) ∧ (t = 0 → G cd_X11_compare Q X 39 [(0, (2, v0)), (1, (2, v1)), (2, (0, v2))] [(0, 1)] ε μ)) : G cd_X11_compare Q X 31 [(0, (2, v0)), (1, (2, v1)), (2, (0, v2))] [(0, t)] ε μ := by
  refine G_run (m_in [11, 18, 19, 31, 38, 39, 54, 64, 73]) 21 _ _ _ _ ?_
  show m_ty [(0, (2, v0)), (1, (2, v1)), (2, (0, v2))] [(0, t)] ε μ → (t ≠ 0 → G cd_X11_compare Q X 38 [(0, (2, v0)), (1, (2, v1)), (2, (0, v2))] [] ε μ) ∧ (t = 0 → (m_ty [(0, (2, v0)), (1, (2, v1)), (2, (0, v2))] [] ε μ → G cd_X11_compare Q X 39 [(0, (2, v0)), (1, (2, v1)), (2, (0, v2))] [(0, 1)] ε μ))
  intro hty
  replace h := h hty.1 (hty.2.1 _ (List.mem_of_getElem? (i := 2) rfl)) (hty.2.2 _ (List.mem_of_getElem? (i := 0) rfl))
  obtain ⟨ha, hb⟩ := h
  refine And.intro (fun c0 => ?_) (fun c0 => ?_)
  · replace h := ha c0
    clear ha hb
    exact h
  · replace h := hb c0
    clear ha hb
    intro _
    exact h
set_option maxRecDepth 20000 in
theorem g_X11_compare_19 {Q X : m_Po} {v0 v1 t : Int} {ε : m_E} {μ : m_M} (h : TY ε μ → i32 t → ∀ v2 : Int, v2 = t → kd ε v1 = 10 ∧ ((μ v1 1) = 0 → G cd_X11_compare Q X 38 [(0, (2, v0)), (1, (2, v1)), (2, (0, v2))] [] ε μ) ∧ ((μ v1 1) ≠ 0 → o_X11_isNothing [(2, v1)] ε μ (fun z ε_1 μ_1 => G cd_X11_compare Q X 31 [(0, (2, v0)), (1, (2, v1)), (2, (0, v2))] [(0, z)] ε_1 μ_1) m_F)) : G cd_X11_compare Q X 19 [(0, (2, v0)), (1, (2, v1))] [(0, t)] ε μ := by
  refine G_run (m_in [11, 18, 19, 31, 38, 39, 54, 64, 73]) 21 _ _ _ _ ?_
  show m_ty [(0, (2, v0)), (1, (2, v1))] [(0, t)] ε μ → ∀ v2 : Int, v2 = t → (kd ε v1 = 10) ∧ ((μ v1 1) = 0 → G cd_X11_compare Q X 38 [(0, (2, v0)), (1, (2, v1)), (2, (0, v2))] [] ε μ) ∧ ((μ v1 1) ≠ 0 → (m_ty [(0, (2, v0)), (1, (2, v1)), (2, (0, v2))] [] ε μ → (kd ε v1 = 10) ∧ o_X11_isNothing [(2, v1)] ε μ (fun z ε_1 μ_1 => G cd_X11_compare Q X 31 [(0, (2, v0)), (1, (2, v1)), (2, (0, v2))] [(0, z)] ε_1 μ_1) m_F))
  intro hty
  replace h := h hty.1 (hty.2.2 _ (List.mem_of_getElem? (i := 0) rfl))
  intro v2 e_v2
  replace h := h v2 e_v2
  obtain ⟨k1, h⟩ := h
  refine And.intro k1 ?_
  obtain ⟨ha, hb⟩ := h
  refine And.intro (fun c1 => ?_) (fun c1 => ?_)
  · replace h := ha c1
    clear ha hb
    exact h
  · replace h := hb c1
    clear ha hb
    intro _
    refine And.intro k1 ?_
    exact h
set_option maxRecDepth 20000 in
theorem g_X11_compare_18 {Q X : m_Po} {v0 v1 : Int} {ε : m_E} {μ : m_M} (h : TY ε μ → G cd_X11_compare Q X 19 [(0, (2, v0)), (1, (2, v1))] [(0, 0)] ε μ) : G cd_X11_compare Q X 18 [(0, (2, v0)), (1, (2, v1))] [] ε μ := by
  refine G_run (m_in [11, 18, 19, 31, 38, 39, 54, 64, 73]) 21 _ _ _ _ ?_
  show m_ty [(0, (2, v0)), (1, (2, v1))] [] ε μ → G cd_X11_compare Q X 19 [(0, (2, v0)), (1, (2, v1))] [(0, 0)] ε μ
  intro hty
  replace h := h hty.1 
  exact h
set_option maxRecDepth 20000 in
theorem g_X11_compare_11 {Q X : m_Po} {v0 v1 t : Int} {ε : m_E} {μ : m_M} (h : TY ε μ → i32 t → (t ≠ 0 → G cd_X11_compare Q X 18 [(0, (2, v0)), (1, (2, v1))] [] ε μ) ∧ (t = 0 → G cd_X11_compare Q X 19 [(0, (2, v0)), (1, (2, v1))] [(0, 1)] ε μ)) : G cd_X11_compare Q X 11 [(0, (2, v0)), (1, (2, v1))] [(0, t)] ε μ := by
  refine G_run (m_in [11, 18, 19, 31, 38, 39, 54, 64, 73]) 21 _ _ _ _ ?_
  show m_ty [(0, (2, v0)), (1, (2, v1))] [(0, t)] ε μ → (t ≠ 0 → G cd_X11_compare Q X 18 [(0, (2, v0)), (1, (2, v1))] [] ε μ) ∧ (t = 0 → (m_ty [(0, (2, v0)), (1, (2, v1))] [] ε μ → G cd_X11_compare Q X 19 [(0, (2, v0)), (1, (2, v1))] [(0, 1)] ε μ))
  intro hty
  replace h := h hty.1 (hty.2.2 _ (List.mem_of_getElem? (i := 0) rfl))
  obtain ⟨ha, hb⟩ := h
  refine And.intro (fun c0 => ?_) (fun c0 => ?_)
  · replace h := ha c0
    clear ha hb
    exact h
  · replace h := hb c0
    clear ha hb
    intro _
    exact h
set_option maxRecDepth 20000 in
theorem g_X11_compare_0 {Q X : m_Po} {v0 v1 : Int} {ε : m_E} {μ : m_M} (h : TY ε μ → kd ε v0 = 10 ∧ ((μ v0 1) = 0 → G cd_X11_compare Q X 18 [(0, (2, v0)), (1, (2, v1))] [] ε μ) ∧ ((μ v0 1) ≠ 0 → o_X11_isNothing [(2, v0)] ε μ (fun z ε_1 μ_1 => G cd_X11_compare Q X 11 [(0, (2, v0)), (1, (2, v1))] [(0, z)] ε_1 μ_1) m_F)) : G cd_X11_compare Q X 0 [(0, (2, v0)), (1, (2, v1))] [] ε μ := by
  refine G_run (m_in [11, 18, 19, 31, 38, 39, 54, 64, 73]) 21 _ _ _ _ ?_
  show m_ty [(0, (2, v0)), (1, (2, v1))] [] ε μ → (kd ε v0 = 10) ∧ ((μ v0 1) = 0 → G cd_X11_compare Q X 18 [(0, (2, v0)), (1, (2, v1))] [] ε μ) ∧ ((μ v0 1) ≠ 0 → (m_ty [(0, (2, v0)), (1, (2, v1))] [] ε μ → (kd ε v0 = 10) ∧ o_X11_isNothing [(2, v0)] ε μ (fun z ε_1 μ_1 => G cd_X11_compare Q X 11 [(0, (2, v0)), (1, (2, v1))] [(0, z)] ε_1 μ_1) m_F))
  intro hty
  replace h := h hty.1 
  obtain ⟨k1, h⟩ := h
  refine And.intro k1 ?_
  obtain ⟨ha, hb⟩ := h
  refine And.intro (fun c1 => ?_) (fun c1 => ?_)
  · replace h := ha c1
    clear ha hb
    exact h
  · replace h := hb c1
    clear ha hb
    intro _
    refine And.intro k1 ?_
    exact h
theorem e_X11_compare {Q X : m_Po} {v0 v1 : Int} {ε : m_E} {μ : m_M} (h : TY ε μ → kd ε v0 = 10 ∧ ((μ v0 1) = 0 → G cd_X11_compare Q X 18 [(0, (2, v0)), (1, (2, v1))] [] ε μ) ∧ ((μ v0 1) ≠ 0 → o_X11_isNothing [(2, v0)] ε μ (fun z ε_1 μ_1 => G cd_X11_compare Q X 11 [(0, (2, v0)), (1, (2, v1))] [(0, z)] ε_1 μ_1) m_F)) : o_X11_compare [(2, v0), (2, v1)] ε μ Q X := And.intro rfl (g_X11_compare_0 h)
/-! ArchYardModel$Big.sum(LArchYardModel$Big;LArchYardModel$Big;Z)V -/
set_option maxRecDepth 20000 in
theorem g_X11_sum_216 {Q X : m_Po} {t t_1 : Int} {ε : m_E} {μ : m_M} (h : TY ε μ → i32 t_1 → kd ε t = 10 ∧ (t_1 = 0 ∨ t_1 = 1) ∧ ∀ μ_1 : m_M, μ_1 = st μ t 1 t_1 → Q 0 ε μ_1) : G cd_X11_sum Q X 216 [] [(0, t_1), (2, t)] ε μ := by
  refine G_run (m_in [13, 21, 34, 53, 63, 84, 102, 110, 115, 118, 142, 152, 166, 176, 177, 197, 216]) 33 _ _ _ _ ?_
  show m_ty [] [(0, t_1), (2, t)] ε μ → (kd ε t = 10) ∧ (t_1 = 0 ∨ t_1 = 1) ∧ ∀ μ_1 : m_M, μ_1 = st μ t 1 t_1 → Q 0 ε μ_1
  intro hty
  replace h := h hty.1 (hty.2.2 _ (List.mem_of_getElem? (i := 0) rfl))
  obtain ⟨k1, h⟩ := h
  refine And.intro k1 ?_
  obtain ⟨k2, h⟩ := h
  refine And.intro k2 ?_
  intro μ_1 e_μ_1
  replace h := h μ_1 e_μ_1
  exact h
set_option maxRecDepth 20000 in
theorem g_X11_sum_197 {Q X : m_Po} {v0 v1 v2 v4 v5 v6 v7 v9 : Int} {ε : m_E} {μ : m_M} (h : TY ε μ → i32 v4 → i32 v5 → i32 v6 → i64 v7 → i32 v9 → ∀ v9_1 : Int, v9_1 = w32 (v9 + 1) → G cd_X11_sum Q X 118 [(0, (2, v0)), (1, (2, v1)), (2, (2, v2)), (4, (0, v4)), (5, (0, v5)), (6, (0, v6)), (7, (1, v7)), (9, (0, v9_1))] [] ε μ) : G cd_X11_sum Q X 197 [(0, (2, v0)), (1, (2, v1)), (2, (2, v2)), (4, (0, v4)), (5, (0, v5)), (6, (0, v6)), (7, (1, v7)), (9, (0, v9))] [] ε μ := by
  refine G_run (m_in [13, 21, 34, 53, 63, 84, 102, 110, 115, 118, 142, 152, 166, 176, 177, 197, 216]) 33 _ _ _ _ ?_
  show m_ty [(0, (2, v0)), (1, (2, v1)), (2, (2, v2)), (4, (0, v4)), (5, (0, v5)), (6, (0, v6)), (7, (1, v7)), (9, (0, v9))] [] ε μ → ∀ v9_1 : Int, v9_1 = w32 (v9 + 1) → G cd_X11_sum Q X 118 [(0, (2, v0)), (1, (2, v1)), (2, (2, v2)), (4, (0, v4)), (5, (0, v5)), (6, (0, v6)), (7, (1, v7)), (9, (0, v9_1))] [] ε μ
  intro hty
  replace h := h hty.1 (hty.2.1 _ (List.mem_of_getElem? (i := 3) rfl)) (hty.2.1 _ (List.mem_of_getElem? (i := 4) rfl)) (hty.2.1 _ (List.mem_of_getElem? (i := 5) rfl)) (hty.2.1 _ (List.mem_of_getElem? (i := 6) rfl)) (hty.2.1 _ (List.mem_of_getElem? (i := 7) rfl))
  intro v9_1 e_v9_1
  replace h := h v9_1 e_v9_1
  exact h
set_option maxRecDepth 20000 in
theorem g_X11_sum_177 {Q X : m_Po} {v0 v1 v2 v4 v5 v6 v9 t t_1 : Int} {ε : m_E} {μ : m_M} (h : TY ε μ → i32 v4 → i32 v5 → i32 v6 → i32 v9 → i64 t → i64 t_1 → ∀ v7 : Int, v7 = w64 (t + t_1) → kd ε v0 = 10 ∧ kd ε (fn ε v0 0) = 100 ∧ (0 : Int) ≤ v9 ∧ v9 < ln ε (fn ε v0 0) ∧ ∀ μ_1 : m_M, μ_1 = st μ (fn ε v0 0) v9 (w32 v7) → ∀ v7_1 : Int, v7_1 = o_shr64 v7 32 → ∀ v9_1 : Int, v9_1 = w32 (v9 + 1) → G cd_X11_sum Q X 118 [(0, (2, v0)), (1, (2, v1)), (2, (2, v2)), (4, (0, v4)), (5, (0, v5)), (6, (0, v6)), (7, (1, v7_1)), (9, (0, v9_1))] [] ε μ_1) : G cd_X11_sum Q X 177 [(0, (2, v0)), (1, (2, v1)), (2, (2, v2)), (4, (0, v4)), (5, (0, v5)), (6, (0, v6)), (9, (0, v9))] [(1, t_1), (1, t)] ε μ := by
  refine G_run (m_in [13, 21, 34, 53, 63, 84, 102, 110, 115, 118, 142, 152, 166, 176, 177, 197, 216]) 33 _ _ _ _ ?_
  show m_ty [(0, (2, v0)), (1, (2, v1)), (2, (2, v2)), (4, (0, v4)), (5, (0, v5)), (6, (0, v6)), (9, (0, v9))] [(1, t_1), (1, t)] ε μ → ∀ v7 : Int, v7 = w64 (t + t_1) → (kd ε v0 = 10) ∧ (kd ε (fn ε v0 0) = 100) ∧ ((0 : Int) ≤ v9 ∧ v9 < ln ε (fn ε v0 0)) ∧ ∀ μ_1 : m_M, μ_1 = st μ (fn ε v0 0) v9 (w32 v7) → ∀ v7_1 : Int, v7_1 = o_shr64 v7 32 → G cd_X11_sum Q X 197 [(0, (2, v0)), (1, (2, v1)), (2, (2, v2)), (4, (0, v4)), (5, (0, v5)), (6, (0, v6)), (7, (1, v7_1)), (9, (0, v9))] [] ε μ_1
  intro hty
  replace h := h hty.1 (hty.2.1 _ (List.mem_of_getElem? (i := 3) rfl)) (hty.2.1 _ (List.mem_of_getElem? (i := 4) rfl)) (hty.2.1 _ (List.mem_of_getElem? (i := 5) rfl)) (hty.2.1 _ (List.mem_of_getElem? (i := 6) rfl)) (hty.2.2 _ (List.mem_of_getElem? (i := 1) rfl)) (hty.2.2 _ (List.mem_of_getElem? (i := 0) rfl))
  intro v7 e_v7
  replace h := h v7 e_v7
  obtain ⟨k1, h⟩ := h
  refine And.intro k1 ?_
  obtain ⟨k2, h⟩ := h
  refine And.intro k2 ?_
  obtain ⟨k3, h⟩ := h
  obtain ⟨k4, h⟩ := h
  refine And.intro (And.intro k3 k4) ?_
  intro μ_1 e_μ_1
  replace h := h μ_1 e_μ_1
  intro v7_1 e_v7_1
  replace h := h v7_1 e_v7_1
  exact g_X11_sum_197 (fun _ _ _ _ _ _ => h)
set_option maxRecDepth 20000 in
theorem g_X11_sum_176 {Q X : m_Po} {v0 v1 v2 v4 v5 v6 v9 t t_1 t_2 : Int} {ε : m_E} {μ : m_M} (h : TY ε μ → i32 v4 → i32 v5 → i32 v6 → i32 v9 → i64 t → i64 t_1 → i64 t_2 → G cd_X11_sum Q X 177 [(0, (2, v0)), (1, (2, v1)), (2, (2, v2)), (4, (0, v4)), (5, (0, v5)), (6, (0, v6)), (9, (0, v9))] [(1, w64 (t_1 - t_2)), (1, t)] ε μ) : G cd_X11_sum Q X 176 [(0, (2, v0)), (1, (2, v1)), (2, (2, v2)), (4, (0, v4)), (5, (0, v5)), (6, (0, v6)), (9, (0, v9))] [(1, t_2), (1, t_1), (1, t)] ε μ := by
  refine G_run (m_in [13, 21, 34, 53, 63, 84, 102, 110, 115, 118, 142, 152, 166, 176, 177, 197, 216]) 33 _ _ _ _ ?_
  show m_ty [(0, (2, v0)), (1, (2, v1)), (2, (2, v2)), (4, (0, v4)), (5, (0, v5)), (6, (0, v6)), (9, (0, v9))] [(1, t_2), (1, t_1), (1, t)] ε μ → G cd_X11_sum Q X 177 [(0, (2, v0)), (1, (2, v1)), (2, (2, v2)), (4, (0, v4)), (5, (0, v5)), (6, (0, v6)), (9, (0, v9))] [(1, w64 (t_1 - t_2)), (1, t)] ε μ
  intro hty
  replace h := h hty.1 (hty.2.1 _ (List.mem_of_getElem? (i := 3) rfl)) (hty.2.1 _ (List.mem_of_getElem? (i := 4) rfl)) (hty.2.1 _ (List.mem_of_getElem? (i := 5) rfl)) (hty.2.1 _ (List.mem_of_getElem? (i := 6) rfl)) (hty.2.2 _ (List.mem_of_getElem? (i := 2) rfl)) (hty.2.2 _ (List.mem_of_getElem? (i := 1) rfl)) (hty.2.2 _ (List.mem_of_getElem? (i := 0) rfl))
  exact h
set_option maxRecDepth 20000 in
theorem g_X11_sum_166 {Q X : m_Po} {v0 v1 v2 v4 v5 v6 v9 t t_1 : Int} {ε : m_E} {μ : m_M} (h : TY ε μ → i32 v4 → i32 v5 → i32 v6 → i32 v9 → i64 t → i64 t_1 → kd ε v2 = 10 ∧ kd ε (fn ε v2 0) = 100 ∧ (0 : Int) ≤ v9 ∧ v9 < ln ε (fn ε v2 0) ∧ o_X11_low [(0, μ (fn ε v2 0) v9)] ε μ (fun z ε_1 μ_1 => G cd_X11_sum Q X 176 [(0, (2, v0)), (1, (2, v1)), (2, (2, v2)), (4, (0, v4)), (5, (0, v5)), (6, (0, v6)), (9, (0, v9))] [(1, z), (1, t_1), (1, t)] ε_1 μ_1) m_F) : G cd_X11_sum Q X 166 [(0, (2, v0)), (1, (2, v1)), (2, (2, v2)), (4, (0, v4)), (5, (0, v5)), (6, (0, v6)), (9, (0, v9))] [(1, t_1), (1, t)] ε μ := by
  refine G_run (m_in [13, 21, 34, 53, 63, 84, 102, 110, 115, 118, 142, 152, 166, 176, 177, 197, 216]) 33 _ _ _ _ ?_
  show m_ty [(0, (2, v0)), (1, (2, v1)), (2, (2, v2)), (4, (0, v4)), (5, (0, v5)), (6, (0, v6)), (9, (0, v9))] [(1, t_1), (1, t)] ε μ → (kd ε v2 = 10) ∧ (kd ε (fn ε v2 0) = 100) ∧ ((0 : Int) ≤ v9 ∧ v9 < ln ε (fn ε v2 0)) ∧ o_X11_low [(0, μ (fn ε v2 0) v9)] ε μ (fun z ε_1 μ_1 => G cd_X11_sum Q X 176 [(0, (2, v0)), (1, (2, v1)), (2, (2, v2)), (4, (0, v4)), (5, (0, v5)), (6, (0, v6)), (9, (0, v9))] [(1, z), (1, t_1), (1, t)] ε_1 μ_1) m_F
  intro hty
  replace h := h hty.1 (hty.2.1 _ (List.mem_of_getElem? (i := 3) rfl)) (hty.2.1 _ (List.mem_of_getElem? (i := 4) rfl)) (hty.2.1 _ (List.mem_of_getElem? (i := 5) rfl)) (hty.2.1 _ (List.mem_of_getElem? (i := 6) rfl)) (hty.2.2 _ (List.mem_of_getElem? (i := 1) rfl)) (hty.2.2 _ (List.mem_of_getElem? (i := 0) rfl))
  obtain ⟨k1, h⟩ := h
  refine And.intro k1 ?_
  obtain ⟨k2, h⟩ := h
  refine And.intro k2 ?_
  obtain ⟨k3, h⟩ := h
  obtain ⟨k4, h⟩ := h
  refine And.intro (And.intro k3 k4) ?_
  exact h
set_option maxRecDepth 20000 in
theorem g_X11_sum_152 {Q X : m_Po} {v0 v1 v2 v4 v5 v6 v9 t t_1 t_2 : Int} {ε : m_E} {μ : m_M} (h : TY ε μ → i32 v4 → i32 v5 → i32 v6 → i32 v9 → i64 t → i64 t_1 → i64 t_2 → G cd_X11_sum Q X 177 [(0, (2, v0)), (1, (2, v1)), (2, (2, v2)), (4, (0, v4)), (5, (0, v5)), (6, (0, v6)), (9, (0, v9))] [(1, w64 (t_1 - t_2)), (1, t)] ε μ) : G cd_X11_sum Q X 152 [(0, (2, v0)), (1, (2, v1)), (2, (2, v2)), (4, (0, v4)), (5, (0, v5)), (6, (0, v6)), (9, (0, v9))] [(1, t_2), (1, t_1), (1, t)] ε μ := by
  refine G_run (m_in [13, 21, 34, 53, 63, 84, 102, 110, 115, 118, 142, 152, 166, 176, 177, 197, 216]) 33 _ _ _ _ ?_
  show m_ty [(0, (2, v0)), (1, (2, v1)), (2, (2, v2)), (4, (0, v4)), (5, (0, v5)), (6, (0, v6)), (9, (0, v9))] [(1, t_2), (1, t_1), (1, t)] ε μ → G cd_X11_sum Q X 177 [(0, (2, v0)), (1, (2, v1)), (2, (2, v2)), (4, (0, v4)), (5, (0, v5)), (6, (0, v6)), (9, (0, v9))] [(1, w64 (t_1 - t_2)), (1, t)] ε μ
  intro hty
  replace h := h hty.1 (hty.2.1 _ (List.mem_of_getElem? (i := 3) rfl)) (hty.2.1 _ (List.mem_of_getElem? (i := 4) rfl)) (hty.2.1 _ (List.mem_of_getElem? (i := 5) rfl)) (hty.2.1 _ (List.mem_of_getElem? (i := 6) rfl)) (hty.2.2 _ (List.mem_of_getElem? (i := 2) rfl)) (hty.2.2 _ (List.mem_of_getElem? (i := 1) rfl)) (hty.2.2 _ (List.mem_of_getElem? (i := 0) rfl))
  exact h
set_option maxRecDepth 20000 in
theorem g_X11_sum_142 {Q X : m_Po} {v0 v1 v2 v4 v5 v6 v9 t t_1 : Int} {ε : m_E} {μ : m_M} (h : TY ε μ → i32 v4 → i32 v5 → i32 v6 → i32 v9 → i64 t → i64 t_1 → kd ε v1 = 10 ∧ kd ε (fn ε v1 0) = 100 ∧ (0 : Int) ≤ v9 ∧ v9 < ln ε (fn ε v1 0) ∧ o_X11_low [(0, μ (fn ε v1 0) v9)] ε μ (fun z ε_1 μ_1 => G cd_X11_sum Q X 152 [(0, (2, v0)), (1, (2, v1)), (2, (2, v2)), (4, (0, v4)), (5, (0, v5)), (6, (0, v6)), (9, (0, v9))] [(1, z), (1, t_1), (1, t)] ε_1 μ_1) m_F) : G cd_X11_sum Q X 142 [(0, (2, v0)), (1, (2, v1)), (2, (2, v2)), (4, (0, v4)), (5, (0, v5)), (6, (0, v6)), (9, (0, v9))] [(1, t_1), (1, t)] ε μ := by
  refine G_run (m_in [13, 21, 34, 53, 63, 84, 102, 110, 115, 118, 142, 152, 166, 176, 177, 197, 216]) 33 _ _ _ _ ?_
  show m_ty [(0, (2, v0)), (1, (2, v1)), (2, (2, v2)), (4, (0, v4)), (5, (0, v5)), (6, (0, v6)), (9, (0, v9))] [(1, t_1), (1, t)] ε μ → (kd ε v1 = 10) ∧ (kd ε (fn ε v1 0) = 100) ∧ ((0 : Int) ≤ v9 ∧ v9 < ln ε (fn ε v1 0)) ∧ o_X11_low [(0, μ (fn ε v1 0) v9)] ε μ (fun z ε_1 μ_1 => G cd_X11_sum Q X 152 [(0, (2, v0)), (1, (2, v1)), (2, (2, v2)), (4, (0, v4)), (5, (0, v5)), (6, (0, v6)), (9, (0, v9))] [(1, z), (1, t_1), (1, t)] ε_1 μ_1) m_F
  intro hty
  replace h := h hty.1 (hty.2.1 _ (List.mem_of_getElem? (i := 3) rfl)) (hty.2.1 _ (List.mem_of_getElem? (i := 4) rfl)) (hty.2.1 _ (List.mem_of_getElem? (i := 5) rfl)) (hty.2.1 _ (List.mem_of_getElem? (i := 6) rfl)) (hty.2.2 _ (List.mem_of_getElem? (i := 1) rfl)) (hty.2.2 _ (List.mem_of_getElem? (i := 0) rfl))
  obtain ⟨k1, h⟩ := h
  refine And.intro k1 ?_
  obtain ⟨k2, h⟩ := h
  refine And.intro k2 ?_
  obtain ⟨k3, h⟩ := h
  obtain ⟨k4, h⟩ := h
  refine And.intro (And.intro k3 k4) ?_
  exact h
set_option maxRecDepth 20000 in
theorem g_X11_sum_118 {Q X : m_Po} {v0 v1 v2 v4 v5 v6 v7 v9 : Int} {ε : m_E} {μ : m_M} (h : TY ε μ → i32 v4 → i32 v5 → i32 v6 → i64 v7 → i32 v9 → ((12 : Int) ≤ v9 → ∀ t : Int, t = (if v6 = 0 then v5 else v4) → kd ε v0 = 10 ∧ (t = 0 ∨ t = 1) ∧ ∀ μ_1 : m_M, μ_1 = st μ v0 1 t → Q 0 ε μ_1) ∧ (v9 < (12 : Int) → (v6 = 0 → kd ε v1 = 10 ∧ kd ε (fn ε v1 0) = 100 ∧ (0 : Int) ≤ v9 ∧ v9 < ln ε (fn ε v1 0) ∧ o_X11_low [(0, μ (fn ε v1 0) v9)] ε μ (fun z ε_1 μ_2 => G cd_X11_sum Q X 166 [(0, (2, v0)), (1, (2, v1)), (2, (2, v2)), (4, (0, v4)), (5, (0, v5)), (6, (0, v6)), (9, (0, v9))] [(1, z), (1, v7)] ε_1 μ_2) m_F) ∧ (v6 ≠ 0 → kd ε v2 = 10 ∧ kd ε (fn ε v2 0) = 100 ∧ (0 : Int) ≤ v9 ∧ v9 < ln ε (fn ε v2 0) ∧ o_X11_low [(0, μ (fn ε v2 0) v9)] ε μ (fun z_1 ε_2 μ_3 => G cd_X11_sum Q X 142 [(0, (2, v0)), (1, (2, v1)), (2, (2, v2)), (4, (0, v4)), (5, (0, v5)), (6, (0, v6)), (9, (0, v9))] [(1, z_1), (1, v7)] ε_2 μ_3) m_F))) : G cd_X11_sum Q X 118 [(0, (2, v0)), (1, (2, v1)), (2, (2, v2)), (4, (0, v4)), (5, (0, v5)), (6, (0, v6)), (7, (1, v7)), (9, (0, v9))] [] ε μ := by
  refine G_run (m_in [13, 21, 34, 53, 63, 84, 102, 110, 115, 118, 142, 152, 166, 176, 177, 197, 216]) 33 _ _ _ _ ?_
  show m_ty [(0, (2, v0)), (1, (2, v1)), (2, (2, v2)), (4, (0, v4)), (5, (0, v5)), (6, (0, v6)), (7, (1, v7)), (9, (0, v9))] [] ε μ → ((12 : Int) ≤ v9 → (m_ty [(0, (2, v0)), (4, (0, v4)), (5, (0, v5)), (6, (0, v6))] [] ε μ → (v6 = 0 → (m_ty [(5, (0, v5))] [(2, v0)] ε μ → G cd_X11_sum Q X 216 [] [(0, v5), (2, v0)] ε μ)) ∧ (v6 ≠ 0 → (m_ty [(4, (0, v4))] [(2, v0)] ε μ → G cd_X11_sum Q X 216 [] [(0, v4), (2, v0)] ε μ)))) ∧ (v9 < (12 : Int) → (m_ty [(0, (2, v0)), (1, (2, v1)), (2, (2, v2)), (4, (0, v4)), (5, (0, v5)), (6, (0, v6)), (7, (1, v7)), (9, (0, v9))] [] ε μ → (v6 = 0 → (m_ty [(0, (2, v0)), (1, (2, v1)), (2, (2, v2)), (4, (0, v4)), (5, (0, v5)), (6, (0, v6)), (9, (0, v9))] [(1, v7)] ε μ → (kd ε v1 = 10) ∧ (kd ε (fn ε v1 0) = 100) ∧ ((0 : Int) ≤ v9 ∧ v9 < ln ε (fn ε v1 0)) ∧ o_X11_low [(0, μ (fn ε v1 0) v9)] ε μ (fun z ε_1 μ_2 => G cd_X11_sum Q X 166 [(0, (2, v0)), (1, (2, v1)), (2, (2, v2)), (4, (0, v4)), (5, (0, v5)), (6, (0, v6)), (9, (0, v9))] [(1, z), (1, v7)] ε_1 μ_2) m_F)) ∧ (v6 ≠ 0 → (m_ty [(0, (2, v0)), (1, (2, v1)), (2, (2, v2)), (4, (0, v4)), (5, (0, v5)), (6, (0, v6)), (9, (0, v9))] [(1, v7)] ε μ → (kd ε v2 = 10) ∧ (kd ε (fn ε v2 0) = 100) ∧ ((0 : Int) ≤ v9 ∧ v9 < ln ε (fn ε v2 0)) ∧ o_X11_low [(0, μ (fn ε v2 0) v9)] ε μ (fun z_1 ε_2 μ_3 => G cd_X11_sum Q X 142 [(0, (2, v0)), (1, (2, v1)), (2, (2, v2)), (4, (0, v4)), (5, (0, v5)), (6, (0, v6)), (9, (0, v9))] [(1, z_1), (1, v7)] ε_2 μ_3) m_F))))
  intro hty
  replace h := h hty.1 (hty.2.1 _ (List.mem_of_getElem? (i := 3) rfl)) (hty.2.1 _ (List.mem_of_getElem? (i := 4) rfl)) (hty.2.1 _ (List.mem_of_getElem? (i := 5) rfl)) (hty.2.1 _ (List.mem_of_getElem? (i := 6) rfl)) (hty.2.1 _ (List.mem_of_getElem? (i := 7) rfl))
  obtain ⟨ha, hb⟩ := h
  refine And.intro (fun c12 => ?_) (fun c12 => ?_)
  · replace h := ha c12
    clear ha hb
    intro _
    have hj := h
    refine And.intro (fun c0 => ?_) (fun c0 => ?_)
    · intro _
      exact g_X11_sum_216 (fun _ _ => (hj _ (((if_pos c0).trans rfl)).symm))
    · intro _
      exact g_X11_sum_216 (fun _ _ => (hj _ (((if_neg (c0)).trans rfl)).symm))
  · replace h := hb c12
    clear ha hb
    intro _
    obtain ⟨ha, hb⟩ := h
    refine And.intro (fun c11 => ?_) (fun c11 => ?_)
    · replace h := ha c11
      clear ha hb
      intro _
      obtain ⟨k4, h⟩ := h
      refine And.intro k4 ?_
      obtain ⟨k5, h⟩ := h
      refine And.intro k5 ?_
      obtain ⟨k6, h⟩ := h
      obtain ⟨k7, h⟩ := h
      refine And.intro (And.intro k6 k7) ?_
      exact h
    · replace h := hb c11
      clear ha hb
      intro _
      obtain ⟨k8, h⟩ := h
      refine And.intro k8 ?_
      obtain ⟨k9, h⟩ := h
      refine And.intro k9 ?_
      obtain ⟨k10, h⟩ := h
      obtain ⟨k11, h⟩ := h
      refine And.intro (And.intro k10 k11) ?_
      exact h
set_option maxRecDepth 20000 in
theorem g_X11_sum_115 {Q X : m_Po} {v0 v1 v2 v4 v5 v6 v7 : Int} {ε : m_E} {μ : m_M} (h : TY ε μ → i32 v4 → i32 v5 → i32 v6 → i64 v7 → ∀ v9 : Int, v9 = 0 → G cd_X11_sum Q X 118 [(0, (2, v0)), (1, (2, v1)), (2, (2, v2)), (4, (0, v4)), (5, (0, v5)), (6, (0, v6)), (7, (1, v7)), (9, (0, v9))] [] ε μ) : G cd_X11_sum Q X 115 [(0, (2, v0)), (1, (2, v1)), (2, (2, v2)), (4, (0, v4)), (5, (0, v5)), (6, (0, v6)), (7, (1, v7))] [] ε μ := by
  refine G_run (m_in [13, 21, 34, 53, 63, 84, 102, 110, 115, 118, 142, 152, 166, 176, 177, 197, 216]) 33 _ _ _ _ ?_
  show m_ty [(0, (2, v0)), (1, (2, v1)), (2, (2, v2)), (4, (0, v4)), (5, (0, v5)), (6, (0, v6)), (7, (1, v7))] [] ε μ → ∀ v9 : Int, v9 = 0 → G cd_X11_sum Q X 118 [(0, (2, v0)), (1, (2, v1)), (2, (2, v2)), (4, (0, v4)), (5, (0, v5)), (6, (0, v6)), (7, (1, v7)), (9, (0, v9))] [] ε μ
  intro hty
  replace h := h hty.1 (hty.2.1 _ (List.mem_of_getElem? (i := 3) rfl)) (hty.2.1 _ (List.mem_of_getElem? (i := 4) rfl)) (hty.2.1 _ (List.mem_of_getElem? (i := 5) rfl)) (hty.2.1 _ (List.mem_of_getElem? (i := 6) rfl))
  intro v9 e_v9
  replace h := h v9 e_v9
  exact h
set_option maxRecDepth 20000 in
theorem g_X11_sum_110 {Q X : m_Po} {v0 v1 v2 v4 v5 t : Int} {ε : m_E} {μ : m_M} (h : TY ε μ → i32 v4 → i32 v5 → i32 t → ∀ v6 : Int, v6 = t → ∀ v7 : Int, v7 = 0 → ∀ v9 : Int, v9 = 0 → G cd_X11_sum Q X 118 [(0, (2, v0)), (1, (2, v1)), (2, (2, v2)), (4, (0, v4)), (5, (0, v5)), (6, (0, v6)), (7, (1, v7)), (9, (0, v9))] [] ε μ) : G cd_X11_sum Q X 110 [(0, (2, v0)), (1, (2, v1)), (2, (2, v2)), (4, (0, v4)), (5, (0, v5))] [(0, t)] ε μ := by
  refine G_run (m_in [13, 21, 34, 53, 63, 84, 102, 110, 115, 118, 142, 152, 166, 176, 177, 197, 216]) 33 _ _ _ _ ?_
  show m_ty [(0, (2, v0)), (1, (2, v1)), (2, (2, v2)), (4, (0, v4)), (5, (0, v5))] [(0, t)] ε μ → ∀ v6 : Int, v6 = t → ∀ v7 : Int, v7 = 0 → G cd_X11_sum Q X 115 [(0, (2, v0)), (1, (2, v1)), (2, (2, v2)), (4, (0, v4)), (5, (0, v5)), (6, (0, v6)), (7, (1, v7))] [] ε μ
  intro hty
  replace h := h hty.1 (hty.2.1 _ (List.mem_of_getElem? (i := 3) rfl)) (hty.2.1 _ (List.mem_of_getElem? (i := 4) rfl)) (hty.2.2 _ (List.mem_of_getElem? (i := 0) rfl))
  intro v6 e_v6
  replace h := h v6 e_v6
  intro v7 e_v7
  replace h := h v7 e_v7
  exact g_X11_sum_115 (fun _ _ _ _ _ => h)
set_option maxRecDepth 20000 in
theorem g_X11_sum_102 {Q X : m_Po} {v0 v1 v2 v4 v5 t : Int} {ε : m_E} {μ : m_M} (h : TY ε μ → i32 v4 → i32 v5 → i32 t → ∀ t_1 : Int, t_1 = (if 0 ≤ t then 0 else 1) → ∀ v6 : Int, v6 = t_1 → ∀ v7 : Int, v7 = 0 → ∀ v9 : Int, v9 = 0 → G cd_X11_sum Q X 118 [(0, (2, v0)), (1, (2, v1)), (2, (2, v2)), (4, (0, v4)), (5, (0, v5)), (6, (0, v6)), (7, (1, v7)), (9, (0, v9))] [] ε μ) : G cd_X11_sum Q X 102 [(0, (2, v0)), (1, (2, v1)), (2, (2, v2)), (4, (0, v4)), (5, (0, v5))] [(0, t)] ε μ := by
  refine G_run (m_in [13, 21, 34, 53, 63, 84, 102, 110, 115, 118, 142, 152, 166, 176, 177, 197, 216]) 33 _ _ _ _ ?_
  show m_ty [(0, (2, v0)), (1, (2, v1)), (2, (2, v2)), (4, (0, v4)), (5, (0, v5))] [(0, t)] ε μ → (0 ≤ t → (m_ty [(0, (2, v0)), (1, (2, v1)), (2, (2, v2)), (4, (0, v4)), (5, (0, v5))] [] ε μ → G cd_X11_sum Q X 110 [(0, (2, v0)), (1, (2, v1)), (2, (2, v2)), (4, (0, v4)), (5, (0, v5))] [(0, 0)] ε μ)) ∧ (t < 0 → (m_ty [(0, (2, v0)), (1, (2, v1)), (2, (2, v2)), (4, (0, v4)), (5, (0, v5))] [] ε μ → G cd_X11_sum Q X 110 [(0, (2, v0)), (1, (2, v1)), (2, (2, v2)), (4, (0, v4)), (5, (0, v5))] [(0, 1)] ε μ))
  intro hty
  replace h := h hty.1 (hty.2.1 _ (List.mem_of_getElem? (i := 3) rfl)) (hty.2.1 _ (List.mem_of_getElem? (i := 4) rfl)) (hty.2.2 _ (List.mem_of_getElem? (i := 0) rfl))
  have hj := h
  refine And.intro (fun c0 => ?_) (fun c0 => ?_)
  · intro _
    exact g_X11_sum_110 (fun _ _ _ _ => (hj _ (((if_pos c0).trans rfl)).symm))
  · intro _
    exact g_X11_sum_110 (fun _ _ _ _ => (hj _ (((if_neg (Int.not_le.mpr c0)).trans rfl)).symm))
set_option maxRecDepth 20000 in
theorem g_X11_sum_84 {Q X : m_Po} {v0 v1 v2 v5 v6 v8 : Int} {ε : m_E} {μ : m_M} (h : TY ε μ → i32 v5 → i64 v6 → i32 v8 → ∀ v8_1 : Int, v8_1 = w32 (v8 + 1) → G cd_X11_sum Q X 34 [(0, (2, v0)), (1, (2, v1)), (2, (2, v2)), (5, (0, v5)), (6, (1, v6)), (8, (0, v8_1))] [] ε μ) : G cd_X11_sum Q X 84 [(0, (2, v0)), (1, (2, v1)), (2, (2, v2)), (5, (0, v5)), (6, (1, v6)), (8, (0, v8))] [] ε μ := by
  refine G_run (m_in [13, 21, 34, 53, 63, 84, 102, 110, 115, 118, 142, 152, 166, 176, 177, 197, 216]) 33 _ _ _ _ ?_
  show m_ty [(0, (2, v0)), (1, (2, v1)), (2, (2, v2)), (5, (0, v5)), (6, (1, v6)), (8, (0, v8))] [] ε μ → ∀ v8_1 : Int, v8_1 = w32 (v8 + 1) → G cd_X11_sum Q X 34 [(0, (2, v0)), (1, (2, v1)), (2, (2, v2)), (5, (0, v5)), (6, (1, v6)), (8, (0, v8_1))] [] ε μ
  intro hty
  replace h := h hty.1 (hty.2.1 _ (List.mem_of_getElem? (i := 3) rfl)) (hty.2.1 _ (List.mem_of_getElem? (i := 4) rfl)) (hty.2.1 _ (List.mem_of_getElem? (i := 5) rfl))
  intro v8_1 e_v8_1
  replace h := h v8_1 e_v8_1
  exact h
set_option maxRecDepth 20000 in
theorem g_X11_sum_63 {Q X : m_Po} {v0 v1 v2 v5 v8 t t_1 t_2 : Int} {ε : m_E} {μ : m_M} (h : TY ε μ → i32 v5 → i32 v8 → i64 t → i64 t_1 → i64 t_2 → ∀ v6 : Int, v6 = w64 (t + (w64 (t_1 + t_2))) → kd ε v0 = 10 ∧ kd ε (fn ε v0 0) = 100 ∧ (0 : Int) ≤ v8 ∧ v8 < ln ε (fn ε v0 0) ∧ ∀ μ_1 : m_M, μ_1 = st μ (fn ε v0 0) v8 (w32 v6) → ∀ v6_1 : Int, v6_1 = o_ushr64 v6 32 → ∀ v8_1 : Int, v8_1 = w32 (v8 + 1) → G cd_X11_sum Q X 34 [(0, (2, v0)), (1, (2, v1)), (2, (2, v2)), (5, (0, v5)), (6, (1, v6_1)), (8, (0, v8_1))] [] ε μ_1) : G cd_X11_sum Q X 63 [(0, (2, v0)), (1, (2, v1)), (2, (2, v2)), (5, (0, v5)), (8, (0, v8))] [(1, t_2), (1, t_1), (1, t)] ε μ := by
  refine G_run (m_in [13, 21, 34, 53, 63, 84, 102, 110, 115, 118, 142, 152, 166, 176, 177, 197, 216]) 33 _ _ _ _ ?_
  show m_ty [(0, (2, v0)), (1, (2, v1)), (2, (2, v2)), (5, (0, v5)), (8, (0, v8))] [(1, t_2), (1, t_1), (1, t)] ε μ → ∀ v6 : Int, v6 = w64 (t + (w64 (t_1 + t_2))) → (kd ε v0 = 10) ∧ (kd ε (fn ε v0 0) = 100) ∧ ((0 : Int) ≤ v8 ∧ v8 < ln ε (fn ε v0 0)) ∧ ∀ μ_1 : m_M, μ_1 = st μ (fn ε v0 0) v8 (w32 v6) → ∀ v6_1 : Int, v6_1 = o_ushr64 v6 32 → G cd_X11_sum Q X 84 [(0, (2, v0)), (1, (2, v1)), (2, (2, v2)), (5, (0, v5)), (6, (1, v6_1)), (8, (0, v8))] [] ε μ_1
  intro hty
  replace h := h hty.1 (hty.2.1 _ (List.mem_of_getElem? (i := 3) rfl)) (hty.2.1 _ (List.mem_of_getElem? (i := 4) rfl)) (hty.2.2 _ (List.mem_of_getElem? (i := 2) rfl)) (hty.2.2 _ (List.mem_of_getElem? (i := 1) rfl)) (hty.2.2 _ (List.mem_of_getElem? (i := 0) rfl))
  intro v6 e_v6
  replace h := h v6 e_v6
  obtain ⟨k1, h⟩ := h
  refine And.intro k1 ?_
  obtain ⟨k2, h⟩ := h
  refine And.intro k2 ?_
  obtain ⟨k3, h⟩ := h
  obtain ⟨k4, h⟩ := h
  refine And.intro (And.intro k3 k4) ?_
  intro μ_1 e_μ_1
  replace h := h μ_1 e_μ_1
  intro v6_1 e_v6_1
  replace h := h v6_1 e_v6_1
  exact g_X11_sum_84 (fun _ _ _ _ => h)
set_option maxRecDepth 20000 in
theorem g_X11_sum_53 {Q X : m_Po} {v0 v1 v2 v5 v8 t t_1 : Int} {ε : m_E} {μ : m_M} (h : TY ε μ → i32 v5 → i32 v8 → i64 t → i64 t_1 → kd ε v2 = 10 ∧ kd ε (fn ε v2 0) = 100 ∧ (0 : Int) ≤ v8 ∧ v8 < ln ε (fn ε v2 0) ∧ o_X11_low [(0, μ (fn ε v2 0) v8)] ε μ (fun z ε_1 μ_1 => G cd_X11_sum Q X 63 [(0, (2, v0)), (1, (2, v1)), (2, (2, v2)), (5, (0, v5)), (8, (0, v8))] [(1, z), (1, t_1), (1, t)] ε_1 μ_1) m_F) : G cd_X11_sum Q X 53 [(0, (2, v0)), (1, (2, v1)), (2, (2, v2)), (5, (0, v5)), (8, (0, v8))] [(1, t_1), (1, t)] ε μ := by
  refine G_run (m_in [13, 21, 34, 53, 63, 84, 102, 110, 115, 118, 142, 152, 166, 176, 177, 197, 216]) 33 _ _ _ _ ?_
  show m_ty [(0, (2, v0)), (1, (2, v1)), (2, (2, v2)), (5, (0, v5)), (8, (0, v8))] [(1, t_1), (1, t)] ε μ → (kd ε v2 = 10) ∧ (kd ε (fn ε v2 0) = 100) ∧ ((0 : Int) ≤ v8 ∧ v8 < ln ε (fn ε v2 0)) ∧ o_X11_low [(0, μ (fn ε v2 0) v8)] ε μ (fun z ε_1 μ_1 => G cd_X11_sum Q X 63 [(0, (2, v0)), (1, (2, v1)), (2, (2, v2)), (5, (0, v5)), (8, (0, v8))] [(1, z), (1, t_1), (1, t)] ε_1 μ_1) m_F
  intro hty
  replace h := h hty.1 (hty.2.1 _ (List.mem_of_getElem? (i := 3) rfl)) (hty.2.1 _ (List.mem_of_getElem? (i := 4) rfl)) (hty.2.2 _ (List.mem_of_getElem? (i := 1) rfl)) (hty.2.2 _ (List.mem_of_getElem? (i := 0) rfl))
  obtain ⟨k1, h⟩ := h
  refine And.intro k1 ?_
  obtain ⟨k2, h⟩ := h
  refine And.intro k2 ?_
  obtain ⟨k3, h⟩ := h
  obtain ⟨k4, h⟩ := h
  refine And.intro (And.intro k3 k4) ?_
  exact h
set_option maxRecDepth 20000 in
theorem g_X11_sum_34 {Q X : m_Po} {v0 v1 v2 v5 v6 v8 : Int} {ε : m_E} {μ : m_M} (h : TY ε μ → i32 v5 → i64 v6 → i32 v8 → ((12 : Int) ≤ v8 → kd ε v0 = 10 ∧ (v5 = 0 ∨ v5 = 1) ∧ ∀ μ_1 : m_M, μ_1 = st μ v0 1 v5 → Q 0 ε μ_1) ∧ (v8 < (12 : Int) → kd ε v1 = 10 ∧ kd ε (fn ε v1 0) = 100 ∧ (0 : Int) ≤ v8 ∧ v8 < ln ε (fn ε v1 0) ∧ o_X11_low [(0, μ (fn ε v1 0) v8)] ε μ (fun z ε_1 μ_2 => G cd_X11_sum Q X 53 [(0, (2, v0)), (1, (2, v1)), (2, (2, v2)), (5, (0, v5)), (8, (0, v8))] [(1, z), (1, v6)] ε_1 μ_2) m_F)) : G cd_X11_sum Q X 34 [(0, (2, v0)), (1, (2, v1)), (2, (2, v2)), (5, (0, v5)), (6, (1, v6)), (8, (0, v8))] [] ε μ := by
  refine G_run (m_in [13, 21, 34, 53, 63, 84, 102, 110, 115, 118, 142, 152, 166, 176, 177, 197, 216]) 33 _ _ _ _ ?_
  show m_ty [(0, (2, v0)), (1, (2, v1)), (2, (2, v2)), (5, (0, v5)), (6, (1, v6)), (8, (0, v8))] [] ε μ → ((12 : Int) ≤ v8 → (m_ty [(0, (2, v0)), (5, (0, v5))] [] ε μ → (kd ε v0 = 10) ∧ (v5 = 0 ∨ v5 = 1) ∧ ∀ μ_1 : m_M, μ_1 = st μ v0 1 v5 → Q 0 ε μ_1)) ∧ (v8 < (12 : Int) → (m_ty [(0, (2, v0)), (1, (2, v1)), (2, (2, v2)), (5, (0, v5)), (6, (1, v6)), (8, (0, v8))] [] ε μ → (kd ε v1 = 10) ∧ (kd ε (fn ε v1 0) = 100) ∧ ((0 : Int) ≤ v8 ∧ v8 < ln ε (fn ε v1 0)) ∧ o_X11_low [(0, μ (fn ε v1 0) v8)] ε μ (fun z ε_1 μ_2 => G cd_X11_sum Q X 53 [(0, (2, v0)), (1, (2, v1)), (2, (2, v2)), (5, (0, v5)), (8, (0, v8))] [(1, z), (1, v6)] ε_1 μ_2) m_F))
  intro hty
  replace h := h hty.1 (hty.2.1 _ (List.mem_of_getElem? (i := 3) rfl)) (hty.2.1 _ (List.mem_of_getElem? (i := 4) rfl)) (hty.2.1 _ (List.mem_of_getElem? (i := 5) rfl))
  obtain ⟨ha, hb⟩ := h
  refine And.intro (fun c6 => ?_) (fun c6 => ?_)
  · replace h := ha c6
    clear ha hb
    intro _
    obtain ⟨k1, h⟩ := h
    refine And.intro k1 ?_
    obtain ⟨k2, h⟩ := h
    refine And.intro k2 ?_
    intro μ_1 e_μ_1
    replace h := h μ_1 e_μ_1
    exact h
  · replace h := hb c6
    clear ha hb
    intro _
    obtain ⟨k3, h⟩ := h
    refine And.intro k3 ?_
    obtain ⟨k4, h⟩ := h
    refine And.intro k4 ?_
    obtain ⟨k5, h⟩ := h
    obtain ⟨k6, h⟩ := h
    refine And.intro (And.intro k5 k6) ?_
    exact h
set_option maxRecDepth 20000 in
theorem g_X11_sum_21 {Q X : m_Po} {v0 v1 v2 v4 v5 : Int} {ε : m_E} {μ : m_M} (h : TY ε μ → i32 v4 → i32 v5 → (v5 ≠ v4 → kd ε v1 = 10 ∧ o_X11_sizes [(2, v1), (2, v2)] ε μ (fun z ε_1 μ_1 => G cd_X11_sum Q X 102 [(0, (2, v0)), (1, (2, v1)), (2, (2, v2)), (4, (0, v4)), (5, (0, v5))] [(0, z)] ε_1 μ_1) m_F) ∧ (v5 = v4 → ∀ v6 : Int, v6 = 0 → ∀ v8 : Int, v8 = 0 → G cd_X11_sum Q X 34 [(0, (2, v0)), (1, (2, v1)), (2, (2, v2)), (5, (0, v5)), (6, (1, v6)), (8, (0, v8))] [] ε μ)) : G cd_X11_sum Q X 21 [(0, (2, v0)), (1, (2, v1)), (2, (2, v2)), (4, (0, v4)), (5, (0, v5))] [] ε μ := by
  refine G_run (m_in [13, 21, 34, 53, 63, 84, 102, 110, 115, 118, 142, 152, 166, 176, 177, 197, 216]) 33 _ _ _ _ ?_
  show m_ty [(0, (2, v0)), (1, (2, v1)), (2, (2, v2)), (4, (0, v4)), (5, (0, v5))] [] ε μ → (v5 ≠ v4 → (m_ty [(0, (2, v0)), (1, (2, v1)), (2, (2, v2)), (4, (0, v4)), (5, (0, v5))] [] ε μ → (kd ε v1 = 10) ∧ o_X11_sizes [(2, v1), (2, v2)] ε μ (fun z ε_1 μ_1 => G cd_X11_sum Q X 102 [(0, (2, v0)), (1, (2, v1)), (2, (2, v2)), (4, (0, v4)), (5, (0, v5))] [(0, z)] ε_1 μ_1) m_F)) ∧ (v5 = v4 → (m_ty [(0, (2, v0)), (1, (2, v1)), (2, (2, v2)), (5, (0, v5))] [] ε μ → ∀ v6 : Int, v6 = 0 → ∀ v8 : Int, v8 = 0 → G cd_X11_sum Q X 34 [(0, (2, v0)), (1, (2, v1)), (2, (2, v2)), (5, (0, v5)), (6, (1, v6)), (8, (0, v8))] [] ε μ))
  intro hty
  replace h := h hty.1 (hty.2.1 _ (List.mem_of_getElem? (i := 3) rfl)) (hty.2.1 _ (List.mem_of_getElem? (i := 4) rfl))
  obtain ⟨ha, hb⟩ := h
  refine And.intro (fun c1 => ?_) (fun c1 => ?_)
  · replace h := ha c1
    clear ha hb
    intro _
    obtain ⟨k1, h⟩ := h
    refine And.intro k1 ?_
    exact h
  · replace h := hb c1
    clear ha hb
    intro _
    intro v6 e_v6
    replace h := h v6 e_v6
    intro v8 e_v8
    replace h := h v8 e_v8
    exact h
set_option maxRecDepth 20000 in
theorem g_X11_sum_13 {Q X : m_Po} {v0 v1 v2 t : Int} {ε : m_E} {μ : m_M} (h : TY ε μ → i32 t → ∀ v4 : Int, v4 = t → kd ε v1 = 10 ∧ ∀ v5 : Int, v5 = μ v1 1 → (v5 ≠ v4 → kd ε v1 = 10 ∧ o_X11_sizes [(2, v1), (2, v2)] ε μ (fun z ε_1 μ_1 => G cd_X11_sum Q X 102 [(0, (2, v0)), (1, (2, v1)), (2, (2, v2)), (4, (0, v4)), (5, (0, v5))] [(0, z)] ε_1 μ_1) m_F) ∧ (v5 = v4 → ∀ v6 : Int, v6 = 0 → ∀ v8 : Int, v8 = 0 → G cd_X11_sum Q X 34 [(0, (2, v0)), (1, (2, v1)), (2, (2, v2)), (5, (0, v5)), (6, (1, v6)), (8, (0, v8))] [] ε μ)) : G cd_X11_sum Q X 13 [(0, (2, v0)), (1, (2, v1)), (2, (2, v2))] [(0, t)] ε μ := by
  refine G_run (m_in [13, 21, 34, 53, 63, 84, 102, 110, 115, 118, 142, 152, 166, 176, 177, 197, 216]) 33 _ _ _ _ ?_
  show m_ty [(0, (2, v0)), (1, (2, v1)), (2, (2, v2))] [(0, t)] ε μ → ∀ v4 : Int, v4 = t → (kd ε v1 = 10) ∧ ∀ v5 : Int, v5 = μ v1 1 → G cd_X11_sum Q X 21 [(0, (2, v0)), (1, (2, v1)), (2, (2, v2)), (4, (0, v4)), (5, (0, v5))] [] ε μ
  intro hty
  replace h := h hty.1 (hty.2.2 _ (List.mem_of_getElem? (i := 0) rfl))
  intro v4 e_v4
  replace h := h v4 e_v4
  obtain ⟨k1, h⟩ := h
  refine And.intro k1 ?_
  intro v5 e_v5
  replace h := h v5 e_v5
  exact g_X11_sum_21 (fun _ _ _ => h)
set_option maxRecDepth 20000 in
theorem g_X11_sum_0 {Q X : m_Po} {v0 v1 v2 v3 : Int} {ε : m_E} {μ : m_M} (h : TY ε μ → i32 v3 → kd ε v2 = 10 ∧ ∀ t : Int, t = (if v3 = (μ v2 1) then 0 else 1) → ∀ v4 : Int, v4 = t → kd ε v1 = 10 ∧ ∀ v5 : Int, v5 = μ v1 1 → (v5 ≠ v4 → kd ε v1 = 10 ∧ o_X11_sizes [(2, v1), (2, v2)] ε μ (fun z ε_1 μ_1 => G cd_X11_sum Q X 102 [(0, (2, v0)), (1, (2, v1)), (2, (2, v2)), (4, (0, v4)), (5, (0, v5))] [(0, z)] ε_1 μ_1) m_F) ∧ (v5 = v4 → ∀ v6 : Int, v6 = 0 → ∀ v8 : Int, v8 = 0 → G cd_X11_sum Q X 34 [(0, (2, v0)), (1, (2, v1)), (2, (2, v2)), (5, (0, v5)), (6, (1, v6)), (8, (0, v8))] [] ε μ)) : G cd_X11_sum Q X 0 [(0, (2, v0)), (1, (2, v1)), (2, (2, v2)), (3, (0, v3))] [] ε μ := by
  refine G_run (m_in [13, 21, 34, 53, 63, 84, 102, 110, 115, 118, 142, 152, 166, 176, 177, 197, 216]) 33 _ _ _ _ ?_
  show m_ty [(0, (2, v0)), (1, (2, v1)), (2, (2, v2)), (3, (0, v3))] [] ε μ → (kd ε v2 = 10) ∧ (v3 = (μ v2 1) → (m_ty [(0, (2, v0)), (1, (2, v1)), (2, (2, v2))] [] ε μ → G cd_X11_sum Q X 13 [(0, (2, v0)), (1, (2, v1)), (2, (2, v2))] [(0, 0)] ε μ)) ∧ (v3 ≠ (μ v2 1) → (m_ty [(0, (2, v0)), (1, (2, v1)), (2, (2, v2))] [] ε μ → G cd_X11_sum Q X 13 [(0, (2, v0)), (1, (2, v1)), (2, (2, v2))] [(0, 1)] ε μ))
  intro hty
  replace h := h hty.1 (hty.2.1 _ (List.mem_of_getElem? (i := 3) rfl))
  obtain ⟨k1, h⟩ := h
  refine And.intro k1 ?_
  have hj := h
  refine And.intro (fun c1 => ?_) (fun c1 => ?_)
  · intro _
    exact g_X11_sum_13 (fun _ _ => (hj _ (((if_pos c1).trans rfl)).symm))
  · intro _
    exact g_X11_sum_13 (fun _ _ => (hj _ (((if_neg (c1)).trans rfl)).symm))
theorem e_X11_sum {Q X : m_Po} {v0 v1 v2 v3 : Int} {ε : m_E} {μ : m_M} (h : TY ε μ → i32 v3 → kd ε v2 = 10 ∧ ∀ t : Int, t = (if v3 = (μ v2 1) then 0 else 1) → ∀ v4 : Int, v4 = t → kd ε v1 = 10 ∧ ∀ v5 : Int, v5 = μ v1 1 → (v5 ≠ v4 → kd ε v1 = 10 ∧ o_X11_sizes [(2, v1), (2, v2)] ε μ (fun z ε_1 μ_1 => G cd_X11_sum Q X 102 [(0, (2, v0)), (1, (2, v1)), (2, (2, v2)), (4, (0, v4)), (5, (0, v5))] [(0, z)] ε_1 μ_1) m_F) ∧ (v5 = v4 → ∀ v6 : Int, v6 = 0 → ∀ v8 : Int, v8 = 0 → G cd_X11_sum Q X 34 [(0, (2, v0)), (1, (2, v1)), (2, (2, v2)), (5, (0, v5)), (6, (1, v6)), (8, (0, v8))] [] ε μ)) : o_X11_sum [(2, v0), (2, v1), (2, v2), (0, v3)] ε μ Q X := And.intro rfl (g_X11_sum_0 h)
/-! ArchYardModel$Big.product(LArchYardModel$Big;LArchYardModel$Big;)V -/
set_option maxRecDepth 20000 in
theorem g_X11_product_156 {Q X : m_Po} {t t_1 : Int} {ε : m_E} {μ : m_M} (h : TY ε μ → i32 t_1 → kd ε t = 10 ∧ (t_1 = 0 ∨ t_1 = 1) ∧ ∀ μ_1 : m_M, μ_1 = st μ t 1 t_1 → Q 0 ε μ_1) : G cd_X11_product Q X 156 [] [(0, t_1), (2, t)] ε μ := by
  refine G_run (m_in [2, 23, 47, 65, 75, 90, 96, 127, 133, 156]) 21 _ _ _ _ ?_
  show m_ty [] [(0, t_1), (2, t)] ε μ → (kd ε t = 10) ∧ (t_1 = 0 ∨ t_1 = 1) ∧ ∀ μ_1 : m_M, μ_1 = st μ t 1 t_1 → Q 0 ε μ_1
  intro hty
  replace h := h hty.1 (hty.2.2 _ (List.mem_of_getElem? (i := 0) rfl))
  obtain ⟨k1, h⟩ := h
  refine And.intro k1 ?_
  obtain ⟨k2, h⟩ := h
  refine And.intro k2 ?_
  intro μ_1 e_μ_1
  replace h := h μ_1 e_μ_1
  exact h
set_option maxRecDepth 20000 in
theorem g_X11_product_133 {Q X : m_Po} {v0 v1 v2 v3 : Int} {ε : m_E} {μ : m_M} (h : TY ε μ → i32 v3 → ∀ v3_1 : Int, v3_1 = w32 (v3 + 1) → G cd_X11_product Q X 23 [(0, (2, v0)), (1, (2, v1)), (2, (2, v2)), (3, (0, v3_1))] [] ε μ) : G cd_X11_product Q X 133 [(0, (2, v0)), (1, (2, v1)), (2, (2, v2)), (3, (0, v3))] [] ε μ := by
  refine G_run (m_in [2, 23, 47, 65, 75, 90, 96, 127, 133, 156]) 21 _ _ _ _ ?_
  show m_ty [(0, (2, v0)), (1, (2, v1)), (2, (2, v2)), (3, (0, v3))] [] ε μ → ∀ v3_1 : Int, v3_1 = w32 (v3 + 1) → G cd_X11_product Q X 23 [(0, (2, v0)), (1, (2, v1)), (2, (2, v2)), (3, (0, v3_1))] [] ε μ
  intro hty
  replace h := h hty.1 (hty.2.1 _ (List.mem_of_getElem? (i := 3) rfl))
  intro v3_1 e_v3_1
  replace h := h v3_1 e_v3_1
  exact h
set_option maxRecDepth 20000 in
theorem g_X11_product_127 {Q X : m_Po} {v0 v1 v2 v3 v4 v6 : Int} {ε : m_E} {μ : m_M} (h : TY ε μ → i32 v3 → i64 v4 → i32 v6 → ∀ v6_1 : Int, v6_1 = w32 (v6 + 1) → G cd_X11_product Q X 47 [(0, (2, v0)), (1, (2, v1)), (2, (2, v2)), (3, (0, v3)), (4, (1, v4)), (6, (0, v6_1))] [] ε μ) : G cd_X11_product Q X 127 [(0, (2, v0)), (1, (2, v1)), (2, (2, v2)), (3, (0, v3)), (4, (1, v4)), (6, (0, v6))] [] ε μ := by
  refine G_run (m_in [2, 23, 47, 65, 75, 90, 96, 127, 133, 156]) 21 _ _ _ _ ?_
  show m_ty [(0, (2, v0)), (1, (2, v1)), (2, (2, v2)), (3, (0, v3)), (4, (1, v4)), (6, (0, v6))] [] ε μ → ∀ v6_1 : Int, v6_1 = w32 (v6 + 1) → G cd_X11_product Q X 47 [(0, (2, v0)), (1, (2, v1)), (2, (2, v2)), (3, (0, v3)), (4, (1, v4)), (6, (0, v6_1))] [] ε μ
  intro hty
  replace h := h hty.1 (hty.2.1 _ (List.mem_of_getElem? (i := 3) rfl)) (hty.2.1 _ (List.mem_of_getElem? (i := 4) rfl)) (hty.2.1 _ (List.mem_of_getElem? (i := 5) rfl))
  intro v6_1 e_v6_1
  replace h := h v6_1 e_v6_1
  exact h
set_option maxRecDepth 20000 in
theorem g_X11_product_96 {Q X : m_Po} {v0 v1 v2 v3 v4 v6 v7 t t_1 : Int} {ε : m_E} {μ : m_M} (h : TY ε μ → i32 v3 → i64 v4 → i32 v6 → i64 v7 → i64 t → i64 t_1 → ∀ v9 : Int, v9 = w64 ((w64 (t + t_1)) + v4) → kd ε v0 = 10 ∧ kd ε (fn ε v0 0) = 100 ∧ (0 : Int) ≤ w32 (v3 + v6) ∧ w32 (v3 + v6) < ln ε (fn ε v0 0) ∧ ∀ μ_1 : m_M, μ_1 = st μ (fn ε v0 0) (w32 (v3 + v6)) (w32 v9) → ∀ v4_1 : Int, v4_1 = w64 ((o_ushr64 v7 32) + (o_ushr64 v9 32)) → ∀ v6_1 : Int, v6_1 = w32 (v6 + 1) → G cd_X11_product Q X 47 [(0, (2, v0)), (1, (2, v1)), (2, (2, v2)), (3, (0, v3)), (4, (1, v4_1)), (6, (0, v6_1))] [] ε μ_1) : G cd_X11_product Q X 96 [(0, (2, v0)), (1, (2, v1)), (2, (2, v2)), (3, (0, v3)), (4, (1, v4)), (6, (0, v6)), (7, (1, v7))] [(1, t_1), (1, t)] ε μ := by
  refine G_run (m_in [2, 23, 47, 65, 75, 90, 96, 127, 133, 156]) 21 _ _ _ _ ?_
  show m_ty [(0, (2, v0)), (1, (2, v1)), (2, (2, v2)), (3, (0, v3)), (4, (1, v4)), (6, (0, v6)), (7, (1, v7))] [(1, t_1), (1, t)] ε μ → ∀ v9 : Int, v9 = w64 ((w64 (t + t_1)) + v4) → (kd ε v0 = 10) ∧ (kd ε (fn ε v0 0) = 100) ∧ ((0 : Int) ≤ w32 (v3 + v6) ∧ w32 (v3 + v6) < ln ε (fn ε v0 0)) ∧ ∀ μ_1 : m_M, μ_1 = st μ (fn ε v0 0) (w32 (v3 + v6)) (w32 v9) → ∀ v4_1 : Int, v4_1 = w64 ((o_ushr64 v7 32) + (o_ushr64 v9 32)) → G cd_X11_product Q X 127 [(0, (2, v0)), (1, (2, v1)), (2, (2, v2)), (3, (0, v3)), (4, (1, v4_1)), (6, (0, v6))] [] ε μ_1
  intro hty
  replace h := h hty.1 (hty.2.1 _ (List.mem_of_getElem? (i := 3) rfl)) (hty.2.1 _ (List.mem_of_getElem? (i := 4) rfl)) (hty.2.1 _ (List.mem_of_getElem? (i := 5) rfl)) (hty.2.1 _ (List.mem_of_getElem? (i := 6) rfl)) (hty.2.2 _ (List.mem_of_getElem? (i := 1) rfl)) (hty.2.2 _ (List.mem_of_getElem? (i := 0) rfl))
  intro v9 e_v9
  replace h := h v9 e_v9
  obtain ⟨k1, h⟩ := h
  refine And.intro k1 ?_
  obtain ⟨k2, h⟩ := h
  refine And.intro k2 ?_
  obtain ⟨k3, h⟩ := h
  obtain ⟨k4, h⟩ := h
  refine And.intro (And.intro k3 k4) ?_
  intro μ_1 e_μ_1
  replace h := h μ_1 e_μ_1
  intro v4_1 e_v4_1
  replace h := h v4_1 e_v4_1
  exact g_X11_product_127 (fun _ _ _ _ => h)
set_option maxRecDepth 20000 in
theorem g_X11_product_90 {Q X : m_Po} {v0 v1 v2 v3 v4 v6 v7 t : Int} {ε : m_E} {μ : m_M} (h : TY ε μ → i32 v3 → i64 v4 → i32 v6 → i64 v7 → i64 t → o_X11_low [(0, w32 v7)] ε μ (fun z ε_1 μ_1 => G cd_X11_product Q X 96 [(0, (2, v0)), (1, (2, v1)), (2, (2, v2)), (3, (0, v3)), (4, (1, v4)), (6, (0, v6)), (7, (1, v7))] [(1, z), (1, t)] ε_1 μ_1) m_F) : G cd_X11_product Q X 90 [(0, (2, v0)), (1, (2, v1)), (2, (2, v2)), (3, (0, v3)), (4, (1, v4)), (6, (0, v6)), (7, (1, v7))] [(1, t)] ε μ := by
  refine G_run (m_in [2, 23, 47, 65, 75, 90, 96, 127, 133, 156]) 21 _ _ _ _ ?_
  show m_ty [(0, (2, v0)), (1, (2, v1)), (2, (2, v2)), (3, (0, v3)), (4, (1, v4)), (6, (0, v6)), (7, (1, v7))] [(1, t)] ε μ → o_X11_low [(0, w32 v7)] ε μ (fun z ε_1 μ_1 => G cd_X11_product Q X 96 [(0, (2, v0)), (1, (2, v1)), (2, (2, v2)), (3, (0, v3)), (4, (1, v4)), (6, (0, v6)), (7, (1, v7))] [(1, z), (1, t)] ε_1 μ_1) m_F
  intro hty
  replace h := h hty.1 (hty.2.1 _ (List.mem_of_getElem? (i := 3) rfl)) (hty.2.1 _ (List.mem_of_getElem? (i := 4) rfl)) (hty.2.1 _ (List.mem_of_getElem? (i := 5) rfl)) (hty.2.1 _ (List.mem_of_getElem? (i := 6) rfl)) (hty.2.2 _ (List.mem_of_getElem? (i := 0) rfl))
  exact h
set_option maxRecDepth 20000 in
theorem g_X11_product_75 {Q X : m_Po} {v0 v1 v2 v3 v4 v6 t t_1 : Int} {ε : m_E} {μ : m_M} (h : TY ε μ → i32 v3 → i64 v4 → i32 v6 → i64 t → i64 t_1 → ∀ v7 : Int, v7 = w64 (t * t_1) → kd ε v0 = 10 ∧ kd ε (fn ε v0 0) = 100 ∧ (0 : Int) ≤ w32 (v3 + v6) ∧ w32 (v3 + v6) < ln ε (fn ε v0 0) ∧ o_X11_low [(0, μ (fn ε v0 0) (w32 (v3 + v6)))] ε μ (fun z ε_1 μ_1 => G cd_X11_product Q X 90 [(0, (2, v0)), (1, (2, v1)), (2, (2, v2)), (3, (0, v3)), (4, (1, v4)), (6, (0, v6)), (7, (1, v7))] [(1, z)] ε_1 μ_1) m_F) : G cd_X11_product Q X 75 [(0, (2, v0)), (1, (2, v1)), (2, (2, v2)), (3, (0, v3)), (4, (1, v4)), (6, (0, v6))] [(1, t_1), (1, t)] ε μ := by
  refine G_run (m_in [2, 23, 47, 65, 75, 90, 96, 127, 133, 156]) 21 _ _ _ _ ?_
  show m_ty [(0, (2, v0)), (1, (2, v1)), (2, (2, v2)), (3, (0, v3)), (4, (1, v4)), (6, (0, v6))] [(1, t_1), (1, t)] ε μ → ∀ v7 : Int, v7 = w64 (t * t_1) → (kd ε v0 = 10) ∧ (kd ε (fn ε v0 0) = 100) ∧ ((0 : Int) ≤ w32 (v3 + v6) ∧ w32 (v3 + v6) < ln ε (fn ε v0 0)) ∧ o_X11_low [(0, μ (fn ε v0 0) (w32 (v3 + v6)))] ε μ (fun z ε_1 μ_1 => G cd_X11_product Q X 90 [(0, (2, v0)), (1, (2, v1)), (2, (2, v2)), (3, (0, v3)), (4, (1, v4)), (6, (0, v6)), (7, (1, v7))] [(1, z)] ε_1 μ_1) m_F
  intro hty
  replace h := h hty.1 (hty.2.1 _ (List.mem_of_getElem? (i := 3) rfl)) (hty.2.1 _ (List.mem_of_getElem? (i := 4) rfl)) (hty.2.1 _ (List.mem_of_getElem? (i := 5) rfl)) (hty.2.2 _ (List.mem_of_getElem? (i := 1) rfl)) (hty.2.2 _ (List.mem_of_getElem? (i := 0) rfl))
  intro v7 e_v7
  replace h := h v7 e_v7
  obtain ⟨k1, h⟩ := h
  refine And.intro k1 ?_
  obtain ⟨k2, h⟩ := h
  refine And.intro k2 ?_
  obtain ⟨k3, h⟩ := h
  obtain ⟨k4, h⟩ := h
  refine And.intro (And.intro k3 k4) ?_
  exact h
set_option maxRecDepth 20000 in
theorem g_X11_product_65 {Q X : m_Po} {v0 v1 v2 v3 v4 v6 t : Int} {ε : m_E} {μ : m_M} (h : TY ε μ → i32 v3 → i64 v4 → i32 v6 → i64 t → kd ε v2 = 10 ∧ kd ε (fn ε v2 0) = 100 ∧ (0 : Int) ≤ v6 ∧ v6 < ln ε (fn ε v2 0) ∧ o_X11_low [(0, μ (fn ε v2 0) v6)] ε μ (fun z ε_1 μ_1 => G cd_X11_product Q X 75 [(0, (2, v0)), (1, (2, v1)), (2, (2, v2)), (3, (0, v3)), (4, (1, v4)), (6, (0, v6))] [(1, z), (1, t)] ε_1 μ_1) m_F) : G cd_X11_product Q X 65 [(0, (2, v0)), (1, (2, v1)), (2, (2, v2)), (3, (0, v3)), (4, (1, v4)), (6, (0, v6))] [(1, t)] ε μ := by
  refine G_run (m_in [2, 23, 47, 65, 75, 90, 96, 127, 133, 156]) 21 _ _ _ _ ?_
  show m_ty [(0, (2, v0)), (1, (2, v1)), (2, (2, v2)), (3, (0, v3)), (4, (1, v4)), (6, (0, v6))] [(1, t)] ε μ → (kd ε v2 = 10) ∧ (kd ε (fn ε v2 0) = 100) ∧ ((0 : Int) ≤ v6 ∧ v6 < ln ε (fn ε v2 0)) ∧ o_X11_low [(0, μ (fn ε v2 0) v6)] ε μ (fun z ε_1 μ_1 => G cd_X11_product Q X 75 [(0, (2, v0)), (1, (2, v1)), (2, (2, v2)), (3, (0, v3)), (4, (1, v4)), (6, (0, v6))] [(1, z), (1, t)] ε_1 μ_1) m_F
  intro hty
  replace h := h hty.1 (hty.2.1 _ (List.mem_of_getElem? (i := 3) rfl)) (hty.2.1 _ (List.mem_of_getElem? (i := 4) rfl)) (hty.2.1 _ (List.mem_of_getElem? (i := 5) rfl)) (hty.2.2 _ (List.mem_of_getElem? (i := 0) rfl))
  obtain ⟨k1, h⟩ := h
  refine And.intro k1 ?_
  obtain ⟨k2, h⟩ := h
  refine And.intro k2 ?_
  obtain ⟨k3, h⟩ := h
  obtain ⟨k4, h⟩ := h
  refine And.intro (And.intro k3 k4) ?_
  exact h
set_option maxRecDepth 20000 in
theorem g_X11_product_47 {Q X : m_Po} {v0 v1 v2 v3 v4 v6 : Int} {ε : m_E} {μ : m_M} (h : TY ε μ → i32 v3 → i64 v4 → i32 v6 → ((12 : Int) ≤ (w32 (v3 + v6)) → G cd_X11_product Q X 133 [(0, (2, v0)), (1, (2, v1)), (2, (2, v2)), (3, (0, v3))] [] ε μ) ∧ ((w32 (v3 + v6)) < (12 : Int) → kd ε v1 = 10 ∧ kd ε (fn ε v1 0) = 100 ∧ (0 : Int) ≤ v3 ∧ v3 < ln ε (fn ε v1 0) ∧ o_X11_low [(0, μ (fn ε v1 0) v3)] ε μ (fun z ε_1 μ_1 => G cd_X11_product Q X 65 [(0, (2, v0)), (1, (2, v1)), (2, (2, v2)), (3, (0, v3)), (4, (1, v4)), (6, (0, v6))] [(1, z)] ε_1 μ_1) m_F)) : G cd_X11_product Q X 47 [(0, (2, v0)), (1, (2, v1)), (2, (2, v2)), (3, (0, v3)), (4, (1, v4)), (6, (0, v6))] [] ε μ := by
  refine G_run (m_in [2, 23, 47, 65, 75, 90, 96, 127, 133, 156]) 21 _ _ _ _ ?_
  show m_ty [(0, (2, v0)), (1, (2, v1)), (2, (2, v2)), (3, (0, v3)), (4, (1, v4)), (6, (0, v6))] [] ε μ → ((12 : Int) ≤ (w32 (v3 + v6)) → G cd_X11_product Q X 133 [(0, (2, v0)), (1, (2, v1)), (2, (2, v2)), (3, (0, v3))] [] ε μ) ∧ ((w32 (v3 + v6)) < (12 : Int) → (m_ty [(0, (2, v0)), (1, (2, v1)), (2, (2, v2)), (3, (0, v3)), (4, (1, v4)), (6, (0, v6))] [] ε μ → (kd ε v1 = 10) ∧ (kd ε (fn ε v1 0) = 100) ∧ ((0 : Int) ≤ v3 ∧ v3 < ln ε (fn ε v1 0)) ∧ o_X11_low [(0, μ (fn ε v1 0) v3)] ε μ (fun z ε_1 μ_1 => G cd_X11_product Q X 65 [(0, (2, v0)), (1, (2, v1)), (2, (2, v2)), (3, (0, v3)), (4, (1, v4)), (6, (0, v6))] [(1, z)] ε_1 μ_1) m_F))
  intro hty
  replace h := h hty.1 (hty.2.1 _ (List.mem_of_getElem? (i := 3) rfl)) (hty.2.1 _ (List.mem_of_getElem? (i := 4) rfl)) (hty.2.1 _ (List.mem_of_getElem? (i := 5) rfl))
  obtain ⟨ha, hb⟩ := h
  refine And.intro (fun c4 => ?_) (fun c4 => ?_)
  · replace h := ha c4
    clear ha hb
    exact h
  · replace h := hb c4
    clear ha hb
    intro _
    obtain ⟨k1, h⟩ := h
    refine And.intro k1 ?_
    obtain ⟨k2, h⟩ := h
    refine And.intro k2 ?_
    obtain ⟨k3, h⟩ := h
    obtain ⟨k4, h⟩ := h
    refine And.intro (And.intro k3 k4) ?_
    exact h
set_option maxRecDepth 20000 in
theorem g_X11_product_23 {Q X : m_Po} {v0 v1 v2 v3 : Int} {ε : m_E} {μ : m_M} (h : TY ε μ → i32 v3 → ((12 : Int) ≤ v3 → kd ε v1 = 10 ∧ kd ε v2 = 10 ∧ ∀ t : Int, t = (if (μ v1 1) = (μ v2 1) then 0 else 1) → kd ε v0 = 10 ∧ (t = 0 ∨ t = 1) ∧ ∀ μ_1 : m_M, μ_1 = st μ v0 1 t → Q 0 ε μ_1) ∧ (v3 < (12 : Int) → kd ε v1 = 10 ∧ kd ε (fn ε v1 0) = 100 ∧ (0 : Int) ≤ v3 ∧ v3 < ln ε (fn ε v1 0) ∧ ((μ (fn ε v1 0) v3) ≠ 0 → ∀ v4 : Int, v4 = 0 → ∀ v6 : Int, v6 = 0 → G cd_X11_product Q X 47 [(0, (2, v0)), (1, (2, v1)), (2, (2, v2)), (3, (0, v3)), (4, (1, v4)), (6, (0, v6))] [] ε μ) ∧ ((μ (fn ε v1 0) v3) = 0 → G cd_X11_product Q X 133 [(0, (2, v0)), (1, (2, v1)), (2, (2, v2)), (3, (0, v3))] [] ε μ))) : G cd_X11_product Q X 23 [(0, (2, v0)), (1, (2, v1)), (2, (2, v2)), (3, (0, v3))] [] ε μ := by
  refine G_run (m_in [2, 23, 47, 65, 75, 90, 96, 127, 133, 156]) 21 _ _ _ _ ?_
  show m_ty [(0, (2, v0)), (1, (2, v1)), (2, (2, v2)), (3, (0, v3))] [] ε μ → ((12 : Int) ≤ v3 → (m_ty [(0, (2, v0)), (1, (2, v1)), (2, (2, v2))] [] ε μ → (kd ε v1 = 10) ∧ (kd ε v2 = 10) ∧ ((μ v1 1) = (μ v2 1) → (m_ty [] [(2, v0)] ε μ → G cd_X11_product Q X 156 [] [(0, 0), (2, v0)] ε μ)) ∧ ((μ v1 1) ≠ (μ v2 1) → (m_ty [] [(2, v0)] ε μ → G cd_X11_product Q X 156 [] [(0, 1), (2, v0)] ε μ)))) ∧ (v3 < (12 : Int) → (m_ty [(0, (2, v0)), (1, (2, v1)), (2, (2, v2)), (3, (0, v3))] [] ε μ → (kd ε v1 = 10) ∧ (kd ε (fn ε v1 0) = 100) ∧ ((0 : Int) ≤ v3 ∧ v3 < ln ε (fn ε v1 0)) ∧ ((μ (fn ε v1 0) v3) ≠ 0 → (m_ty [(0, (2, v0)), (1, (2, v1)), (2, (2, v2)), (3, (0, v3))] [] ε μ → ∀ v4 : Int, v4 = 0 → ∀ v6 : Int, v6 = 0 → G cd_X11_product Q X 47 [(0, (2, v0)), (1, (2, v1)), (2, (2, v2)), (3, (0, v3)), (4, (1, v4)), (6, (0, v6))] [] ε μ)) ∧ ((μ (fn ε v1 0) v3) = 0 → (m_ty [(0, (2, v0)), (1, (2, v1)), (2, (2, v2)), (3, (0, v3))] [] ε μ → G cd_X11_product Q X 133 [(0, (2, v0)), (1, (2, v1)), (2, (2, v2)), (3, (0, v3))] [] ε μ))))
  intro hty
  replace h := h hty.1 (hty.2.1 _ (List.mem_of_getElem? (i := 3) rfl))
  obtain ⟨ha, hb⟩ := h
  refine And.intro (fun c10 => ?_) (fun c10 => ?_)
  · replace h := ha c10
    clear ha hb
    intro _
    obtain ⟨k1, h⟩ := h
    refine And.intro k1 ?_
    obtain ⟨k2, h⟩ := h
    refine And.intro k2 ?_
    have hj := h
    refine And.intro (fun c2 => ?_) (fun c2 => ?_)
    · intro _
      exact g_X11_product_156 (fun _ _ => (hj _ (((if_pos c2).trans rfl)).symm))
    · intro _
      exact g_X11_product_156 (fun _ _ => (hj _ (((if_neg (c2)).trans rfl)).symm))
  · replace h := hb c10
    clear ha hb
    intro _
    obtain ⟨k6, h⟩ := h
    refine And.intro k6 ?_
    obtain ⟨k7, h⟩ := h
    refine And.intro k7 ?_
    obtain ⟨k8, h⟩ := h
    obtain ⟨k9, h⟩ := h
    refine And.intro (And.intro k8 k9) ?_
    obtain ⟨ha, hb⟩ := h
    refine And.intro (fun c9 => ?_) (fun c9 => ?_)
    · replace h := ha c9
      clear ha hb
      intro _
      intro v4 e_v4
      replace h := h v4 e_v4
      intro v6 e_v6
      replace h := h v6 e_v6
      exact h
    · replace h := hb c9
      clear ha hb
      intro _
      exact h
set_option maxRecDepth 20000 in
theorem g_X11_product_2 {Q X : m_Po} {v0 v1 v2 v3 : Int} {ε : m_E} {μ : m_M} (h : TY ε μ → i32 v3 → ((12 : Int) ≤ v3 → ∀ v3_1 : Int, v3_1 = 0 → G cd_X11_product Q X 23 [(0, (2, v0)), (1, (2, v1)), (2, (2, v2)), (3, (0, v3_1))] [] ε μ) ∧ (v3 < (12 : Int) → kd ε v0 = 10 ∧ kd ε (fn ε v0 0) = 100 ∧ (0 : Int) ≤ v3 ∧ v3 < ln ε (fn ε v0 0) ∧ ∀ μ_1 : m_M, μ_1 = st μ (fn ε v0 0) v3 0 → ∀ v3_2 : Int, v3_2 = w32 (v3 + 1) → G cd_X11_product Q X 2 [(0, (2, v0)), (1, (2, v1)), (2, (2, v2)), (3, (0, v3_2))] [] ε μ_1)) : G cd_X11_product Q X 2 [(0, (2, v0)), (1, (2, v1)), (2, (2, v2)), (3, (0, v3))] [] ε μ := by
  refine G_run (m_in [2, 23, 47, 65, 75, 90, 96, 127, 133, 156]) 21 _ _ _ _ ?_
  show m_ty [(0, (2, v0)), (1, (2, v1)), (2, (2, v2)), (3, (0, v3))] [] ε μ → ((12 : Int) ≤ v3 → (m_ty [(0, (2, v0)), (1, (2, v1)), (2, (2, v2))] [] ε μ → ∀ v3_1 : Int, v3_1 = 0 → G cd_X11_product Q X 23 [(0, (2, v0)), (1, (2, v1)), (2, (2, v2)), (3, (0, v3_1))] [] ε μ)) ∧ (v3 < (12 : Int) → (m_ty [(0, (2, v0)), (1, (2, v1)), (2, (2, v2)), (3, (0, v3))] [] ε μ → (kd ε v0 = 10) ∧ (kd ε (fn ε v0 0) = 100) ∧ ((0 : Int) ≤ v3 ∧ v3 < ln ε (fn ε v0 0)) ∧ ∀ μ_1 : m_M, μ_1 = st μ (fn ε v0 0) v3 0 → ∀ v3_2 : Int, v3_2 = w32 (v3 + 1) → G cd_X11_product Q X 2 [(0, (2, v0)), (1, (2, v1)), (2, (2, v2)), (3, (0, v3_2))] [] ε μ_1))
  intro hty
  replace h := h hty.1 (hty.2.1 _ (List.mem_of_getElem? (i := 3) rfl))
  obtain ⟨ha, hb⟩ := h
  refine And.intro (fun c4 => ?_) (fun c4 => ?_)
  · replace h := ha c4
    clear ha hb
    intro _
    intro v3_1 e_v3_1
    replace h := h v3_1 e_v3_1
    exact h
  · replace h := hb c4
    clear ha hb
    intro _
    obtain ⟨k1, h⟩ := h
    refine And.intro k1 ?_
    obtain ⟨k2, h⟩ := h
    refine And.intro k2 ?_
    obtain ⟨k3, h⟩ := h
    obtain ⟨k4, h⟩ := h
    refine And.intro (And.intro k3 k4) ?_
    intro μ_1 e_μ_1
    replace h := h μ_1 e_μ_1
    intro v3_2 e_v3_2
    replace h := h v3_2 e_v3_2
    exact h
set_option maxRecDepth 20000 in
theorem g_X11_product_0 {Q X : m_Po} {v0 v1 v2 : Int} {ε : m_E} {μ : m_M} (h : TY ε μ → ∀ v3 : Int, v3 = 0 → G cd_X11_product Q X 2 [(0, (2, v0)), (1, (2, v1)), (2, (2, v2)), (3, (0, v3))] [] ε μ) : G cd_X11_product Q X 0 [(0, (2, v0)), (1, (2, v1)), (2, (2, v2))] [] ε μ := by
  refine G_run (m_in [2, 23, 47, 65, 75, 90, 96, 127, 133, 156]) 21 _ _ _ _ ?_
  show m_ty [(0, (2, v0)), (1, (2, v1)), (2, (2, v2))] [] ε μ → ∀ v3 : Int, v3 = 0 → G cd_X11_product Q X 2 [(0, (2, v0)), (1, (2, v1)), (2, (2, v2)), (3, (0, v3))] [] ε μ
  intro hty
  replace h := h hty.1 
  intro v3 e_v3
  replace h := h v3 e_v3
  exact h
theorem e_X11_product {Q X : m_Po} {v0 v1 v2 : Int} {ε : m_E} {μ : m_M} (h : TY ε μ → ∀ v3 : Int, v3 = 0 → G cd_X11_product Q X 2 [(0, (2, v0)), (1, (2, v1)), (2, (2, v2)), (3, (0, v3))] [] ε μ) : o_X11_product [(2, v0), (2, v1), (2, v2)] ε μ Q X := And.intro rfl (g_X11_product_0 h)
/-! ArchYardModel$Big.half()V -/
set_option maxRecDepth 20000 in
theorem g_X11_half_42 {Q X : m_Po} {v0 v1 t t_1 t_2 t_3 : Int} {ε : m_E} {μ : m_M} (h : TY ε μ → i32 v1 → i32 t_1 → i32 t_2 → i32 t_3 → kd ε t = 100 ∧ (0 : Int) ≤ t_1 ∧ t_1 < ln ε t ∧ ∀ μ_1 : m_M, μ_1 = st μ t t_1 (o_or32 t_2 t_3) → ∀ v1_1 : Int, v1_1 = w32 (v1 + 1) → G cd_X11_half Q X 2 [(0, (2, v0)), (1, (0, v1_1))] [] ε μ_1) : G cd_X11_half Q X 42 [(0, (2, v0)), (1, (0, v1))] [(0, t_3), (0, t_2), (0, t_1), (2, t)] ε μ := by
  refine G_run (m_in [2, 42]) 8 _ _ _ _ ?_
  show m_ty [(0, (2, v0)), (1, (0, v1))] [(0, t_3), (0, t_2), (0, t_1), (2, t)] ε μ → (kd ε t = 100) ∧ ((0 : Int) ≤ t_1 ∧ t_1 < ln ε t) ∧ ∀ μ_1 : m_M, μ_1 = st μ t t_1 (o_or32 t_2 t_3) → ∀ v1_1 : Int, v1_1 = w32 (v1 + 1) → G cd_X11_half Q X 2 [(0, (2, v0)), (1, (0, v1_1))] [] ε μ_1
  intro hty
  replace h := h hty.1 (hty.2.1 _ (List.mem_of_getElem? (i := 1) rfl)) (hty.2.2 _ (List.mem_of_getElem? (i := 2) rfl)) (hty.2.2 _ (List.mem_of_getElem? (i := 1) rfl)) (hty.2.2 _ (List.mem_of_getElem? (i := 0) rfl))
  obtain ⟨k1, h⟩ := h
  refine And.intro k1 ?_
  obtain ⟨k2, h⟩ := h
  obtain ⟨k3, h⟩ := h
  refine And.intro (And.intro k2 k3) ?_
  intro μ_1 e_μ_1
  replace h := h μ_1 e_μ_1
  intro v1_1 e_v1_1
  replace h := h v1_1 e_v1_1
  exact h
set_option maxRecDepth 20000 in
theorem g_X11_half_2 {Q X : m_Po} {v0 v1 : Int} {ε : m_E} {μ : m_M} (h : TY ε μ → i32 v1 → ((12 : Int) ≤ v1 → Q 0 ε μ) ∧ (v1 < (12 : Int) → kd ε v0 = 10 ∧ kd ε (fn ε v0 0) = 100 ∧ (0 : Int) ≤ v1 ∧ v1 < ln ε (fn ε v0 0) ∧ ((v1 < (11 : Int) → (0 : Int) ≤ w32 (v1 + 1) ∧ w32 (v1 + 1) < ln ε (fn ε v0 0))) ∧ ∀ t : Int, t = (if (11 : Int) ≤ v1 then 0 else o_shl32 (μ (fn ε v0 0) (w32 (v1 + 1))) 31) → kd ε (fn ε v0 0) = 100 ∧ (0 : Int) ≤ v1 ∧ v1 < ln ε (fn ε v0 0) ∧ ∀ μ_1 : m_M, μ_1 = st μ (fn ε v0 0) v1 (o_or32 (o_ushr32 (μ (fn ε v0 0) v1) 1) t) → ∀ v1_1 : Int, v1_1 = w32 (v1 + 1) → G cd_X11_half Q X 2 [(0, (2, v0)), (1, (0, v1_1))] [] ε μ_1)) : G cd_X11_half Q X 2 [(0, (2, v0)), (1, (0, v1))] [] ε μ := by
  refine G_run (m_in [2, 42]) 8 _ _ _ _ ?_
  show m_ty [(0, (2, v0)), (1, (0, v1))] [] ε μ → ((12 : Int) ≤ v1 → (m_ty [] [] ε μ → Q 0 ε μ)) ∧ (v1 < (12 : Int) → (m_ty [(0, (2, v0)), (1, (0, v1))] [] ε μ → (kd ε v0 = 10) ∧ (kd ε v0 = 10) ∧ (kd ε (fn ε v0 0) = 100) ∧ ((0 : Int) ≤ v1 ∧ v1 < ln ε (fn ε v0 0)) ∧ ((11 : Int) ≤ v1 → (m_ty [(0, (2, v0)), (1, (0, v1))] [(0, o_ushr32 (μ (fn ε v0 0) v1) 1), (0, v1), (2, fn ε v0 0)] ε μ → G cd_X11_half Q X 42 [(0, (2, v0)), (1, (0, v1))] [(0, 0), (0, o_ushr32 (μ (fn ε v0 0) v1) 1), (0, v1), (2, fn ε v0 0)] ε μ)) ∧ (v1 < (11 : Int) → (m_ty [(0, (2, v0)), (1, (0, v1))] [(0, o_ushr32 (μ (fn ε v0 0) v1) 1), (0, v1), (2, fn ε v0 0)] ε μ → (kd ε v0 = 10) ∧ (kd ε (fn ε v0 0) = 100) ∧ ((0 : Int) ≤ w32 (v1 + 1) ∧ w32 (v1 + 1) < ln ε (fn ε v0 0)) ∧ G cd_X11_half Q X 42 [(0, (2, v0)), (1, (0, v1))] [(0, o_shl32 (μ (fn ε v0 0) (w32 (v1 + 1))) 31), (0, o_ushr32 (μ (fn ε v0 0) v1) 1), (0, v1), (2, fn ε v0 0)] ε μ))))
  intro hty
  replace h := h hty.1 (hty.2.1 _ (List.mem_of_getElem? (i := 1) rfl))
  obtain ⟨ha, hb⟩ := h
  refine And.intro (fun c10 => ?_) (fun c10 => ?_)
  · replace h := ha c10
    clear ha hb
    intro _
    exact h
  · replace h := hb c10
    clear ha hb
    intro _
    obtain ⟨k1, h⟩ := h
    refine And.intro k1 ?_
    refine And.intro k1 ?_
    obtain ⟨k2, h⟩ := h
    refine And.intro k2 ?_
    obtain ⟨k3, h⟩ := h
    obtain ⟨k4, h⟩ := h
    refine And.intro (And.intro k3 k4) ?_
    obtain ⟨hc, hj⟩ := h
    refine And.intro (fun c4 => ?_) (fun c4 => ?_)
    · intro _
      exact g_X11_half_42 (fun _ _ _ _ _ => (hj _ (((if_pos c4).trans rfl)).symm))
    · replace hc := hc c4
      intro _
      obtain ⟨k6, k7⟩ := hc
      refine And.intro k1 ?_
      refine And.intro k2 ?_
      refine And.intro (And.intro k6 k7) ?_
      exact g_X11_half_42 (fun _ _ _ _ _ => (hj _ (((if_neg (Int.not_le.mpr c4)).trans rfl)).symm))
set_option maxRecDepth 20000 in
theorem g_X11_half_0 {Q X : m_Po} {v0 : Int} {ε : m_E} {μ : m_M} (h : TY ε μ → ∀ v1 : Int, v1 = 0 → G cd_X11_half Q X 2 [(0, (2, v0)), (1, (0, v1))] [] ε μ) : G cd_X11_half Q X 0 [(0, (2, v0))] [] ε μ := by
  refine G_run (m_in [2, 42]) 8 _ _ _ _ ?_
  show m_ty [(0, (2, v0))] [] ε μ → ∀ v1 : Int, v1 = 0 → G cd_X11_half Q X 2 [(0, (2, v0)), (1, (0, v1))] [] ε μ
  intro hty
  replace h := h hty.1 
  intro v1 e_v1
  replace h := h v1 e_v1
  exact h
theorem e_X11_half {Q X : m_Po} {v0 : Int} {ε : m_E} {μ : m_M} (h : TY ε μ → ∀ v1 : Int, v1 = 0 → G cd_X11_half Q X 2 [(0, (2, v0)), (1, (0, v1))] [] ε μ) : o_X11_half [(2, v0)] ε μ Q X := And.intro rfl (g_X11_half_0 h)
/-! ArchYardModel$Big.twice()V -/
set_option maxRecDepth 20000 in
theorem g_X11_twice_39 {Q X : m_Po} {v0 v1 t t_1 t_2 t_3 : Int} {ε : m_E} {μ : m_M} (h : TY ε μ → i32 v1 → i32 t_1 → i32 t_2 → i32 t_3 → kd ε t = 100 ∧ (0 : Int) ≤ t_1 ∧ t_1 < ln ε t ∧ ∀ μ_1 : m_M, μ_1 = st μ t t_1 (o_or32 t_2 t_3) → ∀ v1_1 : Int, v1_1 = w32 (v1 + (-1)) → G cd_X11_twice Q X 3 [(0, (2, v0)), (1, (0, v1_1))] [] ε μ_1) : G cd_X11_twice Q X 39 [(0, (2, v0)), (1, (0, v1))] [(0, t_3), (0, t_2), (0, t_1), (2, t)] ε μ := by
  refine G_run (m_in [3, 39]) 8 _ _ _ _ ?_
  show m_ty [(0, (2, v0)), (1, (0, v1))] [(0, t_3), (0, t_2), (0, t_1), (2, t)] ε μ → (kd ε t = 100) ∧ ((0 : Int) ≤ t_1 ∧ t_1 < ln ε t) ∧ ∀ μ_1 : m_M, μ_1 = st μ t t_1 (o_or32 t_2 t_3) → ∀ v1_1 : Int, v1_1 = w32 (v1 + (-1)) → G cd_X11_twice Q X 3 [(0, (2, v0)), (1, (0, v1_1))] [] ε μ_1
  intro hty
  replace h := h hty.1 (hty.2.1 _ (List.mem_of_getElem? (i := 1) rfl)) (hty.2.2 _ (List.mem_of_getElem? (i := 2) rfl)) (hty.2.2 _ (List.mem_of_getElem? (i := 1) rfl)) (hty.2.2 _ (List.mem_of_getElem? (i := 0) rfl))
  obtain ⟨k1, h⟩ := h
  refine And.intro k1 ?_
  obtain ⟨k2, h⟩ := h
  obtain ⟨k3, h⟩ := h
  refine And.intro (And.intro k2 k3) ?_
  intro μ_1 e_μ_1
  replace h := h μ_1 e_μ_1
  intro v1_1 e_v1_1
  replace h := h v1_1 e_v1_1
  exact h
set_option maxRecDepth 20000 in
theorem g_X11_twice_3 {Q X : m_Po} {v0 v1 : Int} {ε : m_E} {μ : m_M} (h : TY ε μ → i32 v1 → (v1 < 0 → Q 0 ε μ) ∧ (0 ≤ v1 → kd ε v0 = 10 ∧ kd ε (fn ε v0 0) = 100 ∧ (0 : Int) ≤ v1 ∧ v1 < ln ε (fn ε v0 0) ∧ ((0 < v1 → (0 : Int) ≤ w32 (v1 - 1) ∧ w32 (v1 - 1) < ln ε (fn ε v0 0))) ∧ ∀ t : Int, t = (if v1 ≤ 0 then 0 else o_ushr32 (μ (fn ε v0 0) (w32 (v1 - 1))) 31) → kd ε (fn ε v0 0) = 100 ∧ (0 : Int) ≤ v1 ∧ v1 < ln ε (fn ε v0 0) ∧ ∀ μ_1 : m_M, μ_1 = st μ (fn ε v0 0) v1 (o_or32 (o_shl32 (μ (fn ε v0 0) v1) 1) t) → ∀ v1_1 : Int, v1_1 = w32 (v1 + (-1)) → G cd_X11_twice Q X 3 [(0, (2, v0)), (1, (0, v1_1))] [] ε μ_1)) : G cd_X11_twice Q X 3 [(0, (2, v0)), (1, (0, v1))] [] ε μ := by
  refine G_run (m_in [3, 39]) 8 _ _ _ _ ?_
  show m_ty [(0, (2, v0)), (1, (0, v1))] [] ε μ → (v1 < 0 → (m_ty [] [] ε μ → Q 0 ε μ)) ∧ (0 ≤ v1 → (m_ty [(0, (2, v0)), (1, (0, v1))] [] ε μ → (kd ε v0 = 10) ∧ (kd ε v0 = 10) ∧ (kd ε (fn ε v0 0) = 100) ∧ ((0 : Int) ≤ v1 ∧ v1 < ln ε (fn ε v0 0)) ∧ (v1 ≤ 0 → (m_ty [(0, (2, v0)), (1, (0, v1))] [(0, o_shl32 (μ (fn ε v0 0) v1) 1), (0, v1), (2, fn ε v0 0)] ε μ → G cd_X11_twice Q X 39 [(0, (2, v0)), (1, (0, v1))] [(0, 0), (0, o_shl32 (μ (fn ε v0 0) v1) 1), (0, v1), (2, fn ε v0 0)] ε μ)) ∧ (0 < v1 → (m_ty [(0, (2, v0)), (1, (0, v1))] [(0, o_shl32 (μ (fn ε v0 0) v1) 1), (0, v1), (2, fn ε v0 0)] ε μ → (kd ε v0 = 10) ∧ (kd ε (fn ε v0 0) = 100) ∧ ((0 : Int) ≤ w32 (v1 - 1) ∧ w32 (v1 - 1) < ln ε (fn ε v0 0)) ∧ G cd_X11_twice Q X 39 [(0, (2, v0)), (1, (0, v1))] [(0, o_ushr32 (μ (fn ε v0 0) (w32 (v1 - 1))) 31), (0, o_shl32 (μ (fn ε v0 0) v1) 1), (0, v1), (2, fn ε v0 0)] ε μ))))
  intro hty
  replace h := h hty.1 (hty.2.1 _ (List.mem_of_getElem? (i := 1) rfl))
  obtain ⟨ha, hb⟩ := h
  refine And.intro (fun c10 => ?_) (fun c10 => ?_)
  · replace h := ha c10
    clear ha hb
    intro _
    exact h
  · replace h := hb c10
    clear ha hb
    intro _
    obtain ⟨k1, h⟩ := h
    refine And.intro k1 ?_
    refine And.intro k1 ?_
    obtain ⟨k2, h⟩ := h
    refine And.intro k2 ?_
    obtain ⟨k3, h⟩ := h
    obtain ⟨k4, h⟩ := h
    refine And.intro (And.intro k3 k4) ?_
    obtain ⟨hc, hj⟩ := h
    refine And.intro (fun c4 => ?_) (fun c4 => ?_)
    · intro _
      exact g_X11_twice_39 (fun _ _ _ _ _ => (hj _ (((if_pos c4).trans rfl)).symm))
    · replace hc := hc c4
      intro _
      obtain ⟨k6, k7⟩ := hc
      refine And.intro k1 ?_
      refine And.intro k2 ?_
      refine And.intro (And.intro k6 k7) ?_
      exact g_X11_twice_39 (fun _ _ _ _ _ => (hj _ (((if_neg (Int.not_le.mpr c4)).trans rfl)).symm))
set_option maxRecDepth 20000 in
theorem g_X11_twice_0 {Q X : m_Po} {v0 : Int} {ε : m_E} {μ : m_M} (h : TY ε μ → ∀ v1 : Int, v1 = 11 → G cd_X11_twice Q X 3 [(0, (2, v0)), (1, (0, v1))] [] ε μ) : G cd_X11_twice Q X 0 [(0, (2, v0))] [] ε μ := by
  refine G_run (m_in [3, 39]) 8 _ _ _ _ ?_
  show m_ty [(0, (2, v0))] [] ε μ → ∀ v1 : Int, v1 = 11 → G cd_X11_twice Q X 3 [(0, (2, v0)), (1, (0, v1))] [] ε μ
  intro hty
  replace h := h hty.1 
  intro v1 e_v1
  replace h := h v1 e_v1
  exact h
theorem e_X11_twice {Q X : m_Po} {v0 : Int} {ε : m_E} {μ : m_M} (h : TY ε μ → ∀ v1 : Int, v1 = 11 → G cd_X11_twice Q X 3 [(0, (2, v0)), (1, (0, v1))] [] ε μ) : o_X11_twice [(2, v0)] ε μ Q X := And.intro rfl (g_X11_twice_0 h)
/-! ArchYardModel$Big.parts(I)I -/
set_option maxRecDepth 20000 in
theorem g_X11_parts_44 {Q X : m_Po} {v0 v1 v2 v4 : Int} {ε : m_E} {μ : m_M} (h : TY ε μ → i32 v1 → i64 v2 → i32 v4 → ∀ v4_1 : Int, v4_1 = w32 (v4 + (-1)) → G cd_X11_parts Q X 6 [(0, (2, v0)), (1, (0, v1)), (2, (1, v2)), (4, (0, v4_1))] [] ε μ) : G cd_X11_parts Q X 44 [(0, (2, v0)), (1, (0, v1)), (2, (1, v2)), (4, (0, v4))] [] ε μ := by
  refine G_run (m_in [6, 25, 44]) 7 _ _ _ _ ?_
  show m_ty [(0, (2, v0)), (1, (0, v1)), (2, (1, v2)), (4, (0, v4))] [] ε μ → ∀ v4_1 : Int, v4_1 = w32 (v4 + (-1)) → G cd_X11_parts Q X 6 [(0, (2, v0)), (1, (0, v1)), (2, (1, v2)), (4, (0, v4_1))] [] ε μ
  intro hty
  replace h := h hty.1 (hty.2.1 _ (List.mem_of_getElem? (i := 1) rfl)) (hty.2.1 _ (List.mem_of_getElem? (i := 2) rfl)) (hty.2.1 _ (List.mem_of_getElem? (i := 3) rfl))
  intro v4_1 e_v4_1
  replace h := h v4_1 e_v4_1
  exact h
set_option maxRecDepth 20000 in
theorem g_X11_parts_25 {Q X : m_Po} {v0 v1 v4 t t_1 : Int} {ε : m_E} {μ : m_M} (h : TY ε μ → i32 v1 → i32 v4 → i64 t → i64 t_1 → ∀ v2 : Int, v2 = o_or64 t t_1 → kd ε v0 = 10 ∧ v1 ≠ 0 ∧ kd ε (fn ε v0 0) = 100 ∧ (0 : Int) ≤ v4 ∧ v4 < ln ε (fn ε v0 0) ∧ ∀ μ_1 : m_M, μ_1 = st μ (fn ε v0 0) v4 (w32 (w64 (Int.tdiv v2 v1))) → ∀ v2_1 : Int, v2_1 = Int.tmod v2 v1 → ∀ v4_1 : Int, v4_1 = w32 (v4 + (-1)) → G cd_X11_parts Q X 6 [(0, (2, v0)), (1, (0, v1)), (2, (1, v2_1)), (4, (0, v4_1))] [] ε μ_1) : G cd_X11_parts Q X 25 [(0, (2, v0)), (1, (0, v1)), (4, (0, v4))] [(1, t_1), (1, t)] ε μ := by
  refine G_run (m_in [6, 25, 44]) 7 _ _ _ _ ?_
  show m_ty [(0, (2, v0)), (1, (0, v1)), (4, (0, v4))] [(1, t_1), (1, t)] ε μ → ∀ v2 : Int, v2 = o_or64 t t_1 → (kd ε v0 = 10) ∧ (v1 ≠ 0) ∧ (kd ε (fn ε v0 0) = 100) ∧ ((0 : Int) ≤ v4 ∧ v4 < ln ε (fn ε v0 0)) ∧ ∀ μ_1 : m_M, μ_1 = st μ (fn ε v0 0) v4 (w32 (w64 (Int.tdiv v2 v1))) → (v1 ≠ 0) ∧ ∀ v2_1 : Int, v2_1 = Int.tmod v2 v1 → G cd_X11_parts Q X 44 [(0, (2, v0)), (1, (0, v1)), (2, (1, v2_1)), (4, (0, v4))] [] ε μ_1
  intro hty
  replace h := h hty.1 (hty.2.1 _ (List.mem_of_getElem? (i := 1) rfl)) (hty.2.1 _ (List.mem_of_getElem? (i := 2) rfl)) (hty.2.2 _ (List.mem_of_getElem? (i := 1) rfl)) (hty.2.2 _ (List.mem_of_getElem? (i := 0) rfl))
  intro v2 e_v2
  replace h := h v2 e_v2
  obtain ⟨k1, h⟩ := h
  refine And.intro k1 ?_
  obtain ⟨k2, h⟩ := h
  refine And.intro k2 ?_
  obtain ⟨k3, h⟩ := h
  refine And.intro k3 ?_
  obtain ⟨k4, h⟩ := h
  obtain ⟨k5, h⟩ := h
  refine And.intro (And.intro k4 k5) ?_
  intro μ_1 e_μ_1
  replace h := h μ_1 e_μ_1
  refine And.intro k2 ?_
  intro v2_1 e_v2_1
  replace h := h v2_1 e_v2_1
  exact g_X11_parts_44 (fun _ _ _ _ => h)
set_option maxRecDepth 20000 in
theorem g_X11_parts_6 {Q X : m_Po} {v0 v1 v2 v4 : Int} {ε : m_E} {μ : m_M} (h : TY ε μ → i32 v1 → i64 v2 → i32 v4 → (v4 < 0 → Q (w32 v2) ε μ) ∧ (0 ≤ v4 → kd ε v0 = 10 ∧ kd ε (fn ε v0 0) = 100 ∧ (0 : Int) ≤ v4 ∧ v4 < ln ε (fn ε v0 0) ∧ o_X11_low [(0, μ (fn ε v0 0) v4)] ε μ (fun z ε_1 μ_1 => G cd_X11_parts Q X 25 [(0, (2, v0)), (1, (0, v1)), (4, (0, v4))] [(1, z), (1, o_shl64 v2 32)] ε_1 μ_1) m_F)) : G cd_X11_parts Q X 6 [(0, (2, v0)), (1, (0, v1)), (2, (1, v2)), (4, (0, v4))] [] ε μ := by
  refine G_run (m_in [6, 25, 44]) 7 _ _ _ _ ?_
  show m_ty [(0, (2, v0)), (1, (0, v1)), (2, (1, v2)), (4, (0, v4))] [] ε μ → (v4 < 0 → (m_ty [(2, (1, v2))] [] ε μ → Q (w32 v2) ε μ)) ∧ (0 ≤ v4 → (m_ty [(0, (2, v0)), (1, (0, v1)), (2, (1, v2)), (4, (0, v4))] [] ε μ → (kd ε v0 = 10) ∧ (kd ε (fn ε v0 0) = 100) ∧ ((0 : Int) ≤ v4 ∧ v4 < ln ε (fn ε v0 0)) ∧ o_X11_low [(0, μ (fn ε v0 0) v4)] ε μ (fun z ε_1 μ_1 => G cd_X11_parts Q X 25 [(0, (2, v0)), (1, (0, v1)), (4, (0, v4))] [(1, z), (1, o_shl64 v2 32)] ε_1 μ_1) m_F))
  intro hty
  replace h := h hty.1 (hty.2.1 _ (List.mem_of_getElem? (i := 1) rfl)) (hty.2.1 _ (List.mem_of_getElem? (i := 2) rfl)) (hty.2.1 _ (List.mem_of_getElem? (i := 3) rfl))
  obtain ⟨ha, hb⟩ := h
  refine And.intro (fun c4 => ?_) (fun c4 => ?_)
  · replace h := ha c4
    clear ha hb
    intro _
    exact h
  · replace h := hb c4
    clear ha hb
    intro _
    obtain ⟨k1, h⟩ := h
    refine And.intro k1 ?_
    obtain ⟨k2, h⟩ := h
    refine And.intro k2 ?_
    obtain ⟨k3, h⟩ := h
    obtain ⟨k4, h⟩ := h
    refine And.intro (And.intro k3 k4) ?_
    exact h
set_option maxRecDepth 20000 in
theorem g_X11_parts_0 {Q X : m_Po} {v0 v1 : Int} {ε : m_E} {μ : m_M} (h : TY ε μ → i32 v1 → ∀ v2 : Int, v2 = 0 → ∀ v4 : Int, v4 = 11 → G cd_X11_parts Q X 6 [(0, (2, v0)), (1, (0, v1)), (2, (1, v2)), (4, (0, v4))] [] ε μ) : G cd_X11_parts Q X 0 [(0, (2, v0)), (1, (0, v1))] [] ε μ := by
  refine G_run (m_in [6, 25, 44]) 7 _ _ _ _ ?_
  show m_ty [(0, (2, v0)), (1, (0, v1))] [] ε μ → ∀ v2 : Int, v2 = 0 → ∀ v4 : Int, v4 = 11 → G cd_X11_parts Q X 6 [(0, (2, v0)), (1, (0, v1)), (2, (1, v2)), (4, (0, v4))] [] ε μ
  intro hty
  replace h := h hty.1 (hty.2.1 _ (List.mem_of_getElem? (i := 1) rfl))
  intro v2 e_v2
  replace h := h v2 e_v2
  intro v4 e_v4
  replace h := h v4 e_v4
  exact h
theorem e_X11_parts {Q X : m_Po} {v0 v1 : Int} {ε : m_E} {μ : m_M} (h : TY ε μ → i32 v1 → ∀ v2 : Int, v2 = 0 → ∀ v4 : Int, v4 = 11 → G cd_X11_parts Q X 6 [(0, (2, v0)), (1, (0, v1)), (2, (1, v2)), (4, (0, v4))] [] ε μ) : o_X11_parts [(2, v0), (0, v1)] ε μ Q X := And.intro rfl (g_X11_parts_0 h)
/-! ArchYardModel.<init>()V -/
set_option maxRecDepth 20000 in
theorem g_X12_init_641 {Q X : m_Po} {v0 t t_1 t_2 t_3 t_4 : Int} {ε : m_E} {μ : m_M} (h : TY ε μ → i32 t_3 → kd ε t_2 = 107 ∧ (0 : Int) ≤ t_3 ∧ t_3 < ln ε t_2 ∧ (t_4 = 0 ∨ kd ε t_4 = 10) ∧ ∀ μ_1 : m_M, μ_1 = st μ t_2 t_3 t_4 → kd ε t = 11 ∧ ∀ ε_1 : m_E, ε_1 = efin ε t 58 t_1 → ∀ (a : Int) (ε_2 : m_E) (μ_2 : m_M), a = nx ε_1 → ε_2 = ealloc ε_1 101 4 → μ_2 = mnew μ_1 a → kd ε_2 v0 = 11 ∧ ∀ ε_3 : m_E, ε_3 = efin ε_2 v0 60 a → ∀ (a_1 : Int) (ε_4 : m_E) (μ_3 : m_M), a_1 = nx ε_3 → ε_4 = ealloc ε_3 100 4 → μ_3 = mnew μ_2 a_1 → kd ε_4 v0 = 11 ∧ ∀ ε_5 : m_E, ε_5 = efin ε_4 v0 61 a_1 → ∀ (a_2 : Int) (ε_6 : m_E) (μ_4 : m_M), a_2 = nx ε_5 → ε_6 = ealloc ε_5 102 400 → μ_4 = mnew μ_3 a_2 → kd ε_6 v0 = 11 ∧ ∀ ε_7 : m_E, ε_7 = efin ε_6 v0 62 a_2 → ∀ (a_3 : Int) (ε_8 : m_E) (μ_5 : m_M), a_3 = nx ε_7 → ε_8 = ealloc ε_7 100 10 → μ_5 = mnew μ_4 a_3 → kd ε_8 v0 = 11 ∧ ∀ ε_9 : m_E, ε_9 = efin ε_8 v0 64 a_3 → ∀ (a_4 : Int) (ε_10 : m_E) (μ_6 : m_M), a_4 = nx ε_9 → ε_10 = ealloc ε_9 100 100 → μ_6 = mnew μ_5 a_4 → kd ε_10 v0 = 11 ∧ ∀ ε_11 : m_E, ε_11 = efin ε_10 v0 65 a_4 → kd ε_11 v0 = 11 ∧ ∀ μ_7 : m_M, μ_7 = st μ_6 v0 66 (-1) → Q 0 ε_11 μ_7) : G cd_X12_init Q X 641 [(0, (2, v0))] [(2, t_4), (0, t_3), (2, t_2), (2, t_1), (2, t)] ε μ := by
  refine G_run (m_in [64, 127, 189, 251, 264, 274, 284, 294, 306, 317, 362, 372, 382, 392, 402, 412, 431, 441, 451, 461, 471, 481, 500, 510, 520, 530, 540, 550, 561, 601, 611, 621, 631, 641]) 36 _ _ _ _ ?_
  show m_ty [(0, (2, v0))] [(2, t_4), (0, t_3), (2, t_2), (2, t_1), (2, t)] ε μ → (kd ε t_2 = 107) ∧ ((0 : Int) ≤ t_3 ∧ t_3 < ln ε t_2) ∧ (t_4 = 0 ∨ kd ε t_4 = 10) ∧ ∀ μ_1 : m_M, μ_1 = st μ t_2 t_3 t_4 → (kd ε t = 11) ∧ ∀ ε_1 : m_E, ε_1 = efin ε t 58 t_1 → ((0 : Int) ≤ 4 ∧ (4 : Int) ≤ 4) ∧ ∀ (a : Int) (ε_2 : m_E) (μ_2 : m_M), a = nx ε_1 → ε_2 = ealloc ε_1 101 4 → μ_2 = mnew μ_1 a → (kd ε_2 v0 = 11) ∧ ∀ ε_3 : m_E, ε_3 = efin ε_2 v0 60 a → ((0 : Int) ≤ 4 ∧ (4 : Int) ≤ 4) ∧ ∀ (a_1 : Int) (ε_4 : m_E) (μ_3 : m_M), a_1 = nx ε_3 → ε_4 = ealloc ε_3 100 4 → μ_3 = mnew μ_2 a_1 → (kd ε_4 v0 = 11) ∧ ∀ ε_5 : m_E, ε_5 = efin ε_4 v0 61 a_1 → ((0 : Int) ≤ 400 ∧ (400 : Int) ≤ 400) ∧ ∀ (a_2 : Int) (ε_6 : m_E) (μ_4 : m_M), a_2 = nx ε_5 → ε_6 = ealloc ε_5 102 400 → μ_4 = mnew μ_3 a_2 → (kd ε_6 v0 = 11) ∧ ∀ ε_7 : m_E, ε_7 = efin ε_6 v0 62 a_2 → ((0 : Int) ≤ 10 ∧ (10 : Int) ≤ 10) ∧ ∀ (a_3 : Int) (ε_8 : m_E) (μ_5 : m_M), a_3 = nx ε_7 → ε_8 = ealloc ε_7 100 10 → μ_5 = mnew μ_4 a_3 → (kd ε_8 v0 = 11) ∧ ∀ ε_9 : m_E, ε_9 = efin ε_8 v0 64 a_3 → ((0 : Int) ≤ 100 ∧ (100 : Int) ≤ 100) ∧ ∀ (a_4 : Int) (ε_10 : m_E) (μ_6 : m_M), a_4 = nx ε_9 → ε_10 = ealloc ε_9 100 100 → μ_6 = mnew μ_5 a_4 → (kd ε_10 v0 = 11) ∧ ∀ ε_11 : m_E, ε_11 = efin ε_10 v0 65 a_4 → (kd ε_11 v0 = 11) ∧ ∀ μ_7 : m_M, μ_7 = st μ_6 v0 66 (-1) → Q 0 ε_11 μ_7
  intro hty
  replace h := h hty.1 (hty.2.2 _ (List.mem_of_getElem? (i := 1) rfl))
  obtain ⟨k1, h⟩ := h
  refine And.intro k1 ?_
  obtain ⟨k2, h⟩ := h
  obtain ⟨k3, h⟩ := h
  refine And.intro (And.intro k2 k3) ?_
  obtain ⟨k4, h⟩ := h
  refine And.intro k4 ?_
  intro μ_1 e_μ_1
  replace h := h μ_1 e_μ_1
  obtain ⟨k5, h⟩ := h
  refine And.intro k5 ?_
  intro ε_1 e_ε_1
  replace h := h ε_1 e_ε_1
  refine And.intro (And.intro (by decide) (by decide)) ?_
  intro a ε_2 μ_2 e_a e_ε_2 e_μ_2
  replace h := h a ε_2 μ_2 e_a e_ε_2 e_μ_2
  obtain ⟨k6, h⟩ := h
  refine And.intro k6 ?_
  intro ε_3 e_ε_3
  replace h := h ε_3 e_ε_3
  refine And.intro (And.intro (by decide) (by decide)) ?_
  intro a_1 ε_4 μ_3 e_a_1 e_ε_4 e_μ_3
  replace h := h a_1 ε_4 μ_3 e_a_1 e_ε_4 e_μ_3
  obtain ⟨k7, h⟩ := h
  refine And.intro k7 ?_
  intro ε_5 e_ε_5
  replace h := h ε_5 e_ε_5
  refine And.intro (And.intro (by decide) (by decide)) ?_
  intro a_2 ε_6 μ_4 e_a_2 e_ε_6 e_μ_4
  replace h := h a_2 ε_6 μ_4 e_a_2 e_ε_6 e_μ_4
  obtain ⟨k8, h⟩ := h
  refine And.intro k8 ?_
  intro ε_7 e_ε_7
  replace h := h ε_7 e_ε_7
  refine And.intro (And.intro (by decide) (by decide)) ?_
  intro a_3 ε_8 μ_5 e_a_3 e_ε_8 e_μ_5
  replace h := h a_3 ε_8 μ_5 e_a_3 e_ε_8 e_μ_5
  obtain ⟨k9, h⟩ := h
  refine And.intro k9 ?_
  intro ε_9 e_ε_9
  replace h := h ε_9 e_ε_9
  refine And.intro (And.intro (by decide) (by decide)) ?_
  intro a_4 ε_10 μ_6 e_a_4 e_ε_10 e_μ_6
  replace h := h a_4 ε_10 μ_6 e_a_4 e_ε_10 e_μ_6
  obtain ⟨k10, h⟩ := h
  refine And.intro k10 ?_
  intro ε_11 e_ε_11
  replace h := h ε_11 e_ε_11
  obtain ⟨k11, h⟩ := h
  refine And.intro k11 ?_
  intro μ_7 e_μ_7
  replace h := h μ_7 e_μ_7
  exact h
set_option maxRecDepth 20000 in
theorem g_X12_init_631 {Q X : m_Po} {v0 t t_1 t_2 t_3 t_4 : Int} {ε : m_E} {μ : m_M} (h : TY ε μ → i32 t_3 → kd ε t_2 = 107 ∧ (0 : Int) ≤ t_3 ∧ t_3 < ln ε t_2 ∧ (t_4 = 0 ∨ kd ε t_4 = 10) ∧ ∀ μ_1 : m_M, μ_1 = st μ t_2 t_3 t_4 → ∀ (a : Int) (ε_1 : m_E) (μ_2 : m_M), a = nx ε → ε_1 = ealloc ε 10 0 → μ_2 = mnew μ_1 a → kd ε_1 a = 10 ∧ o_X11_init [(2, a)] ε_1 μ_2 (fun z ε_2 μ_3 => G cd_X12_init Q X 641 [(0, (2, v0))] [(2, a), (0, 4), (2, t_1), (2, t_1), (2, t)] ε_2 μ_3) m_F) : G cd_X12_init Q X 631 [(0, (2, v0))] [(2, t_4), (0, t_3), (2, t_2), (2, t_1), (2, t)] ε μ := by
  refine G_run (m_in [64, 127, 189, 251, 264, 274, 284, 294, 306, 317, 362, 372, 382, 392, 402, 412, 431, 441, 451, 461, 471, 481, 500, 510, 520, 530, 540, 550, 561, 601, 611, 621, 631, 641]) 36 _ _ _ _ ?_
  show m_ty [(0, (2, v0))] [(2, t_4), (0, t_3), (2, t_2), (2, t_1), (2, t)] ε μ → (kd ε t_2 = 107) ∧ ((0 : Int) ≤ t_3 ∧ t_3 < ln ε t_2) ∧ (t_4 = 0 ∨ kd ε t_4 = 10) ∧ ∀ μ_1 : m_M, μ_1 = st μ t_2 t_3 t_4 → ∀ (a : Int) (ε_1 : m_E) (μ_2 : m_M), a = nx ε → ε_1 = ealloc ε 10 0 → μ_2 = mnew μ_1 a → (kd ε_1 a = 10) ∧ o_X11_init [(2, a)] ε_1 μ_2 (fun z ε_2 μ_3 => G cd_X12_init Q X 641 [(0, (2, v0))] [(2, a), (0, 4), (2, t_1), (2, t_1), (2, t)] ε_2 μ_3) m_F
  intro hty
  replace h := h hty.1 (hty.2.2 _ (List.mem_of_getElem? (i := 1) rfl))
  obtain ⟨k1, h⟩ := h
  refine And.intro k1 ?_
  obtain ⟨k2, h⟩ := h
  obtain ⟨k3, h⟩ := h
  refine And.intro (And.intro k2 k3) ?_
  obtain ⟨k4, h⟩ := h
  refine And.intro k4 ?_
  intro μ_1 e_μ_1
  replace h := h μ_1 e_μ_1
  intro a ε_1 μ_2 e_a e_ε_1 e_μ_2
  replace h := h a ε_1 μ_2 e_a e_ε_1 e_μ_2
  obtain ⟨k5, h⟩ := h
  refine And.intro k5 ?_
  exact h
set_option maxRecDepth 20000 in
theorem g_X12_init_621 {Q X : m_Po} {v0 t t_1 t_2 t_3 t_4 : Int} {ε : m_E} {μ : m_M} (h : TY ε μ → i32 t_3 → kd ε t_2 = 107 ∧ (0 : Int) ≤ t_3 ∧ t_3 < ln ε t_2 ∧ (t_4 = 0 ∨ kd ε t_4 = 10) ∧ ∀ μ_1 : m_M, μ_1 = st μ t_2 t_3 t_4 → ∀ (a : Int) (ε_1 : m_E) (μ_2 : m_M), a = nx ε → ε_1 = ealloc ε 10 0 → μ_2 = mnew μ_1 a → kd ε_1 a = 10 ∧ o_X11_init [(2, a)] ε_1 μ_2 (fun z ε_2 μ_3 => G cd_X12_init Q X 631 [(0, (2, v0))] [(2, a), (0, 3), (2, t_1), (2, t_1), (2, t)] ε_2 μ_3) m_F) : G cd_X12_init Q X 621 [(0, (2, v0))] [(2, t_4), (0, t_3), (2, t_2), (2, t_1), (2, t)] ε μ := by
  refine G_run (m_in [64, 127, 189, 251, 264, 274, 284, 294, 306, 317, 362, 372, 382, 392, 402, 412, 431, 441, 451, 461, 471, 481, 500, 510, 520, 530, 540, 550, 561, 601, 611, 621, 631, 641]) 36 _ _ _ _ ?_
  show m_ty [(0, (2, v0))] [(2, t_4), (0, t_3), (2, t_2), (2, t_1), (2, t)] ε μ → (kd ε t_2 = 107) ∧ ((0 : Int) ≤ t_3 ∧ t_3 < ln ε t_2) ∧ (t_4 = 0 ∨ kd ε t_4 = 10) ∧ ∀ μ_1 : m_M, μ_1 = st μ t_2 t_3 t_4 → ∀ (a : Int) (ε_1 : m_E) (μ_2 : m_M), a = nx ε → ε_1 = ealloc ε 10 0 → μ_2 = mnew μ_1 a → (kd ε_1 a = 10) ∧ o_X11_init [(2, a)] ε_1 μ_2 (fun z ε_2 μ_3 => G cd_X12_init Q X 631 [(0, (2, v0))] [(2, a), (0, 3), (2, t_1), (2, t_1), (2, t)] ε_2 μ_3) m_F
  intro hty
  replace h := h hty.1 (hty.2.2 _ (List.mem_of_getElem? (i := 1) rfl))
  obtain ⟨k1, h⟩ := h
  refine And.intro k1 ?_
  obtain ⟨k2, h⟩ := h
  obtain ⟨k3, h⟩ := h
  refine And.intro (And.intro k2 k3) ?_
  obtain ⟨k4, h⟩ := h
  refine And.intro k4 ?_
  intro μ_1 e_μ_1
  replace h := h μ_1 e_μ_1
  intro a ε_1 μ_2 e_a e_ε_1 e_μ_2
  replace h := h a ε_1 μ_2 e_a e_ε_1 e_μ_2
  obtain ⟨k5, h⟩ := h
  refine And.intro k5 ?_
  exact h
set_option maxRecDepth 20000 in
theorem g_X12_init_611 {Q X : m_Po} {v0 t t_1 t_2 t_3 t_4 : Int} {ε : m_E} {μ : m_M} (h : TY ε μ → i32 t_3 → kd ε t_2 = 107 ∧ (0 : Int) ≤ t_3 ∧ t_3 < ln ε t_2 ∧ (t_4 = 0 ∨ kd ε t_4 = 10) ∧ ∀ μ_1 : m_M, μ_1 = st μ t_2 t_3 t_4 → ∀ (a : Int) (ε_1 : m_E) (μ_2 : m_M), a = nx ε → ε_1 = ealloc ε 10 0 → μ_2 = mnew μ_1 a → kd ε_1 a = 10 ∧ o_X11_init [(2, a)] ε_1 μ_2 (fun z ε_2 μ_3 => G cd_X12_init Q X 621 [(0, (2, v0))] [(2, a), (0, 2), (2, t_1), (2, t_1), (2, t)] ε_2 μ_3) m_F) : G cd_X12_init Q X 611 [(0, (2, v0))] [(2, t_4), (0, t_3), (2, t_2), (2, t_1), (2, t)] ε μ := by
  refine G_run (m_in [64, 127, 189, 251, 264, 274, 284, 294, 306, 317, 362, 372, 382, 392, 402, 412, 431, 441, 451, 461, 471, 481, 500, 510, 520, 530, 540, 550, 561, 601, 611, 621, 631, 641]) 36 _ _ _ _ ?_
  show m_ty [(0, (2, v0))] [(2, t_4), (0, t_3), (2, t_2), (2, t_1), (2, t)] ε μ → (kd ε t_2 = 107) ∧ ((0 : Int) ≤ t_3 ∧ t_3 < ln ε t_2) ∧ (t_4 = 0 ∨ kd ε t_4 = 10) ∧ ∀ μ_1 : m_M, μ_1 = st μ t_2 t_3 t_4 → ∀ (a : Int) (ε_1 : m_E) (μ_2 : m_M), a = nx ε → ε_1 = ealloc ε 10 0 → μ_2 = mnew μ_1 a → (kd ε_1 a = 10) ∧ o_X11_init [(2, a)] ε_1 μ_2 (fun z ε_2 μ_3 => G cd_X12_init Q X 621 [(0, (2, v0))] [(2, a), (0, 2), (2, t_1), (2, t_1), (2, t)] ε_2 μ_3) m_F
  intro hty
  replace h := h hty.1 (hty.2.2 _ (List.mem_of_getElem? (i := 1) rfl))
  obtain ⟨k1, h⟩ := h
  refine And.intro k1 ?_
  obtain ⟨k2, h⟩ := h
  obtain ⟨k3, h⟩ := h
  refine And.intro (And.intro k2 k3) ?_
  obtain ⟨k4, h⟩ := h
  refine And.intro k4 ?_
  intro μ_1 e_μ_1
  replace h := h μ_1 e_μ_1
  intro a ε_1 μ_2 e_a e_ε_1 e_μ_2
  replace h := h a ε_1 μ_2 e_a e_ε_1 e_μ_2
  obtain ⟨k5, h⟩ := h
  refine And.intro k5 ?_
  exact h
set_option maxRecDepth 20000 in
theorem g_X12_init_601 {Q X : m_Po} {v0 t t_1 t_2 t_3 t_4 : Int} {ε : m_E} {μ : m_M} (h : TY ε μ → i32 t_3 → kd ε t_2 = 107 ∧ (0 : Int) ≤ t_3 ∧ t_3 < ln ε t_2 ∧ (t_4 = 0 ∨ kd ε t_4 = 10) ∧ ∀ μ_1 : m_M, μ_1 = st μ t_2 t_3 t_4 → ∀ (a : Int) (ε_1 : m_E) (μ_2 : m_M), a = nx ε → ε_1 = ealloc ε 10 0 → μ_2 = mnew μ_1 a → kd ε_1 a = 10 ∧ o_X11_init [(2, a)] ε_1 μ_2 (fun z ε_2 μ_3 => G cd_X12_init Q X 611 [(0, (2, v0))] [(2, a), (0, 1), (2, t_1), (2, t_1), (2, t)] ε_2 μ_3) m_F) : G cd_X12_init Q X 601 [(0, (2, v0))] [(2, t_4), (0, t_3), (2, t_2), (2, t_1), (2, t)] ε μ := by
  refine G_run (m_in [64, 127, 189, 251, 264, 274, 284, 294, 306, 317, 362, 372, 382, 392, 402, 412, 431, 441, 451, 461, 471, 481, 500, 510, 520, 530, 540, 550, 561, 601, 611, 621, 631, 641]) 36 _ _ _ _ ?_
  show m_ty [(0, (2, v0))] [(2, t_4), (0, t_3), (2, t_2), (2, t_1), (2, t)] ε μ → (kd ε t_2 = 107) ∧ ((0 : Int) ≤ t_3 ∧ t_3 < ln ε t_2) ∧ (t_4 = 0 ∨ kd ε t_4 = 10) ∧ ∀ μ_1 : m_M, μ_1 = st μ t_2 t_3 t_4 → ∀ (a : Int) (ε_1 : m_E) (μ_2 : m_M), a = nx ε → ε_1 = ealloc ε 10 0 → μ_2 = mnew μ_1 a → (kd ε_1 a = 10) ∧ o_X11_init [(2, a)] ε_1 μ_2 (fun z ε_2 μ_3 => G cd_X12_init Q X 611 [(0, (2, v0))] [(2, a), (0, 1), (2, t_1), (2, t_1), (2, t)] ε_2 μ_3) m_F
  intro hty
  replace h := h hty.1 (hty.2.2 _ (List.mem_of_getElem? (i := 1) rfl))
  obtain ⟨k1, h⟩ := h
  refine And.intro k1 ?_
  obtain ⟨k2, h⟩ := h
  obtain ⟨k3, h⟩ := h
  refine And.intro (And.intro k2 k3) ?_
  obtain ⟨k4, h⟩ := h
  refine And.intro k4 ?_
  intro μ_1 e_μ_1
  replace h := h μ_1 e_μ_1
  intro a ε_1 μ_2 e_a e_ε_1 e_μ_2
  replace h := h a ε_1 μ_2 e_a e_ε_1 e_μ_2
  obtain ⟨k5, h⟩ := h
  refine And.intro k5 ?_
  exact h
set_option maxRecDepth 20000 in
theorem g_X12_init_561 {Q X : m_Po} {v0 t t_1 t_2 t_3 t_4 : Int} {ε : m_E} {μ : m_M} (h : TY ε μ → i32 t_3 → kd ε t_2 = 107 ∧ (0 : Int) ≤ t_3 ∧ t_3 < ln ε t_2 ∧ (t_4 = 0 ∨ kd ε t_4 = 10) ∧ ∀ μ_1 : m_M, μ_1 = st μ t_2 t_3 t_4 → kd ε t = 11 ∧ ∀ ε_1 : m_E, ε_1 = efin ε t 52 t_1 → ∀ (a : Int) (ε_2 : m_E) (μ_2 : m_M), a = nx ε_1 → ε_2 = ealloc ε_1 100 96 → μ_2 = mnew μ_1 a → kd ε_2 v0 = 11 ∧ ∀ ε_3 : m_E, ε_3 = efin ε_2 v0 55 a → ∀ (a_1 : Int) (ε_4 : m_E) (μ_3 : m_M), a_1 = nx ε_3 → ε_4 = ealloc ε_3 100 2 → μ_3 = mnew μ_2 a_1 → kd ε_4 v0 = 11 ∧ ∀ ε_5 : m_E, ε_5 = efin ε_4 v0 56 a_1 → ∀ (a_2 : Int) (ε_6 : m_E) (μ_4 : m_M), a_2 = nx ε_5 → ε_6 = ealloc ε_5 100 4 → μ_4 = mnew μ_3 a_2 → kd ε_6 v0 = 11 ∧ ∀ ε_7 : m_E, ε_7 = efin ε_6 v0 57 a_2 → ∀ (a_3 : Int) (ε_8 : m_E) (μ_5 : m_M), a_3 = nx ε_7 → ε_8 = ealloc ε_7 107 5 → μ_5 = mnew μ_4 a_3 → ∀ (a_4 : Int) (ε_9 : m_E) (μ_6 : m_M), a_4 = nx ε_8 → ε_9 = ealloc ε_8 10 0 → μ_6 = mnew μ_5 a_4 → kd ε_9 a_4 = 10 ∧ o_X11_init [(2, a_4)] ε_9 μ_6 (fun z ε_10 μ_7 => G cd_X12_init Q X 601 [(0, (2, v0))] [(2, a_4), (0, 0), (2, a_3), (2, a_3), (2, v0)] ε_10 μ_7) m_F) : G cd_X12_init Q X 561 [(0, (2, v0))] [(2, t_4), (0, t_3), (2, t_2), (2, t_1), (2, t)] ε μ := by
  refine G_run (m_in [64, 127, 189, 251, 264, 274, 284, 294, 306, 317, 362, 372, 382, 392, 402, 412, 431, 441, 451, 461, 471, 481, 500, 510, 520, 530, 540, 550, 561, 601, 611, 621, 631, 641]) 36 _ _ _ _ ?_
  show m_ty [(0, (2, v0))] [(2, t_4), (0, t_3), (2, t_2), (2, t_1), (2, t)] ε μ → (kd ε t_2 = 107) ∧ ((0 : Int) ≤ t_3 ∧ t_3 < ln ε t_2) ∧ (t_4 = 0 ∨ kd ε t_4 = 10) ∧ ∀ μ_1 : m_M, μ_1 = st μ t_2 t_3 t_4 → (kd ε t = 11) ∧ ∀ ε_1 : m_E, ε_1 = efin ε t 52 t_1 → ((0 : Int) ≤ 96 ∧ (96 : Int) ≤ 96) ∧ ∀ (a : Int) (ε_2 : m_E) (μ_2 : m_M), a = nx ε_1 → ε_2 = ealloc ε_1 100 96 → μ_2 = mnew μ_1 a → (kd ε_2 v0 = 11) ∧ ∀ ε_3 : m_E, ε_3 = efin ε_2 v0 55 a → ((0 : Int) ≤ 2 ∧ (2 : Int) ≤ 2) ∧ ∀ (a_1 : Int) (ε_4 : m_E) (μ_3 : m_M), a_1 = nx ε_3 → ε_4 = ealloc ε_3 100 2 → μ_3 = mnew μ_2 a_1 → (kd ε_4 v0 = 11) ∧ ∀ ε_5 : m_E, ε_5 = efin ε_4 v0 56 a_1 → ((0 : Int) ≤ 4 ∧ (4 : Int) ≤ 4) ∧ ∀ (a_2 : Int) (ε_6 : m_E) (μ_4 : m_M), a_2 = nx ε_5 → ε_6 = ealloc ε_5 100 4 → μ_4 = mnew μ_3 a_2 → (kd ε_6 v0 = 11) ∧ ∀ ε_7 : m_E, ε_7 = efin ε_6 v0 57 a_2 → ((0 : Int) ≤ 5 ∧ (5 : Int) ≤ 5) ∧ ∀ (a_3 : Int) (ε_8 : m_E) (μ_5 : m_M), a_3 = nx ε_7 → ε_8 = ealloc ε_7 107 5 → μ_5 = mnew μ_4 a_3 → ∀ (a_4 : Int) (ε_9 : m_E) (μ_6 : m_M), a_4 = nx ε_8 → ε_9 = ealloc ε_8 10 0 → μ_6 = mnew μ_5 a_4 → (kd ε_9 a_4 = 10) ∧ o_X11_init [(2, a_4)] ε_9 μ_6 (fun z ε_10 μ_7 => G cd_X12_init Q X 601 [(0, (2, v0))] [(2, a_4), (0, 0), (2, a_3), (2, a_3), (2, v0)] ε_10 μ_7) m_F
  intro hty
  replace h := h hty.1 (hty.2.2 _ (List.mem_of_getElem? (i := 1) rfl))
  obtain ⟨k1, h⟩ := h
  refine And.intro k1 ?_
  obtain ⟨k2, h⟩ := h
  obtain ⟨k3, h⟩ := h
  refine And.intro (And.intro k2 k3) ?_
  obtain ⟨k4, h⟩ := h
  refine And.intro k4 ?_
  intro μ_1 e_μ_1
  replace h := h μ_1 e_μ_1
  obtain ⟨k5, h⟩ := h
  refine And.intro k5 ?_
  intro ε_1 e_ε_1
  replace h := h ε_1 e_ε_1
  refine And.intro (And.intro (by decide) (by decide)) ?_
  intro a ε_2 μ_2 e_a e_ε_2 e_μ_2
  replace h := h a ε_2 μ_2 e_a e_ε_2 e_μ_2
  obtain ⟨k6, h⟩ := h
  refine And.intro k6 ?_
  intro ε_3 e_ε_3
  replace h := h ε_3 e_ε_3
  refine And.intro (And.intro (by decide) (by decide)) ?_
  intro a_1 ε_4 μ_3 e_a_1 e_ε_4 e_μ_3
  replace h := h a_1 ε_4 μ_3 e_a_1 e_ε_4 e_μ_3
  obtain ⟨k7, h⟩ := h
  refine And.intro k7 ?_
  intro ε_5 e_ε_5
  replace h := h ε_5 e_ε_5
  refine And.intro (And.intro (by decide) (by decide)) ?_
  intro a_2 ε_6 μ_4 e_a_2 e_ε_6 e_μ_4
  replace h := h a_2 ε_6 μ_4 e_a_2 e_ε_6 e_μ_4
  obtain ⟨k8, h⟩ := h
  refine And.intro k8 ?_
  intro ε_7 e_ε_7
  replace h := h ε_7 e_ε_7
  refine And.intro (And.intro (by decide) (by decide)) ?_
  intro a_3 ε_8 μ_5 e_a_3 e_ε_8 e_μ_5
  replace h := h a_3 ε_8 μ_5 e_a_3 e_ε_8 e_μ_5
  intro a_4 ε_9 μ_6 e_a_4 e_ε_9 e_μ_6
  replace h := h a_4 ε_9 μ_6 e_a_4 e_ε_9 e_μ_6
  obtain ⟨k9, h⟩ := h
  refine And.intro k9 ?_
  exact h
set_option maxRecDepth 20000 in
theorem g_X12_init_550 {Q X : m_Po} {v0 t t_1 t_2 t_3 t_4 : Int} {ε : m_E} {μ : m_M} (h : TY ε μ → i32 t_3 → kd ε t_2 = 107 ∧ (0 : Int) ≤ t_3 ∧ t_3 < ln ε t_2 ∧ (t_4 = 0 ∨ kd ε t_4 = 10) ∧ ∀ μ_1 : m_M, μ_1 = st μ t_2 t_3 t_4 → ∀ (a : Int) (ε_1 : m_E) (μ_2 : m_M), a = nx ε → ε_1 = ealloc ε 10 0 → μ_2 = mnew μ_1 a → kd ε_1 a = 10 ∧ o_X11_init [(2, a)] ε_1 μ_2 (fun z ε_2 μ_3 => G cd_X12_init Q X 561 [(0, (2, v0))] [(2, a), (0, 6), (2, t_1), (2, t_1), (2, t)] ε_2 μ_3) m_F) : G cd_X12_init Q X 550 [(0, (2, v0))] [(2, t_4), (0, t_3), (2, t_2), (2, t_1), (2, t)] ε μ := by
  refine G_run (m_in [64, 127, 189, 251, 264, 274, 284, 294, 306, 317, 362, 372, 382, 392, 402, 412, 431, 441, 451, 461, 471, 481, 500, 510, 520, 530, 540, 550, 561, 601, 611, 621, 631, 641]) 36 _ _ _ _ ?_
  show m_ty [(0, (2, v0))] [(2, t_4), (0, t_3), (2, t_2), (2, t_1), (2, t)] ε μ → (kd ε t_2 = 107) ∧ ((0 : Int) ≤ t_3 ∧ t_3 < ln ε t_2) ∧ (t_4 = 0 ∨ kd ε t_4 = 10) ∧ ∀ μ_1 : m_M, μ_1 = st μ t_2 t_3 t_4 → ∀ (a : Int) (ε_1 : m_E) (μ_2 : m_M), a = nx ε → ε_1 = ealloc ε 10 0 → μ_2 = mnew μ_1 a → (kd ε_1 a = 10) ∧ o_X11_init [(2, a)] ε_1 μ_2 (fun z ε_2 μ_3 => G cd_X12_init Q X 561 [(0, (2, v0))] [(2, a), (0, 6), (2, t_1), (2, t_1), (2, t)] ε_2 μ_3) m_F
  intro hty
  replace h := h hty.1 (hty.2.2 _ (List.mem_of_getElem? (i := 1) rfl))
  obtain ⟨k1, h⟩ := h
  refine And.intro k1 ?_
  obtain ⟨k2, h⟩ := h
  obtain ⟨k3, h⟩ := h
  refine And.intro (And.intro k2 k3) ?_
  obtain ⟨k4, h⟩ := h
  refine And.intro k4 ?_
  intro μ_1 e_μ_1
  replace h := h μ_1 e_μ_1
  intro a ε_1 μ_2 e_a e_ε_1 e_μ_2
  replace h := h a ε_1 μ_2 e_a e_ε_1 e_μ_2
  obtain ⟨k5, h⟩ := h
  refine And.intro k5 ?_
  exact h
set_option maxRecDepth 20000 in
theorem g_X12_init_540 {Q X : m_Po} {v0 t t_1 t_2 t_3 t_4 : Int} {ε : m_E} {μ : m_M} (h : TY ε μ → i32 t_3 → kd ε t_2 = 107 ∧ (0 : Int) ≤ t_3 ∧ t_3 < ln ε t_2 ∧ (t_4 = 0 ∨ kd ε t_4 = 10) ∧ ∀ μ_1 : m_M, μ_1 = st μ t_2 t_3 t_4 → ∀ (a : Int) (ε_1 : m_E) (μ_2 : m_M), a = nx ε → ε_1 = ealloc ε 10 0 → μ_2 = mnew μ_1 a → kd ε_1 a = 10 ∧ o_X11_init [(2, a)] ε_1 μ_2 (fun z ε_2 μ_3 => G cd_X12_init Q X 550 [(0, (2, v0))] [(2, a), (0, 5), (2, t_1), (2, t_1), (2, t)] ε_2 μ_3) m_F) : G cd_X12_init Q X 540 [(0, (2, v0))] [(2, t_4), (0, t_3), (2, t_2), (2, t_1), (2, t)] ε μ := by
  refine G_run (m_in [64, 127, 189, 251, 264, 274, 284, 294, 306, 317, 362, 372, 382, 392, 402, 412, 431, 441, 451, 461, 471, 481, 500, 510, 520, 530, 540, 550, 561, 601, 611, 621, 631, 641]) 36 _ _ _ _ ?_
  show m_ty [(0, (2, v0))] [(2, t_4), (0, t_3), (2, t_2), (2, t_1), (2, t)] ε μ → (kd ε t_2 = 107) ∧ ((0 : Int) ≤ t_3 ∧ t_3 < ln ε t_2) ∧ (t_4 = 0 ∨ kd ε t_4 = 10) ∧ ∀ μ_1 : m_M, μ_1 = st μ t_2 t_3 t_4 → ∀ (a : Int) (ε_1 : m_E) (μ_2 : m_M), a = nx ε → ε_1 = ealloc ε 10 0 → μ_2 = mnew μ_1 a → (kd ε_1 a = 10) ∧ o_X11_init [(2, a)] ε_1 μ_2 (fun z ε_2 μ_3 => G cd_X12_init Q X 550 [(0, (2, v0))] [(2, a), (0, 5), (2, t_1), (2, t_1), (2, t)] ε_2 μ_3) m_F
  intro hty
  replace h := h hty.1 (hty.2.2 _ (List.mem_of_getElem? (i := 1) rfl))
  obtain ⟨k1, h⟩ := h
  refine And.intro k1 ?_
  obtain ⟨k2, h⟩ := h
  obtain ⟨k3, h⟩ := h
  refine And.intro (And.intro k2 k3) ?_
  obtain ⟨k4, h⟩ := h
  refine And.intro k4 ?_
  intro μ_1 e_μ_1
  replace h := h μ_1 e_μ_1
  intro a ε_1 μ_2 e_a e_ε_1 e_μ_2
  replace h := h a ε_1 μ_2 e_a e_ε_1 e_μ_2
  obtain ⟨k5, h⟩ := h
  refine And.intro k5 ?_
  exact h
set_option maxRecDepth 20000 in
theorem g_X12_init_530 {Q X : m_Po} {v0 t t_1 t_2 t_3 t_4 : Int} {ε : m_E} {μ : m_M} (h : TY ε μ → i32 t_3 → kd ε t_2 = 107 ∧ (0 : Int) ≤ t_3 ∧ t_3 < ln ε t_2 ∧ (t_4 = 0 ∨ kd ε t_4 = 10) ∧ ∀ μ_1 : m_M, μ_1 = st μ t_2 t_3 t_4 → ∀ (a : Int) (ε_1 : m_E) (μ_2 : m_M), a = nx ε → ε_1 = ealloc ε 10 0 → μ_2 = mnew μ_1 a → kd ε_1 a = 10 ∧ o_X11_init [(2, a)] ε_1 μ_2 (fun z ε_2 μ_3 => G cd_X12_init Q X 540 [(0, (2, v0))] [(2, a), (0, 4), (2, t_1), (2, t_1), (2, t)] ε_2 μ_3) m_F) : G cd_X12_init Q X 530 [(0, (2, v0))] [(2, t_4), (0, t_3), (2, t_2), (2, t_1), (2, t)] ε μ := by
  refine G_run (m_in [64, 127, 189, 251, 264, 274, 284, 294, 306, 317, 362, 372, 382, 392, 402, 412, 431, 441, 451, 461, 471, 481, 500, 510, 520, 530, 540, 550, 561, 601, 611, 621, 631, 641]) 36 _ _ _ _ ?_
  show m_ty [(0, (2, v0))] [(2, t_4), (0, t_3), (2, t_2), (2, t_1), (2, t)] ε μ → (kd ε t_2 = 107) ∧ ((0 : Int) ≤ t_3 ∧ t_3 < ln ε t_2) ∧ (t_4 = 0 ∨ kd ε t_4 = 10) ∧ ∀ μ_1 : m_M, μ_1 = st μ t_2 t_3 t_4 → ∀ (a : Int) (ε_1 : m_E) (μ_2 : m_M), a = nx ε → ε_1 = ealloc ε 10 0 → μ_2 = mnew μ_1 a → (kd ε_1 a = 10) ∧ o_X11_init [(2, a)] ε_1 μ_2 (fun z ε_2 μ_3 => G cd_X12_init Q X 540 [(0, (2, v0))] [(2, a), (0, 4), (2, t_1), (2, t_1), (2, t)] ε_2 μ_3) m_F
  intro hty
  replace h := h hty.1 (hty.2.2 _ (List.mem_of_getElem? (i := 1) rfl))
  obtain ⟨k1, h⟩ := h
  refine And.intro k1 ?_
  obtain ⟨k2, h⟩ := h
  obtain ⟨k3, h⟩ := h
  refine And.intro (And.intro k2 k3) ?_
  obtain ⟨k4, h⟩ := h
  refine And.intro k4 ?_
  intro μ_1 e_μ_1
  replace h := h μ_1 e_μ_1
  intro a ε_1 μ_2 e_a e_ε_1 e_μ_2
  replace h := h a ε_1 μ_2 e_a e_ε_1 e_μ_2
  obtain ⟨k5, h⟩ := h
  refine And.intro k5 ?_
  exact h
set_option maxRecDepth 20000 in
theorem g_X12_init_520 {Q X : m_Po} {v0 t t_1 t_2 t_3 t_4 : Int} {ε : m_E} {μ : m_M} (h : TY ε μ → i32 t_3 → kd ε t_2 = 107 ∧ (0 : Int) ≤ t_3 ∧ t_3 < ln ε t_2 ∧ (t_4 = 0 ∨ kd ε t_4 = 10) ∧ ∀ μ_1 : m_M, μ_1 = st μ t_2 t_3 t_4 → ∀ (a : Int) (ε_1 : m_E) (μ_2 : m_M), a = nx ε → ε_1 = ealloc ε 10 0 → μ_2 = mnew μ_1 a → kd ε_1 a = 10 ∧ o_X11_init [(2, a)] ε_1 μ_2 (fun z ε_2 μ_3 => G cd_X12_init Q X 530 [(0, (2, v0))] [(2, a), (0, 3), (2, t_1), (2, t_1), (2, t)] ε_2 μ_3) m_F) : G cd_X12_init Q X 520 [(0, (2, v0))] [(2, t_4), (0, t_3), (2, t_2), (2, t_1), (2, t)] ε μ := by
  refine G_run (m_in [64, 127, 189, 251, 264, 274, 284, 294, 306, 317, 362, 372, 382, 392, 402, 412, 431, 441, 451, 461, 471, 481, 500, 510, 520, 530, 540, 550, 561, 601, 611, 621, 631, 641]) 36 _ _ _ _ ?_
  show m_ty [(0, (2, v0))] [(2, t_4), (0, t_3), (2, t_2), (2, t_1), (2, t)] ε μ → (kd ε t_2 = 107) ∧ ((0 : Int) ≤ t_3 ∧ t_3 < ln ε t_2) ∧ (t_4 = 0 ∨ kd ε t_4 = 10) ∧ ∀ μ_1 : m_M, μ_1 = st μ t_2 t_3 t_4 → ∀ (a : Int) (ε_1 : m_E) (μ_2 : m_M), a = nx ε → ε_1 = ealloc ε 10 0 → μ_2 = mnew μ_1 a → (kd ε_1 a = 10) ∧ o_X11_init [(2, a)] ε_1 μ_2 (fun z ε_2 μ_3 => G cd_X12_init Q X 530 [(0, (2, v0))] [(2, a), (0, 3), (2, t_1), (2, t_1), (2, t)] ε_2 μ_3) m_F
  intro hty
  replace h := h hty.1 (hty.2.2 _ (List.mem_of_getElem? (i := 1) rfl))
  obtain ⟨k1, h⟩ := h
  refine And.intro k1 ?_
  obtain ⟨k2, h⟩ := h
  obtain ⟨k3, h⟩ := h
  refine And.intro (And.intro k2 k3) ?_
  obtain ⟨k4, h⟩ := h
  refine And.intro k4 ?_
  intro μ_1 e_μ_1
  replace h := h μ_1 e_μ_1
  intro a ε_1 μ_2 e_a e_ε_1 e_μ_2
  replace h := h a ε_1 μ_2 e_a e_ε_1 e_μ_2
  obtain ⟨k5, h⟩ := h
  refine And.intro k5 ?_
  exact h
set_option maxRecDepth 20000 in
theorem g_X12_init_510 {Q X : m_Po} {v0 t t_1 t_2 t_3 t_4 : Int} {ε : m_E} {μ : m_M} (h : TY ε μ → i32 t_3 → kd ε t_2 = 107 ∧ (0 : Int) ≤ t_3 ∧ t_3 < ln ε t_2 ∧ (t_4 = 0 ∨ kd ε t_4 = 10) ∧ ∀ μ_1 : m_M, μ_1 = st μ t_2 t_3 t_4 → ∀ (a : Int) (ε_1 : m_E) (μ_2 : m_M), a = nx ε → ε_1 = ealloc ε 10 0 → μ_2 = mnew μ_1 a → kd ε_1 a = 10 ∧ o_X11_init [(2, a)] ε_1 μ_2 (fun z ε_2 μ_3 => G cd_X12_init Q X 520 [(0, (2, v0))] [(2, a), (0, 2), (2, t_1), (2, t_1), (2, t)] ε_2 μ_3) m_F) : G cd_X12_init Q X 510 [(0, (2, v0))] [(2, t_4), (0, t_3), (2, t_2), (2, t_1), (2, t)] ε μ := by
  refine G_run (m_in [64, 127, 189, 251, 264, 274, 284, 294, 306, 317, 362, 372, 382, 392, 402, 412, 431, 441, 451, 461, 471, 481, 500, 510, 520, 530, 540, 550, 561, 601, 611, 621, 631, 641]) 36 _ _ _ _ ?_
  show m_ty [(0, (2, v0))] [(2, t_4), (0, t_3), (2, t_2), (2, t_1), (2, t)] ε μ → (kd ε t_2 = 107) ∧ ((0 : Int) ≤ t_3 ∧ t_3 < ln ε t_2) ∧ (t_4 = 0 ∨ kd ε t_4 = 10) ∧ ∀ μ_1 : m_M, μ_1 = st μ t_2 t_3 t_4 → ∀ (a : Int) (ε_1 : m_E) (μ_2 : m_M), a = nx ε → ε_1 = ealloc ε 10 0 → μ_2 = mnew μ_1 a → (kd ε_1 a = 10) ∧ o_X11_init [(2, a)] ε_1 μ_2 (fun z ε_2 μ_3 => G cd_X12_init Q X 520 [(0, (2, v0))] [(2, a), (0, 2), (2, t_1), (2, t_1), (2, t)] ε_2 μ_3) m_F
  intro hty
  replace h := h hty.1 (hty.2.2 _ (List.mem_of_getElem? (i := 1) rfl))
  obtain ⟨k1, h⟩ := h
  refine And.intro k1 ?_
  obtain ⟨k2, h⟩ := h
  obtain ⟨k3, h⟩ := h
  refine And.intro (And.intro k2 k3) ?_
  obtain ⟨k4, h⟩ := h
  refine And.intro k4 ?_
  intro μ_1 e_μ_1
  replace h := h μ_1 e_μ_1
  intro a ε_1 μ_2 e_a e_ε_1 e_μ_2
  replace h := h a ε_1 μ_2 e_a e_ε_1 e_μ_2
  obtain ⟨k5, h⟩ := h
  refine And.intro k5 ?_
  exact h
set_option maxRecDepth 20000 in
theorem g_X12_init_500 {Q X : m_Po} {v0 t t_1 t_2 t_3 t_4 : Int} {ε : m_E} {μ : m_M} (h : TY ε μ → i32 t_3 → kd ε t_2 = 107 ∧ (0 : Int) ≤ t_3 ∧ t_3 < ln ε t_2 ∧ (t_4 = 0 ∨ kd ε t_4 = 10) ∧ ∀ μ_1 : m_M, μ_1 = st μ t_2 t_3 t_4 → ∀ (a : Int) (ε_1 : m_E) (μ_2 : m_M), a = nx ε → ε_1 = ealloc ε 10 0 → μ_2 = mnew μ_1 a → kd ε_1 a = 10 ∧ o_X11_init [(2, a)] ε_1 μ_2 (fun z ε_2 μ_3 => G cd_X12_init Q X 510 [(0, (2, v0))] [(2, a), (0, 1), (2, t_1), (2, t_1), (2, t)] ε_2 μ_3) m_F) : G cd_X12_init Q X 500 [(0, (2, v0))] [(2, t_4), (0, t_3), (2, t_2), (2, t_1), (2, t)] ε μ := by
  refine G_run (m_in [64, 127, 189, 251, 264, 274, 284, 294, 306, 317, 362, 372, 382, 392, 402, 412, 431, 441, 451, 461, 471, 481, 500, 510, 520, 530, 540, 550, 561, 601, 611, 621, 631, 641]) 36 _ _ _ _ ?_
  show m_ty [(0, (2, v0))] [(2, t_4), (0, t_3), (2, t_2), (2, t_1), (2, t)] ε μ → (kd ε t_2 = 107) ∧ ((0 : Int) ≤ t_3 ∧ t_3 < ln ε t_2) ∧ (t_4 = 0 ∨ kd ε t_4 = 10) ∧ ∀ μ_1 : m_M, μ_1 = st μ t_2 t_3 t_4 → ∀ (a : Int) (ε_1 : m_E) (μ_2 : m_M), a = nx ε → ε_1 = ealloc ε 10 0 → μ_2 = mnew μ_1 a → (kd ε_1 a = 10) ∧ o_X11_init [(2, a)] ε_1 μ_2 (fun z ε_2 μ_3 => G cd_X12_init Q X 510 [(0, (2, v0))] [(2, a), (0, 1), (2, t_1), (2, t_1), (2, t)] ε_2 μ_3) m_F
  intro hty
  replace h := h hty.1 (hty.2.2 _ (List.mem_of_getElem? (i := 1) rfl))
  obtain ⟨k1, h⟩ := h
  refine And.intro k1 ?_
  obtain ⟨k2, h⟩ := h
  obtain ⟨k3, h⟩ := h
  refine And.intro (And.intro k2 k3) ?_
  obtain ⟨k4, h⟩ := h
  refine And.intro k4 ?_
  intro μ_1 e_μ_1
  replace h := h μ_1 e_μ_1
  intro a ε_1 μ_2 e_a e_ε_1 e_μ_2
  replace h := h a ε_1 μ_2 e_a e_ε_1 e_μ_2
  obtain ⟨k5, h⟩ := h
  refine And.intro k5 ?_
  exact h
set_option maxRecDepth 20000 in
theorem g_X12_init_481 {Q X : m_Po} {v0 t t_1 t_2 t_3 t_4 : Int} {ε : m_E} {μ : m_M} (h : TY ε μ → i32 t_3 → kd ε t_2 = 107 ∧ (0 : Int) ≤ t_3 ∧ t_3 < ln ε t_2 ∧ (t_4 = 0 ∨ kd ε t_4 = 10) ∧ ∀ μ_1 : m_M, μ_1 = st μ t_2 t_3 t_4 → kd ε t = 11 ∧ ∀ ε_1 : m_E, ε_1 = efin ε t 51 t_1 → ∀ (a : Int) (ε_2 : m_E) (μ_2 : m_M), a = nx ε_1 → ε_2 = ealloc ε_1 107 7 → μ_2 = mnew μ_1 a → ∀ (a_1 : Int) (ε_3 : m_E) (μ_3 : m_M), a_1 = nx ε_2 → ε_3 = ealloc ε_2 10 0 → μ_3 = mnew μ_2 a_1 → kd ε_3 a_1 = 10 ∧ o_X11_init [(2, a_1)] ε_3 μ_3 (fun z ε_4 μ_4 => G cd_X12_init Q X 500 [(0, (2, v0))] [(2, a_1), (0, 0), (2, a), (2, a), (2, v0)] ε_4 μ_4) m_F) : G cd_X12_init Q X 481 [(0, (2, v0))] [(2, t_4), (0, t_3), (2, t_2), (2, t_1), (2, t)] ε μ := by
  refine G_run (m_in [64, 127, 189, 251, 264, 274, 284, 294, 306, 317, 362, 372, 382, 392, 402, 412, 431, 441, 451, 461, 471, 481, 500, 510, 520, 530, 540, 550, 561, 601, 611, 621, 631, 641]) 36 _ _ _ _ ?_
  show m_ty [(0, (2, v0))] [(2, t_4), (0, t_3), (2, t_2), (2, t_1), (2, t)] ε μ → (kd ε t_2 = 107) ∧ ((0 : Int) ≤ t_3 ∧ t_3 < ln ε t_2) ∧ (t_4 = 0 ∨ kd ε t_4 = 10) ∧ ∀ μ_1 : m_M, μ_1 = st μ t_2 t_3 t_4 → (kd ε t = 11) ∧ ∀ ε_1 : m_E, ε_1 = efin ε t 51 t_1 → ((0 : Int) ≤ 7 ∧ (7 : Int) ≤ 7) ∧ ∀ (a : Int) (ε_2 : m_E) (μ_2 : m_M), a = nx ε_1 → ε_2 = ealloc ε_1 107 7 → μ_2 = mnew μ_1 a → ∀ (a_1 : Int) (ε_3 : m_E) (μ_3 : m_M), a_1 = nx ε_2 → ε_3 = ealloc ε_2 10 0 → μ_3 = mnew μ_2 a_1 → (kd ε_3 a_1 = 10) ∧ o_X11_init [(2, a_1)] ε_3 μ_3 (fun z ε_4 μ_4 => G cd_X12_init Q X 500 [(0, (2, v0))] [(2, a_1), (0, 0), (2, a), (2, a), (2, v0)] ε_4 μ_4) m_F
  intro hty
  replace h := h hty.1 (hty.2.2 _ (List.mem_of_getElem? (i := 1) rfl))
  obtain ⟨k1, h⟩ := h
  refine And.intro k1 ?_
  obtain ⟨k2, h⟩ := h
  obtain ⟨k3, h⟩ := h
  refine And.intro (And.intro k2 k3) ?_
  obtain ⟨k4, h⟩ := h
  refine And.intro k4 ?_
  intro μ_1 e_μ_1
  replace h := h μ_1 e_μ_1
  obtain ⟨k5, h⟩ := h
  refine And.intro k5 ?_
  intro ε_1 e_ε_1
  replace h := h ε_1 e_ε_1
  refine And.intro (And.intro (by decide) (by decide)) ?_
  intro a ε_2 μ_2 e_a e_ε_2 e_μ_2
  replace h := h a ε_2 μ_2 e_a e_ε_2 e_μ_2
  intro a_1 ε_3 μ_3 e_a_1 e_ε_3 e_μ_3
  replace h := h a_1 ε_3 μ_3 e_a_1 e_ε_3 e_μ_3
  obtain ⟨k6, h⟩ := h
  refine And.intro k6 ?_
  exact h
set_option maxRecDepth 20000 in
theorem g_X12_init_471 {Q X : m_Po} {v0 t t_1 t_2 t_3 t_4 : Int} {ε : m_E} {μ : m_M} (h : TY ε μ → i32 t_3 → kd ε t_2 = 107 ∧ (0 : Int) ≤ t_3 ∧ t_3 < ln ε t_2 ∧ (t_4 = 0 ∨ kd ε t_4 = 10) ∧ ∀ μ_1 : m_M, μ_1 = st μ t_2 t_3 t_4 → ∀ (a : Int) (ε_1 : m_E) (μ_2 : m_M), a = nx ε → ε_1 = ealloc ε 10 0 → μ_2 = mnew μ_1 a → kd ε_1 a = 10 ∧ o_X11_init [(2, a)] ε_1 μ_2 (fun z ε_2 μ_3 => G cd_X12_init Q X 481 [(0, (2, v0))] [(2, a), (0, 5), (2, t_1), (2, t_1), (2, t)] ε_2 μ_3) m_F) : G cd_X12_init Q X 471 [(0, (2, v0))] [(2, t_4), (0, t_3), (2, t_2), (2, t_1), (2, t)] ε μ := by
  refine G_run (m_in [64, 127, 189, 251, 264, 274, 284, 294, 306, 317, 362, 372, 382, 392, 402, 412, 431, 441, 451, 461, 471, 481, 500, 510, 520, 530, 540, 550, 561, 601, 611, 621, 631, 641]) 36 _ _ _ _ ?_
  show m_ty [(0, (2, v0))] [(2, t_4), (0, t_3), (2, t_2), (2, t_1), (2, t)] ε μ → (kd ε t_2 = 107) ∧ ((0 : Int) ≤ t_3 ∧ t_3 < ln ε t_2) ∧ (t_4 = 0 ∨ kd ε t_4 = 10) ∧ ∀ μ_1 : m_M, μ_1 = st μ t_2 t_3 t_4 → ∀ (a : Int) (ε_1 : m_E) (μ_2 : m_M), a = nx ε → ε_1 = ealloc ε 10 0 → μ_2 = mnew μ_1 a → (kd ε_1 a = 10) ∧ o_X11_init [(2, a)] ε_1 μ_2 (fun z ε_2 μ_3 => G cd_X12_init Q X 481 [(0, (2, v0))] [(2, a), (0, 5), (2, t_1), (2, t_1), (2, t)] ε_2 μ_3) m_F
  intro hty
  replace h := h hty.1 (hty.2.2 _ (List.mem_of_getElem? (i := 1) rfl))
  obtain ⟨k1, h⟩ := h
  refine And.intro k1 ?_
  obtain ⟨k2, h⟩ := h
  obtain ⟨k3, h⟩ := h
  refine And.intro (And.intro k2 k3) ?_
  obtain ⟨k4, h⟩ := h
  refine And.intro k4 ?_
  intro μ_1 e_μ_1
  replace h := h μ_1 e_μ_1
  intro a ε_1 μ_2 e_a e_ε_1 e_μ_2
  replace h := h a ε_1 μ_2 e_a e_ε_1 e_μ_2
  obtain ⟨k5, h⟩ := h
  refine And.intro k5 ?_
  exact h
set_option maxRecDepth 20000 in
theorem g_X12_init_461 {Q X : m_Po} {v0 t t_1 t_2 t_3 t_4 : Int} {ε : m_E} {μ : m_M} (h : TY ε μ → i32 t_3 → kd ε t_2 = 107 ∧ (0 : Int) ≤ t_3 ∧ t_3 < ln ε t_2 ∧ (t_4 = 0 ∨ kd ε t_4 = 10) ∧ ∀ μ_1 : m_M, μ_1 = st μ t_2 t_3 t_4 → ∀ (a : Int) (ε_1 : m_E) (μ_2 : m_M), a = nx ε → ε_1 = ealloc ε 10 0 → μ_2 = mnew μ_1 a → kd ε_1 a = 10 ∧ o_X11_init [(2, a)] ε_1 μ_2 (fun z ε_2 μ_3 => G cd_X12_init Q X 471 [(0, (2, v0))] [(2, a), (0, 4), (2, t_1), (2, t_1), (2, t)] ε_2 μ_3) m_F) : G cd_X12_init Q X 461 [(0, (2, v0))] [(2, t_4), (0, t_3), (2, t_2), (2, t_1), (2, t)] ε μ := by
  refine G_run (m_in [64, 127, 189, 251, 264, 274, 284, 294, 306, 317, 362, 372, 382, 392, 402, 412, 431, 441, 451, 461, 471, 481, 500, 510, 520, 530, 540, 550, 561, 601, 611, 621, 631, 641]) 36 _ _ _ _ ?_
  show m_ty [(0, (2, v0))] [(2, t_4), (0, t_3), (2, t_2), (2, t_1), (2, t)] ε μ → (kd ε t_2 = 107) ∧ ((0 : Int) ≤ t_3 ∧ t_3 < ln ε t_2) ∧ (t_4 = 0 ∨ kd ε t_4 = 10) ∧ ∀ μ_1 : m_M, μ_1 = st μ t_2 t_3 t_4 → ∀ (a : Int) (ε_1 : m_E) (μ_2 : m_M), a = nx ε → ε_1 = ealloc ε 10 0 → μ_2 = mnew μ_1 a → (kd ε_1 a = 10) ∧ o_X11_init [(2, a)] ε_1 μ_2 (fun z ε_2 μ_3 => G cd_X12_init Q X 471 [(0, (2, v0))] [(2, a), (0, 4), (2, t_1), (2, t_1), (2, t)] ε_2 μ_3) m_F
  intro hty
  replace h := h hty.1 (hty.2.2 _ (List.mem_of_getElem? (i := 1) rfl))
  obtain ⟨k1, h⟩ := h
  refine And.intro k1 ?_
  obtain ⟨k2, h⟩ := h
  obtain ⟨k3, h⟩ := h
  refine And.intro (And.intro k2 k3) ?_
  obtain ⟨k4, h⟩ := h
  refine And.intro k4 ?_
  intro μ_1 e_μ_1
  replace h := h μ_1 e_μ_1
  intro a ε_1 μ_2 e_a e_ε_1 e_μ_2
  replace h := h a ε_1 μ_2 e_a e_ε_1 e_μ_2
  obtain ⟨k5, h⟩ := h
  refine And.intro k5 ?_
  exact h
set_option maxRecDepth 20000 in
theorem g_X12_init_451 {Q X : m_Po} {v0 t t_1 t_2 t_3 t_4 : Int} {ε : m_E} {μ : m_M} (h : TY ε μ → i32 t_3 → kd ε t_2 = 107 ∧ (0 : Int) ≤ t_3 ∧ t_3 < ln ε t_2 ∧ (t_4 = 0 ∨ kd ε t_4 = 10) ∧ ∀ μ_1 : m_M, μ_1 = st μ t_2 t_3 t_4 → ∀ (a : Int) (ε_1 : m_E) (μ_2 : m_M), a = nx ε → ε_1 = ealloc ε 10 0 → μ_2 = mnew μ_1 a → kd ε_1 a = 10 ∧ o_X11_init [(2, a)] ε_1 μ_2 (fun z ε_2 μ_3 => G cd_X12_init Q X 461 [(0, (2, v0))] [(2, a), (0, 3), (2, t_1), (2, t_1), (2, t)] ε_2 μ_3) m_F) : G cd_X12_init Q X 451 [(0, (2, v0))] [(2, t_4), (0, t_3), (2, t_2), (2, t_1), (2, t)] ε μ := by
  refine G_run (m_in [64, 127, 189, 251, 264, 274, 284, 294, 306, 317, 362, 372, 382, 392, 402, 412, 431, 441, 451, 461, 471, 481, 500, 510, 520, 530, 540, 550, 561, 601, 611, 621, 631, 641]) 36 _ _ _ _ ?_
  show m_ty [(0, (2, v0))] [(2, t_4), (0, t_3), (2, t_2), (2, t_1), (2, t)] ε μ → (kd ε t_2 = 107) ∧ ((0 : Int) ≤ t_3 ∧ t_3 < ln ε t_2) ∧ (t_4 = 0 ∨ kd ε t_4 = 10) ∧ ∀ μ_1 : m_M, μ_1 = st μ t_2 t_3 t_4 → ∀ (a : Int) (ε_1 : m_E) (μ_2 : m_M), a = nx ε → ε_1 = ealloc ε 10 0 → μ_2 = mnew μ_1 a → (kd ε_1 a = 10) ∧ o_X11_init [(2, a)] ε_1 μ_2 (fun z ε_2 μ_3 => G cd_X12_init Q X 461 [(0, (2, v0))] [(2, a), (0, 3), (2, t_1), (2, t_1), (2, t)] ε_2 μ_3) m_F
  intro hty
  replace h := h hty.1 (hty.2.2 _ (List.mem_of_getElem? (i := 1) rfl))
  obtain ⟨k1, h⟩ := h
  refine And.intro k1 ?_
  obtain ⟨k2, h⟩ := h
  obtain ⟨k3, h⟩ := h
  refine And.intro (And.intro k2 k3) ?_
  obtain ⟨k4, h⟩ := h
  refine And.intro k4 ?_
  intro μ_1 e_μ_1
  replace h := h μ_1 e_μ_1
  intro a ε_1 μ_2 e_a e_ε_1 e_μ_2
  replace h := h a ε_1 μ_2 e_a e_ε_1 e_μ_2
  obtain ⟨k5, h⟩ := h
  refine And.intro k5 ?_
  exact h
set_option maxRecDepth 20000 in
theorem g_X12_init_441 {Q X : m_Po} {v0 t t_1 t_2 t_3 t_4 : Int} {ε : m_E} {μ : m_M} (h : TY ε μ → i32 t_3 → kd ε t_2 = 107 ∧ (0 : Int) ≤ t_3 ∧ t_3 < ln ε t_2 ∧ (t_4 = 0 ∨ kd ε t_4 = 10) ∧ ∀ μ_1 : m_M, μ_1 = st μ t_2 t_3 t_4 → ∀ (a : Int) (ε_1 : m_E) (μ_2 : m_M), a = nx ε → ε_1 = ealloc ε 10 0 → μ_2 = mnew μ_1 a → kd ε_1 a = 10 ∧ o_X11_init [(2, a)] ε_1 μ_2 (fun z ε_2 μ_3 => G cd_X12_init Q X 451 [(0, (2, v0))] [(2, a), (0, 2), (2, t_1), (2, t_1), (2, t)] ε_2 μ_3) m_F) : G cd_X12_init Q X 441 [(0, (2, v0))] [(2, t_4), (0, t_3), (2, t_2), (2, t_1), (2, t)] ε μ := by
  refine G_run (m_in [64, 127, 189, 251, 264, 274, 284, 294, 306, 317, 362, 372, 382, 392, 402, 412, 431, 441, 451, 461, 471, 481, 500, 510, 520, 530, 540, 550, 561, 601, 611, 621, 631, 641]) 36 _ _ _ _ ?_
  show m_ty [(0, (2, v0))] [(2, t_4), (0, t_3), (2, t_2), (2, t_1), (2, t)] ε μ → (kd ε t_2 = 107) ∧ ((0 : Int) ≤ t_3 ∧ t_3 < ln ε t_2) ∧ (t_4 = 0 ∨ kd ε t_4 = 10) ∧ ∀ μ_1 : m_M, μ_1 = st μ t_2 t_3 t_4 → ∀ (a : Int) (ε_1 : m_E) (μ_2 : m_M), a = nx ε → ε_1 = ealloc ε 10 0 → μ_2 = mnew μ_1 a → (kd ε_1 a = 10) ∧ o_X11_init [(2, a)] ε_1 μ_2 (fun z ε_2 μ_3 => G cd_X12_init Q X 451 [(0, (2, v0))] [(2, a), (0, 2), (2, t_1), (2, t_1), (2, t)] ε_2 μ_3) m_F
  intro hty
  replace h := h hty.1 (hty.2.2 _ (List.mem_of_getElem? (i := 1) rfl))
  obtain ⟨k1, h⟩ := h
  refine And.intro k1 ?_
  obtain ⟨k2, h⟩ := h
  obtain ⟨k3, h⟩ := h
  refine And.intro (And.intro k2 k3) ?_
  obtain ⟨k4, h⟩ := h
  refine And.intro k4 ?_
  intro μ_1 e_μ_1
  replace h := h μ_1 e_μ_1
  intro a ε_1 μ_2 e_a e_ε_1 e_μ_2
  replace h := h a ε_1 μ_2 e_a e_ε_1 e_μ_2
  obtain ⟨k5, h⟩ := h
  refine And.intro k5 ?_
  exact h
set_option maxRecDepth 20000 in
theorem g_X12_init_431 {Q X : m_Po} {v0 t t_1 t_2 t_3 t_4 : Int} {ε : m_E} {μ : m_M} (h : TY ε μ → i32 t_3 → kd ε t_2 = 107 ∧ (0 : Int) ≤ t_3 ∧ t_3 < ln ε t_2 ∧ (t_4 = 0 ∨ kd ε t_4 = 10) ∧ ∀ μ_1 : m_M, μ_1 = st μ t_2 t_3 t_4 → ∀ (a : Int) (ε_1 : m_E) (μ_2 : m_M), a = nx ε → ε_1 = ealloc ε 10 0 → μ_2 = mnew μ_1 a → kd ε_1 a = 10 ∧ o_X11_init [(2, a)] ε_1 μ_2 (fun z ε_2 μ_3 => G cd_X12_init Q X 441 [(0, (2, v0))] [(2, a), (0, 1), (2, t_1), (2, t_1), (2, t)] ε_2 μ_3) m_F) : G cd_X12_init Q X 431 [(0, (2, v0))] [(2, t_4), (0, t_3), (2, t_2), (2, t_1), (2, t)] ε μ := by
  refine G_run (m_in [64, 127, 189, 251, 264, 274, 284, 294, 306, 317, 362, 372, 382, 392, 402, 412, 431, 441, 451, 461, 471, 481, 500, 510, 520, 530, 540, 550, 561, 601, 611, 621, 631, 641]) 36 _ _ _ _ ?_
  show m_ty [(0, (2, v0))] [(2, t_4), (0, t_3), (2, t_2), (2, t_1), (2, t)] ε μ → (kd ε t_2 = 107) ∧ ((0 : Int) ≤ t_3 ∧ t_3 < ln ε t_2) ∧ (t_4 = 0 ∨ kd ε t_4 = 10) ∧ ∀ μ_1 : m_M, μ_1 = st μ t_2 t_3 t_4 → ∀ (a : Int) (ε_1 : m_E) (μ_2 : m_M), a = nx ε → ε_1 = ealloc ε 10 0 → μ_2 = mnew μ_1 a → (kd ε_1 a = 10) ∧ o_X11_init [(2, a)] ε_1 μ_2 (fun z ε_2 μ_3 => G cd_X12_init Q X 441 [(0, (2, v0))] [(2, a), (0, 1), (2, t_1), (2, t_1), (2, t)] ε_2 μ_3) m_F
  intro hty
  replace h := h hty.1 (hty.2.2 _ (List.mem_of_getElem? (i := 1) rfl))
  obtain ⟨k1, h⟩ := h
  refine And.intro k1 ?_
  obtain ⟨k2, h⟩ := h
  obtain ⟨k3, h⟩ := h
  refine And.intro (And.intro k2 k3) ?_
  obtain ⟨k4, h⟩ := h
  refine And.intro k4 ?_
  intro μ_1 e_μ_1
  replace h := h μ_1 e_μ_1
  intro a ε_1 μ_2 e_a e_ε_1 e_μ_2
  replace h := h a ε_1 μ_2 e_a e_ε_1 e_μ_2
  obtain ⟨k5, h⟩ := h
  refine And.intro k5 ?_
  exact h
set_option maxRecDepth 20000 in
theorem g_X12_init_412 {Q X : m_Po} {v0 t t_1 t_2 t_3 t_4 : Int} {ε : m_E} {μ : m_M} (h : TY ε μ → i32 t_3 → kd ε t_2 = 107 ∧ (0 : Int) ≤ t_3 ∧ t_3 < ln ε t_2 ∧ (t_4 = 0 ∨ kd ε t_4 = 10) ∧ ∀ μ_1 : m_M, μ_1 = st μ t_2 t_3 t_4 → kd ε t = 11 ∧ ∀ ε_1 : m_E, ε_1 = efin ε t 50 t_1 → ∀ (a : Int) (ε_2 : m_E) (μ_2 : m_M), a = nx ε_1 → ε_2 = ealloc ε_1 107 6 → μ_2 = mnew μ_1 a → ∀ (a_1 : Int) (ε_3 : m_E) (μ_3 : m_M), a_1 = nx ε_2 → ε_3 = ealloc ε_2 10 0 → μ_3 = mnew μ_2 a_1 → kd ε_3 a_1 = 10 ∧ o_X11_init [(2, a_1)] ε_3 μ_3 (fun z ε_4 μ_4 => G cd_X12_init Q X 431 [(0, (2, v0))] [(2, a_1), (0, 0), (2, a), (2, a), (2, v0)] ε_4 μ_4) m_F) : G cd_X12_init Q X 412 [(0, (2, v0))] [(2, t_4), (0, t_3), (2, t_2), (2, t_1), (2, t)] ε μ := by
  refine G_run (m_in [64, 127, 189, 251, 264, 274, 284, 294, 306, 317, 362, 372, 382, 392, 402, 412, 431, 441, 451, 461, 471, 481, 500, 510, 520, 530, 540, 550, 561, 601, 611, 621, 631, 641]) 36 _ _ _ _ ?_
  show m_ty [(0, (2, v0))] [(2, t_4), (0, t_3), (2, t_2), (2, t_1), (2, t)] ε μ → (kd ε t_2 = 107) ∧ ((0 : Int) ≤ t_3 ∧ t_3 < ln ε t_2) ∧ (t_4 = 0 ∨ kd ε t_4 = 10) ∧ ∀ μ_1 : m_M, μ_1 = st μ t_2 t_3 t_4 → (kd ε t = 11) ∧ ∀ ε_1 : m_E, ε_1 = efin ε t 50 t_1 → ((0 : Int) ≤ 6 ∧ (6 : Int) ≤ 6) ∧ ∀ (a : Int) (ε_2 : m_E) (μ_2 : m_M), a = nx ε_1 → ε_2 = ealloc ε_1 107 6 → μ_2 = mnew μ_1 a → ∀ (a_1 : Int) (ε_3 : m_E) (μ_3 : m_M), a_1 = nx ε_2 → ε_3 = ealloc ε_2 10 0 → μ_3 = mnew μ_2 a_1 → (kd ε_3 a_1 = 10) ∧ o_X11_init [(2, a_1)] ε_3 μ_3 (fun z ε_4 μ_4 => G cd_X12_init Q X 431 [(0, (2, v0))] [(2, a_1), (0, 0), (2, a), (2, a), (2, v0)] ε_4 μ_4) m_F
  intro hty
  replace h := h hty.1 (hty.2.2 _ (List.mem_of_getElem? (i := 1) rfl))
  obtain ⟨k1, h⟩ := h
  refine And.intro k1 ?_
  obtain ⟨k2, h⟩ := h
  obtain ⟨k3, h⟩ := h
  refine And.intro (And.intro k2 k3) ?_
  obtain ⟨k4, h⟩ := h
  refine And.intro k4 ?_
  intro μ_1 e_μ_1
  replace h := h μ_1 e_μ_1
  obtain ⟨k5, h⟩ := h
  refine And.intro k5 ?_
  intro ε_1 e_ε_1
  replace h := h ε_1 e_ε_1
  refine And.intro (And.intro (by decide) (by decide)) ?_
  intro a ε_2 μ_2 e_a e_ε_2 e_μ_2
  replace h := h a ε_2 μ_2 e_a e_ε_2 e_μ_2
  intro a_1 ε_3 μ_3 e_a_1 e_ε_3 e_μ_3
  replace h := h a_1 ε_3 μ_3 e_a_1 e_ε_3 e_μ_3
  obtain ⟨k6, h⟩ := h
  refine And.intro k6 ?_
  exact h
set_option maxRecDepth 20000 in
theorem g_X12_init_402 {Q X : m_Po} {v0 t t_1 t_2 t_3 t_4 : Int} {ε : m_E} {μ : m_M} (h : TY ε μ → i32 t_3 → kd ε t_2 = 107 ∧ (0 : Int) ≤ t_3 ∧ t_3 < ln ε t_2 ∧ (t_4 = 0 ∨ kd ε t_4 = 10) ∧ ∀ μ_1 : m_M, μ_1 = st μ t_2 t_3 t_4 → ∀ (a : Int) (ε_1 : m_E) (μ_2 : m_M), a = nx ε → ε_1 = ealloc ε 10 0 → μ_2 = mnew μ_1 a → kd ε_1 a = 10 ∧ o_X11_init [(2, a)] ε_1 μ_2 (fun z ε_2 μ_3 => G cd_X12_init Q X 412 [(0, (2, v0))] [(2, a), (0, 5), (2, t_1), (2, t_1), (2, t)] ε_2 μ_3) m_F) : G cd_X12_init Q X 402 [(0, (2, v0))] [(2, t_4), (0, t_3), (2, t_2), (2, t_1), (2, t)] ε μ := by
  refine G_run (m_in [64, 127, 189, 251, 264, 274, 284, 294, 306, 317, 362, 372, 382, 392, 402, 412, 431, 441, 451, 461, 471, 481, 500, 510, 520, 530, 540, 550, 561, 601, 611, 621, 631, 641]) 36 _ _ _ _ ?_
  show m_ty [(0, (2, v0))] [(2, t_4), (0, t_3), (2, t_2), (2, t_1), (2, t)] ε μ → (kd ε t_2 = 107) ∧ ((0 : Int) ≤ t_3 ∧ t_3 < ln ε t_2) ∧ (t_4 = 0 ∨ kd ε t_4 = 10) ∧ ∀ μ_1 : m_M, μ_1 = st μ t_2 t_3 t_4 → ∀ (a : Int) (ε_1 : m_E) (μ_2 : m_M), a = nx ε → ε_1 = ealloc ε 10 0 → μ_2 = mnew μ_1 a → (kd ε_1 a = 10) ∧ o_X11_init [(2, a)] ε_1 μ_2 (fun z ε_2 μ_3 => G cd_X12_init Q X 412 [(0, (2, v0))] [(2, a), (0, 5), (2, t_1), (2, t_1), (2, t)] ε_2 μ_3) m_F
  intro hty
  replace h := h hty.1 (hty.2.2 _ (List.mem_of_getElem? (i := 1) rfl))
  obtain ⟨k1, h⟩ := h
  refine And.intro k1 ?_
  obtain ⟨k2, h⟩ := h
  obtain ⟨k3, h⟩ := h
  refine And.intro (And.intro k2 k3) ?_
  obtain ⟨k4, h⟩ := h
  refine And.intro k4 ?_
  intro μ_1 e_μ_1
  replace h := h μ_1 e_μ_1
  intro a ε_1 μ_2 e_a e_ε_1 e_μ_2
  replace h := h a ε_1 μ_2 e_a e_ε_1 e_μ_2
  obtain ⟨k5, h⟩ := h
  refine And.intro k5 ?_
  exact h
set_option maxRecDepth 20000 in
theorem g_X12_init_392 {Q X : m_Po} {v0 t t_1 t_2 t_3 t_4 : Int} {ε : m_E} {μ : m_M} (h : TY ε μ → i32 t_3 → kd ε t_2 = 107 ∧ (0 : Int) ≤ t_3 ∧ t_3 < ln ε t_2 ∧ (t_4 = 0 ∨ kd ε t_4 = 10) ∧ ∀ μ_1 : m_M, μ_1 = st μ t_2 t_3 t_4 → ∀ (a : Int) (ε_1 : m_E) (μ_2 : m_M), a = nx ε → ε_1 = ealloc ε 10 0 → μ_2 = mnew μ_1 a → kd ε_1 a = 10 ∧ o_X11_init [(2, a)] ε_1 μ_2 (fun z ε_2 μ_3 => G cd_X12_init Q X 402 [(0, (2, v0))] [(2, a), (0, 4), (2, t_1), (2, t_1), (2, t)] ε_2 μ_3) m_F) : G cd_X12_init Q X 392 [(0, (2, v0))] [(2, t_4), (0, t_3), (2, t_2), (2, t_1), (2, t)] ε μ := by
  refine G_run (m_in [64, 127, 189, 251, 264, 274, 284, 294, 306, 317, 362, 372, 382, 392, 402, 412, 431, 441, 451, 461, 471, 481, 500, 510, 520, 530, 540, 550, 561, 601, 611, 621, 631, 641]) 36 _ _ _ _ ?_
  show m_ty [(0, (2, v0))] [(2, t_4), (0, t_3), (2, t_2), (2, t_1), (2, t)] ε μ → (kd ε t_2 = 107) ∧ ((0 : Int) ≤ t_3 ∧ t_3 < ln ε t_2) ∧ (t_4 = 0 ∨ kd ε t_4 = 10) ∧ ∀ μ_1 : m_M, μ_1 = st μ t_2 t_3 t_4 → ∀ (a : Int) (ε_1 : m_E) (μ_2 : m_M), a = nx ε → ε_1 = ealloc ε 10 0 → μ_2 = mnew μ_1 a → (kd ε_1 a = 10) ∧ o_X11_init [(2, a)] ε_1 μ_2 (fun z ε_2 μ_3 => G cd_X12_init Q X 402 [(0, (2, v0))] [(2, a), (0, 4), (2, t_1), (2, t_1), (2, t)] ε_2 μ_3) m_F
  intro hty
  replace h := h hty.1 (hty.2.2 _ (List.mem_of_getElem? (i := 1) rfl))
  obtain ⟨k1, h⟩ := h
  refine And.intro k1 ?_
  obtain ⟨k2, h⟩ := h
  obtain ⟨k3, h⟩ := h
  refine And.intro (And.intro k2 k3) ?_
  obtain ⟨k4, h⟩ := h
  refine And.intro k4 ?_
  intro μ_1 e_μ_1
  replace h := h μ_1 e_μ_1
  intro a ε_1 μ_2 e_a e_ε_1 e_μ_2
  replace h := h a ε_1 μ_2 e_a e_ε_1 e_μ_2
  obtain ⟨k5, h⟩ := h
  refine And.intro k5 ?_
  exact h
set_option maxRecDepth 20000 in
theorem g_X12_init_382 {Q X : m_Po} {v0 t t_1 t_2 t_3 t_4 : Int} {ε : m_E} {μ : m_M} (h : TY ε μ → i32 t_3 → kd ε t_2 = 107 ∧ (0 : Int) ≤ t_3 ∧ t_3 < ln ε t_2 ∧ (t_4 = 0 ∨ kd ε t_4 = 10) ∧ ∀ μ_1 : m_M, μ_1 = st μ t_2 t_3 t_4 → ∀ (a : Int) (ε_1 : m_E) (μ_2 : m_M), a = nx ε → ε_1 = ealloc ε 10 0 → μ_2 = mnew μ_1 a → kd ε_1 a = 10 ∧ o_X11_init [(2, a)] ε_1 μ_2 (fun z ε_2 μ_3 => G cd_X12_init Q X 392 [(0, (2, v0))] [(2, a), (0, 3), (2, t_1), (2, t_1), (2, t)] ε_2 μ_3) m_F) : G cd_X12_init Q X 382 [(0, (2, v0))] [(2, t_4), (0, t_3), (2, t_2), (2, t_1), (2, t)] ε μ := by
  refine G_run (m_in [64, 127, 189, 251, 264, 274, 284, 294, 306, 317, 362, 372, 382, 392, 402, 412, 431, 441, 451, 461, 471, 481, 500, 510, 520, 530, 540, 550, 561, 601, 611, 621, 631, 641]) 36 _ _ _ _ ?_
  show m_ty [(0, (2, v0))] [(2, t_4), (0, t_3), (2, t_2), (2, t_1), (2, t)] ε μ → (kd ε t_2 = 107) ∧ ((0 : Int) ≤ t_3 ∧ t_3 < ln ε t_2) ∧ (t_4 = 0 ∨ kd ε t_4 = 10) ∧ ∀ μ_1 : m_M, μ_1 = st μ t_2 t_3 t_4 → ∀ (a : Int) (ε_1 : m_E) (μ_2 : m_M), a = nx ε → ε_1 = ealloc ε 10 0 → μ_2 = mnew μ_1 a → (kd ε_1 a = 10) ∧ o_X11_init [(2, a)] ε_1 μ_2 (fun z ε_2 μ_3 => G cd_X12_init Q X 392 [(0, (2, v0))] [(2, a), (0, 3), (2, t_1), (2, t_1), (2, t)] ε_2 μ_3) m_F
  intro hty
  replace h := h hty.1 (hty.2.2 _ (List.mem_of_getElem? (i := 1) rfl))
  obtain ⟨k1, h⟩ := h
  refine And.intro k1 ?_
  obtain ⟨k2, h⟩ := h
  obtain ⟨k3, h⟩ := h
  refine And.intro (And.intro k2 k3) ?_
  obtain ⟨k4, h⟩ := h
  refine And.intro k4 ?_
  intro μ_1 e_μ_1
  replace h := h μ_1 e_μ_1
  intro a ε_1 μ_2 e_a e_ε_1 e_μ_2
  replace h := h a ε_1 μ_2 e_a e_ε_1 e_μ_2
  obtain ⟨k5, h⟩ := h
  refine And.intro k5 ?_
  exact h
set_option maxRecDepth 20000 in
theorem g_X12_init_372 {Q X : m_Po} {v0 t t_1 t_2 t_3 t_4 : Int} {ε : m_E} {μ : m_M} (h : TY ε μ → i32 t_3 → kd ε t_2 = 107 ∧ (0 : Int) ≤ t_3 ∧ t_3 < ln ε t_2 ∧ (t_4 = 0 ∨ kd ε t_4 = 10) ∧ ∀ μ_1 : m_M, μ_1 = st μ t_2 t_3 t_4 → ∀ (a : Int) (ε_1 : m_E) (μ_2 : m_M), a = nx ε → ε_1 = ealloc ε 10 0 → μ_2 = mnew μ_1 a → kd ε_1 a = 10 ∧ o_X11_init [(2, a)] ε_1 μ_2 (fun z ε_2 μ_3 => G cd_X12_init Q X 382 [(0, (2, v0))] [(2, a), (0, 2), (2, t_1), (2, t_1), (2, t)] ε_2 μ_3) m_F) : G cd_X12_init Q X 372 [(0, (2, v0))] [(2, t_4), (0, t_3), (2, t_2), (2, t_1), (2, t)] ε μ := by
  refine G_run (m_in [64, 127, 189, 251, 264, 274, 284, 294, 306, 317, 362, 372, 382, 392, 402, 412, 431, 441, 451, 461, 471, 481, 500, 510, 520, 530, 540, 550, 561, 601, 611, 621, 631, 641]) 36 _ _ _ _ ?_
  show m_ty [(0, (2, v0))] [(2, t_4), (0, t_3), (2, t_2), (2, t_1), (2, t)] ε μ → (kd ε t_2 = 107) ∧ ((0 : Int) ≤ t_3 ∧ t_3 < ln ε t_2) ∧ (t_4 = 0 ∨ kd ε t_4 = 10) ∧ ∀ μ_1 : m_M, μ_1 = st μ t_2 t_3 t_4 → ∀ (a : Int) (ε_1 : m_E) (μ_2 : m_M), a = nx ε → ε_1 = ealloc ε 10 0 → μ_2 = mnew μ_1 a → (kd ε_1 a = 10) ∧ o_X11_init [(2, a)] ε_1 μ_2 (fun z ε_2 μ_3 => G cd_X12_init Q X 382 [(0, (2, v0))] [(2, a), (0, 2), (2, t_1), (2, t_1), (2, t)] ε_2 μ_3) m_F
  intro hty
  replace h := h hty.1 (hty.2.2 _ (List.mem_of_getElem? (i := 1) rfl))
  obtain ⟨k1, h⟩ := h
  refine And.intro k1 ?_
  obtain ⟨k2, h⟩ := h
  obtain ⟨k3, h⟩ := h
  refine And.intro (And.intro k2 k3) ?_
  obtain ⟨k4, h⟩ := h
  refine And.intro k4 ?_
  intro μ_1 e_μ_1
  replace h := h μ_1 e_μ_1
  intro a ε_1 μ_2 e_a e_ε_1 e_μ_2
  replace h := h a ε_1 μ_2 e_a e_ε_1 e_μ_2
  obtain ⟨k5, h⟩ := h
  refine And.intro k5 ?_
  exact h
set_option maxRecDepth 20000 in
theorem g_X12_init_362 {Q X : m_Po} {v0 t t_1 t_2 t_3 t_4 : Int} {ε : m_E} {μ : m_M} (h : TY ε μ → i32 t_3 → kd ε t_2 = 107 ∧ (0 : Int) ≤ t_3 ∧ t_3 < ln ε t_2 ∧ (t_4 = 0 ∨ kd ε t_4 = 10) ∧ ∀ μ_1 : m_M, μ_1 = st μ t_2 t_3 t_4 → ∀ (a : Int) (ε_1 : m_E) (μ_2 : m_M), a = nx ε → ε_1 = ealloc ε 10 0 → μ_2 = mnew μ_1 a → kd ε_1 a = 10 ∧ o_X11_init [(2, a)] ε_1 μ_2 (fun z ε_2 μ_3 => G cd_X12_init Q X 372 [(0, (2, v0))] [(2, a), (0, 1), (2, t_1), (2, t_1), (2, t)] ε_2 μ_3) m_F) : G cd_X12_init Q X 362 [(0, (2, v0))] [(2, t_4), (0, t_3), (2, t_2), (2, t_1), (2, t)] ε μ := by
  refine G_run (m_in [64, 127, 189, 251, 264, 274, 284, 294, 306, 317, 362, 372, 382, 392, 402, 412, 431, 441, 451, 461, 471, 481, 500, 510, 520, 530, 540, 550, 561, 601, 611, 621, 631, 641]) 36 _ _ _ _ ?_
  show m_ty [(0, (2, v0))] [(2, t_4), (0, t_3), (2, t_2), (2, t_1), (2, t)] ε μ → (kd ε t_2 = 107) ∧ ((0 : Int) ≤ t_3 ∧ t_3 < ln ε t_2) ∧ (t_4 = 0 ∨ kd ε t_4 = 10) ∧ ∀ μ_1 : m_M, μ_1 = st μ t_2 t_3 t_4 → ∀ (a : Int) (ε_1 : m_E) (μ_2 : m_M), a = nx ε → ε_1 = ealloc ε 10 0 → μ_2 = mnew μ_1 a → (kd ε_1 a = 10) ∧ o_X11_init [(2, a)] ε_1 μ_2 (fun z ε_2 μ_3 => G cd_X12_init Q X 372 [(0, (2, v0))] [(2, a), (0, 1), (2, t_1), (2, t_1), (2, t)] ε_2 μ_3) m_F
  intro hty
  replace h := h hty.1 (hty.2.2 _ (List.mem_of_getElem? (i := 1) rfl))
  obtain ⟨k1, h⟩ := h
  refine And.intro k1 ?_
  obtain ⟨k2, h⟩ := h
  obtain ⟨k3, h⟩ := h
  refine And.intro (And.intro k2 k3) ?_
  obtain ⟨k4, h⟩ := h
  refine And.intro k4 ?_
  intro μ_1 e_μ_1
  replace h := h μ_1 e_μ_1
  intro a ε_1 μ_2 e_a e_ε_1 e_μ_2
  replace h := h a ε_1 μ_2 e_a e_ε_1 e_μ_2
  obtain ⟨k5, h⟩ := h
  refine And.intro k5 ?_
  exact h
set_option maxRecDepth 20000 in
theorem g_X12_init_317 {Q X : m_Po} {v0 t t_1 : Int} {ε : m_E} {μ : m_M} (h : TY ε μ → kd ε t = 11 ∧ ∀ ε_1 : m_E, ε_1 = efin ε t 38 t_1 → ∀ (a : Int) (ε_2 : m_E) (μ_1 : m_M), a = nx ε_1 → ε_2 = ealloc ε_1 101 700 → μ_1 = mnew μ a → kd ε_2 v0 = 11 ∧ ∀ ε_3 : m_E, ε_3 = efin ε_2 v0 39 a → ∀ (a_1 : Int) (ε_4 : m_E) (μ_2 : m_M), a_1 = nx ε_3 → ε_4 = ealloc ε_3 101 700 → μ_2 = mnew μ_1 a_1 → kd ε_4 v0 = 11 ∧ ∀ ε_5 : m_E, ε_5 = efin ε_4 v0 40 a_1 → ∀ (a_2 : Int) (ε_6 : m_E) (μ_3 : m_M), a_2 = nx ε_5 → ε_6 = ealloc ε_5 101 700 → μ_3 = mnew μ_2 a_2 → kd ε_6 v0 = 11 ∧ ∀ ε_7 : m_E, ε_7 = efin ε_6 v0 41 a_2 → ∀ (a_3 : Int) (ε_8 : m_E) (μ_4 : m_M), a_3 = nx ε_7 → ε_8 = ealloc ε_7 107 6 → μ_4 = mnew μ_3 a_3 → ∀ (a_4 : Int) (ε_9 : m_E) (μ_5 : m_M), a_4 = nx ε_8 → ε_9 = ealloc ε_8 10 0 → μ_5 = mnew μ_4 a_4 → kd ε_9 a_4 = 10 ∧ o_X11_init [(2, a_4)] ε_9 μ_5 (fun z ε_10 μ_6 => G cd_X12_init Q X 362 [(0, (2, v0))] [(2, a_4), (0, 0), (2, a_3), (2, a_3), (2, v0)] ε_10 μ_6) m_F) : G cd_X12_init Q X 317 [(0, (2, v0))] [(2, t_1), (2, t)] ε μ := by
  refine G_run (m_in [64, 127, 189, 251, 264, 274, 284, 294, 306, 317, 362, 372, 382, 392, 402, 412, 431, 441, 451, 461, 471, 481, 500, 510, 520, 530, 540, 550, 561, 601, 611, 621, 631, 641]) 36 _ _ _ _ ?_
  show m_ty [(0, (2, v0))] [(2, t_1), (2, t)] ε μ → (kd ε t = 11) ∧ ∀ ε_1 : m_E, ε_1 = efin ε t 38 t_1 → ((0 : Int) ≤ 700 ∧ (700 : Int) ≤ 700) ∧ ∀ (a : Int) (ε_2 : m_E) (μ_1 : m_M), a = nx ε_1 → ε_2 = ealloc ε_1 101 700 → μ_1 = mnew μ a → (kd ε_2 v0 = 11) ∧ ∀ ε_3 : m_E, ε_3 = efin ε_2 v0 39 a → ((0 : Int) ≤ 700 ∧ (700 : Int) ≤ 700) ∧ ∀ (a_1 : Int) (ε_4 : m_E) (μ_2 : m_M), a_1 = nx ε_3 → ε_4 = ealloc ε_3 101 700 → μ_2 = mnew μ_1 a_1 → (kd ε_4 v0 = 11) ∧ ∀ ε_5 : m_E, ε_5 = efin ε_4 v0 40 a_1 → ((0 : Int) ≤ 700 ∧ (700 : Int) ≤ 700) ∧ ∀ (a_2 : Int) (ε_6 : m_E) (μ_3 : m_M), a_2 = nx ε_5 → ε_6 = ealloc ε_5 101 700 → μ_3 = mnew μ_2 a_2 → (kd ε_6 v0 = 11) ∧ ∀ ε_7 : m_E, ε_7 = efin ε_6 v0 41 a_2 → ((0 : Int) ≤ 6 ∧ (6 : Int) ≤ 6) ∧ ∀ (a_3 : Int) (ε_8 : m_E) (μ_4 : m_M), a_3 = nx ε_7 → ε_8 = ealloc ε_7 107 6 → μ_4 = mnew μ_3 a_3 → ∀ (a_4 : Int) (ε_9 : m_E) (μ_5 : m_M), a_4 = nx ε_8 → ε_9 = ealloc ε_8 10 0 → μ_5 = mnew μ_4 a_4 → (kd ε_9 a_4 = 10) ∧ o_X11_init [(2, a_4)] ε_9 μ_5 (fun z ε_10 μ_6 => G cd_X12_init Q X 362 [(0, (2, v0))] [(2, a_4), (0, 0), (2, a_3), (2, a_3), (2, v0)] ε_10 μ_6) m_F
  intro hty
  replace h := h hty.1 
  obtain ⟨k1, h⟩ := h
  refine And.intro k1 ?_
  intro ε_1 e_ε_1
  replace h := h ε_1 e_ε_1
  refine And.intro (And.intro (by decide) (by decide)) ?_
  intro a ε_2 μ_1 e_a e_ε_2 e_μ_1
  replace h := h a ε_2 μ_1 e_a e_ε_2 e_μ_1
  obtain ⟨k2, h⟩ := h
  refine And.intro k2 ?_
  intro ε_3 e_ε_3
  replace h := h ε_3 e_ε_3
  refine And.intro (And.intro (by decide) (by decide)) ?_
  intro a_1 ε_4 μ_2 e_a_1 e_ε_4 e_μ_2
  replace h := h a_1 ε_4 μ_2 e_a_1 e_ε_4 e_μ_2
  obtain ⟨k3, h⟩ := h
  refine And.intro k3 ?_
  intro ε_5 e_ε_5
  replace h := h ε_5 e_ε_5
  refine And.intro (And.intro (by decide) (by decide)) ?_
  intro a_2 ε_6 μ_3 e_a_2 e_ε_6 e_μ_3
  replace h := h a_2 ε_6 μ_3 e_a_2 e_ε_6 e_μ_3
  obtain ⟨k4, h⟩ := h
  refine And.intro k4 ?_
  intro ε_7 e_ε_7
  replace h := h ε_7 e_ε_7
  refine And.intro (And.intro (by decide) (by decide)) ?_
  intro a_3 ε_8 μ_4 e_a_3 e_ε_8 e_μ_4
  replace h := h a_3 ε_8 μ_4 e_a_3 e_ε_8 e_μ_4
  intro a_4 ε_9 μ_5 e_a_4 e_ε_9 e_μ_5
  replace h := h a_4 ε_9 μ_5 e_a_4 e_ε_9 e_μ_5
  obtain ⟨k5, h⟩ := h
  refine And.intro k5 ?_
  exact h
set_option maxRecDepth 20000 in
theorem g_X12_init_306 {Q X : m_Po} {v0 t t_1 : Int} {ε : m_E} {μ : m_M} (h : TY ε μ → kd ε t = 11 ∧ ∀ ε_1 : m_E, ε_1 = efin ε t 37 t_1 → ∀ (a : Int) (ε_2 : m_E) (μ_1 : m_M), a = nx ε_1 → ε_2 = ealloc ε_1 10 0 → μ_1 = mnew μ a → kd ε_2 a = 10 ∧ o_X11_init [(2, a)] ε_2 μ_1 (fun z ε_3 μ_2 => G cd_X12_init Q X 317 [(0, (2, v0))] [(2, a), (2, v0)] ε_3 μ_2) m_F) : G cd_X12_init Q X 306 [(0, (2, v0))] [(2, t_1), (2, t)] ε μ := by
  refine G_run (m_in [64, 127, 189, 251, 264, 274, 284, 294, 306, 317, 362, 372, 382, 392, 402, 412, 431, 441, 451, 461, 471, 481, 500, 510, 520, 530, 540, 550, 561, 601, 611, 621, 631, 641]) 36 _ _ _ _ ?_
  show m_ty [(0, (2, v0))] [(2, t_1), (2, t)] ε μ → (kd ε t = 11) ∧ ∀ ε_1 : m_E, ε_1 = efin ε t 37 t_1 → ∀ (a : Int) (ε_2 : m_E) (μ_1 : m_M), a = nx ε_1 → ε_2 = ealloc ε_1 10 0 → μ_1 = mnew μ a → (kd ε_2 a = 10) ∧ o_X11_init [(2, a)] ε_2 μ_1 (fun z ε_3 μ_2 => G cd_X12_init Q X 317 [(0, (2, v0))] [(2, a), (2, v0)] ε_3 μ_2) m_F
  intro hty
  replace h := h hty.1 
  obtain ⟨k1, h⟩ := h
  refine And.intro k1 ?_
  intro ε_1 e_ε_1
  replace h := h ε_1 e_ε_1
  intro a ε_2 μ_1 e_a e_ε_2 e_μ_1
  replace h := h a ε_2 μ_1 e_a e_ε_2 e_μ_1
  obtain ⟨k2, h⟩ := h
  refine And.intro k2 ?_
  exact h
set_option maxRecDepth 20000 in
theorem g_X12_init_294 {Q X : m_Po} {v0 t t_1 t_2 t_3 t_4 : Int} {ε : m_E} {μ : m_M} (h : TY ε μ → i32 t_3 → kd ε t_2 = 107 ∧ (0 : Int) ≤ t_3 ∧ t_3 < ln ε t_2 ∧ (t_4 = 0 ∨ kd ε t_4 = 10) ∧ ∀ μ_1 : m_M, μ_1 = st μ t_2 t_3 t_4 → kd ε t = 11 ∧ ∀ ε_1 : m_E, ε_1 = efin ε t 36 t_1 → ∀ (a : Int) (ε_2 : m_E) (μ_2 : m_M), a = nx ε_1 → ε_2 = ealloc ε_1 10 0 → μ_2 = mnew μ_1 a → kd ε_2 a = 10 ∧ o_X11_init [(2, a)] ε_2 μ_2 (fun z ε_3 μ_3 => G cd_X12_init Q X 306 [(0, (2, v0))] [(2, a), (2, v0)] ε_3 μ_3) m_F) : G cd_X12_init Q X 294 [(0, (2, v0))] [(2, t_4), (0, t_3), (2, t_2), (2, t_1), (2, t)] ε μ := by
  refine G_run (m_in [64, 127, 189, 251, 264, 274, 284, 294, 306, 317, 362, 372, 382, 392, 402, 412, 431, 441, 451, 461, 471, 481, 500, 510, 520, 530, 540, 550, 561, 601, 611, 621, 631, 641]) 36 _ _ _ _ ?_
  show m_ty [(0, (2, v0))] [(2, t_4), (0, t_3), (2, t_2), (2, t_1), (2, t)] ε μ → (kd ε t_2 = 107) ∧ ((0 : Int) ≤ t_3 ∧ t_3 < ln ε t_2) ∧ (t_4 = 0 ∨ kd ε t_4 = 10) ∧ ∀ μ_1 : m_M, μ_1 = st μ t_2 t_3 t_4 → (kd ε t = 11) ∧ ∀ ε_1 : m_E, ε_1 = efin ε t 36 t_1 → ∀ (a : Int) (ε_2 : m_E) (μ_2 : m_M), a = nx ε_1 → ε_2 = ealloc ε_1 10 0 → μ_2 = mnew μ_1 a → (kd ε_2 a = 10) ∧ o_X11_init [(2, a)] ε_2 μ_2 (fun z ε_3 μ_3 => G cd_X12_init Q X 306 [(0, (2, v0))] [(2, a), (2, v0)] ε_3 μ_3) m_F
  intro hty
  replace h := h hty.1 (hty.2.2 _ (List.mem_of_getElem? (i := 1) rfl))
  obtain ⟨k1, h⟩ := h
  refine And.intro k1 ?_
  obtain ⟨k2, h⟩ := h
  obtain ⟨k3, h⟩ := h
  refine And.intro (And.intro k2 k3) ?_
  obtain ⟨k4, h⟩ := h
  refine And.intro k4 ?_
  intro μ_1 e_μ_1
  replace h := h μ_1 e_μ_1
  obtain ⟨k5, h⟩ := h
  refine And.intro k5 ?_
  intro ε_1 e_ε_1
  replace h := h ε_1 e_ε_1
  intro a ε_2 μ_2 e_a e_ε_2 e_μ_2
  replace h := h a ε_2 μ_2 e_a e_ε_2 e_μ_2
  obtain ⟨k6, h⟩ := h
  refine And.intro k6 ?_
  exact h
set_option maxRecDepth 20000 in
theorem g_X12_init_284 {Q X : m_Po} {v0 t t_1 t_2 t_3 t_4 : Int} {ε : m_E} {μ : m_M} (h : TY ε μ → i32 t_3 → kd ε t_2 = 107 ∧ (0 : Int) ≤ t_3 ∧ t_3 < ln ε t_2 ∧ (t_4 = 0 ∨ kd ε t_4 = 10) ∧ ∀ μ_1 : m_M, μ_1 = st μ t_2 t_3 t_4 → ∀ (a : Int) (ε_1 : m_E) (μ_2 : m_M), a = nx ε → ε_1 = ealloc ε 10 0 → μ_2 = mnew μ_1 a → kd ε_1 a = 10 ∧ o_X11_init [(2, a)] ε_1 μ_2 (fun z ε_2 μ_3 => G cd_X12_init Q X 294 [(0, (2, v0))] [(2, a), (0, 3), (2, t_1), (2, t_1), (2, t)] ε_2 μ_3) m_F) : G cd_X12_init Q X 284 [(0, (2, v0))] [(2, t_4), (0, t_3), (2, t_2), (2, t_1), (2, t)] ε μ := by
  refine G_run (m_in [64, 127, 189, 251, 264, 274, 284, 294, 306, 317, 362, 372, 382, 392, 402, 412, 431, 441, 451, 461, 471, 481, 500, 510, 520, 530, 540, 550, 561, 601, 611, 621, 631, 641]) 36 _ _ _ _ ?_
  show m_ty [(0, (2, v0))] [(2, t_4), (0, t_3), (2, t_2), (2, t_1), (2, t)] ε μ → (kd ε t_2 = 107) ∧ ((0 : Int) ≤ t_3 ∧ t_3 < ln ε t_2) ∧ (t_4 = 0 ∨ kd ε t_4 = 10) ∧ ∀ μ_1 : m_M, μ_1 = st μ t_2 t_3 t_4 → ∀ (a : Int) (ε_1 : m_E) (μ_2 : m_M), a = nx ε → ε_1 = ealloc ε 10 0 → μ_2 = mnew μ_1 a → (kd ε_1 a = 10) ∧ o_X11_init [(2, a)] ε_1 μ_2 (fun z ε_2 μ_3 => G cd_X12_init Q X 294 [(0, (2, v0))] [(2, a), (0, 3), (2, t_1), (2, t_1), (2, t)] ε_2 μ_3) m_F
  intro hty
  replace h := h hty.1 (hty.2.2 _ (List.mem_of_getElem? (i := 1) rfl))
  obtain ⟨k1, h⟩ := h
  refine And.intro k1 ?_
  obtain ⟨k2, h⟩ := h
  obtain ⟨k3, h⟩ := h
  refine And.intro (And.intro k2 k3) ?_
  obtain ⟨k4, h⟩ := h
  refine And.intro k4 ?_
  intro μ_1 e_μ_1
  replace h := h μ_1 e_μ_1
  intro a ε_1 μ_2 e_a e_ε_1 e_μ_2
  replace h := h a ε_1 μ_2 e_a e_ε_1 e_μ_2
  obtain ⟨k5, h⟩ := h
  refine And.intro k5 ?_
  exact h
set_option maxRecDepth 20000 in
theorem g_X12_init_274 {Q X : m_Po} {v0 t t_1 t_2 t_3 t_4 : Int} {ε : m_E} {μ : m_M} (h : TY ε μ → i32 t_3 → kd ε t_2 = 107 ∧ (0 : Int) ≤ t_3 ∧ t_3 < ln ε t_2 ∧ (t_4 = 0 ∨ kd ε t_4 = 10) ∧ ∀ μ_1 : m_M, μ_1 = st μ t_2 t_3 t_4 → ∀ (a : Int) (ε_1 : m_E) (μ_2 : m_M), a = nx ε → ε_1 = ealloc ε 10 0 → μ_2 = mnew μ_1 a → kd ε_1 a = 10 ∧ o_X11_init [(2, a)] ε_1 μ_2 (fun z ε_2 μ_3 => G cd_X12_init Q X 284 [(0, (2, v0))] [(2, a), (0, 2), (2, t_1), (2, t_1), (2, t)] ε_2 μ_3) m_F) : G cd_X12_init Q X 274 [(0, (2, v0))] [(2, t_4), (0, t_3), (2, t_2), (2, t_1), (2, t)] ε μ := by
  refine G_run (m_in [64, 127, 189, 251, 264, 274, 284, 294, 306, 317, 362, 372, 382, 392, 402, 412, 431, 441, 451, 461, 471, 481, 500, 510, 520, 530, 540, 550, 561, 601, 611, 621, 631, 641]) 36 _ _ _ _ ?_
  show m_ty [(0, (2, v0))] [(2, t_4), (0, t_3), (2, t_2), (2, t_1), (2, t)] ε μ → (kd ε t_2 = 107) ∧ ((0 : Int) ≤ t_3 ∧ t_3 < ln ε t_2) ∧ (t_4 = 0 ∨ kd ε t_4 = 10) ∧ ∀ μ_1 : m_M, μ_1 = st μ t_2 t_3 t_4 → ∀ (a : Int) (ε_1 : m_E) (μ_2 : m_M), a = nx ε → ε_1 = ealloc ε 10 0 → μ_2 = mnew μ_1 a → (kd ε_1 a = 10) ∧ o_X11_init [(2, a)] ε_1 μ_2 (fun z ε_2 μ_3 => G cd_X12_init Q X 284 [(0, (2, v0))] [(2, a), (0, 2), (2, t_1), (2, t_1), (2, t)] ε_2 μ_3) m_F
  intro hty
  replace h := h hty.1 (hty.2.2 _ (List.mem_of_getElem? (i := 1) rfl))
  obtain ⟨k1, h⟩ := h
  refine And.intro k1 ?_
  obtain ⟨k2, h⟩ := h
  obtain ⟨k3, h⟩ := h
  refine And.intro (And.intro k2 k3) ?_
  obtain ⟨k4, h⟩ := h
  refine And.intro k4 ?_
  intro μ_1 e_μ_1
  replace h := h μ_1 e_μ_1
  intro a ε_1 μ_2 e_a e_ε_1 e_μ_2
  replace h := h a ε_1 μ_2 e_a e_ε_1 e_μ_2
  obtain ⟨k5, h⟩ := h
  refine And.intro k5 ?_
  exact h
set_option maxRecDepth 20000 in
theorem g_X12_init_264 {Q X : m_Po} {v0 t t_1 t_2 t_3 t_4 : Int} {ε : m_E} {μ : m_M} (h : TY ε μ → i32 t_3 → kd ε t_2 = 107 ∧ (0 : Int) ≤ t_3 ∧ t_3 < ln ε t_2 ∧ (t_4 = 0 ∨ kd ε t_4 = 10) ∧ ∀ μ_1 : m_M, μ_1 = st μ t_2 t_3 t_4 → ∀ (a : Int) (ε_1 : m_E) (μ_2 : m_M), a = nx ε → ε_1 = ealloc ε 10 0 → μ_2 = mnew μ_1 a → kd ε_1 a = 10 ∧ o_X11_init [(2, a)] ε_1 μ_2 (fun z ε_2 μ_3 => G cd_X12_init Q X 274 [(0, (2, v0))] [(2, a), (0, 1), (2, t_1), (2, t_1), (2, t)] ε_2 μ_3) m_F) : G cd_X12_init Q X 264 [(0, (2, v0))] [(2, t_4), (0, t_3), (2, t_2), (2, t_1), (2, t)] ε μ := by
  refine G_run (m_in [64, 127, 189, 251, 264, 274, 284, 294, 306, 317, 362, 372, 382, 392, 402, 412, 431, 441, 451, 461, 471, 481, 500, 510, 520, 530, 540, 550, 561, 601, 611, 621, 631, 641]) 36 _ _ _ _ ?_
  show m_ty [(0, (2, v0))] [(2, t_4), (0, t_3), (2, t_2), (2, t_1), (2, t)] ε μ → (kd ε t_2 = 107) ∧ ((0 : Int) ≤ t_3 ∧ t_3 < ln ε t_2) ∧ (t_4 = 0 ∨ kd ε t_4 = 10) ∧ ∀ μ_1 : m_M, μ_1 = st μ t_2 t_3 t_4 → ∀ (a : Int) (ε_1 : m_E) (μ_2 : m_M), a = nx ε → ε_1 = ealloc ε 10 0 → μ_2 = mnew μ_1 a → (kd ε_1 a = 10) ∧ o_X11_init [(2, a)] ε_1 μ_2 (fun z ε_2 μ_3 => G cd_X12_init Q X 274 [(0, (2, v0))] [(2, a), (0, 1), (2, t_1), (2, t_1), (2, t)] ε_2 μ_3) m_F
  intro hty
  replace h := h hty.1 (hty.2.2 _ (List.mem_of_getElem? (i := 1) rfl))
  obtain ⟨k1, h⟩ := h
  refine And.intro k1 ?_
  obtain ⟨k2, h⟩ := h
  obtain ⟨k3, h⟩ := h
  refine And.intro (And.intro k2 k3) ?_
  obtain ⟨k4, h⟩ := h
  refine And.intro k4 ?_
  intro μ_1 e_μ_1
  replace h := h μ_1 e_μ_1
  intro a ε_1 μ_2 e_a e_ε_1 e_μ_2
  replace h := h a ε_1 μ_2 e_a e_ε_1 e_μ_2
  obtain ⟨k5, h⟩ := h
  refine And.intro k5 ?_
  exact h
set_option maxRecDepth 20000 in
theorem g_X12_init_251 {Q X : m_Po} {v0 t : Int} {ε : m_E} {μ : m_M} (h : TY ε μ → ∀ (a : Int) (ε_1 : m_E) (μ_1 : m_M), a = nx ε → ε_1 = ealloc ε 107 4 → μ_1 = mnew μ a → ∀ (a_1 : Int) (ε_2 : m_E) (μ_2 : m_M), a_1 = nx ε_1 → ε_2 = ealloc ε_1 10 0 → μ_2 = mnew μ_1 a_1 → kd ε_2 a_1 = 10 ∧ o_X11_init [(2, a_1)] ε_2 μ_2 (fun z ε_3 μ_3 => G cd_X12_init Q X 264 [(0, (2, v0))] [(2, a_1), (0, 0), (2, a), (2, a), (2, t)] ε_3 μ_3) m_F) : G cd_X12_init Q X 251 [(0, (2, v0))] [(2, t)] ε μ := by
  refine G_run (m_in [64, 127, 189, 251, 264, 274, 284, 294, 306, 317, 362, 372, 382, 392, 402, 412, 431, 441, 451, 461, 471, 481, 500, 510, 520, 530, 540, 550, 561, 601, 611, 621, 631, 641]) 36 _ _ _ _ ?_
  show m_ty [(0, (2, v0))] [(2, t)] ε μ → ((0 : Int) ≤ 4 ∧ (4 : Int) ≤ 4) ∧ ∀ (a : Int) (ε_1 : m_E) (μ_1 : m_M), a = nx ε → ε_1 = ealloc ε 107 4 → μ_1 = mnew μ a → ∀ (a_1 : Int) (ε_2 : m_E) (μ_2 : m_M), a_1 = nx ε_1 → ε_2 = ealloc ε_1 10 0 → μ_2 = mnew μ_1 a_1 → (kd ε_2 a_1 = 10) ∧ o_X11_init [(2, a_1)] ε_2 μ_2 (fun z ε_3 μ_3 => G cd_X12_init Q X 264 [(0, (2, v0))] [(2, a_1), (0, 0), (2, a), (2, a), (2, t)] ε_3 μ_3) m_F
  intro hty
  replace h := h hty.1 
  refine And.intro (And.intro (by decide) (by decide)) ?_
  intro a ε_1 μ_1 e_a e_ε_1 e_μ_1
  replace h := h a ε_1 μ_1 e_a e_ε_1 e_μ_1
  intro a_1 ε_2 μ_2 e_a_1 e_ε_2 e_μ_2
  replace h := h a_1 ε_2 μ_2 e_a_1 e_ε_2 e_μ_2
  obtain ⟨k1, h⟩ := h
  refine And.intro k1 ?_
  exact h
set_option maxRecDepth 20000 in
theorem g_X12_init_189 {Q X : m_Po} {v0 t t_1 : Int} {ε : m_E} {μ : m_M} (h : TY ε μ → i32 t_1 → (0 : Int) ≤ t_1 ∧ (t_1 : Int) ≤ 12 ∧ ∀ (a : Int) (ε_1 : m_E) (μ_1 : m_M), a = nx ε → ε_1 = ealloc ε 100 t_1 → μ_1 = mnew μ a → kd ε_1 t = 11 ∧ ∀ ε_2 : m_E, ε_2 = efin ε_1 t 25 a → ∀ (a_1 : Int) (ε_3 : m_E) (μ_2 : m_M), a_1 = nx ε_2 → ε_3 = ealloc ε_2 100 12 → μ_2 = mnew μ_1 a_1 → kd ε_3 v0 = 11 ∧ ∀ ε_4 : m_E, ε_4 = efin ε_3 v0 26 a_1 → ∀ (a_2 : Int) (ε_5 : m_E) (μ_3 : m_M), a_2 = nx ε_4 → ε_5 = ealloc ε_4 100 44 → μ_3 = mnew μ_2 a_2 → kd ε_5 v0 = 11 ∧ ∀ ε_6 : m_E, ε_6 = efin ε_5 v0 28 a_2 → ∀ (a_3 : Int) (ε_7 : m_E) (μ_4 : m_M), a_3 = nx ε_6 → ε_7 = ealloc ε_6 101 48 → μ_4 = mnew μ_3 a_3 → kd ε_7 v0 = 11 ∧ ∀ ε_8 : m_E, ε_8 = efin ε_7 v0 30 a_3 → ∀ (a_4 : Int) (ε_9 : m_E) (μ_5 : m_M), a_4 = nx ε_8 → ε_9 = ealloc ε_8 101 48 → μ_5 = mnew μ_4 a_4 → kd ε_9 v0 = 11 ∧ ∀ ε_10 : m_E, ε_10 = efin ε_9 v0 31 a_4 → ∀ (a_5 : Int) (ε_11 : m_E) (μ_6 : m_M), a_5 = nx ε_10 → ε_11 = ealloc ε_10 101 48 → μ_6 = mnew μ_5 a_5 → kd ε_11 v0 = 11 ∧ ∀ ε_12 : m_E, ε_12 = efin ε_11 v0 32 a_5 → ∀ (a_6 : Int) (ε_13 : m_E) (μ_7 : m_M), a_6 = nx ε_12 → ε_13 = ealloc ε_12 101 48 → μ_7 = mnew μ_6 a_6 → kd ε_13 v0 = 11 ∧ ∀ ε_14 : m_E, ε_14 = efin ε_13 v0 33 a_6 → ∀ (a_7 : Int) (ε_15 : m_E) (μ_8 : m_M), a_7 = nx ε_14 → ε_15 = ealloc ε_14 100 48 → μ_8 = mnew μ_7 a_7 → kd ε_15 v0 = 11 ∧ ∀ ε_16 : m_E, ε_16 = efin ε_15 v0 34 a_7 → ∀ (a_8 : Int) (ε_17 : m_E) (μ_9 : m_M), a_8 = nx ε_16 → ε_17 = ealloc ε_16 107 4 → μ_9 = mnew μ_8 a_8 → ∀ (a_9 : Int) (ε_18 : m_E) (μ_10 : m_M), a_9 = nx ε_17 → ε_18 = ealloc ε_17 10 0 → μ_10 = mnew μ_9 a_9 → kd ε_18 a_9 = 10 ∧ o_X11_init [(2, a_9)] ε_18 μ_10 (fun z ε_19 μ_11 => G cd_X12_init Q X 264 [(0, (2, v0))] [(2, a_9), (0, 0), (2, a_8), (2, a_8), (2, v0)] ε_19 μ_11) m_F) : G cd_X12_init Q X 189 [(0, (2, v0))] [(0, t_1), (2, t)] ε μ := by
  refine G_run (m_in [64, 127, 189, 251, 264, 274, 284, 294, 306, 317, 362, 372, 382, 392, 402, 412, 431, 441, 451, 461, 471, 481, 500, 510, 520, 530, 540, 550, 561, 601, 611, 621, 631, 641]) 36 _ _ _ _ ?_
  show m_ty [(0, (2, v0))] [(0, t_1), (2, t)] ε μ → ((0 : Int) ≤ t_1 ∧ (t_1 : Int) ≤ 12) ∧ ∀ (a : Int) (ε_1 : m_E) (μ_1 : m_M), a = nx ε → ε_1 = ealloc ε 100 t_1 → μ_1 = mnew μ a → (kd ε_1 t = 11) ∧ ∀ ε_2 : m_E, ε_2 = efin ε_1 t 25 a → ((0 : Int) ≤ 12 ∧ (12 : Int) ≤ 12) ∧ ∀ (a_1 : Int) (ε_3 : m_E) (μ_2 : m_M), a_1 = nx ε_2 → ε_3 = ealloc ε_2 100 12 → μ_2 = mnew μ_1 a_1 → (kd ε_3 v0 = 11) ∧ ∀ ε_4 : m_E, ε_4 = efin ε_3 v0 26 a_1 → ((0 : Int) ≤ 44 ∧ (44 : Int) ≤ 44) ∧ ∀ (a_2 : Int) (ε_5 : m_E) (μ_3 : m_M), a_2 = nx ε_4 → ε_5 = ealloc ε_4 100 44 → μ_3 = mnew μ_2 a_2 → (kd ε_5 v0 = 11) ∧ ∀ ε_6 : m_E, ε_6 = efin ε_5 v0 28 a_2 → ((0 : Int) ≤ 48 ∧ (48 : Int) ≤ 48) ∧ ∀ (a_3 : Int) (ε_7 : m_E) (μ_4 : m_M), a_3 = nx ε_6 → ε_7 = ealloc ε_6 101 48 → μ_4 = mnew μ_3 a_3 → (kd ε_7 v0 = 11) ∧ ∀ ε_8 : m_E, ε_8 = efin ε_7 v0 30 a_3 → ((0 : Int) ≤ 48 ∧ (48 : Int) ≤ 48) ∧ ∀ (a_4 : Int) (ε_9 : m_E) (μ_5 : m_M), a_4 = nx ε_8 → ε_9 = ealloc ε_8 101 48 → μ_5 = mnew μ_4 a_4 → (kd ε_9 v0 = 11) ∧ ∀ ε_10 : m_E, ε_10 = efin ε_9 v0 31 a_4 → ((0 : Int) ≤ 48 ∧ (48 : Int) ≤ 48) ∧ ∀ (a_5 : Int) (ε_11 : m_E) (μ_6 : m_M), a_5 = nx ε_10 → ε_11 = ealloc ε_10 101 48 → μ_6 = mnew μ_5 a_5 → (kd ε_11 v0 = 11) ∧ ∀ ε_12 : m_E, ε_12 = efin ε_11 v0 32 a_5 → ((0 : Int) ≤ 48 ∧ (48 : Int) ≤ 48) ∧ ∀ (a_6 : Int) (ε_13 : m_E) (μ_7 : m_M), a_6 = nx ε_12 → ε_13 = ealloc ε_12 101 48 → μ_7 = mnew μ_6 a_6 → (kd ε_13 v0 = 11) ∧ ∀ ε_14 : m_E, ε_14 = efin ε_13 v0 33 a_6 → ((0 : Int) ≤ 48 ∧ (48 : Int) ≤ 48) ∧ ∀ (a_7 : Int) (ε_15 : m_E) (μ_8 : m_M), a_7 = nx ε_14 → ε_15 = ealloc ε_14 100 48 → μ_8 = mnew μ_7 a_7 → (kd ε_15 v0 = 11) ∧ ∀ ε_16 : m_E, ε_16 = efin ε_15 v0 34 a_7 → G cd_X12_init Q X 251 [(0, (2, v0))] [(2, v0)] ε_16 μ_8
  intro hty
  replace h := h hty.1 (hty.2.2 _ (List.mem_of_getElem? (i := 0) rfl))
  obtain ⟨k1, h⟩ := h
  obtain ⟨k2, h⟩ := h
  refine And.intro (And.intro k1 k2) ?_
  intro a ε_1 μ_1 e_a e_ε_1 e_μ_1
  replace h := h a ε_1 μ_1 e_a e_ε_1 e_μ_1
  obtain ⟨k3, h⟩ := h
  refine And.intro k3 ?_
  intro ε_2 e_ε_2
  replace h := h ε_2 e_ε_2
  refine And.intro (And.intro (by decide) (by decide)) ?_
  intro a_1 ε_3 μ_2 e_a_1 e_ε_3 e_μ_2
  replace h := h a_1 ε_3 μ_2 e_a_1 e_ε_3 e_μ_2
  obtain ⟨k4, h⟩ := h
  refine And.intro k4 ?_
  intro ε_4 e_ε_4
  replace h := h ε_4 e_ε_4
  refine And.intro (And.intro (by decide) (by decide)) ?_
  intro a_2 ε_5 μ_3 e_a_2 e_ε_5 e_μ_3
  replace h := h a_2 ε_5 μ_3 e_a_2 e_ε_5 e_μ_3
  obtain ⟨k5, h⟩ := h
  refine And.intro k5 ?_
  intro ε_6 e_ε_6
  replace h := h ε_6 e_ε_6
  refine And.intro (And.intro (by decide) (by decide)) ?_
  intro a_3 ε_7 μ_4 e_a_3 e_ε_7 e_μ_4
  replace h := h a_3 ε_7 μ_4 e_a_3 e_ε_7 e_μ_4
  obtain ⟨k6, h⟩ := h
  refine And.intro k6 ?_
  intro ε_8 e_ε_8
  replace h := h ε_8 e_ε_8
  refine And.intro (And.intro (by decide) (by decide)) ?_
  intro a_4 ε_9 μ_5 e_a_4 e_ε_9 e_μ_5
  replace h := h a_4 ε_9 μ_5 e_a_4 e_ε_9 e_μ_5
  obtain ⟨k7, h⟩ := h
  refine And.intro k7 ?_
  intro ε_10 e_ε_10
  replace h := h ε_10 e_ε_10
  refine And.intro (And.intro (by decide) (by decide)) ?_
  intro a_5 ε_11 μ_6 e_a_5 e_ε_11 e_μ_6
  replace h := h a_5 ε_11 μ_6 e_a_5 e_ε_11 e_μ_6
  obtain ⟨k8, h⟩ := h
  refine And.intro k8 ?_
  intro ε_12 e_ε_12
  replace h := h ε_12 e_ε_12
  refine And.intro (And.intro (by decide) (by decide)) ?_
  intro a_6 ε_13 μ_7 e_a_6 e_ε_13 e_μ_7
  replace h := h a_6 ε_13 μ_7 e_a_6 e_ε_13 e_μ_7
  obtain ⟨k9, h⟩ := h
  refine And.intro k9 ?_
  intro ε_14 e_ε_14
  replace h := h ε_14 e_ε_14
  refine And.intro (And.intro (by decide) (by decide)) ?_
  intro a_7 ε_15 μ_8 e_a_7 e_ε_15 e_μ_8
  replace h := h a_7 ε_15 μ_8 e_a_7 e_ε_15 e_μ_8
  obtain ⟨k10, h⟩ := h
  refine And.intro k10 ?_
  intro ε_16 e_ε_16
  replace h := h ε_16 e_ε_16
  exact g_X12_init_251 (fun _ => h)
set_option maxRecDepth 20000 in
theorem g_X12_init_127 {Q X : m_Po} {v0 t t_1 : Int} {ε : m_E} {μ : m_M} (h : TY ε μ → kd ε t = 11 ∧ ∀ ε_1 : m_E, ε_1 = efin ε t 17 t_1 → ∀ (a : Int) (ε_2 : m_E) (μ_1 : m_M), a = nx ε_1 → ε_2 = ealloc ε_1 100 120 → μ_1 = mnew μ a → kd ε_2 v0 = 11 ∧ ∀ ε_3 : m_E, ε_3 = efin ε_2 v0 18 a → ∀ (a_1 : Int) (ε_4 : m_E) (μ_2 : m_M), a_1 = nx ε_3 → ε_4 = ealloc ε_3 103 24 → μ_2 = mnew μ_1 a_1 → kd ε_4 v0 = 11 ∧ ∀ ε_5 : m_E, ε_5 = efin ε_4 v0 19 a_1 → ∀ (a_2 : Int) (ε_6 : m_E) (μ_3 : m_M), a_2 = nx ε_5 → ε_6 = ealloc ε_5 100 96 → μ_3 = mnew μ_2 a_2 → kd ε_6 v0 = 11 ∧ ∀ ε_7 : m_E, ε_7 = efin ε_6 v0 20 a_2 → ∀ (a_3 : Int) (ε_8 : m_E) (μ_4 : m_M), a_3 = nx ε_7 → ε_8 = ealloc ε_7 100 12 → μ_4 = mnew μ_3 a_3 → kd ε_8 v0 = 11 ∧ ∀ ε_9 : m_E, ε_9 = efin ε_8 v0 21 a_3 → ∀ (a_4 : Int) (ε_10 : m_E) (μ_5 : m_M), a_4 = nx ε_9 → ε_10 = ealloc ε_9 100 72 → μ_5 = mnew μ_4 a_4 → kd ε_10 v0 = 11 ∧ ∀ ε_11 : m_E, ε_11 = efin ε_10 v0 22 a_4 → ∀ (a_5 : Int) (ε_12 : m_E) (μ_6 : m_M), a_5 = nx ε_11 → ε_12 = ealloc ε_11 100 72 → μ_6 = mnew μ_5 a_5 → kd ε_12 v0 = 11 ∧ ∀ ε_13 : m_E, ε_13 = efin ε_12 v0 23 a_5 → ∀ (a_6 : Int) (ε_14 : m_E) (μ_7 : m_M), a_6 = nx ε_13 → ε_14 = ealloc ε_13 100 72 → μ_7 = mnew μ_6 a_6 → kd ε_14 v0 = 11 ∧ ∀ ε_15 : m_E, ε_15 = efin ε_14 v0 24 a_6 → (0 : Int) ≤ 12 ∧ (12 : Int) ≤ 12 ∧ ∀ (a_7 : Int) (ε_16 : m_E) (μ_8 : m_M), a_7 = nx ε_15 → ε_16 = ealloc ε_15 100 12 → μ_8 = mnew μ_7 a_7 → kd ε_16 v0 = 11 ∧ ∀ ε_17 : m_E, ε_17 = efin ε_16 v0 25 a_7 → ∀ (a_8 : Int) (ε_18 : m_E) (μ_9 : m_M), a_8 = nx ε_17 → ε_18 = ealloc ε_17 100 12 → μ_9 = mnew μ_8 a_8 → kd ε_18 v0 = 11 ∧ ∀ ε_19 : m_E, ε_19 = efin ε_18 v0 26 a_8 → ∀ (a_9 : Int) (ε_20 : m_E) (μ_10 : m_M), a_9 = nx ε_19 → ε_20 = ealloc ε_19 100 44 → μ_10 = mnew μ_9 a_9 → kd ε_20 v0 = 11 ∧ ∀ ε_21 : m_E, ε_21 = efin ε_20 v0 28 a_9 → ∀ (a_10 : Int) (ε_22 : m_E) (μ_11 : m_M), a_10 = nx ε_21 → ε_22 = ealloc ε_21 101 48 → μ_11 = mnew μ_10 a_10 → kd ε_22 v0 = 11 ∧ ∀ ε_23 : m_E, ε_23 = efin ε_22 v0 30 a_10 → ∀ (a_11 : Int) (ε_24 : m_E) (μ_12 : m_M), a_11 = nx ε_23 → ε_24 = ealloc ε_23 101 48 → μ_12 = mnew μ_11 a_11 → kd ε_24 v0 = 11 ∧ ∀ ε_25 : m_E, ε_25 = efin ε_24 v0 31 a_11 → ∀ (a_12 : Int) (ε_26 : m_E) (μ_13 : m_M), a_12 = nx ε_25 → ε_26 = ealloc ε_25 101 48 → μ_13 = mnew μ_12 a_12 → kd ε_26 v0 = 11 ∧ ∀ ε_27 : m_E, ε_27 = efin ε_26 v0 32 a_12 → ∀ (a_13 : Int) (ε_28 : m_E) (μ_14 : m_M), a_13 = nx ε_27 → ε_28 = ealloc ε_27 101 48 → μ_14 = mnew μ_13 a_13 → kd ε_28 v0 = 11 ∧ ∀ ε_29 : m_E, ε_29 = efin ε_28 v0 33 a_13 → ∀ (a_14 : Int) (ε_30 : m_E) (μ_15 : m_M), a_14 = nx ε_29 → ε_30 = ealloc ε_29 100 48 → μ_15 = mnew μ_14 a_14 → kd ε_30 v0 = 11 ∧ ∀ ε_31 : m_E, ε_31 = efin ε_30 v0 34 a_14 → ∀ (a_15 : Int) (ε_32 : m_E) (μ_16 : m_M), a_15 = nx ε_31 → ε_32 = ealloc ε_31 107 4 → μ_16 = mnew μ_15 a_15 → ∀ (a_16 : Int) (ε_33 : m_E) (μ_17 : m_M), a_16 = nx ε_32 → ε_33 = ealloc ε_32 10 0 → μ_17 = mnew μ_16 a_16 → kd ε_33 a_16 = 10 ∧ o_X11_init [(2, a_16)] ε_33 μ_17 (fun z ε_34 μ_18 => G cd_X12_init Q X 264 [(0, (2, v0))] [(2, a_16), (0, 0), (2, a_15), (2, a_15), (2, v0)] ε_34 μ_18) m_F) : G cd_X12_init Q X 127 [(0, (2, v0))] [(2, t_1), (2, t)] ε μ := by
  refine G_run (m_in [64, 127, 189, 251, 264, 274, 284, 294, 306, 317, 362, 372, 382, 392, 402, 412, 431, 441, 451, 461, 471, 481, 500, 510, 520, 530, 540, 550, 561, 601, 611, 621, 631, 641]) 36 _ _ _ _ ?_
  show m_ty [(0, (2, v0))] [(2, t_1), (2, t)] ε μ → (kd ε t = 11) ∧ ∀ ε_1 : m_E, ε_1 = efin ε t 17 t_1 → ((0 : Int) ≤ 120 ∧ (120 : Int) ≤ 120) ∧ ∀ (a : Int) (ε_2 : m_E) (μ_1 : m_M), a = nx ε_1 → ε_2 = ealloc ε_1 100 120 → μ_1 = mnew μ a → (kd ε_2 v0 = 11) ∧ ∀ ε_3 : m_E, ε_3 = efin ε_2 v0 18 a → ((0 : Int) ≤ 24 ∧ (24 : Int) ≤ 24) ∧ ∀ (a_1 : Int) (ε_4 : m_E) (μ_2 : m_M), a_1 = nx ε_3 → ε_4 = ealloc ε_3 103 24 → μ_2 = mnew μ_1 a_1 → (kd ε_4 v0 = 11) ∧ ∀ ε_5 : m_E, ε_5 = efin ε_4 v0 19 a_1 → ((0 : Int) ≤ 96 ∧ (96 : Int) ≤ 96) ∧ ∀ (a_2 : Int) (ε_6 : m_E) (μ_3 : m_M), a_2 = nx ε_5 → ε_6 = ealloc ε_5 100 96 → μ_3 = mnew μ_2 a_2 → (kd ε_6 v0 = 11) ∧ ∀ ε_7 : m_E, ε_7 = efin ε_6 v0 20 a_2 → ((0 : Int) ≤ 12 ∧ (12 : Int) ≤ 12) ∧ ∀ (a_3 : Int) (ε_8 : m_E) (μ_4 : m_M), a_3 = nx ε_7 → ε_8 = ealloc ε_7 100 12 → μ_4 = mnew μ_3 a_3 → (kd ε_8 v0 = 11) ∧ ∀ ε_9 : m_E, ε_9 = efin ε_8 v0 21 a_3 → ((0 : Int) ≤ 72 ∧ (72 : Int) ≤ 72) ∧ ∀ (a_4 : Int) (ε_10 : m_E) (μ_5 : m_M), a_4 = nx ε_9 → ε_10 = ealloc ε_9 100 72 → μ_5 = mnew μ_4 a_4 → (kd ε_10 v0 = 11) ∧ ∀ ε_11 : m_E, ε_11 = efin ε_10 v0 22 a_4 → ((0 : Int) ≤ 72 ∧ (72 : Int) ≤ 72) ∧ ∀ (a_5 : Int) (ε_12 : m_E) (μ_6 : m_M), a_5 = nx ε_11 → ε_12 = ealloc ε_11 100 72 → μ_6 = mnew μ_5 a_5 → (kd ε_12 v0 = 11) ∧ ∀ ε_13 : m_E, ε_13 = efin ε_12 v0 23 a_5 → ((0 : Int) ≤ 72 ∧ (72 : Int) ≤ 72) ∧ ∀ (a_6 : Int) (ε_14 : m_E) (μ_7 : m_M), a_6 = nx ε_13 → ε_14 = ealloc ε_13 100 72 → μ_7 = mnew μ_6 a_6 → (kd ε_14 v0 = 11) ∧ ∀ ε_15 : m_E, ε_15 = efin ε_14 v0 24 a_6 → G cd_X12_init Q X 189 [(0, (2, v0))] [(0, 12), (2, v0)] ε_15 μ_7
  intro hty
  replace h := h hty.1 
  obtain ⟨k1, h⟩ := h
  refine And.intro k1 ?_
  intro ε_1 e_ε_1
  replace h := h ε_1 e_ε_1
  refine And.intro (And.intro (by decide) (by decide)) ?_
  intro a ε_2 μ_1 e_a e_ε_2 e_μ_1
  replace h := h a ε_2 μ_1 e_a e_ε_2 e_μ_1
  obtain ⟨k2, h⟩ := h
  refine And.intro k2 ?_
  intro ε_3 e_ε_3
  replace h := h ε_3 e_ε_3
  refine And.intro (And.intro (by decide) (by decide)) ?_
  intro a_1 ε_4 μ_2 e_a_1 e_ε_4 e_μ_2
  replace h := h a_1 ε_4 μ_2 e_a_1 e_ε_4 e_μ_2
  obtain ⟨k3, h⟩ := h
  refine And.intro k3 ?_
  intro ε_5 e_ε_5
  replace h := h ε_5 e_ε_5
  refine And.intro (And.intro (by decide) (by decide)) ?_
  intro a_2 ε_6 μ_3 e_a_2 e_ε_6 e_μ_3
  replace h := h a_2 ε_6 μ_3 e_a_2 e_ε_6 e_μ_3
  obtain ⟨k4, h⟩ := h
  refine And.intro k4 ?_
  intro ε_7 e_ε_7
  replace h := h ε_7 e_ε_7
  refine And.intro (And.intro (by decide) (by decide)) ?_
  intro a_3 ε_8 μ_4 e_a_3 e_ε_8 e_μ_4
  replace h := h a_3 ε_8 μ_4 e_a_3 e_ε_8 e_μ_4
  obtain ⟨k5, h⟩ := h
  refine And.intro k5 ?_
  intro ε_9 e_ε_9
  replace h := h ε_9 e_ε_9
  refine And.intro (And.intro (by decide) (by decide)) ?_
  intro a_4 ε_10 μ_5 e_a_4 e_ε_10 e_μ_5
  replace h := h a_4 ε_10 μ_5 e_a_4 e_ε_10 e_μ_5
  obtain ⟨k6, h⟩ := h
  refine And.intro k6 ?_
  intro ε_11 e_ε_11
  replace h := h ε_11 e_ε_11
  refine And.intro (And.intro (by decide) (by decide)) ?_
  intro a_5 ε_12 μ_6 e_a_5 e_ε_12 e_μ_6
  replace h := h a_5 ε_12 μ_6 e_a_5 e_ε_12 e_μ_6
  obtain ⟨k7, h⟩ := h
  refine And.intro k7 ?_
  intro ε_13 e_ε_13
  replace h := h ε_13 e_ε_13
  refine And.intro (And.intro (by decide) (by decide)) ?_
  intro a_6 ε_14 μ_7 e_a_6 e_ε_14 e_μ_7
  replace h := h a_6 ε_14 μ_7 e_a_6 e_ε_14 e_μ_7
  obtain ⟨k8, h⟩ := h
  refine And.intro k8 ?_
  intro ε_15 e_ε_15
  replace h := h ε_15 e_ε_15
  exact g_X12_init_189 (fun _ _ => h)
set_option maxRecDepth 20000 in
theorem g_X12_init_64 {Q X : m_Po} {v0 : Int} {ε : m_E} {μ : m_M} (h : TY ε μ → ∀ (a : Int) (ε_1 : m_E) (μ_1 : m_M), a = nx ε → ε_1 = ealloc ε 100 120 → μ_1 = mnew μ a → kd ε_1 v0 = 11 ∧ ∀ ε_2 : m_E, ε_2 = efin ε_1 v0 9 a → ∀ (a_1 : Int) (ε_3 : m_E) (μ_2 : m_M), a_1 = nx ε_2 → ε_3 = ealloc ε_2 100 120 → μ_2 = mnew μ_1 a_1 → kd ε_3 v0 = 11 ∧ ∀ ε_4 : m_E, ε_4 = efin ε_3 v0 10 a_1 → ∀ (a_2 : Int) (ε_5 : m_E) (μ_3 : m_M), a_2 = nx ε_4 → ε_5 = ealloc ε_4 100 120 → μ_3 = mnew μ_2 a_2 → kd ε_5 v0 = 11 ∧ ∀ ε_6 : m_E, ε_6 = efin ε_5 v0 11 a_2 → ∀ (a_3 : Int) (ε_7 : m_E) (μ_4 : m_M), a_3 = nx ε_6 → ε_7 = ealloc ε_6 101 240 → μ_4 = mnew μ_3 a_3 → kd ε_7 v0 = 11 ∧ ∀ ε_8 : m_E, ε_8 = efin ε_7 v0 12 a_3 → ∀ (a_4 : Int) (ε_9 : m_E) (μ_5 : m_M), a_4 = nx ε_8 → ε_9 = ealloc ε_8 101 240 → μ_5 = mnew μ_4 a_4 → kd ε_9 v0 = 11 ∧ ∀ ε_10 : m_E, ε_10 = efin ε_9 v0 13 a_4 → ∀ (a_5 : Int) (ε_11 : m_E) (μ_6 : m_M), a_5 = nx ε_10 → ε_11 = ealloc ε_10 100 12 → μ_6 = mnew μ_5 a_5 → kd ε_11 v0 = 11 ∧ ∀ ε_12 : m_E, ε_12 = efin ε_11 v0 15 a_5 → ∀ (a_6 : Int) (ε_13 : m_E) (μ_7 : m_M), a_6 = nx ε_12 → ε_13 = ealloc ε_12 100 12 → μ_7 = mnew μ_6 a_6 → kd ε_13 v0 = 11 ∧ ∀ ε_14 : m_E, ε_14 = efin ε_13 v0 16 a_6 → ∀ (a_7 : Int) (ε_15 : m_E) (μ_8 : m_M), a_7 = nx ε_14 → ε_15 = ealloc ε_14 100 12 → μ_8 = mnew μ_7 a_7 → kd ε_15 v0 = 11 ∧ ∀ ε_16 : m_E, ε_16 = efin ε_15 v0 17 a_7 → ∀ (a_8 : Int) (ε_17 : m_E) (μ_9 : m_M), a_8 = nx ε_16 → ε_17 = ealloc ε_16 100 120 → μ_9 = mnew μ_8 a_8 → kd ε_17 v0 = 11 ∧ ∀ ε_18 : m_E, ε_18 = efin ε_17 v0 18 a_8 → ∀ (a_9 : Int) (ε_19 : m_E) (μ_10 : m_M), a_9 = nx ε_18 → ε_19 = ealloc ε_18 103 24 → μ_10 = mnew μ_9 a_9 → kd ε_19 v0 = 11 ∧ ∀ ε_20 : m_E, ε_20 = efin ε_19 v0 19 a_9 → ∀ (a_10 : Int) (ε_21 : m_E) (μ_11 : m_M), a_10 = nx ε_20 → ε_21 = ealloc ε_20 100 96 → μ_11 = mnew μ_10 a_10 → kd ε_21 v0 = 11 ∧ ∀ ε_22 : m_E, ε_22 = efin ε_21 v0 20 a_10 → ∀ (a_11 : Int) (ε_23 : m_E) (μ_12 : m_M), a_11 = nx ε_22 → ε_23 = ealloc ε_22 100 12 → μ_12 = mnew μ_11 a_11 → kd ε_23 v0 = 11 ∧ ∀ ε_24 : m_E, ε_24 = efin ε_23 v0 21 a_11 → ∀ (a_12 : Int) (ε_25 : m_E) (μ_13 : m_M), a_12 = nx ε_24 → ε_25 = ealloc ε_24 100 72 → μ_13 = mnew μ_12 a_12 → kd ε_25 v0 = 11 ∧ ∀ ε_26 : m_E, ε_26 = efin ε_25 v0 22 a_12 → ∀ (a_13 : Int) (ε_27 : m_E) (μ_14 : m_M), a_13 = nx ε_26 → ε_27 = ealloc ε_26 100 72 → μ_14 = mnew μ_13 a_13 → kd ε_27 v0 = 11 ∧ ∀ ε_28 : m_E, ε_28 = efin ε_27 v0 23 a_13 → ∀ (a_14 : Int) (ε_29 : m_E) (μ_15 : m_M), a_14 = nx ε_28 → ε_29 = ealloc ε_28 100 72 → μ_15 = mnew μ_14 a_14 → kd ε_29 v0 = 11 ∧ ∀ ε_30 : m_E, ε_30 = efin ε_29 v0 24 a_14 → (0 : Int) ≤ 12 ∧ (12 : Int) ≤ 12 ∧ ∀ (a_15 : Int) (ε_31 : m_E) (μ_16 : m_M), a_15 = nx ε_30 → ε_31 = ealloc ε_30 100 12 → μ_16 = mnew μ_15 a_15 → kd ε_31 v0 = 11 ∧ ∀ ε_32 : m_E, ε_32 = efin ε_31 v0 25 a_15 → ∀ (a_16 : Int) (ε_33 : m_E) (μ_17 : m_M), a_16 = nx ε_32 → ε_33 = ealloc ε_32 100 12 → μ_17 = mnew μ_16 a_16 → kd ε_33 v0 = 11 ∧ ∀ ε_34 : m_E, ε_34 = efin ε_33 v0 26 a_16 → ∀ (a_17 : Int) (ε_35 : m_E) (μ_18 : m_M), a_17 = nx ε_34 → ε_35 = ealloc ε_34 100 44 → μ_18 = mnew μ_17 a_17 → kd ε_35 v0 = 11 ∧ ∀ ε_36 : m_E, ε_36 = efin ε_35 v0 28 a_17 → ∀ (a_18 : Int) (ε_37 : m_E) (μ_19 : m_M), a_18 = nx ε_36 → ε_37 = ealloc ε_36 101 48 → μ_19 = mnew μ_18 a_18 → kd ε_37 v0 = 11 ∧ ∀ ε_38 : m_E, ε_38 = efin ε_37 v0 30 a_18 → ∀ (a_19 : Int) (ε_39 : m_E) (μ_20 : m_M), a_19 = nx ε_38 → ε_39 = ealloc ε_38 101 48 → μ_20 = mnew μ_19 a_19 → kd ε_39 v0 = 11 ∧ ∀ ε_40 : m_E, ε_40 = efin ε_39 v0 31 a_19 → ∀ (a_20 : Int) (ε_41 : m_E) (μ_21 : m_M), a_20 = nx ε_40 → ε_41 = ealloc ε_40 101 48 → μ_21 = mnew μ_20 a_20 → kd ε_41 v0 = 11 ∧ ∀ ε_42 : m_E, ε_42 = efin ε_41 v0 32 a_20 → ∀ (a_21 : Int) (ε_43 : m_E) (μ_22 : m_M), a_21 = nx ε_42 → ε_43 = ealloc ε_42 101 48 → μ_22 = mnew μ_21 a_21 → kd ε_43 v0 = 11 ∧ ∀ ε_44 : m_E, ε_44 = efin ε_43 v0 33 a_21 → ∀ (a_22 : Int) (ε_45 : m_E) (μ_23 : m_M), a_22 = nx ε_44 → ε_45 = ealloc ε_44 100 48 → μ_23 = mnew μ_22 a_22 → kd ε_45 v0 = 11 ∧ ∀ ε_46 : m_E, ε_46 = efin ε_45 v0 34 a_22 → ∀ (a_23 : Int) (ε_47 : m_E) (μ_24 : m_M), a_23 = nx ε_46 → ε_47 = ealloc ε_46 107 4 → μ_24 = mnew μ_23 a_23 → ∀ (a_24 : Int) (ε_48 : m_E) (μ_25 : m_M), a_24 = nx ε_47 → ε_48 = ealloc ε_47 10 0 → μ_25 = mnew μ_24 a_24 → kd ε_48 a_24 = 10 ∧ o_X11_init [(2, a_24)] ε_48 μ_25 (fun z ε_49 μ_26 => G cd_X12_init Q X 264 [(0, (2, v0))] [(2, a_24), (0, 0), (2, a_23), (2, a_23), (2, v0)] ε_49 μ_26) m_F) : G cd_X12_init Q X 64 [(0, (2, v0))] [] ε μ := by
  refine G_run (m_in [64, 127, 189, 251, 264, 274, 284, 294, 306, 317, 362, 372, 382, 392, 402, 412, 431, 441, 451, 461, 471, 481, 500, 510, 520, 530, 540, 550, 561, 601, 611, 621, 631, 641]) 36 _ _ _ _ ?_
  show m_ty [(0, (2, v0))] [] ε μ → ((0 : Int) ≤ 120 ∧ (120 : Int) ≤ 120) ∧ ∀ (a : Int) (ε_1 : m_E) (μ_1 : m_M), a = nx ε → ε_1 = ealloc ε 100 120 → μ_1 = mnew μ a → (kd ε_1 v0 = 11) ∧ ∀ ε_2 : m_E, ε_2 = efin ε_1 v0 9 a → ((0 : Int) ≤ 120 ∧ (120 : Int) ≤ 120) ∧ ∀ (a_1 : Int) (ε_3 : m_E) (μ_2 : m_M), a_1 = nx ε_2 → ε_3 = ealloc ε_2 100 120 → μ_2 = mnew μ_1 a_1 → (kd ε_3 v0 = 11) ∧ ∀ ε_4 : m_E, ε_4 = efin ε_3 v0 10 a_1 → ((0 : Int) ≤ 120 ∧ (120 : Int) ≤ 120) ∧ ∀ (a_2 : Int) (ε_5 : m_E) (μ_3 : m_M), a_2 = nx ε_4 → ε_5 = ealloc ε_4 100 120 → μ_3 = mnew μ_2 a_2 → (kd ε_5 v0 = 11) ∧ ∀ ε_6 : m_E, ε_6 = efin ε_5 v0 11 a_2 → ((0 : Int) ≤ 240 ∧ (240 : Int) ≤ 240) ∧ ∀ (a_3 : Int) (ε_7 : m_E) (μ_4 : m_M), a_3 = nx ε_6 → ε_7 = ealloc ε_6 101 240 → μ_4 = mnew μ_3 a_3 → (kd ε_7 v0 = 11) ∧ ∀ ε_8 : m_E, ε_8 = efin ε_7 v0 12 a_3 → ((0 : Int) ≤ 240 ∧ (240 : Int) ≤ 240) ∧ ∀ (a_4 : Int) (ε_9 : m_E) (μ_5 : m_M), a_4 = nx ε_8 → ε_9 = ealloc ε_8 101 240 → μ_5 = mnew μ_4 a_4 → (kd ε_9 v0 = 11) ∧ ∀ ε_10 : m_E, ε_10 = efin ε_9 v0 13 a_4 → ((0 : Int) ≤ 12 ∧ (12 : Int) ≤ 12) ∧ ∀ (a_5 : Int) (ε_11 : m_E) (μ_6 : m_M), a_5 = nx ε_10 → ε_11 = ealloc ε_10 100 12 → μ_6 = mnew μ_5 a_5 → (kd ε_11 v0 = 11) ∧ ∀ ε_12 : m_E, ε_12 = efin ε_11 v0 15 a_5 → ((0 : Int) ≤ 12 ∧ (12 : Int) ≤ 12) ∧ ∀ (a_6 : Int) (ε_13 : m_E) (μ_7 : m_M), a_6 = nx ε_12 → ε_13 = ealloc ε_12 100 12 → μ_7 = mnew μ_6 a_6 → (kd ε_13 v0 = 11) ∧ ∀ ε_14 : m_E, ε_14 = efin ε_13 v0 16 a_6 → ((0 : Int) ≤ 12 ∧ (12 : Int) ≤ 12) ∧ ∀ (a_7 : Int) (ε_15 : m_E) (μ_8 : m_M), a_7 = nx ε_14 → ε_15 = ealloc ε_14 100 12 → μ_8 = mnew μ_7 a_7 → G cd_X12_init Q X 127 [(0, (2, v0))] [(2, a_7), (2, v0)] ε_15 μ_8
  intro hty
  replace h := h hty.1 
  refine And.intro (And.intro (by decide) (by decide)) ?_
  intro a ε_1 μ_1 e_a e_ε_1 e_μ_1
  replace h := h a ε_1 μ_1 e_a e_ε_1 e_μ_1
  obtain ⟨k1, h⟩ := h
  refine And.intro k1 ?_
  intro ε_2 e_ε_2
  replace h := h ε_2 e_ε_2
  refine And.intro (And.intro (by decide) (by decide)) ?_
  intro a_1 ε_3 μ_2 e_a_1 e_ε_3 e_μ_2
  replace h := h a_1 ε_3 μ_2 e_a_1 e_ε_3 e_μ_2
  obtain ⟨k2, h⟩ := h
  refine And.intro k2 ?_
  intro ε_4 e_ε_4
  replace h := h ε_4 e_ε_4
  refine And.intro (And.intro (by decide) (by decide)) ?_
  intro a_2 ε_5 μ_3 e_a_2 e_ε_5 e_μ_3
  replace h := h a_2 ε_5 μ_3 e_a_2 e_ε_5 e_μ_3
  obtain ⟨k3, h⟩ := h
  refine And.intro k3 ?_
  intro ε_6 e_ε_6
  replace h := h ε_6 e_ε_6
  refine And.intro (And.intro (by decide) (by decide)) ?_
  intro a_3 ε_7 μ_4 e_a_3 e_ε_7 e_μ_4
  replace h := h a_3 ε_7 μ_4 e_a_3 e_ε_7 e_μ_4
  obtain ⟨k4, h⟩ := h
  refine And.intro k4 ?_
  intro ε_8 e_ε_8
  replace h := h ε_8 e_ε_8
  refine And.intro (And.intro (by decide) (by decide)) ?_
  intro a_4 ε_9 μ_5 e_a_4 e_ε_9 e_μ_5
  replace h := h a_4 ε_9 μ_5 e_a_4 e_ε_9 e_μ_5
  obtain ⟨k5, h⟩ := h
  refine And.intro k5 ?_
  intro ε_10 e_ε_10
  replace h := h ε_10 e_ε_10
  refine And.intro (And.intro (by decide) (by decide)) ?_
  intro a_5 ε_11 μ_6 e_a_5 e_ε_11 e_μ_6
  replace h := h a_5 ε_11 μ_6 e_a_5 e_ε_11 e_μ_6
  obtain ⟨k6, h⟩ := h
  refine And.intro k6 ?_
  intro ε_12 e_ε_12
  replace h := h ε_12 e_ε_12
  refine And.intro (And.intro (by decide) (by decide)) ?_
  intro a_6 ε_13 μ_7 e_a_6 e_ε_13 e_μ_7
  replace h := h a_6 ε_13 μ_7 e_a_6 e_ε_13 e_μ_7
  obtain ⟨k7, h⟩ := h
  refine And.intro k7 ?_
  intro ε_14 e_ε_14
  replace h := h ε_14 e_ε_14
  refine And.intro (And.intro (by decide) (by decide)) ?_
  intro a_7 ε_15 μ_8 e_a_7 e_ε_15 e_μ_8
  replace h := h a_7 ε_15 μ_8 e_a_7 e_ε_15 e_μ_8
  exact g_X12_init_127 (fun _ => h)
set_option maxRecDepth 20000 in
theorem g_X12_init_0 {Q X : m_Po} {v0 : Int} {ε : m_E} {μ : m_M} (h : TY ε μ → 0 < v0 ∧ ∀ (a : Int) (ε_1 : m_E) (μ_1 : m_M), a = nx ε → ε_1 = ealloc ε 100 8 → μ_1 = mnew μ a → kd ε_1 v0 = 11 ∧ ∀ ε_2 : m_E, ε_2 = efin ε_1 v0 1 a → ∀ (a_1 : Int) (ε_3 : m_E) (μ_2 : m_M), a_1 = nx ε_2 → ε_3 = ealloc ε_2 100 320 → μ_2 = mnew μ_1 a_1 → kd ε_3 v0 = 11 ∧ ∀ ε_4 : m_E, ε_4 = efin ε_3 v0 2 a_1 → ∀ (a_2 : Int) (ε_5 : m_E) (μ_3 : m_M), a_2 = nx ε_4 → ε_5 = ealloc ε_4 100 12800 → μ_3 = mnew μ_2 a_2 → kd ε_5 v0 = 11 ∧ ∀ ε_6 : m_E, ε_6 = efin ε_5 v0 3 a_2 → ∀ (a_3 : Int) (ε_7 : m_E) (μ_4 : m_M), a_3 = nx ε_6 → ε_7 = ealloc ε_6 100 120 → μ_4 = mnew μ_3 a_3 → kd ε_7 v0 = 11 ∧ ∀ ε_8 : m_E, ε_8 = efin ε_7 v0 5 a_3 → ∀ (a_4 : Int) (ε_9 : m_E) (μ_5 : m_M), a_4 = nx ε_8 → ε_9 = ealloc ε_8 100 120 → μ_5 = mnew μ_4 a_4 → kd ε_9 v0 = 11 ∧ ∀ ε_10 : m_E, ε_10 = efin ε_9 v0 6 a_4 → ∀ (a_5 : Int) (ε_11 : m_E) (μ_6 : m_M), a_5 = nx ε_10 → ε_11 = ealloc ε_10 100 1440 → μ_6 = mnew μ_5 a_5 → kd ε_11 v0 = 11 ∧ ∀ ε_12 : m_E, ε_12 = efin ε_11 v0 7 a_5 → ∀ (a_6 : Int) (ε_13 : m_E) (μ_7 : m_M), a_6 = nx ε_12 → ε_13 = ealloc ε_12 100 1440 → μ_7 = mnew μ_6 a_6 → kd ε_13 v0 = 11 ∧ ∀ ε_14 : m_E, ε_14 = efin ε_13 v0 8 a_6 → ∀ (a_7 : Int) (ε_15 : m_E) (μ_8 : m_M), a_7 = nx ε_14 → ε_15 = ealloc ε_14 100 120 → μ_8 = mnew μ_7 a_7 → kd ε_15 v0 = 11 ∧ ∀ ε_16 : m_E, ε_16 = efin ε_15 v0 9 a_7 → ∀ (a_8 : Int) (ε_17 : m_E) (μ_9 : m_M), a_8 = nx ε_16 → ε_17 = ealloc ε_16 100 120 → μ_9 = mnew μ_8 a_8 → kd ε_17 v0 = 11 ∧ ∀ ε_18 : m_E, ε_18 = efin ε_17 v0 10 a_8 → ∀ (a_9 : Int) (ε_19 : m_E) (μ_10 : m_M), a_9 = nx ε_18 → ε_19 = ealloc ε_18 100 120 → μ_10 = mnew μ_9 a_9 → kd ε_19 v0 = 11 ∧ ∀ ε_20 : m_E, ε_20 = efin ε_19 v0 11 a_9 → ∀ (a_10 : Int) (ε_21 : m_E) (μ_11 : m_M), a_10 = nx ε_20 → ε_21 = ealloc ε_20 101 240 → μ_11 = mnew μ_10 a_10 → kd ε_21 v0 = 11 ∧ ∀ ε_22 : m_E, ε_22 = efin ε_21 v0 12 a_10 → ∀ (a_11 : Int) (ε_23 : m_E) (μ_12 : m_M), a_11 = nx ε_22 → ε_23 = ealloc ε_22 101 240 → μ_12 = mnew μ_11 a_11 → kd ε_23 v0 = 11 ∧ ∀ ε_24 : m_E, ε_24 = efin ε_23 v0 13 a_11 → ∀ (a_12 : Int) (ε_25 : m_E) (μ_13 : m_M), a_12 = nx ε_24 → ε_25 = ealloc ε_24 100 12 → μ_13 = mnew μ_12 a_12 → kd ε_25 v0 = 11 ∧ ∀ ε_26 : m_E, ε_26 = efin ε_25 v0 15 a_12 → ∀ (a_13 : Int) (ε_27 : m_E) (μ_14 : m_M), a_13 = nx ε_26 → ε_27 = ealloc ε_26 100 12 → μ_14 = mnew μ_13 a_13 → kd ε_27 v0 = 11 ∧ ∀ ε_28 : m_E, ε_28 = efin ε_27 v0 16 a_13 → ∀ (a_14 : Int) (ε_29 : m_E) (μ_15 : m_M), a_14 = nx ε_28 → ε_29 = ealloc ε_28 100 12 → μ_15 = mnew μ_14 a_14 → kd ε_29 v0 = 11 ∧ ∀ ε_30 : m_E, ε_30 = efin ε_29 v0 17 a_14 → ∀ (a_15 : Int) (ε_31 : m_E) (μ_16 : m_M), a_15 = nx ε_30 → ε_31 = ealloc ε_30 100 120 → μ_16 = mnew μ_15 a_15 → kd ε_31 v0 = 11 ∧ ∀ ε_32 : m_E, ε_32 = efin ε_31 v0 18 a_15 → ∀ (a_16 : Int) (ε_33 : m_E) (μ_17 : m_M), a_16 = nx ε_32 → ε_33 = ealloc ε_32 103 24 → μ_17 = mnew μ_16 a_16 → kd ε_33 v0 = 11 ∧ ∀ ε_34 : m_E, ε_34 = efin ε_33 v0 19 a_16 → ∀ (a_17 : Int) (ε_35 : m_E) (μ_18 : m_M), a_17 = nx ε_34 → ε_35 = ealloc ε_34 100 96 → μ_18 = mnew μ_17 a_17 → kd ε_35 v0 = 11 ∧ ∀ ε_36 : m_E, ε_36 = efin ε_35 v0 20 a_17 → ∀ (a_18 : Int) (ε_37 : m_E) (μ_19 : m_M), a_18 = nx ε_36 → ε_37 = ealloc ε_36 100 12 → μ_19 = mnew μ_18 a_18 → kd ε_37 v0 = 11 ∧ ∀ ε_38 : m_E, ε_38 = efin ε_37 v0 21 a_18 → ∀ (a_19 : Int) (ε_39 : m_E) (μ_20 : m_M), a_19 = nx ε_38 → ε_39 = ealloc ε_38 100 72 → μ_20 = mnew μ_19 a_19 → kd ε_39 v0 = 11 ∧ ∀ ε_40 : m_E, ε_40 = efin ε_39 v0 22 a_19 → ∀ (a_20 : Int) (ε_41 : m_E) (μ_21 : m_M), a_20 = nx ε_40 → ε_41 = ealloc ε_40 100 72 → μ_21 = mnew μ_20 a_20 → kd ε_41 v0 = 11 ∧ ∀ ε_42 : m_E, ε_42 = efin ε_41 v0 23 a_20 → ∀ (a_21 : Int) (ε_43 : m_E) (μ_22 : m_M), a_21 = nx ε_42 → ε_43 = ealloc ε_42 100 72 → μ_22 = mnew μ_21 a_21 → kd ε_43 v0 = 11 ∧ ∀ ε_44 : m_E, ε_44 = efin ε_43 v0 24 a_21 → (0 : Int) ≤ 12 ∧ (12 : Int) ≤ 12 ∧ ∀ (a_22 : Int) (ε_45 : m_E) (μ_23 : m_M), a_22 = nx ε_44 → ε_45 = ealloc ε_44 100 12 → μ_23 = mnew μ_22 a_22 → kd ε_45 v0 = 11 ∧ ∀ ε_46 : m_E, ε_46 = efin ε_45 v0 25 a_22 → ∀ (a_23 : Int) (ε_47 : m_E) (μ_24 : m_M), a_23 = nx ε_46 → ε_47 = ealloc ε_46 100 12 → μ_24 = mnew μ_23 a_23 → kd ε_47 v0 = 11 ∧ ∀ ε_48 : m_E, ε_48 = efin ε_47 v0 26 a_23 → ∀ (a_24 : Int) (ε_49 : m_E) (μ_25 : m_M), a_24 = nx ε_48 → ε_49 = ealloc ε_48 100 44 → μ_25 = mnew μ_24 a_24 → kd ε_49 v0 = 11 ∧ ∀ ε_50 : m_E, ε_50 = efin ε_49 v0 28 a_24 → ∀ (a_25 : Int) (ε_51 : m_E) (μ_26 : m_M), a_25 = nx ε_50 → ε_51 = ealloc ε_50 101 48 → μ_26 = mnew μ_25 a_25 → kd ε_51 v0 = 11 ∧ ∀ ε_52 : m_E, ε_52 = efin ε_51 v0 30 a_25 → ∀ (a_26 : Int) (ε_53 : m_E) (μ_27 : m_M), a_26 = nx ε_52 → ε_53 = ealloc ε_52 101 48 → μ_27 = mnew μ_26 a_26 → kd ε_53 v0 = 11 ∧ ∀ ε_54 : m_E, ε_54 = efin ε_53 v0 31 a_26 → ∀ (a_27 : Int) (ε_55 : m_E) (μ_28 : m_M), a_27 = nx ε_54 → ε_55 = ealloc ε_54 101 48 → μ_28 = mnew μ_27 a_27 → kd ε_55 v0 = 11 ∧ ∀ ε_56 : m_E, ε_56 = efin ε_55 v0 32 a_27 → ∀ (a_28 : Int) (ε_57 : m_E) (μ_29 : m_M), a_28 = nx ε_56 → ε_57 = ealloc ε_56 101 48 → μ_29 = mnew μ_28 a_28 → kd ε_57 v0 = 11 ∧ ∀ ε_58 : m_E, ε_58 = efin ε_57 v0 33 a_28 → ∀ (a_29 : Int) (ε_59 : m_E) (μ_30 : m_M), a_29 = nx ε_58 → ε_59 = ealloc ε_58 100 48 → μ_30 = mnew μ_29 a_29 → kd ε_59 v0 = 11 ∧ ∀ ε_60 : m_E, ε_60 = efin ε_59 v0 34 a_29 → ∀ (a_30 : Int) (ε_61 : m_E) (μ_31 : m_M), a_30 = nx ε_60 → ε_61 = ealloc ε_60 107 4 → μ_31 = mnew μ_30 a_30 → ∀ (a_31 : Int) (ε_62 : m_E) (μ_32 : m_M), a_31 = nx ε_61 → ε_62 = ealloc ε_61 10 0 → μ_32 = mnew μ_31 a_31 → kd ε_62 a_31 = 10 ∧ o_X11_init [(2, a_31)] ε_62 μ_32 (fun z ε_63 μ_33 => G cd_X12_init Q X 264 [(0, (2, v0))] [(2, a_31), (0, 0), (2, a_30), (2, a_30), (2, v0)] ε_63 μ_33) m_F) : G cd_X12_init Q X 0 [(0, (2, v0))] [] ε μ := by
  refine G_run (m_in [64, 127, 189, 251, 264, 274, 284, 294, 306, 317, 362, 372, 382, 392, 402, 412, 431, 441, 451, 461, 471, 481, 500, 510, 520, 530, 540, 550, 561, 601, 611, 621, 631, 641]) 36 _ _ _ _ ?_
  show m_ty [(0, (2, v0))] [] ε μ → (0 < v0) ∧ m_cs [] ≤ 8 ∧ ((0 : Int) ≤ 8 ∧ (8 : Int) ≤ 8) ∧ ∀ (a : Int) (ε_1 : m_E) (μ_1 : m_M), a = nx ε → ε_1 = ealloc ε 100 8 → μ_1 = mnew μ a → (kd ε_1 v0 = 11) ∧ ∀ ε_2 : m_E, ε_2 = efin ε_1 v0 1 a → ((0 : Int) ≤ 320 ∧ (320 : Int) ≤ 320) ∧ ∀ (a_1 : Int) (ε_3 : m_E) (μ_2 : m_M), a_1 = nx ε_2 → ε_3 = ealloc ε_2 100 320 → μ_2 = mnew μ_1 a_1 → (kd ε_3 v0 = 11) ∧ ∀ ε_4 : m_E, ε_4 = efin ε_3 v0 2 a_1 → ((0 : Int) ≤ 12800 ∧ (12800 : Int) ≤ 12800) ∧ ∀ (a_2 : Int) (ε_5 : m_E) (μ_3 : m_M), a_2 = nx ε_4 → ε_5 = ealloc ε_4 100 12800 → μ_3 = mnew μ_2 a_2 → (kd ε_5 v0 = 11) ∧ ∀ ε_6 : m_E, ε_6 = efin ε_5 v0 3 a_2 → ((0 : Int) ≤ 120 ∧ (120 : Int) ≤ 120) ∧ ∀ (a_3 : Int) (ε_7 : m_E) (μ_4 : m_M), a_3 = nx ε_6 → ε_7 = ealloc ε_6 100 120 → μ_4 = mnew μ_3 a_3 → (kd ε_7 v0 = 11) ∧ ∀ ε_8 : m_E, ε_8 = efin ε_7 v0 5 a_3 → ((0 : Int) ≤ 120 ∧ (120 : Int) ≤ 120) ∧ ∀ (a_4 : Int) (ε_9 : m_E) (μ_5 : m_M), a_4 = nx ε_8 → ε_9 = ealloc ε_8 100 120 → μ_5 = mnew μ_4 a_4 → (kd ε_9 v0 = 11) ∧ ∀ ε_10 : m_E, ε_10 = efin ε_9 v0 6 a_4 → ((0 : Int) ≤ 1440 ∧ (1440 : Int) ≤ 1440) ∧ ∀ (a_5 : Int) (ε_11 : m_E) (μ_6 : m_M), a_5 = nx ε_10 → ε_11 = ealloc ε_10 100 1440 → μ_6 = mnew μ_5 a_5 → (kd ε_11 v0 = 11) ∧ ∀ ε_12 : m_E, ε_12 = efin ε_11 v0 7 a_5 → ((0 : Int) ≤ 1440 ∧ (1440 : Int) ≤ 1440) ∧ ∀ (a_6 : Int) (ε_13 : m_E) (μ_7 : m_M), a_6 = nx ε_12 → ε_13 = ealloc ε_12 100 1440 → μ_7 = mnew μ_6 a_6 → (kd ε_13 v0 = 11) ∧ ∀ ε_14 : m_E, ε_14 = efin ε_13 v0 8 a_6 → G cd_X12_init Q X 64 [(0, (2, v0))] [] ε_14 μ_7
  intro hty
  replace h := h hty.1 
  obtain ⟨k1, h⟩ := h
  refine And.intro k1 ?_
  refine And.intro (Nat.le_of_ble_eq_true rfl) ?_
  refine And.intro (And.intro (by decide) (by decide)) ?_
  intro a ε_1 μ_1 e_a e_ε_1 e_μ_1
  replace h := h a ε_1 μ_1 e_a e_ε_1 e_μ_1
  obtain ⟨k2, h⟩ := h
  refine And.intro k2 ?_
  intro ε_2 e_ε_2
  replace h := h ε_2 e_ε_2
  refine And.intro (And.intro (by decide) (by decide)) ?_
  intro a_1 ε_3 μ_2 e_a_1 e_ε_3 e_μ_2
  replace h := h a_1 ε_3 μ_2 e_a_1 e_ε_3 e_μ_2
  obtain ⟨k3, h⟩ := h
  refine And.intro k3 ?_
  intro ε_4 e_ε_4
  replace h := h ε_4 e_ε_4
  refine And.intro (And.intro (by decide) (by decide)) ?_
  intro a_2 ε_5 μ_3 e_a_2 e_ε_5 e_μ_3
  replace h := h a_2 ε_5 μ_3 e_a_2 e_ε_5 e_μ_3
  obtain ⟨k4, h⟩ := h
  refine And.intro k4 ?_
  intro ε_6 e_ε_6
  replace h := h ε_6 e_ε_6
  refine And.intro (And.intro (by decide) (by decide)) ?_
  intro a_3 ε_7 μ_4 e_a_3 e_ε_7 e_μ_4
  replace h := h a_3 ε_7 μ_4 e_a_3 e_ε_7 e_μ_4
  obtain ⟨k5, h⟩ := h
  refine And.intro k5 ?_
  intro ε_8 e_ε_8
  replace h := h ε_8 e_ε_8
  refine And.intro (And.intro (by decide) (by decide)) ?_
  intro a_4 ε_9 μ_5 e_a_4 e_ε_9 e_μ_5
  replace h := h a_4 ε_9 μ_5 e_a_4 e_ε_9 e_μ_5
  obtain ⟨k6, h⟩ := h
  refine And.intro k6 ?_
  intro ε_10 e_ε_10
  replace h := h ε_10 e_ε_10
  refine And.intro (And.intro (by decide) (by decide)) ?_
  intro a_5 ε_11 μ_6 e_a_5 e_ε_11 e_μ_6
  replace h := h a_5 ε_11 μ_6 e_a_5 e_ε_11 e_μ_6
  obtain ⟨k7, h⟩ := h
  refine And.intro k7 ?_
  intro ε_12 e_ε_12
  replace h := h ε_12 e_ε_12
  refine And.intro (And.intro (by decide) (by decide)) ?_
  intro a_6 ε_13 μ_7 e_a_6 e_ε_13 e_μ_7
  replace h := h a_6 ε_13 μ_7 e_a_6 e_ε_13 e_μ_7
  obtain ⟨k8, h⟩ := h
  refine And.intro k8 ?_
  intro ε_14 e_ε_14
  replace h := h ε_14 e_ε_14
  exact g_X12_init_64 (fun _ => h)
theorem e_X12_init {Q X : m_Po} {v0 : Int} {ε : m_E} {μ : m_M} (h : TY ε μ → 0 < v0 ∧ ∀ (a : Int) (ε_1 : m_E) (μ_1 : m_M), a = nx ε → ε_1 = ealloc ε 100 8 → μ_1 = mnew μ a → kd ε_1 v0 = 11 ∧ ∀ ε_2 : m_E, ε_2 = efin ε_1 v0 1 a → ∀ (a_1 : Int) (ε_3 : m_E) (μ_2 : m_M), a_1 = nx ε_2 → ε_3 = ealloc ε_2 100 320 → μ_2 = mnew μ_1 a_1 → kd ε_3 v0 = 11 ∧ ∀ ε_4 : m_E, ε_4 = efin ε_3 v0 2 a_1 → ∀ (a_2 : Int) (ε_5 : m_E) (μ_3 : m_M), a_2 = nx ε_4 → ε_5 = ealloc ε_4 100 12800 → μ_3 = mnew μ_2 a_2 → kd ε_5 v0 = 11 ∧ ∀ ε_6 : m_E, ε_6 = efin ε_5 v0 3 a_2 → ∀ (a_3 : Int) (ε_7 : m_E) (μ_4 : m_M), a_3 = nx ε_6 → ε_7 = ealloc ε_6 100 120 → μ_4 = mnew μ_3 a_3 → kd ε_7 v0 = 11 ∧ ∀ ε_8 : m_E, ε_8 = efin ε_7 v0 5 a_3 → ∀ (a_4 : Int) (ε_9 : m_E) (μ_5 : m_M), a_4 = nx ε_8 → ε_9 = ealloc ε_8 100 120 → μ_5 = mnew μ_4 a_4 → kd ε_9 v0 = 11 ∧ ∀ ε_10 : m_E, ε_10 = efin ε_9 v0 6 a_4 → ∀ (a_5 : Int) (ε_11 : m_E) (μ_6 : m_M), a_5 = nx ε_10 → ε_11 = ealloc ε_10 100 1440 → μ_6 = mnew μ_5 a_5 → kd ε_11 v0 = 11 ∧ ∀ ε_12 : m_E, ε_12 = efin ε_11 v0 7 a_5 → ∀ (a_6 : Int) (ε_13 : m_E) (μ_7 : m_M), a_6 = nx ε_12 → ε_13 = ealloc ε_12 100 1440 → μ_7 = mnew μ_6 a_6 → kd ε_13 v0 = 11 ∧ ∀ ε_14 : m_E, ε_14 = efin ε_13 v0 8 a_6 → ∀ (a_7 : Int) (ε_15 : m_E) (μ_8 : m_M), a_7 = nx ε_14 → ε_15 = ealloc ε_14 100 120 → μ_8 = mnew μ_7 a_7 → kd ε_15 v0 = 11 ∧ ∀ ε_16 : m_E, ε_16 = efin ε_15 v0 9 a_7 → ∀ (a_8 : Int) (ε_17 : m_E) (μ_9 : m_M), a_8 = nx ε_16 → ε_17 = ealloc ε_16 100 120 → μ_9 = mnew μ_8 a_8 → kd ε_17 v0 = 11 ∧ ∀ ε_18 : m_E, ε_18 = efin ε_17 v0 10 a_8 → ∀ (a_9 : Int) (ε_19 : m_E) (μ_10 : m_M), a_9 = nx ε_18 → ε_19 = ealloc ε_18 100 120 → μ_10 = mnew μ_9 a_9 → kd ε_19 v0 = 11 ∧ ∀ ε_20 : m_E, ε_20 = efin ε_19 v0 11 a_9 → ∀ (a_10 : Int) (ε_21 : m_E) (μ_11 : m_M), a_10 = nx ε_20 → ε_21 = ealloc ε_20 101 240 → μ_11 = mnew μ_10 a_10 → kd ε_21 v0 = 11 ∧ ∀ ε_22 : m_E, ε_22 = efin ε_21 v0 12 a_10 → ∀ (a_11 : Int) (ε_23 : m_E) (μ_12 : m_M), a_11 = nx ε_22 → ε_23 = ealloc ε_22 101 240 → μ_12 = mnew μ_11 a_11 → kd ε_23 v0 = 11 ∧ ∀ ε_24 : m_E, ε_24 = efin ε_23 v0 13 a_11 → ∀ (a_12 : Int) (ε_25 : m_E) (μ_13 : m_M), a_12 = nx ε_24 → ε_25 = ealloc ε_24 100 12 → μ_13 = mnew μ_12 a_12 → kd ε_25 v0 = 11 ∧ ∀ ε_26 : m_E, ε_26 = efin ε_25 v0 15 a_12 → ∀ (a_13 : Int) (ε_27 : m_E) (μ_14 : m_M), a_13 = nx ε_26 → ε_27 = ealloc ε_26 100 12 → μ_14 = mnew μ_13 a_13 → kd ε_27 v0 = 11 ∧ ∀ ε_28 : m_E, ε_28 = efin ε_27 v0 16 a_13 → ∀ (a_14 : Int) (ε_29 : m_E) (μ_15 : m_M), a_14 = nx ε_28 → ε_29 = ealloc ε_28 100 12 → μ_15 = mnew μ_14 a_14 → kd ε_29 v0 = 11 ∧ ∀ ε_30 : m_E, ε_30 = efin ε_29 v0 17 a_14 → ∀ (a_15 : Int) (ε_31 : m_E) (μ_16 : m_M), a_15 = nx ε_30 → ε_31 = ealloc ε_30 100 120 → μ_16 = mnew μ_15 a_15 → kd ε_31 v0 = 11 ∧ ∀ ε_32 : m_E, ε_32 = efin ε_31 v0 18 a_15 → ∀ (a_16 : Int) (ε_33 : m_E) (μ_17 : m_M), a_16 = nx ε_32 → ε_33 = ealloc ε_32 103 24 → μ_17 = mnew μ_16 a_16 → kd ε_33 v0 = 11 ∧ ∀ ε_34 : m_E, ε_34 = efin ε_33 v0 19 a_16 → ∀ (a_17 : Int) (ε_35 : m_E) (μ_18 : m_M), a_17 = nx ε_34 → ε_35 = ealloc ε_34 100 96 → μ_18 = mnew μ_17 a_17 → kd ε_35 v0 = 11 ∧ ∀ ε_36 : m_E, ε_36 = efin ε_35 v0 20 a_17 → ∀ (a_18 : Int) (ε_37 : m_E) (μ_19 : m_M), a_18 = nx ε_36 → ε_37 = ealloc ε_36 100 12 → μ_19 = mnew μ_18 a_18 → kd ε_37 v0 = 11 ∧ ∀ ε_38 : m_E, ε_38 = efin ε_37 v0 21 a_18 → ∀ (a_19 : Int) (ε_39 : m_E) (μ_20 : m_M), a_19 = nx ε_38 → ε_39 = ealloc ε_38 100 72 → μ_20 = mnew μ_19 a_19 → kd ε_39 v0 = 11 ∧ ∀ ε_40 : m_E, ε_40 = efin ε_39 v0 22 a_19 → ∀ (a_20 : Int) (ε_41 : m_E) (μ_21 : m_M), a_20 = nx ε_40 → ε_41 = ealloc ε_40 100 72 → μ_21 = mnew μ_20 a_20 → kd ε_41 v0 = 11 ∧ ∀ ε_42 : m_E, ε_42 = efin ε_41 v0 23 a_20 → ∀ (a_21 : Int) (ε_43 : m_E) (μ_22 : m_M), a_21 = nx ε_42 → ε_43 = ealloc ε_42 100 72 → μ_22 = mnew μ_21 a_21 → kd ε_43 v0 = 11 ∧ ∀ ε_44 : m_E, ε_44 = efin ε_43 v0 24 a_21 → (0 : Int) ≤ 12 ∧ (12 : Int) ≤ 12 ∧ ∀ (a_22 : Int) (ε_45 : m_E) (μ_23 : m_M), a_22 = nx ε_44 → ε_45 = ealloc ε_44 100 12 → μ_23 = mnew μ_22 a_22 → kd ε_45 v0 = 11 ∧ ∀ ε_46 : m_E, ε_46 = efin ε_45 v0 25 a_22 → ∀ (a_23 : Int) (ε_47 : m_E) (μ_24 : m_M), a_23 = nx ε_46 → ε_47 = ealloc ε_46 100 12 → μ_24 = mnew μ_23 a_23 → kd ε_47 v0 = 11 ∧ ∀ ε_48 : m_E, ε_48 = efin ε_47 v0 26 a_23 → ∀ (a_24 : Int) (ε_49 : m_E) (μ_25 : m_M), a_24 = nx ε_48 → ε_49 = ealloc ε_48 100 44 → μ_25 = mnew μ_24 a_24 → kd ε_49 v0 = 11 ∧ ∀ ε_50 : m_E, ε_50 = efin ε_49 v0 28 a_24 → ∀ (a_25 : Int) (ε_51 : m_E) (μ_26 : m_M), a_25 = nx ε_50 → ε_51 = ealloc ε_50 101 48 → μ_26 = mnew μ_25 a_25 → kd ε_51 v0 = 11 ∧ ∀ ε_52 : m_E, ε_52 = efin ε_51 v0 30 a_25 → ∀ (a_26 : Int) (ε_53 : m_E) (μ_27 : m_M), a_26 = nx ε_52 → ε_53 = ealloc ε_52 101 48 → μ_27 = mnew μ_26 a_26 → kd ε_53 v0 = 11 ∧ ∀ ε_54 : m_E, ε_54 = efin ε_53 v0 31 a_26 → ∀ (a_27 : Int) (ε_55 : m_E) (μ_28 : m_M), a_27 = nx ε_54 → ε_55 = ealloc ε_54 101 48 → μ_28 = mnew μ_27 a_27 → kd ε_55 v0 = 11 ∧ ∀ ε_56 : m_E, ε_56 = efin ε_55 v0 32 a_27 → ∀ (a_28 : Int) (ε_57 : m_E) (μ_29 : m_M), a_28 = nx ε_56 → ε_57 = ealloc ε_56 101 48 → μ_29 = mnew μ_28 a_28 → kd ε_57 v0 = 11 ∧ ∀ ε_58 : m_E, ε_58 = efin ε_57 v0 33 a_28 → ∀ (a_29 : Int) (ε_59 : m_E) (μ_30 : m_M), a_29 = nx ε_58 → ε_59 = ealloc ε_58 100 48 → μ_30 = mnew μ_29 a_29 → kd ε_59 v0 = 11 ∧ ∀ ε_60 : m_E, ε_60 = efin ε_59 v0 34 a_29 → ∀ (a_30 : Int) (ε_61 : m_E) (μ_31 : m_M), a_30 = nx ε_60 → ε_61 = ealloc ε_60 107 4 → μ_31 = mnew μ_30 a_30 → ∀ (a_31 : Int) (ε_62 : m_E) (μ_32 : m_M), a_31 = nx ε_61 → ε_62 = ealloc ε_61 10 0 → μ_32 = mnew μ_31 a_31 → kd ε_62 a_31 = 10 ∧ o_X11_init [(2, a_31)] ε_62 μ_32 (fun z ε_63 μ_33 => G cd_X12_init Q X 264 [(0, (2, v0))] [(2, a_31), (0, 0), (2, a_30), (2, a_30), (2, v0)] ε_63 μ_33) m_F) : o_X12_init [(2, v0)] ε μ Q X := And.intro rfl (g_X12_init_0 h)
