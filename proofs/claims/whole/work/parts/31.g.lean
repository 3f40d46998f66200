/-! ArchYard$Bounds.pass(JJ)V -/
set_option maxRecDepth 20000 in
theorem g_X1_pass_0 {Q X : m_Po} {v0 v1 v3 : Int} {ε : m_E} {μ : m_M} (h : TY ε μ → i64 v1 → i64 v3 → kd ε v0 = 1 ∧ ∀ μ_1 : m_M, μ_1 = st μ v0 6 (w64 ((μ v0 6) + v1)) → ∀ μ_2 : m_M, μ_2 = st μ_1 v0 7 (w64 ((μ_1 v0 7) + (w64 (v1 * v3)))) → Q 0 ε μ_2) : G cd_X1_pass Q X 0 [(0, (2, v0)), (1, (1, v1)), (3, (1, v3))] [] ε μ := by
  refine G_run (m_in []) 2 _ _ _ _ ?_
  show m_ty [(0, (2, v0)), (1, (1, v1)), (3, (1, v3))] [] ε μ → (kd ε v0 = 1) ∧ (kd ε v0 = 1) ∧ ∀ μ_1 : m_M, μ_1 = st μ v0 6 (w64 ((μ v0 6) + v1)) → (kd ε v0 = 1) ∧ (kd ε v0 = 1) ∧ ∀ μ_2 : m_M, μ_2 = st μ_1 v0 7 (w64 ((μ_1 v0 7) + (w64 (v1 * v3)))) → Q 0 ε μ_2
  intro hty
  replace h := h hty.1 (hty.2.1 _ (List.mem_of_getElem? (i := 1) rfl)) (hty.2.1 _ (List.mem_of_getElem? (i := 2) rfl))
  obtain ⟨k1, h⟩ := h
  refine And.intro k1 ?_
  refine And.intro k1 ?_
  intro μ_1 e_μ_1
  replace h := h μ_1 e_μ_1
  refine And.intro k1 ?_
  refine And.intro k1 ?_
  intro μ_2 e_μ_2
  replace h := h μ_2 e_μ_2
  exact h
theorem e_X1_pass {Q X : m_Po} {v0 v1 v3 : Int} {ε : m_E} {μ : m_M} (h : TY ε μ → i64 v1 → i64 v3 → kd ε v0 = 1 ∧ ∀ μ_1 : m_M, μ_1 = st μ v0 6 (w64 ((μ v0 6) + v1)) → ∀ μ_2 : m_M, μ_2 = st μ_1 v0 7 (w64 ((μ_1 v0 7) + (w64 (v1 * v3)))) → Q 0 ε μ_2) : o_X1_pass [(2, v0), (1, v1), (1, v3)] ε μ Q X := And.intro rfl (g_X1_pass_0 h)
/-! ArchYard$Bounds.passStone(LArchYard$Arch;I)V -/
set_option maxRecDepth 20000 in
theorem g_X1_passStone_24 {Q X : m_Po} {ε : m_E} {μ : m_M} (h : TY ε μ → Q 0 ε μ) : G cd_X1_passStone Q X 24 [] [] ε μ := by
  refine G_run (m_in [5, 24]) 5 _ _ _ _ ?_
  show m_ty [] [] ε μ → Q 0 ε μ
  intro hty
  replace h := h hty.1 
  exact h
set_option maxRecDepth 20000 in
theorem g_X1_passStone_5 {Q X : m_Po} {v0 t : Int} {ε : m_E} {μ : m_M} (h : TY ε μ → ∀ v3 : Int, v3 = t → (v3 = 0 → G cd_X1_passStone Q X 24 [] [] ε μ) ∧ (0 < v3 → kd ε v3 = 6 ∧ kd ε v0 = 1 ∧ o_X1_pass [(2, v0), (1, fn ε v3 3), (1, fn ε v3 4)] ε μ (fun z ε_1 μ_1 => G cd_X1_passStone Q X 24 [] [] ε_1 μ_1) m_F)) : G cd_X1_passStone Q X 5 [(0, (2, v0))] [(2, t)] ε μ := by
  refine G_run (m_in [5, 24]) 5 _ _ _ _ ?_
  show m_ty [(0, (2, v0))] [(2, t)] ε μ → ∀ v3 : Int, v3 = t → (v3 = 0 → G cd_X1_passStone Q X 24 [] [] ε μ) ∧ (0 < v3 → (m_ty [(0, (2, v0)), (3, (2, v3))] [] ε μ → (kd ε v3 = 6) ∧ (kd ε v3 = 6) ∧ (kd ε v0 = 1) ∧ o_X1_pass [(2, v0), (1, fn ε v3 3), (1, fn ε v3 4)] ε μ (fun z ε_1 μ_1 => G cd_X1_passStone Q X 24 [] [] ε_1 μ_1) m_F))
  intro hty
  replace h := h hty.1 
  intro v3 e_v3
  replace h := h v3 e_v3
  obtain ⟨ha, hb⟩ := h
  refine And.intro (fun c2 => ?_) (fun c2 => ?_)
  · replace h := ha c2
    clear ha hb
    exact h
  · replace h := hb c2
    clear ha hb
    intro _
    obtain ⟨k1, h⟩ := h
    refine And.intro k1 ?_
    refine And.intro k1 ?_
    obtain ⟨k2, h⟩ := h
    refine And.intro k2 ?_
    exact h
set_option maxRecDepth 20000 in
theorem g_X1_passStone_0 {Q X : m_Po} {v0 v1 v2 : Int} {ε : m_E} {μ : m_M} (h : TY ε μ → i32 v2 → kd ε v1 = 0 ∧ o_X0_blockAt [(2, v1), (0, v2)] ε μ (fun z ε_1 μ_1 => G cd_X1_passStone Q X 5 [(0, (2, v0))] [(2, z)] ε_1 μ_1) m_F) : G cd_X1_passStone Q X 0 [(0, (2, v0)), (1, (2, v1)), (2, (0, v2))] [] ε μ := by
  refine G_run (m_in [5, 24]) 5 _ _ _ _ ?_
  show m_ty [(0, (2, v0)), (1, (2, v1)), (2, (0, v2))] [] ε μ → (kd ε v1 = 0) ∧ o_X0_blockAt [(2, v1), (0, v2)] ε μ (fun z ε_1 μ_1 => G cd_X1_passStone Q X 5 [(0, (2, v0))] [(2, z)] ε_1 μ_1) m_F
  intro hty
  replace h := h hty.1 (hty.2.1 _ (List.mem_of_getElem? (i := 2) rfl))
  obtain ⟨k1, h⟩ := h
  refine And.intro k1 ?_
  exact h
theorem e_X1_passStone {Q X : m_Po} {v0 v1 v2 : Int} {ε : m_E} {μ : m_M} (h : TY ε μ → i32 v2 → kd ε v1 = 0 ∧ o_X0_blockAt [(2, v1), (0, v2)] ε μ (fun z ε_1 μ_1 => G cd_X1_passStone Q X 5 [(0, (2, v0))] [(2, z)] ε_1 μ_1) m_F) : o_X1_passStone [(2, v0), (2, v1), (0, v2)] ε μ Q X := And.intro rfl (g_X1_passStone_0 h)
/-! ArchYard$Bounds.passLoads(LArchYard$Arch;I)V -/
set_option maxRecDepth 20000 in
theorem g_X1_passLoads_44 {Q X : m_Po} {v0 v1 v2 v3 : Int} {ε : m_E} {μ : m_M} (h : TY ε μ → i32 v2 → i32 v3 → ∀ v3_1 : Int, v3_1 = w32 (v3 + 1) → G cd_X1_passLoads Q X 2 [(0, (2, v0)), (1, (2, v1)), (2, (0, v2)), (3, (0, v3_1))] [] ε μ) : G cd_X1_passLoads Q X 44 [(0, (2, v0)), (1, (2, v1)), (2, (0, v2)), (3, (0, v3))] [] ε μ := by
  refine G_run (m_in [2, 44]) 8 _ _ _ _ ?_
  show m_ty [(0, (2, v0)), (1, (2, v1)), (2, (0, v2)), (3, (0, v3))] [] ε μ → ∀ v3_1 : Int, v3_1 = w32 (v3 + 1) → G cd_X1_passLoads Q X 2 [(0, (2, v0)), (1, (2, v1)), (2, (0, v2)), (3, (0, v3_1))] [] ε μ
  intro hty
  replace h := h hty.1 (hty.2.1 _ (List.mem_of_getElem? (i := 2) rfl)) (hty.2.1 _ (List.mem_of_getElem? (i := 3) rfl))
  intro v3_1 e_v3_1
  replace h := h v3_1 e_v3_1
  exact h
set_option maxRecDepth 20000 in
theorem g_X1_passLoads_2 {Q X : m_Po} {v0 v1 v2 v3 : Int} {ε : m_E} {μ : m_M} (h : TY ε μ → i32 v2 → i32 v3 → kd ε v1 = 0 ∧ ((μ v1 13) ≤ v3 → Q 0 ε μ) ∧ (v3 < (μ v1 13) → ((6 : Int) ≤ v3 → Q 0 ε μ) ∧ (v3 < (6 : Int) → kd ε (fn ε v1 5) = 100 ∧ (0 : Int) ≤ v3 ∧ v3 < ln ε (fn ε v1 5) ∧ ((μ (fn ε v1 5) v3) ≠ v2 → G cd_X1_passLoads Q X 44 [(0, (2, v0)), (1, (2, v1)), (2, (0, v2)), (3, (0, v3))] [] ε μ) ∧ ((μ (fn ε v1 5) v3) = v2 → kd ε (fn ε v1 7) = 100 ∧ v3 < ln ε (fn ε v1 7) ∧ kd ε (fn ε v1 6) = 100 ∧ v3 < ln ε (fn ε v1 6) ∧ kd ε v0 = 1 ∧ o_X1_pass [(2, v0), (1, μ (fn ε v1 7) v3), (1, μ (fn ε v1 6) v3)] ε μ (fun z ε_1 μ_1 => G cd_X1_passLoads Q X 44 [(0, (2, v0)), (1, (2, v1)), (2, (0, v2)), (3, (0, v3))] [] ε_1 μ_1) m_F)))) : G cd_X1_passLoads Q X 2 [(0, (2, v0)), (1, (2, v1)), (2, (0, v2)), (3, (0, v3))] [] ε μ := by
  refine G_run (m_in [2, 44]) 8 _ _ _ _ ?_
  show m_ty [(0, (2, v0)), (1, (2, v1)), (2, (0, v2)), (3, (0, v3))] [] ε μ → (kd ε v1 = 0) ∧ ((μ v1 13) ≤ v3 → (m_ty [] [] ε μ → Q 0 ε μ)) ∧ (v3 < (μ v1 13) → (m_ty [(0, (2, v0)), (1, (2, v1)), (2, (0, v2)), (3, (0, v3))] [] ε μ → ((6 : Int) ≤ v3 → (m_ty [] [] ε μ → Q 0 ε μ)) ∧ (v3 < (6 : Int) → (m_ty [(0, (2, v0)), (1, (2, v1)), (2, (0, v2)), (3, (0, v3))] [] ε μ → (kd ε v1 = 0) ∧ (kd ε (fn ε v1 5) = 100) ∧ ((0 : Int) ≤ v3 ∧ v3 < ln ε (fn ε v1 5)) ∧ ((μ (fn ε v1 5) v3) ≠ v2 → G cd_X1_passLoads Q X 44 [(0, (2, v0)), (1, (2, v1)), (2, (0, v2)), (3, (0, v3))] [] ε μ) ∧ ((μ (fn ε v1 5) v3) = v2 → (m_ty [(0, (2, v0)), (1, (2, v1)), (2, (0, v2)), (3, (0, v3))] [] ε μ → (kd ε v1 = 0) ∧ (kd ε (fn ε v1 7) = 100) ∧ ((0 : Int) ≤ v3 ∧ v3 < ln ε (fn ε v1 7)) ∧ (kd ε v1 = 0) ∧ (kd ε (fn ε v1 6) = 100) ∧ ((0 : Int) ≤ v3 ∧ v3 < ln ε (fn ε v1 6)) ∧ (kd ε v0 = 1) ∧ o_X1_pass [(2, v0), (1, μ (fn ε v1 7) v3), (1, μ (fn ε v1 6) v3)] ε μ (fun z ε_1 μ_1 => G cd_X1_passLoads Q X 44 [(0, (2, v0)), (1, (2, v1)), (2, (0, v2)), (3, (0, v3))] [] ε_1 μ_1) m_F))))))
  intro hty
  replace h := h hty.1 (hty.2.1 _ (List.mem_of_getElem? (i := 2) rfl)) (hty.2.1 _ (List.mem_of_getElem? (i := 3) rfl))
  obtain ⟨k1, h⟩ := h
  refine And.intro k1 ?_
  obtain ⟨ha, hb⟩ := h
  refine And.intro (fun c11 => ?_) (fun c11 => ?_)
  · replace h := ha c11
    clear ha hb
    intro _
    exact h
  · replace h := hb c11
    clear ha hb
    intro _
    obtain ⟨ha, hb⟩ := h
    refine And.intro (fun c10 => ?_) (fun c10 => ?_)
    · replace h := ha c10
      clear ha hb
      intro _
      exact h
    · replace h := hb c10
      clear ha hb
      intro _
      refine And.intro k1 ?_
      obtain ⟨k2, h⟩ := h
      refine And.intro k2 ?_
      obtain ⟨k3, h⟩ := h
      obtain ⟨k4, h⟩ := h
      refine And.intro (And.intro k3 k4) ?_
      obtain ⟨ha, hb⟩ := h
      refine And.intro (fun c9 => ?_) (fun c9 => ?_)
      · replace h := ha c9
        clear ha hb
        exact h
      · replace h := hb c9
        clear ha hb
        intro _
        refine And.intro k1 ?_
        obtain ⟨k5, h⟩ := h
        refine And.intro k5 ?_
        obtain ⟨k6, h⟩ := h
        refine And.intro (And.intro k3 k6) ?_
        refine And.intro k1 ?_
        obtain ⟨k7, h⟩ := h
        refine And.intro k7 ?_
        obtain ⟨k8, h⟩ := h
        refine And.intro (And.intro k3 k8) ?_
        obtain ⟨k9, h⟩ := h
        refine And.intro k9 ?_
        exact h
set_option maxRecDepth 20000 in
theorem g_X1_passLoads_0 {Q X : m_Po} {v0 v1 v2 : Int} {ε : m_E} {μ : m_M} (h : TY ε μ → i32 v2 → ∀ v3 : Int, v3 = 0 → G cd_X1_passLoads Q X 2 [(0, (2, v0)), (1, (2, v1)), (2, (0, v2)), (3, (0, v3))] [] ε μ) : G cd_X1_passLoads Q X 0 [(0, (2, v0)), (1, (2, v1)), (2, (0, v2))] [] ε μ := by
  refine G_run (m_in [2, 44]) 8 _ _ _ _ ?_
  show m_ty [(0, (2, v0)), (1, (2, v1)), (2, (0, v2))] [] ε μ → ∀ v3 : Int, v3 = 0 → G cd_X1_passLoads Q X 2 [(0, (2, v0)), (1, (2, v1)), (2, (0, v2)), (3, (0, v3))] [] ε μ
  intro hty
  replace h := h hty.1 (hty.2.1 _ (List.mem_of_getElem? (i := 2) rfl))
  intro v3 e_v3
  replace h := h v3 e_v3
  exact h
theorem e_X1_passLoads {Q X : m_Po} {v0 v1 v2 : Int} {ε : m_E} {μ : m_M} (h : TY ε μ → i32 v2 → ∀ v3 : Int, v3 = 0 → G cd_X1_passLoads Q X 2 [(0, (2, v0)), (1, (2, v1)), (2, (0, v2)), (3, (0, v3))] [] ε μ) : o_X1_passLoads [(2, v0), (2, v1), (0, v2)] ε μ Q X := And.intro rfl (g_X1_passLoads_0 h)
/-! ArchYard$Bounds.addFrame(I)V -/
set_option maxRecDepth 20000 in
theorem g_X1_addFrame_60 {Q X : m_Po} {ε : m_E} {μ : m_M} (h : TY ε μ → Q 0 ε μ) : G cd_X1_addFrame Q X 60 [] [] ε μ := by
  refine G_run (m_in [11, 28, 43, 60]) 6 _ _ _ _ ?_
  show m_ty [] [] ε μ → Q 0 ε μ
  intro hty
  replace h := h hty.1 
  exact h
set_option maxRecDepth 20000 in
theorem g_X1_addFrame_43 {Q X : m_Po} {v0 v1 : Int} {ε : m_E} {μ : m_M} (h : TY ε μ → i32 v1 → kd ε v0 = 1 ∧ o_X1_add [(2, v0), (0, w32 ((w32 (4 * v1)) + 3)), (1, 0), (1, (-1)), (1, 0), (1, 1000000000)] ε μ (fun z ε_1 μ_1 => G cd_X1_addFrame Q X 60 [] [] ε_1 μ_1) m_F) : G cd_X1_addFrame Q X 43 [(0, (2, v0)), (1, (0, v1))] [] ε μ := by
  refine G_run (m_in [11, 28, 43, 60]) 6 _ _ _ _ ?_
  show m_ty [(0, (2, v0)), (1, (0, v1))] [] ε μ → (kd ε v0 = 1) ∧ o_X1_add [(2, v0), (0, w32 ((w32 (4 * v1)) + 3)), (1, 0), (1, (-1)), (1, 0), (1, 1000000000)] ε μ (fun z ε_1 μ_1 => G cd_X1_addFrame Q X 60 [] [] ε_1 μ_1) m_F
  intro hty
  replace h := h hty.1 (hty.2.1 _ (List.mem_of_getElem? (i := 1) rfl))
  obtain ⟨k1, h⟩ := h
  refine And.intro k1 ?_
  exact h
set_option maxRecDepth 20000 in
theorem g_X1_addFrame_28 {Q X : m_Po} {v0 v1 : Int} {ε : m_E} {μ : m_M} (h : TY ε μ → i32 v1 → kd ε v0 = 1 ∧ o_X1_add [(2, v0), (0, w32 ((w32 (4 * v1)) + 2)), (1, 0), (1, 1), (1, 0), (1, 1000000000)] ε μ (fun z ε_1 μ_1 => G cd_X1_addFrame Q X 43 [(0, (2, v0)), (1, (0, v1))] [] ε_1 μ_1) m_F) : G cd_X1_addFrame Q X 28 [(0, (2, v0)), (1, (0, v1))] [] ε μ := by
  refine G_run (m_in [11, 28, 43, 60]) 6 _ _ _ _ ?_
  show m_ty [(0, (2, v0)), (1, (0, v1))] [] ε μ → (kd ε v0 = 1) ∧ o_X1_add [(2, v0), (0, w32 ((w32 (4 * v1)) + 2)), (1, 0), (1, 1), (1, 0), (1, 1000000000)] ε μ (fun z ε_1 μ_1 => G cd_X1_addFrame Q X 43 [(0, (2, v0)), (1, (0, v1))] [] ε_1 μ_1) m_F
  intro hty
  replace h := h hty.1 (hty.2.1 _ (List.mem_of_getElem? (i := 1) rfl))
  obtain ⟨k1, h⟩ := h
  refine And.intro k1 ?_
  exact h
set_option maxRecDepth 20000 in
theorem g_X1_addFrame_11 {Q X : m_Po} {v0 v1 : Int} {ε : m_E} {μ : m_M} (h : TY ε μ → i32 v1 → kd ε v0 = 1 ∧ o_X1_add [(2, v0), (0, w32 ((w32 (4 * v1)) + 1)), (1, (-1)), (1, 0), (1, 0), (1, 1000000000)] ε μ (fun z ε_1 μ_1 => G cd_X1_addFrame Q X 28 [(0, (2, v0)), (1, (0, v1))] [] ε_1 μ_1) m_F) : G cd_X1_addFrame Q X 11 [(0, (2, v0)), (1, (0, v1))] [] ε μ := by
  refine G_run (m_in [11, 28, 43, 60]) 6 _ _ _ _ ?_
  show m_ty [(0, (2, v0)), (1, (0, v1))] [] ε μ → (kd ε v0 = 1) ∧ o_X1_add [(2, v0), (0, w32 ((w32 (4 * v1)) + 1)), (1, (-1)), (1, 0), (1, 0), (1, 1000000000)] ε μ (fun z ε_1 μ_1 => G cd_X1_addFrame Q X 28 [(0, (2, v0)), (1, (0, v1))] [] ε_1 μ_1) m_F
  intro hty
  replace h := h hty.1 (hty.2.1 _ (List.mem_of_getElem? (i := 1) rfl))
  obtain ⟨k1, h⟩ := h
  refine And.intro k1 ?_
  exact h
set_option maxRecDepth 20000 in
theorem g_X1_addFrame_0 {Q X : m_Po} {v0 v1 : Int} {ε : m_E} {μ : m_M} (h : TY ε μ → i32 v1 → kd ε v0 = 1 ∧ o_X1_add [(2, v0), (0, w32 (4 * v1)), (1, 1), (1, 0), (1, 0), (1, 0)] ε μ (fun z ε_1 μ_1 => G cd_X1_addFrame Q X 11 [(0, (2, v0)), (1, (0, v1))] [] ε_1 μ_1) m_F) : G cd_X1_addFrame Q X 0 [(0, (2, v0)), (1, (0, v1))] [] ε μ := by
  refine G_run (m_in [11, 28, 43, 60]) 6 _ _ _ _ ?_
  show m_ty [(0, (2, v0)), (1, (0, v1))] [] ε μ → (kd ε v0 = 1) ∧ o_X1_add [(2, v0), (0, w32 (4 * v1)), (1, 1), (1, 0), (1, 0), (1, 0)] ε μ (fun z ε_1 μ_1 => G cd_X1_addFrame Q X 11 [(0, (2, v0)), (1, (0, v1))] [] ε_1 μ_1) m_F
  intro hty
  replace h := h hty.1 (hty.2.1 _ (List.mem_of_getElem? (i := 1) rfl))
  obtain ⟨k1, h⟩ := h
  refine And.intro k1 ?_
  exact h
theorem e_X1_addFrame {Q X : m_Po} {v0 v1 : Int} {ε : m_E} {μ : m_M} (h : TY ε μ → i32 v1 → kd ε v0 = 1 ∧ o_X1_add [(2, v0), (0, w32 (4 * v1)), (1, 1), (1, 0), (1, 0), (1, 0)] ε μ (fun z ε_1 μ_1 => G cd_X1_addFrame Q X 11 [(0, (2, v0)), (1, (0, v1))] [] ε_1 μ_1) m_F) : o_X1_addFrame [(2, v0), (0, v1)] ε μ Q X := And.intro rfl (g_X1_addFrame_0 h)
/-! ArchYard$Bounds.gather(LArchYard$Arch;Z)V -/
set_option maxRecDepth 20000 in
theorem g_X1_gather_58 {Q X : m_Po} {ε : m_E} {μ : m_M} (h : TY ε μ → Q 0 ε μ) : G cd_X1_gather Q X 58 [] [] ε μ := by
  refine G_run (m_in [4, 6, 20, 30, 36, 42, 58]) 12 _ _ _ _ ?_
  show m_ty [] [] ε μ → Q 0 ε μ
  intro hty
  replace h := h hty.1 
  exact h
set_option maxRecDepth 20000 in
theorem g_X1_gather_42 {Q X : m_Po} {v0 v1 v2 v3 : Int} {ε : m_E} {μ : m_M} (h : TY ε μ → i32 v2 → i32 v3 → ∀ v3_1 : Int, v3_1 = w32 (v3 + 1) → G cd_X1_gather Q X 6 [(0, (2, v0)), (1, (2, v1)), (2, (0, v2)), (3, (0, v3_1))] [] ε μ) : G cd_X1_gather Q X 42 [(0, (2, v0)), (1, (2, v1)), (2, (0, v2)), (3, (0, v3))] [] ε μ := by
  refine G_run (m_in [4, 6, 20, 30, 36, 42, 58]) 12 _ _ _ _ ?_
  show m_ty [(0, (2, v0)), (1, (2, v1)), (2, (0, v2)), (3, (0, v3))] [] ε μ → ∀ v3_1 : Int, v3_1 = w32 (v3 + 1) → G cd_X1_gather Q X 6 [(0, (2, v0)), (1, (2, v1)), (2, (0, v2)), (3, (0, v3_1))] [] ε μ
  intro hty
  replace h := h hty.1 (hty.2.1 _ (List.mem_of_getElem? (i := 2) rfl)) (hty.2.1 _ (List.mem_of_getElem? (i := 3) rfl))
  intro v3_1 e_v3_1
  replace h := h v3_1 e_v3_1
  exact h
set_option maxRecDepth 20000 in
theorem g_X1_gather_36 {Q X : m_Po} {v0 v1 v2 v3 : Int} {ε : m_E} {μ : m_M} (h : TY ε μ → i32 v2 → i32 v3 → kd ε v0 = 1 ∧ o_X1_passLoads [(2, v0), (2, v1), (0, v3)] ε μ (fun z ε_1 μ_1 => G cd_X1_gather Q X 42 [(0, (2, v0)), (1, (2, v1)), (2, (0, v2)), (3, (0, v3))] [] ε_1 μ_1) m_F) : G cd_X1_gather Q X 36 [(0, (2, v0)), (1, (2, v1)), (2, (0, v2)), (3, (0, v3))] [] ε μ := by
  refine G_run (m_in [4, 6, 20, 30, 36, 42, 58]) 12 _ _ _ _ ?_
  show m_ty [(0, (2, v0)), (1, (2, v1)), (2, (0, v2)), (3, (0, v3))] [] ε μ → (kd ε v0 = 1) ∧ o_X1_passLoads [(2, v0), (2, v1), (0, v3)] ε μ (fun z ε_1 μ_1 => G cd_X1_gather Q X 42 [(0, (2, v0)), (1, (2, v1)), (2, (0, v2)), (3, (0, v3))] [] ε_1 μ_1) m_F
  intro hty
  replace h := h hty.1 (hty.2.1 _ (List.mem_of_getElem? (i := 2) rfl)) (hty.2.1 _ (List.mem_of_getElem? (i := 3) rfl))
  obtain ⟨k1, h⟩ := h
  refine And.intro k1 ?_
  exact h
set_option maxRecDepth 20000 in
theorem g_X1_gather_30 {Q X : m_Po} {v0 v1 v2 v3 : Int} {ε : m_E} {μ : m_M} (h : TY ε μ → i32 v2 → i32 v3 → kd ε v0 = 1 ∧ o_X1_passStone [(2, v0), (2, v1), (0, v3)] ε μ (fun z ε_1 μ_1 => G cd_X1_gather Q X 36 [(0, (2, v0)), (1, (2, v1)), (2, (0, v2)), (3, (0, v3))] [] ε_1 μ_1) m_F) : G cd_X1_gather Q X 30 [(0, (2, v0)), (1, (2, v1)), (2, (0, v2)), (3, (0, v3))] [] ε μ := by
  refine G_run (m_in [4, 6, 20, 30, 36, 42, 58]) 12 _ _ _ _ ?_
  show m_ty [(0, (2, v0)), (1, (2, v1)), (2, (0, v2)), (3, (0, v3))] [] ε μ → (kd ε v0 = 1) ∧ o_X1_passStone [(2, v0), (2, v1), (0, v3)] ε μ (fun z ε_1 μ_1 => G cd_X1_gather Q X 36 [(0, (2, v0)), (1, (2, v1)), (2, (0, v2)), (3, (0, v3))] [] ε_1 μ_1) m_F
  intro hty
  replace h := h hty.1 (hty.2.1 _ (List.mem_of_getElem? (i := 2) rfl)) (hty.2.1 _ (List.mem_of_getElem? (i := 3) rfl))
  obtain ⟨k1, h⟩ := h
  refine And.intro k1 ?_
  exact h
set_option maxRecDepth 20000 in
theorem g_X1_gather_20 {Q X : m_Po} {v0 v1 v2 v3 : Int} {ε : m_E} {μ : m_M} (h : TY ε μ → i32 v2 → i32 v3 → (v2 = 0 → G cd_X1_gather Q X 30 [(0, (2, v0)), (1, (2, v1)), (2, (0, v2)), (3, (0, v3))] [] ε μ) ∧ (v2 ≠ 0 → kd ε v0 = 1 ∧ o_X1_addSlopes [(2, v0), (2, v1), (0, v3)] ε μ (fun z ε_1 μ_1 => G cd_X1_gather Q X 30 [(0, (2, v0)), (1, (2, v1)), (2, (0, v2)), (3, (0, v3))] [] ε_1 μ_1) m_F)) : G cd_X1_gather Q X 20 [(0, (2, v0)), (1, (2, v1)), (2, (0, v2)), (3, (0, v3))] [] ε μ := by
  refine G_run (m_in [4, 6, 20, 30, 36, 42, 58]) 12 _ _ _ _ ?_
  show m_ty [(0, (2, v0)), (1, (2, v1)), (2, (0, v2)), (3, (0, v3))] [] ε μ → (v2 = 0 → G cd_X1_gather Q X 30 [(0, (2, v0)), (1, (2, v1)), (2, (0, v2)), (3, (0, v3))] [] ε μ) ∧ (v2 ≠ 0 → (m_ty [(0, (2, v0)), (1, (2, v1)), (2, (0, v2)), (3, (0, v3))] [] ε μ → (kd ε v0 = 1) ∧ o_X1_addSlopes [(2, v0), (2, v1), (0, v3)] ε μ (fun z ε_1 μ_1 => G cd_X1_gather Q X 30 [(0, (2, v0)), (1, (2, v1)), (2, (0, v2)), (3, (0, v3))] [] ε_1 μ_1) m_F))
  intro hty
  replace h := h hty.1 (hty.2.1 _ (List.mem_of_getElem? (i := 2) rfl)) (hty.2.1 _ (List.mem_of_getElem? (i := 3) rfl))
  obtain ⟨ha, hb⟩ := h
  refine And.intro (fun c1 => ?_) (fun c1 => ?_)
  · replace h := ha c1
    clear ha hb
    exact h
  · replace h := hb c1
    clear ha hb
    intro _
    obtain ⟨k1, h⟩ := h
    refine And.intro k1 ?_
    exact h
set_option maxRecDepth 20000 in
theorem g_X1_gather_6 {Q X : m_Po} {v0 v1 v2 v3 : Int} {ε : m_E} {μ : m_M} (h : TY ε μ → i32 v2 → i32 v3 → kd ε v1 = 0 ∧ ((fn ε v1 0) < v3 → kd ε v0 = 1 ∧ o_X1_addFrame [(2, v0), (0, w32 ((fn ε v1 0) + 1))] ε μ (fun z ε_1 μ_1 => G cd_X1_gather Q X 58 [] [] ε_1 μ_1) m_F) ∧ (v3 ≤ (fn ε v1 0) → kd ε v0 = 1 ∧ o_X1_addMoments [(2, v0), (2, v1), (0, v3)] ε μ (fun z_1 ε_2 μ_2 => G cd_X1_gather Q X 20 [(0, (2, v0)), (1, (2, v1)), (2, (0, v2)), (3, (0, v3))] [] ε_2 μ_2) m_F)) : G cd_X1_gather Q X 6 [(0, (2, v0)), (1, (2, v1)), (2, (0, v2)), (3, (0, v3))] [] ε μ := by
  refine G_run (m_in [4, 6, 20, 30, 36, 42, 58]) 12 _ _ _ _ ?_
  show m_ty [(0, (2, v0)), (1, (2, v1)), (2, (0, v2)), (3, (0, v3))] [] ε μ → (kd ε v1 = 0) ∧ ((fn ε v1 0) < v3 → (m_ty [(0, (2, v0)), (1, (2, v1))] [] ε μ → (kd ε v1 = 0) ∧ (kd ε v0 = 1) ∧ o_X1_addFrame [(2, v0), (0, w32 ((fn ε v1 0) + 1))] ε μ (fun z ε_1 μ_1 => G cd_X1_gather Q X 58 [] [] ε_1 μ_1) m_F)) ∧ (v3 ≤ (fn ε v1 0) → (m_ty [(0, (2, v0)), (1, (2, v1)), (2, (0, v2)), (3, (0, v3))] [] ε μ → (kd ε v0 = 1) ∧ o_X1_addMoments [(2, v0), (2, v1), (0, v3)] ε μ (fun z_1 ε_2 μ_2 => G cd_X1_gather Q X 20 [(0, (2, v0)), (1, (2, v1)), (2, (0, v2)), (3, (0, v3))] [] ε_2 μ_2) m_F))
  intro hty
  replace h := h hty.1 (hty.2.1 _ (List.mem_of_getElem? (i := 2) rfl)) (hty.2.1 _ (List.mem_of_getElem? (i := 3) rfl))
  obtain ⟨k1, h⟩ := h
  refine And.intro k1 ?_
  obtain ⟨ha, hb⟩ := h
  refine And.intro (fun c3 => ?_) (fun c3 => ?_)
  · replace h := ha c3
    clear ha hb
    intro _
    refine And.intro k1 ?_
    obtain ⟨k2, h⟩ := h
    refine And.intro k2 ?_
    exact h
  · replace h := hb c3
    clear ha hb
    intro _
    obtain ⟨k3, h⟩ := h
    refine And.intro k3 ?_
    exact h
set_option maxRecDepth 20000 in
theorem g_X1_gather_4 {Q X : m_Po} {v0 v1 v2 : Int} {ε : m_E} {μ : m_M} (h : TY ε μ → i32 v2 → ∀ v3 : Int, v3 = 0 → G cd_X1_gather Q X 6 [(0, (2, v0)), (1, (2, v1)), (2, (0, v2)), (3, (0, v3))] [] ε μ) : G cd_X1_gather Q X 4 [(0, (2, v0)), (1, (2, v1)), (2, (0, v2))] [] ε μ := by
  refine G_run (m_in [4, 6, 20, 30, 36, 42, 58]) 12 _ _ _ _ ?_
  show m_ty [(0, (2, v0)), (1, (2, v1)), (2, (0, v2))] [] ε μ → ∀ v3 : Int, v3 = 0 → G cd_X1_gather Q X 6 [(0, (2, v0)), (1, (2, v1)), (2, (0, v2)), (3, (0, v3))] [] ε μ
  intro hty
  replace h := h hty.1 (hty.2.1 _ (List.mem_of_getElem? (i := 2) rfl))
  intro v3 e_v3
  replace h := h v3 e_v3
  exact h
set_option maxRecDepth 20000 in
theorem g_X1_gather_0 {Q X : m_Po} {v0 v1 v2 : Int} {ε : m_E} {μ : m_M} (h : TY ε μ → i32 v2 → kd ε v0 = 1 ∧ o_X1_begin [(2, v0)] ε μ (fun z ε_1 μ_1 => G cd_X1_gather Q X 4 [(0, (2, v0)), (1, (2, v1)), (2, (0, v2))] [] ε_1 μ_1) m_F) : G cd_X1_gather Q X 0 [(0, (2, v0)), (1, (2, v1)), (2, (0, v2))] [] ε μ := by
  refine G_run (m_in [4, 6, 20, 30, 36, 42, 58]) 12 _ _ _ _ ?_
  show m_ty [(0, (2, v0)), (1, (2, v1)), (2, (0, v2))] [] ε μ → (kd ε v0 = 1) ∧ o_X1_begin [(2, v0)] ε μ (fun z ε_1 μ_1 => G cd_X1_gather Q X 4 [(0, (2, v0)), (1, (2, v1)), (2, (0, v2))] [] ε_1 μ_1) m_F
  intro hty
  replace h := h hty.1 (hty.2.1 _ (List.mem_of_getElem? (i := 2) rfl))
  obtain ⟨k1, h⟩ := h
  refine And.intro k1 ?_
  exact h
theorem e_X1_gather {Q X : m_Po} {v0 v1 v2 : Int} {ε : m_E} {μ : m_M} (h : TY ε μ → i32 v2 → kd ε v0 = 1 ∧ o_X1_begin [(2, v0)] ε μ (fun z ε_1 μ_1 => G cd_X1_gather Q X 4 [(0, (2, v0)), (1, (2, v1)), (2, (0, v2))] [] ε_1 μ_1) m_F) : o_X1_gather [(2, v0), (2, v1), (0, v2)] ε μ Q X := And.intro rfl (g_X1_gather_0 h)
/-! ArchYard$Bounds.gatherNarrowed(LArchYard$Arch;I)V -/
set_option maxRecDepth 20000 in
theorem g_X1_gatherNarrowed_86 {Q X : m_Po} {ε : m_E} {μ : m_M} (h : TY ε μ → Q 0 ε μ) : G cd_X1_gatherNarrowed Q X 86 [] [] ε μ := by
  refine G_run (m_in [4, 6, 19, 38, 52, 58, 64, 70, 86]) 17 _ _ _ _ ?_
  show m_ty [] [] ε μ → Q 0 ε μ
  intro hty
  replace h := h hty.1 
  exact h
set_option maxRecDepth 20000 in
theorem g_X1_gatherNarrowed_70 {Q X : m_Po} {v0 v1 v2 v3 : Int} {ε : m_E} {μ : m_M} (h : TY ε μ → i32 v2 → i32 v3 → ∀ v3_1 : Int, v3_1 = w32 (v3 + 1) → G cd_X1_gatherNarrowed Q X 6 [(0, (2, v0)), (1, (2, v1)), (2, (0, v2)), (3, (0, v3_1))] [] ε μ) : G cd_X1_gatherNarrowed Q X 70 [(0, (2, v0)), (1, (2, v1)), (2, (0, v2)), (3, (0, v3))] [] ε μ := by
  refine G_run (m_in [4, 6, 19, 38, 52, 58, 64, 70, 86]) 17 _ _ _ _ ?_
  show m_ty [(0, (2, v0)), (1, (2, v1)), (2, (0, v2)), (3, (0, v3))] [] ε μ → ∀ v3_1 : Int, v3_1 = w32 (v3 + 1) → G cd_X1_gatherNarrowed Q X 6 [(0, (2, v0)), (1, (2, v1)), (2, (0, v2)), (3, (0, v3_1))] [] ε μ
  intro hty
  replace h := h hty.1 (hty.2.1 _ (List.mem_of_getElem? (i := 2) rfl)) (hty.2.1 _ (List.mem_of_getElem? (i := 3) rfl))
  intro v3_1 e_v3_1
  replace h := h v3_1 e_v3_1
  exact h
set_option maxRecDepth 20000 in
theorem g_X1_gatherNarrowed_64 {Q X : m_Po} {v0 v1 v2 v3 : Int} {ε : m_E} {μ : m_M} (h : TY ε μ → i32 v2 → i32 v3 → kd ε v0 = 1 ∧ o_X1_passLoads [(2, v0), (2, v1), (0, v3)] ε μ (fun z ε_1 μ_1 => G cd_X1_gatherNarrowed Q X 70 [(0, (2, v0)), (1, (2, v1)), (2, (0, v2)), (3, (0, v3))] [] ε_1 μ_1) m_F) : G cd_X1_gatherNarrowed Q X 64 [(0, (2, v0)), (1, (2, v1)), (2, (0, v2)), (3, (0, v3))] [] ε μ := by
  refine G_run (m_in [4, 6, 19, 38, 52, 58, 64, 70, 86]) 17 _ _ _ _ ?_
  show m_ty [(0, (2, v0)), (1, (2, v1)), (2, (0, v2)), (3, (0, v3))] [] ε μ → (kd ε v0 = 1) ∧ o_X1_passLoads [(2, v0), (2, v1), (0, v3)] ε μ (fun z ε_1 μ_1 => G cd_X1_gatherNarrowed Q X 70 [(0, (2, v0)), (1, (2, v1)), (2, (0, v2)), (3, (0, v3))] [] ε_1 μ_1) m_F
  intro hty
  replace h := h hty.1 (hty.2.1 _ (List.mem_of_getElem? (i := 2) rfl)) (hty.2.1 _ (List.mem_of_getElem? (i := 3) rfl))
  obtain ⟨k1, h⟩ := h
  refine And.intro k1 ?_
  exact h
set_option maxRecDepth 20000 in
theorem g_X1_gatherNarrowed_58 {Q X : m_Po} {v0 v1 v2 v3 : Int} {ε : m_E} {μ : m_M} (h : TY ε μ → i32 v2 → i32 v3 → kd ε v0 = 1 ∧ o_X1_passStone [(2, v0), (2, v1), (0, v3)] ε μ (fun z ε_1 μ_1 => G cd_X1_gatherNarrowed Q X 64 [(0, (2, v0)), (1, (2, v1)), (2, (0, v2)), (3, (0, v3))] [] ε_1 μ_1) m_F) : G cd_X1_gatherNarrowed Q X 58 [(0, (2, v0)), (1, (2, v1)), (2, (0, v2)), (3, (0, v3))] [] ε μ := by
  refine G_run (m_in [4, 6, 19, 38, 52, 58, 64, 70, 86]) 17 _ _ _ _ ?_
  show m_ty [(0, (2, v0)), (1, (2, v1)), (2, (0, v2)), (3, (0, v3))] [] ε μ → (kd ε v0 = 1) ∧ o_X1_passStone [(2, v0), (2, v1), (0, v3)] ε μ (fun z ε_1 μ_1 => G cd_X1_gatherNarrowed Q X 64 [(0, (2, v0)), (1, (2, v1)), (2, (0, v2)), (3, (0, v3))] [] ε_1 μ_1) m_F
  intro hty
  replace h := h hty.1 (hty.2.1 _ (List.mem_of_getElem? (i := 2) rfl)) (hty.2.1 _ (List.mem_of_getElem? (i := 3) rfl))
  obtain ⟨k1, h⟩ := h
  refine And.intro k1 ?_
  exact h
set_option maxRecDepth 20000 in
theorem g_X1_gatherNarrowed_52 {Q X : m_Po} {v0 v1 v2 v3 t t_1 t_2 t_3 t_4 : Int} {ε : m_E} {μ : m_M} (h : TY ε μ → i32 v2 → i32 v3 → i32 t_2 → i64 t_3 → i32 t_4 → kd ε t = 1 ∧ o_X1_addMomentsAt [(2, t), (2, t_1), (0, t_2), (1, t_3), (1, w32 (t_4 + v2))] ε μ (fun z ε_1 μ_1 => G cd_X1_gatherNarrowed Q X 58 [(0, (2, v0)), (1, (2, v1)), (2, (0, v2)), (3, (0, v3))] [] ε_1 μ_1) m_F) : G cd_X1_gatherNarrowed Q X 52 [(0, (2, v0)), (1, (2, v1)), (2, (0, v2)), (3, (0, v3))] [(0, t_4), (1, t_3), (0, t_2), (2, t_1), (2, t)] ε μ := by
  refine G_run (m_in [4, 6, 19, 38, 52, 58, 64, 70, 86]) 17 _ _ _ _ ?_
  show m_ty [(0, (2, v0)), (1, (2, v1)), (2, (0, v2)), (3, (0, v3))] [(0, t_4), (1, t_3), (0, t_2), (2, t_1), (2, t)] ε μ → (kd ε t = 1) ∧ o_X1_addMomentsAt [(2, t), (2, t_1), (0, t_2), (1, t_3), (1, w32 (t_4 + v2))] ε μ (fun z ε_1 μ_1 => G cd_X1_gatherNarrowed Q X 58 [(0, (2, v0)), (1, (2, v1)), (2, (0, v2)), (3, (0, v3))] [] ε_1 μ_1) m_F
  intro hty
  replace h := h hty.1 (hty.2.1 _ (List.mem_of_getElem? (i := 2) rfl)) (hty.2.1 _ (List.mem_of_getElem? (i := 3) rfl)) (hty.2.2 _ (List.mem_of_getElem? (i := 2) rfl)) (hty.2.2 _ (List.mem_of_getElem? (i := 1) rfl)) (hty.2.2 _ (List.mem_of_getElem? (i := 0) rfl))
  obtain ⟨k1, h⟩ := h
  refine And.intro k1 ?_
  exact h
set_option maxRecDepth 20000 in
theorem g_X1_gatherNarrowed_38 {Q X : m_Po} {v0 v1 v2 v3 v4 t t_1 t_2 t_3 : Int} {ε : m_E} {μ : m_M} (h : TY ε μ → i32 v2 → i32 v3 → i32 v4 → i32 t_2 → i32 t_3 → ∀ t_4 : Int, t_4 = (if v4 = 0 then 0 else 64) → kd ε t = 1 ∧ o_X1_addMomentsAt [(2, t), (2, t_1), (0, t_2), (1, (w32 (t_3 - v2))), (1, w32 (t_4 + v2))] ε μ (fun z ε_1 μ_1 => G cd_X1_gatherNarrowed Q X 58 [(0, (2, v0)), (1, (2, v1)), (2, (0, v2)), (3, (0, v3))] [] ε_1 μ_1) m_F) : G cd_X1_gatherNarrowed Q X 38 [(0, (2, v0)), (1, (2, v1)), (2, (0, v2)), (3, (0, v3)), (4, (0, v4))] [(0, t_3), (0, t_2), (2, t_1), (2, t)] ε μ := by
  refine G_run (m_in [4, 6, 19, 38, 52, 58, 64, 70, 86]) 17 _ _ _ _ ?_
  show m_ty [(0, (2, v0)), (1, (2, v1)), (2, (0, v2)), (3, (0, v3)), (4, (0, v4))] [(0, t_3), (0, t_2), (2, t_1), (2, t)] ε μ → (v4 = 0 → (m_ty [(0, (2, v0)), (1, (2, v1)), (2, (0, v2)), (3, (0, v3))] [(1, w32 (t_3 - v2)), (0, t_2), (2, t_1), (2, t)] ε μ → G cd_X1_gatherNarrowed Q X 52 [(0, (2, v0)), (1, (2, v1)), (2, (0, v2)), (3, (0, v3))] [(0, 0), (1, w32 (t_3 - v2)), (0, t_2), (2, t_1), (2, t)] ε μ)) ∧ (v4 ≠ 0 → (m_ty [(0, (2, v0)), (1, (2, v1)), (2, (0, v2)), (3, (0, v3))] [(1, w32 (t_3 - v2)), (0, t_2), (2, t_1), (2, t)] ε μ → G cd_X1_gatherNarrowed Q X 52 [(0, (2, v0)), (1, (2, v1)), (2, (0, v2)), (3, (0, v3))] [(0, 64), (1, w32 (t_3 - v2)), (0, t_2), (2, t_1), (2, t)] ε μ))
  intro hty
  replace h := h hty.1 (hty.2.1 _ (List.mem_of_getElem? (i := 2) rfl)) (hty.2.1 _ (List.mem_of_getElem? (i := 3) rfl)) (hty.2.1 _ (List.mem_of_getElem? (i := 4) rfl)) (hty.2.2 _ (List.mem_of_getElem? (i := 1) rfl)) (hty.2.2 _ (List.mem_of_getElem? (i := 0) rfl))
  have hj := h
  refine And.intro (fun c0 => ?_) (fun c0 => ?_)
  · intro _
    exact g_X1_gatherNarrowed_52 (fun _ _ _ _ _ _ => (hj _ (((if_pos c0).trans rfl)).symm))
  · intro _
    exact g_X1_gatherNarrowed_52 (fun _ _ _ _ _ _ => (hj _ (((if_neg (c0)).trans rfl)).symm))
set_option maxRecDepth 20000 in
theorem g_X1_gatherNarrowed_19 {Q X : m_Po} {v0 v1 v2 v3 t : Int} {ε : m_E} {μ : m_M} (h : TY ε μ → i32 v2 → i32 v3 → i32 t → ∀ v4 : Int, v4 = t → ∀ t_1 : Int, t_1 = (if v4 = 0 then 128 else 192) → ∀ t_2 : Int, t_2 = (if v4 = 0 then 0 else 64) → kd ε v0 = 1 ∧ o_X1_addMomentsAt [(2, v0), (2, v1), (0, v3), (1, (w32 (t_1 - v2))), (1, w32 (t_2 + v2))] ε μ (fun z ε_1 μ_1 => G cd_X1_gatherNarrowed Q X 58 [(0, (2, v0)), (1, (2, v1)), (2, (0, v2)), (3, (0, v3))] [] ε_1 μ_1) m_F) : G cd_X1_gatherNarrowed Q X 19 [(0, (2, v0)), (1, (2, v1)), (2, (0, v2)), (3, (0, v3))] [(0, t)] ε μ := by
  refine G_run (m_in [4, 6, 19, 38, 52, 58, 64, 70, 86]) 17 _ _ _ _ ?_
  show m_ty [(0, (2, v0)), (1, (2, v1)), (2, (0, v2)), (3, (0, v3))] [(0, t)] ε μ → ∀ v4 : Int, v4 = t → (v4 = 0 → (m_ty [(0, (2, v0)), (1, (2, v1)), (2, (0, v2)), (3, (0, v3)), (4, (0, v4))] [(0, v3), (2, v1), (2, v0)] ε μ → G cd_X1_gatherNarrowed Q X 38 [(0, (2, v0)), (1, (2, v1)), (2, (0, v2)), (3, (0, v3)), (4, (0, v4))] [(0, 128), (0, v3), (2, v1), (2, v0)] ε μ)) ∧ (v4 ≠ 0 → (m_ty [(0, (2, v0)), (1, (2, v1)), (2, (0, v2)), (3, (0, v3)), (4, (0, v4))] [(0, v3), (2, v1), (2, v0)] ε μ → G cd_X1_gatherNarrowed Q X 38 [(0, (2, v0)), (1, (2, v1)), (2, (0, v2)), (3, (0, v3)), (4, (0, v4))] [(0, 192), (0, v3), (2, v1), (2, v0)] ε μ))
  intro hty
  replace h := h hty.1 (hty.2.1 _ (List.mem_of_getElem? (i := 2) rfl)) (hty.2.1 _ (List.mem_of_getElem? (i := 3) rfl)) (hty.2.2 _ (List.mem_of_getElem? (i := 0) rfl))
  intro v4 e_v4
  replace h := h v4 e_v4
  have hj := h
  refine And.intro (fun c0 => ?_) (fun c0 => ?_)
  · intro _
    exact g_X1_gatherNarrowed_38 (fun _ _ _ _ _ _ => (hj _ (((if_pos c0).trans rfl)).symm))
  · intro _
    exact g_X1_gatherNarrowed_38 (fun _ _ _ _ _ _ => (hj _ (((if_neg (c0)).trans rfl)).symm))
set_option maxRecDepth 20000 in
theorem g_X1_gatherNarrowed_6 {Q X : m_Po} {v0 v1 v2 v3 : Int} {ε : m_E} {μ : m_M} (h : TY ε μ → i32 v2 → i32 v3 → kd ε v1 = 0 ∧ ((fn ε v1 0) < v3 → kd ε v0 = 1 ∧ o_X1_addFrame [(2, v0), (0, w32 ((fn ε v1 0) + 1))] ε μ (fun z ε_1 μ_1 => G cd_X1_gatherNarrowed Q X 86 [] [] ε_1 μ_1) m_F) ∧ (v3 ≤ (fn ε v1 0) → o_X0_isAtFilled [(2, v1), (0, v3)] ε μ (fun z_1 ε_2 μ_2 => G cd_X1_gatherNarrowed Q X 19 [(0, (2, v0)), (1, (2, v1)), (2, (0, v2)), (3, (0, v3))] [(0, z_1)] ε_2 μ_2) m_F)) : G cd_X1_gatherNarrowed Q X 6 [(0, (2, v0)), (1, (2, v1)), (2, (0, v2)), (3, (0, v3))] [] ε μ := by
  refine G_run (m_in [4, 6, 19, 38, 52, 58, 64, 70, 86]) 17 _ _ _ _ ?_
  show m_ty [(0, (2, v0)), (1, (2, v1)), (2, (0, v2)), (3, (0, v3))] [] ε μ → (kd ε v1 = 0) ∧ ((fn ε v1 0) < v3 → (m_ty [(0, (2, v0)), (1, (2, v1))] [] ε μ → (kd ε v1 = 0) ∧ (kd ε v0 = 1) ∧ o_X1_addFrame [(2, v0), (0, w32 ((fn ε v1 0) + 1))] ε μ (fun z ε_1 μ_1 => G cd_X1_gatherNarrowed Q X 86 [] [] ε_1 μ_1) m_F)) ∧ (v3 ≤ (fn ε v1 0) → (m_ty [(0, (2, v0)), (1, (2, v1)), (2, (0, v2)), (3, (0, v3))] [] ε μ → (kd ε v1 = 0) ∧ o_X0_isAtFilled [(2, v1), (0, v3)] ε μ (fun z_1 ε_2 μ_2 => G cd_X1_gatherNarrowed Q X 19 [(0, (2, v0)), (1, (2, v1)), (2, (0, v2)), (3, (0, v3))] [(0, z_1)] ε_2 μ_2) m_F))
  intro hty
  replace h := h hty.1 (hty.2.1 _ (List.mem_of_getElem? (i := 2) rfl)) (hty.2.1 _ (List.mem_of_getElem? (i := 3) rfl))
  obtain ⟨k1, h⟩ := h
  refine And.intro k1 ?_
  obtain ⟨ha, hb⟩ := h
  refine And.intro (fun c2 => ?_) (fun c2 => ?_)
  · replace h := ha c2
    clear ha hb
    intro _
    refine And.intro k1 ?_
    obtain ⟨k2, h⟩ := h
    refine And.intro k2 ?_
    exact h
  · replace h := hb c2
    clear ha hb
    intro _
    refine And.intro k1 ?_
    exact h
set_option maxRecDepth 20000 in
theorem g_X1_gatherNarrowed_4 {Q X : m_Po} {v0 v1 v2 : Int} {ε : m_E} {μ : m_M} (h : TY ε μ → i32 v2 → ∀ v3 : Int, v3 = 0 → G cd_X1_gatherNarrowed Q X 6 [(0, (2, v0)), (1, (2, v1)), (2, (0, v2)), (3, (0, v3))] [] ε μ) : G cd_X1_gatherNarrowed Q X 4 [(0, (2, v0)), (1, (2, v1)), (2, (0, v2))] [] ε μ := by
  refine G_run (m_in [4, 6, 19, 38, 52, 58, 64, 70, 86]) 17 _ _ _ _ ?_
  show m_ty [(0, (2, v0)), (1, (2, v1)), (2, (0, v2))] [] ε μ → ∀ v3 : Int, v3 = 0 → G cd_X1_gatherNarrowed Q X 6 [(0, (2, v0)), (1, (2, v1)), (2, (0, v2)), (3, (0, v3))] [] ε μ
  intro hty
  replace h := h hty.1 (hty.2.1 _ (List.mem_of_getElem? (i := 2) rfl))
  intro v3 e_v3
  replace h := h v3 e_v3
  exact h
set_option maxRecDepth 20000 in
theorem g_X1_gatherNarrowed_0 {Q X : m_Po} {v0 v1 v2 : Int} {ε : m_E} {μ : m_M} (h : TY ε μ → i32 v2 → kd ε v0 = 1 ∧ o_X1_begin [(2, v0)] ε μ (fun z ε_1 μ_1 => G cd_X1_gatherNarrowed Q X 4 [(0, (2, v0)), (1, (2, v1)), (2, (0, v2))] [] ε_1 μ_1) m_F) : G cd_X1_gatherNarrowed Q X 0 [(0, (2, v0)), (1, (2, v1)), (2, (0, v2))] [] ε μ := by
  refine G_run (m_in [4, 6, 19, 38, 52, 58, 64, 70, 86]) 17 _ _ _ _ ?_
  show m_ty [(0, (2, v0)), (1, (2, v1)), (2, (0, v2))] [] ε μ → (kd ε v0 = 1) ∧ o_X1_begin [(2, v0)] ε μ (fun z ε_1 μ_1 => G cd_X1_gatherNarrowed Q X 4 [(0, (2, v0)), (1, (2, v1)), (2, (0, v2))] [] ε_1 μ_1) m_F
  intro hty
  replace h := h hty.1 (hty.2.1 _ (List.mem_of_getElem? (i := 2) rfl))
  obtain ⟨k1, h⟩ := h
  refine And.intro k1 ?_
  exact h
theorem e_X1_gatherNarrowed {Q X : m_Po} {v0 v1 v2 : Int} {ε : m_E} {μ : m_M} (h : TY ε μ → i32 v2 → kd ε v0 = 1 ∧ o_X1_begin [(2, v0)] ε μ (fun z ε_1 μ_1 => G cd_X1_gatherNarrowed Q X 4 [(0, (2, v0)), (1, (2, v1)), (2, (0, v2))] [] ε_1 μ_1) m_F) : o_X1_gatherNarrowed [(2, v0), (2, v1), (0, v2)] ε μ Q X := And.intro rfl (g_X1_gatherNarrowed_0 h)
/-! ArchYard$Bounds.gatherRow(LArchYard$Arch;II)V -/
set_option maxRecDepth 20000 in
theorem g_X1_gatherRow_49 {Q X : m_Po} {ε : m_E} {μ : m_M} (h : TY ε μ → Q 0 ε μ) : G cd_X1_gatherRow Q X 49 [] [] ε μ := by
  refine G_run (m_in [4, 7, 22, 29, 36, 49]) 10 _ _ _ _ ?_
  show m_ty [] [] ε μ → Q 0 ε μ
  intro hty
  replace h := h hty.1 
  exact h
set_option maxRecDepth 20000 in
theorem g_X1_gatherRow_36 {Q X : m_Po} {v0 v1 v3 v4 : Int} {ε : m_E} {μ : m_M} (h : TY ε μ → i32 v3 → i32 v4 → ∀ v4_1 : Int, v4_1 = w32 (v4 + 1) → G cd_X1_gatherRow Q X 7 [(0, (2, v0)), (1, (2, v1)), (3, (0, v3)), (4, (0, v4_1))] [] ε μ) : G cd_X1_gatherRow Q X 36 [(0, (2, v0)), (1, (2, v1)), (3, (0, v3)), (4, (0, v4))] [] ε μ := by
  refine G_run (m_in [4, 7, 22, 29, 36, 49]) 10 _ _ _ _ ?_
  show m_ty [(0, (2, v0)), (1, (2, v1)), (3, (0, v3)), (4, (0, v4))] [] ε μ → ∀ v4_1 : Int, v4_1 = w32 (v4 + 1) → G cd_X1_gatherRow Q X 7 [(0, (2, v0)), (1, (2, v1)), (3, (0, v3)), (4, (0, v4_1))] [] ε μ
  intro hty
  replace h := h hty.1 (hty.2.1 _ (List.mem_of_getElem? (i := 2) rfl)) (hty.2.1 _ (List.mem_of_getElem? (i := 3) rfl))
  intro v4_1 e_v4_1
  replace h := h v4_1 e_v4_1
  exact h
set_option maxRecDepth 20000 in
theorem g_X1_gatherRow_29 {Q X : m_Po} {v0 v1 v3 v4 : Int} {ε : m_E} {μ : m_M} (h : TY ε μ → i32 v3 → i32 v4 → kd ε v0 = 1 ∧ o_X1_passStone [(2, v0), (2, v1), (0, v4)] ε μ (fun z ε_1 μ_1 => G cd_X1_gatherRow Q X 36 [(0, (2, v0)), (1, (2, v1)), (3, (0, v3)), (4, (0, v4))] [] ε_1 μ_1) m_F) : G cd_X1_gatherRow Q X 29 [(0, (2, v0)), (1, (2, v1)), (3, (0, v3)), (4, (0, v4))] [] ε μ := by
  refine G_run (m_in [4, 7, 22, 29, 36, 49]) 10 _ _ _ _ ?_
  show m_ty [(0, (2, v0)), (1, (2, v1)), (3, (0, v3)), (4, (0, v4))] [] ε μ → (kd ε v0 = 1) ∧ o_X1_passStone [(2, v0), (2, v1), (0, v4)] ε μ (fun z ε_1 μ_1 => G cd_X1_gatherRow Q X 36 [(0, (2, v0)), (1, (2, v1)), (3, (0, v3)), (4, (0, v4))] [] ε_1 μ_1) m_F
  intro hty
  replace h := h hty.1 (hty.2.1 _ (List.mem_of_getElem? (i := 2) rfl)) (hty.2.1 _ (List.mem_of_getElem? (i := 3) rfl))
  obtain ⟨k1, h⟩ := h
  refine And.intro k1 ?_
  exact h
set_option maxRecDepth 20000 in
theorem g_X1_gatherRow_22 {Q X : m_Po} {v0 v1 v3 v4 : Int} {ε : m_E} {μ : m_M} (h : TY ε μ → i32 v3 → i32 v4 → kd ε v0 = 1 ∧ o_X1_addSlopes [(2, v0), (2, v1), (0, v4)] ε μ (fun z ε_1 μ_1 => G cd_X1_gatherRow Q X 29 [(0, (2, v0)), (1, (2, v1)), (3, (0, v3)), (4, (0, v4))] [] ε_1 μ_1) m_F) : G cd_X1_gatherRow Q X 22 [(0, (2, v0)), (1, (2, v1)), (3, (0, v3)), (4, (0, v4))] [] ε μ := by
  refine G_run (m_in [4, 7, 22, 29, 36, 49]) 10 _ _ _ _ ?_
  show m_ty [(0, (2, v0)), (1, (2, v1)), (3, (0, v3)), (4, (0, v4))] [] ε μ → (kd ε v0 = 1) ∧ o_X1_addSlopes [(2, v0), (2, v1), (0, v4)] ε μ (fun z ε_1 μ_1 => G cd_X1_gatherRow Q X 29 [(0, (2, v0)), (1, (2, v1)), (3, (0, v3)), (4, (0, v4))] [] ε_1 μ_1) m_F
  intro hty
  replace h := h hty.1 (hty.2.1 _ (List.mem_of_getElem? (i := 2) rfl)) (hty.2.1 _ (List.mem_of_getElem? (i := 3) rfl))
  obtain ⟨k1, h⟩ := h
  refine And.intro k1 ?_
  exact h
set_option maxRecDepth 20000 in
theorem g_X1_gatherRow_7 {Q X : m_Po} {v0 v1 v3 v4 : Int} {ε : m_E} {μ : m_M} (h : TY ε μ → i32 v3 → i32 v4 → ((w32 (v3 + 1)) < v4 → kd ε v0 = 1 ∧ o_X1_addFrame [(2, v0), (0, w32 (v3 + 2))] ε μ (fun z ε_1 μ_1 => G cd_X1_gatherRow Q X 49 [] [] ε_1 μ_1) m_F) ∧ (v4 ≤ (w32 (v3 + 1)) → kd ε v0 = 1 ∧ o_X1_addMoments [(2, v0), (2, v1), (0, v4)] ε μ (fun z_1 ε_2 μ_2 => G cd_X1_gatherRow Q X 22 [(0, (2, v0)), (1, (2, v1)), (3, (0, v3)), (4, (0, v4))] [] ε_2 μ_2) m_F)) : G cd_X1_gatherRow Q X 7 [(0, (2, v0)), (1, (2, v1)), (3, (0, v3)), (4, (0, v4))] [] ε μ := by
  refine G_run (m_in [4, 7, 22, 29, 36, 49]) 10 _ _ _ _ ?_
  show m_ty [(0, (2, v0)), (1, (2, v1)), (3, (0, v3)), (4, (0, v4))] [] ε μ → ((w32 (v3 + 1)) < v4 → (m_ty [(0, (2, v0)), (3, (0, v3))] [] ε μ → (kd ε v0 = 1) ∧ o_X1_addFrame [(2, v0), (0, w32 (v3 + 2))] ε μ (fun z ε_1 μ_1 => G cd_X1_gatherRow Q X 49 [] [] ε_1 μ_1) m_F)) ∧ (v4 ≤ (w32 (v3 + 1)) → (m_ty [(0, (2, v0)), (1, (2, v1)), (3, (0, v3)), (4, (0, v4))] [] ε μ → (kd ε v0 = 1) ∧ o_X1_addMoments [(2, v0), (2, v1), (0, v4)] ε μ (fun z_1 ε_2 μ_2 => G cd_X1_gatherRow Q X 22 [(0, (2, v0)), (1, (2, v1)), (3, (0, v3)), (4, (0, v4))] [] ε_2 μ_2) m_F))
  intro hty
  replace h := h hty.1 (hty.2.1 _ (List.mem_of_getElem? (i := 2) rfl)) (hty.2.1 _ (List.mem_of_getElem? (i := 3) rfl))
  obtain ⟨ha, hb⟩ := h
  refine And.intro (fun c2 => ?_) (fun c2 => ?_)
  · replace h := ha c2
    clear ha hb
    intro _
    obtain ⟨k1, h⟩ := h
    refine And.intro k1 ?_
    exact h
  · replace h := hb c2
    clear ha hb
    intro _
    obtain ⟨k2, h⟩ := h
    refine And.intro k2 ?_
    exact h
set_option maxRecDepth 20000 in
theorem g_X1_gatherRow_4 {Q X : m_Po} {v0 v1 v2 v3 : Int} {ε : m_E} {μ : m_M} (h : TY ε μ → i32 v2 → i32 v3 → ∀ v4 : Int, v4 = v2 → G cd_X1_gatherRow Q X 7 [(0, (2, v0)), (1, (2, v1)), (3, (0, v3)), (4, (0, v4))] [] ε μ) : G cd_X1_gatherRow Q X 4 [(0, (2, v0)), (1, (2, v1)), (2, (0, v2)), (3, (0, v3))] [] ε μ := by
  refine G_run (m_in [4, 7, 22, 29, 36, 49]) 10 _ _ _ _ ?_
  show m_ty [(0, (2, v0)), (1, (2, v1)), (2, (0, v2)), (3, (0, v3))] [] ε μ → ∀ v4 : Int, v4 = v2 → G cd_X1_gatherRow Q X 7 [(0, (2, v0)), (1, (2, v1)), (3, (0, v3)), (4, (0, v4))] [] ε μ
  intro hty
  replace h := h hty.1 (hty.2.1 _ (List.mem_of_getElem? (i := 2) rfl)) (hty.2.1 _ (List.mem_of_getElem? (i := 3) rfl))
  intro v4 e_v4
  replace h := h v4 e_v4
  exact h
set_option maxRecDepth 20000 in
theorem g_X1_gatherRow_0 {Q X : m_Po} {v0 v1 v2 v3 : Int} {ε : m_E} {μ : m_M} (h : TY ε μ → i32 v2 → i32 v3 → kd ε v0 = 1 ∧ o_X1_begin [(2, v0)] ε μ (fun z ε_1 μ_1 => G cd_X1_gatherRow Q X 4 [(0, (2, v0)), (1, (2, v1)), (2, (0, v2)), (3, (0, v3))] [] ε_1 μ_1) m_F) : G cd_X1_gatherRow Q X 0 [(0, (2, v0)), (1, (2, v1)), (2, (0, v2)), (3, (0, v3))] [] ε μ := by
  refine G_run (m_in [4, 7, 22, 29, 36, 49]) 10 _ _ _ _ ?_
  show m_ty [(0, (2, v0)), (1, (2, v1)), (2, (0, v2)), (3, (0, v3))] [] ε μ → (kd ε v0 = 1) ∧ o_X1_begin [(2, v0)] ε μ (fun z ε_1 μ_1 => G cd_X1_gatherRow Q X 4 [(0, (2, v0)), (1, (2, v1)), (2, (0, v2)), (3, (0, v3))] [] ε_1 μ_1) m_F
  intro hty
  replace h := h hty.1 (hty.2.1 _ (List.mem_of_getElem? (i := 2) rfl)) (hty.2.1 _ (List.mem_of_getElem? (i := 3) rfl))
  obtain ⟨k1, h⟩ := h
  refine And.intro k1 ?_
  exact h
theorem e_X1_gatherRow {Q X : m_Po} {v0 v1 v2 v3 : Int} {ε : m_E} {μ : m_M} (h : TY ε μ → i32 v2 → i32 v3 → kd ε v0 = 1 ∧ o_X1_begin [(2, v0)] ε μ (fun z ε_1 μ_1 => G cd_X1_gatherRow Q X 4 [(0, (2, v0)), (1, (2, v1)), (2, (0, v2)), (3, (0, v3))] [] ε_1 μ_1) m_F) : o_X1_gatherRow [(2, v0), (2, v1), (0, v2), (0, v3)] ε μ Q X := And.intro rfl (g_X1_gatherRow_0 h)
/-! ArchYard$Bounds.firstBelow(JJJ)I -/
set_option maxRecDepth 20000 in
theorem g_X1_firstBelow_3 {Q X : m_Po} {v0 v1 v3 v5 v7 : Int} {ε : m_E} {μ : m_M} (h : TY ε μ → i64 v1 → i64 v3 → i64 v5 → i32 v7 → kd ε v0 = 1 ∧ ((μ v0 5) ≤ v7 → Q (-1) ε μ) ∧ (v7 < (μ v0 5) → ((48 : Int) ≤ v7 → Q (-1) ε μ) ∧ (v7 < (48 : Int) → kd ε (fn ε v0 0) = 101 ∧ (0 : Int) ≤ v7 ∧ v7 < ln ε (fn ε v0 0) ∧ kd ε (fn ε v0 1) = 101 ∧ v7 < ln ε (fn ε v0 1) ∧ kd ε (fn ε v0 2) = 101 ∧ v7 < ln ε (fn ε v0 2) ∧ kd ε (fn ε v0 3) = 101 ∧ v7 < ln ε (fn ε v0 3) ∧ ((0 : Int) ≤ (w64 ((w64 ((w64 ((w64 ((μ (fn ε v0 0) v7) * v1)) + (w64 ((μ (fn ε v0 1) v7) * v3)))) + (w64 ((μ (fn ε v0 2) v7) * v5)))) + (μ (fn ε v0 3) v7))) → ∀ v7_1 : Int, v7_1 = w32 (v7 + 1) → G cd_X1_firstBelow Q X 3 [(0, (2, v0)), (1, (1, v1)), (3, (1, v3)), (5, (1, v5)), (7, (0, v7_1))] [] ε μ) ∧ ((w64 ((w64 ((w64 ((w64 ((μ (fn ε v0 0) v7) * v1)) + (w64 ((μ (fn ε v0 1) v7) * v3)))) + (w64 ((μ (fn ε v0 2) v7) * v5)))) + (μ (fn ε v0 3) v7))) < (0 : Int) → kd ε (fn ε v0 4) = 100 ∧ v7 < ln ε (fn ε v0 4) ∧ Q (μ (fn ε v0 4) v7) ε μ)))) : G cd_X1_firstBelow Q X 3 [(0, (2, v0)), (1, (1, v1)), (3, (1, v3)), (5, (1, v5)), (7, (0, v7))] [] ε μ := by
  refine G_run (m_in [3]) 8 _ _ _ _ ?_
  show m_ty [(0, (2, v0)), (1, (1, v1)), (3, (1, v3)), (5, (1, v5)), (7, (0, v7))] [] ε μ → (kd ε v0 = 1) ∧ ((μ v0 5) ≤ v7 → (m_ty [] [] ε μ → Q (-1) ε μ)) ∧ (v7 < (μ v0 5) → (m_ty [(0, (2, v0)), (1, (1, v1)), (3, (1, v3)), (5, (1, v5)), (7, (0, v7))] [] ε μ → ((48 : Int) ≤ v7 → (m_ty [] [] ε μ → Q (-1) ε μ)) ∧ (v7 < (48 : Int) → (m_ty [(0, (2, v0)), (1, (1, v1)), (3, (1, v3)), (5, (1, v5)), (7, (0, v7))] [] ε μ → (kd ε v0 = 1) ∧ (kd ε (fn ε v0 0) = 101) ∧ ((0 : Int) ≤ v7 ∧ v7 < ln ε (fn ε v0 0)) ∧ (kd ε v0 = 1) ∧ (kd ε (fn ε v0 1) = 101) ∧ ((0 : Int) ≤ v7 ∧ v7 < ln ε (fn ε v0 1)) ∧ (kd ε v0 = 1) ∧ (kd ε (fn ε v0 2) = 101) ∧ ((0 : Int) ≤ v7 ∧ v7 < ln ε (fn ε v0 2)) ∧ (kd ε v0 = 1) ∧ (kd ε (fn ε v0 3) = 101) ∧ ((0 : Int) ≤ v7 ∧ v7 < ln ε (fn ε v0 3)) ∧ ((0 : Int) ≤ (w64 ((w64 ((w64 ((w64 ((μ (fn ε v0 0) v7) * v1)) + (w64 ((μ (fn ε v0 1) v7) * v3)))) + (w64 ((μ (fn ε v0 2) v7) * v5)))) + (μ (fn ε v0 3) v7))) → (m_ty [(0, (2, v0)), (1, (1, v1)), (3, (1, v3)), (5, (1, v5)), (7, (0, v7))] [] ε μ → ∀ v7_1 : Int, v7_1 = w32 (v7 + 1) → G cd_X1_firstBelow Q X 3 [(0, (2, v0)), (1, (1, v1)), (3, (1, v3)), (5, (1, v5)), (7, (0, v7_1))] [] ε μ)) ∧ ((w64 ((w64 ((w64 ((w64 ((μ (fn ε v0 0) v7) * v1)) + (w64 ((μ (fn ε v0 1) v7) * v3)))) + (w64 ((μ (fn ε v0 2) v7) * v5)))) + (μ (fn ε v0 3) v7))) < (0 : Int) → (m_ty [(0, (2, v0)), (7, (0, v7))] [] ε μ → (kd ε v0 = 1) ∧ (kd ε (fn ε v0 4) = 100) ∧ ((0 : Int) ≤ v7 ∧ v7 < ln ε (fn ε v0 4)) ∧ Q (μ (fn ε v0 4) v7) ε μ))))))
  intro hty
  replace h := h hty.1 (hty.2.1 _ (List.mem_of_getElem? (i := 1) rfl)) (hty.2.1 _ (List.mem_of_getElem? (i := 2) rfl)) (hty.2.1 _ (List.mem_of_getElem? (i := 3) rfl)) (hty.2.1 _ (List.mem_of_getElem? (i := 4) rfl))
  obtain ⟨k1, h⟩ := h
  refine And.intro k1 ?_
  obtain ⟨ha, hb⟩ := h
  refine And.intro (fun c14 => ?_) (fun c14 => ?_)
  · replace h := ha c14
    clear ha hb
    intro _
    exact h
  · replace h := hb c14
    clear ha hb
    intro _
    obtain ⟨ha, hb⟩ := h
    refine And.intro (fun c13 => ?_) (fun c13 => ?_)
    · replace h := ha c13
      clear ha hb
      intro _
      exact h
    · replace h := hb c13
      clear ha hb
      intro _
      refine And.intro k1 ?_
      obtain ⟨k2, h⟩ := h
      refine And.intro k2 ?_
      obtain ⟨k3, h⟩ := h
      obtain ⟨k4, h⟩ := h
      refine And.intro (And.intro k3 k4) ?_
      refine And.intro k1 ?_
      obtain ⟨k5, h⟩ := h
      refine And.intro k5 ?_
      obtain ⟨k6, h⟩ := h
      refine And.intro (And.intro k3 k6) ?_
      refine And.intro k1 ?_
      obtain ⟨k7, h⟩ := h
      refine And.intro k7 ?_
      obtain ⟨k8, h⟩ := h
      refine And.intro (And.intro k3 k8) ?_
      refine And.intro k1 ?_
      obtain ⟨k9, h⟩ := h
      refine And.intro k9 ?_
      obtain ⟨k10, h⟩ := h
      refine And.intro (And.intro k3 k10) ?_
      obtain ⟨ha, hb⟩ := h
      refine And.intro (fun c12 => ?_) (fun c12 => ?_)
      · replace h := ha c12
        clear ha hb
        intro _
        intro v7_1 e_v7_1
        replace h := h v7_1 e_v7_1
        exact h
      · replace h := hb c12
        clear ha hb
        intro _
        refine And.intro k1 ?_
        obtain ⟨k11, h⟩ := h
        refine And.intro k11 ?_
        obtain ⟨k12, h⟩ := h
        refine And.intro (And.intro k3 k12) ?_
        exact h
set_option maxRecDepth 20000 in
theorem g_X1_firstBelow_0 {Q X : m_Po} {v0 v1 v3 v5 : Int} {ε : m_E} {μ : m_M} (h : TY ε μ → i64 v1 → i64 v3 → i64 v5 → ∀ v7 : Int, v7 = 0 → G cd_X1_firstBelow Q X 3 [(0, (2, v0)), (1, (1, v1)), (3, (1, v3)), (5, (1, v5)), (7, (0, v7))] [] ε μ) : G cd_X1_firstBelow Q X 0 [(0, (2, v0)), (1, (1, v1)), (3, (1, v3)), (5, (1, v5))] [] ε μ := by
  refine G_run (m_in [3]) 8 _ _ _ _ ?_
  show m_ty [(0, (2, v0)), (1, (1, v1)), (3, (1, v3)), (5, (1, v5))] [] ε μ → ∀ v7 : Int, v7 = 0 → G cd_X1_firstBelow Q X 3 [(0, (2, v0)), (1, (1, v1)), (3, (1, v3)), (5, (1, v5)), (7, (0, v7))] [] ε μ
  intro hty
  replace h := h hty.1 (hty.2.1 _ (List.mem_of_getElem? (i := 1) rfl)) (hty.2.1 _ (List.mem_of_getElem? (i := 2) rfl)) (hty.2.1 _ (List.mem_of_getElem? (i := 3) rfl))
  intro v7 e_v7
  replace h := h v7 e_v7
  exact h
theorem e_X1_firstBelow {Q X : m_Po} {v0 v1 v3 v5 : Int} {ε : m_E} {μ : m_M} (h : TY ε μ → i64 v1 → i64 v3 → i64 v5 → ∀ v7 : Int, v7 = 0 → G cd_X1_firstBelow Q X 3 [(0, (2, v0)), (1, (1, v1)), (3, (1, v3)), (5, (1, v5)), (7, (0, v7))] [] ε μ) : o_X1_firstBelow [(2, v0), (1, v1), (1, v3), (1, v5)] ε μ Q X := And.intro rfl (g_X1_firstBelow_0 h)
/-! ArchYard$Bounds.codeAt(I)I -/
set_option maxRecDepth 20000 in
theorem g_X1_codeAt_28 {Q X : m_Po} {t : Int} {ε : m_E} {μ : m_M} (h : TY ε μ → i32 t → Q t ε μ) : G cd_X1_codeAt Q X 28 [] [(0, t)] ε μ := by
  refine G_run (m_in [28]) 7 _ _ _ _ ?_
  show m_ty [] [(0, t)] ε μ → Q t ε μ
  intro hty
  replace h := h hty.1 (hty.2.2 _ (List.mem_of_getElem? (i := 0) rfl))
  exact h
set_option maxRecDepth 20000 in
theorem g_X1_codeAt_0 {Q X : m_Po} {v0 v1 : Int} {ε : m_E} {μ : m_M} (h : TY ε μ → i32 v1 → ((0 ≤ v1 → kd ε v0 = 1 ∧ (v1 < (μ v0 5) → (v1 < (48 : Int) → kd ε (fn ε v0 4) = 100 ∧ (0 : Int) ≤ v1 ∧ v1 < ln ε (fn ε v0 4))))) ∧ ∀ t : Int, t = (if v1 < 0 then (-1) else if (μ v0 5) ≤ v1 then (-1) else if (48 : Int) ≤ v1 then (-1) else μ (fn ε v0 4) v1) → Q t ε μ) : G cd_X1_codeAt Q X 0 [(0, (2, v0)), (1, (0, v1))] [] ε μ := by
  refine G_run (m_in [28]) 7 _ _ _ _ ?_
  show m_ty [(0, (2, v0)), (1, (0, v1))] [] ε μ → (v1 < 0 → (m_ty [] [] ε μ → G cd_X1_codeAt Q X 28 [] [(0, (-1))] ε μ)) ∧ (0 ≤ v1 → (m_ty [(0, (2, v0)), (1, (0, v1))] [] ε μ → (kd ε v0 = 1) ∧ ((μ v0 5) ≤ v1 → (m_ty [] [] ε μ → G cd_X1_codeAt Q X 28 [] [(0, (-1))] ε μ)) ∧ (v1 < (μ v0 5) → (m_ty [(0, (2, v0)), (1, (0, v1))] [] ε μ → ((48 : Int) ≤ v1 → (m_ty [] [] ε μ → G cd_X1_codeAt Q X 28 [] [(0, (-1))] ε μ)) ∧ (v1 < (48 : Int) → (m_ty [(0, (2, v0)), (1, (0, v1))] [] ε μ → (kd ε v0 = 1) ∧ (kd ε (fn ε v0 4) = 100) ∧ ((0 : Int) ≤ v1 ∧ v1 < ln ε (fn ε v0 4)) ∧ G cd_X1_codeAt Q X 28 [] [(0, μ (fn ε v0 4) v1)] ε μ))))))
  intro hty
  replace h := h hty.1 (hty.2.1 _ (List.mem_of_getElem? (i := 1) rfl))
  obtain ⟨hc, hj⟩ := h
  refine And.intro (fun c0 => ?_) (fun c0 => ?_)
  · intro _
    exact g_X1_codeAt_28 (fun _ _ => (hj _ (((if_pos c0).trans rfl)).symm))
  · replace hc := hc c0
    intro _
    obtain ⟨k2, k8⟩ := hc
    refine And.intro k2 ?_
    refine And.intro (fun c2 => ?_) (fun c2 => ?_)
    · intro _
      exact g_X1_codeAt_28 (fun _ _ => (hj _ (((if_neg (Int.not_lt.mpr c0)).trans ((if_pos c2).trans rfl))).symm))
    · replace k8 := k8 c2
      intro _
      refine And.intro (fun c3 => ?_) (fun c3 => ?_)
      · intro _
        exact g_X1_codeAt_28 (fun _ _ => (hj _ (((if_neg (Int.not_lt.mpr c0)).trans ((if_neg (Int.not_le.mpr c2)).trans ((if_pos c3).trans rfl)))).symm))
      · replace k8 := k8 c3
        intro _
        obtain ⟨k5, k6, k7⟩ := k8
        refine And.intro k2 ?_
        refine And.intro k5 ?_
        refine And.intro (And.intro k6 k7) ?_
        exact g_X1_codeAt_28 (fun _ _ => (hj _ (((if_neg (Int.not_lt.mpr c0)).trans ((if_neg (Int.not_le.mpr c2)).trans ((if_neg (Int.not_le.mpr c3)).trans rfl)))).symm))
theorem e_X1_codeAt {Q X : m_Po} {v0 v1 : Int} {ε : m_E} {μ : m_M} (h : TY ε μ → i32 v1 → ((0 ≤ v1 → kd ε v0 = 1 ∧ (v1 < (μ v0 5) → (v1 < (48 : Int) → kd ε (fn ε v0 4) = 100 ∧ (0 : Int) ≤ v1 ∧ v1 < ln ε (fn ε v0 4))))) ∧ ∀ t : Int, t = (if v1 < 0 then (-1) else if (μ v0 5) ≤ v1 then (-1) else if (48 : Int) ≤ v1 then (-1) else μ (fn ε v0 4) v1) → Q t ε μ) : o_X1_codeAt [(2, v0), (0, v1)] ε μ Q X := And.intro rfl (g_X1_codeAt_0 h)
/-! ArchYard$Wide.<init>()V -/
set_option maxRecDepth 20000 in
theorem g_X9_init_0 {Q X : m_Po} {v0 : Int} {ε : m_E} {μ : m_M} (h : TY ε μ → 0 < v0 ∧ Q 0 ε μ) : G cd_X9_init Q X 0 [(0, (2, v0))] [] ε μ := by
  refine G_run (m_in []) 2 _ _ _ _ ?_
  show m_ty [(0, (2, v0))] [] ε μ → (0 < v0) ∧ m_cs [] ≤ 8 ∧ Q 0 ε μ
  intro hty
  replace h := h hty.1 
  obtain ⟨k1, h⟩ := h
  refine And.intro k1 ?_
  refine And.intro (Nat.le_of_ble_eq_true rfl) ?_
  exact h
theorem e_X9_init {Q X : m_Po} {v0 : Int} {ε : m_E} {μ : m_M} (h : TY ε μ → 0 < v0 ∧ Q 0 ε μ) : o_X9_init [(2, v0)] ε μ Q X := And.intro rfl (g_X9_init_0 h)
/-! ArchYard$Corner.<init>()V -/
set_option maxRecDepth 20000 in
theorem g_X2_init_34 {Q X : m_Po} {t t_1 : Int} {ε : m_E} {μ : m_M} (h : TY ε μ → kd ε t = 2 ∧ ∀ ε_1 : m_E, ε_1 = efin ε t 3 t_1 → Q 0 ε_1 μ) : G cd_X2_init Q X 34 [] [(2, t_1), (2, t)] ε μ := by
  refine G_run (m_in [34]) 3 _ _ _ _ ?_
  show m_ty [] [(2, t_1), (2, t)] ε μ → (kd ε t = 2) ∧ ∀ ε_1 : m_E, ε_1 = efin ε t 3 t_1 → Q 0 ε_1 μ
  intro hty
  replace h := h hty.1 
  obtain ⟨k1, h⟩ := h
  refine And.intro k1 ?_
  intro ε_1 e_ε_1
  replace h := h ε_1 e_ε_1
  exact h
set_option maxRecDepth 20000 in
theorem g_X2_init_0 {Q X : m_Po} {v0 : Int} {ε : m_E} {μ : m_M} (h : TY ε μ → 0 < v0 ∧ ∀ (a : Int) (ε_1 : m_E) (μ_1 : m_M), a = nx ε → ε_1 = ealloc ε 100 3 → μ_1 = mnew μ a → kd ε_1 v0 = 2 ∧ ∀ ε_2 : m_E, ε_2 = efin ε_1 v0 0 a → ∀ (a_1 : Int) (ε_3 : m_E) (μ_2 : m_M), a_1 = nx ε_2 → ε_3 = ealloc ε_2 101 9 → μ_2 = mnew μ_1 a_1 → kd ε_3 v0 = 2 ∧ ∀ ε_4 : m_E, ε_4 = efin ε_3 v0 1 a_1 → ∀ (a_2 : Int) (ε_5 : m_E) (μ_3 : m_M), a_2 = nx ε_4 → ε_5 = ealloc ε_4 101 3 → μ_3 = mnew μ_2 a_2 → kd ε_5 v0 = 2 ∧ ∀ ε_6 : m_E, ε_6 = efin ε_5 v0 2 a_2 → ∀ (a_3 : Int) (ε_7 : m_E) (μ_4 : m_M), a_3 = nx ε_6 → ε_7 = ealloc ε_6 8 0 → μ_4 = mnew μ_3 a_3 → kd ε_7 a_3 = 8 ∧ o_X9_init [(2, a_3)] ε_7 μ_4 (fun z ε_8 μ_5 => G cd_X2_init Q X 34 [] [(2, a_3), (2, v0)] ε_8 μ_5) m_F) : G cd_X2_init Q X 0 [(0, (2, v0))] [] ε μ := by
  refine G_run (m_in [34]) 3 _ _ _ _ ?_
  show m_ty [(0, (2, v0))] [] ε μ → (0 < v0) ∧ m_cs [] ≤ 8 ∧ ((0 : Int) ≤ 3 ∧ (3 : Int) ≤ 3) ∧ ∀ (a : Int) (ε_1 : m_E) (μ_1 : m_M), a = nx ε → ε_1 = ealloc ε 100 3 → μ_1 = mnew μ a → (kd ε_1 v0 = 2) ∧ ∀ ε_2 : m_E, ε_2 = efin ε_1 v0 0 a → ((0 : Int) ≤ 9 ∧ (9 : Int) ≤ 9) ∧ ∀ (a_1 : Int) (ε_3 : m_E) (μ_2 : m_M), a_1 = nx ε_2 → ε_3 = ealloc ε_2 101 9 → μ_2 = mnew μ_1 a_1 → (kd ε_3 v0 = 2) ∧ ∀ ε_4 : m_E, ε_4 = efin ε_3 v0 1 a_1 → ((0 : Int) ≤ 3 ∧ (3 : Int) ≤ 3) ∧ ∀ (a_2 : Int) (ε_5 : m_E) (μ_3 : m_M), a_2 = nx ε_4 → ε_5 = ealloc ε_4 101 3 → μ_3 = mnew μ_2 a_2 → (kd ε_5 v0 = 2) ∧ ∀ ε_6 : m_E, ε_6 = efin ε_5 v0 2 a_2 → ∀ (a_3 : Int) (ε_7 : m_E) (μ_4 : m_M), a_3 = nx ε_6 → ε_7 = ealloc ε_6 8 0 → μ_4 = mnew μ_3 a_3 → (kd ε_7 a_3 = 8) ∧ o_X9_init [(2, a_3)] ε_7 μ_4 (fun z ε_8 μ_5 => G cd_X2_init Q X 34 [] [(2, a_3), (2, v0)] ε_8 μ_5) m_F
  intro hty
  replace h := h hty.1 
  obtain ⟨k1, h⟩ := h
  refine And.intro k1 ?_
  refine And.intro (Nat.le_of_ble_eq_true rfl) ?_
  refine And.intro (And.intro (by decide) (by decide)) ?_
  intro a ε_1 μ_1 e_a e_ε_1 e_μ_1
  replace h := h a ε_1 μ_1 e_a e_ε_1 e_μ_1
  obtain ⟨k2, h⟩ := h
  refine And.intro k2 ?_
  intro ε_2 e_ε_2
  replace h := h ε_2 e_ε_2
  refine And.intro (And.intro (by decide) (by decide)) ?_
  intro a_1 ε_3 μ_2 e_a_1 e_ε_3 e_μ_2
  replace h := h a_1 ε_3 μ_2 e_a_1 e_ε_3 e_μ_2
  obtain ⟨k3, h⟩ := h
  refine And.intro k3 ?_
  intro ε_4 e_ε_4
  replace h := h ε_4 e_ε_4
  refine And.intro (And.intro (by decide) (by decide)) ?_
  intro a_2 ε_5 μ_3 e_a_2 e_ε_5 e_μ_3
  replace h := h a_2 ε_5 μ_3 e_a_2 e_ε_5 e_μ_3
  obtain ⟨k4, h⟩ := h
  refine And.intro k4 ?_
  intro ε_6 e_ε_6
  replace h := h ε_6 e_ε_6
  intro a_3 ε_7 μ_4 e_a_3 e_ε_7 e_μ_4
  replace h := h a_3 ε_7 μ_4 e_a_3 e_ε_7 e_μ_4
  obtain ⟨k5, h⟩ := h
  refine And.intro k5 ?_
  exact h
theorem e_X2_init {Q X : m_Po} {v0 : Int} {ε : m_E} {μ : m_M} (h : TY ε μ → 0 < v0 ∧ ∀ (a : Int) (ε_1 : m_E) (μ_1 : m_M), a = nx ε → ε_1 = ealloc ε 100 3 → μ_1 = mnew μ a → kd ε_1 v0 = 2 ∧ ∀ ε_2 : m_E, ε_2 = efin ε_1 v0 0 a → ∀ (a_1 : Int) (ε_3 : m_E) (μ_2 : m_M), a_1 = nx ε_2 → ε_3 = ealloc ε_2 101 9 → μ_2 = mnew μ_1 a_1 → kd ε_3 v0 = 2 ∧ ∀ ε_4 : m_E, ε_4 = efin ε_3 v0 1 a_1 → ∀ (a_2 : Int) (ε_5 : m_E) (μ_3 : m_M), a_2 = nx ε_4 → ε_5 = ealloc ε_4 101 3 → μ_3 = mnew μ_2 a_2 → kd ε_5 v0 = 2 ∧ ∀ ε_6 : m_E, ε_6 = efin ε_5 v0 2 a_2 → ∀ (a_3 : Int) (ε_7 : m_E) (μ_4 : m_M), a_3 = nx ε_6 → ε_7 = ealloc ε_6 8 0 → μ_4 = mnew μ_3 a_3 → kd ε_7 a_3 = 8 ∧ o_X9_init [(2, a_3)] ε_7 μ_4 (fun z ε_8 μ_5 => G cd_X2_init Q X 34 [] [(2, a_3), (2, v0)] ε_8 μ_5) m_F) : o_X2_init [(2, v0)] ε μ Q X := And.intro rfl (g_X2_init_0 h)
/-! ArchYard$Corner.findEdge(LArchYard$Bounds;III)V -/
set_option maxRecDepth 20000 in
theorem g_X2_findEdge_99 {Q X : m_Po} {v3 v4 v5 t t_1 t_2 t_3 : Int} {ε : m_E} {μ : m_M} (h : TY ε μ → i32 v3 → i32 v4 → i32 t_1 → i64 t_2 → kd ε t_3 = 101 ∧ (0 : Int) ≤ v3 ∧ v3 < ln ε t_3 ∧ kd ε v5 = 101 ∧ (0 : Int) ≤ v4 ∧ v4 < ln ε v5 ∧ kd ε t = 101 ∧ (0 : Int) ≤ t_1 ∧ t_1 < ln ε t ∧ ∀ μ_1 : m_M, μ_1 = st μ t t_1 (w64 (t_2 - (w64 ((μ t_3 v3) * (μ v5 v4))))) → Q 0 ε μ_1) : G cd_X2_findEdge Q X 99 [(3, (0, v3)), (4, (0, v4)), (5, (2, v5))] [(2, t_3), (1, t_2), (0, t_1), (2, t)] ε μ := by
  refine G_run (m_in [12, 56, 99]) 5 _ _ _ _ ?_
  show m_ty [(3, (0, v3)), (4, (0, v4)), (5, (2, v5))] [(2, t_3), (1, t_2), (0, t_1), (2, t)] ε μ → (kd ε t_3 = 101) ∧ ((0 : Int) ≤ v3 ∧ v3 < ln ε t_3) ∧ (kd ε v5 = 101) ∧ ((0 : Int) ≤ v4 ∧ v4 < ln ε v5) ∧ (kd ε t = 101) ∧ ((0 : Int) ≤ t_1 ∧ t_1 < ln ε t) ∧ ∀ μ_1 : m_M, μ_1 = st μ t t_1 (w64 (t_2 - (w64 ((μ t_3 v3) * (μ v5 v4))))) → Q 0 ε μ_1
  intro hty
  replace h := h hty.1 (hty.2.1 _ (List.mem_of_getElem? (i := 0) rfl)) (hty.2.1 _ (List.mem_of_getElem? (i := 1) rfl)) (hty.2.2 _ (List.mem_of_getElem? (i := 2) rfl)) (hty.2.2 _ (List.mem_of_getElem? (i := 1) rfl))
  obtain ⟨k1, h⟩ := h
  refine And.intro k1 ?_
  obtain ⟨k2, h⟩ := h
  obtain ⟨k3, h⟩ := h
  refine And.intro (And.intro k2 k3) ?_
  obtain ⟨k4, h⟩ := h
  refine And.intro k4 ?_
  obtain ⟨k5, h⟩ := h
  obtain ⟨k6, h⟩ := h
  refine And.intro (And.intro k5 k6) ?_
  obtain ⟨k7, h⟩ := h
  refine And.intro k7 ?_
  obtain ⟨k8, h⟩ := h
  obtain ⟨k9, h⟩ := h
  refine And.intro (And.intro k8 k9) ?_
  intro μ_1 e_μ_1
  replace h := h μ_1 e_μ_1
  exact h
set_option maxRecDepth 20000 in
theorem g_X2_findEdge_56 {Q X : m_Po} {v0 v2 v3 v4 v5 v6 v7 t t_1 : Int} {ε : m_E} {μ : m_M} (h : TY ε μ → i32 v2 → i32 v3 → i32 v4 → i32 t_1 → kd ε v7 = 101 ∧ (0 : Int) ≤ v3 ∧ v3 < ln ε v7 ∧ kd ε v5 = 101 ∧ (0 : Int) ≤ v4 ∧ v4 < ln ε v5 ∧ v3 < ln ε v5 ∧ v4 < ln ε v7 ∧ kd ε t = 101 ∧ (0 : Int) ≤ t_1 ∧ t_1 < ln ε t ∧ ∀ μ_1 : m_M, μ_1 = st μ t t_1 (w64 ((w64 ((μ v7 v3) * (μ v5 v4))) - (w64 ((μ v5 v3) * (μ v7 v4))))) → kd ε v0 = 2 ∧ kd ε v6 = 101 ∧ v4 < ln ε v6 ∧ kd ε v6 = 101 ∧ (0 : Int) ≤ v3 ∧ v3 < ln ε v6 ∧ kd ε v5 = 101 ∧ (0 : Int) ≤ v4 ∧ v4 < ln ε v5 ∧ kd ε (fn ε v0 1) = 101 ∧ (0 : Int) ≤ (w32 ((w32 (3 * v2)) + 2)) ∧ (w32 ((w32 (3 * v2)) + 2)) < ln ε (fn ε v0 1) ∧ ∀ μ_2 : m_M, μ_2 = st μ_1 (fn ε v0 1) (w32 ((w32 (3 * v2)) + 2)) (w64 ((w64 ((μ_1 v5 v3) * (μ_1 v6 v4))) - (w64 ((μ_1 v6 v3) * (μ_1 v5 v4))))) → Q 0 ε μ_2) : G cd_X2_findEdge Q X 56 [(0, (2, v0)), (2, (0, v2)), (3, (0, v3)), (4, (0, v4)), (5, (2, v5)), (6, (2, v6)), (7, (2, v7))] [(0, t_1), (2, t)] ε μ := by
  refine G_run (m_in [12, 56, 99]) 5 _ _ _ _ ?_
  show m_ty [(0, (2, v0)), (2, (0, v2)), (3, (0, v3)), (4, (0, v4)), (5, (2, v5)), (6, (2, v6)), (7, (2, v7))] [(0, t_1), (2, t)] ε μ → (kd ε v7 = 101) ∧ ((0 : Int) ≤ v3 ∧ v3 < ln ε v7) ∧ (kd ε v5 = 101) ∧ ((0 : Int) ≤ v4 ∧ v4 < ln ε v5) ∧ (kd ε v5 = 101) ∧ ((0 : Int) ≤ v3 ∧ v3 < ln ε v5) ∧ (kd ε v7 = 101) ∧ ((0 : Int) ≤ v4 ∧ v4 < ln ε v7) ∧ (kd ε t = 101) ∧ ((0 : Int) ≤ t_1 ∧ t_1 < ln ε t) ∧ ∀ μ_1 : m_M, μ_1 = st μ t t_1 (w64 ((w64 ((μ v7 v3) * (μ v5 v4))) - (w64 ((μ v5 v3) * (μ v7 v4))))) → (kd ε v0 = 2) ∧ (kd ε v5 = 101) ∧ ((0 : Int) ≤ v3 ∧ v3 < ln ε v5) ∧ (kd ε v6 = 101) ∧ ((0 : Int) ≤ v4 ∧ v4 < ln ε v6) ∧ G cd_X2_findEdge Q X 99 [(3, (0, v3)), (4, (0, v4)), (5, (2, v5))] [(2, v6), (1, w64 ((μ_1 v5 v3) * (μ_1 v6 v4))), (0, w32 ((w32 (3 * v2)) + 2)), (2, fn ε v0 1)] ε μ_1
  intro hty
  replace h := h hty.1 (hty.2.1 _ (List.mem_of_getElem? (i := 1) rfl)) (hty.2.1 _ (List.mem_of_getElem? (i := 2) rfl)) (hty.2.1 _ (List.mem_of_getElem? (i := 3) rfl)) (hty.2.2 _ (List.mem_of_getElem? (i := 0) rfl))
  obtain ⟨k1, h⟩ := h
  refine And.intro k1 ?_
  obtain ⟨k2, h⟩ := h
  obtain ⟨k3, h⟩ := h
  refine And.intro (And.intro k2 k3) ?_
  obtain ⟨k4, h⟩ := h
  refine And.intro k4 ?_
  obtain ⟨k5, h⟩ := h
  obtain ⟨k6, h⟩ := h
  refine And.intro (And.intro k5 k6) ?_
  refine And.intro k4 ?_
  obtain ⟨k7, h⟩ := h
  refine And.intro (And.intro k2 k7) ?_
  refine And.intro k1 ?_
  obtain ⟨k8, h⟩ := h
  refine And.intro (And.intro k5 k8) ?_
  obtain ⟨k9, h⟩ := h
  refine And.intro k9 ?_
  obtain ⟨k10, h⟩ := h
  obtain ⟨k11, h⟩ := h
  refine And.intro (And.intro k10 k11) ?_
  intro μ_1 e_μ_1
  replace h := h μ_1 e_μ_1
  obtain ⟨k12, h⟩ := h
  refine And.intro k12 ?_
  refine And.intro k4 ?_
  refine And.intro (And.intro k2 k7) ?_
  obtain ⟨k13, h⟩ := h
  refine And.intro k13 ?_
  obtain ⟨k14, h⟩ := h
  refine And.intro (And.intro k5 k14) ?_
  exact g_X2_findEdge_99 (fun _ _ _ _ _ => h)
set_option maxRecDepth 20000 in
theorem g_X2_findEdge_12 {Q X : m_Po} {v0 v1 v2 v3 v4 v5 v6 : Int} {ε : m_E} {μ : m_M} (h : TY ε μ → i32 v2 → i32 v3 → i32 v4 → kd ε v1 = 1 ∧ ∀ v7 : Int, v7 = fn ε v1 2 → kd ε v0 = 2 ∧ kd ε v6 = 101 ∧ (0 : Int) ≤ v3 ∧ v3 < ln ε v6 ∧ kd ε v7 = 101 ∧ (0 : Int) ≤ v4 ∧ v4 < ln ε v7 ∧ v3 < ln ε v7 ∧ v4 < ln ε v6 ∧ kd ε (fn ε v0 1) = 101 ∧ (0 : Int) ≤ w32 (3 * v2) ∧ w32 (3 * v2) < ln ε (fn ε v0 1) ∧ ∀ μ_1 : m_M, μ_1 = st μ (fn ε v0 1) (w32 (3 * v2)) (w64 ((w64 ((μ v6 v3) * (μ v7 v4))) - (w64 ((μ v7 v3) * (μ v6 v4))))) → kd ε v7 = 101 ∧ (0 : Int) ≤ v3 ∧ v3 < ln ε v7 ∧ kd ε v5 = 101 ∧ (0 : Int) ≤ v4 ∧ v4 < ln ε v5 ∧ v3 < ln ε v5 ∧ v4 < ln ε v7 ∧ kd ε (fn ε v0 1) = 101 ∧ (0 : Int) ≤ (w32 ((w32 (3 * v2)) + 1)) ∧ (w32 ((w32 (3 * v2)) + 1)) < ln ε (fn ε v0 1) ∧ ∀ μ_2 : m_M, μ_2 = st μ_1 (fn ε v0 1) (w32 ((w32 (3 * v2)) + 1)) (w64 ((w64 ((μ_1 v7 v3) * (μ_1 v5 v4))) - (w64 ((μ_1 v5 v3) * (μ_1 v7 v4))))) → kd ε v0 = 2 ∧ kd ε v6 = 101 ∧ v4 < ln ε v6 ∧ kd ε v6 = 101 ∧ (0 : Int) ≤ v3 ∧ v3 < ln ε v6 ∧ kd ε v5 = 101 ∧ (0 : Int) ≤ v4 ∧ v4 < ln ε v5 ∧ kd ε (fn ε v0 1) = 101 ∧ (0 : Int) ≤ (w32 ((w32 (3 * v2)) + 2)) ∧ (w32 ((w32 (3 * v2)) + 2)) < ln ε (fn ε v0 1) ∧ ∀ μ_3 : m_M, μ_3 = st μ_2 (fn ε v0 1) (w32 ((w32 (3 * v2)) + 2)) (w64 ((w64 ((μ_2 v5 v3) * (μ_2 v6 v4))) - (w64 ((μ_2 v6 v3) * (μ_2 v5 v4))))) → Q 0 ε μ_3) : G cd_X2_findEdge Q X 12 [(0, (2, v0)), (1, (2, v1)), (2, (0, v2)), (3, (0, v3)), (4, (0, v4)), (5, (2, v5)), (6, (2, v6))] [] ε μ := by
  refine G_run (m_in [12, 56, 99]) 5 _ _ _ _ ?_
  show m_ty [(0, (2, v0)), (1, (2, v1)), (2, (0, v2)), (3, (0, v3)), (4, (0, v4)), (5, (2, v5)), (6, (2, v6))] [] ε μ → (kd ε v1 = 1) ∧ ∀ v7 : Int, v7 = fn ε v1 2 → (kd ε v0 = 2) ∧ (kd ε v6 = 101) ∧ ((0 : Int) ≤ v3 ∧ v3 < ln ε v6) ∧ (kd ε v7 = 101) ∧ ((0 : Int) ≤ v4 ∧ v4 < ln ε v7) ∧ (kd ε v7 = 101) ∧ ((0 : Int) ≤ v3 ∧ v3 < ln ε v7) ∧ (kd ε v6 = 101) ∧ ((0 : Int) ≤ v4 ∧ v4 < ln ε v6) ∧ (kd ε (fn ε v0 1) = 101) ∧ ((0 : Int) ≤ w32 (3 * v2) ∧ w32 (3 * v2) < ln ε (fn ε v0 1)) ∧ ∀ μ_1 : m_M, μ_1 = st μ (fn ε v0 1) (w32 (3 * v2)) (w64 ((w64 ((μ v6 v3) * (μ v7 v4))) - (w64 ((μ v7 v3) * (μ v6 v4))))) → (kd ε v0 = 2) ∧ G cd_X2_findEdge Q X 56 [(0, (2, v0)), (2, (0, v2)), (3, (0, v3)), (4, (0, v4)), (5, (2, v5)), (6, (2, v6)), (7, (2, v7))] [(0, w32 ((w32 (3 * v2)) + 1)), (2, fn ε v0 1)] ε μ_1
  intro hty
  replace h := h hty.1 (hty.2.1 _ (List.mem_of_getElem? (i := 2) rfl)) (hty.2.1 _ (List.mem_of_getElem? (i := 3) rfl)) (hty.2.1 _ (List.mem_of_getElem? (i := 4) rfl))
  obtain ⟨k1, h⟩ := h
  refine And.intro k1 ?_
  intro v7 e_v7
  replace h := h v7 e_v7
  obtain ⟨k2, h⟩ := h
  refine And.intro k2 ?_
  obtain ⟨k3, h⟩ := h
  refine And.intro k3 ?_
  obtain ⟨k4, h⟩ := h
  obtain ⟨k5, h⟩ := h
  refine And.intro (And.intro k4 k5) ?_
  obtain ⟨k6, h⟩ := h
  refine And.intro k6 ?_
  obtain ⟨k7, h⟩ := h
  obtain ⟨k8, h⟩ := h
  refine And.intro (And.intro k7 k8) ?_
  refine And.intro k6 ?_
  obtain ⟨k9, h⟩ := h
  refine And.intro (And.intro k4 k9) ?_
  refine And.intro k3 ?_
  obtain ⟨k10, h⟩ := h
  refine And.intro (And.intro k7 k10) ?_
  obtain ⟨k11, h⟩ := h
  refine And.intro k11 ?_
  obtain ⟨k12, h⟩ := h
  obtain ⟨k13, h⟩ := h
  refine And.intro (And.intro k12 k13) ?_
  intro μ_1 e_μ_1
  replace h := h μ_1 e_μ_1
  refine And.intro k2 ?_
  exact g_X2_findEdge_56 (fun _ _ _ _ _ => h)
set_option maxRecDepth 20000 in
theorem g_X2_findEdge_0 {Q X : m_Po} {v0 v1 v2 v3 v4 : Int} {ε : m_E} {μ : m_M} (h : TY ε μ → i32 v2 → i32 v3 → i32 v4 → kd ε v1 = 1 ∧ ∀ v5 : Int, v5 = fn ε v1 0 → ∀ v6 : Int, v6 = fn ε v1 1 → kd ε v1 = 1 ∧ ∀ v7 : Int, v7 = fn ε v1 2 → kd ε v0 = 2 ∧ kd ε v6 = 101 ∧ (0 : Int) ≤ v3 ∧ v3 < ln ε v6 ∧ kd ε v7 = 101 ∧ (0 : Int) ≤ v4 ∧ v4 < ln ε v7 ∧ v3 < ln ε v7 ∧ v4 < ln ε v6 ∧ kd ε (fn ε v0 1) = 101 ∧ (0 : Int) ≤ w32 (3 * v2) ∧ w32 (3 * v2) < ln ε (fn ε v0 1) ∧ ∀ μ_1 : m_M, μ_1 = st μ (fn ε v0 1) (w32 (3 * v2)) (w64 ((w64 ((μ v6 v3) * (μ v7 v4))) - (w64 ((μ v7 v3) * (μ v6 v4))))) → kd ε v7 = 101 ∧ (0 : Int) ≤ v3 ∧ v3 < ln ε v7 ∧ kd ε v5 = 101 ∧ (0 : Int) ≤ v4 ∧ v4 < ln ε v5 ∧ v3 < ln ε v5 ∧ v4 < ln ε v7 ∧ kd ε (fn ε v0 1) = 101 ∧ (0 : Int) ≤ (w32 ((w32 (3 * v2)) + 1)) ∧ (w32 ((w32 (3 * v2)) + 1)) < ln ε (fn ε v0 1) ∧ ∀ μ_2 : m_M, μ_2 = st μ_1 (fn ε v0 1) (w32 ((w32 (3 * v2)) + 1)) (w64 ((w64 ((μ_1 v7 v3) * (μ_1 v5 v4))) - (w64 ((μ_1 v5 v3) * (μ_1 v7 v4))))) → kd ε v0 = 2 ∧ kd ε v6 = 101 ∧ v4 < ln ε v6 ∧ kd ε v6 = 101 ∧ (0 : Int) ≤ v3 ∧ v3 < ln ε v6 ∧ kd ε v5 = 101 ∧ (0 : Int) ≤ v4 ∧ v4 < ln ε v5 ∧ kd ε (fn ε v0 1) = 101 ∧ (0 : Int) ≤ (w32 ((w32 (3 * v2)) + 2)) ∧ (w32 ((w32 (3 * v2)) + 2)) < ln ε (fn ε v0 1) ∧ ∀ μ_3 : m_M, μ_3 = st μ_2 (fn ε v0 1) (w32 ((w32 (3 * v2)) + 2)) (w64 ((w64 ((μ_2 v5 v3) * (μ_2 v6 v4))) - (w64 ((μ_2 v6 v3) * (μ_2 v5 v4))))) → Q 0 ε μ_3) : G cd_X2_findEdge Q X 0 [(0, (2, v0)), (1, (2, v1)), (2, (0, v2)), (3, (0, v3)), (4, (0, v4))] [] ε μ := by
  refine G_run (m_in [12, 56, 99]) 5 _ _ _ _ ?_
  show m_ty [(0, (2, v0)), (1, (2, v1)), (2, (0, v2)), (3, (0, v3)), (4, (0, v4))] [] ε μ → (kd ε v1 = 1) ∧ ∀ v5 : Int, v5 = fn ε v1 0 → (kd ε v1 = 1) ∧ ∀ v6 : Int, v6 = fn ε v1 1 → G cd_X2_findEdge Q X 12 [(0, (2, v0)), (1, (2, v1)), (2, (0, v2)), (3, (0, v3)), (4, (0, v4)), (5, (2, v5)), (6, (2, v6))] [] ε μ
  intro hty
  replace h := h hty.1 (hty.2.1 _ (List.mem_of_getElem? (i := 2) rfl)) (hty.2.1 _ (List.mem_of_getElem? (i := 3) rfl)) (hty.2.1 _ (List.mem_of_getElem? (i := 4) rfl))
  obtain ⟨k1, h⟩ := h
  refine And.intro k1 ?_
  intro v5 e_v5
  replace h := h v5 e_v5
  refine And.intro k1 ?_
  intro v6 e_v6
  replace h := h v6 e_v6
  exact g_X2_findEdge_12 (fun _ _ _ _ => h)
theorem e_X2_findEdge {Q X : m_Po} {v0 v1 v2 v3 v4 : Int} {ε : m_E} {μ : m_M} (h : TY ε μ → i32 v2 → i32 v3 → i32 v4 → kd ε v1 = 1 ∧ ∀ v5 : Int, v5 = fn ε v1 0 → ∀ v6 : Int, v6 = fn ε v1 1 → kd ε v1 = 1 ∧ ∀ v7 : Int, v7 = fn ε v1 2 → kd ε v0 = 2 ∧ kd ε v6 = 101 ∧ (0 : Int) ≤ v3 ∧ v3 < ln ε v6 ∧ kd ε v7 = 101 ∧ (0 : Int) ≤ v4 ∧ v4 < ln ε v7 ∧ v3 < ln ε v7 ∧ v4 < ln ε v6 ∧ kd ε (fn ε v0 1) = 101 ∧ (0 : Int) ≤ w32 (3 * v2) ∧ w32 (3 * v2) < ln ε (fn ε v0 1) ∧ ∀ μ_1 : m_M, μ_1 = st μ (fn ε v0 1) (w32 (3 * v2)) (w64 ((w64 ((μ v6 v3) * (μ v7 v4))) - (w64 ((μ v7 v3) * (μ v6 v4))))) → kd ε v7 = 101 ∧ (0 : Int) ≤ v3 ∧ v3 < ln ε v7 ∧ kd ε v5 = 101 ∧ (0 : Int) ≤ v4 ∧ v4 < ln ε v5 ∧ v3 < ln ε v5 ∧ v4 < ln ε v7 ∧ kd ε (fn ε v0 1) = 101 ∧ (0 : Int) ≤ (w32 ((w32 (3 * v2)) + 1)) ∧ (w32 ((w32 (3 * v2)) + 1)) < ln ε (fn ε v0 1) ∧ ∀ μ_2 : m_M, μ_2 = st μ_1 (fn ε v0 1) (w32 ((w32 (3 * v2)) + 1)) (w64 ((w64 ((μ_1 v7 v3) * (μ_1 v5 v4))) - (w64 ((μ_1 v5 v3) * (μ_1 v7 v4))))) → kd ε v0 = 2 ∧ kd ε v6 = 101 ∧ v4 < ln ε v6 ∧ kd ε v6 = 101 ∧ (0 : Int) ≤ v3 ∧ v3 < ln ε v6 ∧ kd ε v5 = 101 ∧ (0 : Int) ≤ v4 ∧ v4 < ln ε v5 ∧ kd ε (fn ε v0 1) = 101 ∧ (0 : Int) ≤ (w32 ((w32 (3 * v2)) + 2)) ∧ (w32 ((w32 (3 * v2)) + 2)) < ln ε (fn ε v0 1) ∧ ∀ μ_3 : m_M, μ_3 = st μ_2 (fn ε v0 1) (w32 ((w32 (3 * v2)) + 2)) (w64 ((w64 ((μ_2 v5 v3) * (μ_2 v6 v4))) - (w64 ((μ_2 v6 v3) * (μ_2 v5 v4))))) → Q 0 ε μ_3) : o_X2_findEdge [(2, v0), (2, v1), (0, v2), (0, v3), (0, v4)] ε μ Q X := And.intro rfl (g_X2_findEdge_0 h)
/-! ArchYard$Corner.findEdges(LArchYard$Bounds;)V -/
set_option maxRecDepth 20000 in
theorem g_X2_findEdges_126 {Q X : m_Po} {v0 v3 : Int} {ε : m_E} {μ : m_M} (h : TY ε μ → i32 v3 → ((9 : Int) ≤ v3 → Q 0 ε μ) ∧ (v3 < (9 : Int) → kd ε v0 = 2 ∧ kd ε (fn ε v0 1) = 101 ∧ (0 : Int) ≤ v3 ∧ v3 < ln ε (fn ε v0 1) ∧ ∀ μ_1 : m_M, μ_1 = st μ (fn ε v0 1) v3 (w64 (-(μ (fn ε v0 1) v3))) → ∀ v3_1 : Int, v3_1 = w32 (v3 + 1) → G cd_X2_findEdges Q X 126 [(0, (2, v0)), (3, (0, v3_1))] [] ε μ_1)) : G cd_X2_findEdges Q X 126 [(0, (2, v0)), (3, (0, v3))] [] ε μ := by
  refine G_run (m_in [18, 36, 54, 96, 126]) 10 _ _ _ _ ?_
  show m_ty [(0, (2, v0)), (3, (0, v3))] [] ε μ → ((9 : Int) ≤ v3 → (m_ty [] [] ε μ → Q 0 ε μ)) ∧ (v3 < (9 : Int) → (m_ty [(0, (2, v0)), (3, (0, v3))] [] ε μ → (kd ε v0 = 2) ∧ (kd ε v0 = 2) ∧ (kd ε (fn ε v0 1) = 101) ∧ ((0 : Int) ≤ v3 ∧ v3 < ln ε (fn ε v0 1)) ∧ (kd ε (fn ε v0 1) = 101) ∧ ((0 : Int) ≤ v3 ∧ v3 < ln ε (fn ε v0 1)) ∧ ∀ μ_1 : m_M, μ_1 = st μ (fn ε v0 1) v3 (w64 (-(μ (fn ε v0 1) v3))) → ∀ v3_1 : Int, v3_1 = w32 (v3 + 1) → G cd_X2_findEdges Q X 126 [(0, (2, v0)), (3, (0, v3_1))] [] ε μ_1))
  intro hty
  replace h := h hty.1 (hty.2.1 _ (List.mem_of_getElem? (i := 1) rfl))
  obtain ⟨ha, hb⟩ := h
  refine And.intro (fun c4 => ?_) (fun c4 => ?_)
  · replace h := ha c4
    clear ha hb
    intro _
    exact h
  · replace h := hb c4
    clear ha hb
    intro _
    obtain ⟨k1, h⟩ := h
    refine And.intro k1 ?_
    refine And.intro k1 ?_
    obtain ⟨k2, h⟩ := h
    refine And.intro k2 ?_
    obtain ⟨k3, h⟩ := h
    obtain ⟨k4, h⟩ := h
    refine And.intro (And.intro k3 k4) ?_
    refine And.intro k2 ?_
    refine And.intro (And.intro k3 k4) ?_
    intro μ_1 e_μ_1
    replace h := h μ_1 e_μ_1
    intro v3_1 e_v3_1
    replace h := h v3_1 e_v3_1
    exact h
set_option maxRecDepth 20000 in
theorem g_X2_findEdges_96 {Q X : m_Po} {v0 t t_1 t_2 t_3 : Int} {ε : m_E} {μ : m_M} (h : TY ε μ → i64 t_1 → i64 t_2 → kd ε t_3 = 2 ∧ kd ε (fn ε t_3 1) = 101 ∧ 2 < ln ε (fn ε t_3 1) ∧ kd ε t = 2 ∧ ∀ μ_1 : m_M, μ_1 = st μ t 4 (w64 (t_1 + (w64 (t_2 * (μ (fn ε t_3 1) 2))))) → kd ε v0 = 2 ∧ ((0 : Int) ≤ (μ_1 v0 4) → Q 0 ε μ_1) ∧ ((μ_1 v0 4) < (0 : Int) → ∀ μ_2 : m_M, μ_2 = st μ_1 v0 4 (w64 (-(μ_1 v0 4))) → ∀ v3 : Int, v3 = 0 → G cd_X2_findEdges Q X 126 [(0, (2, v0)), (3, (0, v3))] [] ε μ_2)) : G cd_X2_findEdges Q X 96 [(0, (2, v0))] [(2, t_3), (1, t_2), (1, t_1), (2, t)] ε μ := by
  refine G_run (m_in [18, 36, 54, 96, 126]) 10 _ _ _ _ ?_
  show m_ty [(0, (2, v0))] [(2, t_3), (1, t_2), (1, t_1), (2, t)] ε μ → (kd ε t_3 = 2) ∧ (kd ε (fn ε t_3 1) = 101) ∧ ((0 : Int) ≤ 2 ∧ 2 < ln ε (fn ε t_3 1)) ∧ (kd ε t = 2) ∧ ∀ μ_1 : m_M, μ_1 = st μ t 4 (w64 (t_1 + (w64 (t_2 * (μ (fn ε t_3 1) 2))))) → (kd ε v0 = 2) ∧ ((0 : Int) ≤ (μ_1 v0 4) → (m_ty [] [] ε μ_1 → Q 0 ε μ_1)) ∧ ((μ_1 v0 4) < (0 : Int) → (m_ty [(0, (2, v0))] [] ε μ_1 → (kd ε v0 = 2) ∧ (kd ε v0 = 2) ∧ ∀ μ_2 : m_M, μ_2 = st μ_1 v0 4 (w64 (-(μ_1 v0 4))) → ∀ v3 : Int, v3 = 0 → G cd_X2_findEdges Q X 126 [(0, (2, v0)), (3, (0, v3))] [] ε μ_2))
  intro hty
  replace h := h hty.1 (hty.2.2 _ (List.mem_of_getElem? (i := 2) rfl)) (hty.2.2 _ (List.mem_of_getElem? (i := 1) rfl))
  obtain ⟨k1, h⟩ := h
  refine And.intro k1 ?_
  obtain ⟨k2, h⟩ := h
  refine And.intro k2 ?_
  obtain ⟨k3, h⟩ := h
  refine And.intro (And.intro (by decide) k3) ?_
  obtain ⟨k4, h⟩ := h
  refine And.intro k4 ?_
  intro μ_1 e_μ_1
  replace h := h μ_1 e_μ_1
  obtain ⟨k5, h⟩ := h
  refine And.intro k5 ?_
  obtain ⟨ha, hb⟩ := h
  refine And.intro (fun c5 => ?_) (fun c5 => ?_)
  · replace h := ha c5
    clear ha hb
    intro _
    exact h
  · replace h := hb c5
    clear ha hb
    intro _
    refine And.intro k5 ?_
    refine And.intro k5 ?_
    intro μ_2 e_μ_2
    replace h := h μ_2 e_μ_2
    intro v3 e_v3
    replace h := h v3 e_v3
    exact h
set_option maxRecDepth 20000 in
theorem g_X2_findEdges_54 {Q X : m_Po} {v0 v1 : Int} {ε : m_E} {μ : m_M} (h : TY ε μ → kd ε v0 = 2 ∧ kd ε (fn ε v0 0) = 100 ∧ 0 < ln ε (fn ε v0 0) ∧ ∀ v2 : Int, v2 = μ (fn ε v0 0) 0 → kd ε v1 = 1 ∧ kd ε (fn ε v1 0) = 101 ∧ (0 : Int) ≤ v2 ∧ v2 < ln ε (fn ε v1 0) ∧ kd ε (fn ε v0 1) = 101 ∧ 0 < ln ε (fn ε v0 1) ∧ kd ε (fn ε v1 1) = 101 ∧ v2 < ln ε (fn ε v1 1) ∧ 1 < ln ε (fn ε v0 1) ∧ kd ε (fn ε v1 2) = 101 ∧ v2 < ln ε (fn ε v1 2) ∧ kd ε v0 = 2 ∧ kd ε (fn ε v0 1) = 101 ∧ 2 < ln ε (fn ε v0 1) ∧ kd ε v0 = 2 ∧ ∀ μ_1 : m_M, μ_1 = st μ v0 4 (w64 ((w64 ((w64 ((μ (fn ε v1 0) v2) * (μ (fn ε v0 1) 0))) + (w64 ((μ (fn ε v1 1) v2) * (μ (fn ε v0 1) 1))))) + (w64 ((μ (fn ε v1 2) v2) * (μ (fn ε v0 1) 2))))) → kd ε v0 = 2 ∧ ((0 : Int) ≤ (μ_1 v0 4) → Q 0 ε μ_1) ∧ ((μ_1 v0 4) < (0 : Int) → ∀ μ_2 : m_M, μ_2 = st μ_1 v0 4 (w64 (-(μ_1 v0 4))) → ∀ v3 : Int, v3 = 0 → G cd_X2_findEdges Q X 126 [(0, (2, v0)), (3, (0, v3))] [] ε μ_2)) : G cd_X2_findEdges Q X 54 [(0, (2, v0)), (1, (2, v1))] [] ε μ := by
  refine G_run (m_in [18, 36, 54, 96, 126]) 10 _ _ _ _ ?_
  show m_ty [(0, (2, v0)), (1, (2, v1))] [] ε μ → (kd ε v0 = 2) ∧ (kd ε (fn ε v0 0) = 100) ∧ ((0 : Int) ≤ 0 ∧ 0 < ln ε (fn ε v0 0)) ∧ ∀ v2 : Int, v2 = μ (fn ε v0 0) 0 → (kd ε v1 = 1) ∧ (kd ε (fn ε v1 0) = 101) ∧ ((0 : Int) ≤ v2 ∧ v2 < ln ε (fn ε v1 0)) ∧ (kd ε v0 = 2) ∧ (kd ε (fn ε v0 1) = 101) ∧ ((0 : Int) ≤ 0 ∧ 0 < ln ε (fn ε v0 1)) ∧ (kd ε v1 = 1) ∧ (kd ε (fn ε v1 1) = 101) ∧ ((0 : Int) ≤ v2 ∧ v2 < ln ε (fn ε v1 1)) ∧ (kd ε v0 = 2) ∧ (kd ε (fn ε v0 1) = 101) ∧ ((0 : Int) ≤ 1 ∧ 1 < ln ε (fn ε v0 1)) ∧ (kd ε v1 = 1) ∧ (kd ε (fn ε v1 2) = 101) ∧ ((0 : Int) ≤ v2 ∧ v2 < ln ε (fn ε v1 2)) ∧ G cd_X2_findEdges Q X 96 [(0, (2, v0))] [(2, v0), (1, μ (fn ε v1 2) v2), (1, w64 ((w64 ((μ (fn ε v1 0) v2) * (μ (fn ε v0 1) 0))) + (w64 ((μ (fn ε v1 1) v2) * (μ (fn ε v0 1) 1))))), (2, v0)] ε μ
  intro hty
  replace h := h hty.1 
  obtain ⟨k1, h⟩ := h
  refine And.intro k1 ?_
  obtain ⟨k2, h⟩ := h
  refine And.intro k2 ?_
  obtain ⟨k3, h⟩ := h
  refine And.intro (And.intro (by decide) k3) ?_
  intro v2 e_v2
  replace h := h v2 e_v2
  obtain ⟨k4, h⟩ := h
  refine And.intro k4 ?_
  obtain ⟨k5, h⟩ := h
  refine And.intro k5 ?_
  obtain ⟨k6, h⟩ := h
  obtain ⟨k7, h⟩ := h
  refine And.intro (And.intro k6 k7) ?_
  refine And.intro k1 ?_
  obtain ⟨k8, h⟩ := h
  refine And.intro k8 ?_
  obtain ⟨k9, h⟩ := h
  refine And.intro (And.intro (by decide) k9) ?_
  refine And.intro k4 ?_
  obtain ⟨k10, h⟩ := h
  refine And.intro k10 ?_
  obtain ⟨k11, h⟩ := h
  refine And.intro (And.intro k6 k11) ?_
  refine And.intro k1 ?_
  refine And.intro k8 ?_
  obtain ⟨k12, h⟩ := h
  refine And.intro (And.intro (by decide) k12) ?_
  refine And.intro k4 ?_
  obtain ⟨k13, h⟩ := h
  refine And.intro k13 ?_
  obtain ⟨k14, h⟩ := h
  refine And.intro (And.intro k6 k14) ?_
  exact g_X2_findEdges_96 (fun _ _ _ => h)
set_option maxRecDepth 20000 in
theorem g_X2_findEdges_36 {Q X : m_Po} {v0 v1 : Int} {ε : m_E} {μ : m_M} (h : TY ε μ → kd ε v0 = 2 ∧ kd ε (fn ε v0 0) = 100 ∧ 0 < ln ε (fn ε v0 0) ∧ 1 < ln ε (fn ε v0 0) ∧ o_X2_findEdge [(2, v0), (2, v1), (0, 2), (0, μ (fn ε v0 0) 0), (0, μ (fn ε v0 0) 1)] ε μ (fun z ε_1 μ_1 => G cd_X2_findEdges Q X 54 [(0, (2, v0)), (1, (2, v1))] [] ε_1 μ_1) m_F) : G cd_X2_findEdges Q X 36 [(0, (2, v0)), (1, (2, v1))] [] ε μ := by
  refine G_run (m_in [18, 36, 54, 96, 126]) 10 _ _ _ _ ?_
  show m_ty [(0, (2, v0)), (1, (2, v1))] [] ε μ → (kd ε v0 = 2) ∧ (kd ε (fn ε v0 0) = 100) ∧ ((0 : Int) ≤ 0 ∧ 0 < ln ε (fn ε v0 0)) ∧ (kd ε v0 = 2) ∧ (kd ε (fn ε v0 0) = 100) ∧ ((0 : Int) ≤ 1 ∧ 1 < ln ε (fn ε v0 0)) ∧ (kd ε v0 = 2) ∧ o_X2_findEdge [(2, v0), (2, v1), (0, 2), (0, μ (fn ε v0 0) 0), (0, μ (fn ε v0 0) 1)] ε μ (fun z ε_1 μ_1 => G cd_X2_findEdges Q X 54 [(0, (2, v0)), (1, (2, v1))] [] ε_1 μ_1) m_F
  intro hty
  replace h := h hty.1 
  obtain ⟨k1, h⟩ := h
  refine And.intro k1 ?_
  obtain ⟨k2, h⟩ := h
  refine And.intro k2 ?_
  obtain ⟨k3, h⟩ := h
  refine And.intro (And.intro (by decide) k3) ?_
  refine And.intro k1 ?_
  refine And.intro k2 ?_
  obtain ⟨k4, h⟩ := h
  refine And.intro (And.intro (by decide) k4) ?_
  refine And.intro k1 ?_
  exact h
set_option maxRecDepth 20000 in
theorem g_X2_findEdges_18 {Q X : m_Po} {v0 v1 : Int} {ε : m_E} {μ : m_M} (h : TY ε μ → kd ε v0 = 2 ∧ kd ε (fn ε v0 0) = 100 ∧ 2 < ln ε (fn ε v0 0) ∧ 0 < ln ε (fn ε v0 0) ∧ o_X2_findEdge [(2, v0), (2, v1), (0, 1), (0, μ (fn ε v0 0) 2), (0, μ (fn ε v0 0) 0)] ε μ (fun z ε_1 μ_1 => G cd_X2_findEdges Q X 36 [(0, (2, v0)), (1, (2, v1))] [] ε_1 μ_1) m_F) : G cd_X2_findEdges Q X 18 [(0, (2, v0)), (1, (2, v1))] [] ε μ := by
  refine G_run (m_in [18, 36, 54, 96, 126]) 10 _ _ _ _ ?_
  show m_ty [(0, (2, v0)), (1, (2, v1))] [] ε μ → (kd ε v0 = 2) ∧ (kd ε (fn ε v0 0) = 100) ∧ ((0 : Int) ≤ 2 ∧ 2 < ln ε (fn ε v0 0)) ∧ (kd ε v0 = 2) ∧ (kd ε (fn ε v0 0) = 100) ∧ ((0 : Int) ≤ 0 ∧ 0 < ln ε (fn ε v0 0)) ∧ (kd ε v0 = 2) ∧ o_X2_findEdge [(2, v0), (2, v1), (0, 1), (0, μ (fn ε v0 0) 2), (0, μ (fn ε v0 0) 0)] ε μ (fun z ε_1 μ_1 => G cd_X2_findEdges Q X 36 [(0, (2, v0)), (1, (2, v1))] [] ε_1 μ_1) m_F
  intro hty
  replace h := h hty.1 
  obtain ⟨k1, h⟩ := h
  refine And.intro k1 ?_
  obtain ⟨k2, h⟩ := h
  refine And.intro k2 ?_
  obtain ⟨k3, h⟩ := h
  refine And.intro (And.intro (by decide) k3) ?_
  refine And.intro k1 ?_
  refine And.intro k2 ?_
  obtain ⟨k4, h⟩ := h
  refine And.intro (And.intro (by decide) k4) ?_
  refine And.intro k1 ?_
  exact h
set_option maxRecDepth 20000 in
theorem g_X2_findEdges_0 {Q X : m_Po} {v0 v1 : Int} {ε : m_E} {μ : m_M} (h : TY ε μ → kd ε v0 = 2 ∧ kd ε (fn ε v0 0) = 100 ∧ 1 < ln ε (fn ε v0 0) ∧ 2 < ln ε (fn ε v0 0) ∧ o_X2_findEdge [(2, v0), (2, v1), (0, 0), (0, μ (fn ε v0 0) 1), (0, μ (fn ε v0 0) 2)] ε μ (fun z ε_1 μ_1 => G cd_X2_findEdges Q X 18 [(0, (2, v0)), (1, (2, v1))] [] ε_1 μ_1) m_F) : G cd_X2_findEdges Q X 0 [(0, (2, v0)), (1, (2, v1))] [] ε μ := by
  refine G_run (m_in [18, 36, 54, 96, 126]) 10 _ _ _ _ ?_
  show m_ty [(0, (2, v0)), (1, (2, v1))] [] ε μ → (kd ε v0 = 2) ∧ (kd ε (fn ε v0 0) = 100) ∧ ((0 : Int) ≤ 1 ∧ 1 < ln ε (fn ε v0 0)) ∧ (kd ε v0 = 2) ∧ (kd ε (fn ε v0 0) = 100) ∧ ((0 : Int) ≤ 2 ∧ 2 < ln ε (fn ε v0 0)) ∧ (kd ε v0 = 2) ∧ o_X2_findEdge [(2, v0), (2, v1), (0, 0), (0, μ (fn ε v0 0) 1), (0, μ (fn ε v0 0) 2)] ε μ (fun z ε_1 μ_1 => G cd_X2_findEdges Q X 18 [(0, (2, v0)), (1, (2, v1))] [] ε_1 μ_1) m_F
  intro hty
  replace h := h hty.1 
  obtain ⟨k1, h⟩ := h
  refine And.intro k1 ?_
  obtain ⟨k2, h⟩ := h
  refine And.intro k2 ?_
  obtain ⟨k3, h⟩ := h
  refine And.intro (And.intro (by decide) k3) ?_
  refine And.intro k1 ?_
  refine And.intro k2 ?_
  obtain ⟨k4, h⟩ := h
  refine And.intro (And.intro (by decide) k4) ?_
  refine And.intro k1 ?_
  exact h
theorem e_X2_findEdges {Q X : m_Po} {v0 v1 : Int} {ε : m_E} {μ : m_M} (h : TY ε μ → kd ε v0 = 2 ∧ kd ε (fn ε v0 0) = 100 ∧ 1 < ln ε (fn ε v0 0) ∧ 2 < ln ε (fn ε v0 0) ∧ o_X2_findEdge [(2, v0), (2, v1), (0, 0), (0, μ (fn ε v0 0) 1), (0, μ (fn ε v0 0) 2)] ε μ (fun z ε_1 μ_1 => G cd_X2_findEdges Q X 18 [(0, (2, v0)), (1, (2, v1))] [] ε_1 μ_1) m_F) : o_X2_findEdges [(2, v0), (2, v1)] ε μ Q X := And.intro rfl (g_X2_findEdges_0 h)
/-! ArchYard$Wide.clear()V -/
set_option maxRecDepth 20000 in
theorem g_X9_clear_0 {Q X : m_Po} {v0 : Int} {ε : m_E} {μ : m_M} (h : TY ε μ → kd ε v0 = 8 ∧ ∀ μ_1 : m_M, μ_1 = st μ v0 0 0 → ∀ μ_2 : m_M, μ_2 = st μ_1 v0 1 0 → Q 0 ε μ_2) : G cd_X9_clear Q X 0 [(0, (2, v0))] [] ε μ := by
  refine G_run (m_in []) 2 _ _ _ _ ?_
  show m_ty [(0, (2, v0))] [] ε μ → (kd ε v0 = 8) ∧ ∀ μ_1 : m_M, μ_1 = st μ v0 0 0 → (kd ε v0 = 8) ∧ ∀ μ_2 : m_M, μ_2 = st μ_1 v0 1 0 → Q 0 ε μ_2
  intro hty
  replace h := h hty.1 
  obtain ⟨k1, h⟩ := h
  refine And.intro k1 ?_
  intro μ_1 e_μ_1
  replace h := h μ_1 e_μ_1
  refine And.intro k1 ?_
  intro μ_2 e_μ_2
  replace h := h μ_2 e_μ_2
  exact h
theorem e_X9_clear {Q X : m_Po} {v0 : Int} {ε : m_E} {μ : m_M} (h : TY ε μ → kd ε v0 = 8 ∧ ∀ μ_1 : m_M, μ_1 = st μ v0 0 0 → ∀ μ_2 : m_M, μ_2 = st μ_1 v0 1 0 → Q 0 ε μ_2) : o_X9_clear [(2, v0)] ε μ Q X := And.intro rfl (g_X9_clear_0 h)
/-! ArchYard$Wide.addProduct(JJ)V -/
set_option maxRecDepth 20000 in
theorem g_X9_addProduct_138 {Q X : m_Po} {t t_1 t_2 : Int} {ε : m_E} {μ : m_M} (h : TY ε μ → i64 t_1 → i64 t_2 → kd ε t = 8 ∧ ∀ μ_1 : m_M, μ_1 = st μ t 0 (w64 (t_1 + t_2)) → Q 0 ε μ_1) : G cd_X9_addProduct Q X 138 [] [(1, t_2), (1, t_1), (2, t)] ε μ := by
  refine G_run (m_in [13, 26, 56, 108, 121, 138]) 12 _ _ _ _ ?_
  show m_ty [] [(1, t_2), (1, t_1), (2, t)] ε μ → (kd ε t = 8) ∧ ∀ μ_1 : m_M, μ_1 = st μ t 0 (w64 (t_1 + t_2)) → Q 0 ε μ_1
  intro hty
  replace h := h hty.1 (hty.2.2 _ (List.mem_of_getElem? (i := 1) rfl)) (hty.2.2 _ (List.mem_of_getElem? (i := 0) rfl))
  obtain ⟨k1, h⟩ := h
  refine And.intro k1 ?_
  intro μ_1 e_μ_1
  replace h := h μ_1 e_μ_1
  exact h
set_option maxRecDepth 20000 in
theorem g_X9_addProduct_121 {Q X : m_Po} {v0 t : Int} {ε : m_E} {μ : m_M} (h : TY ε μ → i32 t → ∀ v19 : Int, v19 = t → kd ε v0 = 8 ∧ ∀ t_1 : Int, t_1 = (if v19 = 0 then 0 else 1) → kd ε v0 = 8 ∧ ∀ μ_1 : m_M, μ_1 = st μ v0 0 (w64 ((μ v0 0) + t_1)) → Q 0 ε μ_1) : G cd_X9_addProduct Q X 121 [(0, (2, v0))] [(0, t)] ε μ := by
  refine G_run (m_in [13, 26, 56, 108, 121, 138]) 12 _ _ _ _ ?_
  show m_ty [(0, (2, v0))] [(0, t)] ε μ → ∀ v19 : Int, v19 = t → (kd ε v0 = 8) ∧ (v19 = 0 → (m_ty [] [(1, μ v0 0), (2, v0)] ε μ → G cd_X9_addProduct Q X 138 [] [(1, 0), (1, μ v0 0), (2, v0)] ε μ)) ∧ (v19 ≠ 0 → (m_ty [] [(1, μ v0 0), (2, v0)] ε μ → G cd_X9_addProduct Q X 138 [] [(1, 1), (1, μ v0 0), (2, v0)] ε μ))
  intro hty
  replace h := h hty.1 (hty.2.2 _ (List.mem_of_getElem? (i := 0) rfl))
  intro v19 e_v19
  replace h := h v19 e_v19
  obtain ⟨k1, h⟩ := h
  refine And.intro k1 ?_
  have hj := h
  refine And.intro (fun c1 => ?_) (fun c1 => ?_)
  · intro _
    exact g_X9_addProduct_138 (fun _ _ _ => (hj _ (((if_pos c1).trans rfl)).symm))
  · intro _
    exact g_X9_addProduct_138 (fun _ _ _ => (hj _ (((if_neg (c1)).trans rfl)).symm))
set_option maxRecDepth 20000 in
theorem g_X9_addProduct_108 {Q X : m_Po} {v0 t t_1 : Int} {ε : m_E} {μ : m_M} (h : TY ε μ → i64 t → i64 t_1 → ∀ t_2 : Int, t_2 = (if (o_xor64 t_1 (-9223372036854775808)) ≤ t then 0 else 1) → ∀ v19 : Int, v19 = t_2 → kd ε v0 = 8 ∧ ∀ t_3 : Int, t_3 = (if v19 = 0 then 0 else 1) → kd ε v0 = 8 ∧ ∀ μ_1 : m_M, μ_1 = st μ v0 0 (w64 ((μ v0 0) + t_3)) → Q 0 ε μ_1) : G cd_X9_addProduct Q X 108 [(0, (2, v0))] [(1, t_1), (1, t)] ε μ := by
  refine G_run (m_in [13, 26, 56, 108, 121, 138]) 12 _ _ _ _ ?_
  show m_ty [(0, (2, v0))] [(1, t_1), (1, t)] ε μ → ((o_xor64 t_1 (-9223372036854775808)) ≤ t → (m_ty [(0, (2, v0))] [] ε μ → G cd_X9_addProduct Q X 121 [(0, (2, v0))] [(0, 0)] ε μ)) ∧ (t < (o_xor64 t_1 (-9223372036854775808)) → (m_ty [(0, (2, v0))] [] ε μ → G cd_X9_addProduct Q X 121 [(0, (2, v0))] [(0, 1)] ε μ))
  intro hty
  replace h := h hty.1 (hty.2.2 _ (List.mem_of_getElem? (i := 1) rfl)) (hty.2.2 _ (List.mem_of_getElem? (i := 0) rfl))
  have hj := h
  refine And.intro (fun c0 => ?_) (fun c0 => ?_)
  · intro _
    exact g_X9_addProduct_121 (fun _ _ => (hj _ (((if_pos c0).trans rfl)).symm))
  · intro _
    exact g_X9_addProduct_121 (fun _ _ => (hj _ (((if_neg (Int.not_le.mpr c0)).trans rfl)).symm))
set_option maxRecDepth 20000 in
theorem g_X9_addProduct_56 {Q X : m_Po} {v0 v1 v3 v5 v9 v13 v15 : Int} {ε : m_E} {μ : m_M} (h : TY ε μ → i64 v1 → i64 v3 → i64 v5 → i64 v9 → i64 v13 → i64 v15 → kd ε v0 = 8 ∧ ∀ μ_1 : m_M, μ_1 = st μ v0 0 (w64 ((μ v0 0) + (w64 ((w64 ((w64 (v5 * v9)) + (o_shr64 v13 32))) + (o_shr64 v15 32))))) → ∀ v17 : Int, v17 = w64 (v1 * v3) → ∀ μ_2 : m_M, μ_2 = st μ_1 v0 1 (w64 ((μ_1 v0 1) + v17)) → ∀ t : Int, t = (if (o_xor64 v17 (-9223372036854775808)) ≤ (o_xor64 (μ_2 v0 1) (-9223372036854775808)) then 0 else 1) → ∀ v19 : Int, v19 = t → kd ε v0 = 8 ∧ ∀ t_1 : Int, t_1 = (if v19 = 0 then 0 else 1) → kd ε v0 = 8 ∧ ∀ μ_3 : m_M, μ_3 = st μ_2 v0 0 (w64 ((μ_2 v0 0) + t_1)) → Q 0 ε μ_3) : G cd_X9_addProduct Q X 56 [(0, (2, v0)), (1, (1, v1)), (3, (1, v3)), (5, (1, v5)), (9, (1, v9)), (13, (1, v13)), (15, (1, v15))] [] ε μ := by
  refine G_run (m_in [13, 26, 56, 108, 121, 138]) 12 _ _ _ _ ?_
  show m_ty [(0, (2, v0)), (1, (1, v1)), (3, (1, v3)), (5, (1, v5)), (9, (1, v9)), (13, (1, v13)), (15, (1, v15))] [] ε μ → (kd ε v0 = 8) ∧ (kd ε v0 = 8) ∧ ∀ μ_1 : m_M, μ_1 = st μ v0 0 (w64 ((μ v0 0) + (w64 ((w64 ((w64 (v5 * v9)) + (o_shr64 v13 32))) + (o_shr64 v15 32))))) → ∀ v17 : Int, v17 = w64 (v1 * v3) → (kd ε v0 = 8) ∧ (kd ε v0 = 8) ∧ ∀ μ_2 : m_M, μ_2 = st μ_1 v0 1 (w64 ((μ_1 v0 1) + v17)) → (kd ε v0 = 8) ∧ G cd_X9_addProduct Q X 108 [(0, (2, v0))] [(1, v17), (1, o_xor64 (μ_2 v0 1) (-9223372036854775808))] ε μ_2
  intro hty
  replace h := h hty.1 (hty.2.1 _ (List.mem_of_getElem? (i := 1) rfl)) (hty.2.1 _ (List.mem_of_getElem? (i := 2) rfl)) (hty.2.1 _ (List.mem_of_getElem? (i := 3) rfl)) (hty.2.1 _ (List.mem_of_getElem? (i := 4) rfl)) (hty.2.1 _ (List.mem_of_getElem? (i := 5) rfl)) (hty.2.1 _ (List.mem_of_getElem? (i := 6) rfl))
  obtain ⟨k1, h⟩ := h
  refine And.intro k1 ?_
  refine And.intro k1 ?_
  intro μ_1 e_μ_1
  replace h := h μ_1 e_μ_1
  intro v17 e_v17
  replace h := h v17 e_v17
  refine And.intro k1 ?_
  refine And.intro k1 ?_
  intro μ_2 e_μ_2
  replace h := h μ_2 e_μ_2
  refine And.intro k1 ?_
  exact g_X9_addProduct_108 (fun _ _ _ => h)
set_option maxRecDepth 20000 in
theorem g_X9_addProduct_26 {Q X : m_Po} {v0 v1 v3 v5 v7 v9 v11 : Int} {ε : m_E} {μ : m_M} (h : TY ε μ → i64 v1 → i64 v3 → i64 v5 → i64 v7 → i64 v9 → i64 v11 → ∀ v13 : Int, v13 = w64 ((w64 (v5 * v11)) + (o_ushr64 (w64 (v7 * v11)) 32)) → ∀ v15 : Int, v15 = w64 ((w64 (v7 * v9)) + (o_and64 v13 4294967295)) → kd ε v0 = 8 ∧ ∀ μ_1 : m_M, μ_1 = st μ v0 0 (w64 ((μ v0 0) + (w64 ((w64 ((w64 (v5 * v9)) + (o_shr64 v13 32))) + (o_shr64 v15 32))))) → ∀ v17 : Int, v17 = w64 (v1 * v3) → ∀ μ_2 : m_M, μ_2 = st μ_1 v0 1 (w64 ((μ_1 v0 1) + v17)) → ∀ t : Int, t = (if (o_xor64 v17 (-9223372036854775808)) ≤ (o_xor64 (μ_2 v0 1) (-9223372036854775808)) then 0 else 1) → ∀ v19 : Int, v19 = t → kd ε v0 = 8 ∧ ∀ t_1 : Int, t_1 = (if v19 = 0 then 0 else 1) → kd ε v0 = 8 ∧ ∀ μ_3 : m_M, μ_3 = st μ_2 v0 0 (w64 ((μ_2 v0 0) + t_1)) → Q 0 ε μ_3) : G cd_X9_addProduct Q X 26 [(0, (2, v0)), (1, (1, v1)), (3, (1, v3)), (5, (1, v5)), (7, (1, v7)), (9, (1, v9)), (11, (1, v11))] [] ε μ := by
  refine G_run (m_in [13, 26, 56, 108, 121, 138]) 12 _ _ _ _ ?_
  show m_ty [(0, (2, v0)), (1, (1, v1)), (3, (1, v3)), (5, (1, v5)), (7, (1, v7)), (9, (1, v9)), (11, (1, v11))] [] ε μ → ∀ v13 : Int, v13 = w64 ((w64 (v5 * v11)) + (o_ushr64 (w64 (v7 * v11)) 32)) → ∀ v15 : Int, v15 = w64 ((w64 (v7 * v9)) + (o_and64 v13 4294967295)) → G cd_X9_addProduct Q X 56 [(0, (2, v0)), (1, (1, v1)), (3, (1, v3)), (5, (1, v5)), (9, (1, v9)), (13, (1, v13)), (15, (1, v15))] [] ε μ
  intro hty
  replace h := h hty.1 (hty.2.1 _ (List.mem_of_getElem? (i := 1) rfl)) (hty.2.1 _ (List.mem_of_getElem? (i := 2) rfl)) (hty.2.1 _ (List.mem_of_getElem? (i := 3) rfl)) (hty.2.1 _ (List.mem_of_getElem? (i := 4) rfl)) (hty.2.1 _ (List.mem_of_getElem? (i := 5) rfl)) (hty.2.1 _ (List.mem_of_getElem? (i := 6) rfl))
  intro v13 e_v13
  replace h := h v13 e_v13
  intro v15 e_v15
  replace h := h v15 e_v15
  exact g_X9_addProduct_56 (fun _ _ _ _ _ _ _ => h)
set_option maxRecDepth 20000 in
theorem g_X9_addProduct_13 {Q X : m_Po} {v0 v1 v3 v5 v7 : Int} {ε : m_E} {μ : m_M} (h : TY ε μ → i64 v1 → i64 v3 → i64 v5 → i64 v7 → ∀ v9 : Int, v9 = o_shr64 v3 32 → ∀ v11 : Int, v11 = o_and64 v3 4294967295 → ∀ v13 : Int, v13 = w64 ((w64 (v5 * v11)) + (o_ushr64 (w64 (v7 * v11)) 32)) → ∀ v15 : Int, v15 = w64 ((w64 (v7 * v9)) + (o_and64 v13 4294967295)) → kd ε v0 = 8 ∧ ∀ μ_1 : m_M, μ_1 = st μ v0 0 (w64 ((μ v0 0) + (w64 ((w64 ((w64 (v5 * v9)) + (o_shr64 v13 32))) + (o_shr64 v15 32))))) → ∀ v17 : Int, v17 = w64 (v1 * v3) → ∀ μ_2 : m_M, μ_2 = st μ_1 v0 1 (w64 ((μ_1 v0 1) + v17)) → ∀ t : Int, t = (if (o_xor64 v17 (-9223372036854775808)) ≤ (o_xor64 (μ_2 v0 1) (-9223372036854775808)) then 0 else 1) → ∀ v19 : Int, v19 = t → kd ε v0 = 8 ∧ ∀ t_1 : Int, t_1 = (if v19 = 0 then 0 else 1) → kd ε v0 = 8 ∧ ∀ μ_3 : m_M, μ_3 = st μ_2 v0 0 (w64 ((μ_2 v0 0) + t_1)) → Q 0 ε μ_3) : G cd_X9_addProduct Q X 13 [(0, (2, v0)), (1, (1, v1)), (3, (1, v3)), (5, (1, v5)), (7, (1, v7))] [] ε μ := by
  refine G_run (m_in [13, 26, 56, 108, 121, 138]) 12 _ _ _ _ ?_
  show m_ty [(0, (2, v0)), (1, (1, v1)), (3, (1, v3)), (5, (1, v5)), (7, (1, v7))] [] ε μ → ∀ v9 : Int, v9 = o_shr64 v3 32 → ∀ v11 : Int, v11 = o_and64 v3 4294967295 → G cd_X9_addProduct Q X 26 [(0, (2, v0)), (1, (1, v1)), (3, (1, v3)), (5, (1, v5)), (7, (1, v7)), (9, (1, v9)), (11, (1, v11))] [] ε μ
  intro hty
  replace h := h hty.1 (hty.2.1 _ (List.mem_of_getElem? (i := 1) rfl)) (hty.2.1 _ (List.mem_of_getElem? (i := 2) rfl)) (hty.2.1 _ (List.mem_of_getElem? (i := 3) rfl)) (hty.2.1 _ (List.mem_of_getElem? (i := 4) rfl))
  intro v9 e_v9
  replace h := h v9 e_v9
  intro v11 e_v11
  replace h := h v11 e_v11
  exact g_X9_addProduct_26 (fun _ _ _ _ _ _ _ => h)
set_option maxRecDepth 20000 in
theorem g_X9_addProduct_0 {Q X : m_Po} {v0 v1 v3 : Int} {ε : m_E} {μ : m_M} (h : TY ε μ → i64 v1 → i64 v3 → ∀ v5 : Int, v5 = o_shr64 v1 32 → ∀ v7 : Int, v7 = o_and64 v1 4294967295 → ∀ v9 : Int, v9 = o_shr64 v3 32 → ∀ v11 : Int, v11 = o_and64 v3 4294967295 → ∀ v13 : Int, v13 = w64 ((w64 (v5 * v11)) + (o_ushr64 (w64 (v7 * v11)) 32)) → ∀ v15 : Int, v15 = w64 ((w64 (v7 * v9)) + (o_and64 v13 4294967295)) → kd ε v0 = 8 ∧ ∀ μ_1 : m_M, μ_1 = st μ v0 0 (w64 ((μ v0 0) + (w64 ((w64 ((w64 (v5 * v9)) + (o_shr64 v13 32))) + (o_shr64 v15 32))))) → ∀ v17 : Int, v17 = w64 (v1 * v3) → ∀ μ_2 : m_M, μ_2 = st μ_1 v0 1 (w64 ((μ_1 v0 1) + v17)) → ∀ t : Int, t = (if (o_xor64 v17 (-9223372036854775808)) ≤ (o_xor64 (μ_2 v0 1) (-9223372036854775808)) then 0 else 1) → ∀ v19 : Int, v19 = t → kd ε v0 = 8 ∧ ∀ t_1 : Int, t_1 = (if v19 = 0 then 0 else 1) → kd ε v0 = 8 ∧ ∀ μ_3 : m_M, μ_3 = st μ_2 v0 0 (w64 ((μ_2 v0 0) + t_1)) → Q 0 ε μ_3) : G cd_X9_addProduct Q X 0 [(0, (2, v0)), (1, (1, v1)), (3, (1, v3))] [] ε μ := by
  refine G_run (m_in [13, 26, 56, 108, 121, 138]) 12 _ _ _ _ ?_
  show m_ty [(0, (2, v0)), (1, (1, v1)), (3, (1, v3))] [] ε μ → ∀ v5 : Int, v5 = o_shr64 v1 32 → ∀ v7 : Int, v7 = o_and64 v1 4294967295 → G cd_X9_addProduct Q X 13 [(0, (2, v0)), (1, (1, v1)), (3, (1, v3)), (5, (1, v5)), (7, (1, v7))] [] ε μ
  intro hty
  replace h := h hty.1 (hty.2.1 _ (List.mem_of_getElem? (i := 1) rfl)) (hty.2.1 _ (List.mem_of_getElem? (i := 2) rfl))
  intro v5 e_v5
  replace h := h v5 e_v5
  intro v7 e_v7
  replace h := h v7 e_v7
  exact g_X9_addProduct_13 (fun _ _ _ _ _ => h)
theorem e_X9_addProduct {Q X : m_Po} {v0 v1 v3 : Int} {ε : m_E} {μ : m_M} (h : TY ε μ → i64 v1 → i64 v3 → ∀ v5 : Int, v5 = o_shr64 v1 32 → ∀ v7 : Int, v7 = o_and64 v1 4294967295 → ∀ v9 : Int, v9 = o_shr64 v3 32 → ∀ v11 : Int, v11 = o_and64 v3 4294967295 → ∀ v13 : Int, v13 = w64 ((w64 (v5 * v11)) + (o_ushr64 (w64 (v7 * v11)) 32)) → ∀ v15 : Int, v15 = w64 ((w64 (v7 * v9)) + (o_and64 v13 4294967295)) → kd ε v0 = 8 ∧ ∀ μ_1 : m_M, μ_1 = st μ v0 0 (w64 ((μ v0 0) + (w64 ((w64 ((w64 (v5 * v9)) + (o_shr64 v13 32))) + (o_shr64 v15 32))))) → ∀ v17 : Int, v17 = w64 (v1 * v3) → ∀ μ_2 : m_M, μ_2 = st μ_1 v0 1 (w64 ((μ_1 v0 1) + v17)) → ∀ t : Int, t = (if (o_xor64 v17 (-9223372036854775808)) ≤ (o_xor64 (μ_2 v0 1) (-9223372036854775808)) then 0 else 1) → ∀ v19 : Int, v19 = t → kd ε v0 = 8 ∧ ∀ t_1 : Int, t_1 = (if v19 = 0 then 0 else 1) → kd ε v0 = 8 ∧ ∀ μ_3 : m_M, μ_3 = st μ_2 v0 0 (w64 ((μ_2 v0 0) + t_1)) → Q 0 ε μ_3) : o_X9_addProduct [(2, v0), (1, v1), (1, v3)] ε μ Q X := And.intro rfl (g_X9_addProduct_0 h)
/-! ArchYard$Corner.weighBound(LArchYard$Bounds;I)V -/
set_option maxRecDepth 20000 in
theorem g_X2_weighBound_113 {Q X : m_Po} {v0 v1 v2 v3 : Int} {ε : m_E} {μ : m_M} (h : TY ε μ → i32 v2 → i32 v3 → ∀ v3_1 : Int, v3_1 = w32 (v3 + 1) → G cd_X2_weighBound Q X 26 [(0, (2, v0)), (1, (2, v1)), (2, (0, v2)), (3, (0, v3_1))] [] ε μ) : G cd_X2_weighBound Q X 113 [(0, (2, v0)), (1, (2, v1)), (2, (0, v2)), (3, (0, v3))] [] ε μ := by
  refine G_run (m_in [7, 24, 26, 73, 113]) 9 _ _ _ _ ?_
  show m_ty [(0, (2, v0)), (1, (2, v1)), (2, (0, v2)), (3, (0, v3))] [] ε μ → ∀ v3_1 : Int, v3_1 = w32 (v3 + 1) → G cd_X2_weighBound Q X 26 [(0, (2, v0)), (1, (2, v1)), (2, (0, v2)), (3, (0, v3_1))] [] ε μ
  intro hty
  replace h := h hty.1 (hty.2.1 _ (List.mem_of_getElem? (i := 2) rfl)) (hty.2.1 _ (List.mem_of_getElem? (i := 3) rfl))
  intro v3_1 e_v3_1
  replace h := h v3_1 e_v3_1
  exact h
set_option maxRecDepth 20000 in
theorem g_X2_weighBound_73 {Q X : m_Po} {v0 v1 v2 v3 t t_1 t_2 t_3 : Int} {ε : m_E} {μ : m_M} (h : TY ε μ → i32 v2 → i32 v3 → i32 t_1 → i64 t_2 → kd ε t_3 = 101 ∧ (0 : Int) ≤ v2 ∧ v2 < ln ε t_3 ∧ kd ε v0 = 2 ∧ kd ε (fn ε v0 1) = 101 ∧ (0 : Int) ≤ w32 ((w32 (3 * v3)) + 2) ∧ w32 ((w32 (3 * v3)) + 2) < ln ε (fn ε v0 1) ∧ kd ε t = 101 ∧ (0 : Int) ≤ t_1 ∧ t_1 < ln ε t ∧ ∀ μ_1 : m_M, μ_1 = st μ t t_1 (w64 (t_2 + (w64 ((μ t_3 v2) * (μ (fn ε v0 1) (w32 ((w32 (3 * v3)) + 2))))))) → kd ε (fn ε v0 2) = 101 ∧ (0 : Int) ≤ v3 ∧ v3 < ln ε (fn ε v0 2) ∧ kd ε v1 = 1 ∧ kd ε (fn ε v0 0) = 100 ∧ v3 < ln ε (fn ε v0 0) ∧ kd ε (fn ε v1 3) = 101 ∧ (0 : Int) ≤ μ_1 (fn ε v0 0) v3 ∧ μ_1 (fn ε v0 0) v3 < ln ε (fn ε v1 3) ∧ kd ε (fn ε v0 3) = 8 ∧ o_X9_addProduct [(2, fn ε v0 3), (1, w64 (-(μ_1 (fn ε v0 2) v3))), (1, μ_1 (fn ε v1 3) (μ_1 (fn ε v0 0) v3))] ε μ_1 (fun z ε_1 μ_2 => G cd_X2_weighBound Q X 113 [(0, (2, v0)), (1, (2, v1)), (2, (0, v2)), (3, (0, v3))] [] ε_1 μ_2) m_F) : G cd_X2_weighBound Q X 73 [(0, (2, v0)), (1, (2, v1)), (2, (0, v2)), (3, (0, v3))] [(2, t_3), (1, t_2), (0, t_1), (2, t)] ε μ := by
  refine G_run (m_in [7, 24, 26, 73, 113]) 9 _ _ _ _ ?_
  show m_ty [(0, (2, v0)), (1, (2, v1)), (2, (0, v2)), (3, (0, v3))] [(2, t_3), (1, t_2), (0, t_1), (2, t)] ε μ → (kd ε t_3 = 101) ∧ ((0 : Int) ≤ v2 ∧ v2 < ln ε t_3) ∧ (kd ε v0 = 2) ∧ (kd ε (fn ε v0 1) = 101) ∧ ((0 : Int) ≤ w32 ((w32 (3 * v3)) + 2) ∧ w32 ((w32 (3 * v3)) + 2) < ln ε (fn ε v0 1)) ∧ (kd ε t = 101) ∧ ((0 : Int) ≤ t_1 ∧ t_1 < ln ε t) ∧ ∀ μ_1 : m_M, μ_1 = st μ t t_1 (w64 (t_2 + (w64 ((μ t_3 v2) * (μ (fn ε v0 1) (w32 ((w32 (3 * v3)) + 2))))))) → (kd ε v0 = 2) ∧ (kd ε v0 = 2) ∧ (kd ε (fn ε v0 2) = 101) ∧ ((0 : Int) ≤ v3 ∧ v3 < ln ε (fn ε v0 2)) ∧ (kd ε v1 = 1) ∧ (kd ε v0 = 2) ∧ (kd ε (fn ε v0 0) = 100) ∧ ((0 : Int) ≤ v3 ∧ v3 < ln ε (fn ε v0 0)) ∧ (kd ε (fn ε v1 3) = 101) ∧ ((0 : Int) ≤ μ_1 (fn ε v0 0) v3 ∧ μ_1 (fn ε v0 0) v3 < ln ε (fn ε v1 3)) ∧ (kd ε (fn ε v0 3) = 8) ∧ o_X9_addProduct [(2, fn ε v0 3), (1, w64 (-(μ_1 (fn ε v0 2) v3))), (1, μ_1 (fn ε v1 3) (μ_1 (fn ε v0 0) v3))] ε μ_1 (fun z ε_1 μ_2 => G cd_X2_weighBound Q X 113 [(0, (2, v0)), (1, (2, v1)), (2, (0, v2)), (3, (0, v3))] [] ε_1 μ_2) m_F
  intro hty
  replace h := h hty.1 (hty.2.1 _ (List.mem_of_getElem? (i := 2) rfl)) (hty.2.1 _ (List.mem_of_getElem? (i := 3) rfl)) (hty.2.2 _ (List.mem_of_getElem? (i := 2) rfl)) (hty.2.2 _ (List.mem_of_getElem? (i := 1) rfl))
  obtain ⟨k1, h⟩ := h
  refine And.intro k1 ?_
  obtain ⟨k2, h⟩ := h
  obtain ⟨k3, h⟩ := h
  refine And.intro (And.intro k2 k3) ?_
  obtain ⟨k4, h⟩ := h
  refine And.intro k4 ?_
  obtain ⟨k5, h⟩ := h
  refine And.intro k5 ?_
  obtain ⟨k6, h⟩ := h
  obtain ⟨k7, h⟩ := h
  refine And.intro (And.intro k6 k7) ?_
  obtain ⟨k8, h⟩ := h
  refine And.intro k8 ?_
  obtain ⟨k9, h⟩ := h
  obtain ⟨k10, h⟩ := h
  refine And.intro (And.intro k9 k10) ?_
  intro μ_1 e_μ_1
  replace h := h μ_1 e_μ_1
  refine And.intro k4 ?_
  refine And.intro k4 ?_
  obtain ⟨k11, h⟩ := h
  refine And.intro k11 ?_
  obtain ⟨k12, h⟩ := h
  obtain ⟨k13, h⟩ := h
  refine And.intro (And.intro k12 k13) ?_
  obtain ⟨k14, h⟩ := h
  refine And.intro k14 ?_
  refine And.intro k4 ?_
  obtain ⟨k15, h⟩ := h
  refine And.intro k15 ?_
  obtain ⟨k16, h⟩ := h
  refine And.intro (And.intro k12 k16) ?_
  obtain ⟨k17, h⟩ := h
  refine And.intro k17 ?_
  obtain ⟨k18, h⟩ := h
  obtain ⟨k19, h⟩ := h
  refine And.intro (And.intro k18 k19) ?_
  obtain ⟨k20, h⟩ := h
  refine And.intro k20 ?_
  exact h
set_option maxRecDepth 20000 in
theorem g_X2_weighBound_26 {Q X : m_Po} {v0 v1 v2 v3 : Int} {ε : m_E} {μ : m_M} (h : TY ε μ → i32 v2 → i32 v3 → ((3 : Int) ≤ v3 → Q 0 ε μ) ∧ (v3 < (3 : Int) → kd ε v0 = 2 ∧ kd ε v1 = 1 ∧ kd ε (fn ε v1 0) = 101 ∧ (0 : Int) ≤ v2 ∧ v2 < ln ε (fn ε v1 0) ∧ kd ε (fn ε v0 1) = 101 ∧ (0 : Int) ≤ w32 (3 * v3) ∧ w32 (3 * v3) < ln ε (fn ε v0 1) ∧ kd ε (fn ε v1 1) = 101 ∧ v2 < ln ε (fn ε v1 1) ∧ (0 : Int) ≤ w32 ((w32 (3 * v3)) + 1) ∧ w32 ((w32 (3 * v3)) + 1) < ln ε (fn ε v0 1) ∧ kd ε (fn ε v1 2) = 101 ∧ (0 : Int) ≤ v2 ∧ v2 < ln ε (fn ε v1 2) ∧ kd ε v0 = 2 ∧ kd ε (fn ε v0 1) = 101 ∧ (0 : Int) ≤ w32 ((w32 (3 * v3)) + 2) ∧ w32 ((w32 (3 * v3)) + 2) < ln ε (fn ε v0 1) ∧ kd ε (fn ε v0 2) = 101 ∧ (0 : Int) ≤ v3 ∧ v3 < ln ε (fn ε v0 2) ∧ ∀ μ_1 : m_M, μ_1 = st μ (fn ε v0 2) v3 (w64 ((w64 ((w64 ((μ (fn ε v1 0) v2) * (μ (fn ε v0 1) (w32 (3 * v3))))) + (w64 ((μ (fn ε v1 1) v2) * (μ (fn ε v0 1) (w32 ((w32 (3 * v3)) + 1))))))) + (w64 ((μ (fn ε v1 2) v2) * (μ (fn ε v0 1) (w32 ((w32 (3 * v3)) + 2))))))) → kd ε (fn ε v0 2) = 101 ∧ (0 : Int) ≤ v3 ∧ v3 < ln ε (fn ε v0 2) ∧ kd ε v1 = 1 ∧ kd ε (fn ε v0 0) = 100 ∧ v3 < ln ε (fn ε v0 0) ∧ kd ε (fn ε v1 3) = 101 ∧ (0 : Int) ≤ μ_1 (fn ε v0 0) v3 ∧ μ_1 (fn ε v0 0) v3 < ln ε (fn ε v1 3) ∧ kd ε (fn ε v0 3) = 8 ∧ o_X9_addProduct [(2, fn ε v0 3), (1, w64 (-(μ_1 (fn ε v0 2) v3))), (1, μ_1 (fn ε v1 3) (μ_1 (fn ε v0 0) v3))] ε μ_1 (fun z ε_1 μ_2 => G cd_X2_weighBound Q X 113 [(0, (2, v0)), (1, (2, v1)), (2, (0, v2)), (3, (0, v3))] [] ε_1 μ_2) m_F)) : G cd_X2_weighBound Q X 26 [(0, (2, v0)), (1, (2, v1)), (2, (0, v2)), (3, (0, v3))] [] ε μ := by
  refine G_run (m_in [7, 24, 26, 73, 113]) 9 _ _ _ _ ?_
  show m_ty [(0, (2, v0)), (1, (2, v1)), (2, (0, v2)), (3, (0, v3))] [] ε μ → ((3 : Int) ≤ v3 → (m_ty [] [] ε μ → Q 0 ε μ)) ∧ (v3 < (3 : Int) → (m_ty [(0, (2, v0)), (1, (2, v1)), (2, (0, v2)), (3, (0, v3))] [] ε μ → (kd ε v0 = 2) ∧ (kd ε v1 = 1) ∧ (kd ε (fn ε v1 0) = 101) ∧ ((0 : Int) ≤ v2 ∧ v2 < ln ε (fn ε v1 0)) ∧ (kd ε v0 = 2) ∧ (kd ε (fn ε v0 1) = 101) ∧ ((0 : Int) ≤ w32 (3 * v3) ∧ w32 (3 * v3) < ln ε (fn ε v0 1)) ∧ (kd ε v1 = 1) ∧ (kd ε (fn ε v1 1) = 101) ∧ ((0 : Int) ≤ v2 ∧ v2 < ln ε (fn ε v1 1)) ∧ (kd ε v0 = 2) ∧ (kd ε (fn ε v0 1) = 101) ∧ ((0 : Int) ≤ w32 ((w32 (3 * v3)) + 1) ∧ w32 ((w32 (3 * v3)) + 1) < ln ε (fn ε v0 1)) ∧ (kd ε v1 = 1) ∧ G cd_X2_weighBound Q X 73 [(0, (2, v0)), (1, (2, v1)), (2, (0, v2)), (3, (0, v3))] [(2, fn ε v1 2), (1, w64 ((w64 ((μ (fn ε v1 0) v2) * (μ (fn ε v0 1) (w32 (3 * v3))))) + (w64 ((μ (fn ε v1 1) v2) * (μ (fn ε v0 1) (w32 ((w32 (3 * v3)) + 1))))))), (0, v3), (2, fn ε v0 2)] ε μ))
  intro hty
  replace h := h hty.1 (hty.2.1 _ (List.mem_of_getElem? (i := 2) rfl)) (hty.2.1 _ (List.mem_of_getElem? (i := 3) rfl))
  obtain ⟨ha, hb⟩ := h
  refine And.intro (fun c32 => ?_) (fun c32 => ?_)
  · replace h := ha c32
    clear ha hb
    intro _
    exact h
  · replace h := hb c32
    clear ha hb
    intro _
    obtain ⟨k1, h⟩ := h
    refine And.intro k1 ?_
    obtain ⟨k2, h⟩ := h
    refine And.intro k2 ?_
    obtain ⟨k3, h⟩ := h
    refine And.intro k3 ?_
    obtain ⟨k4, h⟩ := h
    obtain ⟨k5, h⟩ := h
    refine And.intro (And.intro k4 k5) ?_
    refine And.intro k1 ?_
    obtain ⟨k6, h⟩ := h
    refine And.intro k6 ?_
    obtain ⟨k7, h⟩ := h
    obtain ⟨k8, h⟩ := h
    refine And.intro (And.intro k7 k8) ?_
    refine And.intro k2 ?_
    obtain ⟨k9, h⟩ := h
    refine And.intro k9 ?_
    obtain ⟨k10, h⟩ := h
    refine And.intro (And.intro k4 k10) ?_
    refine And.intro k1 ?_
    refine And.intro k6 ?_
    obtain ⟨k11, h⟩ := h
    obtain ⟨k12, h⟩ := h
    refine And.intro (And.intro k11 k12) ?_
    refine And.intro k2 ?_
    exact g_X2_weighBound_73 (fun _ _ _ _ _ => h)
set_option maxRecDepth 20000 in
theorem g_X2_weighBound_24 {Q X : m_Po} {v0 v1 v2 : Int} {ε : m_E} {μ : m_M} (h : TY ε μ → i32 v2 → ∀ v3 : Int, v3 = 0 → G cd_X2_weighBound Q X 26 [(0, (2, v0)), (1, (2, v1)), (2, (0, v2)), (3, (0, v3))] [] ε μ) : G cd_X2_weighBound Q X 24 [(0, (2, v0)), (1, (2, v1)), (2, (0, v2))] [] ε μ := by
  refine G_run (m_in [7, 24, 26, 73, 113]) 9 _ _ _ _ ?_
  show m_ty [(0, (2, v0)), (1, (2, v1)), (2, (0, v2))] [] ε μ → ∀ v3 : Int, v3 = 0 → G cd_X2_weighBound Q X 26 [(0, (2, v0)), (1, (2, v1)), (2, (0, v2)), (3, (0, v3))] [] ε μ
  intro hty
  replace h := h hty.1 (hty.2.1 _ (List.mem_of_getElem? (i := 2) rfl))
  intro v3 e_v3
  replace h := h v3 e_v3
  exact h
set_option maxRecDepth 20000 in
theorem g_X2_weighBound_7 {Q X : m_Po} {v0 v1 v2 : Int} {ε : m_E} {μ : m_M} (h : TY ε μ → i32 v2 → kd ε v0 = 2 ∧ kd ε v1 = 1 ∧ kd ε (fn ε v1 3) = 101 ∧ (0 : Int) ≤ v2 ∧ v2 < ln ε (fn ε v1 3) ∧ kd ε (fn ε v0 3) = 8 ∧ o_X9_addProduct [(2, fn ε v0 3), (1, μ (fn ε v1 3) v2), (1, μ v0 4)] ε μ (fun z ε_1 μ_1 => G cd_X2_weighBound Q X 24 [(0, (2, v0)), (1, (2, v1)), (2, (0, v2))] [] ε_1 μ_1) m_F) : G cd_X2_weighBound Q X 7 [(0, (2, v0)), (1, (2, v1)), (2, (0, v2))] [] ε μ := by
  refine G_run (m_in [7, 24, 26, 73, 113]) 9 _ _ _ _ ?_
  show m_ty [(0, (2, v0)), (1, (2, v1)), (2, (0, v2))] [] ε μ → (kd ε v0 = 2) ∧ (kd ε v1 = 1) ∧ (kd ε (fn ε v1 3) = 101) ∧ ((0 : Int) ≤ v2 ∧ v2 < ln ε (fn ε v1 3)) ∧ (kd ε v0 = 2) ∧ (kd ε (fn ε v0 3) = 8) ∧ o_X9_addProduct [(2, fn ε v0 3), (1, μ (fn ε v1 3) v2), (1, μ v0 4)] ε μ (fun z ε_1 μ_1 => G cd_X2_weighBound Q X 24 [(0, (2, v0)), (1, (2, v1)), (2, (0, v2))] [] ε_1 μ_1) m_F
  intro hty
  replace h := h hty.1 (hty.2.1 _ (List.mem_of_getElem? (i := 2) rfl))
  obtain ⟨k1, h⟩ := h
  refine And.intro k1 ?_
  obtain ⟨k2, h⟩ := h
  refine And.intro k2 ?_
  obtain ⟨k3, h⟩ := h
  refine And.intro k3 ?_
  obtain ⟨k4, h⟩ := h
  obtain ⟨k5, h⟩ := h
  refine And.intro (And.intro k4 k5) ?_
  refine And.intro k1 ?_
  obtain ⟨k6, h⟩ := h
  refine And.intro k6 ?_
  exact h
set_option maxRecDepth 20000 in
theorem g_X2_weighBound_0 {Q X : m_Po} {v0 v1 v2 : Int} {ε : m_E} {μ : m_M} (h : TY ε μ → i32 v2 → kd ε v0 = 2 ∧ kd ε (fn ε v0 3) = 8 ∧ o_X9_clear [(2, fn ε v0 3)] ε μ (fun z ε_1 μ_1 => G cd_X2_weighBound Q X 7 [(0, (2, v0)), (1, (2, v1)), (2, (0, v2))] [] ε_1 μ_1) m_F) : G cd_X2_weighBound Q X 0 [(0, (2, v0)), (1, (2, v1)), (2, (0, v2))] [] ε μ := by
  refine G_run (m_in [7, 24, 26, 73, 113]) 9 _ _ _ _ ?_
  show m_ty [(0, (2, v0)), (1, (2, v1)), (2, (0, v2))] [] ε μ → (kd ε v0 = 2) ∧ (kd ε (fn ε v0 3) = 8) ∧ o_X9_clear [(2, fn ε v0 3)] ε μ (fun z ε_1 μ_1 => G cd_X2_weighBound Q X 7 [(0, (2, v0)), (1, (2, v1)), (2, (0, v2))] [] ε_1 μ_1) m_F
  intro hty
  replace h := h hty.1 (hty.2.1 _ (List.mem_of_getElem? (i := 2) rfl))
  obtain ⟨k1, h⟩ := h
  refine And.intro k1 ?_
  obtain ⟨k2, h⟩ := h
  refine And.intro k2 ?_
  exact h
theorem e_X2_weighBound {Q X : m_Po} {v0 v1 v2 : Int} {ε : m_E} {μ : m_M} (h : TY ε μ → i32 v2 → kd ε v0 = 2 ∧ kd ε (fn ε v0 3) = 8 ∧ o_X9_clear [(2, fn ε v0 3)] ε μ (fun z ε_1 μ_1 => G cd_X2_weighBound Q X 7 [(0, (2, v0)), (1, (2, v1)), (2, (0, v2))] [] ε_1 μ_1) m_F) : o_X2_weighBound [(2, v0), (2, v1), (0, v2)] ε μ Q X := And.intro rfl (g_X2_weighBound_0 h)
/-! ArchYard$Wide.sign()I -/
set_option maxRecDepth 20000 in
theorem g_X9_sign_38 {Q X : m_Po} {t : Int} {ε : m_E} {μ : m_M} (h : TY ε μ → i32 t → Q t ε μ) : G cd_X9_sign Q X 38 [] [(0, t)] ε μ := by
  refine G_run (m_in [23, 38]) 10 _ _ _ _ ?_
  show m_ty [] [(0, t)] ε μ → Q t ε μ
  intro hty
  replace h := h hty.1 (hty.2.2 _ (List.mem_of_getElem? (i := 0) rfl))
  exact h
set_option maxRecDepth 20000 in
theorem g_X9_sign_23 {Q X : m_Po} {t : Int} {ε : m_E} {μ : m_M} (h : TY ε μ → i32 t → Q t ε μ) : G cd_X9_sign Q X 23 [] [(0, t)] ε μ := by
  refine G_run (m_in [23, 38]) 10 _ _ _ _ ?_
  show m_ty [] [(0, t)] ε μ → Q t ε μ
  intro hty
  replace h := h hty.1 (hty.2.2 _ (List.mem_of_getElem? (i := 0) rfl))
  exact h
set_option maxRecDepth 20000 in
theorem g_X9_sign_0 {Q X : m_Po} {v0 : Int} {ε : m_E} {μ : m_M} (h : TY ε μ → kd ε v0 = 8 ∧ ((μ v0 0) ≠ (0 : Int) → ∀ t : Int, t = (if (0 : Int) ≤ (μ v0 0) then 1 else (-1)) → Q t ε μ) ∧ ((μ v0 0) = (0 : Int) → ∀ t_1 : Int, t_1 = (if (μ v0 1) = (0 : Int) then 0 else 1) → Q t_1 ε μ)) : G cd_X9_sign Q X 0 [(0, (2, v0))] [] ε μ := by
  refine G_run (m_in [23, 38]) 10 _ _ _ _ ?_
  show m_ty [(0, (2, v0))] [] ε μ → (kd ε v0 = 8) ∧ ((μ v0 0) ≠ (0 : Int) → (m_ty [(0, (2, v0))] [] ε μ → (kd ε v0 = 8) ∧ ((0 : Int) ≤ (μ v0 0) → (m_ty [] [] ε μ → G cd_X9_sign Q X 38 [] [(0, 1)] ε μ)) ∧ ((μ v0 0) < (0 : Int) → (m_ty [] [] ε μ → G cd_X9_sign Q X 38 [] [(0, (-1))] ε μ)))) ∧ ((μ v0 0) = (0 : Int) → (m_ty [(0, (2, v0))] [] ε μ → (kd ε v0 = 8) ∧ ((μ v0 1) ≠ (0 : Int) → (m_ty [] [] ε μ → G cd_X9_sign Q X 23 [] [(0, 1)] ε μ)) ∧ ((μ v0 1) = (0 : Int) → (m_ty [] [] ε μ → G cd_X9_sign Q X 23 [] [(0, 0)] ε μ))))
  intro hty
  replace h := h hty.1 
  obtain ⟨k1, h⟩ := h
  refine And.intro k1 ?_
  obtain ⟨ha, hb⟩ := h
  refine And.intro (fun c3 => ?_) (fun c3 => ?_)
  · replace h := ha c3
    clear ha hb
    intro _
    refine And.intro k1 ?_
    have hj := h
    refine And.intro (fun c1 => ?_) (fun c1 => ?_)
    · intro _
      exact g_X9_sign_38 (fun _ _ => (hj _ (((if_pos c1).trans rfl)).symm))
    · intro _
      exact g_X9_sign_38 (fun _ _ => (hj _ (((if_neg (Int.not_le.mpr c1)).trans rfl)).symm))
  · replace h := hb c3
    clear ha hb
    intro _
    refine And.intro k1 ?_
    have hj := h
    refine And.intro (fun c2 => ?_) (fun c2 => ?_)
    · intro _
      exact g_X9_sign_23 (fun _ _ => (hj _ (((if_neg (c2)).trans rfl)).symm))
    · intro _
      exact g_X9_sign_23 (fun _ _ => (hj _ (((if_pos c2).trans rfl)).symm))
theorem e_X9_sign {Q X : m_Po} {v0 : Int} {ε : m_E} {μ : m_M} (h : TY ε μ → kd ε v0 = 8 ∧ ((μ v0 0) ≠ (0 : Int) → ∀ t : Int, t = (if (0 : Int) ≤ (μ v0 0) then 1 else (-1)) → Q t ε μ) ∧ ((μ v0 0) = (0 : Int) → ∀ t_1 : Int, t_1 = (if (μ v0 1) = (0 : Int) then 0 else 1) → Q t_1 ε μ)) : o_X9_sign [(2, v0)] ε μ Q X := And.intro rfl (g_X9_sign_0 h)
/-! ArchYard$Corner.firstBroken(LArchYard$Bounds;)I -/
set_option maxRecDepth 20000 in
theorem g_X2_firstBroken_29 {Q X : m_Po} {v0 v1 v2 t : Int} {ε : m_E} {μ : m_M} (h : TY ε μ → i32 v2 → i32 t → (0 ≤ t → ∀ v2_1 : Int, v2_1 = w32 (v2 + 1) → G cd_X2_firstBroken Q X 2 [(0, (2, v0)), (1, (2, v1)), (2, (0, v2_1))] [] ε μ) ∧ (t < 0 → Q v2 ε μ)) : G cd_X2_firstBroken Q X 29 [(0, (2, v0)), (1, (2, v1)), (2, (0, v2))] [(0, t)] ε μ := by
  refine G_run (m_in [2, 22, 29]) 10 _ _ _ _ ?_
  show m_ty [(0, (2, v0)), (1, (2, v1)), (2, (0, v2))] [(0, t)] ε μ → (0 ≤ t → (m_ty [(0, (2, v0)), (1, (2, v1)), (2, (0, v2))] [] ε μ → ∀ v2_1 : Int, v2_1 = w32 (v2 + 1) → G cd_X2_firstBroken Q X 2 [(0, (2, v0)), (1, (2, v1)), (2, (0, v2_1))] [] ε μ)) ∧ (t < 0 → (m_ty [(2, (0, v2))] [] ε μ → Q v2 ε μ))
  intro hty
  replace h := h hty.1 (hty.2.1 _ (List.mem_of_getElem? (i := 2) rfl)) (hty.2.2 _ (List.mem_of_getElem? (i := 0) rfl))
  obtain ⟨ha, hb⟩ := h
  refine And.intro (fun c0 => ?_) (fun c0 => ?_)
  · replace h := ha c0
    clear ha hb
    intro _
    intro v2_1 e_v2_1
    replace h := h v2_1 e_v2_1
    exact h
  · replace h := hb c0
    clear ha hb
    intro _
    exact h
set_option maxRecDepth 20000 in
theorem g_X2_firstBroken_22 {Q X : m_Po} {v0 v1 v2 : Int} {ε : m_E} {μ : m_M} (h : TY ε μ → i32 v2 → kd ε v0 = 2 ∧ kd ε (fn ε v0 3) = 8 ∧ o_X9_sign [(2, fn ε v0 3)] ε μ (fun z ε_1 μ_1 => G cd_X2_firstBroken Q X 29 [(0, (2, v0)), (1, (2, v1)), (2, (0, v2))] [(0, z)] ε_1 μ_1) m_F) : G cd_X2_firstBroken Q X 22 [(0, (2, v0)), (1, (2, v1)), (2, (0, v2))] [] ε μ := by
  refine G_run (m_in [2, 22, 29]) 10 _ _ _ _ ?_
  show m_ty [(0, (2, v0)), (1, (2, v1)), (2, (0, v2))] [] ε μ → (kd ε v0 = 2) ∧ (kd ε (fn ε v0 3) = 8) ∧ o_X9_sign [(2, fn ε v0 3)] ε μ (fun z ε_1 μ_1 => G cd_X2_firstBroken Q X 29 [(0, (2, v0)), (1, (2, v1)), (2, (0, v2))] [(0, z)] ε_1 μ_1) m_F
  intro hty
  replace h := h hty.1 (hty.2.1 _ (List.mem_of_getElem? (i := 2) rfl))
  obtain ⟨k1, h⟩ := h
  refine And.intro k1 ?_
  obtain ⟨k2, h⟩ := h
  refine And.intro k2 ?_
  exact h
set_option maxRecDepth 20000 in
theorem g_X2_firstBroken_2 {Q X : m_Po} {v0 v1 v2 : Int} {ε : m_E} {μ : m_M} (h : TY ε μ → i32 v2 → kd ε v1 = 1 ∧ ((μ v1 5) ≤ v2 → Q (-1) ε μ) ∧ (v2 < (μ v1 5) → ((48 : Int) ≤ v2 → Q (-1) ε μ) ∧ (v2 < (48 : Int) → kd ε v0 = 2 ∧ o_X2_weighBound [(2, v0), (2, v1), (0, v2)] ε μ (fun z ε_1 μ_1 => G cd_X2_firstBroken Q X 22 [(0, (2, v0)), (1, (2, v1)), (2, (0, v2))] [] ε_1 μ_1) m_F))) : G cd_X2_firstBroken Q X 2 [(0, (2, v0)), (1, (2, v1)), (2, (0, v2))] [] ε μ := by
  refine G_run (m_in [2, 22, 29]) 10 _ _ _ _ ?_
  show m_ty [(0, (2, v0)), (1, (2, v1)), (2, (0, v2))] [] ε μ → (kd ε v1 = 1) ∧ ((μ v1 5) ≤ v2 → (m_ty [] [] ε μ → Q (-1) ε μ)) ∧ (v2 < (μ v1 5) → (m_ty [(0, (2, v0)), (1, (2, v1)), (2, (0, v2))] [] ε μ → ((48 : Int) ≤ v2 → (m_ty [] [] ε μ → Q (-1) ε μ)) ∧ (v2 < (48 : Int) → (m_ty [(0, (2, v0)), (1, (2, v1)), (2, (0, v2))] [] ε μ → (kd ε v0 = 2) ∧ o_X2_weighBound [(2, v0), (2, v1), (0, v2)] ε μ (fun z ε_1 μ_1 => G cd_X2_firstBroken Q X 22 [(0, (2, v0)), (1, (2, v1)), (2, (0, v2))] [] ε_1 μ_1) m_F))))
  intro hty
  replace h := h hty.1 (hty.2.1 _ (List.mem_of_getElem? (i := 2) rfl))
  obtain ⟨k1, h⟩ := h
  refine And.intro k1 ?_
  obtain ⟨ha, hb⟩ := h
  refine And.intro (fun c3 => ?_) (fun c3 => ?_)
  · replace h := ha c3
    clear ha hb
    intro _
    exact h
  · replace h := hb c3
    clear ha hb
    intro _
    obtain ⟨ha, hb⟩ := h
    refine And.intro (fun c2 => ?_) (fun c2 => ?_)
    · replace h := ha c2
      clear ha hb
      intro _
      exact h
    · replace h := hb c2
      clear ha hb
      intro _
      obtain ⟨k2, h⟩ := h
      refine And.intro k2 ?_
      exact h
set_option maxRecDepth 20000 in
theorem g_X2_firstBroken_0 {Q X : m_Po} {v0 v1 : Int} {ε : m_E} {μ : m_M} (h : TY ε μ → ∀ v2 : Int, v2 = 0 → G cd_X2_firstBroken Q X 2 [(0, (2, v0)), (1, (2, v1)), (2, (0, v2))] [] ε μ) : G cd_X2_firstBroken Q X 0 [(0, (2, v0)), (1, (2, v1))] [] ε μ := by
  refine G_run (m_in [2, 22, 29]) 10 _ _ _ _ ?_
  show m_ty [(0, (2, v0)), (1, (2, v1))] [] ε μ → ∀ v2 : Int, v2 = 0 → G cd_X2_firstBroken Q X 2 [(0, (2, v0)), (1, (2, v1)), (2, (0, v2))] [] ε μ
  intro hty
  replace h := h hty.1 
  intro v2 e_v2
  replace h := h v2 e_v2
  exact h
theorem e_X2_firstBroken {Q X : m_Po} {v0 v1 : Int} {ε : m_E} {μ : m_M} (h : TY ε μ → ∀ v2 : Int, v2 = 0 → G cd_X2_firstBroken Q X 2 [(0, (2, v0)), (1, (2, v1)), (2, (0, v2))] [] ε μ) : o_X2_firstBroken [(2, v0), (2, v1)] ε μ Q X := And.intro rfl (g_X2_firstBroken_0 h)
/-! ArchYard$Corner.isLowest(Z)Z -/
set_option maxRecDepth 20000 in
theorem g_X2_isLowest_107 {Q X : m_Po} {t : Int} {ε : m_E} {μ : m_M} (h : TY ε μ → i32 t → (t = 0 ∨ t = 1) ∧ Q t ε μ) : G cd_X2_isLowest Q X 107 [] [(0, t)] ε μ := by
  refine G_run (m_in [2, 31, 44, 76, 107]) 19 _ _ _ _ ?_
  show m_ty [] [(0, t)] ε μ → (t = 0 ∨ t = 1) ∧ Q t ε μ
  intro hty
  replace h := h hty.1 (hty.2.2 _ (List.mem_of_getElem? (i := 0) rfl))
  obtain ⟨k1, h⟩ := h
  refine And.intro k1 ?_
  exact h
set_option maxRecDepth 20000 in
theorem g_X2_isLowest_76 {Q X : m_Po} {v0 v1 v2 t : Int} {ε : m_E} {μ : m_M} (h : TY ε μ → i32 v1 → i32 v2 → i64 t → ∀ v7 : Int, v7 = t → ((0 : Int) < v7 → ∀ v2_1 : Int, v2_1 = w32 (v2 + 1) → G cd_X2_isLowest Q X 2 [(0, (2, v0)), (1, (0, v1)), (2, (0, v2_1))] [] ε μ) ∧ (v7 ≤ (0 : Int) → Q 0 ε μ)) : G cd_X2_isLowest Q X 76 [(0, (2, v0)), (1, (0, v1)), (2, (0, v2))] [(1, t)] ε μ := by
  refine G_run (m_in [2, 31, 44, 76, 107]) 19 _ _ _ _ ?_
  show m_ty [(0, (2, v0)), (1, (0, v1)), (2, (0, v2))] [(1, t)] ε μ → ∀ v7 : Int, v7 = t → ((0 : Int) < v7 → (m_ty [(0, (2, v0)), (1, (0, v1)), (2, (0, v2))] [] ε μ → ∀ v2_1 : Int, v2_1 = w32 (v2 + 1) → G cd_X2_isLowest Q X 2 [(0, (2, v0)), (1, (0, v1)), (2, (0, v2_1))] [] ε μ)) ∧ (v7 ≤ (0 : Int) → (m_ty [] [] ε μ → (0 = 0 ∨ 0 = 1) ∧ Q 0 ε μ))
  intro hty
  replace h := h hty.1 (hty.2.1 _ (List.mem_of_getElem? (i := 1) rfl)) (hty.2.1 _ (List.mem_of_getElem? (i := 2) rfl)) (hty.2.2 _ (List.mem_of_getElem? (i := 0) rfl))
  intro v7 e_v7
  replace h := h v7 e_v7
  obtain ⟨ha, hb⟩ := h
  refine And.intro (fun c0 => ?_) (fun c0 => ?_)
  · replace h := ha c0
    clear ha hb
    intro _
    intro v2_1 e_v2_1
    replace h := h v2_1 e_v2_1
    exact h
  · replace h := hb c0
    clear ha hb
    intro _
    refine And.intro (Or.inl rfl) ?_
    exact h
set_option maxRecDepth 20000 in
theorem g_X2_isLowest_44 {Q X : m_Po} {v0 v1 v2 v3 v5 : Int} {ε : m_E} {μ : m_M} (h : TY ε μ → i32 v1 → i32 v2 → i64 v3 → i64 v5 → ((v3 = (0 : Int) → (v5 = (0 : Int) → kd ε v0 = 2 ∧ kd ε (fn ε v0 1) = 101 ∧ (0 : Int) ≤ w32 ((w32 (3 * v2)) + 2) ∧ w32 ((w32 (3 * v2)) + 2) < ln ε (fn ε v0 1)))) ∧ ∀ t : Int, t = (if v3 = (0 : Int) then if v5 = (0 : Int) then μ (fn ε v0 1) (w32 ((w32 (3 * v2)) + 2)) else v5 else v3) → ∀ v7 : Int, v7 = t → ((0 : Int) < v7 → ∀ v2_1 : Int, v2_1 = w32 (v2 + 1) → G cd_X2_isLowest Q X 2 [(0, (2, v0)), (1, (0, v1)), (2, (0, v2_1))] [] ε μ) ∧ (v7 ≤ (0 : Int) → Q 0 ε μ)) : G cd_X2_isLowest Q X 44 [(0, (2, v0)), (1, (0, v1)), (2, (0, v2)), (3, (1, v3)), (5, (1, v5))] [] ε μ := by
  refine G_run (m_in [2, 31, 44, 76, 107]) 19 _ _ _ _ ?_
  show m_ty [(0, (2, v0)), (1, (0, v1)), (2, (0, v2)), (3, (1, v3)), (5, (1, v5))] [] ε μ → (v3 = (0 : Int) → (m_ty [(0, (2, v0)), (1, (0, v1)), (2, (0, v2)), (5, (1, v5))] [] ε μ → (v5 = (0 : Int) → (m_ty [(0, (2, v0)), (1, (0, v1)), (2, (0, v2))] [] ε μ → (kd ε v0 = 2) ∧ (kd ε (fn ε v0 1) = 101) ∧ ((0 : Int) ≤ w32 ((w32 (3 * v2)) + 2) ∧ w32 ((w32 (3 * v2)) + 2) < ln ε (fn ε v0 1)) ∧ G cd_X2_isLowest Q X 76 [(0, (2, v0)), (1, (0, v1)), (2, (0, v2))] [(1, μ (fn ε v0 1) (w32 ((w32 (3 * v2)) + 2)))] ε μ)) ∧ (v5 ≠ (0 : Int) → (m_ty [(0, (2, v0)), (1, (0, v1)), (2, (0, v2)), (5, (1, v5))] [] ε μ → G cd_X2_isLowest Q X 76 [(0, (2, v0)), (1, (0, v1)), (2, (0, v2))] [(1, v5)] ε μ)))) ∧ (v3 ≠ (0 : Int) → (m_ty [(0, (2, v0)), (1, (0, v1)), (2, (0, v2)), (3, (1, v3))] [] ε μ → G cd_X2_isLowest Q X 76 [(0, (2, v0)), (1, (0, v1)), (2, (0, v2))] [(1, v3)] ε μ))
  intro hty
  replace h := h hty.1 (hty.2.1 _ (List.mem_of_getElem? (i := 1) rfl)) (hty.2.1 _ (List.mem_of_getElem? (i := 2) rfl)) (hty.2.1 _ (List.mem_of_getElem? (i := 3) rfl)) (hty.2.1 _ (List.mem_of_getElem? (i := 4) rfl))
  obtain ⟨hc, hj⟩ := h
  refine And.intro (fun c0 => ?_) (fun c0 => ?_)
  · replace hc := hc c0
    intro _
    refine And.intro (fun c1 => ?_) (fun c1 => ?_)
    · replace hc := hc c1
      intro _
      obtain ⟨k3, k4, k5, k6⟩ := hc
      refine And.intro k3 ?_
      refine And.intro k4 ?_
      refine And.intro (And.intro k5 k6) ?_
      exact g_X2_isLowest_76 (fun _ _ _ _ => (hj _ (((if_pos c0).trans ((if_pos c1).trans rfl))).symm))
    · intro _
      exact g_X2_isLowest_76 (fun _ _ _ _ => (hj _ (((if_pos c0).trans ((if_neg (c1)).trans rfl))).symm))
  · intro _
    exact g_X2_isLowest_76 (fun _ _ _ _ => (hj _ (((if_neg (c0)).trans rfl)).symm))
set_option maxRecDepth 20000 in
theorem g_X2_isLowest_31 {Q X : m_Po} {v0 v1 v2 t : Int} {ε : m_E} {μ : m_M} (h : TY ε μ → i32 v1 → i32 v2 → i64 t → ∀ v3 : Int, v3 = t → kd ε v0 = 2 ∧ kd ε (fn ε v0 1) = 101 ∧ (0 : Int) ≤ w32 ((w32 (3 * v2)) + 1) ∧ w32 ((w32 (3 * v2)) + 1) < ln ε (fn ε v0 1) ∧ ∀ v5 : Int, v5 = μ (fn ε v0 1) (w32 ((w32 (3 * v2)) + 1)) → ((v3 = (0 : Int) → (v5 = (0 : Int) → kd ε v0 = 2 ∧ kd ε (fn ε v0 1) = 101 ∧ (0 : Int) ≤ w32 ((w32 (3 * v2)) + 2) ∧ w32 ((w32 (3 * v2)) + 2) < ln ε (fn ε v0 1)))) ∧ ∀ t_1 : Int, t_1 = (if v3 = (0 : Int) then if v5 = (0 : Int) then μ (fn ε v0 1) (w32 ((w32 (3 * v2)) + 2)) else v5 else v3) → ∀ v7 : Int, v7 = t_1 → ((0 : Int) < v7 → ∀ v2_1 : Int, v2_1 = w32 (v2 + 1) → G cd_X2_isLowest Q X 2 [(0, (2, v0)), (1, (0, v1)), (2, (0, v2_1))] [] ε μ) ∧ (v7 ≤ (0 : Int) → Q 0 ε μ)) : G cd_X2_isLowest Q X 31 [(0, (2, v0)), (1, (0, v1)), (2, (0, v2))] [(1, t)] ε μ := by
  refine G_run (m_in [2, 31, 44, 76, 107]) 19 _ _ _ _ ?_
  show m_ty [(0, (2, v0)), (1, (0, v1)), (2, (0, v2))] [(1, t)] ε μ → ∀ v3 : Int, v3 = t → (kd ε v0 = 2) ∧ (kd ε (fn ε v0 1) = 101) ∧ ((0 : Int) ≤ w32 ((w32 (3 * v2)) + 1) ∧ w32 ((w32 (3 * v2)) + 1) < ln ε (fn ε v0 1)) ∧ ∀ v5 : Int, v5 = μ (fn ε v0 1) (w32 ((w32 (3 * v2)) + 1)) → G cd_X2_isLowest Q X 44 [(0, (2, v0)), (1, (0, v1)), (2, (0, v2)), (3, (1, v3)), (5, (1, v5))] [] ε μ
  intro hty
  replace h := h hty.1 (hty.2.1 _ (List.mem_of_getElem? (i := 1) rfl)) (hty.2.1 _ (List.mem_of_getElem? (i := 2) rfl)) (hty.2.2 _ (List.mem_of_getElem? (i := 0) rfl))
  intro v3 e_v3
  replace h := h v3 e_v3
  obtain ⟨k1, h⟩ := h
  refine And.intro k1 ?_
  obtain ⟨k2, h⟩ := h
  refine And.intro k2 ?_
  obtain ⟨k3, h⟩ := h
  obtain ⟨k4, h⟩ := h
  refine And.intro (And.intro k3 k4) ?_
  intro v5 e_v5
  replace h := h v5 e_v5
  exact g_X2_isLowest_44 (fun _ _ _ _ _ => h)
set_option maxRecDepth 20000 in
theorem g_X2_isLowest_2 {Q X : m_Po} {v0 v1 v2 : Int} {ε : m_E} {μ : m_M} (h : TY ε μ → i32 v1 → i32 v2 → ((3 : Int) ≤ v2 → kd ε v0 = 2 ∧ ∀ t : Int, t = (if (μ v0 4) ≤ (0 : Int) then 0 else 1) → Q t ε μ) ∧ (v2 < (3 : Int) → ((v1 = 0 → kd ε v0 = 2 ∧ kd ε (fn ε v0 1) = 101 ∧ (0 : Int) ≤ w32 (3 * v2) ∧ w32 (3 * v2) < ln ε (fn ε v0 1)) ∧ (v1 ≠ 0 → kd ε v0 = 2 ∧ kd ε (fn ε v0 1) = 101 ∧ (0 : Int) ≤ w32 (3 * v2) ∧ w32 (3 * v2) < ln ε (fn ε v0 1))) ∧ ∀ t_1 : Int, t_1 = (if v1 = 0 then μ (fn ε v0 1) (w32 (3 * v2)) else w64 (-(μ (fn ε v0 1) (w32 (3 * v2))))) → ∀ v3 : Int, v3 = t_1 → kd ε v0 = 2 ∧ kd ε (fn ε v0 1) = 101 ∧ (0 : Int) ≤ w32 ((w32 (3 * v2)) + 1) ∧ w32 ((w32 (3 * v2)) + 1) < ln ε (fn ε v0 1) ∧ ∀ v5 : Int, v5 = μ (fn ε v0 1) (w32 ((w32 (3 * v2)) + 1)) → ((v3 = (0 : Int) → (v5 = (0 : Int) → kd ε v0 = 2 ∧ kd ε (fn ε v0 1) = 101 ∧ (0 : Int) ≤ w32 ((w32 (3 * v2)) + 2) ∧ w32 ((w32 (3 * v2)) + 2) < ln ε (fn ε v0 1)))) ∧ ∀ t_2 : Int, t_2 = (if v3 = (0 : Int) then if v5 = (0 : Int) then μ (fn ε v0 1) (w32 ((w32 (3 * v2)) + 2)) else v5 else v3) → ∀ v7 : Int, v7 = t_2 → ((0 : Int) < v7 → ∀ v2_1 : Int, v2_1 = w32 (v2 + 1) → G cd_X2_isLowest Q X 2 [(0, (2, v0)), (1, (0, v1)), (2, (0, v2_1))] [] ε μ) ∧ (v7 ≤ (0 : Int) → Q 0 ε μ))) : G cd_X2_isLowest Q X 2 [(0, (2, v0)), (1, (0, v1)), (2, (0, v2))] [] ε μ := by
  refine G_run (m_in [2, 31, 44, 76, 107]) 19 _ _ _ _ ?_
  show m_ty [(0, (2, v0)), (1, (0, v1)), (2, (0, v2))] [] ε μ → ((3 : Int) ≤ v2 → (m_ty [(0, (2, v0))] [] ε μ → (kd ε v0 = 2) ∧ ((μ v0 4) ≤ (0 : Int) → (m_ty [] [] ε μ → G cd_X2_isLowest Q X 107 [] [(0, 0)] ε μ)) ∧ ((0 : Int) < (μ v0 4) → (m_ty [] [] ε μ → G cd_X2_isLowest Q X 107 [] [(0, 1)] ε μ)))) ∧ (v2 < (3 : Int) → (m_ty [(0, (2, v0)), (1, (0, v1)), (2, (0, v2))] [] ε μ → (v1 = 0 → (m_ty [(0, (2, v0)), (1, (0, v1)), (2, (0, v2))] [] ε μ → (kd ε v0 = 2) ∧ (kd ε (fn ε v0 1) = 101) ∧ ((0 : Int) ≤ w32 (3 * v2) ∧ w32 (3 * v2) < ln ε (fn ε v0 1)) ∧ G cd_X2_isLowest Q X 31 [(0, (2, v0)), (1, (0, v1)), (2, (0, v2))] [(1, μ (fn ε v0 1) (w32 (3 * v2)))] ε μ)) ∧ (v1 ≠ 0 → (m_ty [(0, (2, v0)), (1, (0, v1)), (2, (0, v2))] [] ε μ → (kd ε v0 = 2) ∧ (kd ε (fn ε v0 1) = 101) ∧ ((0 : Int) ≤ w32 (3 * v2) ∧ w32 (3 * v2) < ln ε (fn ε v0 1)) ∧ G cd_X2_isLowest Q X 31 [(0, (2, v0)), (1, (0, v1)), (2, (0, v2))] [(1, w64 (-(μ (fn ε v0 1) (w32 (3 * v2)))))] ε μ))))
  intro hty
  replace h := h hty.1 (hty.2.1 _ (List.mem_of_getElem? (i := 1) rfl)) (hty.2.1 _ (List.mem_of_getElem? (i := 2) rfl))
  obtain ⟨ha, hb⟩ := h
  refine And.intro (fun c25 => ?_) (fun c25 => ?_)
  · replace h := ha c25
    clear ha hb
    intro _
    obtain ⟨k1, h⟩ := h
    refine And.intro k1 ?_
    have hj := h
    refine And.intro (fun c1 => ?_) (fun c1 => ?_)
    · intro _
      exact g_X2_isLowest_107 (fun _ _ => (And.intro (Or.inl rfl) (hj _ (((if_pos c1).trans rfl)).symm)))
    · intro _
      exact g_X2_isLowest_107 (fun _ _ => (And.intro (Or.inr rfl) (hj _ (((if_neg (Int.not_le.mpr c1)).trans rfl)).symm)))
  · replace h := hb c25
    clear ha hb
    intro _
    obtain ⟨hc, hj⟩ := h
    obtain ⟨k24, k25⟩ := hc
    refine And.intro (fun c3 => ?_) (fun c3 => ?_)
    · replace k24 := k24 c3
      intro _
      obtain ⟨k5, k6, k7, k8⟩ := k24
      refine And.intro k5 ?_
      refine And.intro k6 ?_
      refine And.intro (And.intro k7 k8) ?_
      exact g_X2_isLowest_31 (fun _ _ _ _ => (hj _ (((if_pos c3).trans rfl)).symm))
    · replace k25 := k25 c3
      intro _
      obtain ⟨k9, k10, k11, k12⟩ := k25
      refine And.intro k9 ?_
      refine And.intro k10 ?_
      refine And.intro (And.intro k11 k12) ?_
      exact g_X2_isLowest_31 (fun _ _ _ _ => (hj _ (((if_neg (c3)).trans rfl)).symm))
set_option maxRecDepth 20000 in
theorem g_X2_isLowest_0 {Q X : m_Po} {v0 v1 : Int} {ε : m_E} {μ : m_M} (h : TY ε μ → i32 v1 → ∀ v2 : Int, v2 = 0 → G cd_X2_isLowest Q X 2 [(0, (2, v0)), (1, (0, v1)), (2, (0, v2))] [] ε μ) : G cd_X2_isLowest Q X 0 [(0, (2, v0)), (1, (0, v1))] [] ε μ := by
  refine G_run (m_in [2, 31, 44, 76, 107]) 19 _ _ _ _ ?_
  show m_ty [(0, (2, v0)), (1, (0, v1))] [] ε μ → ∀ v2 : Int, v2 = 0 → G cd_X2_isLowest Q X 2 [(0, (2, v0)), (1, (0, v1)), (2, (0, v2))] [] ε μ
  intro hty
  replace h := h hty.1 (hty.2.1 _ (List.mem_of_getElem? (i := 1) rfl))
  intro v2 e_v2
  replace h := h v2 e_v2
  exact h
theorem e_X2_isLowest {Q X : m_Po} {v0 v1 : Int} {ε : m_E} {μ : m_M} (h : TY ε μ → i32 v1 → ∀ v2 : Int, v2 = 0 → G cd_X2_isLowest Q X 2 [(0, (2, v0)), (1, (0, v1)), (2, (0, v2))] [] ε μ) : o_X2_isLowest [(2, v0), (0, v1)] ε μ Q X := And.intro rfl (g_X2_isLowest_0 h)
/-! ArchYard$Corner.takeIn(LArchYard$Bounds;IZ)Z -/
set_option maxRecDepth 20000 in
theorem g_X2_takeIn_62 {Q X : m_Po} {v0 v1 v2 v3 v4 : Int} {ε : m_E} {μ : m_M} (h : TY ε μ → i32 v2 → i32 v3 → i32 v4 → ∀ v4_1 : Int, v4_1 = w32 (v4 + 1) → G cd_X2_takeIn Q X 3 [(0, (2, v0)), (1, (2, v1)), (2, (0, v2)), (3, (0, v3)), (4, (0, v4_1))] [] ε μ) : G cd_X2_takeIn Q X 62 [(0, (2, v0)), (1, (2, v1)), (2, (0, v2)), (3, (0, v3)), (4, (0, v4))] [] ε μ := by
  refine G_run (m_in [3, 43, 48, 62]) 11 _ _ _ _ ?_
  show m_ty [(0, (2, v0)), (1, (2, v1)), (2, (0, v2)), (3, (0, v3)), (4, (0, v4))] [] ε μ → ∀ v4_1 : Int, v4_1 = w32 (v4 + 1) → G cd_X2_takeIn Q X 3 [(0, (2, v0)), (1, (2, v1)), (2, (0, v2)), (3, (0, v3)), (4, (0, v4_1))] [] ε μ
  intro hty
  replace h := h hty.1 (hty.2.1 _ (List.mem_of_getElem? (i := 2) rfl)) (hty.2.1 _ (List.mem_of_getElem? (i := 3) rfl)) (hty.2.1 _ (List.mem_of_getElem? (i := 4) rfl))
  intro v4_1 e_v4_1
  replace h := h v4_1 e_v4_1
  exact h
set_option maxRecDepth 20000 in
theorem g_X2_takeIn_48 {Q X : m_Po} {v0 v1 v2 v3 v4 v5 t : Int} {ε : m_E} {μ : m_M} (h : TY ε μ → i32 v2 → i32 v3 → i32 v4 → i32 v5 → i32 t → (t = 0 → kd ε v0 = 2 ∧ kd ε (fn ε v0 0) = 100 ∧ (0 : Int) ≤ v4 ∧ v4 < ln ε (fn ε v0 0) ∧ ∀ μ_1 : m_M, μ_1 = st μ (fn ε v0 0) v4 v5 → G cd_X2_takeIn Q X 62 [(0, (2, v0)), (1, (2, v1)), (2, (0, v2)), (3, (0, v3)), (4, (0, v4))] [] ε μ_1) ∧ (t ≠ 0 → Q 1 ε μ)) : G cd_X2_takeIn Q X 48 [(0, (2, v0)), (1, (2, v1)), (2, (0, v2)), (3, (0, v3)), (4, (0, v4)), (5, (0, v5))] [(0, t)] ε μ := by
  refine G_run (m_in [3, 43, 48, 62]) 11 _ _ _ _ ?_
  show m_ty [(0, (2, v0)), (1, (2, v1)), (2, (0, v2)), (3, (0, v3)), (4, (0, v4)), (5, (0, v5))] [(0, t)] ε μ → (t = 0 → (m_ty [(0, (2, v0)), (1, (2, v1)), (2, (0, v2)), (3, (0, v3)), (4, (0, v4)), (5, (0, v5))] [] ε μ → (kd ε v0 = 2) ∧ (kd ε (fn ε v0 0) = 100) ∧ ((0 : Int) ≤ v4 ∧ v4 < ln ε (fn ε v0 0)) ∧ ∀ μ_1 : m_M, μ_1 = st μ (fn ε v0 0) v4 v5 → G cd_X2_takeIn Q X 62 [(0, (2, v0)), (1, (2, v1)), (2, (0, v2)), (3, (0, v3)), (4, (0, v4))] [] ε μ_1)) ∧ (t ≠ 0 → (m_ty [] [] ε μ → (1 = 0 ∨ 1 = 1) ∧ Q 1 ε μ))
  intro hty
  replace h := h hty.1 (hty.2.1 _ (List.mem_of_getElem? (i := 2) rfl)) (hty.2.1 _ (List.mem_of_getElem? (i := 3) rfl)) (hty.2.1 _ (List.mem_of_getElem? (i := 4) rfl)) (hty.2.1 _ (List.mem_of_getElem? (i := 5) rfl)) (hty.2.2 _ (List.mem_of_getElem? (i := 0) rfl))
  obtain ⟨ha, hb⟩ := h
  refine And.intro (fun c4 => ?_) (fun c4 => ?_)
  · replace h := ha c4
    clear ha hb
    intro _
    obtain ⟨k1, h⟩ := h
    refine And.intro k1 ?_
    obtain ⟨k2, h⟩ := h
    refine And.intro k2 ?_
    obtain ⟨k3, h⟩ := h
    obtain ⟨k4, h⟩ := h
    refine And.intro (And.intro k3 k4) ?_
    intro μ_1 e_μ_1
    replace h := h μ_1 e_μ_1
    exact h
  · replace h := hb c4
    clear ha hb
    intro _
    refine And.intro (Or.inr rfl) ?_
    exact h
set_option maxRecDepth 20000 in
theorem g_X2_takeIn_43 {Q X : m_Po} {v0 v1 v2 v3 v4 v5 : Int} {ε : m_E} {μ : m_M} (h : TY ε μ → i32 v2 → i32 v3 → i32 v4 → i32 v5 → kd ε v0 = 2 ∧ o_X2_isLowest [(2, v0), (0, v3)] ε μ (fun z ε_1 μ_1 => G cd_X2_takeIn Q X 48 [(0, (2, v0)), (1, (2, v1)), (2, (0, v2)), (3, (0, v3)), (4, (0, v4)), (5, (0, v5))] [(0, z)] ε_1 μ_1) m_F) : G cd_X2_takeIn Q X 43 [(0, (2, v0)), (1, (2, v1)), (2, (0, v2)), (3, (0, v3)), (4, (0, v4)), (5, (0, v5))] [] ε μ := by
  refine G_run (m_in [3, 43, 48, 62]) 11 _ _ _ _ ?_
  show m_ty [(0, (2, v0)), (1, (2, v1)), (2, (0, v2)), (3, (0, v3)), (4, (0, v4)), (5, (0, v5))] [] ε μ → (kd ε v0 = 2) ∧ o_X2_isLowest [(2, v0), (0, v3)] ε μ (fun z ε_1 μ_1 => G cd_X2_takeIn Q X 48 [(0, (2, v0)), (1, (2, v1)), (2, (0, v2)), (3, (0, v3)), (4, (0, v4)), (5, (0, v5))] [(0, z)] ε_1 μ_1) m_F
  intro hty
  replace h := h hty.1 (hty.2.1 _ (List.mem_of_getElem? (i := 2) rfl)) (hty.2.1 _ (List.mem_of_getElem? (i := 3) rfl)) (hty.2.1 _ (List.mem_of_getElem? (i := 4) rfl)) (hty.2.1 _ (List.mem_of_getElem? (i := 5) rfl))
  obtain ⟨k1, h⟩ := h
  refine And.intro k1 ?_
  exact h
set_option maxRecDepth 20000 in
theorem g_X2_takeIn_3 {Q X : m_Po} {v0 v1 v2 v3 v4 : Int} {ε : m_E} {μ : m_M} (h : TY ε μ → i32 v2 → i32 v3 → i32 v4 → ((3 : Int) ≤ v4 → Q 0 ε μ) ∧ (v4 < (3 : Int) → kd ε v0 = 2 ∧ kd ε (fn ε v0 2) = 101 ∧ (0 : Int) ≤ v4 ∧ v4 < ln ε (fn ε v0 2) ∧ ((μ (fn ε v0 2) v4) ≤ (0 : Int) → G cd_X2_takeIn Q X 62 [(0, (2, v0)), (1, (2, v1)), (2, (0, v2)), (3, (0, v3)), (4, (0, v4))] [] ε μ) ∧ ((0 : Int) < (μ (fn ε v0 2) v4) → kd ε (fn ε v0 0) = 100 ∧ v4 < ln ε (fn ε v0 0) ∧ ∀ v5 : Int, v5 = μ (fn ε v0 0) v4 → ∀ μ_1 : m_M, μ_1 = st μ (fn ε v0 0) v4 v2 → o_X2_findEdges [(2, v0), (2, v1)] ε μ_1 (fun z ε_1 μ_2 => G cd_X2_takeIn Q X 43 [(0, (2, v0)), (1, (2, v1)), (2, (0, v2)), (3, (0, v3)), (4, (0, v4)), (5, (0, v5))] [] ε_1 μ_2) m_F))) : G cd_X2_takeIn Q X 3 [(0, (2, v0)), (1, (2, v1)), (2, (0, v2)), (3, (0, v3)), (4, (0, v4))] [] ε μ := by
  refine G_run (m_in [3, 43, 48, 62]) 11 _ _ _ _ ?_
  show m_ty [(0, (2, v0)), (1, (2, v1)), (2, (0, v2)), (3, (0, v3)), (4, (0, v4))] [] ε μ → ((3 : Int) ≤ v4 → (m_ty [] [] ε μ → (0 = 0 ∨ 0 = 1) ∧ Q 0 ε μ)) ∧ (v4 < (3 : Int) → (m_ty [(0, (2, v0)), (1, (2, v1)), (2, (0, v2)), (3, (0, v3)), (4, (0, v4))] [] ε μ → (kd ε v0 = 2) ∧ (kd ε (fn ε v0 2) = 101) ∧ ((0 : Int) ≤ v4 ∧ v4 < ln ε (fn ε v0 2)) ∧ ((μ (fn ε v0 2) v4) ≤ (0 : Int) → G cd_X2_takeIn Q X 62 [(0, (2, v0)), (1, (2, v1)), (2, (0, v2)), (3, (0, v3)), (4, (0, v4))] [] ε μ) ∧ ((0 : Int) < (μ (fn ε v0 2) v4) → (m_ty [(0, (2, v0)), (1, (2, v1)), (2, (0, v2)), (3, (0, v3)), (4, (0, v4))] [] ε μ → (kd ε v0 = 2) ∧ (kd ε (fn ε v0 0) = 100) ∧ ((0 : Int) ≤ v4 ∧ v4 < ln ε (fn ε v0 0)) ∧ ∀ v5 : Int, v5 = μ (fn ε v0 0) v4 → (kd ε v0 = 2) ∧ (kd ε (fn ε v0 0) = 100) ∧ ((0 : Int) ≤ v4 ∧ v4 < ln ε (fn ε v0 0)) ∧ ∀ μ_1 : m_M, μ_1 = st μ (fn ε v0 0) v4 v2 → (kd ε v0 = 2) ∧ o_X2_findEdges [(2, v0), (2, v1)] ε μ_1 (fun z ε_1 μ_2 => G cd_X2_takeIn Q X 43 [(0, (2, v0)), (1, (2, v1)), (2, (0, v2)), (3, (0, v3)), (4, (0, v4)), (5, (0, v5))] [] ε_1 μ_2) m_F))))
  intro hty
  replace h := h hty.1 (hty.2.1 _ (List.mem_of_getElem? (i := 2) rfl)) (hty.2.1 _ (List.mem_of_getElem? (i := 3) rfl)) (hty.2.1 _ (List.mem_of_getElem? (i := 4) rfl))
  obtain ⟨ha, hb⟩ := h
  refine And.intro (fun c7 => ?_) (fun c7 => ?_)
  · replace h := ha c7
    clear ha hb
    intro _
    refine And.intro (Or.inl rfl) ?_
    exact h
  · replace h := hb c7
    clear ha hb
    intro _
    obtain ⟨k1, h⟩ := h
    refine And.intro k1 ?_
    obtain ⟨k2, h⟩ := h
    refine And.intro k2 ?_
    obtain ⟨k3, h⟩ := h
    obtain ⟨k4, h⟩ := h
    refine And.intro (And.intro k3 k4) ?_
    obtain ⟨ha, hb⟩ := h
    refine And.intro (fun c6 => ?_) (fun c6 => ?_)
    · replace h := ha c6
      clear ha hb
      exact h
    · replace h := hb c6
      clear ha hb
      intro _
      refine And.intro k1 ?_
      obtain ⟨k5, h⟩ := h
      refine And.intro k5 ?_
      obtain ⟨k6, h⟩ := h
      refine And.intro (And.intro k3 k6) ?_
      intro v5 e_v5
      replace h := h v5 e_v5
      refine And.intro k1 ?_
      refine And.intro k5 ?_
      refine And.intro (And.intro k3 k6) ?_
      intro μ_1 e_μ_1
      replace h := h μ_1 e_μ_1
      refine And.intro k1 ?_
      exact h
set_option maxRecDepth 20000 in
theorem g_X2_takeIn_0 {Q X : m_Po} {v0 v1 v2 v3 : Int} {ε : m_E} {μ : m_M} (h : TY ε μ → i32 v2 → i32 v3 → ∀ v4 : Int, v4 = 0 → G cd_X2_takeIn Q X 3 [(0, (2, v0)), (1, (2, v1)), (2, (0, v2)), (3, (0, v3)), (4, (0, v4))] [] ε μ) : G cd_X2_takeIn Q X 0 [(0, (2, v0)), (1, (2, v1)), (2, (0, v2)), (3, (0, v3))] [] ε μ := by
  refine G_run (m_in [3, 43, 48, 62]) 11 _ _ _ _ ?_
  show m_ty [(0, (2, v0)), (1, (2, v1)), (2, (0, v2)), (3, (0, v3))] [] ε μ → ∀ v4 : Int, v4 = 0 → G cd_X2_takeIn Q X 3 [(0, (2, v0)), (1, (2, v1)), (2, (0, v2)), (3, (0, v3)), (4, (0, v4))] [] ε μ
  intro hty
  replace h := h hty.1 (hty.2.1 _ (List.mem_of_getElem? (i := 2) rfl)) (hty.2.1 _ (List.mem_of_getElem? (i := 3) rfl))
  intro v4 e_v4
  replace h := h v4 e_v4
  exact h
theorem e_X2_takeIn {Q X : m_Po} {v0 v1 v2 v3 : Int} {ε : m_E} {μ : m_M} (h : TY ε μ → i32 v2 → i32 v3 → ∀ v4 : Int, v4 = 0 → G cd_X2_takeIn Q X 3 [(0, (2, v0)), (1, (2, v1)), (2, (0, v2)), (3, (0, v3)), (4, (0, v4))] [] ε μ) : o_X2_takeIn [(2, v0), (2, v1), (0, v2), (0, v3)] ε μ Q X := And.intro rfl (g_X2_takeIn_0 h)
/-! ArchYard$Corner.seek(LArchYard$Bounds;Z)Z -/
set_option maxRecDepth 20000 in
theorem g_X2_seek_96 {Q X : m_Po} {v0 v1 v2 v3 t : Int} {ε : m_E} {μ : m_M} (h : TY ε μ → i32 v2 → i32 v3 → i32 t → (t ≠ 0 → ∀ v3_1 : Int, v3_1 = w32 (v3 + 1) → G cd_X2_seek Q X 66 [(0, (2, v0)), (1, (2, v1)), (2, (0, v2)), (3, (0, v3_1))] [] ε μ) ∧ (t = 0 → Q 0 ε μ)) : G cd_X2_seek Q X 96 [(0, (2, v0)), (1, (2, v1)), (2, (0, v2)), (3, (0, v3))] [(0, t)] ε μ := by
  refine G_run (m_in [38, 64, 66, 78, 96]) 18 _ _ _ _ ?_
  show m_ty [(0, (2, v0)), (1, (2, v1)), (2, (0, v2)), (3, (0, v3))] [(0, t)] ε μ → (t ≠ 0 → (m_ty [(0, (2, v0)), (1, (2, v1)), (2, (0, v2)), (3, (0, v3))] [] ε μ → ∀ v3_1 : Int, v3_1 = w32 (v3 + 1) → G cd_X2_seek Q X 66 [(0, (2, v0)), (1, (2, v1)), (2, (0, v2)), (3, (0, v3_1))] [] ε μ)) ∧ (t = 0 → (m_ty [] [] ε μ → (0 = 0 ∨ 0 = 1) ∧ Q 0 ε μ))
  intro hty
  replace h := h hty.1 (hty.2.1 _ (List.mem_of_getElem? (i := 2) rfl)) (hty.2.1 _ (List.mem_of_getElem? (i := 3) rfl)) (hty.2.2 _ (List.mem_of_getElem? (i := 0) rfl))
  obtain ⟨ha, hb⟩ := h
  refine And.intro (fun c0 => ?_) (fun c0 => ?_)
  · replace h := ha c0
    clear ha hb
    intro _
    intro v3_1 e_v3_1
    replace h := h v3_1 e_v3_1
    exact h
  · replace h := hb c0
    clear ha hb
    intro _
    refine And.intro (Or.inl rfl) ?_
    exact h
set_option maxRecDepth 20000 in
theorem g_X2_seek_78 {Q X : m_Po} {v0 v1 v2 v3 t : Int} {ε : m_E} {μ : m_M} (h : TY ε μ → i32 v2 → i32 v3 → i32 t → ∀ v4 : Int, v4 = t → (v4 ≠ (-1) → kd ε v0 = 2 ∧ o_X2_takeIn [(2, v0), (2, v1), (0, v4), (0, v2)] ε μ (fun z ε_1 μ_1 => G cd_X2_seek Q X 96 [(0, (2, v0)), (1, (2, v1)), (2, (0, v2)), (3, (0, v3))] [(0, z)] ε_1 μ_1) m_F) ∧ (v4 = (-1) → Q 1 ε μ)) : G cd_X2_seek Q X 78 [(0, (2, v0)), (1, (2, v1)), (2, (0, v2)), (3, (0, v3))] [(0, t)] ε μ := by
  refine G_run (m_in [38, 64, 66, 78, 96]) 18 _ _ _ _ ?_
  show m_ty [(0, (2, v0)), (1, (2, v1)), (2, (0, v2)), (3, (0, v3))] [(0, t)] ε μ → ∀ v4 : Int, v4 = t → (v4 ≠ (-1) → (m_ty [(0, (2, v0)), (1, (2, v1)), (2, (0, v2)), (3, (0, v3)), (4, (0, v4))] [] ε μ → (kd ε v0 = 2) ∧ o_X2_takeIn [(2, v0), (2, v1), (0, v4), (0, v2)] ε μ (fun z ε_1 μ_1 => G cd_X2_seek Q X 96 [(0, (2, v0)), (1, (2, v1)), (2, (0, v2)), (3, (0, v3))] [(0, z)] ε_1 μ_1) m_F)) ∧ (v4 = (-1) → (m_ty [] [] ε μ → (1 = 0 ∨ 1 = 1) ∧ Q 1 ε μ))
  intro hty
  replace h := h hty.1 (hty.2.1 _ (List.mem_of_getElem? (i := 2) rfl)) (hty.2.1 _ (List.mem_of_getElem? (i := 3) rfl)) (hty.2.2 _ (List.mem_of_getElem? (i := 0) rfl))
  intro v4 e_v4
  replace h := h v4 e_v4
  obtain ⟨ha, hb⟩ := h
  refine And.intro (fun c1 => ?_) (fun c1 => ?_)
  · replace h := ha c1
    clear ha hb
    intro _
    obtain ⟨k1, h⟩ := h
    refine And.intro k1 ?_
    exact h
  · replace h := hb c1
    clear ha hb
    intro _
    refine And.intro (Or.inr rfl) ?_
    exact h
set_option maxRecDepth 20000 in
theorem g_X2_seek_66 {Q X : m_Po} {v0 v1 v2 v3 : Int} {ε : m_E} {μ : m_M} (h : TY ε μ → i32 v2 → i32 v3 → ((20000 : Int) ≤ v3 → Q 0 ε μ) ∧ (v3 < (20000 : Int) → kd ε v0 = 2 ∧ o_X2_firstBroken [(2, v0), (2, v1)] ε μ (fun z ε_1 μ_1 => G cd_X2_seek Q X 78 [(0, (2, v0)), (1, (2, v1)), (2, (0, v2)), (3, (0, v3))] [(0, z)] ε_1 μ_1) m_F)) : G cd_X2_seek Q X 66 [(0, (2, v0)), (1, (2, v1)), (2, (0, v2)), (3, (0, v3))] [] ε μ := by
  refine G_run (m_in [38, 64, 66, 78, 96]) 18 _ _ _ _ ?_
  show m_ty [(0, (2, v0)), (1, (2, v1)), (2, (0, v2)), (3, (0, v3))] [] ε μ → ((20000 : Int) ≤ v3 → (m_ty [] [] ε μ → (0 = 0 ∨ 0 = 1) ∧ Q 0 ε μ)) ∧ (v3 < (20000 : Int) → (m_ty [(0, (2, v0)), (1, (2, v1)), (2, (0, v2)), (3, (0, v3))] [] ε μ → (kd ε v0 = 2) ∧ o_X2_firstBroken [(2, v0), (2, v1)] ε μ (fun z ε_1 μ_1 => G cd_X2_seek Q X 78 [(0, (2, v0)), (1, (2, v1)), (2, (0, v2)), (3, (0, v3))] [(0, z)] ε_1 μ_1) m_F))
  intro hty
  replace h := h hty.1 (hty.2.1 _ (List.mem_of_getElem? (i := 2) rfl)) (hty.2.1 _ (List.mem_of_getElem? (i := 3) rfl))
  obtain ⟨ha, hb⟩ := h
  refine And.intro (fun c1 => ?_) (fun c1 => ?_)
  · replace h := ha c1
    clear ha hb
    intro _
    refine And.intro (Or.inl rfl) ?_
    exact h
  · replace h := hb c1
    clear ha hb
    intro _
    obtain ⟨k1, h⟩ := h
    refine And.intro k1 ?_
    exact h
set_option maxRecDepth 20000 in
theorem g_X2_seek_64 {Q X : m_Po} {v0 v1 v2 : Int} {ε : m_E} {μ : m_M} (h : TY ε μ → i32 v2 → ∀ v3 : Int, v3 = 0 → G cd_X2_seek Q X 66 [(0, (2, v0)), (1, (2, v1)), (2, (0, v2)), (3, (0, v3))] [] ε μ) : G cd_X2_seek Q X 64 [(0, (2, v0)), (1, (2, v1)), (2, (0, v2))] [] ε μ := by
  refine G_run (m_in [38, 64, 66, 78, 96]) 18 _ _ _ _ ?_
  show m_ty [(0, (2, v0)), (1, (2, v1)), (2, (0, v2))] [] ε μ → ∀ v3 : Int, v3 = 0 → G cd_X2_seek Q X 66 [(0, (2, v0)), (1, (2, v1)), (2, (0, v2)), (3, (0, v3))] [] ε μ
  intro hty
  replace h := h hty.1 (hty.2.1 _ (List.mem_of_getElem? (i := 2) rfl))
  intro v3 e_v3
  replace h := h v3 e_v3
  exact h
set_option maxRecDepth 20000 in
theorem g_X2_seek_38 {Q X : m_Po} {v0 v1 v2 t t_1 t_2 t_3 : Int} {ε : m_E} {μ : m_M} (h : TY ε μ → i32 v2 → i32 t_1 → i32 t_2 → i32 t_3 → kd ε t = 100 ∧ (0 : Int) ≤ t_1 ∧ t_1 < ln ε t ∧ ∀ μ_1 : m_M, μ_1 = st μ t t_1 (w32 (t_2 - t_3)) → kd ε v0 = 2 ∧ kd ε v1 = 1 ∧ kd ε (fn ε v0 0) = 100 ∧ 1 < ln ε (fn ε v0 0) ∧ ∀ μ_2 : m_M, μ_2 = st μ_1 (fn ε v0 0) 1 (w32 ((μ_1 v1 5) - 2)) → 2 < ln ε (fn ε v0 0) ∧ ∀ μ_3 : m_M, μ_3 = st μ_2 (fn ε v0 0) 2 1 → o_X2_findEdges [(2, v0), (2, v1)] ε μ_3 (fun z ε_1 μ_4 => G cd_X2_seek Q X 64 [(0, (2, v0)), (1, (2, v1)), (2, (0, v2))] [] ε_1 μ_4) m_F) : G cd_X2_seek Q X 38 [(0, (2, v0)), (1, (2, v1)), (2, (0, v2))] [(0, t_3), (0, t_2), (0, t_1), (2, t)] ε μ := by
  refine G_run (m_in [38, 64, 66, 78, 96]) 18 _ _ _ _ ?_
  show m_ty [(0, (2, v0)), (1, (2, v1)), (2, (0, v2))] [(0, t_3), (0, t_2), (0, t_1), (2, t)] ε μ → (kd ε t = 100) ∧ ((0 : Int) ≤ t_1 ∧ t_1 < ln ε t) ∧ ∀ μ_1 : m_M, μ_1 = st μ t t_1 (w32 (t_2 - t_3)) → (kd ε v0 = 2) ∧ (kd ε v1 = 1) ∧ (kd ε (fn ε v0 0) = 100) ∧ ((0 : Int) ≤ 1 ∧ 1 < ln ε (fn ε v0 0)) ∧ ∀ μ_2 : m_M, μ_2 = st μ_1 (fn ε v0 0) 1 (w32 ((μ_1 v1 5) - 2)) → (kd ε v0 = 2) ∧ (kd ε (fn ε v0 0) = 100) ∧ ((0 : Int) ≤ 2 ∧ 2 < ln ε (fn ε v0 0)) ∧ ∀ μ_3 : m_M, μ_3 = st μ_2 (fn ε v0 0) 2 1 → (kd ε v0 = 2) ∧ o_X2_findEdges [(2, v0), (2, v1)] ε μ_3 (fun z ε_1 μ_4 => G cd_X2_seek Q X 64 [(0, (2, v0)), (1, (2, v1)), (2, (0, v2))] [] ε_1 μ_4) m_F
  intro hty
  replace h := h hty.1 (hty.2.1 _ (List.mem_of_getElem? (i := 2) rfl)) (hty.2.2 _ (List.mem_of_getElem? (i := 2) rfl)) (hty.2.2 _ (List.mem_of_getElem? (i := 1) rfl)) (hty.2.2 _ (List.mem_of_getElem? (i := 0) rfl))
  obtain ⟨k1, h⟩ := h
  refine And.intro k1 ?_
  obtain ⟨k2, h⟩ := h
  obtain ⟨k3, h⟩ := h
  refine And.intro (And.intro k2 k3) ?_
  intro μ_1 e_μ_1
  replace h := h μ_1 e_μ_1
  obtain ⟨k4, h⟩ := h
  refine And.intro k4 ?_
  obtain ⟨k5, h⟩ := h
  refine And.intro k5 ?_
  obtain ⟨k6, h⟩ := h
  refine And.intro k6 ?_
  obtain ⟨k7, h⟩ := h
  refine And.intro (And.intro (by decide) k7) ?_
  intro μ_2 e_μ_2
  replace h := h μ_2 e_μ_2
  refine And.intro k4 ?_
  refine And.intro k6 ?_
  obtain ⟨k8, h⟩ := h
  refine And.intro (And.intro (by decide) k8) ?_
  intro μ_3 e_μ_3
  replace h := h μ_3 e_μ_3
  refine And.intro k4 ?_
  exact h
set_option maxRecDepth 20000 in
theorem g_X2_seek_0 {Q X : m_Po} {v0 v1 v2 : Int} {ε : m_E} {μ : m_M} (h : TY ε μ → i32 v2 → kd ε v1 = 1 ∧ ((μ v1 5) < (6 : Int) → Q 0 ε μ) ∧ ((6 : Int) ≤ (μ v1 5) → ((μ v1 5) ≤ (48 : Int) → kd ε v0 = 2 ∧ ∀ t : Int, t = (if v2 = 0 then 4 else 3) → kd ε (fn ε v0 0) = 100 ∧ (0 : Int) ≤ 0 ∧ 0 < ln ε (fn ε v0 0) ∧ ∀ μ_1 : m_M, μ_1 = st μ (fn ε v0 0) 0 (w32 ((μ v1 5) - t)) → kd ε v0 = 2 ∧ kd ε v1 = 1 ∧ kd ε (fn ε v0 0) = 100 ∧ 1 < ln ε (fn ε v0 0) ∧ ∀ μ_2 : m_M, μ_2 = st μ_1 (fn ε v0 0) 1 (w32 ((μ_1 v1 5) - 2)) → 2 < ln ε (fn ε v0 0) ∧ ∀ μ_3 : m_M, μ_3 = st μ_2 (fn ε v0 0) 2 1 → o_X2_findEdges [(2, v0), (2, v1)] ε μ_3 (fun z ε_1 μ_4 => G cd_X2_seek Q X 64 [(0, (2, v0)), (1, (2, v1)), (2, (0, v2))] [] ε_1 μ_4) m_F) ∧ ((48 : Int) < (μ v1 5) → Q 0 ε μ))) : G cd_X2_seek Q X 0 [(0, (2, v0)), (1, (2, v1)), (2, (0, v2))] [] ε μ := by
  refine G_run (m_in [38, 64, 66, 78, 96]) 18 _ _ _ _ ?_
  show m_ty [(0, (2, v0)), (1, (2, v1)), (2, (0, v2))] [] ε μ → (kd ε v1 = 1) ∧ ((μ v1 5) < (6 : Int) → (m_ty [] [] ε μ → (0 = 0 ∨ 0 = 1) ∧ Q 0 ε μ)) ∧ ((6 : Int) ≤ (μ v1 5) → (m_ty [(0, (2, v0)), (1, (2, v1)), (2, (0, v2))] [] ε μ → (kd ε v1 = 1) ∧ ((μ v1 5) ≤ (48 : Int) → (m_ty [(0, (2, v0)), (1, (2, v1)), (2, (0, v2))] [] ε μ → (kd ε v0 = 2) ∧ (kd ε v1 = 1) ∧ (v2 = 0 → (m_ty [(0, (2, v0)), (1, (2, v1)), (2, (0, v2))] [(0, μ v1 5), (0, 0), (2, fn ε v0 0)] ε μ → G cd_X2_seek Q X 38 [(0, (2, v0)), (1, (2, v1)), (2, (0, v2))] [(0, 4), (0, μ v1 5), (0, 0), (2, fn ε v0 0)] ε μ)) ∧ (v2 ≠ 0 → (m_ty [(0, (2, v0)), (1, (2, v1)), (2, (0, v2))] [(0, μ v1 5), (0, 0), (2, fn ε v0 0)] ε μ → G cd_X2_seek Q X 38 [(0, (2, v0)), (1, (2, v1)), (2, (0, v2))] [(0, 3), (0, μ v1 5), (0, 0), (2, fn ε v0 0)] ε μ)))) ∧ ((48 : Int) < (μ v1 5) → (m_ty [] [] ε μ → (0 = 0 ∨ 0 = 1) ∧ Q 0 ε μ))))
  intro hty
  replace h := h hty.1 (hty.2.1 _ (List.mem_of_getElem? (i := 2) rfl))
  obtain ⟨k1, h⟩ := h
  refine And.intro k1 ?_
  obtain ⟨ha, hb⟩ := h
  refine And.intro (fun c12 => ?_) (fun c12 => ?_)
  · replace h := ha c12
    clear ha hb
    intro _
    refine And.intro (Or.inl rfl) ?_
    exact h
  · replace h := hb c12
    clear ha hb
    intro _
    refine And.intro k1 ?_
    obtain ⟨ha, hb⟩ := h
    refine And.intro (fun c11 => ?_) (fun c11 => ?_)
    · replace h := ha c11
      clear ha hb
      intro _
      obtain ⟨k2, h⟩ := h
      refine And.intro k2 ?_
      refine And.intro k1 ?_
      have hj := h
      refine And.intro (fun c2 => ?_) (fun c2 => ?_)
      · intro _
        exact g_X2_seek_38 (fun _ _ _ _ _ => (hj _ (((if_pos c2).trans rfl)).symm))
      · intro _
        exact g_X2_seek_38 (fun _ _ _ _ _ => (hj _ (((if_neg (c2)).trans rfl)).symm))
    · replace h := hb c11
      clear ha hb
      intro _
      refine And.intro (Or.inl rfl) ?_
      exact h
theorem e_X2_seek {Q X : m_Po} {v0 v1 v2 : Int} {ε : m_E} {μ : m_M} (h : TY ε μ → i32 v2 → kd ε v1 = 1 ∧ ((μ v1 5) < (6 : Int) → Q 0 ε μ) ∧ ((6 : Int) ≤ (μ v1 5) → ((μ v1 5) ≤ (48 : Int) → kd ε v0 = 2 ∧ ∀ t : Int, t = (if v2 = 0 then 4 else 3) → kd ε (fn ε v0 0) = 100 ∧ (0 : Int) ≤ 0 ∧ 0 < ln ε (fn ε v0 0) ∧ ∀ μ_1 : m_M, μ_1 = st μ (fn ε v0 0) 0 (w32 ((μ v1 5) - t)) → kd ε v0 = 2 ∧ kd ε v1 = 1 ∧ kd ε (fn ε v0 0) = 100 ∧ 1 < ln ε (fn ε v0 0) ∧ ∀ μ_2 : m_M, μ_2 = st μ_1 (fn ε v0 0) 1 (w32 ((μ_1 v1 5) - 2)) → 2 < ln ε (fn ε v0 0) ∧ ∀ μ_3 : m_M, μ_3 = st μ_2 (fn ε v0 0) 2 1 → o_X2_findEdges [(2, v0), (2, v1)] ε μ_3 (fun z ε_1 μ_4 => G cd_X2_seek Q X 64 [(0, (2, v0)), (1, (2, v1)), (2, (0, v2))] [] ε_1 μ_4) m_F) ∧ ((48 : Int) < (μ v1 5) → Q 0 ε μ))) : o_X2_seek [(2, v0), (2, v1), (0, v2)] ε μ Q X := And.intro rfl (g_X2_seek_0 h)
/-! ArchYard$Verdict.beginLine(IJ)V -/
set_option maxRecDepth 20000 in
theorem g_X8_beginLine_10 {Q X : m_Po} {v0 v1 v2 : Int} {ε : m_E} {μ : m_M} (h : TY ε μ → i32 v1 → i64 v2 → kd ε v0 = 7 ∧ ∀ μ_1 : m_M, μ_1 = st μ v0 9 1 → ∀ μ_2 : m_M, μ_2 = st μ_1 v0 8 0 → kd ε (fn ε v0 2) = 101 ∧ (0 : Int) ≤ v1 ∧ v1 < ln ε (fn ε v0 2) ∧ ∀ μ_3 : m_M, μ_3 = st μ_2 (fn ε v0 2) v1 v2 → kd ε (fn ε v0 4) = 100 ∧ v1 < ln ε (fn ε v0 4) ∧ ∀ μ_4 : m_M, μ_4 = st μ_3 (fn ε v0 4) v1 0 → Q 0 ε μ_4) : G cd_X8_beginLine Q X 10 [(0, (2, v0)), (1, (0, v1)), (2, (1, v2))] [] ε μ := by
  refine G_run (m_in [10]) 5 _ _ _ _ ?_
  show m_ty [(0, (2, v0)), (1, (0, v1)), (2, (1, v2))] [] ε μ → (kd ε v0 = 7) ∧ (1 = 0 ∨ 1 = 1) ∧ ∀ μ_1 : m_M, μ_1 = st μ v0 9 1 → (kd ε v0 = 7) ∧ ∀ μ_2 : m_M, μ_2 = st μ_1 v0 8 0 → (kd ε v0 = 7) ∧ (kd ε (fn ε v0 2) = 101) ∧ ((0 : Int) ≤ v1 ∧ v1 < ln ε (fn ε v0 2)) ∧ ∀ μ_3 : m_M, μ_3 = st μ_2 (fn ε v0 2) v1 v2 → (kd ε v0 = 7) ∧ (kd ε (fn ε v0 4) = 100) ∧ ((0 : Int) ≤ v1 ∧ v1 < ln ε (fn ε v0 4)) ∧ ∀ μ_4 : m_M, μ_4 = st μ_3 (fn ε v0 4) v1 0 → Q 0 ε μ_4
  intro hty
  replace h := h hty.1 (hty.2.1 _ (List.mem_of_getElem? (i := 1) rfl)) (hty.2.1 _ (List.mem_of_getElem? (i := 2) rfl))
  obtain ⟨k1, h⟩ := h
  refine And.intro k1 ?_
  refine And.intro (Or.inr rfl) ?_
  intro μ_1 e_μ_1
  replace h := h μ_1 e_μ_1
  refine And.intro k1 ?_
  intro μ_2 e_μ_2
  replace h := h μ_2 e_μ_2
  refine And.intro k1 ?_
  obtain ⟨k2, h⟩ := h
  refine And.intro k2 ?_
  obtain ⟨k3, h⟩ := h
  obtain ⟨k4, h⟩ := h
  refine And.intro (And.intro k3 k4) ?_
  intro μ_3 e_μ_3
  replace h := h μ_3 e_μ_3
  refine And.intro k1 ?_
  obtain ⟨k5, h⟩ := h
  refine And.intro k5 ?_
  obtain ⟨k6, h⟩ := h
  refine And.intro (And.intro k3 k6) ?_
  intro μ_4 e_μ_4
  replace h := h μ_4 e_μ_4
  exact h
set_option maxRecDepth 20000 in
theorem g_X8_beginLine_0 {Q X : m_Po} {v0 v1 v2 : Int} {ε : m_E} {μ : m_M} (h : TY ε μ → i32 v1 → i64 v2 → (v1 = 0 → G cd_X8_beginLine Q X 10 [(0, (2, v0)), (1, (0, v1)), (2, (1, v2))] [] ε μ) ∧ (v1 ≠ 0 → (v1 = (1 : Int) → G cd_X8_beginLine Q X 10 [(0, (2, v0)), (1, (0, v1)), (2, (1, v2))] [] ε μ) ∧ (v1 ≠ (1 : Int) → Q 0 ε μ))) : G cd_X8_beginLine Q X 0 [(0, (2, v0)), (1, (0, v1)), (2, (1, v2))] [] ε μ := by
  refine G_run (m_in [10]) 5 _ _ _ _ ?_
  show m_ty [(0, (2, v0)), (1, (0, v1)), (2, (1, v2))] [] ε μ → (v1 = 0 → G cd_X8_beginLine Q X 10 [(0, (2, v0)), (1, (0, v1)), (2, (1, v2))] [] ε μ) ∧ (v1 ≠ 0 → (m_ty [(0, (2, v0)), (1, (0, v1)), (2, (1, v2))] [] ε μ → (v1 = (1 : Int) → G cd_X8_beginLine Q X 10 [(0, (2, v0)), (1, (0, v1)), (2, (1, v2))] [] ε μ) ∧ (v1 ≠ (1 : Int) → (m_ty [] [] ε μ → Q 0 ε μ))))
  intro hty
  replace h := h hty.1 (hty.2.1 _ (List.mem_of_getElem? (i := 1) rfl)) (hty.2.1 _ (List.mem_of_getElem? (i := 2) rfl))
  obtain ⟨ha, hb⟩ := h
  refine And.intro (fun c1 => ?_) (fun c1 => ?_)
  · replace h := ha c1
    clear ha hb
    exact h
  · replace h := hb c1
    clear ha hb
    intro _
    obtain ⟨ha, hb⟩ := h
    refine And.intro (fun c0 => ?_) (fun c0 => ?_)
    · replace h := ha c0
      clear ha hb
      exact h
    · replace h := hb c0
      clear ha hb
      intro _
      exact h
theorem e_X8_beginLine {Q X : m_Po} {v0 v1 v2 : Int} {ε : m_E} {μ : m_M} (h : TY ε μ → i32 v1 → i64 v2 → (v1 = 0 → G cd_X8_beginLine Q X 10 [(0, (2, v0)), (1, (0, v1)), (2, (1, v2))] [] ε μ) ∧ (v1 ≠ 0 → (v1 = (1 : Int) → G cd_X8_beginLine Q X 10 [(0, (2, v0)), (1, (0, v1)), (2, (1, v2))] [] ε μ) ∧ (v1 ≠ (1 : Int) → Q 0 ε μ))) : o_X8_beginLine [(2, v0), (0, v1), (1, v2)] ε μ Q X := And.intro rfl (g_X8_beginLine_0 h)
/-! ArchYard$Verdict.keepNumber(ILArchYard$Wide;)V -/
set_option maxRecDepth 20000 in
theorem g_X8_keepNumber_0 {Q X : m_Po} {v0 v1 v2 : Int} {ε : m_E} {μ : m_M} (h : TY ε μ → i32 v1 → (v1 < 0 → Q 0 ε μ) ∧ (0 ≤ v1 → ((6 : Int) ≤ v1 → Q 0 ε μ) ∧ (v1 < (6 : Int) → kd ε v0 = 7 ∧ kd ε v2 = 8 ∧ kd ε (fn ε v0 0) = 101 ∧ (0 : Int) ≤ v1 ∧ v1 < ln ε (fn ε v0 0) ∧ ∀ μ_1 : m_M, μ_1 = st μ (fn ε v0 0) v1 (μ v2 0) → kd ε (fn ε v0 1) = 101 ∧ v1 < ln ε (fn ε v0 1) ∧ ∀ μ_2 : m_M, μ_2 = st μ_1 (fn ε v0 1) v1 (μ_1 v2 1) → Q 0 ε μ_2))) : G cd_X8_keepNumber Q X 0 [(0, (2, v0)), (1, (0, v1)), (2, (2, v2))] [] ε μ := by
  refine G_run (m_in []) 5 _ _ _ _ ?_
  show m_ty [(0, (2, v0)), (1, (0, v1)), (2, (2, v2))] [] ε μ → (v1 < 0 → (m_ty [] [] ε μ → Q 0 ε μ)) ∧ (0 ≤ v1 → (m_ty [(0, (2, v0)), (1, (0, v1)), (2, (2, v2))] [] ε μ → ((6 : Int) ≤ v1 → (m_ty [] [] ε μ → Q 0 ε μ)) ∧ (v1 < (6 : Int) → (m_ty [(0, (2, v0)), (1, (0, v1)), (2, (2, v2))] [] ε μ → (kd ε v0 = 7) ∧ (kd ε v2 = 8) ∧ (kd ε (fn ε v0 0) = 101) ∧ ((0 : Int) ≤ v1 ∧ v1 < ln ε (fn ε v0 0)) ∧ ∀ μ_1 : m_M, μ_1 = st μ (fn ε v0 0) v1 (μ v2 0) → (kd ε v0 = 7) ∧ (kd ε v2 = 8) ∧ (kd ε (fn ε v0 1) = 101) ∧ ((0 : Int) ≤ v1 ∧ v1 < ln ε (fn ε v0 1)) ∧ ∀ μ_2 : m_M, μ_2 = st μ_1 (fn ε v0 1) v1 (μ_1 v2 1) → (m_ty [] [] ε μ_2 → Q 0 ε μ_2)))))
  intro hty
  replace h := h hty.1 (hty.2.1 _ (List.mem_of_getElem? (i := 1) rfl))
  obtain ⟨ha, hb⟩ := h
  refine And.intro (fun c8 => ?_) (fun c8 => ?_)
  · replace h := ha c8
    clear ha hb
    intro _
    exact h
  · replace h := hb c8
    clear ha hb
    intro _
    obtain ⟨ha, hb⟩ := h
    refine And.intro (fun c7 => ?_) (fun c7 => ?_)
    · replace h := ha c7
      clear ha hb
      intro _
      exact h
    · replace h := hb c7
      clear ha hb
      intro _
      obtain ⟨k1, h⟩ := h
      refine And.intro k1 ?_
      obtain ⟨k2, h⟩ := h
      refine And.intro k2 ?_
      obtain ⟨k3, h⟩ := h
      refine And.intro k3 ?_
      obtain ⟨k4, h⟩ := h
      obtain ⟨k5, h⟩ := h
      refine And.intro (And.intro k4 k5) ?_
      intro μ_1 e_μ_1
      replace h := h μ_1 e_μ_1
      refine And.intro k1 ?_
      refine And.intro k2 ?_
      obtain ⟨k6, h⟩ := h
      refine And.intro k6 ?_
      obtain ⟨k7, h⟩ := h
      refine And.intro (And.intro k4 k7) ?_
      intro μ_2 e_μ_2
      replace h := h μ_2 e_μ_2
      intro _
      exact h
theorem e_X8_keepNumber {Q X : m_Po} {v0 v1 v2 : Int} {ε : m_E} {μ : m_M} (h : TY ε μ → i32 v1 → (v1 < 0 → Q 0 ε μ) ∧ (0 ≤ v1 → ((6 : Int) ≤ v1 → Q 0 ε μ) ∧ (v1 < (6 : Int) → kd ε v0 = 7 ∧ kd ε v2 = 8 ∧ kd ε (fn ε v0 0) = 101 ∧ (0 : Int) ≤ v1 ∧ v1 < ln ε (fn ε v0 0) ∧ ∀ μ_1 : m_M, μ_1 = st μ (fn ε v0 0) v1 (μ v2 0) → kd ε (fn ε v0 1) = 101 ∧ v1 < ln ε (fn ε v0 1) ∧ ∀ μ_2 : m_M, μ_2 = st μ_1 (fn ε v0 1) v1 (μ_1 v2 1) → Q 0 ε μ_2))) : o_X8_keepNumber [(2, v0), (0, v1), (2, v2)] ε μ Q X := And.intro rfl (g_X8_keepNumber_0 h)
/-! ArchYard$Verdict.keepTouched(II)V -/
set_option maxRecDepth 20000 in
theorem g_X8_keepTouched_10 {Q X : m_Po} {v0 v1 v2 : Int} {ε : m_E} {μ : m_M} (h : TY ε μ → i32 v1 → i32 v2 → kd ε v0 = 7 ∧ kd ε (fn ε v0 4) = 100 ∧ (0 : Int) ≤ v1 ∧ v1 < ln ε (fn ε v0 4) ∧ ∀ v3 : Int, v3 = μ (fn ε v0 4) v1 → (v3 < 0 → Q 0 ε μ) ∧ (0 ≤ v3 → ((48 : Int) ≤ v3 → Q 0 ε μ) ∧ (v3 < (48 : Int) → kd ε (fn ε v0 3) = 100 ∧ (0 : Int) ≤ w32 ((w32 (v1 * 48)) + v3) ∧ w32 ((w32 (v1 * 48)) + v3) < ln ε (fn ε v0 3) ∧ ∀ μ_1 : m_M, μ_1 = st μ (fn ε v0 3) (w32 ((w32 (v1 * 48)) + v3)) v2 → ∀ μ_2 : m_M, μ_2 = st μ_1 (fn ε v0 4) v1 (w32 (v3 + 1)) → Q 0 ε μ_2))) : G cd_X8_keepTouched Q X 10 [(0, (2, v0)), (1, (0, v1)), (2, (0, v2))] [] ε μ := by
  refine G_run (m_in [10]) 8 _ _ _ _ ?_
  show m_ty [(0, (2, v0)), (1, (0, v1)), (2, (0, v2))] [] ε μ → (kd ε v0 = 7) ∧ (kd ε (fn ε v0 4) = 100) ∧ ((0 : Int) ≤ v1 ∧ v1 < ln ε (fn ε v0 4)) ∧ ∀ v3 : Int, v3 = μ (fn ε v0 4) v1 → (v3 < 0 → (m_ty [] [] ε μ → Q 0 ε μ)) ∧ (0 ≤ v3 → (m_ty [(0, (2, v0)), (1, (0, v1)), (2, (0, v2)), (3, (0, v3))] [] ε μ → ((48 : Int) ≤ v3 → (m_ty [] [] ε μ → Q 0 ε μ)) ∧ (v3 < (48 : Int) → (m_ty [(0, (2, v0)), (1, (0, v1)), (2, (0, v2)), (3, (0, v3))] [] ε μ → (kd ε v0 = 7) ∧ (kd ε (fn ε v0 3) = 100) ∧ ((0 : Int) ≤ w32 ((w32 (v1 * 48)) + v3) ∧ w32 ((w32 (v1 * 48)) + v3) < ln ε (fn ε v0 3)) ∧ ∀ μ_1 : m_M, μ_1 = st μ (fn ε v0 3) (w32 ((w32 (v1 * 48)) + v3)) v2 → (kd ε v0 = 7) ∧ (kd ε (fn ε v0 4) = 100) ∧ ((0 : Int) ≤ v1 ∧ v1 < ln ε (fn ε v0 4)) ∧ ∀ μ_2 : m_M, μ_2 = st μ_1 (fn ε v0 4) v1 (w32 (v3 + 1)) → (m_ty [] [] ε μ_2 → Q 0 ε μ_2)))))
  intro hty
  replace h := h hty.1 (hty.2.1 _ (List.mem_of_getElem? (i := 1) rfl)) (hty.2.1 _ (List.mem_of_getElem? (i := 2) rfl))
  obtain ⟨k1, h⟩ := h
  refine And.intro k1 ?_
  obtain ⟨k2, h⟩ := h
  refine And.intro k2 ?_
  obtain ⟨k3, h⟩ := h
  obtain ⟨k4, h⟩ := h
  refine And.intro (And.intro k3 k4) ?_
  intro v3 e_v3
  replace h := h v3 e_v3
  obtain ⟨ha, hb⟩ := h
  refine And.intro (fun c8 => ?_) (fun c8 => ?_)
  · replace h := ha c8
    clear ha hb
    intro _
    exact h
  · replace h := hb c8
    clear ha hb
    intro _
    obtain ⟨ha, hb⟩ := h
    refine And.intro (fun c7 => ?_) (fun c7 => ?_)
    · replace h := ha c7
      clear ha hb
      intro _
      exact h
    · replace h := hb c7
      clear ha hb
      intro _
      refine And.intro k1 ?_
      obtain ⟨k5, h⟩ := h
      refine And.intro k5 ?_
      obtain ⟨k6, h⟩ := h
      obtain ⟨k7, h⟩ := h
      refine And.intro (And.intro k6 k7) ?_
      intro μ_1 e_μ_1
      replace h := h μ_1 e_μ_1
      refine And.intro k1 ?_
      refine And.intro k2 ?_
      refine And.intro (And.intro k3 k4) ?_
      intro μ_2 e_μ_2
      replace h := h μ_2 e_μ_2
      intro _
      exact h
set_option maxRecDepth 20000 in
theorem g_X8_keepTouched_0 {Q X : m_Po} {v0 v1 v2 : Int} {ε : m_E} {μ : m_M} (h : TY ε μ → i32 v1 → i32 v2 → (v1 = 0 → G cd_X8_keepTouched Q X 10 [(0, (2, v0)), (1, (0, v1)), (2, (0, v2))] [] ε μ) ∧ (v1 ≠ 0 → (v1 = (1 : Int) → G cd_X8_keepTouched Q X 10 [(0, (2, v0)), (1, (0, v1)), (2, (0, v2))] [] ε μ) ∧ (v1 ≠ (1 : Int) → Q 0 ε μ))) : G cd_X8_keepTouched Q X 0 [(0, (2, v0)), (1, (0, v1)), (2, (0, v2))] [] ε μ := by
  refine G_run (m_in [10]) 8 _ _ _ _ ?_
  show m_ty [(0, (2, v0)), (1, (0, v1)), (2, (0, v2))] [] ε μ → (v1 = 0 → G cd_X8_keepTouched Q X 10 [(0, (2, v0)), (1, (0, v1)), (2, (0, v2))] [] ε μ) ∧ (v1 ≠ 0 → (m_ty [(0, (2, v0)), (1, (0, v1)), (2, (0, v2))] [] ε μ → (v1 = (1 : Int) → G cd_X8_keepTouched Q X 10 [(0, (2, v0)), (1, (0, v1)), (2, (0, v2))] [] ε μ) ∧ (v1 ≠ (1 : Int) → (m_ty [] [] ε μ → Q 0 ε μ))))
  intro hty
  replace h := h hty.1 (hty.2.1 _ (List.mem_of_getElem? (i := 1) rfl)) (hty.2.1 _ (List.mem_of_getElem? (i := 2) rfl))
  obtain ⟨ha, hb⟩ := h
  refine And.intro (fun c1 => ?_) (fun c1 => ?_)
  · replace h := ha c1
    clear ha hb
    exact h
  · replace h := hb c1
    clear ha hb
    intro _
    obtain ⟨ha, hb⟩ := h
    refine And.intro (fun c0 => ?_) (fun c0 => ?_)
    · replace h := ha c0
      clear ha hb
      exact h
    · replace h := hb c0
      clear ha hb
      intro _
      exact h
theorem e_X8_keepTouched {Q X : m_Po} {v0 v1 v2 : Int} {ε : m_E} {μ : m_M} (h : TY ε μ → i32 v1 → i32 v2 → (v1 = 0 → G cd_X8_keepTouched Q X 10 [(0, (2, v0)), (1, (0, v1)), (2, (0, v2))] [] ε μ) ∧ (v1 ≠ 0 → (v1 = (1 : Int) → G cd_X8_keepTouched Q X 10 [(0, (2, v0)), (1, (0, v1)), (2, (0, v2))] [] ε μ) ∧ (v1 ≠ (1 : Int) → Q 0 ε μ))) : o_X8_keepTouched [(2, v0), (0, v1), (0, v2)] ε μ Q X := And.intro rfl (g_X8_keepTouched_0 h)
/-! ArchYard$Corner.report(LArchYard$Bounds;LArchYard$Verdict;I)V -/
set_option maxRecDepth 20000 in
theorem g_X2_report_139 {Q X : m_Po} {v0 v1 v2 v3 v4 : Int} {ε : m_E} {μ : m_M} (h : TY ε μ → i32 v3 → i32 v4 → ∀ v4_1 : Int, v4_1 = w32 (v4 + 1) → G cd_X2_report Q X 95 [(0, (2, v0)), (1, (2, v1)), (2, (2, v2)), (3, (0, v3)), (4, (0, v4_1))] [] ε μ) : G cd_X2_report Q X 139 [(0, (2, v0)), (1, (2, v1)), (2, (2, v2)), (3, (0, v3)), (4, (0, v4))] [] ε μ := by
  refine G_run (m_in [9, 12, 25, 28, 66, 86, 95, 118, 125, 136, 139]) 21 _ _ _ _ ?_
  show m_ty [(0, (2, v0)), (1, (2, v1)), (2, (2, v2)), (3, (0, v3)), (4, (0, v4))] [] ε μ → ∀ v4_1 : Int, v4_1 = w32 (v4 + 1) → G cd_X2_report Q X 95 [(0, (2, v0)), (1, (2, v1)), (2, (2, v2)), (3, (0, v3)), (4, (0, v4_1))] [] ε μ
  intro hty
  replace h := h hty.1 (hty.2.1 _ (List.mem_of_getElem? (i := 3) rfl)) (hty.2.1 _ (List.mem_of_getElem? (i := 4) rfl))
  intro v4_1 e_v4_1
  replace h := h v4_1 e_v4_1
  exact h
set_option maxRecDepth 20000 in
theorem g_X2_report_136 {Q X : m_Po} {v0 v1 v2 v3 v4 t t_1 t_2 : Int} {ε : m_E} {μ : m_M} (h : TY ε μ → i32 v3 → i32 v4 → i32 t_1 → i32 t_2 → kd ε t = 7 ∧ o_X8_keepTouched [(2, t), (0, t_1), (0, t_2)] ε μ (fun z ε_1 μ_1 => G cd_X2_report Q X 139 [(0, (2, v0)), (1, (2, v1)), (2, (2, v2)), (3, (0, v3)), (4, (0, v4))] [] ε_1 μ_1) m_F) : G cd_X2_report Q X 136 [(0, (2, v0)), (1, (2, v1)), (2, (2, v2)), (3, (0, v3)), (4, (0, v4))] [(0, t_2), (0, t_1), (2, t)] ε μ := by
  refine G_run (m_in [9, 12, 25, 28, 66, 86, 95, 118, 125, 136, 139]) 21 _ _ _ _ ?_
  show m_ty [(0, (2, v0)), (1, (2, v1)), (2, (2, v2)), (3, (0, v3)), (4, (0, v4))] [(0, t_2), (0, t_1), (2, t)] ε μ → (kd ε t = 7) ∧ o_X8_keepTouched [(2, t), (0, t_1), (0, t_2)] ε μ (fun z ε_1 μ_1 => G cd_X2_report Q X 139 [(0, (2, v0)), (1, (2, v1)), (2, (2, v2)), (3, (0, v3)), (4, (0, v4))] [] ε_1 μ_1) m_F
  intro hty
  replace h := h hty.1 (hty.2.1 _ (List.mem_of_getElem? (i := 3) rfl)) (hty.2.1 _ (List.mem_of_getElem? (i := 4) rfl)) (hty.2.2 _ (List.mem_of_getElem? (i := 1) rfl)) (hty.2.2 _ (List.mem_of_getElem? (i := 0) rfl))
  obtain ⟨k1, h⟩ := h
  refine And.intro k1 ?_
  exact h
set_option maxRecDepth 20000 in
theorem g_X2_report_125 {Q X : m_Po} {v0 v1 v2 v3 v4 t : Int} {ε : m_E} {μ : m_M} (h : TY ε μ → i32 v3 → i32 v4 → i32 t → (t ≠ 0 → G cd_X2_report Q X 139 [(0, (2, v0)), (1, (2, v1)), (2, (2, v2)), (3, (0, v3)), (4, (0, v4))] [] ε μ) ∧ (t = 0 → kd ε v1 = 1 ∧ o_X1_codeAt [(2, v1), (0, v4)] ε μ (fun z ε_1 μ_1 => G cd_X2_report Q X 136 [(0, (2, v0)), (1, (2, v1)), (2, (2, v2)), (3, (0, v3)), (4, (0, v4))] [(0, z), (0, v3), (2, v2)] ε_1 μ_1) m_F)) : G cd_X2_report Q X 125 [(0, (2, v0)), (1, (2, v1)), (2, (2, v2)), (3, (0, v3)), (4, (0, v4))] [(0, t)] ε μ := by
  refine G_run (m_in [9, 12, 25, 28, 66, 86, 95, 118, 125, 136, 139]) 21 _ _ _ _ ?_
  show m_ty [(0, (2, v0)), (1, (2, v1)), (2, (2, v2)), (3, (0, v3)), (4, (0, v4))] [(0, t)] ε μ → (t ≠ 0 → G cd_X2_report Q X 139 [(0, (2, v0)), (1, (2, v1)), (2, (2, v2)), (3, (0, v3)), (4, (0, v4))] [] ε μ) ∧ (t = 0 → (m_ty [(0, (2, v0)), (1, (2, v1)), (2, (2, v2)), (3, (0, v3)), (4, (0, v4))] [] ε μ → (kd ε v1 = 1) ∧ o_X1_codeAt [(2, v1), (0, v4)] ε μ (fun z ε_1 μ_1 => G cd_X2_report Q X 136 [(0, (2, v0)), (1, (2, v1)), (2, (2, v2)), (3, (0, v3)), (4, (0, v4))] [(0, z), (0, v3), (2, v2)] ε_1 μ_1) m_F))
  intro hty
  replace h := h hty.1 (hty.2.1 _ (List.mem_of_getElem? (i := 3) rfl)) (hty.2.1 _ (List.mem_of_getElem? (i := 4) rfl)) (hty.2.2 _ (List.mem_of_getElem? (i := 0) rfl))
  obtain ⟨ha, hb⟩ := h
  refine And.intro (fun c1 => ?_) (fun c1 => ?_)
  · replace h := ha c1
    clear ha hb
    exact h
  · replace h := hb c1
    clear ha hb
    intro _
    obtain ⟨k1, h⟩ := h
    refine And.intro k1 ?_
    exact h
set_option maxRecDepth 20000 in
theorem g_X2_report_118 {Q X : m_Po} {v0 v1 v2 v3 v4 : Int} {ε : m_E} {μ : m_M} (h : TY ε μ → i32 v3 → i32 v4 → kd ε v0 = 2 ∧ kd ε (fn ε v0 3) = 8 ∧ o_X9_sign [(2, fn ε v0 3)] ε μ (fun z ε_1 μ_1 => G cd_X2_report Q X 125 [(0, (2, v0)), (1, (2, v1)), (2, (2, v2)), (3, (0, v3)), (4, (0, v4))] [(0, z)] ε_1 μ_1) m_F) : G cd_X2_report Q X 118 [(0, (2, v0)), (1, (2, v1)), (2, (2, v2)), (3, (0, v3)), (4, (0, v4))] [] ε μ := by
  refine G_run (m_in [9, 12, 25, 28, 66, 86, 95, 118, 125, 136, 139]) 21 _ _ _ _ ?_
  show m_ty [(0, (2, v0)), (1, (2, v1)), (2, (2, v2)), (3, (0, v3)), (4, (0, v4))] [] ε μ → (kd ε v0 = 2) ∧ (kd ε (fn ε v0 3) = 8) ∧ o_X9_sign [(2, fn ε v0 3)] ε μ (fun z ε_1 μ_1 => G cd_X2_report Q X 125 [(0, (2, v0)), (1, (2, v1)), (2, (2, v2)), (3, (0, v3)), (4, (0, v4))] [(0, z)] ε_1 μ_1) m_F
  intro hty
  replace h := h hty.1 (hty.2.1 _ (List.mem_of_getElem? (i := 3) rfl)) (hty.2.1 _ (List.mem_of_getElem? (i := 4) rfl))
  obtain ⟨k1, h⟩ := h
  refine And.intro k1 ?_
  obtain ⟨k2, h⟩ := h
  refine And.intro k2 ?_
  exact h
set_option maxRecDepth 20000 in
theorem g_X2_report_95 {Q X : m_Po} {v0 v1 v2 v3 v4 : Int} {ε : m_E} {μ : m_M} (h : TY ε μ → i32 v3 → i32 v4 → kd ε v1 = 1 ∧ ((μ v1 5) ≤ v4 → Q 0 ε μ) ∧ (v4 < (μ v1 5) → ((48 : Int) ≤ v4 → Q 0 ε μ) ∧ (v4 < (48 : Int) → kd ε v0 = 2 ∧ o_X2_weighBound [(2, v0), (2, v1), (0, v4)] ε μ (fun z ε_1 μ_1 => G cd_X2_report Q X 118 [(0, (2, v0)), (1, (2, v1)), (2, (2, v2)), (3, (0, v3)), (4, (0, v4))] [] ε_1 μ_1) m_F))) : G cd_X2_report Q X 95 [(0, (2, v0)), (1, (2, v1)), (2, (2, v2)), (3, (0, v3)), (4, (0, v4))] [] ε μ := by
  refine G_run (m_in [9, 12, 25, 28, 66, 86, 95, 118, 125, 136, 139]) 21 _ _ _ _ ?_
  show m_ty [(0, (2, v0)), (1, (2, v1)), (2, (2, v2)), (3, (0, v3)), (4, (0, v4))] [] ε μ → (kd ε v1 = 1) ∧ ((μ v1 5) ≤ v4 → (m_ty [] [] ε μ → Q 0 ε μ)) ∧ (v4 < (μ v1 5) → (m_ty [(0, (2, v0)), (1, (2, v1)), (2, (2, v2)), (3, (0, v3)), (4, (0, v4))] [] ε μ → ((48 : Int) ≤ v4 → (m_ty [] [] ε μ → Q 0 ε μ)) ∧ (v4 < (48 : Int) → (m_ty [(0, (2, v0)), (1, (2, v1)), (2, (2, v2)), (3, (0, v3)), (4, (0, v4))] [] ε μ → (kd ε v0 = 2) ∧ o_X2_weighBound [(2, v0), (2, v1), (0, v4)] ε μ (fun z ε_1 μ_1 => G cd_X2_report Q X 118 [(0, (2, v0)), (1, (2, v1)), (2, (2, v2)), (3, (0, v3)), (4, (0, v4))] [] ε_1 μ_1) m_F))))
  intro hty
  replace h := h hty.1 (hty.2.1 _ (List.mem_of_getElem? (i := 3) rfl)) (hty.2.1 _ (List.mem_of_getElem? (i := 4) rfl))
  obtain ⟨k1, h⟩ := h
  refine And.intro k1 ?_
  obtain ⟨ha, hb⟩ := h
  refine And.intro (fun c3 => ?_) (fun c3 => ?_)
  · replace h := ha c3
    clear ha hb
    intro _
    exact h
  · replace h := hb c3
    clear ha hb
    intro _
    obtain ⟨ha, hb⟩ := h
    refine And.intro (fun c2 => ?_) (fun c2 => ?_)
    · replace h := ha c2
      clear ha hb
      intro _
      exact h
    · replace h := hb c2
      clear ha hb
      intro _
      obtain ⟨k2, h⟩ := h
      refine And.intro k2 ?_
      exact h
set_option maxRecDepth 20000 in
theorem g_X2_report_86 {Q X : m_Po} {v0 v1 v2 v3 v4 : Int} {ε : m_E} {μ : m_M} (h : TY ε μ → i32 v3 → i32 v4 → ∀ v4_1 : Int, v4_1 = w32 (v4 + 1) → G cd_X2_report Q X 12 [(0, (2, v0)), (1, (2, v1)), (2, (2, v2)), (3, (0, v3)), (4, (0, v4_1))] [] ε μ) : G cd_X2_report Q X 86 [(0, (2, v0)), (1, (2, v1)), (2, (2, v2)), (3, (0, v3)), (4, (0, v4))] [] ε μ := by
  refine G_run (m_in [9, 12, 25, 28, 66, 86, 95, 118, 125, 136, 139]) 21 _ _ _ _ ?_
  show m_ty [(0, (2, v0)), (1, (2, v1)), (2, (2, v2)), (3, (0, v3)), (4, (0, v4))] [] ε μ → ∀ v4_1 : Int, v4_1 = w32 (v4 + 1) → G cd_X2_report Q X 12 [(0, (2, v0)), (1, (2, v1)), (2, (2, v2)), (3, (0, v3)), (4, (0, v4_1))] [] ε μ
  intro hty
  replace h := h hty.1 (hty.2.1 _ (List.mem_of_getElem? (i := 3) rfl)) (hty.2.1 _ (List.mem_of_getElem? (i := 4) rfl))
  intro v4_1 e_v4_1
  replace h := h v4_1 e_v4_1
  exact h
set_option maxRecDepth 20000 in
theorem g_X2_report_66 {Q X : m_Po} {v0 v1 v2 v3 v4 v5 : Int} {ε : m_E} {μ : m_M} (h : TY ε μ → i32 v3 → i32 v4 → i32 v5 → ∀ v5_1 : Int, v5_1 = w32 (v5 + 1) → G cd_X2_report Q X 28 [(0, (2, v0)), (1, (2, v1)), (2, (2, v2)), (3, (0, v3)), (4, (0, v4)), (5, (0, v5_1))] [] ε μ) : G cd_X2_report Q X 66 [(0, (2, v0)), (1, (2, v1)), (2, (2, v2)), (3, (0, v3)), (4, (0, v4)), (5, (0, v5))] [] ε μ := by
  refine G_run (m_in [9, 12, 25, 28, 66, 86, 95, 118, 125, 136, 139]) 21 _ _ _ _ ?_
  show m_ty [(0, (2, v0)), (1, (2, v1)), (2, (2, v2)), (3, (0, v3)), (4, (0, v4)), (5, (0, v5))] [] ε μ → ∀ v5_1 : Int, v5_1 = w32 (v5 + 1) → G cd_X2_report Q X 28 [(0, (2, v0)), (1, (2, v1)), (2, (2, v2)), (3, (0, v3)), (4, (0, v4)), (5, (0, v5_1))] [] ε μ
  intro hty
  replace h := h hty.1 (hty.2.1 _ (List.mem_of_getElem? (i := 3) rfl)) (hty.2.1 _ (List.mem_of_getElem? (i := 4) rfl)) (hty.2.1 _ (List.mem_of_getElem? (i := 5) rfl))
  intro v5_1 e_v5_1
  replace h := h v5_1 e_v5_1
  exact h
set_option maxRecDepth 20000 in
theorem g_X2_report_28 {Q X : m_Po} {v0 v1 v2 v3 v4 v5 : Int} {ε : m_E} {μ : m_M} (h : TY ε μ → i32 v3 → i32 v4 → i32 v5 → ((3 : Int) ≤ v5 → kd ε v0 = 2 ∧ kd ε v2 = 7 ∧ o_X8_keepNumber [(2, v2), (0, w32 ((w32 (3 * v3)) + v4)), (2, fn ε v0 3)] ε μ (fun z ε_1 μ_1 => G cd_X2_report Q X 86 [(0, (2, v0)), (1, (2, v1)), (2, (2, v2)), (3, (0, v3)), (4, (0, v4))] [] ε_1 μ_1) m_F) ∧ (v5 < (3 : Int) → kd ε v0 = 2 ∧ kd ε (fn ε v0 1) = 101 ∧ (0 : Int) ≤ w32 ((w32 (3 * v5)) + v4) ∧ w32 ((w32 (3 * v5)) + v4) < ln ε (fn ε v0 1) ∧ kd ε v1 = 1 ∧ kd ε (fn ε v0 0) = 100 ∧ (0 : Int) ≤ v5 ∧ v5 < ln ε (fn ε v0 0) ∧ kd ε (fn ε v1 3) = 101 ∧ (0 : Int) ≤ μ (fn ε v0 0) v5 ∧ μ (fn ε v0 0) v5 < ln ε (fn ε v1 3) ∧ kd ε (fn ε v0 3) = 8 ∧ o_X9_addProduct [(2, fn ε v0 3), (1, w64 (-(μ (fn ε v0 1) (w32 ((w32 (3 * v5)) + v4))))), (1, μ (fn ε v1 3) (μ (fn ε v0 0) v5))] ε μ (fun z_1 ε_2 μ_2 => G cd_X2_report Q X 66 [(0, (2, v0)), (1, (2, v1)), (2, (2, v2)), (3, (0, v3)), (4, (0, v4)), (5, (0, v5))] [] ε_2 μ_2) m_F)) : G cd_X2_report Q X 28 [(0, (2, v0)), (1, (2, v1)), (2, (2, v2)), (3, (0, v3)), (4, (0, v4)), (5, (0, v5))] [] ε μ := by
  refine G_run (m_in [9, 12, 25, 28, 66, 86, 95, 118, 125, 136, 139]) 21 _ _ _ _ ?_
  show m_ty [(0, (2, v0)), (1, (2, v1)), (2, (2, v2)), (3, (0, v3)), (4, (0, v4)), (5, (0, v5))] [] ε μ → ((3 : Int) ≤ v5 → (m_ty [(0, (2, v0)), (1, (2, v1)), (2, (2, v2)), (3, (0, v3)), (4, (0, v4))] [] ε μ → (kd ε v0 = 2) ∧ (kd ε v2 = 7) ∧ o_X8_keepNumber [(2, v2), (0, w32 ((w32 (3 * v3)) + v4)), (2, fn ε v0 3)] ε μ (fun z ε_1 μ_1 => G cd_X2_report Q X 86 [(0, (2, v0)), (1, (2, v1)), (2, (2, v2)), (3, (0, v3)), (4, (0, v4))] [] ε_1 μ_1) m_F)) ∧ (v5 < (3 : Int) → (m_ty [(0, (2, v0)), (1, (2, v1)), (2, (2, v2)), (3, (0, v3)), (4, (0, v4)), (5, (0, v5))] [] ε μ → (kd ε v0 = 2) ∧ (kd ε v0 = 2) ∧ (kd ε (fn ε v0 1) = 101) ∧ ((0 : Int) ≤ w32 ((w32 (3 * v5)) + v4) ∧ w32 ((w32 (3 * v5)) + v4) < ln ε (fn ε v0 1)) ∧ (kd ε v1 = 1) ∧ (kd ε v0 = 2) ∧ (kd ε (fn ε v0 0) = 100) ∧ ((0 : Int) ≤ v5 ∧ v5 < ln ε (fn ε v0 0)) ∧ (kd ε (fn ε v1 3) = 101) ∧ ((0 : Int) ≤ μ (fn ε v0 0) v5 ∧ μ (fn ε v0 0) v5 < ln ε (fn ε v1 3)) ∧ (kd ε (fn ε v0 3) = 8) ∧ o_X9_addProduct [(2, fn ε v0 3), (1, w64 (-(μ (fn ε v0 1) (w32 ((w32 (3 * v5)) + v4))))), (1, μ (fn ε v1 3) (μ (fn ε v0 0) v5))] ε μ (fun z_1 ε_2 μ_2 => G cd_X2_report Q X 66 [(0, (2, v0)), (1, (2, v1)), (2, (2, v2)), (3, (0, v3)), (4, (0, v4)), (5, (0, v5))] [] ε_2 μ_2) m_F))
  intro hty
  replace h := h hty.1 (hty.2.1 _ (List.mem_of_getElem? (i := 3) rfl)) (hty.2.1 _ (List.mem_of_getElem? (i := 4) rfl)) (hty.2.1 _ (List.mem_of_getElem? (i := 5) rfl))
  obtain ⟨ha, hb⟩ := h
  refine And.intro (fun c14 => ?_) (fun c14 => ?_)
  · replace h := ha c14
    clear ha hb
    intro _
    obtain ⟨k1, h⟩ := h
    refine And.intro k1 ?_
    obtain ⟨k2, h⟩ := h
    refine And.intro k2 ?_
    exact h
  · replace h := hb c14
    clear ha hb
    intro _
    obtain ⟨k3, h⟩ := h
    refine And.intro k3 ?_
    refine And.intro k3 ?_
    obtain ⟨k4, h⟩ := h
    refine And.intro k4 ?_
    obtain ⟨k5, h⟩ := h
    obtain ⟨k6, h⟩ := h
    refine And.intro (And.intro k5 k6) ?_
    obtain ⟨k7, h⟩ := h
    refine And.intro k7 ?_
    refine And.intro k3 ?_
    obtain ⟨k8, h⟩ := h
    refine And.intro k8 ?_
    obtain ⟨k9, h⟩ := h
    obtain ⟨k10, h⟩ := h
    refine And.intro (And.intro k9 k10) ?_
    obtain ⟨k11, h⟩ := h
    refine And.intro k11 ?_
    obtain ⟨k12, h⟩ := h
    obtain ⟨k13, h⟩ := h
    refine And.intro (And.intro k12 k13) ?_
    obtain ⟨k14, h⟩ := h
    refine And.intro k14 ?_
    exact h
set_option maxRecDepth 20000 in
theorem g_X2_report_25 {Q X : m_Po} {v0 v1 v2 v3 v4 : Int} {ε : m_E} {μ : m_M} (h : TY ε μ → i32 v3 → i32 v4 → ∀ v5 : Int, v5 = 0 → G cd_X2_report Q X 28 [(0, (2, v0)), (1, (2, v1)), (2, (2, v2)), (3, (0, v3)), (4, (0, v4)), (5, (0, v5))] [] ε μ) : G cd_X2_report Q X 25 [(0, (2, v0)), (1, (2, v1)), (2, (2, v2)), (3, (0, v3)), (4, (0, v4))] [] ε μ := by
  refine G_run (m_in [9, 12, 25, 28, 66, 86, 95, 118, 125, 136, 139]) 21 _ _ _ _ ?_
  show m_ty [(0, (2, v0)), (1, (2, v1)), (2, (2, v2)), (3, (0, v3)), (4, (0, v4))] [] ε μ → ∀ v5 : Int, v5 = 0 → G cd_X2_report Q X 28 [(0, (2, v0)), (1, (2, v1)), (2, (2, v2)), (3, (0, v3)), (4, (0, v4)), (5, (0, v5))] [] ε μ
  intro hty
  replace h := h hty.1 (hty.2.1 _ (List.mem_of_getElem? (i := 3) rfl)) (hty.2.1 _ (List.mem_of_getElem? (i := 4) rfl))
  intro v5 e_v5
  replace h := h v5 e_v5
  exact h
set_option maxRecDepth 20000 in
theorem g_X2_report_12 {Q X : m_Po} {v0 v1 v2 v3 v4 : Int} {ε : m_E} {μ : m_M} (h : TY ε μ → i32 v3 → i32 v4 → ((3 : Int) ≤ v4 → ∀ v4_1 : Int, v4_1 = 0 → G cd_X2_report Q X 95 [(0, (2, v0)), (1, (2, v1)), (2, (2, v2)), (3, (0, v3)), (4, (0, v4_1))] [] ε μ) ∧ (v4 < (3 : Int) → kd ε v0 = 2 ∧ kd ε (fn ε v0 3) = 8 ∧ o_X9_clear [(2, fn ε v0 3)] ε μ (fun z ε_1 μ_1 => G cd_X2_report Q X 25 [(0, (2, v0)), (1, (2, v1)), (2, (2, v2)), (3, (0, v3)), (4, (0, v4))] [] ε_1 μ_1) m_F)) : G cd_X2_report Q X 12 [(0, (2, v0)), (1, (2, v1)), (2, (2, v2)), (3, (0, v3)), (4, (0, v4))] [] ε μ := by
  refine G_run (m_in [9, 12, 25, 28, 66, 86, 95, 118, 125, 136, 139]) 21 _ _ _ _ ?_
  show m_ty [(0, (2, v0)), (1, (2, v1)), (2, (2, v2)), (3, (0, v3)), (4, (0, v4))] [] ε μ → ((3 : Int) ≤ v4 → (m_ty [(0, (2, v0)), (1, (2, v1)), (2, (2, v2)), (3, (0, v3))] [] ε μ → ∀ v4_1 : Int, v4_1 = 0 → G cd_X2_report Q X 95 [(0, (2, v0)), (1, (2, v1)), (2, (2, v2)), (3, (0, v3)), (4, (0, v4_1))] [] ε μ)) ∧ (v4 < (3 : Int) → (m_ty [(0, (2, v0)), (1, (2, v1)), (2, (2, v2)), (3, (0, v3)), (4, (0, v4))] [] ε μ → (kd ε v0 = 2) ∧ (kd ε (fn ε v0 3) = 8) ∧ o_X9_clear [(2, fn ε v0 3)] ε μ (fun z ε_1 μ_1 => G cd_X2_report Q X 25 [(0, (2, v0)), (1, (2, v1)), (2, (2, v2)), (3, (0, v3)), (4, (0, v4))] [] ε_1 μ_1) m_F))
  intro hty
  replace h := h hty.1 (hty.2.1 _ (List.mem_of_getElem? (i := 3) rfl)) (hty.2.1 _ (List.mem_of_getElem? (i := 4) rfl))
  obtain ⟨ha, hb⟩ := h
  refine And.intro (fun c2 => ?_) (fun c2 => ?_)
  · replace h := ha c2
    clear ha hb
    intro _
    intro v4_1 e_v4_1
    replace h := h v4_1 e_v4_1
    exact h
  · replace h := hb c2
    clear ha hb
    intro _
    obtain ⟨k1, h⟩ := h
    refine And.intro k1 ?_
    obtain ⟨k2, h⟩ := h
    refine And.intro k2 ?_
    exact h
set_option maxRecDepth 20000 in
theorem g_X2_report_9 {Q X : m_Po} {v0 v1 v2 v3 : Int} {ε : m_E} {μ : m_M} (h : TY ε μ → i32 v3 → ∀ v4 : Int, v4 = 0 → G cd_X2_report Q X 12 [(0, (2, v0)), (1, (2, v1)), (2, (2, v2)), (3, (0, v3)), (4, (0, v4))] [] ε μ) : G cd_X2_report Q X 9 [(0, (2, v0)), (1, (2, v1)), (2, (2, v2)), (3, (0, v3))] [] ε μ := by
  refine G_run (m_in [9, 12, 25, 28, 66, 86, 95, 118, 125, 136, 139]) 21 _ _ _ _ ?_
  show m_ty [(0, (2, v0)), (1, (2, v1)), (2, (2, v2)), (3, (0, v3))] [] ε μ → ∀ v4 : Int, v4 = 0 → G cd_X2_report Q X 12 [(0, (2, v0)), (1, (2, v1)), (2, (2, v2)), (3, (0, v3)), (4, (0, v4))] [] ε μ
  intro hty
  replace h := h hty.1 (hty.2.1 _ (List.mem_of_getElem? (i := 3) rfl))
  intro v4 e_v4
  replace h := h v4 e_v4
  exact h
set_option maxRecDepth 20000 in
theorem g_X2_report_0 {Q X : m_Po} {v0 v1 v2 v3 : Int} {ε : m_E} {μ : m_M} (h : TY ε μ → i32 v3 → kd ε v0 = 2 ∧ kd ε v2 = 7 ∧ o_X8_beginLine [(2, v2), (0, v3), (1, μ v0 4)] ε μ (fun z ε_1 μ_1 => G cd_X2_report Q X 9 [(0, (2, v0)), (1, (2, v1)), (2, (2, v2)), (3, (0, v3))] [] ε_1 μ_1) m_F) : G cd_X2_report Q X 0 [(0, (2, v0)), (1, (2, v1)), (2, (2, v2)), (3, (0, v3))] [] ε μ := by
  refine G_run (m_in [9, 12, 25, 28, 66, 86, 95, 118, 125, 136, 139]) 21 _ _ _ _ ?_
  show m_ty [(0, (2, v0)), (1, (2, v1)), (2, (2, v2)), (3, (0, v3))] [] ε μ → (kd ε v0 = 2) ∧ (kd ε v2 = 7) ∧ o_X8_beginLine [(2, v2), (0, v3), (1, μ v0 4)] ε μ (fun z ε_1 μ_1 => G cd_X2_report Q X 9 [(0, (2, v0)), (1, (2, v1)), (2, (2, v2)), (3, (0, v3))] [] ε_1 μ_1) m_F
  intro hty
  replace h := h hty.1 (hty.2.1 _ (List.mem_of_getElem? (i := 3) rfl))
  obtain ⟨k1, h⟩ := h
  refine And.intro k1 ?_
  obtain ⟨k2, h⟩ := h
  refine And.intro k2 ?_
  exact h
theorem e_X2_report {Q X : m_Po} {v0 v1 v2 v3 : Int} {ε : m_E} {μ : m_M} (h : TY ε μ → i32 v3 → kd ε v0 = 2 ∧ kd ε v2 = 7 ∧ o_X8_beginLine [(2, v2), (0, v3), (1, μ v0 4)] ε μ (fun z ε_1 μ_1 => G cd_X2_report Q X 9 [(0, (2, v0)), (1, (2, v1)), (2, (2, v2)), (3, (0, v3))] [] ε_1 μ_1) m_F) : o_X2_report [(2, v0), (2, v1), (2, v2), (0, v3)] ε μ Q X := And.intro rfl (g_X2_report_0 h)
/-! ArchYard$Never.<init>()V -/
set_option maxRecDepth 20000 in
theorem g_X3_init_35 {Q X : m_Po} {t t_1 : Int} {ε : m_E} {μ : m_M} (h : TY ε μ → kd ε t = 3 ∧ ∀ ε_1 : m_E, ε_1 = efin ε t 3 t_1 → Q 0 ε_1 μ) : G cd_X3_init Q X 35 [] [(2, t_1), (2, t)] ε μ := by
  refine G_run (m_in [35]) 3 _ _ _ _ ?_
  show m_ty [] [(2, t_1), (2, t)] ε μ → (kd ε t = 3) ∧ ∀ ε_1 : m_E, ε_1 = efin ε t 3 t_1 → Q 0 ε_1 μ
  intro hty
  replace h := h hty.1 
  obtain ⟨k1, h⟩ := h
  refine And.intro k1 ?_
  intro ε_1 e_ε_1
  replace h := h ε_1 e_ε_1
  exact h
set_option maxRecDepth 20000 in
theorem g_X3_init_0 {Q X : m_Po} {v0 : Int} {ε : m_E} {μ : m_M} (h : TY ε μ → 0 < v0 ∧ ∀ (a : Int) (ε_1 : m_E) (μ_1 : m_M), a = nx ε → ε_1 = ealloc ε 100 4 → μ_1 = mnew μ a → kd ε_1 v0 = 3 ∧ ∀ ε_2 : m_E, ε_2 = efin ε_1 v0 0 a → ∀ (a_1 : Int) (ε_3 : m_E) (μ_2 : m_M), a_1 = nx ε_2 → ε_3 = ealloc ε_2 101 4 → μ_2 = mnew μ_1 a_1 → kd ε_3 v0 = 3 ∧ ∀ ε_4 : m_E, ε_4 = efin ε_3 v0 1 a_1 → ∀ (a_2 : Int) (ε_5 : m_E) (μ_3 : m_M), a_2 = nx ε_4 → ε_5 = ealloc ε_4 101 2304 → μ_3 = mnew μ_2 a_2 → kd ε_5 v0 = 3 ∧ ∀ ε_6 : m_E, ε_6 = efin ε_5 v0 2 a_2 → ∀ (a_3 : Int) (ε_7 : m_E) (μ_4 : m_M), a_3 = nx ε_6 → ε_7 = ealloc ε_6 8 0 → μ_4 = mnew μ_3 a_3 → kd ε_7 a_3 = 8 ∧ o_X9_init [(2, a_3)] ε_7 μ_4 (fun z ε_8 μ_5 => G cd_X3_init Q X 35 [] [(2, a_3), (2, v0)] ε_8 μ_5) m_F) : G cd_X3_init Q X 0 [(0, (2, v0))] [] ε μ := by
  refine G_run (m_in [35]) 3 _ _ _ _ ?_
  show m_ty [(0, (2, v0))] [] ε μ → (0 < v0) ∧ m_cs [] ≤ 8 ∧ ((0 : Int) ≤ 4 ∧ (4 : Int) ≤ 4) ∧ ∀ (a : Int) (ε_1 : m_E) (μ_1 : m_M), a = nx ε → ε_1 = ealloc ε 100 4 → μ_1 = mnew μ a → (kd ε_1 v0 = 3) ∧ ∀ ε_2 : m_E, ε_2 = efin ε_1 v0 0 a → ((0 : Int) ≤ 4 ∧ (4 : Int) ≤ 4) ∧ ∀ (a_1 : Int) (ε_3 : m_E) (μ_2 : m_M), a_1 = nx ε_2 → ε_3 = ealloc ε_2 101 4 → μ_2 = mnew μ_1 a_1 → (kd ε_3 v0 = 3) ∧ ∀ ε_4 : m_E, ε_4 = efin ε_3 v0 1 a_1 → ((0 : Int) ≤ 2304 ∧ (2304 : Int) ≤ 2304) ∧ ∀ (a_2 : Int) (ε_5 : m_E) (μ_3 : m_M), a_2 = nx ε_4 → ε_5 = ealloc ε_4 101 2304 → μ_3 = mnew μ_2 a_2 → (kd ε_5 v0 = 3) ∧ ∀ ε_6 : m_E, ε_6 = efin ε_5 v0 2 a_2 → ∀ (a_3 : Int) (ε_7 : m_E) (μ_4 : m_M), a_3 = nx ε_6 → ε_7 = ealloc ε_6 8 0 → μ_4 = mnew μ_3 a_3 → (kd ε_7 a_3 = 8) ∧ o_X9_init [(2, a_3)] ε_7 μ_4 (fun z ε_8 μ_5 => G cd_X3_init Q X 35 [] [(2, a_3), (2, v0)] ε_8 μ_5) m_F
  intro hty
  replace h := h hty.1 
  obtain ⟨k1, h⟩ := h
  refine And.intro k1 ?_
  refine And.intro (Nat.le_of_ble_eq_true rfl) ?_
  refine And.intro (And.intro (by decide) (by decide)) ?_
  intro a ε_1 μ_1 e_a e_ε_1 e_μ_1
  replace h := h a ε_1 μ_1 e_a e_ε_1 e_μ_1
  obtain ⟨k2, h⟩ := h
  refine And.intro k2 ?_
  intro ε_2 e_ε_2
  replace h := h ε_2 e_ε_2
  refine And.intro (And.intro (by decide) (by decide)) ?_
  intro a_1 ε_3 μ_2 e_a_1 e_ε_3 e_μ_2
  replace h := h a_1 ε_3 μ_2 e_a_1 e_ε_3 e_μ_2
  obtain ⟨k3, h⟩ := h
  refine And.intro k3 ?_
  intro ε_4 e_ε_4
  replace h := h ε_4 e_ε_4
  refine And.intro (And.intro (by decide) (by decide)) ?_
  intro a_2 ε_5 μ_3 e_a_2 e_ε_5 e_μ_3
  replace h := h a_2 ε_5 μ_3 e_a_2 e_ε_5 e_μ_3
  obtain ⟨k4, h⟩ := h
  refine And.intro k4 ?_
  intro ε_6 e_ε_6
  replace h := h ε_6 e_ε_6
  intro a_3 ε_7 μ_4 e_a_3 e_ε_7 e_μ_4
  replace h := h a_3 ε_7 μ_4 e_a_3 e_ε_7 e_μ_4
  obtain ⟨k5, h⟩ := h
  refine And.intro k5 ?_
  exact h
theorem e_X3_init {Q X : m_Po} {v0 : Int} {ε : m_E} {μ : m_M} (h : TY ε μ → 0 < v0 ∧ ∀ (a : Int) (ε_1 : m_E) (μ_1 : m_M), a = nx ε → ε_1 = ealloc ε 100 4 → μ_1 = mnew μ a → kd ε_1 v0 = 3 ∧ ∀ ε_2 : m_E, ε_2 = efin ε_1 v0 0 a → ∀ (a_1 : Int) (ε_3 : m_E) (μ_2 : m_M), a_1 = nx ε_2 → ε_3 = ealloc ε_2 101 4 → μ_2 = mnew μ_1 a_1 → kd ε_3 v0 = 3 ∧ ∀ ε_4 : m_E, ε_4 = efin ε_3 v0 1 a_1 → ∀ (a_2 : Int) (ε_5 : m_E) (μ_3 : m_M), a_2 = nx ε_4 → ε_5 = ealloc ε_4 101 2304 → μ_3 = mnew μ_2 a_2 → kd ε_5 v0 = 3 ∧ ∀ ε_6 : m_E, ε_6 = efin ε_5 v0 2 a_2 → ∀ (a_3 : Int) (ε_7 : m_E) (μ_4 : m_M), a_3 = nx ε_6 → ε_7 = ealloc ε_6 8 0 → μ_4 = mnew μ_3 a_3 → kd ε_7 a_3 = 8 ∧ o_X9_init [(2, a_3)] ε_7 μ_4 (fun z ε_8 μ_5 => G cd_X3_init Q X 35 [] [(2, a_3), (2, v0)] ε_8 μ_5) m_F) : o_X3_init [(2, v0)] ε μ Q X := And.intro rfl (g_X3_init_0 h)
/-! ArchYard$Never.cross(LArchYard$Bounds;II)V -/
set_option maxRecDepth 20000 in
theorem g_X3_cross_55 {Q X : m_Po} {v0 v2 v3 v4 v5 v6 t t_1 t_2 : Int} {ε : m_E} {μ : m_M} (h : TY ε μ → i32 v2 → i32 v3 → i64 t_1 → i64 t_2 → kd ε v6 = 101 ∧ (0 : Int) ≤ v3 ∧ v3 < ln ε v6 ∧ kd ε t = 3 ∧ ∀ μ_1 : m_M, μ_1 = st μ t 6 (w64 (t_1 - (w64 (t_2 * (μ v6 v3))))) → kd ε v4 = 101 ∧ (0 : Int) ≤ v2 ∧ v2 < ln ε v4 ∧ kd ε v5 = 101 ∧ v3 < ln ε v5 ∧ v2 < ln ε v5 ∧ v3 < ln ε v4 ∧ kd ε v0 = 3 ∧ ∀ μ_2 : m_M, μ_2 = st μ_1 v0 7 (w64 ((w64 ((μ_1 v4 v2) * (μ_1 v5 v3))) - (w64 ((μ_1 v5 v2) * (μ_1 v4 v3))))) → Q 0 ε μ_2) : G cd_X3_cross Q X 55 [(0, (2, v0)), (2, (0, v2)), (3, (0, v3)), (4, (2, v4)), (5, (2, v5)), (6, (2, v6))] [(1, t_2), (1, t_1), (2, t)] ε μ := by
  refine G_run (m_in [12, 55]) 4 _ _ _ _ ?_
  show m_ty [(0, (2, v0)), (2, (0, v2)), (3, (0, v3)), (4, (2, v4)), (5, (2, v5)), (6, (2, v6))] [(1, t_2), (1, t_1), (2, t)] ε μ → (kd ε v6 = 101) ∧ ((0 : Int) ≤ v3 ∧ v3 < ln ε v6) ∧ (kd ε t = 3) ∧ ∀ μ_1 : m_M, μ_1 = st μ t 6 (w64 (t_1 - (w64 (t_2 * (μ v6 v3))))) → (kd ε v4 = 101) ∧ ((0 : Int) ≤ v2 ∧ v2 < ln ε v4) ∧ (kd ε v5 = 101) ∧ ((0 : Int) ≤ v3 ∧ v3 < ln ε v5) ∧ (kd ε v5 = 101) ∧ ((0 : Int) ≤ v2 ∧ v2 < ln ε v5) ∧ (kd ε v4 = 101) ∧ ((0 : Int) ≤ v3 ∧ v3 < ln ε v4) ∧ (kd ε v0 = 3) ∧ ∀ μ_2 : m_M, μ_2 = st μ_1 v0 7 (w64 ((w64 ((μ_1 v4 v2) * (μ_1 v5 v3))) - (w64 ((μ_1 v5 v2) * (μ_1 v4 v3))))) → Q 0 ε μ_2
  intro hty
  replace h := h hty.1 (hty.2.1 _ (List.mem_of_getElem? (i := 1) rfl)) (hty.2.1 _ (List.mem_of_getElem? (i := 2) rfl)) (hty.2.2 _ (List.mem_of_getElem? (i := 1) rfl)) (hty.2.2 _ (List.mem_of_getElem? (i := 0) rfl))
  obtain ⟨k1, h⟩ := h
  refine And.intro k1 ?_
  obtain ⟨k2, h⟩ := h
  obtain ⟨k3, h⟩ := h
  refine And.intro (And.intro k2 k3) ?_
  obtain ⟨k4, h⟩ := h
  refine And.intro k4 ?_
  intro μ_1 e_μ_1
  replace h := h μ_1 e_μ_1
  obtain ⟨k5, h⟩ := h
  refine And.intro k5 ?_
  obtain ⟨k6, h⟩ := h
  obtain ⟨k7, h⟩ := h
  refine And.intro (And.intro k6 k7) ?_
  obtain ⟨k8, h⟩ := h
  refine And.intro k8 ?_
  obtain ⟨k9, h⟩ := h
  refine And.intro (And.intro k2 k9) ?_
  refine And.intro k8 ?_
  obtain ⟨k10, h⟩ := h
  refine And.intro (And.intro k6 k10) ?_
  refine And.intro k5 ?_
  obtain ⟨k11, h⟩ := h
  refine And.intro (And.intro k2 k11) ?_
  obtain ⟨k12, h⟩ := h
  refine And.intro k12 ?_
  intro μ_2 e_μ_2
  replace h := h μ_2 e_μ_2
  exact h
set_option maxRecDepth 20000 in
theorem g_X3_cross_12 {Q X : m_Po} {v0 v1 v2 v3 v4 v5 : Int} {ε : m_E} {μ : m_M} (h : TY ε μ → i32 v2 → i32 v3 → kd ε v1 = 1 ∧ ∀ v6 : Int, v6 = fn ε v1 2 → kd ε v5 = 101 ∧ (0 : Int) ≤ v2 ∧ v2 < ln ε v5 ∧ kd ε v6 = 101 ∧ (0 : Int) ≤ v3 ∧ v3 < ln ε v6 ∧ v2 < ln ε v6 ∧ v3 < ln ε v5 ∧ kd ε v0 = 3 ∧ ∀ μ_1 : m_M, μ_1 = st μ v0 5 (w64 ((w64 ((μ v5 v2) * (μ v6 v3))) - (w64 ((μ v6 v2) * (μ v5 v3))))) → kd ε v4 = 101 ∧ v3 < ln ε v4 ∧ v2 < ln ε v4 ∧ kd ε v6 = 101 ∧ (0 : Int) ≤ v3 ∧ v3 < ln ε v6 ∧ kd ε v0 = 3 ∧ ∀ μ_2 : m_M, μ_2 = st μ_1 v0 6 (w64 ((w64 ((μ_1 v6 v2) * (μ_1 v4 v3))) - (w64 ((μ_1 v4 v2) * (μ_1 v6 v3))))) → kd ε v4 = 101 ∧ (0 : Int) ≤ v2 ∧ v2 < ln ε v4 ∧ kd ε v5 = 101 ∧ v3 < ln ε v5 ∧ v2 < ln ε v5 ∧ v3 < ln ε v4 ∧ kd ε v0 = 3 ∧ ∀ μ_3 : m_M, μ_3 = st μ_2 v0 7 (w64 ((w64 ((μ_2 v4 v2) * (μ_2 v5 v3))) - (w64 ((μ_2 v5 v2) * (μ_2 v4 v3))))) → Q 0 ε μ_3) : G cd_X3_cross Q X 12 [(0, (2, v0)), (1, (2, v1)), (2, (0, v2)), (3, (0, v3)), (4, (2, v4)), (5, (2, v5))] [] ε μ := by
  refine G_run (m_in [12, 55]) 4 _ _ _ _ ?_
  show m_ty [(0, (2, v0)), (1, (2, v1)), (2, (0, v2)), (3, (0, v3)), (4, (2, v4)), (5, (2, v5))] [] ε μ → (kd ε v1 = 1) ∧ ∀ v6 : Int, v6 = fn ε v1 2 → (kd ε v5 = 101) ∧ ((0 : Int) ≤ v2 ∧ v2 < ln ε v5) ∧ (kd ε v6 = 101) ∧ ((0 : Int) ≤ v3 ∧ v3 < ln ε v6) ∧ (kd ε v6 = 101) ∧ ((0 : Int) ≤ v2 ∧ v2 < ln ε v6) ∧ (kd ε v5 = 101) ∧ ((0 : Int) ≤ v3 ∧ v3 < ln ε v5) ∧ (kd ε v0 = 3) ∧ ∀ μ_1 : m_M, μ_1 = st μ v0 5 (w64 ((w64 ((μ v5 v2) * (μ v6 v3))) - (w64 ((μ v6 v2) * (μ v5 v3))))) → (kd ε v6 = 101) ∧ ((0 : Int) ≤ v2 ∧ v2 < ln ε v6) ∧ (kd ε v4 = 101) ∧ ((0 : Int) ≤ v3 ∧ v3 < ln ε v4) ∧ (kd ε v4 = 101) ∧ ((0 : Int) ≤ v2 ∧ v2 < ln ε v4) ∧ G cd_X3_cross Q X 55 [(0, (2, v0)), (2, (0, v2)), (3, (0, v3)), (4, (2, v4)), (5, (2, v5)), (6, (2, v6))] [(1, μ_1 v4 v2), (1, w64 ((μ_1 v6 v2) * (μ_1 v4 v3))), (2, v0)] ε μ_1
  intro hty
  replace h := h hty.1 (hty.2.1 _ (List.mem_of_getElem? (i := 2) rfl)) (hty.2.1 _ (List.mem_of_getElem? (i := 3) rfl))
  obtain ⟨k1, h⟩ := h
  refine And.intro k1 ?_
  intro v6 e_v6
  replace h := h v6 e_v6
  obtain ⟨k2, h⟩ := h
  refine And.intro k2 ?_
  obtain ⟨k3, h⟩ := h
  obtain ⟨k4, h⟩ := h
  refine And.intro (And.intro k3 k4) ?_
  obtain ⟨k5, h⟩ := h
  refine And.intro k5 ?_
  obtain ⟨k6, h⟩ := h
  obtain ⟨k7, h⟩ := h
  refine And.intro (And.intro k6 k7) ?_
  refine And.intro k5 ?_
  obtain ⟨k8, h⟩ := h
  refine And.intro (And.intro k3 k8) ?_
  refine And.intro k2 ?_
  obtain ⟨k9, h⟩ := h
  refine And.intro (And.intro k6 k9) ?_
  obtain ⟨k10, h⟩ := h
  refine And.intro k10 ?_
  intro μ_1 e_μ_1
  replace h := h μ_1 e_μ_1
  refine And.intro k5 ?_
  refine And.intro (And.intro k3 k8) ?_
  obtain ⟨k11, h⟩ := h
  refine And.intro k11 ?_
  obtain ⟨k12, h⟩ := h
  refine And.intro (And.intro k6 k12) ?_
  refine And.intro k11 ?_
  obtain ⟨k13, h⟩ := h
  refine And.intro (And.intro k3 k13) ?_
  exact g_X3_cross_55 (fun _ _ _ _ _ => h)
set_option maxRecDepth 20000 in
theorem g_X3_cross_0 {Q X : m_Po} {v0 v1 v2 v3 : Int} {ε : m_E} {μ : m_M} (h : TY ε μ → i32 v2 → i32 v3 → kd ε v1 = 1 ∧ ∀ v4 : Int, v4 = fn ε v1 0 → ∀ v5 : Int, v5 = fn ε v1 1 → kd ε v1 = 1 ∧ ∀ v6 : Int, v6 = fn ε v1 2 → kd ε v5 = 101 ∧ (0 : Int) ≤ v2 ∧ v2 < ln ε v5 ∧ kd ε v6 = 101 ∧ (0 : Int) ≤ v3 ∧ v3 < ln ε v6 ∧ v2 < ln ε v6 ∧ v3 < ln ε v5 ∧ kd ε v0 = 3 ∧ ∀ μ_1 : m_M, μ_1 = st μ v0 5 (w64 ((w64 ((μ v5 v2) * (μ v6 v3))) - (w64 ((μ v6 v2) * (μ v5 v3))))) → kd ε v4 = 101 ∧ v3 < ln ε v4 ∧ v2 < ln ε v4 ∧ kd ε v6 = 101 ∧ (0 : Int) ≤ v3 ∧ v3 < ln ε v6 ∧ kd ε v0 = 3 ∧ ∀ μ_2 : m_M, μ_2 = st μ_1 v0 6 (w64 ((w64 ((μ_1 v6 v2) * (μ_1 v4 v3))) - (w64 ((μ_1 v4 v2) * (μ_1 v6 v3))))) → kd ε v4 = 101 ∧ (0 : Int) ≤ v2 ∧ v2 < ln ε v4 ∧ kd ε v5 = 101 ∧ v3 < ln ε v5 ∧ v2 < ln ε v5 ∧ v3 < ln ε v4 ∧ kd ε v0 = 3 ∧ ∀ μ_3 : m_M, μ_3 = st μ_2 v0 7 (w64 ((w64 ((μ_2 v4 v2) * (μ_2 v5 v3))) - (w64 ((μ_2 v5 v2) * (μ_2 v4 v3))))) → Q 0 ε μ_3) : G cd_X3_cross Q X 0 [(0, (2, v0)), (1, (2, v1)), (2, (0, v2)), (3, (0, v3))] [] ε μ := by
  refine G_run (m_in [12, 55]) 4 _ _ _ _ ?_
  show m_ty [(0, (2, v0)), (1, (2, v1)), (2, (0, v2)), (3, (0, v3))] [] ε μ → (kd ε v1 = 1) ∧ ∀ v4 : Int, v4 = fn ε v1 0 → (kd ε v1 = 1) ∧ ∀ v5 : Int, v5 = fn ε v1 1 → G cd_X3_cross Q X 12 [(0, (2, v0)), (1, (2, v1)), (2, (0, v2)), (3, (0, v3)), (4, (2, v4)), (5, (2, v5))] [] ε μ
  intro hty
  replace h := h hty.1 (hty.2.1 _ (List.mem_of_getElem? (i := 2) rfl)) (hty.2.1 _ (List.mem_of_getElem? (i := 3) rfl))
  obtain ⟨k1, h⟩ := h
  refine And.intro k1 ?_
  intro v4 e_v4
  replace h := h v4 e_v4
  refine And.intro k1 ?_
  intro v5 e_v5
  replace h := h v5 e_v5
  exact g_X3_cross_12 (fun _ _ _ => h)
theorem e_X3_cross {Q X : m_Po} {v0 v1 v2 v3 : Int} {ε : m_E} {μ : m_M} (h : TY ε μ → i32 v2 → i32 v3 → kd ε v1 = 1 ∧ ∀ v4 : Int, v4 = fn ε v1 0 → ∀ v5 : Int, v5 = fn ε v1 1 → kd ε v1 = 1 ∧ ∀ v6 : Int, v6 = fn ε v1 2 → kd ε v5 = 101 ∧ (0 : Int) ≤ v2 ∧ v2 < ln ε v5 ∧ kd ε v6 = 101 ∧ (0 : Int) ≤ v3 ∧ v3 < ln ε v6 ∧ v2 < ln ε v6 ∧ v3 < ln ε v5 ∧ kd ε v0 = 3 ∧ ∀ μ_1 : m_M, μ_1 = st μ v0 5 (w64 ((w64 ((μ v5 v2) * (μ v6 v3))) - (w64 ((μ v6 v2) * (μ v5 v3))))) → kd ε v4 = 101 ∧ v3 < ln ε v4 ∧ v2 < ln ε v4 ∧ kd ε v6 = 101 ∧ (0 : Int) ≤ v3 ∧ v3 < ln ε v6 ∧ kd ε v0 = 3 ∧ ∀ μ_2 : m_M, μ_2 = st μ_1 v0 6 (w64 ((w64 ((μ_1 v6 v2) * (μ_1 v4 v3))) - (w64 ((μ_1 v4 v2) * (μ_1 v6 v3))))) → kd ε v4 = 101 ∧ (0 : Int) ≤ v2 ∧ v2 < ln ε v4 ∧ kd ε v5 = 101 ∧ v3 < ln ε v5 ∧ v2 < ln ε v5 ∧ v3 < ln ε v4 ∧ kd ε v0 = 3 ∧ ∀ μ_3 : m_M, μ_3 = st μ_2 v0 7 (w64 ((w64 ((μ_2 v4 v2) * (μ_2 v5 v3))) - (w64 ((μ_2 v5 v2) * (μ_2 v4 v3))))) → Q 0 ε μ_3) : o_X3_cross [(2, v0), (2, v1), (0, v2), (0, v3)] ε μ Q X := And.intro rfl (g_X3_cross_0 h)
/-! ArchYard$Never.isCrossNothing()Z -/
set_option maxRecDepth 20000 in
theorem g_X3_isCrossNothing_32 {Q X : m_Po} {t : Int} {ε : m_E} {μ : m_M} (h : TY ε μ → i32 t → (t = 0 ∨ t = 1) ∧ Q t ε μ) : G cd_X3_isCrossNothing Q X 32 [] [(0, t)] ε μ := by
  refine G_run (m_in [32]) 7 _ _ _ _ ?_
  show m_ty [] [(0, t)] ε μ → (t = 0 ∨ t = 1) ∧ Q t ε μ
  intro hty
  replace h := h hty.1 (hty.2.2 _ (List.mem_of_getElem? (i := 0) rfl))
  obtain ⟨k1, h⟩ := h
  refine And.intro k1 ?_
  exact h
set_option maxRecDepth 20000 in
theorem g_X3_isCrossNothing_0 {Q X : m_Po} {v0 : Int} {ε : m_E} {μ : m_M} (h : TY ε μ → kd ε v0 = 3 ∧ ∀ t : Int, t = (if (μ v0 5) = (0 : Int) then if (μ v0 6) = (0 : Int) then if (μ v0 7) = (0 : Int) then 1 else 0 else 0 else 0) → Q t ε μ) : G cd_X3_isCrossNothing Q X 0 [(0, (2, v0))] [] ε μ := by
  refine G_run (m_in [32]) 7 _ _ _ _ ?_
  show m_ty [(0, (2, v0))] [] ε μ → (kd ε v0 = 3) ∧ ((μ v0 5) ≠ (0 : Int) → (m_ty [] [] ε μ → G cd_X3_isCrossNothing Q X 32 [] [(0, 0)] ε μ)) ∧ ((μ v0 5) = (0 : Int) → (m_ty [(0, (2, v0))] [] ε μ → (kd ε v0 = 3) ∧ ((μ v0 6) ≠ (0 : Int) → (m_ty [] [] ε μ → G cd_X3_isCrossNothing Q X 32 [] [(0, 0)] ε μ)) ∧ ((μ v0 6) = (0 : Int) → (m_ty [(0, (2, v0))] [] ε μ → (kd ε v0 = 3) ∧ ((μ v0 7) ≠ (0 : Int) → (m_ty [] [] ε μ → G cd_X3_isCrossNothing Q X 32 [] [(0, 0)] ε μ)) ∧ ((μ v0 7) = (0 : Int) → (m_ty [] [] ε μ → G cd_X3_isCrossNothing Q X 32 [] [(0, 1)] ε μ))))))
  intro hty
  replace h := h hty.1 
  obtain ⟨k1, h⟩ := h
  refine And.intro k1 ?_
  have hj := h
  refine And.intro (fun c1 => ?_) (fun c1 => ?_)
  · intro _
    exact g_X3_isCrossNothing_32 (fun _ _ => (And.intro (Or.inl rfl) (hj _ (((if_neg (c1)).trans rfl)).symm)))
  · intro _
    refine And.intro k1 ?_
    refine And.intro (fun c2 => ?_) (fun c2 => ?_)
    · intro _
      exact g_X3_isCrossNothing_32 (fun _ _ => (And.intro (Or.inl rfl) (hj _ (((if_pos c1).trans ((if_neg (c2)).trans rfl))).symm)))
    · intro _
      refine And.intro k1 ?_
      refine And.intro (fun c3 => ?_) (fun c3 => ?_)
      · intro _
        exact g_X3_isCrossNothing_32 (fun _ _ => (And.intro (Or.inl rfl) (hj _ (((if_pos c1).trans ((if_pos c2).trans ((if_neg (c3)).trans rfl)))).symm)))
      · intro _
        exact g_X3_isCrossNothing_32 (fun _ _ => (And.intro (Or.inr rfl) (hj _ (((if_pos c1).trans ((if_pos c2).trans ((if_pos c3).trans rfl)))).symm)))
theorem e_X3_isCrossNothing {Q X : m_Po} {v0 : Int} {ε : m_E} {μ : m_M} (h : TY ε μ → kd ε v0 = 3 ∧ ∀ t : Int, t = (if (μ v0 5) = (0 : Int) then if (μ v0 6) = (0 : Int) then if (μ v0 7) = (0 : Int) then 1 else 0 else 0 else 0) → Q t ε μ) : o_X3_isCrossNothing [(2, v0)] ε μ Q X := And.intro rfl (g_X3_isCrossNothing_0 h)
/-! ArchYard$Never.pick(IIJ)V -/
set_option maxRecDepth 20000 in
theorem g_X3_pick_0 {Q X : m_Po} {v0 v1 v2 v3 : Int} {ε : m_E} {μ : m_M} (h : TY ε μ → i32 v1 → i32 v2 → i64 v3 → (v1 < 0 → Q 0 ε μ) ∧ (0 ≤ v1 → ((4 : Int) ≤ v1 → Q 0 ε μ) ∧ (v1 < (4 : Int) → kd ε v0 = 3 ∧ kd ε (fn ε v0 0) = 100 ∧ (0 : Int) ≤ v1 ∧ v1 < ln ε (fn ε v0 0) ∧ ∀ μ_1 : m_M, μ_1 = st μ (fn ε v0 0) v1 v2 → kd ε (fn ε v0 1) = 101 ∧ v1 < ln ε (fn ε v0 1) ∧ ∀ μ_2 : m_M, μ_2 = st μ_1 (fn ε v0 1) v1 v3 → Q 0 ε μ_2))) : G cd_X3_pick Q X 0 [(0, (2, v0)), (1, (0, v1)), (2, (0, v2)), (3, (1, v3))] [] ε μ := by
  refine G_run (m_in []) 5 _ _ _ _ ?_
  show m_ty [(0, (2, v0)), (1, (0, v1)), (2, (0, v2)), (3, (1, v3))] [] ε μ → (v1 < 0 → (m_ty [] [] ε μ → Q 0 ε μ)) ∧ (0 ≤ v1 → (m_ty [(0, (2, v0)), (1, (0, v1)), (2, (0, v2)), (3, (1, v3))] [] ε μ → ((4 : Int) ≤ v1 → (m_ty [] [] ε μ → Q 0 ε μ)) ∧ (v1 < (4 : Int) → (m_ty [(0, (2, v0)), (1, (0, v1)), (2, (0, v2)), (3, (1, v3))] [] ε μ → (kd ε v0 = 3) ∧ (kd ε (fn ε v0 0) = 100) ∧ ((0 : Int) ≤ v1 ∧ v1 < ln ε (fn ε v0 0)) ∧ ∀ μ_1 : m_M, μ_1 = st μ (fn ε v0 0) v1 v2 → (kd ε v0 = 3) ∧ (kd ε (fn ε v0 1) = 101) ∧ ((0 : Int) ≤ v1 ∧ v1 < ln ε (fn ε v0 1)) ∧ ∀ μ_2 : m_M, μ_2 = st μ_1 (fn ε v0 1) v1 v3 → (m_ty [] [] ε μ_2 → Q 0 ε μ_2)))))
  intro hty
  replace h := h hty.1 (hty.2.1 _ (List.mem_of_getElem? (i := 1) rfl)) (hty.2.1 _ (List.mem_of_getElem? (i := 2) rfl)) (hty.2.1 _ (List.mem_of_getElem? (i := 3) rfl))
  obtain ⟨ha, hb⟩ := h
  refine And.intro (fun c7 => ?_) (fun c7 => ?_)
  · replace h := ha c7
    clear ha hb
    intro _
    exact h
  · replace h := hb c7
    clear ha hb
    intro _
    obtain ⟨ha, hb⟩ := h
    refine And.intro (fun c6 => ?_) (fun c6 => ?_)
    · replace h := ha c6
      clear ha hb
      intro _
      exact h
    · replace h := hb c6
      clear ha hb
      intro _
      obtain ⟨k1, h⟩ := h
      refine And.intro k1 ?_
      obtain ⟨k2, h⟩ := h
      refine And.intro k2 ?_
      obtain ⟨k3, h⟩ := h
      obtain ⟨k4, h⟩ := h
      refine And.intro (And.intro k3 k4) ?_
      intro μ_1 e_μ_1
      replace h := h μ_1 e_μ_1
      refine And.intro k1 ?_
      obtain ⟨k5, h⟩ := h
      refine And.intro k5 ?_
      obtain ⟨k6, h⟩ := h
      refine And.intro (And.intro k3 k6) ?_
      intro μ_2 e_μ_2
      replace h := h μ_2 e_μ_2
      intro _
      exact h
theorem e_X3_pick {Q X : m_Po} {v0 v1 v2 v3 : Int} {ε : m_E} {μ : m_M} (h : TY ε μ → i32 v1 → i32 v2 → i64 v3 → (v1 < 0 → Q 0 ε μ) ∧ (0 ≤ v1 → ((4 : Int) ≤ v1 → Q 0 ε μ) ∧ (v1 < (4 : Int) → kd ε v0 = 3 ∧ kd ε (fn ε v0 0) = 100 ∧ (0 : Int) ≤ v1 ∧ v1 < ln ε (fn ε v0 0) ∧ ∀ μ_1 : m_M, μ_1 = st μ (fn ε v0 0) v1 v2 → kd ε (fn ε v0 1) = 101 ∧ v1 < ln ε (fn ε v0 1) ∧ ∀ μ_2 : m_M, μ_2 = st μ_1 (fn ε v0 1) v1 v3 → Q 0 ε μ_2))) : o_X3_pick [(2, v0), (0, v1), (0, v2), (1, v3)] ε μ Q X := And.intro rfl (g_X3_pick_0 h)
/-! ArchYard$Never.turnAboveZero(I)Z -/
set_option maxRecDepth 20000 in
theorem g_X3_turnAboveZero_56 {Q X : m_Po} {v0 v1 v2 v3 t : Int} {ε : m_E} {μ : m_M} (h : TY ε μ → i32 v1 → i32 v2 → i32 v3 → i32 t → (t = v2 → kd ε v0 = 3 ∧ kd ε (fn ε v0 1) = 101 ∧ (0 : Int) ≤ v3 ∧ v3 < ln ε (fn ε v0 1) ∧ ∀ μ_1 : m_M, μ_1 = st μ (fn ε v0 1) v3 (if 0 < (μ (fn ε v0 1) v3) then μ (fn ε v0 1) v3 else w64 (-(μ (fn ε v0 1) v3))) → ∀ v3_1 : Int, v3_1 = w32 (v3 + 1) → G cd_X3_turnAboveZero Q X 19 [(0, (2, v0)), (1, (0, v1)), (2, (0, v2)), (3, (0, v3_1))] [] ε μ_1) ∧ (t ≠ v2 → Q 0 ε μ)) : G cd_X3_turnAboveZero Q X 56 [(0, (2, v0)), (1, (0, v1)), (2, (0, v2)), (3, (0, v3))] [(0, t)] ε μ := by
  refine G_run (m_in [16, 19, 56]) 15 _ _ _ _ ?_
  show m_ty [(0, (2, v0)), (1, (0, v1)), (2, (0, v2)), (3, (0, v3))] [(0, t)] ε μ → (t = v2 → (m_ty [(0, (2, v0)), (1, (0, v1)), (2, (0, v2)), (3, (0, v3))] [] ε μ → (kd ε v0 = 3) ∧ (kd ε v0 = 3) ∧ (kd ε (fn ε v0 1) = 101) ∧ ((0 : Int) ≤ v3 ∧ v3 < ln ε (fn ε v0 1)) ∧ (kd ε (fn ε v0 1) = 101) ∧ ((0 : Int) ≤ v3 ∧ v3 < ln ε (fn ε v0 1)) ∧ ∀ μ_1 : m_M, μ_1 = st μ (fn ε v0 1) v3 (if 0 < (μ (fn ε v0 1) v3) then μ (fn ε v0 1) v3 else w64 (-(μ (fn ε v0 1) v3))) → ∀ v3_1 : Int, v3_1 = w32 (v3 + 1) → G cd_X3_turnAboveZero Q X 19 [(0, (2, v0)), (1, (0, v1)), (2, (0, v2)), (3, (0, v3_1))] [] ε μ_1)) ∧ (t ≠ v2 → (m_ty [] [] ε μ → (0 = 0 ∨ 0 = 1) ∧ Q 0 ε μ))
  intro hty
  replace h := h hty.1 (hty.2.1 _ (List.mem_of_getElem? (i := 1) rfl)) (hty.2.1 _ (List.mem_of_getElem? (i := 2) rfl)) (hty.2.1 _ (List.mem_of_getElem? (i := 3) rfl)) (hty.2.2 _ (List.mem_of_getElem? (i := 0) rfl))
  obtain ⟨ha, hb⟩ := h
  refine And.intro (fun c4 => ?_) (fun c4 => ?_)
  · replace h := ha c4
    clear ha hb
    intro _
    obtain ⟨k1, h⟩ := h
    refine And.intro k1 ?_
    refine And.intro k1 ?_
    obtain ⟨k2, h⟩ := h
    refine And.intro k2 ?_
    obtain ⟨k3, h⟩ := h
    obtain ⟨k4, h⟩ := h
    refine And.intro (And.intro k3 k4) ?_
    refine And.intro k2 ?_
    refine And.intro (And.intro k3 k4) ?_
    intro μ_1 e_μ_1
    replace h := h μ_1 e_μ_1
    intro v3_1 e_v3_1
    replace h := h v3_1 e_v3_1
    exact h
  · replace h := hb c4
    clear ha hb
    intro _
    refine And.intro (Or.inl rfl) ?_
    exact h
set_option maxRecDepth 20000 in
theorem g_X3_turnAboveZero_19 {Q X : m_Po} {v0 v1 v2 v3 : Int} {ε : m_E} {μ : m_M} (h : TY ε μ → i32 v1 → i32 v2 → i32 v3 → (v1 ≤ v3 → Q 1 ε μ) ∧ (v3 < v1 → ((4 : Int) ≤ v3 → Q 1 ε μ) ∧ (v3 < (4 : Int) → kd ε v0 = 3 ∧ kd ε (fn ε v0 1) = 101 ∧ (0 : Int) ≤ v3 ∧ v3 < ln ε (fn ε v0 1) ∧ ((μ (fn ε v0 1) v3) = (0 : Int) → Q 0 ε μ) ∧ ((μ (fn ε v0 1) v3) ≠ (0 : Int) → ∀ t : Int, t = (if (μ (fn ε v0 1) v3) ≤ (0 : Int) then 0 else 1) → (t = v2 → kd ε v0 = 3 ∧ kd ε (fn ε v0 1) = 101 ∧ (0 : Int) ≤ v3 ∧ v3 < ln ε (fn ε v0 1) ∧ ∀ μ_1 : m_M, μ_1 = st μ (fn ε v0 1) v3 (if 0 < (μ (fn ε v0 1) v3) then μ (fn ε v0 1) v3 else w64 (-(μ (fn ε v0 1) v3))) → ∀ v3_1 : Int, v3_1 = w32 (v3 + 1) → G cd_X3_turnAboveZero Q X 19 [(0, (2, v0)), (1, (0, v1)), (2, (0, v2)), (3, (0, v3_1))] [] ε μ_1) ∧ (t ≠ v2 → Q 0 ε μ))))) : G cd_X3_turnAboveZero Q X 19 [(0, (2, v0)), (1, (0, v1)), (2, (0, v2)), (3, (0, v3))] [] ε μ := by
  refine G_run (m_in [16, 19, 56]) 15 _ _ _ _ ?_
  show m_ty [(0, (2, v0)), (1, (0, v1)), (2, (0, v2)), (3, (0, v3))] [] ε μ → (v1 ≤ v3 → (m_ty [] [] ε μ → (1 = 0 ∨ 1 = 1) ∧ Q 1 ε μ)) ∧ (v3 < v1 → (m_ty [(0, (2, v0)), (1, (0, v1)), (2, (0, v2)), (3, (0, v3))] [] ε μ → ((4 : Int) ≤ v3 → (m_ty [] [] ε μ → (1 = 0 ∨ 1 = 1) ∧ Q 1 ε μ)) ∧ (v3 < (4 : Int) → (m_ty [(0, (2, v0)), (1, (0, v1)), (2, (0, v2)), (3, (0, v3))] [] ε μ → (kd ε v0 = 3) ∧ (kd ε (fn ε v0 1) = 101) ∧ ((0 : Int) ≤ v3 ∧ v3 < ln ε (fn ε v0 1)) ∧ ((μ (fn ε v0 1) v3) = (0 : Int) → (m_ty [] [] ε μ → (0 = 0 ∨ 0 = 1) ∧ Q 0 ε μ)) ∧ ((μ (fn ε v0 1) v3) ≠ (0 : Int) → (m_ty [(0, (2, v0)), (1, (0, v1)), (2, (0, v2)), (3, (0, v3))] [] ε μ → (kd ε v0 = 3) ∧ (kd ε (fn ε v0 1) = 101) ∧ ((0 : Int) ≤ v3 ∧ v3 < ln ε (fn ε v0 1)) ∧ ((μ (fn ε v0 1) v3) ≤ (0 : Int) → (m_ty [(0, (2, v0)), (1, (0, v1)), (2, (0, v2)), (3, (0, v3))] [] ε μ → G cd_X3_turnAboveZero Q X 56 [(0, (2, v0)), (1, (0, v1)), (2, (0, v2)), (3, (0, v3))] [(0, 0)] ε μ)) ∧ ((0 : Int) < (μ (fn ε v0 1) v3) → (m_ty [(0, (2, v0)), (1, (0, v1)), (2, (0, v2)), (3, (0, v3))] [] ε μ → G cd_X3_turnAboveZero Q X 56 [(0, (2, v0)), (1, (0, v1)), (2, (0, v2)), (3, (0, v3))] [(0, 1)] ε μ))))))))
  intro hty
  replace h := h hty.1 (hty.2.1 _ (List.mem_of_getElem? (i := 1) rfl)) (hty.2.1 _ (List.mem_of_getElem? (i := 2) rfl)) (hty.2.1 _ (List.mem_of_getElem? (i := 3) rfl))
  obtain ⟨ha, hb⟩ := h
  refine And.intro (fun c12 => ?_) (fun c12 => ?_)
  · replace h := ha c12
    clear ha hb
    intro _
    refine And.intro (Or.inr rfl) ?_
    exact h
  · replace h := hb c12
    clear ha hb
    intro _
    obtain ⟨ha, hb⟩ := h
    refine And.intro (fun c11 => ?_) (fun c11 => ?_)
    · replace h := ha c11
      clear ha hb
      intro _
      refine And.intro (Or.inr rfl) ?_
      exact h
    · replace h := hb c11
      clear ha hb
      intro _
      obtain ⟨k1, h⟩ := h
      refine And.intro k1 ?_
      obtain ⟨k2, h⟩ := h
      refine And.intro k2 ?_
      obtain ⟨k3, h⟩ := h
      obtain ⟨k4, h⟩ := h
      refine And.intro (And.intro k3 k4) ?_
      obtain ⟨ha, hb⟩ := h
      refine And.intro (fun c10 => ?_) (fun c10 => ?_)
      · replace h := ha c10
        clear ha hb
        intro _
        refine And.intro (Or.inl rfl) ?_
        exact h
      · replace h := hb c10
        clear ha hb
        intro _
        refine And.intro k1 ?_
        refine And.intro k2 ?_
        refine And.intro (And.intro k3 k4) ?_
        have hj := h
        refine And.intro (fun c4 => ?_) (fun c4 => ?_)
        · intro _
          exact g_X3_turnAboveZero_56 (fun _ _ _ _ _ => (hj _ (((if_pos c4).trans rfl)).symm))
        · intro _
          exact g_X3_turnAboveZero_56 (fun _ _ _ _ _ => (hj _ (((if_neg (Int.not_le.mpr c4)).trans rfl)).symm))
set_option maxRecDepth 20000 in
theorem g_X3_turnAboveZero_16 {Q X : m_Po} {v0 v1 t : Int} {ε : m_E} {μ : m_M} (h : TY ε μ → i32 v1 → i32 t → ∀ v2 : Int, v2 = t → ∀ v3 : Int, v3 = 0 → G cd_X3_turnAboveZero Q X 19 [(0, (2, v0)), (1, (0, v1)), (2, (0, v2)), (3, (0, v3))] [] ε μ) : G cd_X3_turnAboveZero Q X 16 [(0, (2, v0)), (1, (0, v1))] [(0, t)] ε μ := by
  refine G_run (m_in [16, 19, 56]) 15 _ _ _ _ ?_
  show m_ty [(0, (2, v0)), (1, (0, v1))] [(0, t)] ε μ → ∀ v2 : Int, v2 = t → ∀ v3 : Int, v3 = 0 → G cd_X3_turnAboveZero Q X 19 [(0, (2, v0)), (1, (0, v1)), (2, (0, v2)), (3, (0, v3))] [] ε μ
  intro hty
  replace h := h hty.1 (hty.2.1 _ (List.mem_of_getElem? (i := 1) rfl)) (hty.2.2 _ (List.mem_of_getElem? (i := 0) rfl))
  intro v2 e_v2
  replace h := h v2 e_v2
  intro v3 e_v3
  replace h := h v3 e_v3
  exact h
set_option maxRecDepth 20000 in
theorem g_X3_turnAboveZero_0 {Q X : m_Po} {v0 v1 : Int} {ε : m_E} {μ : m_M} (h : TY ε μ → i32 v1 → kd ε v0 = 3 ∧ kd ε (fn ε v0 1) = 101 ∧ 0 < ln ε (fn ε v0 1) ∧ ∀ t : Int, t = (if (μ (fn ε v0 1) 0) ≤ (0 : Int) then 0 else 1) → ∀ v2 : Int, v2 = t → ∀ v3 : Int, v3 = 0 → G cd_X3_turnAboveZero Q X 19 [(0, (2, v0)), (1, (0, v1)), (2, (0, v2)), (3, (0, v3))] [] ε μ) : G cd_X3_turnAboveZero Q X 0 [(0, (2, v0)), (1, (0, v1))] [] ε μ := by
  refine G_run (m_in [16, 19, 56]) 15 _ _ _ _ ?_
  show m_ty [(0, (2, v0)), (1, (0, v1))] [] ε μ → (kd ε v0 = 3) ∧ (kd ε (fn ε v0 1) = 101) ∧ ((0 : Int) ≤ 0 ∧ 0 < ln ε (fn ε v0 1)) ∧ ((μ (fn ε v0 1) 0) ≤ (0 : Int) → (m_ty [(0, (2, v0)), (1, (0, v1))] [] ε μ → G cd_X3_turnAboveZero Q X 16 [(0, (2, v0)), (1, (0, v1))] [(0, 0)] ε μ)) ∧ ((0 : Int) < (μ (fn ε v0 1) 0) → (m_ty [(0, (2, v0)), (1, (0, v1))] [] ε μ → G cd_X3_turnAboveZero Q X 16 [(0, (2, v0)), (1, (0, v1))] [(0, 1)] ε μ))
  intro hty
  replace h := h hty.1 (hty.2.1 _ (List.mem_of_getElem? (i := 1) rfl))
  obtain ⟨k1, h⟩ := h
  refine And.intro k1 ?_
  obtain ⟨k2, h⟩ := h
  refine And.intro k2 ?_
  obtain ⟨k3, h⟩ := h
  refine And.intro (And.intro (by decide) k3) ?_
  have hj := h
  refine And.intro (fun c3 => ?_) (fun c3 => ?_)
  · intro _
    exact g_X3_turnAboveZero_16 (fun _ _ _ => (hj _ (((if_pos c3).trans rfl)).symm))
  · intro _
    exact g_X3_turnAboveZero_16 (fun _ _ _ => (hj _ (((if_neg (Int.not_le.mpr c3)).trans rfl)).symm))
theorem e_X3_turnAboveZero {Q X : m_Po} {v0 v1 : Int} {ε : m_E} {μ : m_M} (h : TY ε μ → i32 v1 → kd ε v0 = 3 ∧ kd ε (fn ε v0 1) = 101 ∧ 0 < ln ε (fn ε v0 1) ∧ ∀ t : Int, t = (if (μ (fn ε v0 1) 0) ≤ (0 : Int) then 0 else 1) → ∀ v2 : Int, v2 = t → ∀ v3 : Int, v3 = 0 → G cd_X3_turnAboveZero Q X 19 [(0, (2, v0)), (1, (0, v1)), (2, (0, v2)), (3, (0, v3))] [] ε μ) : o_X3_turnAboveZero [(2, v0), (0, v1)] ε μ Q X := And.intro rfl (g_X3_turnAboveZero_0 h)
/-! ArchYard$Never.findLeft(LArchYard$Bounds;I)V -/
set_option maxRecDepth 20000 in
theorem g_X3_findLeft_43 {Q X : m_Po} {v0 v1 v2 v3 : Int} {ε : m_E} {μ : m_M} (h : TY ε μ → i32 v2 → i32 v3 → ∀ v3_1 : Int, v3_1 = w32 (v3 + 1) → G cd_X3_findLeft Q X 9 [(0, (2, v0)), (1, (2, v1)), (2, (0, v2)), (3, (0, v3_1))] [] ε μ) : G cd_X3_findLeft Q X 43 [(0, (2, v0)), (1, (2, v1)), (2, (0, v2)), (3, (0, v3))] [] ε μ := by
  refine G_run (m_in [7, 9, 43]) 8 _ _ _ _ ?_
  show m_ty [(0, (2, v0)), (1, (2, v1)), (2, (0, v2)), (3, (0, v3))] [] ε μ → ∀ v3_1 : Int, v3_1 = w32 (v3 + 1) → G cd_X3_findLeft Q X 9 [(0, (2, v0)), (1, (2, v1)), (2, (0, v2)), (3, (0, v3_1))] [] ε μ
  intro hty
  replace h := h hty.1 (hty.2.1 _ (List.mem_of_getElem? (i := 2) rfl)) (hty.2.1 _ (List.mem_of_getElem? (i := 3) rfl))
  intro v3_1 e_v3_1
  replace h := h v3_1 e_v3_1
  exact h
set_option maxRecDepth 20000 in
theorem g_X3_findLeft_9 {Q X : m_Po} {v0 v1 v2 v3 : Int} {ε : m_E} {μ : m_M} (h : TY ε μ → i32 v2 → i32 v3 → (v2 ≤ v3 → Q 0 ε μ) ∧ (v3 < v2 → ((4 : Int) ≤ v3 → Q 0 ε μ) ∧ (v3 < (4 : Int) → kd ε v0 = 3 ∧ kd ε (fn ε v0 1) = 101 ∧ (0 : Int) ≤ v3 ∧ v3 < ln ε (fn ε v0 1) ∧ kd ε v1 = 1 ∧ kd ε (fn ε v0 0) = 100 ∧ v3 < ln ε (fn ε v0 0) ∧ kd ε (fn ε v1 3) = 101 ∧ (0 : Int) ≤ μ (fn ε v0 0) v3 ∧ μ (fn ε v0 0) v3 < ln ε (fn ε v1 3) ∧ kd ε (fn ε v0 3) = 8 ∧ o_X9_addProduct [(2, fn ε v0 3), (1, μ (fn ε v0 1) v3), (1, μ (fn ε v1 3) (μ (fn ε v0 0) v3))] ε μ (fun z ε_1 μ_1 => G cd_X3_findLeft Q X 43 [(0, (2, v0)), (1, (2, v1)), (2, (0, v2)), (3, (0, v3))] [] ε_1 μ_1) m_F))) : G cd_X3_findLeft Q X 9 [(0, (2, v0)), (1, (2, v1)), (2, (0, v2)), (3, (0, v3))] [] ε μ := by
  refine G_run (m_in [7, 9, 43]) 8 _ _ _ _ ?_
  show m_ty [(0, (2, v0)), (1, (2, v1)), (2, (0, v2)), (3, (0, v3))] [] ε μ → (v2 ≤ v3 → (m_ty [] [] ε μ → Q 0 ε μ)) ∧ (v3 < v2 → (m_ty [(0, (2, v0)), (1, (2, v1)), (2, (0, v2)), (3, (0, v3))] [] ε μ → ((4 : Int) ≤ v3 → (m_ty [] [] ε μ → Q 0 ε μ)) ∧ (v3 < (4 : Int) → (m_ty [(0, (2, v0)), (1, (2, v1)), (2, (0, v2)), (3, (0, v3))] [] ε μ → (kd ε v0 = 3) ∧ (kd ε v0 = 3) ∧ (kd ε (fn ε v0 1) = 101) ∧ ((0 : Int) ≤ v3 ∧ v3 < ln ε (fn ε v0 1)) ∧ (kd ε v1 = 1) ∧ (kd ε v0 = 3) ∧ (kd ε (fn ε v0 0) = 100) ∧ ((0 : Int) ≤ v3 ∧ v3 < ln ε (fn ε v0 0)) ∧ (kd ε (fn ε v1 3) = 101) ∧ ((0 : Int) ≤ μ (fn ε v0 0) v3 ∧ μ (fn ε v0 0) v3 < ln ε (fn ε v1 3)) ∧ (kd ε (fn ε v0 3) = 8) ∧ o_X9_addProduct [(2, fn ε v0 3), (1, μ (fn ε v0 1) v3), (1, μ (fn ε v1 3) (μ (fn ε v0 0) v3))] ε μ (fun z ε_1 μ_1 => G cd_X3_findLeft Q X 43 [(0, (2, v0)), (1, (2, v1)), (2, (0, v2)), (3, (0, v3))] [] ε_1 μ_1) m_F))))
  intro hty
  replace h := h hty.1 (hty.2.1 _ (List.mem_of_getElem? (i := 2) rfl)) (hty.2.1 _ (List.mem_of_getElem? (i := 3) rfl))
  obtain ⟨ha, hb⟩ := h
  refine And.intro (fun c12 => ?_) (fun c12 => ?_)
  · replace h := ha c12
    clear ha hb
    intro _
    exact h
  · replace h := hb c12
    clear ha hb
    intro _
    obtain ⟨ha, hb⟩ := h
    refine And.intro (fun c11 => ?_) (fun c11 => ?_)
    · replace h := ha c11
      clear ha hb
      intro _
      exact h
    · replace h := hb c11
      clear ha hb
      intro _
      obtain ⟨k1, h⟩ := h
      refine And.intro k1 ?_
      refine And.intro k1 ?_
      obtain ⟨k2, h⟩ := h
      refine And.intro k2 ?_
      obtain ⟨k3, h⟩ := h
      obtain ⟨k4, h⟩ := h
      refine And.intro (And.intro k3 k4) ?_
      obtain ⟨k5, h⟩ := h
      refine And.intro k5 ?_
      refine And.intro k1 ?_
      obtain ⟨k6, h⟩ := h
      refine And.intro k6 ?_
      obtain ⟨k7, h⟩ := h
      refine And.intro (And.intro k3 k7) ?_
      obtain ⟨k8, h⟩ := h
      refine And.intro k8 ?_
      obtain ⟨k9, h⟩ := h
      obtain ⟨k10, h⟩ := h
      refine And.intro (And.intro k9 k10) ?_
      obtain ⟨k11, h⟩ := h
      refine And.intro k11 ?_
      exact h
set_option maxRecDepth 20000 in
theorem g_X3_findLeft_7 {Q X : m_Po} {v0 v1 v2 : Int} {ε : m_E} {μ : m_M} (h : TY ε μ → i32 v2 → ∀ v3 : Int, v3 = 0 → G cd_X3_findLeft Q X 9 [(0, (2, v0)), (1, (2, v1)), (2, (0, v2)), (3, (0, v3))] [] ε μ) : G cd_X3_findLeft Q X 7 [(0, (2, v0)), (1, (2, v1)), (2, (0, v2))] [] ε μ := by
  refine G_run (m_in [7, 9, 43]) 8 _ _ _ _ ?_
  show m_ty [(0, (2, v0)), (1, (2, v1)), (2, (0, v2))] [] ε μ → ∀ v3 : Int, v3 = 0 → G cd_X3_findLeft Q X 9 [(0, (2, v0)), (1, (2, v1)), (2, (0, v2)), (3, (0, v3))] [] ε μ
  intro hty
  replace h := h hty.1 (hty.2.1 _ (List.mem_of_getElem? (i := 2) rfl))
  intro v3 e_v3
  replace h := h v3 e_v3
  exact h
set_option maxRecDepth 20000 in
theorem g_X3_findLeft_0 {Q X : m_Po} {v0 v1 v2 : Int} {ε : m_E} {μ : m_M} (h : TY ε μ → i32 v2 → kd ε v0 = 3 ∧ kd ε (fn ε v0 3) = 8 ∧ o_X9_clear [(2, fn ε v0 3)] ε μ (fun z ε_1 μ_1 => G cd_X3_findLeft Q X 7 [(0, (2, v0)), (1, (2, v1)), (2, (0, v2))] [] ε_1 μ_1) m_F) : G cd_X3_findLeft Q X 0 [(0, (2, v0)), (1, (2, v1)), (2, (0, v2))] [] ε μ := by
  refine G_run (m_in [7, 9, 43]) 8 _ _ _ _ ?_
  show m_ty [(0, (2, v0)), (1, (2, v1)), (2, (0, v2))] [] ε μ → (kd ε v0 = 3) ∧ (kd ε (fn ε v0 3) = 8) ∧ o_X9_clear [(2, fn ε v0 3)] ε μ (fun z ε_1 μ_1 => G cd_X3_findLeft Q X 7 [(0, (2, v0)), (1, (2, v1)), (2, (0, v2))] [] ε_1 μ_1) m_F
  intro hty
  replace h := h hty.1 (hty.2.1 _ (List.mem_of_getElem? (i := 2) rfl))
  obtain ⟨k1, h⟩ := h
  refine And.intro k1 ?_
  obtain ⟨k2, h⟩ := h
  refine And.intro k2 ?_
  exact h
theorem e_X3_findLeft {Q X : m_Po} {v0 v1 v2 : Int} {ε : m_E} {μ : m_M} (h : TY ε μ → i32 v2 → kd ε v0 = 3 ∧ kd ε (fn ε v0 3) = 8 ∧ o_X9_clear [(2, fn ε v0 3)] ε μ (fun z ε_1 μ_1 => G cd_X3_findLeft Q X 7 [(0, (2, v0)), (1, (2, v1)), (2, (0, v2))] [] ε_1 μ_1) m_F) : o_X3_findLeft [(2, v0), (2, v1), (0, v2)] ε μ Q X := And.intro rfl (g_X3_findLeft_0 h)
