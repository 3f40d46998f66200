set_option maxHeartbeats 1000000
theorem FD.s63 {M v : Int} {μ : m_M} : FD M μ (st μ M 63 v) := fun b j _ _ h2 => by
  by_cases e : b = M
  · rw [e]; exact sx_oi (fun z => h2 ⟨e, z⟩)
  · exact sx_oa e
theorem wg_36 {Q X : m_Po} {ε : m_E} {μ : m_M} {M n r : Int} {R : Int → Int} (H : RG ε μ M R) (hq : (91, n, r) ∈ lm_a) (r36 : r ≠ 36) (n0 : 0 ≤ n) (n5 : n < 5) (hn : (R r).natAbs < 10 ^ 39)
    (hh : ∀ μ' R' t, RG ε μ' M R' → (∀ s, s ≠ 36 → R' s = R s) → TX (R r) 1 t → PL (μ' (M + 104)) (μ' M 63) t → FD M μ μ' → Q t.length ε μ') : G cd_X12_weigh Q X 36 [(0, (2, M)), (1, (0, n))] [] ε μ := by
  have hr : r ∈ lm_b := lm_has _ hq
  apply g_X12_weigh_36
  rw [H.1.f58.1, H.1.f58.2.2]
  refine fun _ _ => ⟨H.1.k, fun μ1 m1 => ?_⟩
  have H1 : RG ε μ1 M R := by rw [m1]; exact rg_m0 H
  have e1 : μ1 (M + 91) n = M + r := H1.2.2.1 _ hq
  have p1 : PL (μ1 (M + 104)) (μ1 M 63) [] := PL.nil (by rw [m1, sx_same])
  rw [e1]
  refine ⟨H.1.f58.2.1, n0, n5, rg_decimals hr r36 hn (by decide) H1 p1 (fun μ2 R2 ln H2 fr D P f => ?_)⟩
  apply g_X12_weigh_51
  refine fun _ => ⟨H.1.k, ?_⟩
  rw [P.1]
  exact hh μ2 R2 _ H2 fr ⟨ln, D, Or.inl ⟨rfl, rfl⟩⟩ P ((by rw [m1]; exact FD.s63 : FD M μ μ1).trans f)
theorem sp_X12_weigh {Q X : m_Po} {ε : m_E} {μ : m_M} {M n : Int} {R : Int → Int} (H : RG ε μ M R) (k0 : 0 ≤ μ M 59)
    (hn : 0 ≤ n → (n < μ M 59 ∨ (n = 4 ∧ μ M 59 ≠ 0)) → (R (92 + 2 * n)).natAbs < 10 ^ 39)
    (ho : n < 0 ∨ (μ M 59 ≤ n ∧ (n ≠ 4 ∨ μ M 59 ≤ 0)) → Q (-1) ε (st μ M 0 0)) (k4 : μ M 59 ≤ 4)
    (hh : ∀ μ' R' t, 0 ≤ n → (n < μ M 59 ∨ (n = 4 ∧ μ M 59 ≠ 0)) → RG ε μ' M R' → (∀ s, s ≠ 36 → R' s = R s) → TX (R (92 + 2 * n)) 1 t → PL (μ' (M + 104)) (μ' M 63) t → FD M (st μ M 0 0) μ' → Q t.length ε μ') : o_X12_weigh [(2, M), (0, n)] ε μ Q X := by
  apply e_X12_weigh
  refine fun _ _ => ⟨H.1.k, fun μ1 m1 => ?_⟩
  have e : μ1 M 59 = μ M 59 := by rw [m1]; exact sx_oi (by decide)
  rw [e]
  have H1 : RG ε μ1 M R := by rw [m1]; exact rg_m0 H
  have go : 0 ≤ n → n ≤ 4 → (n < μ M 59 ∨ (n = 4 ∧ μ M 59 ≠ 0)) → G cd_X12_weigh Q X 36 [(0, (2, M)), (1, (0, n))] [] ε μ1 := by
    intro a a' c
    have hq : (91, n, 92 + 2 * n) ∈ lm_a := by
      have : n = 0 ∨ n = 1 ∨ n = 2 ∨ n = 3 ∨ n = 4 := by omega
      rcases this with z | z | z | z | z <;> subst z <;> decide
    exact wg_36 H1 hq (by omega) a (by omega) (hn a c) (fun μ' R' t x1 x2 x3 x4 x5 => hh μ' R' t a c x1 x2 x3 x4 (by rw [← m1]; exact x5))
  refine ⟨fun q => by rw [m1]; exact ho (by omega), fun q => ⟨fun a => by rw [m1]; exact ho (Or.inl a), fun a => ⟨fun b => by rw [m1]; exact ho (by omega), fun b => ⟨fun c => go a b (Or.inr ⟨by omega, q⟩), fun c => ⟨fun d => go a b (Or.inl d), fun d => by rw [m1]; exact ho (by omega)⟩⟩⟩⟩⟩
