theorem mg_st {μ : m_M} {a o i l : Int} (h : a ≠ o) : mg (st μ a i l) o = mg μ o := bs_congr 12 (fun k _ _ => by rw [sx_oa (fun z => h z.symm)])
theorem sum_sg {lx ly m v4 gx gy R : Int} (hx : lx = 0 ∨ lx = 1) (hy : ly = 0 ∨ ly = 1) (hm : m = 0 ∨ m = 1) (e4 : v4 = if m = ly then 0 else 1) (l : Int) (hl : (lx = v4 ∧ l = lx ∧ R = gx + gy) ∨ (lx ≠ v4 ∧ l = lx ∧ R = gx - gy) ∨ (lx ≠ v4 ∧ l = v4 ∧ R = gy - gx)) :
    (if l = 0 then R else -R) = (if m = 0 then (if lx = 0 then gx else -gx) + (if ly = 0 then gy else -gy) else (if lx = 0 then gx else -gx) - (if ly = 0 then gy else -gy)) := by
  rcases hx with rfl | rfl <;> rcases hy with rfl | rfl <;> rcases hm with rfl | rfl <;> simp at e4 <;> subst e4 <;> rcases hl with ⟨q1, q2, q3⟩ | ⟨q1, q2, q3⟩ | ⟨q1, q2, q3⟩ <;> simp at q1 <;> subst q2 <;> simp <;> omega
theorem sp_X11_sum {Q X : m_Po} {ε : m_E} {μ : m_M} {a o x px y py m : Int} (A : bg ε a o) (PX : bg ε x px) (PY : bg ε y py) (hm : m = 0 ∨ m = 1) (hx : μ x 1 = 0 ∨ μ x 1 = 1) (hy : μ y 1 = 0 ∨ μ y 1 = 1) (hb : mg μ px + mg μ py < 4294967296 ^ 12)
    (h : ∀ μ', Ex2 a o μ μ' → (μ' a 1 = 0 ∨ μ' a 1 = 1) → bv μ' a o = (if m = 0 then bv μ x px + bv μ y py else bv μ x px - bv μ y py) → Q 0 ε μ') : o_X11_sum [(2, a), (2, x), (2, y), (0, m)] ε μ Q X := by
  have A' := A
  obtain ⟨a1, a2, a3, a4, a5⟩ := A
  have fin : ∀ (μ' : m_M) (l : Int), Exc o μ μ' → (l = 0 ∨ l = 1) → (if l = 0 then mg μ' o else -(mg μ' o)) = (if m = 0 then bv μ x px + bv μ y py else bv μ x px - bv μ y py) → Q 0 ε (st μ' a 1 l) := by
    intro μ' l hE hl hv
    refine h _ ((Ex2.of hE).trans Ex2.st1) (by rw [sx_same]; exact hl) ?_
    unfold bv at hv ⊢
    rw [sx_same, mg_st a5]
    exact hv
  apply e_X11_sum
  intro _ _
  refine ⟨PY.1, fun t et v4 e4 => ⟨PX.1, fun v5 e5 => ⟨fun c => ⟨PX.1, sp_X11_sizes PX PY ?_⟩, fun c v6 e6 v8 e8 => ?_⟩⟩⟩
  · apply g_X11_sum_102
    intro _ _ _ _ t1 et1 v6 e6 v7 e7 v9 e9
    have c4 : v4 = 0 ∨ v4 = 1 := by rw [e4, et]; clear hb; split <;> omega
    have c5 : v5 = 0 ∨ v5 = 1 := by rw [e5]; exact hx
    rw [e7, e9]
    by_cases z : mg μ px < mg μ py
    · have t1v : v6 = 1 := by rw [e6, et1]; unfold cp; rw [if_pos z]; decide
      refine sb_loop A' PX PY c4 c5 (Or.inr ⟨t1v, rfl, rfl⟩) (Int.le_of_lt z) (fun μ' hE hM => fin μ' _ hE (by rw [t1v]; exact c4) ?_) 12 0 0 μ (by decide) Exc.rf (by decide) (by decide) rfl (fun _ _ => rfl) (fun _ _ => rfl)
      clear hb h fin
      rw [hM, t1v]
      exact sum_sg hx hy hm rfl _ (Or.inr (Or.inr ⟨by rw [← e5, ← et, ← e4]; exact c, by rw [if_neg (by decide), e4, et], rfl⟩))
    · have t1v : v6 = 0 := by
        rw [e6, et1]; unfold cp; rw [if_neg z]
        split <;> decide
      refine sb_loop A' PX PY c4 c5 (Or.inl ⟨t1v, rfl, rfl⟩) (Int.not_lt.mp z) (fun μ' hE hM => fin μ' _ hE (by rw [t1v]; exact c5) ?_) 12 0 0 μ (by decide) Exc.rf (by decide) (by decide) rfl (fun _ _ => rfl) (fun _ _ => rfl)
      clear hb h fin
      rw [hM, t1v]
      exact sum_sg hx hy hm rfl _ (Or.inr (Or.inl ⟨by rw [← e5, ← et, ← e4]; exact c, by rw [if_pos rfl, e5], rfl⟩))
  · rw [e6, e8]
    refine ad_loop A' PX PY (by rw [e5]; exact hx) hb (fun μ' hE hM => fin μ' _ hE (by rw [e5]; exact hx) ?_) 0 0 μ (by decide) Exc.rf (by decide) (by decide) rfl (fun _ _ => rfl) (fun _ _ => rfl)
    clear hb h fin
    rw [hM]
    exact sum_sg hx hy hm rfl _ (Or.inl ⟨by rw [← e5, ← et, ← e4]; exact c, e5, rfl⟩)
