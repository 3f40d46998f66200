/-! ===== Corner: edges ===== -/
/-- the rows of the class's bounds at B -/
def RC (μ : m_M) (B n : Int) (h v m c : Int → Int) : Prop := μ B 5 = n ∧ (∀ k, μ (B + 1) k = h k) ∧ (∀ k, μ (B + 2) k = v k) ∧ (∀ k, μ (B + 3) k = m k) ∧ ∀ k, μ (B + 4) k = c k
theorem RC.fr {μ μ' : m_M} {B n : Int} {h v m c : Int → Int} (H : RC μ B n h v m c) (f : ∀ b j, B ≤ b → b ≤ B + 5 → μ' b j = μ b j) : RC μ' B n h v m c := by
  obtain ⟨h1, h2, h3, h4, h5⟩ := H
  exact ⟨(f _ _ (by omega) (by omega)).trans h1, fun k => (f _ _ (by omega) (by omega)).trans (h2 k), fun k => (f _ _ (by omega) (by omega)).trans (h3 k), fun k => (f _ _ (by omega) (by omega)).trans (h4 k), fun k => (f _ _ (by omega) (by omega)).trans (h5 k)⟩
theorem w64_bd {x : Int} (h : bd x 63) : w64 x = x := w64_id (by unfold bd at h; unfold i64; omega)
theorem bd_sub {x y : Int} {a : Nat} (h : bd x a) (k : bd y a) : bd (x - y) (a + 1) := by
  rw [Int.sub_eq_add_neg]; exact bd_add h (bd_neg k)
theorem w64_sub {a b : Int} (ha : bd a 40) (hb : bd b 40) : w64 (w64 a - w64 b) = a - b := by
  rw [w64_bd (bd_mono ha (by decide)), w64_bd (bd_mono hb (by decide)), w64_bd (bd_mono (bd_sub ha hb) (by decide))]
theorem w64_sum3 {a b c : Int} (ha : bd a 61) (hb : bd b 61) (hc : bd c 61) : w64 (w64 (w64 a + w64 b) + w64 c) = a + b + c := by
  rw [w64_bd (bd_mono ha (by decide)), w64_bd (bd_mono hb (by decide)), w64_bd (bd_mono hc (by decide)), w64_bd (bd_mono (bd_add ha hb) (by decide)), w64_bd (bd_add (bd_add ha hb) (bd_mono hc (by decide)))]
theorem cr_bd {f g : Int → Int} {i j : Int} (a : bd (f i) 20) (b : bd (g j) 20) (a' : bd (g i) 20) (b' : bd (f j) 20) : bd (f i * g j - g i * f j) 41 := bd_sub (bd_mul a b) (bd_mul a' b')
theorem sp_X2_findEdge {Q X : m_Po} {ε : m_E} {μ : m_M} {C B n e i j : Int} {h v m c : Int → Int} (LC' : LC ε C) (LB' : LB ε B) (hC : C = B + 6) (hn : n ≤ 48) (W : RC μ B n h v m c) (R : RB h v m c n) (he : 0 ≤ e ∧ e ≤ 2) (hi : 0 ≤ i ∧ i < n) (hj : 0 ≤ j ∧ j < n)
    (hh : ∀ μ', Exc (C + 2) μ μ' → μ' (C + 2) (3 * e) = crH v m i j → μ' (C + 2) (3 * e + 1) = crV h m i j → μ' (C + 2) (3 * e + 2) = crM h v i j → (∀ t, t < 3 * e ∨ 3 * e + 2 < t → μ' (C + 2) t = μ (C + 2) t) → Q 0 ε μ') : o_X2_findEdge [(2, C), (2, B), (0, e), (0, i), (0, j)] ε μ Q X := by
  obtain ⟨a1, a2, a3, a4⟩ := R i hi.1 hi.2
  obtain ⟨b1, b2, b3, b4⟩ := R j hj.1 hj.2
  have i1 : i < 48 := by omega
  have j1 : j < 48 := by omega
  have q0 : 0 ≤ 3 * e := by omega
  have q1 : 3 * e < 9 := by omega
  have q2 : 0 ≤ 3 * e + 1 := by omega
  have q3 : 3 * e + 1 < 9 := by omega
  have q4 : 0 ≤ 3 * e + 2 := by omega
  have q5 : 3 * e + 2 < 9 := by omega
  have n1 : ¬ B + 1 = C + 2 := by omega
  have n2 : ¬ B + 2 = C + 2 := by omega
  have n3 : ¬ B + 3 = C + 2 := by omega
  have w0 : w32 (3 * e) = 3 * e := w32_id (by unfold i32; omega)
  have w1 : w32 (3 * e + 1) = 3 * e + 1 := w32_id (by unfold i32; omega)
  have w2 : w32 (3 * e + 2) = 3 * e + 2 := w32_id (by unfold i32; omega)
  have hi0 := hi.1
  have hj0 := hj.1
  have s1 := w64_sub (bd_mul a2 b3) (bd_mul a3 b2)
  have s2 := w64_sub (bd_mul a3 b1) (bd_mul a1 b3)
  have s3 := w64_sub (bd_mul a1 b2) (bd_mul a2 b1)
  apply e_X2_findEdge
  simp only [LC'.k, LC'.f1.1, LC'.f1.2.1, LC'.f1.2.2, LB'.k, LB'.f0.1, LB'.f0.2.1, LB'.f0.2.2, LB'.f1.1, LB'.f1.2.1, LB'.f1.2.2, LB'.f2.1, LB'.f2.2.1, LB'.f2.2.2, forall_eq, eq_self, true_and, st, n1, n2, n3, false_and, if_false, w0, w1, w2, q0, q1, q2, q3, q4, q5, i1, j1, hi0, hj0, W.2.1, W.2.2.1, W.2.2.2.1, s1, s2, s3]
  clear w0 w1 w2 s1 s2 s3
  intro _ _ _ _
  refine hh _ ((Exc.st.trans Exc.st).trans Exc.st) ?_ ?_ ?_ ?_
  · rw [sx_oi (by omega), sx_oi (by omega), sx_same]; rfl
  · rw [sx_oi (by omega), sx_same]; rfl
  · rw [sx_same]; rfl
  · intro t ht
    rw [sx_oi (by omega), sx_oi (by omega), sx_oi (by omega)]
