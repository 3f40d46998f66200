/-! ===== the reference's page ===== -/
def FM (M : Int) (μ μ' : m_M) : Prop := ∀ b j, b ≠ M + 104 → ¬ (b = M ∧ j = 63) → μ' b j = μ b j
theorem FM.rf {M : Int} {μ : m_M} : FM M μ μ := fun _ _ _ _ => rfl
theorem FM.trans {M : Int} {μ μ' μ'' : m_M} (h : FM M μ μ') (k : FM M μ' μ'') : FM M μ μ'' := fun b j h1 h2 => (k b j h1 h2).trans (h b j h1 h2)
theorem RG.fm {ε : m_E} {μ μ' : m_M} {M : Int} {R : Int → Int} (H : RG ε μ M R) (f : FM M μ μ') : RG ε μ' M R := H.of (fun b j hb => by
  rcases hb with hb | ⟨q, hq, e⟩
  · exact f b j (fun e => nbc (M := M) (o := 104) (by decide) (e ▸ hb)) (fun e => nbc0 (M := M) (e.1 ▸ hb))
  · have a : ∀ q ∈ lm_a, q.1 ≠ 104 ∧ 0 < q.1 := by decide
    have := a q hq
    exact f b j (by omega) (by omega))
/-- registers and the page alone have changed -/
def FD (M : Int) (μ μ' : m_M) : Prop := ∀ b j, ¬ BC M b → b ≠ M + 104 → ¬ (b = M ∧ j = 63) → μ' b j = μ b j
theorem FD.rf {M : Int} {μ : m_M} : FD M μ μ := fun _ _ _ _ _ => rfl
theorem FD.trans {M : Int} {μ μ' μ'' : m_M} (h : FD M μ μ') (k : FD M μ' μ'') : FD M μ μ'' := fun b j h0 h1 h2 => (k b j h0 h1 h2).trans (h b j h0 h1 h2)
theorem FD.m {M : Int} {μ μ' : m_M} (h : FM M μ μ') : FD M μ μ' := fun b j _ h1 h2 => h b j h1 h2
theorem FD.b {M : Int} {μ μ' : m_M} (h : FB M μ μ') : FD M μ μ' := fun b j h0 _ _ => h b j h0
theorem PL.fb {μ μ' : m_M} {M : Int} {l : List Int} (H : PL (μ (M + 104)) (μ M 63) l) (f : FB M μ μ') : PL (μ' (M + 104)) (μ' M 63) l := H.congr (f _ _ nbc0) (fun j _ _ => f _ j (nbc (by decide)))
theorem sp_X12_puts {Q X : m_Po} {ε : m_E} {μ : m_M} {M c : Int} {l : List Int} (L : LM ε M) (H : PL (μ (M + 104)) (μ M 63) l) (hl : l.length < 400) (c0 : 0 ≤ c) (c1 : c < 128)
    (hh : ∀ μ', FM M μ μ' → PL (μ' (M + 104)) (μ' M 63) (l ++ [c]) → Q 0 ε μ') : o_X12_puts [(2, M), (0, c)] ε μ Q X := by
  have e := H.1
  have n0 : 0 ≤ μ M 63 := by omega
  have n1 : μ M 63 < 400 := by omega
  have ne : ¬ M = M + 104 := by omega
  have w := w8_id c0 c1
  have ws : w32 (μ M 63 + 1) = μ M 63 + 1 := w32_id (by unfold i32; omega)
  apply e_X12_puts
  simp only [L.k, L.f62.1, L.f62.2.1, L.f62.2.2, forall_eq, eq_self, true_and, n0, n1, w, st, ne, false_and, if_false, ws]
  intro _ _
  refine hh _ (fun b j h1 h2 => ?_) ?_
  · unfold st
    rw [if_neg h2, if_neg (fun z => h1 z.1)]
  · rw [sx_same]
    refine H.add (fun j => ?_)
    rw [sx_oa (by omega)]
    unfold st
    by_cases q : j = μ M 63
    · rw [if_pos ⟨rfl, q⟩, if_pos q]
    · rw [if_neg (fun z => q z.2), if_neg q]
/-- turning a piece of the page round -/
theorem rv_loop {Q X : m_Po} {ε : m_E} {M : Int} (L : LM ε M) {a b : Int} (a0 : 0 ≤ a) (b4 : b < 400) {g : Int → Int} (hg : ∀ k, a ≤ k → k ≤ b → 0 ≤ g k ∧ g k < 128) {μ0 : m_M}
    (hh : ∀ μ', (∀ b' j, b' ≠ M + 104 → μ' b' j = μ0 b' j) → (∀ k, k < a → μ' (M + 104) k = μ0 (M + 104) k) → (∀ k, a ≤ k → k ≤ b → μ' (M + 104) k = g (a + b - k)) → Q 0 ε μ') :
    ∀ (N : Nat) (i j : Int) (μ : m_M), j - i ≤ N → i + j = a + b → a ≤ i → i ≤ j + 1 → (∀ b' j, b' ≠ M + 104 → μ b' j = μ0 b' j) → (∀ k, k < a → μ (M + 104) k = μ0 (M + 104) k) → (∀ k, a ≤ k → k < i → μ (M + 104) k = g (a + b - k)) → (∀ k, j < k → k ≤ b → μ (M + 104) k = g (a + b - k)) → (∀ k, i ≤ k → k ≤ j → μ (M + 104) k = g k) → G cd_X12_decimals Q X 75 [(0, (2, M)), (3, (0, i)), (4, (0, j))] [] ε μ := by
  have fin : ∀ (i j : Int) (μ : m_M), j ≤ i → i + j = a + b → a ≤ i → i ≤ j + 1 → (∀ b' j, b' ≠ M + 104 → μ b' j = μ0 b' j) → (∀ k, k < a → μ (M + 104) k = μ0 (M + 104) k) → (∀ k, a ≤ k → k < i → μ (M + 104) k = g (a + b - k)) → (∀ k, j < k → k ≤ b → μ (M + 104) k = g (a + b - k)) → (∀ k, i ≤ k → k ≤ j → μ (M + 104) k = g k) → Q 0 ε μ := by
    intro i j μ h1 h2 h3 h4 f1 f2 f3 f4 f5
    refine hh μ f1 f2 (fun k k0 k1 => ?_)
    rcases Int.lt_or_le k i with q | q
    · exact f3 k k0 q
    · rcases Int.lt_or_le j k with r | r
      · exact f4 k r k1
      · have : k = i := by omega
        have e : a + b - k = k := by omega
        rw [e]
        exact f5 k q r
  intro N
  induction N with
  | zero =>
    intro i j μ hN h2 h3 h4 f1 f2 f3 f4 f5
    apply g_X12_decimals_75
    exact fun _ _ _ => ⟨fun _ => fin i j μ (by omega) h2 h3 h4 f1 f2 f3 f4 f5, fun z => absurd z (by omega)⟩
  | succ N ih =>
    intro i j μ hN h2 h3 h4 f1 f2 f3 f4 f5
    by_cases c : j ≤ i
    · apply g_X12_decimals_75
      exact fun _ _ _ => ⟨fun _ => fin i j μ c h2 h3 h4 f1 f2 f3 f4 f5, fun z => absurd z (by omega)⟩
    · have i0 : 0 ≤ i := by omega
      have i4 : i < 400 := by omega
      have j0 : 0 ≤ j := by omega
      have j4 : j < 400 := by omega
      have ei := f5 i (by omega) (by omega)
      have ej := f5 j (by omega) (by omega)
      have gi := hg i (by omega) (by omega)
      have gj := hg j (by omega) (by omega)
      have wi := w8_id gi.1 gi.2
      have wj := w8_id gj.1 gj.2
      have ij : i < j := by omega
      have w1 : w32 (i + 1) = i + 1 := w32_id (by unfold i32; omega)
      have w2 : w32 (j + (-1)) = j - 1 := by rw [w32_id (by unfold i32; omega)]; omega
      apply g_X12_decimals_75
      simp only [L.k, L.f62.1, L.f62.2.1, L.f62.2.2, forall_eq, eq_self, true_and, i0, i4, j0, j4, ei, ej, wi, wj, w1, w2, ij, true_implies]
      clear w1 w2 wi wj
      intro _ _ _
      refine ⟨fun z => absurd z c, ?_⟩
      refine ih (i + 1) (j - 1) _ (by omega) (by omega) (by omega) (by omega) ?_ ?_ ?_ ?_ ?_
      · intro b' k hb
        rw [sx_oa hb, sx_oa hb]; exact f1 b' k hb
      · intro k hk
        rw [sx_oi (by omega), sx_oi (by omega)]; exact f2 k hk
      · intro k k0 k1
        by_cases q : k = i
        · rw [q, sx_oi (by omega), sx_same]; congr 1; omega
        · rw [sx_oi (by omega), sx_oi q]; exact f3 k k0 (by omega)
      · intro k k0 k1
        by_cases q : k = j
        · rw [q, sx_same]; congr 1; omega
        · rw [sx_oi q, sx_oi (by omega)]; exact f4 k (by omega) k1
      · intro k k0 k1
        rw [sx_oi (by omega), sx_oi (by omega)]; exact f5 k (by omega) (by omega)
theorem PL.get {f : Int → Int} {n : Int} {l : List Int} (H : PL f n l) {i : Nat} (h : i < l.length) : f i = l[i] := H.2 i _ (List.getElem?_eq_getElem h)
/-- a page whose last piece has been turned round -/
theorem PL.turn {f f' : Int → Int} {n : Int} {pre l : List Int} (H : PL f n (pre ++ l)) (h1 : ∀ k : Int, k < pre.length → f' k = f k) (h2 : ∀ k : Int, (pre.length : Int) ≤ k → k ≤ n - 1 → f' k = f (pre.length + (n - 1) - k)) : PL f' n (pre ++ l.reverse) := by
  have e := H.1
  rw [List.length_append] at e
  refine ⟨by rw [List.length_append, List.length_reverse]; exact e, fun i x hx => ?_⟩
  rw [List.getElem?_append] at hx
  by_cases q : i < pre.length
  · rw [if_pos q] at hx
    rw [h1 i (by omega)]
    refine H.2 i x ?_
    rw [List.getElem?_append, if_pos q]; exact hx
  · rw [if_neg q] at hx
    have il : i - pre.length < l.length := by
      rcases Nat.lt_or_ge (i - pre.length) l.length with r | r
      · exact r
      · rw [List.getElem?_eq_none_iff.mpr (by rw [List.length_reverse]; exact r)] at hx; cases hx
    rw [List.getElem?_reverse il] at hx
    rw [h2 i (by omega) (by omega)]
    have e3 : (pre.length : Int) + (n - 1) - i = ((pre.length + (l.length - 1 - (i - pre.length)) : Nat) : Int) := by omega
    rw [e3]
    refine H.2 _ x ?_
    rw [List.getElem?_append, if_neg (by omega), show pre.length + (l.length - 1 - (i - pre.length)) - pre.length = l.length - 1 - (i - pre.length) by omega]
    exact hx
