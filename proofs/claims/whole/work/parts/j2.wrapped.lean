set_option maxHeartbeats 2000000
/-! ===== the wrappers, out of the pairs of calls ===== -/
def LWc (om : m_E → m_M → m_Po → m_Po → Prop) (X : Int) (ε : m_E) (μ : m_M) (Q : m_Po) : Prop := ∀ (k z : Int) (ε1 : m_E) (μ1 μ2 : m_M), AFT om X k z ε μ ε1 μ1 → (∀ b j, b ≠ X + 141 → μ2 b j = μ1 b j) → (k = 0 → μ2 (X + 141) 0 = z) → Q k ε1 μ2
def LWs (om : m_E → m_M → m_Po → m_Po → Prop) (X : Int) (ε : m_E) (μ : m_M) (Q : m_Po) : Prop := ∀ (k z : Int) (ε1 : m_E) (μ1 μ2 : m_M), AFT om X k z ε μ ε1 μ1 → (∀ b j, b ≠ X + 141 → μ2 b j = μ1 b j) → (k = 0 → μ2 (X + 141) 0 = if z = 0 then 0 else 1) → Q k ε1 μ2
def LWv (om : m_E → m_M → m_Po → m_Po → Prop) (X : Int) (ε : m_E) (μ : m_M) (Q : m_Po) : Prop := ∀ (k z : Int) (ε1 : m_E) (μ1 μ2 : m_M), AFT om X k z ε μ ε1 μ1 → (∀ b j, b ≠ X + 141 → μ2 b j = μ1 b j) → Q k ε1 μ2
theorem w_rack {Q Y : m_Po} {ε : m_E} {μ : m_M} {X p1 : Int} {codes : Int → Int} {om : m_E → m_M → m_Po → m_Po → Prop} (S : SL ε X) (c2 : codes 2 = 1) (c3 : codes 3 = 2) (cn : ∀ e, codes e ≠ 0 → e = 2 ∨ e = 3) (P : PAIR (fun ε μ Q Y => o_X10_rack [(2, X), (0, p1)] ε μ Q Y) om codes ε μ X) (hh : LWc om X ε μ Q) : o_L_rack [(2, X), (0, p1), (2, X + 141)] ε μ Q Y := by
  refine And.intro rfl (G_run (m_in []) 12 _ _ _ _ ?_)
  show m_ty _ _ _ _ → (kd ε X = 9 ∧ o_X10_rack [(2, X), (0, p1)] ε μ _ _)
  refine fun _ => ⟨S.1.k, P _ _ (fun z ε1 μ1 A => ?_) (fun e ε1 μ1 ne A => ?_)⟩
  · show m_ty _ _ _ _ → (kd ε1 (X + 141) = 101 ∧ ((0 : Int) ≤ 0 ∧ (0 : Int) < ln ε1 (X + 141)) ∧ ∀ μ2, μ2 = st μ1 (X + 141) 0 z → m_ty _ _ _ _ → Q 0 ε1 μ2)
    have S1 := S.ex A.1
    exact fun _ => ⟨S1.2.2.2.2.2.2.1, ⟨by decide, by rw [S1.2.2.2.2.2.2.2]; decide⟩, fun μ2 m2 _ => hh 0 z ε1 μ1 μ2 A (fun b j h => by rw [m2, sx_oa h]) (fun _ => by rw [m2, sx_same])⟩
  · rcases cn e ne with h | h <;> subst h
    · rw [c2] at A
      refine Or.inl ⟨rfl, fun q _ => ?_⟩
      show m_ty _ _ _ _ → ∀ w, w = q → Q 1 ε1 μ1
      exact fun _ _ _ => hh 1 0 ε1 μ1 μ1 A (fun _ _ _ => rfl) (fun z => absurd z (by decide))
    · rw [c3] at A
      refine Or.inr ⟨by decide, Or.inl ⟨rfl, fun q _ => ?_⟩⟩
      show m_ty _ _ _ _ → ∀ w, w = q → Q 2 ε1 μ1
      exact fun _ _ _ => hh 2 0 ε1 μ1 μ1 A (fun _ _ _ => rfl) (fun z => absurd z (by decide))
theorem w_row {Q Y : m_Po} {ε : m_E} {μ : m_M} {X p1 p2 p3 : Int} {codes : Int → Int} {om : m_E → m_M → m_Po → m_Po → Prop} (S : SL ε X) (c1 : codes 1 = 1) (c2 : codes 2 = 2) (cn : ∀ e, codes e ≠ 0 → e = 1 ∨ e = 2) (P : PAIR (fun ε μ Q Y => o_X10_row [(2, X), (0, p1), (0, p2), (0, p3)] ε μ Q Y) om codes ε μ X) (hh : LWv om X ε μ Q) : o_L_row [(2, X), (0, p1), (0, p2), (0, p3)] ε μ Q Y := by
  refine And.intro rfl (G_run (m_in []) 12 _ _ _ _ ?_)
  show m_ty _ _ _ _ → (kd ε X = 9 ∧ o_X10_row [(2, X), (0, p1), (0, p2), (0, p3)] ε μ _ _)
  refine fun _ => ⟨S.1.k, P _ _ (fun z ε1 μ1 A => ?_) (fun e ε1 μ1 ne A => ?_)⟩
  · show m_ty _ _ _ _ → m_ty _ _ _ _ → Q 0 ε1 μ1
    exact fun _ _ => hh 0 z ε1 μ1 μ1 A (fun _ _ _ => rfl)
  · rcases cn e ne with h | h <;> subst h
    · rw [c1] at A
      refine Or.inl ⟨rfl, fun q _ => ?_⟩
      show m_ty _ _ _ _ → ∀ w, w = q → Q 1 ε1 μ1
      exact fun _ _ _ => hh 1 0 ε1 μ1 μ1 A (fun _ _ _ => rfl)
    · rw [c2] at A
      refine Or.inr ⟨by decide, Or.inl ⟨rfl, fun q _ => ?_⟩⟩
      show m_ty _ _ _ _ → ∀ w, w = q → Q 2 ε1 μ1
      exact fun _ _ _ => hh 2 0 ε1 μ1 μ1 A (fun _ _ _ => rfl)
theorem w_put {Q Y : m_Po} {ε : m_E} {μ : m_M} {X p1 p2 p3 p4 : Int} {codes : Int → Int} {om : m_E → m_M → m_Po → m_Po → Prop} (S : SL ε X) (c1 : codes 1 = 1) (cn : ∀ e, codes e ≠ 0 → e = 1) (P : PAIR (fun ε μ Q Y => o_X10_put [(2, X), (0, p1), (0, p2), (0, p3), (0, p4)] ε μ Q Y) om codes ε μ X) (hh : LWc om X ε μ Q) : o_L_put [(2, X), (0, p1), (0, p2), (0, p3), (0, p4), (2, X + 141)] ε μ Q Y := by
  refine And.intro rfl (G_run (m_in []) 12 _ _ _ _ ?_)
  show m_ty _ _ _ _ → (kd ε X = 9 ∧ o_X10_put [(2, X), (0, p1), (0, p2), (0, p3), (0, p4)] ε μ _ _)
  refine fun _ => ⟨S.1.k, P _ _ (fun z ε1 μ1 A => ?_) (fun e ε1 μ1 ne A => ?_)⟩
  · show m_ty _ _ _ _ → (kd ε1 (X + 141) = 101 ∧ ((0 : Int) ≤ 0 ∧ (0 : Int) < ln ε1 (X + 141)) ∧ ∀ μ2, μ2 = st μ1 (X + 141) 0 z → m_ty _ _ _ _ → Q 0 ε1 μ2)
    have S1 := S.ex A.1
    exact fun _ => ⟨S1.2.2.2.2.2.2.1, ⟨by decide, by rw [S1.2.2.2.2.2.2.2]; decide⟩, fun μ2 m2 _ => hh 0 z ε1 μ1 μ2 A (fun b j h => by rw [m2, sx_oa h]) (fun _ => by rw [m2, sx_same])⟩
  · have h := cn e ne
    subst h
    rw [c1] at A
    refine Or.inl ⟨rfl, fun q _ => ?_⟩
    show m_ty _ _ _ _ → ∀ w, w = q → Q 1 ε1 μ1
    exact fun _ _ _ => hh 1 0 ε1 μ1 μ1 A (fun _ _ _ => rfl) (fun z => absurd z (by decide))
theorem w_tear {Q Y : m_Po} {ε : m_E} {μ : m_M} {X p1 p2 p3 : Int} {codes : Int → Int} {om : m_E → m_M → m_Po → m_Po → Prop} (S : SL ε X) (c1 : codes 1 = 1) (cn : ∀ e, codes e ≠ 0 → e = 1) (P : PAIR (fun ε μ Q Y => o_X10_tear [(2, X), (0, p1), (0, p2), (0, p3)] ε μ Q Y) om codes ε μ X) (hh : LWc om X ε μ Q) : o_L_tear [(2, X), (0, p1), (0, p2), (0, p3), (2, X + 141)] ε μ Q Y := by
  refine And.intro rfl (G_run (m_in []) 12 _ _ _ _ ?_)
  show m_ty _ _ _ _ → (kd ε X = 9 ∧ o_X10_tear [(2, X), (0, p1), (0, p2), (0, p3)] ε μ _ _)
  refine fun _ => ⟨S.1.k, P _ _ (fun z ε1 μ1 A => ?_) (fun e ε1 μ1 ne A => ?_)⟩
  · show m_ty _ _ _ _ → (kd ε1 (X + 141) = 101 ∧ ((0 : Int) ≤ 0 ∧ (0 : Int) < ln ε1 (X + 141)) ∧ ∀ μ2, μ2 = st μ1 (X + 141) 0 z → m_ty _ _ _ _ → Q 0 ε1 μ2)
    have S1 := S.ex A.1
    exact fun _ => ⟨S1.2.2.2.2.2.2.1, ⟨by decide, by rw [S1.2.2.2.2.2.2.2]; decide⟩, fun μ2 m2 _ => hh 0 z ε1 μ1 μ2 A (fun b j h => by rw [m2, sx_oa h]) (fun _ => by rw [m2, sx_same])⟩
  · have h := cn e ne
    subst h
    rw [c1] at A
    refine Or.inl ⟨rfl, fun q _ => ?_⟩
    show m_ty _ _ _ _ → ∀ w, w = q → Q 1 ε1 μ1
    exact fun _ _ _ => hh 1 0 ε1 μ1 μ1 A (fun _ _ _ => rfl) (fun z => absurd z (by decide))
theorem w_stone {Q Y : m_Po} {ε : m_E} {μ : m_M} {X p1 p2 p3 p4 : Int} {codes : Int → Int} {om : m_E → m_M → m_Po → m_Po → Prop} (S : SL ε X) (c1 : codes 1 = 1) (c2 : codes 2 = 2) (cn : ∀ e, codes e ≠ 0 → e = 1 ∨ e = 2) (P : PAIR (fun ε μ Q Y => o_X10_stone [(2, X), (0, p1), (0, p2), (0, p3), (0, p4)] ε μ Q Y) om codes ε μ X) (hh : LWc om X ε μ Q) : o_L_stone [(2, X), (0, p1), (0, p2), (0, p3), (0, p4), (2, X + 141)] ε μ Q Y := by
  refine And.intro rfl (G_run (m_in []) 12 _ _ _ _ ?_)
  show m_ty _ _ _ _ → (kd ε X = 9 ∧ o_X10_stone [(2, X), (0, p1), (0, p2), (0, p3), (0, p4)] ε μ _ _)
  refine fun _ => ⟨S.1.k, P _ _ (fun z ε1 μ1 A => ?_) (fun e ε1 μ1 ne A => ?_)⟩
  · show m_ty _ _ _ _ → (kd ε1 (X + 141) = 101 ∧ ((0 : Int) ≤ 0 ∧ (0 : Int) < ln ε1 (X + 141)) ∧ ∀ μ2, μ2 = st μ1 (X + 141) 0 z → m_ty _ _ _ _ → Q 0 ε1 μ2)
    have S1 := S.ex A.1
    exact fun _ => ⟨S1.2.2.2.2.2.2.1, ⟨by decide, by rw [S1.2.2.2.2.2.2.2]; decide⟩, fun μ2 m2 _ => hh 0 z ε1 μ1 μ2 A (fun b j h => by rw [m2, sx_oa h]) (fun _ => by rw [m2, sx_same])⟩
  · rcases cn e ne with h | h <;> subst h
    · rw [c1] at A
      refine Or.inl ⟨rfl, fun q _ => ?_⟩
      show m_ty _ _ _ _ → ∀ w, w = q → Q 1 ε1 μ1
      exact fun _ _ _ => hh 1 0 ε1 μ1 μ1 A (fun _ _ _ => rfl) (fun z => absurd z (by decide))
    · rw [c2] at A
      refine Or.inr ⟨by decide, Or.inl ⟨rfl, fun q _ => ?_⟩⟩
      show m_ty _ _ _ _ → ∀ w, w = q → Q 2 ε1 μ1
      exact fun _ _ _ => hh 2 0 ε1 μ1 μ1 A (fun _ _ _ => rfl) (fun z => absurd z (by decide))
theorem w_told {Q Y : m_Po} {ε : m_E} {μ : m_M} {X p1 p2 : Int} {codes : Int → Int} {om : m_E → m_M → m_Po → m_Po → Prop} (S : SL ε X) (c1 : codes 1 = 1) (c2 : codes 2 = 2) (cn : ∀ e, codes e ≠ 0 → e = 1 ∨ e = 2) (P : PAIR (fun ε μ Q Y => o_X10_told [(2, X), (0, p1), (0, p2)] ε μ Q Y) om codes ε μ X) (hh : LWc om X ε μ Q) : o_L_told [(2, X), (0, p1), (0, p2), (2, X + 141)] ε μ Q Y := by
  refine And.intro rfl (G_run (m_in []) 12 _ _ _ _ ?_)
  show m_ty _ _ _ _ → (kd ε X = 9 ∧ o_X10_told [(2, X), (0, p1), (0, p2)] ε μ _ _)
  refine fun _ => ⟨S.1.k, P _ _ (fun z ε1 μ1 A => ?_) (fun e ε1 μ1 ne A => ?_)⟩
  · show m_ty _ _ _ _ → (kd ε1 (X + 141) = 101 ∧ ((0 : Int) ≤ 0 ∧ (0 : Int) < ln ε1 (X + 141)) ∧ ∀ μ2, μ2 = st μ1 (X + 141) 0 z → m_ty _ _ _ _ → Q 0 ε1 μ2)
    have S1 := S.ex A.1
    exact fun _ => ⟨S1.2.2.2.2.2.2.1, ⟨by decide, by rw [S1.2.2.2.2.2.2.2]; decide⟩, fun μ2 m2 _ => hh 0 z ε1 μ1 μ2 A (fun b j h => by rw [m2, sx_oa h]) (fun _ => by rw [m2, sx_same])⟩
  · rcases cn e ne with h | h <;> subst h
    · rw [c1] at A
      refine Or.inl ⟨rfl, fun q _ => ?_⟩
      show m_ty _ _ _ _ → ∀ w, w = q → Q 1 ε1 μ1
      exact fun _ _ _ => hh 1 0 ε1 μ1 μ1 A (fun _ _ _ => rfl) (fun z => absurd z (by decide))
    · rw [c2] at A
      refine Or.inr ⟨by decide, Or.inl ⟨rfl, fun q _ => ?_⟩⟩
      show m_ty _ _ _ _ → ∀ w, w = q → Q 2 ε1 μ1
      exact fun _ _ _ => hh 2 0 ε1 μ1 μ1 A (fun _ _ _ => rfl) (fun z => absurd z (by decide))
theorem w_arch {Q Y : m_Po} {ε : m_E} {μ : m_M} {X p1 : Int} {codes : Int → Int} {om : m_E → m_M → m_Po → m_Po → Prop} (S : SL ε X) (c2 : codes 2 = 1) (c3 : codes 3 = 2) (cn : ∀ e, codes e ≠ 0 → e = 2 ∨ e = 3) (P : PAIR (fun ε μ Q Y => o_X10_arch [(2, X), (0, p1)] ε μ Q Y) om codes ε μ X) (hh : LWc om X ε μ Q) : o_L_arch [(2, X), (0, p1), (2, X + 141)] ε μ Q Y := by
  refine And.intro rfl (G_run (m_in []) 12 _ _ _ _ ?_)
  show m_ty _ _ _ _ → (kd ε X = 9 ∧ o_X10_arch [(2, X), (0, p1)] ε μ _ _)
  refine fun _ => ⟨S.1.k, P _ _ (fun z ε1 μ1 A => ?_) (fun e ε1 μ1 ne A => ?_)⟩
  · show m_ty _ _ _ _ → (kd ε1 (X + 141) = 101 ∧ ((0 : Int) ≤ 0 ∧ (0 : Int) < ln ε1 (X + 141)) ∧ ∀ μ2, μ2 = st μ1 (X + 141) 0 z → m_ty _ _ _ _ → Q 0 ε1 μ2)
    have S1 := S.ex A.1
    exact fun _ => ⟨S1.2.2.2.2.2.2.1, ⟨by decide, by rw [S1.2.2.2.2.2.2.2]; decide⟩, fun μ2 m2 _ => hh 0 z ε1 μ1 μ2 A (fun b j h => by rw [m2, sx_oa h]) (fun _ => by rw [m2, sx_same])⟩
  · rcases cn e ne with h | h <;> subst h
    · rw [c2] at A
      refine Or.inl ⟨rfl, fun q _ => ?_⟩
      show m_ty _ _ _ _ → ∀ w, w = q → Q 1 ε1 μ1
      exact fun _ _ _ => hh 1 0 ε1 μ1 μ1 A (fun _ _ _ => rfl) (fun z => absurd z (by decide))
    · rw [c3] at A
      refine Or.inr ⟨by decide, Or.inl ⟨rfl, fun q _ => ?_⟩⟩
      show m_ty _ _ _ _ → ∀ w, w = q → Q 2 ε1 μ1
      exact fun _ _ _ => hh 2 0 ε1 μ1 μ1 A (fun _ _ _ => rfl) (fun z => absurd z (by decide))
theorem w_pier {Q Y : m_Po} {ε : m_E} {μ : m_M} {X p1 p2 p3 p4 p5 p6 : Int} {codes : Int → Int} {om : m_E → m_M → m_Po → m_Po → Prop} (S : SL ε X) (c1 : codes 1 = 1) (c2 : codes 2 = 2) (cn : ∀ e, codes e ≠ 0 → e = 1 ∨ e = 2) (P : PAIR (fun ε μ Q Y => o_X10_pier [(2, X), (0, p1), (0, p2), (0, p3), (0, p4), (0, p5), (0, p6)] ε μ Q Y) om codes ε μ X) (hh : LWv om X ε μ Q) : o_L_pier [(2, X), (0, p1), (0, p2), (0, p3), (0, p4), (0, p5), (0, p6)] ε μ Q Y := by
  refine And.intro rfl (G_run (m_in []) 12 _ _ _ _ ?_)
  show m_ty _ _ _ _ → (kd ε X = 9 ∧ o_X10_pier [(2, X), (0, p1), (0, p2), (0, p3), (0, p4), (0, p5), (0, p6)] ε μ _ _)
  refine fun _ => ⟨S.1.k, P _ _ (fun z ε1 μ1 A => ?_) (fun e ε1 μ1 ne A => ?_)⟩
  · show m_ty _ _ _ _ → m_ty _ _ _ _ → Q 0 ε1 μ1
    exact fun _ _ => hh 0 z ε1 μ1 μ1 A (fun _ _ _ => rfl)
  · rcases cn e ne with h | h <;> subst h
    · rw [c1] at A
      refine Or.inl ⟨rfl, fun q _ => ?_⟩
      show m_ty _ _ _ _ → ∀ w, w = q → Q 1 ε1 μ1
      exact fun _ _ _ => hh 1 0 ε1 μ1 μ1 A (fun _ _ _ => rfl)
    · rw [c2] at A
      refine Or.inr ⟨by decide, Or.inl ⟨rfl, fun q _ => ?_⟩⟩
      show m_ty _ _ _ _ → ∀ w, w = q → Q 2 ε1 μ1
      exact fun _ _ _ => hh 2 0 ε1 μ1 μ1 A (fun _ _ _ => rfl)
theorem w_place {Q Y : m_Po} {ε : m_E} {μ : m_M} {X p1 p2 p3 : Int} {codes : Int → Int} {om : m_E → m_M → m_Po → m_Po → Prop} (S : SL ε X) (c1 : codes 1 = 1) (cn : ∀ e, codes e ≠ 0 → e = 1) (P : PAIR (fun ε μ Q Y => o_X10_place [(2, X), (0, p1), (0, p2), (0, p3)] ε μ Q Y) om codes ε μ X) (hh : LWv om X ε μ Q) : o_L_place [(2, X), (0, p1), (0, p2), (0, p3)] ε μ Q Y := by
  refine And.intro rfl (G_run (m_in []) 12 _ _ _ _ ?_)
  show m_ty _ _ _ _ → (kd ε X = 9 ∧ o_X10_place [(2, X), (0, p1), (0, p2), (0, p3)] ε μ _ _)
  refine fun _ => ⟨S.1.k, P _ _ (fun z ε1 μ1 A => ?_) (fun e ε1 μ1 ne A => ?_)⟩
  · show m_ty _ _ _ _ → m_ty _ _ _ _ → Q 0 ε1 μ1
    exact fun _ _ => hh 0 z ε1 μ1 μ1 A (fun _ _ _ => rfl)
  · have h := cn e ne
    subst h
    rw [c1] at A
    refine Or.inl ⟨rfl, fun q _ => ?_⟩
    show m_ty _ _ _ _ → ∀ w, w = q → Q 1 ε1 μ1
    exact fun _ _ _ => hh 1 0 ε1 μ1 μ1 A (fun _ _ _ => rfl)
theorem w_there {Q Y : m_Po} {ε : m_E} {μ : m_M} {X p1 p2 : Int} {codes : Int → Int} {om : m_E → m_M → m_Po → m_Po → Prop} (S : SL ε X) (c1 : codes 1 = 1) (cn : ∀ e, codes e ≠ 0 → e = 1) (P : PAIR (fun ε μ Q Y => o_X10_there [(2, X), (0, p1), (0, p2)] ε μ Q Y) om codes ε μ X) (hh : LWc om X ε μ Q) : o_L_there [(2, X), (0, p1), (0, p2), (2, X + 141)] ε μ Q Y := by
  refine And.intro rfl (G_run (m_in []) 12 _ _ _ _ ?_)
  show m_ty _ _ _ _ → (kd ε X = 9 ∧ o_X10_there [(2, X), (0, p1), (0, p2)] ε μ _ _)
  refine fun _ => ⟨S.1.k, P _ _ (fun z ε1 μ1 A => ?_) (fun e ε1 μ1 ne A => ?_)⟩
  · show m_ty _ _ _ _ → (kd ε1 (X + 141) = 101 ∧ ((0 : Int) ≤ 0 ∧ (0 : Int) < ln ε1 (X + 141)) ∧ ∀ μ2, μ2 = st μ1 (X + 141) 0 z → m_ty _ _ _ _ → Q 0 ε1 μ2)
    have S1 := S.ex A.1
    exact fun _ => ⟨S1.2.2.2.2.2.2.1, ⟨by decide, by rw [S1.2.2.2.2.2.2.2]; decide⟩, fun μ2 m2 _ => hh 0 z ε1 μ1 μ2 A (fun b j h => by rw [m2, sx_oa h]) (fun _ => by rw [m2, sx_same])⟩
  · have h := cn e ne
    subst h
    rw [c1] at A
    refine Or.inl ⟨rfl, fun q _ => ?_⟩
    show m_ty _ _ _ _ → ∀ w, w = q → Q 1 ε1 μ1
    exact fun _ _ _ => hh 1 0 ε1 μ1 μ1 A (fun _ _ _ => rfl) (fun z => absurd z (by decide))
theorem w_load {Q Y : m_Po} {ε : m_E} {μ : m_M} {X p1 p2 p3 p4 : Int} {codes : Int → Int} {om : m_E → m_M → m_Po → m_Po → Prop} (S : SL ε X) (c1 : codes 1 = 1) (c2 : codes 2 = 2) (cn : ∀ e, codes e ≠ 0 → e = 1 ∨ e = 2) (P : PAIR (fun ε μ Q Y => o_X10_load [(2, X), (0, p1), (0, p2), (0, p3), (0, p4)] ε μ Q Y) om codes ε μ X) (hh : LWc om X ε μ Q) : o_L_load [(2, X), (0, p1), (0, p2), (0, p3), (0, p4), (2, X + 141)] ε μ Q Y := by
  refine And.intro rfl (G_run (m_in []) 12 _ _ _ _ ?_)
  show m_ty _ _ _ _ → (kd ε X = 9 ∧ o_X10_load [(2, X), (0, p1), (0, p2), (0, p3), (0, p4)] ε μ _ _)
  refine fun _ => ⟨S.1.k, P _ _ (fun z ε1 μ1 A => ?_) (fun e ε1 μ1 ne A => ?_)⟩
  · show m_ty _ _ _ _ → (kd ε1 (X + 141) = 101 ∧ ((0 : Int) ≤ 0 ∧ (0 : Int) < ln ε1 (X + 141)) ∧ ∀ μ2, μ2 = st μ1 (X + 141) 0 z → m_ty _ _ _ _ → Q 0 ε1 μ2)
    have S1 := S.ex A.1
    exact fun _ => ⟨S1.2.2.2.2.2.2.1, ⟨by decide, by rw [S1.2.2.2.2.2.2.2]; decide⟩, fun μ2 m2 _ => hh 0 z ε1 μ1 μ2 A (fun b j h => by rw [m2, sx_oa h]) (fun _ => by rw [m2, sx_same])⟩
  · rcases cn e ne with h | h <;> subst h
    · rw [c1] at A
      refine Or.inl ⟨rfl, fun q _ => ?_⟩
      show m_ty _ _ _ _ → ∀ w, w = q → Q 1 ε1 μ1
      exact fun _ _ _ => hh 1 0 ε1 μ1 μ1 A (fun _ _ _ => rfl) (fun z => absurd z (by decide))
    · rw [c2] at A
      refine Or.inr ⟨by decide, Or.inl ⟨rfl, fun q _ => ?_⟩⟩
      show m_ty _ _ _ _ → ∀ w, w = q → Q 2 ε1 μ1
      exact fun _ _ _ => hh 2 0 ε1 μ1 μ1 A (fun _ _ _ => rfl) (fun z => absurd z (by decide))
theorem w_slope {Q Y : m_Po} {ε : m_E} {μ : m_M} {X p1 p2 p3 : Int} {codes : Int → Int} {om : m_E → m_M → m_Po → m_Po → Prop} (S : SL ε X) (c1 : codes 1 = 1) (c2 : codes 2 = 2) (cn : ∀ e, codes e ≠ 0 → e = 1 ∨ e = 2) (P : PAIR (fun ε μ Q Y => o_X10_slope [(2, X), (0, p1), (0, p2), (0, p3)] ε μ Q Y) om codes ε μ X) (hh : LWv om X ε μ Q) : o_L_slope [(2, X), (0, p1), (0, p2), (0, p3)] ε μ Q Y := by
  refine And.intro rfl (G_run (m_in []) 12 _ _ _ _ ?_)
  show m_ty _ _ _ _ → (kd ε X = 9 ∧ o_X10_slope [(2, X), (0, p1), (0, p2), (0, p3)] ε μ _ _)
  refine fun _ => ⟨S.1.k, P _ _ (fun z ε1 μ1 A => ?_) (fun e ε1 μ1 ne A => ?_)⟩
  · show m_ty _ _ _ _ → m_ty _ _ _ _ → Q 0 ε1 μ1
    exact fun _ _ => hh 0 z ε1 μ1 μ1 A (fun _ _ _ => rfl)
  · rcases cn e ne with h | h <;> subst h
    · rw [c1] at A
      refine Or.inl ⟨rfl, fun q _ => ?_⟩
      show m_ty _ _ _ _ → ∀ w, w = q → Q 1 ε1 μ1
      exact fun _ _ _ => hh 1 0 ε1 μ1 μ1 A (fun _ _ _ => rfl)
    · rw [c2] at A
      refine Or.inr ⟨by decide, Or.inl ⟨rfl, fun q _ => ?_⟩⟩
      show m_ty _ _ _ _ → ∀ w, w = q → Q 2 ε1 μ1
      exact fun _ _ _ => hh 2 0 ε1 μ1 μ1 A (fun _ _ _ => rfl)
theorem w_whole {Q Y : m_Po} {ε : m_E} {μ : m_M} {X p1 : Int} {codes : Int → Int} {om : m_E → m_M → m_Po → m_Po → Prop} (S : SL ε X) (c1 : codes 1 = 1) (cn : ∀ e, codes e ≠ 0 → e = 1) (P : PAIR (fun ε μ Q Y => o_X10_whole [(2, X), (0, p1)] ε μ Q Y) om codes ε μ X) (hh : LWc om X ε μ Q) : o_L_whole [(2, X), (0, p1), (2, X + 141)] ε μ Q Y := by
  refine And.intro rfl (G_run (m_in []) 12 _ _ _ _ ?_)
  show m_ty _ _ _ _ → (kd ε X = 9 ∧ o_X10_whole [(2, X), (0, p1)] ε μ _ _)
  refine fun _ => ⟨S.1.k, P _ _ (fun z ε1 μ1 A => ?_) (fun e ε1 μ1 ne A => ?_)⟩
  · show m_ty _ _ _ _ → (kd ε1 (X + 141) = 101 ∧ ((0 : Int) ≤ 0 ∧ (0 : Int) < ln ε1 (X + 141)) ∧ ∀ μ2, μ2 = st μ1 (X + 141) 0 z → m_ty _ _ _ _ → Q 0 ε1 μ2)
    have S1 := S.ex A.1
    exact fun _ => ⟨S1.2.2.2.2.2.2.1, ⟨by decide, by rw [S1.2.2.2.2.2.2.2]; decide⟩, fun μ2 m2 _ => hh 0 z ε1 μ1 μ2 A (fun b j h => by rw [m2, sx_oa h]) (fun _ => by rw [m2, sx_same])⟩
  · have h := cn e ne
    subst h
    rw [c1] at A
    refine Or.inl ⟨rfl, fun q _ => ?_⟩
    show m_ty _ _ _ _ → ∀ w, w = q → Q 1 ε1 μ1
    exact fun _ _ _ => hh 1 0 ε1 μ1 μ1 A (fun _ _ _ => rfl) (fun z => absurd z (by decide))
theorem w_joint {Q Y : m_Po} {ε : m_E} {μ : m_M} {X p1 p2 p3 : Int} {codes : Int → Int} {om : m_E → m_M → m_Po → m_Po → Prop} (S : SL ε X) (c1 : codes 1 = 1) (c2 : codes 2 = 2) (cn : ∀ e, codes e ≠ 0 → e = 1 ∨ e = 2) (P : PAIR (fun ε μ Q Y => o_X10_joint [(2, X), (0, p1), (0, p2), (0, p3)] ε μ Q Y) om codes ε μ X) (hh : LWc om X ε μ Q) : o_L_joint [(2, X), (0, p1), (0, p2), (0, p3), (2, X + 141)] ε μ Q Y := by
  refine And.intro rfl (G_run (m_in []) 12 _ _ _ _ ?_)
  show m_ty _ _ _ _ → (kd ε X = 9 ∧ o_X10_joint [(2, X), (0, p1), (0, p2), (0, p3)] ε μ _ _)
  refine fun _ => ⟨S.1.k, P _ _ (fun z ε1 μ1 A => ?_) (fun e ε1 μ1 ne A => ?_)⟩
  · show m_ty _ _ _ _ → (kd ε1 (X + 141) = 101 ∧ ((0 : Int) ≤ 0 ∧ (0 : Int) < ln ε1 (X + 141)) ∧ ∀ μ2, μ2 = st μ1 (X + 141) 0 z → m_ty _ _ _ _ → Q 0 ε1 μ2)
    have S1 := S.ex A.1
    exact fun _ => ⟨S1.2.2.2.2.2.2.1, ⟨by decide, by rw [S1.2.2.2.2.2.2.2]; decide⟩, fun μ2 m2 _ => hh 0 z ε1 μ1 μ2 A (fun b j h => by rw [m2, sx_oa h]) (fun _ => by rw [m2, sx_same])⟩
  · rcases cn e ne with h | h <;> subst h
    · rw [c1] at A
      refine Or.inl ⟨rfl, fun q _ => ?_⟩
      show m_ty _ _ _ _ → ∀ w, w = q → Q 1 ε1 μ1
      exact fun _ _ _ => hh 1 0 ε1 μ1 μ1 A (fun _ _ _ => rfl) (fun z => absurd z (by decide))
    · rw [c2] at A
      refine Or.inr ⟨by decide, Or.inl ⟨rfl, fun q _ => ?_⟩⟩
      show m_ty _ _ _ _ → ∀ w, w = q → Q 2 ε1 μ1
      exact fun _ _ _ => hh 2 0 ε1 μ1 μ1 A (fun _ _ _ => rfl) (fun z => absurd z (by decide))
theorem w_line {Q Y : m_Po} {ε : m_E} {μ : m_M} {X p1 p2 p3 p4 p5 : Int} {codes : Int → Int} {om : m_E → m_M → m_Po → m_Po → Prop} (S : SL ε X) (c1 : codes 1 = 1) (c2 : codes 2 = 2) (c3 : codes 3 = 3) (cn : ∀ e, codes e ≠ 0 → e = 1 ∨ e = 2 ∨ e = 3) (P : PAIR (fun ε μ Q Y => o_X10_line [(2, X), (0, p1), (0, p2), (0, p3), (0, p4), (0, p5)] ε μ Q Y) om codes ε μ X) (hh : LWc om X ε μ Q) : o_L_line [(2, X), (0, p1), (0, p2), (0, p3), (0, p4), (0, p5), (2, X + 141)] ε μ Q Y := by
  refine And.intro rfl (G_run (m_in []) 12 _ _ _ _ ?_)
  show m_ty _ _ _ _ → (kd ε X = 9 ∧ o_X10_line [(2, X), (0, p1), (0, p2), (0, p3), (0, p4), (0, p5)] ε μ _ _)
  refine fun _ => ⟨S.1.k, P _ _ (fun z ε1 μ1 A => ?_) (fun e ε1 μ1 ne A => ?_)⟩
  · show m_ty _ _ _ _ → (kd ε1 (X + 141) = 101 ∧ ((0 : Int) ≤ 0 ∧ (0 : Int) < ln ε1 (X + 141)) ∧ ∀ μ2, μ2 = st μ1 (X + 141) 0 z → m_ty _ _ _ _ → Q 0 ε1 μ2)
    have S1 := S.ex A.1
    exact fun _ => ⟨S1.2.2.2.2.2.2.1, ⟨by decide, by rw [S1.2.2.2.2.2.2.2]; decide⟩, fun μ2 m2 _ => hh 0 z ε1 μ1 μ2 A (fun b j h => by rw [m2, sx_oa h]) (fun _ => by rw [m2, sx_same])⟩
  · rcases cn e ne with h | h | h <;> subst h
    · rw [c1] at A
      refine Or.inl ⟨rfl, fun q _ => ?_⟩
      show m_ty _ _ _ _ → ∀ w, w = q → Q 1 ε1 μ1
      exact fun _ _ _ => hh 1 0 ε1 μ1 μ1 A (fun _ _ _ => rfl) (fun z => absurd z (by decide))
    · rw [c2] at A
      refine Or.inr ⟨by decide, Or.inl ⟨rfl, fun q _ => ?_⟩⟩
      show m_ty _ _ _ _ → ∀ w, w = q → Q 2 ε1 μ1
      exact fun _ _ _ => hh 2 0 ε1 μ1 μ1 A (fun _ _ _ => rfl) (fun z => absurd z (by decide))
    · rw [c3] at A
      refine Or.inr ⟨by decide, Or.inr ⟨by decide, Or.inl ⟨rfl, fun q _ => ?_⟩⟩⟩
      show m_ty _ _ _ _ → ∀ w, w = q → Q 3 ε1 μ1
      exact fun _ _ _ => hh 3 0 ε1 μ1 μ1 A (fun _ _ _ => rfl) (fun z => absurd z (by decide))
theorem w_judge {Q Y : m_Po} {ε : m_E} {μ : m_M} {X p1 p2 : Int} {codes : Int → Int} {om : m_E → m_M → m_Po → m_Po → Prop} (S : SL ε X) (c1 : codes 1 = 1) (c2 : codes 2 = 2) (c3 : codes 3 = 3) (cn : ∀ e, codes e ≠ 0 → e = 1 ∨ e = 2 ∨ e = 3) (P : PAIR (fun ε μ Q Y => o_X10_judge [(2, X), (0, p1), (0, p2)] ε μ Q Y) om codes ε μ X) (hh : LWc om X ε μ Q) : o_L_judge [(2, X), (0, p1), (0, p2), (2, X + 141)] ε μ Q Y := by
  refine And.intro rfl (G_run (m_in []) 12 _ _ _ _ ?_)
  show m_ty _ _ _ _ → (kd ε X = 9 ∧ o_X10_judge [(2, X), (0, p1), (0, p2)] ε μ _ _)
  refine fun _ => ⟨S.1.k, P _ _ (fun z ε1 μ1 A => ?_) (fun e ε1 μ1 ne A => ?_)⟩
  · show m_ty _ _ _ _ → (kd ε1 (X + 141) = 101 ∧ ((0 : Int) ≤ 0 ∧ (0 : Int) < ln ε1 (X + 141)) ∧ ∀ μ2, μ2 = st μ1 (X + 141) 0 z → m_ty _ _ _ _ → Q 0 ε1 μ2)
    have S1 := S.ex A.1
    exact fun _ => ⟨S1.2.2.2.2.2.2.1, ⟨by decide, by rw [S1.2.2.2.2.2.2.2]; decide⟩, fun μ2 m2 _ => hh 0 z ε1 μ1 μ2 A (fun b j h => by rw [m2, sx_oa h]) (fun _ => by rw [m2, sx_same])⟩
  · rcases cn e ne with h | h | h <;> subst h
    · rw [c1] at A
      refine Or.inl ⟨rfl, fun q _ => ?_⟩
      show m_ty _ _ _ _ → ∀ w, w = q → Q 1 ε1 μ1
      exact fun _ _ _ => hh 1 0 ε1 μ1 μ1 A (fun _ _ _ => rfl) (fun z => absurd z (by decide))
    · rw [c2] at A
      refine Or.inr ⟨by decide, Or.inl ⟨rfl, fun q _ => ?_⟩⟩
      show m_ty _ _ _ _ → ∀ w, w = q → Q 2 ε1 μ1
      exact fun _ _ _ => hh 2 0 ε1 μ1 μ1 A (fun _ _ _ => rfl) (fun z => absurd z (by decide))
    · rw [c3] at A
      refine Or.inr ⟨by decide, Or.inr ⟨by decide, Or.inl ⟨rfl, fun q _ => ?_⟩⟩⟩
      show m_ty _ _ _ _ → ∀ w, w = q → Q 3 ε1 μ1
      exact fun _ _ _ => hh 3 0 ε1 μ1 μ1 A (fun _ _ _ => rfl) (fun z => absurd z (by decide))
theorem w_number {Q Y : m_Po} {ε : m_E} {μ : m_M} {X p1 : Int} {codes : Int → Int} {om : m_E → m_M → m_Po → m_Po → Prop} (S : SL ε X) (c3 : codes 3 = 1) (c2 : codes 2 = 2) (cn : ∀ e, codes e ≠ 0 → e = 3 ∨ e = 2) (P : PAIR (fun ε μ Q Y => o_X10_number [(2, X), (0, p1)] ε μ Q Y) om codes ε μ X) (hh : LWc om X ε μ Q) : o_L_number [(2, X), (0, p1), (2, X + 141)] ε μ Q Y := by
  refine And.intro rfl (G_run (m_in []) 12 _ _ _ _ ?_)
  show m_ty _ _ _ _ → (kd ε X = 9 ∧ o_X10_number [(2, X), (0, p1)] ε μ _ _)
  refine fun _ => ⟨S.1.k, P _ _ (fun z ε1 μ1 A => ?_) (fun e ε1 μ1 ne A => ?_)⟩
  · show m_ty _ _ _ _ → (kd ε1 (X + 141) = 101 ∧ ((0 : Int) ≤ 0 ∧ (0 : Int) < ln ε1 (X + 141)) ∧ ∀ μ2, μ2 = st μ1 (X + 141) 0 z → m_ty _ _ _ _ → Q 0 ε1 μ2)
    have S1 := S.ex A.1
    exact fun _ => ⟨S1.2.2.2.2.2.2.1, ⟨by decide, by rw [S1.2.2.2.2.2.2.2]; decide⟩, fun μ2 m2 _ => hh 0 z ε1 μ1 μ2 A (fun b j h => by rw [m2, sx_oa h]) (fun _ => by rw [m2, sx_same])⟩
  · rcases cn e ne with h | h <;> subst h
    · rw [c3] at A
      refine Or.inl ⟨rfl, fun q _ => ?_⟩
      show m_ty _ _ _ _ → ∀ w, w = q → Q 1 ε1 μ1
      exact fun _ _ _ => hh 1 0 ε1 μ1 μ1 A (fun _ _ _ => rfl) (fun z => absurd z (by decide))
    · rw [c2] at A
      refine Or.inr ⟨by decide, Or.inl ⟨rfl, fun q _ => ?_⟩⟩
      show m_ty _ _ _ _ → ∀ w, w = q → Q 2 ε1 μ1
      exact fun _ _ _ => hh 2 0 ε1 μ1 μ1 A (fun _ _ _ => rfl) (fun z => absurd z (by decide))
theorem w_room {Q Y : m_Po} {ε : m_E} {μ : m_M} {X p1 : Int} {codes : Int → Int} {om : m_E → m_M → m_Po → m_Po → Prop} (S : SL ε X) (c1 : codes 1 = 1) (c3 : codes 3 = 2) (cn : ∀ e, codes e ≠ 0 → e = 1 ∨ e = 3) (P : PAIR (fun ε μ Q Y => o_X10_room [(2, X), (0, p1)] ε μ Q Y) om codes ε μ X) (hh : LWc om X ε μ Q) : o_L_room [(2, X), (0, p1), (2, X + 141)] ε μ Q Y := by
  refine And.intro rfl (G_run (m_in []) 12 _ _ _ _ ?_)
  show m_ty _ _ _ _ → (kd ε X = 9 ∧ o_X10_room [(2, X), (0, p1)] ε μ _ _)
  refine fun _ => ⟨S.1.k, P _ _ (fun z ε1 μ1 A => ?_) (fun e ε1 μ1 ne A => ?_)⟩
  · show m_ty _ _ _ _ → (kd ε1 (X + 141) = 101 ∧ ((0 : Int) ≤ 0 ∧ (0 : Int) < ln ε1 (X + 141)) ∧ ∀ μ2, μ2 = st μ1 (X + 141) 0 z → m_ty _ _ _ _ → Q 0 ε1 μ2)
    have S1 := S.ex A.1
    exact fun _ => ⟨S1.2.2.2.2.2.2.1, ⟨by decide, by rw [S1.2.2.2.2.2.2.2]; decide⟩, fun μ2 m2 _ => hh 0 z ε1 μ1 μ2 A (fun b j h => by rw [m2, sx_oa h]) (fun _ => by rw [m2, sx_same])⟩
  · rcases cn e ne with h | h <;> subst h
    · rw [c1] at A
      refine Or.inl ⟨rfl, fun q _ => ?_⟩
      show m_ty _ _ _ _ → ∀ w, w = q → Q 1 ε1 μ1
      exact fun _ _ _ => hh 1 0 ε1 μ1 μ1 A (fun _ _ _ => rfl) (fun z => absurd z (by decide))
    · rw [c3] at A
      refine Or.inr ⟨by decide, Or.inl ⟨rfl, fun q _ => ?_⟩⟩
      show m_ty _ _ _ _ → ∀ w, w = q → Q 2 ε1 μ1
      exact fun _ _ _ => hh 2 0 ε1 μ1 μ1 A (fun _ _ _ => rfl) (fun z => absurd z (by decide))
theorem w_strike {Q Y : m_Po} {ε : m_E} {μ : m_M} {X p1 p2 p3 : Int} {codes : Int → Int} {om : m_E → m_M → m_Po → m_Po → Prop} (S : SL ε X) (c1 : codes 1 = 1) (c2 : codes 2 = 2) (c3 : codes 3 = 3) (cn : ∀ e, codes e ≠ 0 → e = 1 ∨ e = 2 ∨ e = 3) (P : PAIR (fun ε μ Q Y => o_X10_strike [(2, X), (0, p1), (0, p2), (0, p3)] ε μ Q Y) om codes ε μ X) (hh : LWs om X ε μ Q) : o_L_strike [(2, X), (0, p1), (0, p2), (0, p3), (2, X + 141)] ε μ Q Y := by
  refine And.intro rfl (G_run (m_in []) 12 _ _ _ _ ?_)
  show m_ty _ _ _ _ → (kd ε X = 9 ∧ o_X10_strike [(2, X), (0, p1), (0, p2), (0, p3)] ε μ _ _)
  refine fun _ => ⟨S.1.k, P _ _ (fun z ε1 μ1 A => ?_) (fun e ε1 μ1 ne A => ?_)⟩
  · show m_ty _ _ _ _ → ((z = 0 → m_ty _ _ _ _ → m_ty _ _ _ _ → (kd ε1 (X + 141) = 101 ∧ ((0 : Int) ≤ 0 ∧ (0 : Int) < ln ε1 (X + 141)) ∧ ∀ μ2, μ2 = st μ1 (X + 141) 0 0 → m_ty _ _ _ _ → Q 0 ε1 μ2)) ∧ (z ≠ 0 → m_ty _ _ _ _ → m_ty _ _ _ _ → (kd ε1 (X + 141) = 101 ∧ ((0 : Int) ≤ 0 ∧ (0 : Int) < ln ε1 (X + 141)) ∧ ∀ μ2, μ2 = st μ1 (X + 141) 0 1 → m_ty _ _ _ _ → Q 0 ε1 μ2)))
    have S1 := S.ex A.1
    exact fun _ => ⟨fun q _ _ => ⟨S1.2.2.2.2.2.2.1, ⟨by decide, by rw [S1.2.2.2.2.2.2.2]; decide⟩, fun μ2 m2 _ => hh 0 z ε1 μ1 μ2 A (fun b j h => by rw [m2, sx_oa h]) (fun _ => by rw [m2, sx_same, if_pos q])⟩, fun q _ _ => ⟨S1.2.2.2.2.2.2.1, ⟨by decide, by rw [S1.2.2.2.2.2.2.2]; decide⟩, fun μ2 m2 _ => hh 0 z ε1 μ1 μ2 A (fun b j h => by rw [m2, sx_oa h]) (fun _ => by rw [m2, sx_same, if_neg q])⟩⟩
  · rcases cn e ne with h | h | h <;> subst h
    · rw [c1] at A
      refine Or.inl ⟨rfl, fun q _ => ?_⟩
      show m_ty _ _ _ _ → ∀ w, w = q → Q 1 ε1 μ1
      exact fun _ _ _ => hh 1 0 ε1 μ1 μ1 A (fun _ _ _ => rfl) (fun z => absurd z (by decide))
    · rw [c2] at A
      refine Or.inr ⟨by decide, Or.inl ⟨rfl, fun q _ => ?_⟩⟩
      show m_ty _ _ _ _ → ∀ w, w = q → Q 2 ε1 μ1
      exact fun _ _ _ => hh 2 0 ε1 μ1 μ1 A (fun _ _ _ => rfl) (fun z => absurd z (by decide))
    · rw [c3] at A
      refine Or.inr ⟨by decide, Or.inr ⟨by decide, Or.inl ⟨rfl, fun q _ => ?_⟩⟩⟩
      show m_ty _ _ _ _ → ∀ w, w = q → Q 3 ε1 μ1
      exact fun _ _ _ => hh 3 0 ε1 μ1 μ1 A (fun _ _ _ => rfl) (fun z => absurd z (by decide))
theorem w_order {Q Y : m_Po} {ε : m_E} {μ : m_M} {X p1 p2 : Int} {codes : Int → Int} {om : m_E → m_M → m_Po → m_Po → Prop} (S : SL ε X) (c1 : codes 1 = 1) (c3 : codes 3 = 2) (cn : ∀ e, codes e ≠ 0 → e = 1 ∨ e = 3) (P : PAIR (fun ε μ Q Y => o_X10_order [(2, X), (0, p1), (0, p2)] ε μ Q Y) om codes ε μ X) (hh : LWc om X ε μ Q) : o_L_order [(2, X), (0, p1), (0, p2), (2, X + 141)] ε μ Q Y := by
  refine And.intro rfl (G_run (m_in []) 12 _ _ _ _ ?_)
  show m_ty _ _ _ _ → (kd ε X = 9 ∧ o_X10_order [(2, X), (0, p1), (0, p2)] ε μ _ _)
  refine fun _ => ⟨S.1.k, P _ _ (fun z ε1 μ1 A => ?_) (fun e ε1 μ1 ne A => ?_)⟩
  · show m_ty _ _ _ _ → (kd ε1 (X + 141) = 101 ∧ ((0 : Int) ≤ 0 ∧ (0 : Int) < ln ε1 (X + 141)) ∧ ∀ μ2, μ2 = st μ1 (X + 141) 0 z → m_ty _ _ _ _ → Q 0 ε1 μ2)
    have S1 := S.ex A.1
    exact fun _ => ⟨S1.2.2.2.2.2.2.1, ⟨by decide, by rw [S1.2.2.2.2.2.2.2]; decide⟩, fun μ2 m2 _ => hh 0 z ε1 μ1 μ2 A (fun b j h => by rw [m2, sx_oa h]) (fun _ => by rw [m2, sx_same])⟩
  · rcases cn e ne with h | h <;> subst h
    · rw [c1] at A
      refine Or.inl ⟨rfl, fun q _ => ?_⟩
      show m_ty _ _ _ _ → ∀ w, w = q → Q 1 ε1 μ1
      exact fun _ _ _ => hh 1 0 ε1 μ1 μ1 A (fun _ _ _ => rfl) (fun z => absurd z (by decide))
    · rw [c3] at A
      refine Or.inr ⟨by decide, Or.inl ⟨rfl, fun q _ => ?_⟩⟩
      show m_ty _ _ _ _ → ∀ w, w = q → Q 2 ε1 μ1
      exact fun _ _ _ => hh 2 0 ε1 μ1 μ1 A (fun _ _ _ => rfl) (fun z => absurd z (by decide))
