set_option maxHeartbeats 1000000
/-! ===== the class's Arch: points beside a joint, findSpans, hasSpan ===== -/
def AF (ε : m_E) (μ σ : m_M) (a P : Int) : Prop := AQ ε μ σ a P ∧ (∀ i, 0 ≤ i → i < 4 → μ (P + 1) i = σ 18 (8 * a + i) ∧ μ (P + 2) i = σ 18 (8 * a + 4 + i)) ∧ μ P 11 = σ 17 (2 * a) ∧ μ P 12 = σ 17 (2 * a + 1) ∧ ∀ p, 0 ≤ p → p < σ 15 a → 0 ≤ σ 16 (10 * a + p) → 0 < fn ε (μ (P + 7) p) 1 ∧ FP ε μ σ a p (fn ε (μ (P + 7) p) 1) ∧ (fn ε (μ (P + 7) p) 1 < P ∨ P + 10 < fn ε (μ (P + 7) p) 1)
def FA2 (P : Int) (μ μ' : m_M) : Prop := ∀ b j, b ≠ P + 8 → b ≠ P + 9 → ¬ (b = P ∧ j = 16) → μ' b j = μ b j
theorem FA2.rf {P : Int} {μ : m_M} : FA2 P μ μ := fun _ _ _ _ _ => rfl
theorem FA2.trans {P : Int} {μ μ' μ'' : m_M} (h : FA2 P μ μ') (k : FA2 P μ' μ'') : FA2 P μ μ'' := fun b j h1 h2 h3 => (k b j h1 h2 h3).trans (h b j h1 h2 h3)
theorem FP.fr {ε : m_E} {μ μ' σ : m_M} {a p adr : Int} (F : FP ε μ σ a p adr) (e : ∀ j, μ' adr j = μ adr j) : FP ε μ' σ a p adr := by
  unfold FP at *
  simp only [e]
  exact F
theorem AF.fa {ε : m_E} {μ μ' σ : m_M} {a P : Int} (A : AF ε μ σ a P) (f : FA2 P μ μ') : AF ε μ' σ a P := by
  unfold AF AQ at *
  have e : ∀ d j, d ≠ 0 → d ≠ 8 → d ≠ 9 → μ' (P + d) j = μ (P + d) j := fun d j h1 h2 h3 => f _ _ (by omega) (by omega) (by omega)
  have e0 : ∀ j, j ≠ 16 → μ' P j = μ P j := fun j h => f _ _ (by omega) (by omega) (by omega)
  obtain ⟨⟨A1, A2, A3, A4, A5, A6, A7⟩, A8, A9, A10, A11⟩ := A
  refine ⟨⟨A1, fun p p0 p1 => ?_, (e0 13 (by decide)).trans A3, fun i i0 i1 => ?_, (e0 14 (by decide)).trans A5, (e0 15 (by decide)).trans A6, A7⟩, fun i i0 i1 => ?_, (e0 11 (by decide)).trans A9, (e0 12 (by decide)).trans A10, fun p p0 p1 p2 => ?_⟩
  · rw [e 7 _ (by decide) (by decide) (by decide)]; exact A2 p p0 p1
  · rw [e 3 _ (by decide) (by decide) (by decide), e 4 _ (by decide) (by decide) (by decide), e 5 _ (by decide) (by decide) (by decide)]; exact A4 i i0 i1
  · rw [e 1 _ (by decide) (by decide) (by decide), e 2 _ (by decide) (by decide) (by decide)]; exact A8 i i0 i1
  · rw [e 7 _ (by decide) (by decide) (by decide)]
    obtain ⟨b1, b2, b3⟩ := A11 p p0 p1 p2
    exact ⟨b1, b2.fr (fun j => f _ _ (by omega) (by omega) (by omega)), b3⟩
theorem fs_all {α : Type} {f : Int → Option α} : ∀ (k : Nat) (i : Int), (∀ j, f j = none) → fs f i k = none := by
  intro k
  induction k with
  | zero => intro i _; rfl
  | succ k ih => intro i h; rw [fs_miss (h i)]; exact ih (i + 1) h
theorem jo_l {σ : m_M} {a k : Int} (h : fcn σ a (k - 1) = 0) : jo σ a k = none := by
  unfold jo; rw [h]; rfl
theorem jo_r {σ : m_M} {a k : Int} (h : fcn σ a k = 0) : jo σ a k = none := by
  unfold jo; rw [h]; exact fs_all _ _ (fun _ => rfl)
theorem sp_X0_pointsBefore {Q X : m_Po} {ε : m_E} {μ σ : m_M} {a P k : Int} (A : AF ε μ σ a P) (k0 : 0 ≤ k) (k1 : k ≤ σ 15 a) (h0 : fcn σ a (k - 1) = 0 → Q 0 ε μ) (h1 : ∀ z, 0 < z → FP ε μ σ a (k - 1) z → (z < P + 8 ∨ P + 9 < z) → Q z ε μ) : o_X0_pointsBefore [(2, P), (0, k)] ε μ Q X := by
  obtain ⟨B, A8, A9, A10, A11⟩ := A
  have L := B.1
  have n10 := L.2.2
  apply e_X0_pointsBefore
  intro TY' _
  refine ⟨fun q => ⟨L.k, ?_⟩, fun q => ⟨L.k, fun t ht => ?_⟩⟩
  · rw [w32_id (show i32 (k - 1) by unfold i32; omega)]
    refine sp_X0_blockAt B (fun nb' => ?_) (fun p0 p1 p2 p3 p4 => ?_)
    · apply g_X0_pointsBefore_27
      intro _ v2 h2
      refine ⟨fun z => absurd z (by omega), fun t1 ht1 => ?_⟩
      rw [if_pos h2] at ht1
      rw [ht1]
      refine h0 ?_
      unfold nb at nb'
      unfold fcn
      rw [if_neg (by omega), if_neg (by omega), if_neg (by omega)]
    · apply g_X0_pointsBefore_27
      intro _ v2 h2
      refine ⟨fun _ => by rw [h2]; exact p4.1, fun t1 ht1 => ?_⟩
      rw [if_neg (by omega)] at ht1
      obtain ⟨b1, b2, b3⟩ := A11 (k - 1) p0 p1 p2
      rw [ht1, h2]
      exact h1 _ b1 b2 (by omega)
  · have hf : fcn σ a (k - 1) = if σ 17 (2 * a) = 0 then 0 else 1 := by
      unfold fcn; rw [if_pos (by omega)]
    rw [A9, L.f3.1] at ht
    by_cases r : σ 17 (2 * a) = 0
    · rw [if_pos r] at ht hf
      rw [ht]; exact h0 hf
    · rw [if_neg r] at ht hf
      rw [ht]
      refine h1 _ (TY'.1 (P + 1) (by rw [L.f3.2.1]; decide)).1 ⟨L.f3.2.1, 2, L.f3.2.2, by decide, by decide, hf, fun i i0 i1 => ?_⟩ (by omega)
      have i00 : i = 0 := by omega
      subst i00
      have e : ∀ w, fA σ a (k - 1) 0 w = σ 18 (8 * a + w) := fun w => by unfold fA; rw [if_pos (by omega)]
      rw [e, e, e, e]
      exact ⟨(A8 0 (by decide) (by decide)).1, (A8 1 (by decide) (by decide)).1, (A8 2 (by decide) (by decide)).1, (A8 3 (by decide) (by decide)).1⟩
theorem sp_X0_pointsAfter {Q X : m_Po} {ε : m_E} {μ σ : m_M} {a P k : Int} (A : AF ε μ σ a P) (k0 : 0 ≤ k) (k1 : k ≤ σ 15 a) (h0 : fcn σ a k = 0 → Q 0 ε μ) (h1 : ∀ z, 0 < z → FP ε μ σ a k z → (z < P + 8 ∨ P + 9 < z) → Q z ε μ) : o_X0_pointsAfter [(2, P), (0, k)] ε μ Q X := by
  obtain ⟨B, A8, A9, A10, A11⟩ := A
  have L := B.1
  have n10 := L.2.2
  apply e_X0_pointsAfter
  rw [L.2.1]
  intro TY' _
  refine ⟨L.k, fun q => ?_, fun q t ht => ?_⟩
  · refine sp_X0_blockAt B (fun nb' => ?_) (fun p0 p1 p2 p3 p4 => ?_)
    · apply g_X0_pointsAfter_29
      intro _ v2 h2
      refine ⟨fun z => absurd z (by omega), fun t1 ht1 => ?_⟩
      rw [if_pos h2] at ht1
      rw [ht1]
      refine h0 ?_
      unfold nb at nb'
      unfold fcn
      rw [if_neg (by omega), if_neg q, if_neg (by omega)]
    · apply g_X0_pointsAfter_29
      intro _ v2 h2
      refine ⟨fun _ => by rw [h2]; exact p4.1, fun t1 ht1 => ?_⟩
      rw [if_neg (by omega)] at ht1
      obtain ⟨b1, b2, b3⟩ := A11 k p0 p1 p2
      rw [ht1, h2]
      exact h1 _ b1 b2 (by omega)
  · have hf : fcn σ a k = if σ 17 (2 * a + 1) = 0 then 0 else 1 := by
      unfold fcn; rw [if_neg (show ¬ k < 0 by omega), if_pos q]
    rw [A10, L.f4.1] at ht
    by_cases r : σ 17 (2 * a + 1) = 0
    · rw [if_pos r] at ht hf
      rw [ht]; exact h0 hf
    · rw [if_neg r] at ht hf
      rw [ht]
      refine h1 _ (TY'.1 (P + 2) (by rw [L.f4.2.1]; decide)).1 ⟨L.f4.2.1, 2, L.f4.2.2, by decide, by decide, hf, fun i i0 i1 => ?_⟩ (by omega)
      have i00 : i = 0 := by omega
      subst i00
      have e : ∀ w, fA σ a k 0 w = σ 18 (8 * a + 4 + w) := fun w => by unfold fA; rw [if_neg (show ¬ k < 0 by omega), if_pos q]
      rw [e, e, e, e]
      exact ⟨(A8 0 (by decide) (by decide)).2, (A8 1 (by decide) (by decide)).2, (A8 2 (by decide) (by decide)).2, (A8 3 (by decide) (by decide)).2⟩
/-- joint k is known to the class -/
def SPk (μ σ : m_M) (a P k : Int) : Prop := (jo σ a k = none ∧ μ (P + 9) k = 0) ∨ ∃ x, jo σ a k = some x ∧ μ (P + 9) k = 1 ∧ at4 (μ (P + 8)) (4 * k) x
def SPc (μ σ : m_M) (a P : Int) : Prop := μ P 16 = 0 ∨ (μ P 16 = 1 ∧ ∀ k, 0 ≤ k → k ≤ σ 15 a → SPk μ σ a P k)
theorem sp_X0_findSpans {Q X : m_Po} {ε : m_E} {μ σ : m_M} {a P : Int} (A : AF ε μ σ a P) (G' : MG σ a) (C : SPc μ σ a P) (hh : ∀ μ', FA2 P μ μ' → μ' P 16 = 1 → (∀ k, 0 ≤ k → k ≤ σ 15 a → SPk μ' σ a P k) → Q 0 ε μ') : o_X0_findSpans [(2, P)] ε μ Q X := by
  have L := A.1.1
  have n10 := L.2.2
  have O : ∀ (d : Nat) (k : Int) (μ1 : m_M), 0 ≤ k → k + d = σ 15 a + 1 → FA2 P μ μ1 → (∀ t, 0 ≤ t → t < k → SPk μ1 σ a P t) → G cd_X0_findSpans Q X 10 [(0, (2, P)), (1, (0, k))] [] ε μ1 := by
    intro d
    induction d with
    | zero =>
      intro k μ1 k0 hk f1 I
      apply g_X0_findSpans_10
      rw [L.2.1]
      refine fun _ _ => ⟨L.k, fun _ μ2 m2 => ?_, fun q => absurd q (by omega)⟩
      have e : ∀ d j, d ≠ 0 → μ2 (P + d) j = μ1 (P + d) j := fun d j h => by rw [m2]; exact sx_oa (by omega)
      refine hh μ2 (f1.trans (fun b j h1 h2 h3 => by rw [m2]; exact if_neg h3)) (by rw [m2, sx_same]) (fun t t0 t1 => ?_)
      have := I t t0 (by omega)
      unfold SPk at *
      rw [e 9 _ (by decide)]
      rcases this with h | ⟨x, x1, x2, x3⟩
      · exact Or.inl h
      · exact Or.inr ⟨x, x1, x2, at4_congr x3 (fun j _ _ => e 8 j (by decide))⟩
    | succ d ih =>
      intro k μ1 k0 hk f1 I
      have A1 := A.fa f1
      have T63 : ∀ (μ2 : m_M) (z : Int), FA2 P μ1 μ2 → (∀ t, 0 ≤ t → t < k → SPk μ2 σ a P t) → ((jo σ a k = none ∧ z = 0) ∨ ∃ x, jo σ a k = some x ∧ z = 1 ∧ at4 (μ2 (P + 8)) (4 * k) x) → G cd_X0_findSpans Q X 63 [(0, (2, P)), (1, (0, k))] [(0, z), (0, k), (2, P + 9)] ε μ2 := fun μ2 z f2 I2 hz => by
        apply g_X0_findSpans_63
        refine fun _ _ _ _ => ⟨L.f9.2.1, k0, by rw [L.f9.2.2]; omega, ?_, fun μ3 m3 v h => ?_⟩
        · rcases hz with h | ⟨_, _, h, _⟩
          · exact Or.inl h.2
          · exact Or.inr h
        · rw [w32_id (show i32 (k + 1) by unfold i32; omega)] at h
          rw [h]
          have f3 : FA2 P μ2 μ3 := fun b j h1 h2 h3 => by rw [m3]; exact if_neg (fun y => h2 y.1)
          refine ih (k + 1) μ3 (by omega) (by omega) ((f1.trans f2).trans f3) (fun t t0 t1 => ?_)
          have e8 : ∀ j, μ3 (P + 8) j = μ2 (P + 8) j := fun j => by rw [m3]; exact sx_oa (by omega)
          by_cases y : t = k
          · rw [y]
            unfold SPk
            rw [m3, sx_same, ← m3]
            rcases hz with h | ⟨x, x1, x2, x3⟩
            · exact Or.inl h
            · exact Or.inr ⟨x, x1, x2, at4_congr x3 (fun j _ _ => e8 j)⟩
          · have := I2 t t0 (by omega)
            unfold SPk at *
            have e9 : μ3 (P + 9) t = μ2 (P + 9) t := by rw [m3]; exact sx_oi y
            rw [e9]
            rcases this with h | ⟨x, x1, x2, x3⟩
            · exact Or.inl h
            · exact Or.inr ⟨x, x1, x2, at4_congr x3 (fun j _ _ => e8 j)⟩
      have T62 : ∀ μ2, FA2 P μ1 μ2 → (∀ t, 0 ≤ t → t < k → SPk μ2 σ a P t) → jo σ a k = none → G cd_X0_findSpans Q X 62 [(0, (2, P)), (1, (0, k))] [(0, k), (2, P + 9)] ε μ2 := fun μ2 f2 I2 hz => by
        apply g_X0_findSpans_62
        exact fun _ _ _ => T63 μ2 0 f2 I2 (Or.inl ⟨hz, rfl⟩)
      have T29 : ∀ v2 v3, ((v2 = 0 ∧ fcn σ a (k - 1) = 0) ∨ (0 < v2 ∧ FP ε μ1 σ a (k - 1) v2)) → ((v3 = 0 ∧ fcn σ a k = 0) ∨ (0 < v3 ∧ FP ε μ1 σ a k v3)) → G cd_X0_findSpans Q X 29 [(0, (2, P)), (1, (0, k)), (2, (2, v2))] [(2, v3)] ε μ1 := fun v2 v3 h2 h3 => by
        apply g_X0_findSpans_29
        rw [L.f9.1, L.f8.1, w32_id (show i32 (4 * k) by unfold i32; omega)]
        intro _ _ v h
        subst h
        refine ⟨L.k, fun q => T62 μ1 FA2.rf I ?_, fun q => ⟨fun r => T62 μ1 FA2.rf I ?_, fun r => ?_⟩⟩
        · rcases h2 with h | h
          · exact jo_l h.2
          · omega
        · rcases h3 with h | h
          · exact jo_r h.2
          · omega
        · have h2' := (h2.resolve_left (fun y => by omega)).2
          have h3' := (h3.resolve_left (fun y => by omega)).2
          refine sp_X6_findSpan G' h2' h3' rfl L.f8.2.1 L.f8.2.2 n10.2 k0 (by omega) (fun y => ?_) (fun x μ2 y f2 x4 => ?_)
          · apply g_X0_findSpans_55
            exact fun _ _ _ _ => ⟨fun _ => T62 μ1 FA2.rf I y, fun u => absurd rfl u⟩
          · apply g_X0_findSpans_55
            refine fun _ _ _ _ => ⟨fun u => absurd u (by decide), fun _ => T63 μ2 1 (fun b j h1 h2 h3 => f2 b j (fun u => h1 u.1)) (fun t t0 t1 => ?_) (Or.inr ⟨x, y, rfl, x4⟩)⟩
            have := I t t0 t1
            unfold SPk at *
            rw [f2 (P + 9) t (by omega)]
            rcases this with h | ⟨x, x1, x2, x3⟩
            · exact Or.inl h
            · exact Or.inr ⟨x, x1, x2, at4_congr x3 (fun j j0 j1 => f2 _ _ (by omega))⟩
      have T23 : ∀ v2, ((v2 = 0 ∧ fcn σ a (k - 1) = 0) ∨ (0 < v2 ∧ FP ε μ1 σ a (k - 1) v2)) → G cd_X0_findSpans Q X 23 [(0, (2, P)), (1, (0, k))] [(2, v2)] ε μ1 := fun v2 h2 => by
        apply g_X0_findSpans_23
        intro _ _ v h
        subst h
        exact ⟨L.k, sp_X0_pointsAfter A1 k0 (by omega) (fun q => T29 v 0 h2 (Or.inl ⟨rfl, q⟩)) (fun z z0 z1 _ => T29 v z h2 (Or.inr ⟨z0, z1⟩))⟩
      apply g_X0_findSpans_10
      rw [L.2.1]
      exact fun _ _ => ⟨L.k, fun q => absurd q (by omega), fun _ => sp_X0_pointsBefore A1 k0 (by omega) (fun q => T23 0 (Or.inl ⟨rfl, q⟩)) (fun z z0 z1 _ => T23 z (Or.inr ⟨z0, z1⟩))⟩
  apply e_X0_findSpans
  refine fun _ => ⟨L.k, fun q v h => ?_, fun q => ?_⟩
  · rw [h]
    exact O (σ 15 a + 1).toNat 0 μ (by decide) (by omega) FA2.rf (fun t t0 t1 => absurd t1 (by omega))
  · rcases C with C | ⟨C1, C2⟩
    · exact absurd C q
    · exact hh μ FA2.rf C1 C2
