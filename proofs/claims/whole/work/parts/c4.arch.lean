set_option maxHeartbeats 1000000
/-! ===== the class's arch as its bounds read it ===== -/
def LA_t (n : Int) : List (Int × Int × Int × Int) := [(3, 1, 100, 4), (4, 2, 100, 4), (5, 3, 100, 6), (6, 4, 100, 6), (7, 5, 100, 6), (1, 6, 100, n), (2, 7, 105, n), (8, 8, 100, 4 * (n + 1)), (9, 9, 103, n + 1), (10, 10, 100, n)]
def LA (ε : m_E) (P n : Int) : Prop := LT ε P 0 (LA_t n) ∧ fn ε P 0 = n ∧ 1 ≤ n ∧ n ≤ 10
theorem LA.k {ε : m_E} {P n : Int} (h : LA ε P n) : kd ε P = 0 := h.1.1
theorem LA.ex {ε ε' : m_E} {P n : Int} (h : LA ε P n) (e : EX ε ε') : LA ε' P n := ⟨LT.ex (by decide) (by intro q hq; simp only [LA_t, List.mem_cons, List.not_mem_nil, or_false] at hq; rcases hq with h | h | h | h | h | h | h | h | h | h <;> (rw [h]; simp)) h.1 e, ((e P (by rw [h.k]; decide)).2.2 0).trans h.2.1, h.2.2⟩
theorem LA.f3 {ε : m_E} {P n : Int} (h : LA ε P n) : fn ε P 3 = P + 1 ∧ kd ε (P + 1) = 100 ∧ ln ε (P + 1) = 4 := h.1.2 (3, 1, 100, 4) (List.mem_of_getElem? (i := 0) rfl)
theorem LA.f4 {ε : m_E} {P n : Int} (h : LA ε P n) : fn ε P 4 = P + 2 ∧ kd ε (P + 2) = 100 ∧ ln ε (P + 2) = 4 := h.1.2 (4, 2, 100, 4) (List.mem_of_getElem? (i := 1) rfl)
theorem LA.f5 {ε : m_E} {P n : Int} (h : LA ε P n) : fn ε P 5 = P + 3 ∧ kd ε (P + 3) = 100 ∧ ln ε (P + 3) = 6 := h.1.2 (5, 3, 100, 6) (List.mem_of_getElem? (i := 2) rfl)
theorem LA.f6 {ε : m_E} {P n : Int} (h : LA ε P n) : fn ε P 6 = P + 4 ∧ kd ε (P + 4) = 100 ∧ ln ε (P + 4) = 6 := h.1.2 (6, 4, 100, 6) (List.mem_of_getElem? (i := 3) rfl)
theorem LA.f7 {ε : m_E} {P n : Int} (h : LA ε P n) : fn ε P 7 = P + 5 ∧ kd ε (P + 5) = 100 ∧ ln ε (P + 5) = 6 := h.1.2 (7, 5, 100, 6) (List.mem_of_getElem? (i := 4) rfl)
theorem LA.f1 {ε : m_E} {P n : Int} (h : LA ε P n) : fn ε P 1 = P + 6 ∧ kd ε (P + 6) = 100 ∧ ln ε (P + 6) = n := h.1.2 (1, 6, 100, n) (List.mem_of_getElem? (i := 5) rfl)
theorem LA.f2 {ε : m_E} {P n : Int} (h : LA ε P n) : fn ε P 2 = P + 7 ∧ kd ε (P + 7) = 105 ∧ ln ε (P + 7) = n := h.1.2 (2, 7, 105, n) (List.mem_of_getElem? (i := 6) rfl)
theorem LA.f8 {ε : m_E} {P n : Int} (h : LA ε P n) : fn ε P 8 = P + 8 ∧ kd ε (P + 8) = 100 ∧ ln ε (P + 8) = 4 * (n + 1) := h.1.2 (8, 8, 100, 4 * (n + 1)) (List.mem_of_getElem? (i := 7) rfl)
theorem LA.f9 {ε : m_E} {P n : Int} (h : LA ε P n) : fn ε P 9 = P + 9 ∧ kd ε (P + 9) = 103 ∧ ln ε (P + 9) = n + 1 := h.1.2 (9, 9, 103, n + 1) (List.mem_of_getElem? (i := 8) rfl)
theorem LA.f10 {ε : m_E} {P n : Int} (h : LA ε P n) : fn ε P 10 = P + 10 ∧ kd ε (P + 10) = 100 ∧ ln ε (P + 10) = n := h.1.2 (10, 10, 100, n) (List.mem_of_getElem? (i := 9) rfl)
/-- a stone of the class and the reference's numbers of it -/
def SN (ε : m_E) (σ : m_M) (s S : Int) : Prop := kd ε S = 6 ∧ fn ε S 0 = σ 4 s ∧ fn ε S 2 = σ 8 s ∧ fn ε S 3 = σ 9 s ∧ fn ε S 4 = σ 10 s ∧ fn ε S 5 = σ 11 (2 * s) ∧ fn ε S 6 = σ 12 (2 * s) ∧ fn ε S 7 = σ 11 (2 * s + 1) ∧ fn ε S 8 = σ 12 (2 * s + 1) ∧ 0 ≤ σ 4 s ∧ σ 4 s ≤ 4 ∧ 0 ≤ σ 9 s ∧ σ 9 s ≤ 660000 ∧ ab (σ 9 s * σ 10 s) 440000000
/-- no stone at a place -/
def nb (σ : m_M) (a p : Int) : Prop := p < 0 ∨ σ 15 a ≤ p ∨ σ 16 (10 * a + p) < 0
theorem kA_nb {σ : m_M} {a p : Int} (h : nb σ a p) : kA σ a p = -1 := by
  unfold kA
  by_cases q : p < 0
  · exact if_pos q
  · rw [if_neg q]
    by_cases r : σ 15 a ≤ p
    · exact if_pos r
    · rw [if_neg r]
      rcases h with h | h | h
      · exact absurd h q
      · exact absurd h r
      · exact if_neg (by omega)
theorem kA_b {σ : m_M} {a p : Int} (h0 : 0 ≤ p) (h1 : p < σ 15 a) (h2 : 0 ≤ σ 16 (10 * a + p)) : kA σ a p = σ 4 (σ 16 (10 * a + p)) := by
  unfold kA
  rw [if_neg (by omega), if_neg (by omega), if_pos h2]
/-- blocks, loads and slope of an arch -/
def AQ (ε : m_E) (μ σ : m_M) (a P : Int) : Prop := LA ε P (σ 15 a) ∧ (∀ p, 0 ≤ p → p < σ 15 a → (σ 16 (10 * a + p) < 0 → μ (P + 7) p = 0) ∧ (0 ≤ σ 16 (10 * a + p) → 0 < μ (P + 7) p ∧ SN ε σ (σ 16 (10 * a + p)) (μ (P + 7) p))) ∧ μ P 13 = σ 19 a ∧ (∀ i : Int, 0 ≤ i → i < σ 19 a → μ (P + 3) i = σ 20 (6 * a + i) ∧ μ (P + 4) i = σ 21 (6 * a + i) ∧ μ (P + 5) i = σ 22 (6 * a + i)) ∧ μ P 14 = σ 23 a ∧ μ P 15 = σ 24 a ∧ 0 ≤ σ 19 a ∧ σ 19 a ≤ 6
theorem AQ.fb {ε : m_E} {μ μ' σ : m_M} {a P B : Int} (A : AQ ε μ σ a P) (hB : B + 5 < P) (f : FBo B μ μ') : AQ ε μ' σ a P := by
  unfold AQ at *
  have e : ∀ d j, 0 ≤ d → μ' (P + d) j = μ (P + d) j := fun d j h => f _ _ (Or.inr (by omega))
  have e0 : ∀ j, μ' P j = μ P j := fun j => f _ _ (Or.inr (by omega))
  simp only [e0, e 3 _ (by decide), e 4 _ (by decide), e 5 _ (by decide), e 7 _ (by decide)]
  exact A
theorem sp_X0_blockAt {Q X : m_Po} {ε : m_E} {μ σ : m_M} {a P p : Int} (A : AQ ε μ σ a P) (h0 : nb σ a p → Q 0 ε μ) (h1 : 0 ≤ p → p < σ 15 a → 0 ≤ σ 16 (10 * a + p) → 0 < μ (P + 7) p → SN ε σ (σ 16 (10 * a + p)) (μ (P + 7) p) → Q (μ (P + 7) p) ε μ) : o_X0_blockAt [(2, P), (0, p)] ε μ Q X := by
  obtain ⟨L, b, _⟩ := A
  apply e_X0_blockAt
  rw [L.f2.1, L.2.1]
  refine fun _ _ => ⟨fun q => ⟨L.k, fun r => ⟨L.f2.2.1, q, by rw [L.f2.2.2]; exact r⟩⟩, fun t ht => ?_⟩
  by_cases q : p < 0
  · rw [ht, if_pos q]; exact h0 (Or.inl q)
  · rw [if_neg q] at ht
    by_cases r : σ 15 a ≤ p
    · rw [ht, if_pos r]; exact h0 (Or.inr (Or.inl r))
    · rw [if_neg r] at ht
      obtain ⟨b1, b2⟩ := b p (by omega) (by omega)
      by_cases z : σ 16 (10 * a + p) < 0
      · rw [ht, b1 z]; exact h0 (Or.inr (Or.inr z))
      · rw [ht]
        exact h1 (by omega) (by omega) (by omega) (b2 (by omega)).1 (b2 (by omega)).2
theorem sp_X0_span {Q X : m_Po} {ε : m_E} {μ : m_M} {P n k d : Int} (L : LA ε P n) (k0 : 0 ≤ k) (k1 : k ≤ n) (d0 : 0 ≤ d) (d1 : d < 4) (hh : Q (μ (P + 8) (4 * k + d)) ε μ) : o_X0_span [(2, P), (0, k), (0, d)] ε μ Q X := by
  have := L.2.2
  apply e_X0_span
  rw [L.f8.1, L.f8.2.2, w32_id (show i32 (4 * k) by unfold i32; omega), w32_id (show i32 (4 * k + d) by unfold i32; omega)]
  refine fun _ _ _ v3 h3 => ⟨fun q => ⟨L.k, L.f8.2.1, fun r => ⟨q, r⟩⟩, fun t ht => ?_⟩
  rw [if_neg (by omega), if_neg (by omega), h3] at ht
  rw [ht]; exact hh
theorem sp_X7_isFilled {Q X : m_Po} {ε : m_E} {μ σ : m_M} {s S : Int} (N : SN ε σ s S) (hh : Q (if 3 ≤ σ 4 s then 1 else 0) ε μ) : o_X7_isFilled [(2, S)] ε μ Q X := by
  obtain ⟨n1, n2, _, _, _, _, _, _, _, n3, n4, _⟩ := N
  apply e_X7_isFilled
  rw [n2]
  refine fun _ => ⟨n1, fun t ht => ?_⟩
  have : t = if 3 ≤ σ 4 s then 1 else 0 := by
    rw [ht]
    by_cases q : 3 ≤ σ 4 s
    · rw [if_pos q]
      by_cases r : σ 4 s = 3
      · exact if_pos r
      · rw [if_neg r, if_pos (by omega)]
    · rw [if_neg q, if_neg (by omega), if_neg (by omega)]
  rw [this]; exact hh
theorem sp_X0_isAtFilled {Q X : m_Po} {ε : m_E} {μ σ : m_M} {a P k : Int} (A : AQ ε μ σ a P) (k0 : 0 ≤ k) (k1 : k ≤ 10) (hh : Q (fl σ a k) ε μ) : o_X0_isAtFilled [(2, P), (0, k)] ε μ Q X := by
  have L := A.1
  have Y : fl σ a k = 1 → G cd_X0_isAtFilled Q X 36 [] [] ε μ := fun z => by
    apply g_X0_isAtFilled_36
    rw [z] at hh
    exact fun _ => hh
  have N : fl σ a k = 0 → G cd_X0_isAtFilled Q X 40 [] [] ε μ := fun z => by
    apply g_X0_isAtFilled_40
    rw [z] at hh
    exact fun _ => hh
  have R : ¬ 3 ≤ kA σ a (k - 1) → ∀ v3, (nb σ a k ∧ v3 = 0) ∨ (0 ≤ k ∧ k < σ 15 a ∧ 0 ≤ σ 16 (10 * a + k) ∧ 0 < v3 ∧ SN ε σ (σ 16 (10 * a + k)) v3) → G cd_X0_isAtFilled Q X 25 [(3, (2, v3))] [] ε μ := fun z v3 h3 => by
    apply g_X0_isAtFilled_25
    rcases h3 with ⟨h3, h4⟩ | ⟨h3, h4, h5, h6, h7⟩
    · refine fun _ => ⟨fun _ => N ?_, fun q => absurd q (by omega)⟩
      unfold fl
      rw [if_neg z, kA_nb h3]; rfl
    · refine fun _ => ⟨fun q => absurd q (by omega), fun _ => ⟨h7.1, sp_X7_isFilled h7 ?_⟩⟩
      apply g_X0_isAtFilled_33
      have e := kA_b h3 h4 h5
      refine fun _ _ => ⟨fun q => N ?_, fun q => Y ?_⟩
      · unfold fl
        rw [if_neg z, e, if_neg (fun y => by rw [if_pos y] at q; exact absurd q (by decide))]
      · unfold fl
        rw [if_neg z, e, if_pos (by
          by_cases y : 3 ≤ σ 4 (σ 16 (10 * a + k))
          · exact y
          · rw [if_neg y] at q; exact absurd rfl q)]
  have M : ∀ v2, (nb σ a (k - 1) ∧ v2 = 0) ∨ (0 ≤ k - 1 ∧ k - 1 < σ 15 a ∧ 0 ≤ σ 16 (10 * a + (k - 1)) ∧ 0 < v2 ∧ SN ε σ (σ 16 (10 * a + (k - 1))) v2) → G cd_X0_isAtFilled Q X 7 [(0, (2, P)), (1, (0, k))] [(2, v2)] ε μ := fun v2 h2 => by
    have J : ∀ v3, (nb σ a k ∧ v3 = 0) ∨ (0 ≤ k ∧ k < σ 15 a ∧ 0 ≤ σ 16 (10 * a + k) ∧ 0 < v3 ∧ SN ε σ (σ 16 (10 * a + k)) v3) → G cd_X0_isAtFilled Q X 13 [(2, (2, v2))] [(2, v3)] ε μ := fun v3 h3 => by
      apply g_X0_isAtFilled_13
      intro _ v h
      subst h
      rcases h2 with ⟨h2, h4⟩ | ⟨h2, h4, h5, h6, h7⟩
      · exact ⟨fun _ => R (by rw [kA_nb h2]; decide) _ h3, fun q => absurd q (by omega)⟩
      · refine ⟨fun q => absurd q (by omega), fun _ => ⟨h7.1, sp_X7_isFilled h7 ?_⟩⟩
        apply g_X0_isAtFilled_22
        have e := kA_b h2 h4 h5
        refine fun _ _ => ⟨fun q => Y ?_, fun q => R ?_ _ h3⟩
        · unfold fl
          rw [e, if_pos (by
            by_cases y : 3 ≤ σ 4 (σ 16 (10 * a + (k - 1)))
            · exact y
            · rw [if_neg y] at q; exact absurd rfl q)]
        · rw [e]
          exact fun y => by rw [if_pos y] at q; exact absurd q (by decide)
    apply g_X0_isAtFilled_7
    intro _ _ v h
    subst h
    exact ⟨L.k, sp_X0_blockAt A (fun q => J 0 (Or.inl ⟨q, rfl⟩)) (fun a1 a2 a3 a4 a5 => J _ (Or.inr ⟨a1, a2, a3, a4, a5⟩))⟩
  apply e_X0_isAtFilled
  rw [w32_id (show i32 (k - 1) by unfold i32; omega)]
  exact fun _ _ => ⟨L.k, sp_X0_blockAt A (fun q => M 0 (Or.inl ⟨q, rfl⟩)) (fun a1 a2 a3 a4 a5 => M _ (Or.inr ⟨a1, a2, a3, a4, a5⟩))⟩
theorem sp_X0_isSpringing {Q X : m_Po} {ε : m_E} {μ σ : m_M} {a P k : Int} (A : AQ ε μ σ a P) (k0 : 0 ≤ k) (k1 : k ≤ 10) (hh : Q (spr σ a k) ε μ) : o_X0_isSpringing [(2, P), (0, k)] ε μ Q X := by
  have L := A.1
  have R : ∀ p, ((k = 0 ∧ p = 0) ∨ (k ≠ 0 ∧ k = σ 15 a ∧ p = k - 1)) → ∀ v, (nb σ a p ∧ v = 0) ∨ (0 ≤ p ∧ p < σ 15 a ∧ 0 ≤ σ 16 (10 * a + p) ∧ 0 < v ∧ SN ε σ (σ 16 (10 * a + p)) v) → G cd_X0_isSpringing Q X 29 [] [(2, v)] ε μ := fun p hp v hv => by
    have n1 := L.2.2
    have es : spr σ a k = if kA σ a p = 2 then 1 else 0 := by
      unfold spr
      rcases hp with ⟨h1, h2⟩ | ⟨h1, h2, h3⟩
      · rw [h2]
        by_cases z : kA σ a 0 = 2
        · rw [if_pos z, if_pos (Or.inl ⟨h1, z⟩)]
        · rw [if_neg z, if_neg (fun y => y.elim (fun y => z y.2) (fun y => by omega))]
      · rw [h3]
        by_cases z : kA σ a (k - 1) = 2
        · rw [if_pos z, if_pos (Or.inr ⟨h2, z⟩)]
        · rw [if_neg z, if_neg (fun y => y.elim (fun y => h1 y.1) (fun y => z y.2))]
    apply g_X0_isSpringing_29
    intro _ v2 h2
    subst h2
    rw [es] at hh
    rcases hv with ⟨h2, h4⟩ | ⟨h2, h4, h5, h6, h7⟩
    · refine ⟨fun q => absurd q (by omega), fun t ht => ?_⟩
      rw [kA_nb h2, if_neg (by decide)] at hh
      rw [if_pos h4] at ht
      rw [ht]; exact hh
    · refine ⟨fun _ => h7.1, fun t ht => ?_⟩
      rw [kA_b h2 h4 h5] at hh
      rw [if_neg (by omega), h7.2.1] at ht
      rw [ht]; exact hh
  have M : (k = 0 ∨ k = σ 15 a) → G cd_X0_isSpringing Q X 14 [(0, (2, P)), (1, (0, k))] [] ε μ := fun q => by
    apply g_X0_isSpringing_14
    rw [w32_id (show i32 (k - 1) by unfold i32; omega)]
    intro _ _ t ht
    have hp : (k = 0 ∧ t = 0) ∨ (k ≠ 0 ∧ k = σ 15 a ∧ t = k - 1) := by
      by_cases z : k = 0
      · rw [if_pos z] at ht; exact Or.inl ⟨z, ht⟩
      · rw [if_neg z] at ht; exact Or.inr ⟨z, q.resolve_left z, ht⟩
    exact ⟨L.k, sp_X0_blockAt A (fun q => R t hp 0 (Or.inl ⟨q, rfl⟩)) (fun a1 a2 a3 a4 a5 => R t hp _ (Or.inr ⟨a1, a2, a3, a4, a5⟩))⟩
  apply e_X0_isSpringing
  rw [L.2.1]
  refine fun _ _ => ⟨fun q => M (Or.inl q), fun q => ⟨L.k, fun r => M (Or.inr r), fun r => ?_⟩⟩
  have : spr σ a k = 0 := if_neg (fun y => y.elim (fun y => q y.1) (fun y => r y.1))
  rw [this] at hh
  exact hh
