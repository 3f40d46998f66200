set_option maxHeartbeats 1000000
/-! ===== the class's table of rows that can grow ===== -/
def FC6 (X : Int) (μ μ' : m_M) : Prop := ∀ b j, (b < X + 4 ∨ X + 14 < b) → b ≠ X + 33 → μ' b j = μ b j
theorem FC6.rf {X : Int} {μ : m_M} : FC6 X μ μ := fun _ _ _ _ => rfl
theorem FC6.trans {X : Int} {μ μ' μ'' : m_M} (h : FC6 X μ μ') (k : FC6 X μ' μ'') : FC6 X μ μ'' := fun b j h1 h2 => (k b j h1 h2).trans (h b j h1 h2)
theorem FC5.c6 {X : Int} {μ μ' : m_M} (h : FC5 X μ μ') : FC6 X μ μ' := fun b j h1 _ => h b j h1
theorem AF.hi {ε : m_E} {μ μ' σ : m_M} {a P X : Int} (A : AF ε μ σ a P) (hX : X + 141 < P) (f : ∀ b j, X + 141 < b → μ' b j = μ b j) (hC : ∀ p, 0 ≤ p → p < σ 15 a → 0 ≤ σ 16 (10 * a + p) → X + 141 < fn ε (μ (P + 7) p) 1) : AF ε μ' σ a P := by
  unfold AF AQ at *
  have e : ∀ d j, 0 ≤ d → μ' (P + d) j = μ (P + d) j := fun d j h1 => f _ _ (by omega)
  have e0 : ∀ j, μ' P j = μ P j := fun j => f _ _ (by omega)
  obtain ⟨⟨A1, A2, A3, A4, A5, A6, A7⟩, A8, A9, A10, A11⟩ := A
  refine ⟨⟨A1, fun p p0 p1 => ?_, (e0 13).trans A3, fun i i0 i1 => ?_, (e0 14).trans A5, (e0 15).trans A6, A7⟩, fun i i0 i1 => ?_, (e0 11).trans A9, (e0 12).trans A10, fun p p0 p1 p2 => ?_⟩
  · rw [e 7 _ (by decide)]; exact A2 p p0 p1
  · rw [e 3 _ (by decide), e 4 _ (by decide), e 5 _ (by decide)]; exact A4 i i0 i1
  · rw [e 1 _ (by decide), e 2 _ (by decide)]; exact A8 i i0 i1
  · rw [e 7 _ (by decide)]
    obtain ⟨b1, b2, b3⟩ := A11 p p0 p1 p2
    have := hC p p0 p1 p2
    exact ⟨b1, b2.fr (fun j => f _ _ (by omega)), b3⟩
theorem WH.c6 {ε : m_E} {μ μ' σ : m_M} {X a P : Int} (H : WH ε μ σ X a P) (f : FC6 X μ μ') : WH ε μ' σ X a P := by
  obtain ⟨h1, h2, h3, h4, h5, h6, h7, h8, h9, h10, h11, h12, h13⟩ := H
  refine ⟨h1, h2, h3, h4, h5, h6, h7, h8, h9, h10.hi h9 (fun b j h => f _ _ (by omega) (by omega)) h13, h11.fr (fun b j h => f _ _ (by omega) (by omega)), (f _ _ (by omega) (by omega)).trans h12, fun p p0 p1 p2 => ?_⟩
  rw [f (P + 7) p (by omega) (by omega)]; exact h13 p p0 p1 p2
def TB (μ σ : m_M) (X a w i : Int) : Prop := ∀ p q, 0 ≤ p → p ≤ q → q < σ 15 a → (w < q - p + 1 ∨ (w = q - p + 1 ∧ p < i)) → (μ (X + 33) (p * 10 + q) = 1 ∧ Grw σ a p q) ∨ (μ (X + 33) (p * 10 + q) = 0 ∧ ¬ Grw σ a p q)
theorem TB.of {μ μ' σ : m_M} {X a w i : Int} (H : TB μ σ X a w i) (e : ∀ j, μ' (X + 33) j = μ (X + 33) j) : TB μ' σ X a w i := fun p q p0 pq qn h => by rw [e]; exact H p q p0 pq qn h
theorem sp_X10_canGrow {Q Y : m_Po} {ε : m_E} {μ : m_M} {X i j n : Int} (S : SL ε X) (n10 : n ≤ 10) (h1 : 0 ≤ i → i ≤ j → j < n → μ (X + 33) (i * 10 + j) ≠ 0 → Q 1 ε μ) (h0 : ¬ (0 ≤ i ∧ i ≤ j ∧ j < n) ∨ μ (X + 33) (i * 10 + j) = 0 → Q 0 ε μ) : o_X10_canGrow [(2, X), (0, i), (0, j), (0, n)] ε μ Q Y := by
  apply e_X10_canGrow
  rw [S.1.f8.1, S.1.f8.2.2]
  by_cases a : 0 ≤ i ∧ i ≤ j ∧ j < n
  · rw [w32_id (show i32 (i * 10) by unfold i32; omega), w32_id (show i32 (i * 10 + j) by unfold i32; omega)]
    refine fun _ _ _ _ => ⟨fun _ _ _ _ => ⟨S.1.k, S.1.f8.2.1, by omega, by omega⟩, fun t ht => ?_⟩
    rw [if_neg (by omega), if_neg (by omega), if_neg (by omega), if_neg (by omega)] at ht
    by_cases z : μ (X + 33) (i * 10 + j) = 0
    · rw [if_pos z] at ht; rw [ht]; exact h0 (Or.inr z)
    · rw [if_neg z] at ht; rw [ht]; exact h1 a.1 a.2.1 a.2.2 z
  · refine fun _ _ _ _ => ⟨fun b1 b2 b3 _ => absurd ⟨b1, b2, b3⟩ a, fun t ht => ?_⟩
    have : t = 0 := by
      rw [ht]
      by_cases b : i < 0
      · exact if_pos b
      · rw [if_neg b]
        by_cases c : j < i
        · exact if_pos c
        · rw [if_neg c, if_pos (by omega)]
    rw [this]; exact h0 (Or.inl a)
/-- with the table at hand -/
theorem cg_tb {Q Y : m_Po} {ε : m_E} {μ σ : m_M} {X a i j n w t : Int} (S : SL ε X) (hn : σ 15 a = n) (n10 : n ≤ 10) (B : TB μ σ X a w t) (hw : 0 ≤ i → i ≤ j → j < n → w < j - i + 1) (h1 : 0 ≤ i → i ≤ j → j < n → Grw σ a i j → Q 1 ε μ) (h0 : ¬ (0 ≤ i ∧ i ≤ j ∧ j < n ∧ Grw σ a i j) → Q 0 ε μ) : o_X10_canGrow [(2, X), (0, i), (0, j), (0, n)] ε μ Q Y := by
  refine sp_X10_canGrow S n10 (fun a1 a2 a3 z => ?_) (fun z => h0 (fun y => ?_))
  · rcases B i j a1 a2 (by omega) (Or.inl (hw a1 a2 a3)) with ⟨_, g⟩ | ⟨e, _⟩
    · exact h1 a1 a2 a3 g
    · exact absurd e z
  · rcases z with z | z
    · exact z ⟨y.1, y.2.1, y.2.2.1⟩
    · rcases B i j y.1 y.2.1 (by omega) (Or.inl (hw y.1 y.2.1 y.2.2.1)) with ⟨e, _⟩ | ⟨_, g⟩
      · rw [e] at z; exact absurd z (by decide)
      · exact g y.2.2.2
theorem fo_69 {Q Y : m_Po} {ε : m_E} {μ σ : m_M} {X a P n w i j t : Int} (S : SL ε X) (W : WH ε μ σ X a P) (hn : σ 15 a = n) (i0 : 0 ≤ i) (ij : i ≤ j) (jn : j < n) (ht : (t = 1 ∧ ((i = 0 ∧ j = n - 1) ∨ (0 < i ∧ Grw σ a (i - 1) j) ∨ (j < n - 1 ∧ Grw σ a i (j + 1)))) ∨ (t = 0 ∧ ¬ ((i = 0 ∧ j = n - 1) ∨ (0 < i ∧ Grw σ a (i - 1) j) ∨ (j < n - 1 ∧ Grw σ a i (j + 1)))))
    (K : ∀ μ' v, FC5 X μ μ' → ((v = 1 ∧ Grw σ a i j) ∨ (v = 0 ∧ ¬ Grw σ a i j)) → G cd_X10_findOrder Q Y 105 [(0, (2, X)), (1, (2, P)), (2, (0, n)), (3, (0, w)), (4, (0, i))] [(0, v), (0, i * 10 + j), (2, X + 33)] ε μ') : G cd_X10_findOrder Q Y 69 [(0, (2, X)), (1, (2, P)), (2, (0, n)), (3, (0, w)), (4, (0, i)), (5, (0, j))] [(0, t)] ε μ := by
  have n10 : n ≤ 10 := by rw [← hn]; exact W.1.2.2.2.1
  have sp := Grw.step (σ := σ) (a := a) i0 ij (show j < σ 15 a by omega)
  rw [hn] at sp
  have k104 : ∀ μ', FC5 X μ μ' → ¬ Grw σ a i j → G cd_X10_findOrder Q Y 104 [(0, (2, X)), (1, (2, P)), (2, (0, n)), (3, (0, w)), (4, (0, i))] [(0, i * 10 + j), (2, X + 33)] ε μ' := fun μ' f g => by
    apply g_X10_findOrder_104
    exact fun _ _ _ _ _ => K μ' 0 f (Or.inr ⟨rfl, g⟩)
  apply g_X10_findOrder_69
  rw [S.1.f8.1, w32_id (show i32 (i * 10) by unfold i32; omega), w32_id (show i32 (i * 10 + j) by unfold i32; omega)]
  refine fun _ _ _ _ _ _ v6 e6 => ⟨S.1.k, fun z => ?_, fun z => sp_X10_isStruck S W i0 ij (by omega) (fun μ' f sk => ?_) (fun μ' f nsk => ?_)⟩
  · rcases ht with ⟨h, _⟩ | ⟨_, h⟩
    · omega
    · exact k104 μ FC5.rf (fun y => h (sp.mp y).2)
  · rcases ht with ⟨_, h⟩ | ⟨h, _⟩
    · apply g_X10_findOrder_97
      exact fun _ _ _ _ _ _ => ⟨fun y => absurd y (by decide), fun _ => K μ' 1 f (Or.inl ⟨rfl, sp.mpr ⟨sk, h⟩⟩)⟩
    · omega
  · apply g_X10_findOrder_97
    exact fun _ _ _ _ _ _ => ⟨fun _ => k104 μ' f (fun y => nsk (sp.mp y).1), fun y => absurd rfl y⟩
theorem fo_15 {Q Y : m_Po} {ε : m_E} {μ σ : m_M} {X a P n w : Int} (S : SL ε X) (W : WH ε μ σ X a P) (hn : σ 15 a = n) (w1 : 1 ≤ w) (wn : w ≤ n) (K : ∀ μ', FC6 X μ μ' → TB μ' σ X a (w - 1) 0 → G cd_X10_findOrder Q Y 7 [(0, (2, X)), (1, (2, P)), (2, (0, n)), (3, (0, w - 1))] [] ε μ') : ∀ (d : Nat) (i : Int) (μ1 : m_M), i + w + d = n + 1 → 0 ≤ i → FC6 X μ μ1 → TB μ1 σ X a w i → G cd_X10_findOrder Q Y 15 [(0, (2, X)), (1, (2, P)), (2, (0, n)), (3, (0, w)), (4, (0, i))] [] ε μ1 := by
  have n10 : n ≤ 10 := by rw [← hn]; exact W.1.2.2.2.1
  intro d
  induction d with
  | zero =>
    intro i μ1 hi i0 f B
    apply g_X10_findOrder_15
    rw [w32_id (show i32 (i + w) by unfold i32; omega), w32_id (show i32 (w + (-1)) by unfold i32; omega)]
    refine fun _ _ _ _ => ⟨fun _ v e => ?_, fun z => absurd z (by omega)⟩
    rw [e, show w + (-1) = w - 1 by omega]
    exact K μ1 f (fun p q p0 pq qn h => B p q p0 pq qn (by omega))
  | succ d ih =>
    intro i μ1 hi i0 f B
    have k105 : ∀ μ' v, FC5 X μ1 μ' → ((v = 1 ∧ Grw σ a i (i + w - 1)) ∨ (v = 0 ∧ ¬ Grw σ a i (i + w - 1))) → G cd_X10_findOrder Q Y 105 [(0, (2, X)), (1, (2, P)), (2, (0, n)), (3, (0, w)), (4, (0, i))] [(0, v), (0, i * 10 + (i + w - 1)), (2, X + 33)] ε μ' := fun μ' v f' hv => by
      apply g_X10_findOrder_105
      rw [S.1.f8.2.2, w32_id (show i32 (i + 1) by unfold i32; omega)]
      refine fun _ _ _ _ _ _ => ⟨S.1.f8.2.1, by omega, by omega, by omega, fun μ2 m2 v4 e4 => ?_⟩
      rw [e4]
      refine ih (i + 1) μ2 (by omega) (by omega) (f.trans (f'.c6.trans (fun b j h1 h2 => by rw [m2, sx_oa h2]))) (fun p q p0 pq qn h => ?_)
      by_cases y : p = i ∧ q = i + w - 1
      · rw [y.1, y.2, m2, sx_same]; exact hv
      · rw [m2, sx_oi (by omega), f' _ _ (by omega)]
        exact B p q p0 pq qn (by omega)
    have k64 : ((i = 0 ∧ (i + w - 1) = n - 1) ∨ (0 < i ∧ Grw σ a (i - 1) (i + w - 1)) ∨ ((i + w - 1) < n - 1 ∧ Grw σ a i ((i + w - 1) + 1))) → G cd_X10_findOrder Q Y 64 [(0, (2, X)), (1, (2, P)), (2, (0, n)), (3, (0, w)), (4, (0, i)), (5, (0, i + w - 1))] [] ε μ1 := fun h => by
      apply g_X10_findOrder_64
      exact fun _ _ _ _ _ => fo_69 S (W.c6 f) hn i0 (by omega) (by omega) (Or.inl ⟨rfl, h⟩) k105
    apply g_X10_findOrder_15
    rw [w32_id (show i32 (i + w) by unfold i32; omega), w32_id (show i32 (i + w - 1) by unfold i32; omega), w32_id (show i32 (i - 1) by unfold i32; omega)]
    refine fun _ _ _ _ => ⟨fun z => absurd z (by omega), fun _ v5 e5 => ?_⟩
    rw [e5]
    refine ⟨fun z => k64 (Or.inl ⟨by omega, by omega⟩), fun z => ⟨S.1.k, cg_tb S hn n10 B (fun _ _ _ => by omega) (fun a1 _ _ g => ?_) (fun c1 => ?_)⟩⟩
    · apply g_X10_findOrder_47
      exact fun _ _ _ _ _ _ => ⟨fun _ => k64 (Or.inr (Or.inl ⟨by omega, g⟩)), fun y => absurd y (by decide)⟩
    · apply g_X10_findOrder_47
      rw [w32_id (show i32 (i + w - 1 + 1) by unfold i32; omega)]
      refine fun _ _ _ _ _ _ => ⟨fun y => absurd rfl y, fun _ => ⟨S.1.k, cg_tb S hn n10 B (fun _ _ _ => by omega) (fun _ _ a3 g => ?_) (fun c2 => ?_)⟩⟩
      · apply g_X10_findOrder_61
        exact fun _ _ _ _ _ _ => ⟨fun y => absurd y (by decide), fun _ => k64 (Or.inr (Or.inr ⟨by omega, g⟩))⟩
      · apply g_X10_findOrder_61
        refine fun _ _ _ _ _ _ => ⟨fun _ => fo_69 S (W.c6 f) hn i0 (by omega) (by omega) (Or.inr ⟨rfl, fun y => ?_⟩) k105, fun y => absurd rfl y⟩
        rcases y with y | y | y
        · omega
        · exact c1 ⟨by omega, by omega, by omega, y.2⟩
        · exact c2 ⟨by omega, by omega, by omega, y.2⟩
theorem fo_7 {Q Y : m_Po} {ε : m_E} {μ σ : m_M} {X a P n : Int} (S : SL ε X) (W : WH ε μ σ X a P) (LA' : LA ε P n) (hn : σ 15 a = n) (K : ∀ μ', FC6 X μ μ' → TB μ' σ X a 0 0 → o_X0_clearOrder [(2, P)] ε μ' (fun z ε_1 μ_1 => G cd_X10_findOrder Q Y 122 [(0, (2, X)), (1, (2, P)), (2, (0, n))] [] ε_1 μ_1) m_F) : ∀ (d : Nat) (μ1 : m_M), (d : Int) ≤ n → FC6 X μ μ1 → TB μ1 σ X a d 0 → G cd_X10_findOrder Q Y 7 [(0, (2, X)), (1, (2, P)), (2, (0, n)), (3, (0, (d : Int)))] [] ε μ1 := by
  intro d
  induction d with
  | zero =>
    intro μ1 _ f B
    apply g_X10_findOrder_7
    exact fun _ _ _ => ⟨fun _ => ⟨LA'.k, K μ1 f B⟩, fun z => absurd z (by omega)⟩
  | succ d ih =>
    intro μ1 hd f B
    apply g_X10_findOrder_7
    refine fun _ _ _ => ⟨fun z => absurd z (by omega), fun _ v4 e4 => ?_⟩
    rw [e4]
    refine fo_15 S (W.c6 f) hn (by omega) hd (fun μ' f' B' => ?_) (n + 1 - (d + 1)).toNat 0 μ1 (by omega) (by decide) FC6.rf B
    rw [show ((d + 1 : Nat) : Int) - 1 = (d : Int) by omega] at B' ⊢
    exact ih μ' (by omega) (f.trans f') B'
