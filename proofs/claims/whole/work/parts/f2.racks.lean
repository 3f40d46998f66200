set_option maxHeartbeats 1000000
/-! ===== pairs of calls: row, put, tear ===== -/
def rcl (X r b j : Int) : Prop := (b = X + 34 + 2 ∧ 40 * r ≤ j ∧ j < 40 * r + 40) ∨ (b = X + 34 + 3 ∧ 1600 * r ≤ j ∧ j < 1600 * r + 1600)
theorem Core.rack {ε ε' : m_E} {μ μ' : m_M} {X r : Int} {ow : Int → Int} (H : Core ε μ X ow (sgM μ (X + 34))) (e : EX ε ε') (r0 : 0 ≤ r) (r1 : r < sgM μ (X + 34) 0 4) (f : ∀ b j, ¬ scq X b j → ¬ rcl X r b j → ¬ (X + 141 < b ∧ ow b = 3 * r) → μ' b j = μ b j) (K : RK ε' μ' X ow (sgM μ' (X + 34)) r (μ (X + 1) r)) : Core ε' μ' X ow (sgM μ' (X + 34)) := by
  have H' := H
  obtain ⟨w, R, C, A, O⟩ := H
  have g0 : ∀ j, (j = 4 ∨ j = 14 ∨ j = 27 ∨ j = 66 ∨ j = 67) → sgM μ' (X + 34) 0 j = sgM μ (X + 34) 0 j := fun j h => f _ _ (fun z => by unfold scq at z; omega) (fun z => by unfold rcl at z; omega) (by omega)
  have g1 : ∀ o j, (o = 1 ∨ (4 ≤ o ∧ o ≤ 12) ∨ (15 ≤ o ∧ o ≤ 24) ∨ o = 105) → sgM μ' (X + 34) o j = sgM μ (X + 34) o j := fun o j h => f _ _ (fun z => by unfold scq at z; omega) (fun z => by unfold rcl at z; omega) (by omega)
  have g2 : ∀ j, ¬ (40 * r ≤ j ∧ j < 40 * r + 40) → sgM μ' (X + 34) 2 j = sgM μ (X + 34) 2 j := fun j h => f _ _ (fun z => by unfold scq at z; omega) (fun z => by unfold rcl at z; omega) (by omega)
  have g3 : ∀ j, ¬ (1600 * r ≤ j ∧ j < 1600 * r + 1600) → sgM μ' (X + 34) 3 j = sgM μ (X + 34) 3 j := fun j h => f _ _ (fun z => by unfold scq at z; omega) (fun z => by unfold rcl at z; omega) (by omega)
  have m : ∀ b j, b = X ∨ b = X + 1 ∨ b = X + 2 ∨ b = X + 3 ∨ (X + 141 < b ∧ ow b ≠ 3 * r) → μ' b j = μ b j := fun b j h => f _ _ (fun z => by unfold scq at z; omega) (fun z => by unfold rcl at z; omega) (fun z => by omega)
  generalize sgM μ (X + 34) = σ at *
  generalize sgM μ' (X + 34) = σ' at *
  have n4 := g0 4 (by decide)
  have n14 := g0 14 (by decide)
  have n27 := g0 27 (by decide)
  have n66 := g0 66 (by decide)
  have n67 := g0 67 (by decide)
  have R1 := R.2.1
  have R2 := R.2.2.1
  have C1 := C.2.1
  have C2 := C.2.2.1
  have A1 := A.2.1
  have A2 := A.2.2.1
  have ag : ∀ a, 0 ≤ a → a < σ 0 27 → AGa σ σ' a (σ 0 14) := fun a a0 a1 => (A.2.2.2 a a0 a1).aga C ⟨g1 _ _ (by decide), fun _ _ _ => g1 _ _ (by decide), g1 _ _ (by decide), g1 _ _ (by decide), fun _ _ _ => g1 _ _ (by decide), g1 _ _ (by decide), g1 _ _ (by decide), fun _ _ _ => ⟨g1 _ _ (by decide), g1 _ _ (by decide), g1 _ _ (by decide), g1 _ _ (by decide), fun _ _ _ => ⟨g1 _ _ (by decide), g1 _ _ (by decide)⟩⟩⟩
  refine ⟨w, ⟨?_, by omega, by omega, fun q q0 q1 => ?_, fun i i0 i1 => ?_⟩, ⟨?_, by omega, by omega, fun s s0 s1 => ?_⟩, ⟨?_, by omega, by omega, fun b a0 a1 => ?_⟩, ?_⟩
  · rw [m X 9 (by omega), n4]; exact R.1
  · rw [n4] at q1
    rw [m (X + 1) q (by omega)]
    by_cases z : q = r
    · rw [z]; exact K
    · have K := R.2.2.2.1 q q0 q1
      have x := K.2.1
      have o' := K.2.2.1
      exact K.go e (fun j => m _ _ (by omega)) (fun j => m _ _ (by omega)) (fun _ _ => rfl) (g1 _ _ (by decide)) (fun _ _ _ => g2 _ (by omega)) (fun _ _ _ => g3 _ (by omega))
  · rw [n4] at i0
    rw [g3 _ (by omega)]
    exact R.2.2.2.2 i i0 i1
  · rw [m X 10 (by omega), n14]; exact C.1
  · rw [n14] at s1
    rw [m (X + 2) s (by omega)]
    obtain ⟨k1, k2, k3⟩ := C.2.2.2 s s0 s1
    have x := k3.2.2.2.2.1
    have o' := k3.2.2.2.2.2.1
    rw [(e (μ (X + 2) s) (by rw [k2.1]; decide)).2.2 1]
    exact ⟨k1, k2.go e (g1 _ _ (by decide)) (g1 _ _ (by decide)) (g1 _ _ (by decide)) (g1 _ _ (by decide)) ⟨g1 _ _ (by decide), g1 _ _ (by decide)⟩ ⟨g1 _ _ (by decide), g1 _ _ (by decide)⟩, k3.go e (fun j => m _ _ (by omega)) (fun _ _ => rfl) (g1 _ _ (by decide)) (fun _ _ _ => ⟨g1 _ _ (by decide), g1 _ _ (by decide)⟩)⟩
  · rw [m X 11 (by omega), n27]; exact A.1
  · rw [n27] at a1
    rw [m (X + 3) b (by omega)]
    have K' := A.2.2.2 b a0 a1
    have x := K'.2.1
    have o' := K'.2.2.1
    refine K'.go (ag b a0 a1) e (fun d j d0 d1 => m _ _ ?_) (fun _ _ => rfl) (fun s _ _ => m _ _ (by omega)) (by omega) (g1 _ _ (by decide)) (fun _ _ _ => ⟨g1 _ _ (by decide), g1 _ _ (by decide), g1 _ _ (by decide)⟩)
    have := o' d d0 d1
    omega
  · unfold ORm at *
    rw [n66, n67, n27]
    refine ⟨fun i i0 i1 => by rw [g1 18 i (by decide)]; exact O.1 i i0 i1, ?_⟩
    rcases O.2 with O | ⟨o1, o2, o3⟩
    · exact Or.inl O
    · have := (ag _ o1 o2).od o3
      have n1 := (A.2.2.2 _ o1 o2).n
      refine Or.inr ⟨o1, o2, this.1, this.2.congr rfl (fun t _ _ => g1 105 t (by decide)) ?_⟩
      rw [(ag _ o1 o2).1]; exact n1.1
/-- verdict, page and registers are where they were -/
def kpt (X b j : Int) : Prop := (X + 20 ≤ b ∧ b ≤ X + 32) ∨ (X + 34 + 31 ≤ b ∧ b ≤ X + 34 + 104) ∨ (b = X + 34 ∧ (j = 53 ∨ j = 54 ∨ j = 59 ∨ j = 63))
theorem Rel.mk' {ε ε' : m_E} {μ μ' : m_M} {X : Int} {ow R : Int → Int} (S : SL ε X) (G' : RG ε μ (X + 34) R) (J : JV μ (X + 20) (X + 34) R) (P : PG μ (X + 29) (X + 34)) (e : EX ε ε') (g : ∀ b j, kpt X b j → μ' b j = μ b j) (C' : Core ε' μ' X ow (sgM μ' (X + 34))) : Rel ε' μ' X := by
  refine ⟨ow, R, S.ex e, (G'.of (fun b j h => g _ _ ?_)).ex e, J.fr (fun b j h => g _ _ (by unfold vc at h; unfold kpt; omega)) (fun _ _ _ => ⟨rfl, rfl⟩) (fun _ _ _ => rfl), ?_, C'⟩
  · have hb : X + 34 + 31 ≤ b ∧ b ≤ X + 34 + 101 := by
      rcases h with h | ⟨q, hq, z⟩
      · have := bc_rng h; omega
      · have := (by decide : ∀ q ∈ lm_a, 31 ≤ q.1 ∧ q.1 ≤ 91) q hq
        omega
    unfold kpt; omega
  · obtain ⟨t, t1, t2, t3⟩ := P
    have y : ∀ b j, b = X + 29 + 1 ∨ b = X + 29 ∨ b = X + 34 + 104 ∨ (b = X + 34 ∧ j = 63) → μ' b j = μ b j := fun b j h => g _ _ (by unfold kpt; omega)
    exact ⟨t, t1, t2.congr (y _ _ (by omega)) (fun j _ _ => y _ _ (by omega)), t3.congr (y _ _ (by omega)) (fun j _ _ => y _ _ (by omega))⟩
theorem sp_X10_rackWithRow {Q Y : m_Po} {ε : m_E} {μ σ : m_M} {X r k : Int} {ow : Int → Int} (S : SL ε X) (C : CRk ε μ X ow σ) (h1 : r < 0 ∨ σ 0 4 ≤ r ∨ k < 0 ∨ 40 ≤ k → ∀ z : Int, nx ε ≤ z → Y 1 (enx ε z) μ) (h0 : 0 ≤ r → r < σ 0 4 → 0 ≤ k → k < 40 → RK ε μ X ow σ r (μ (X + 1) r) → Q (μ (X + 1) r) ε μ) : o_X10_rackWithRow [(2, X), (0, r), (0, k)] ε μ Q Y := by
  obtain ⟨c1, c2, c3, c4, _⟩ := C
  apply e_X10_rackWithRow
  rw [S.1.f0.1, S.1.f0.2.2, c1]
  intro T _ _
  refine ⟨fun q => h1 (Or.inl q), fun q => ⟨S.1.k, fun u => h1 (Or.inr (Or.inl u)), fun u => ⟨S.1.f0.2.1, fun _ => ⟨q, by omega, fun v3 h3 => ?_⟩, fun y => by omega⟩⟩⟩
  have K := c4 r q u
  have pos := (T.1 (μ (X + 1) r) (by rw [K.1.k]; decide)).1
  exact ⟨fun y => by omega, fun _ => ⟨fun y => h1 (Or.inr (Or.inr (Or.inl y))), fun y => ⟨fun y' => by rw [h3]; exact h0 q u y y' K, fun y' => h1 (Or.inr (Or.inr (Or.inr y')))⟩⟩⟩
theorem sp_X12_isRow {Q Y : m_Po} {ε : m_E} {μ : m_M} {M r k : Int} (L : LM ε M) (h0 : 0 ≤ r → r < μ M 4 → 0 ≤ k → k < 40 → Q 1 ε (st μ M 0 0)) (h1 : r < 0 ∨ μ M 4 ≤ r ∨ k < 0 ∨ 40 ≤ k → Q 0 ε (st μ M 0 1)) : o_X12_isRow [(2, M), (0, r), (0, k)] ε μ Q Y := by
  apply e_X12_isRow
  refine fun _ _ _ => ⟨fun _ => L.k, fun t ht => ⟨L.k, fun μ1 m1 => ⟨L.k, fun t1 ht1 => ?_⟩⟩⟩
  rw [m1, sx_same] at ht1
  rw [m1]
  have bad' : (r < 0 ∨ μ M 4 ≤ r ∨ k < 0 ∨ 40 ≤ k) → t = 1 → Q t1 ε (st μ M 0 t) := fun w e => by
    rw [e] at ht1 ⊢
    rw [if_neg (by decide)] at ht1
    rw [ht1]; exact h1 w
  by_cases a : r < 0
  · rw [if_pos a] at ht; exact bad' (Or.inl a) ht
  · rw [if_neg a] at ht
    by_cases b : μ M 4 ≤ r
    · rw [if_pos b] at ht; exact bad' (Or.inr (Or.inl b)) ht
    · rw [if_neg b] at ht
      by_cases c : k < 0
      · rw [if_pos c] at ht; exact bad' (Or.inr (Or.inr (Or.inl c))) ht
      · rw [if_neg c] at ht
        by_cases d : k ≤ 39
        · rw [if_pos d] at ht
          rw [ht] at ht1 ⊢
          rw [if_pos rfl] at ht1
          rw [ht1]; exact h0 (by omega) (by omega) (by omega) (by omega)
        · rw [if_neg d] at ht; exact bad' (Or.inr (Or.inr (Or.inr (by omega)))) ht
theorem sp_X5_lay {Q Y : m_Po} {ε : m_E} {μ : m_M} {A k n : Int} (L : LR ε A) (k0 : 0 ≤ k) (k1 : k < 40) (n0 : 0 ≤ n) (n1 : n ≤ 40) (hh : ∀ μ' : m_M, (∀ b j, ¬ (b = A + 1 ∧ j = k) → ¬ (b = A + 2 ∧ 40 * k ≤ j ∧ j < 40 * k + 40) → μ' b j = μ b j) → μ' (A + 1) k = n → (∀ i, 0 ≤ i → i < 40 → μ' (A + 2) (40 * k + i) = 0) → Q 0 ε μ') : o_X5_lay [(2, A), (0, k), (0, n)] ε μ Q Y := by
  have O : ∀ (d : Nat) (i : Int) (μ1 : m_M), 0 ≤ i → i + d = 40 → (∀ b j, ¬ (b = A + 1 ∧ j = k) → ¬ (b = A + 2 ∧ 40 * k ≤ j ∧ j < 40 * k + 40) → μ1 b j = μ b j) → μ1 (A + 1) k = n → (∀ t, 0 ≤ t → t < i → μ1 (A + 2) (40 * k + t) = 0) → G cd_X5_lay Q Y 30 [(0, (2, A)), (1, (0, k)), (3, (0, i))] [] ε μ1 := by
    intro d
    induction d with
    | zero =>
      intro i μ1 i0 hi f1 e1 z1
      apply g_X5_lay_30
      exact fun _ _ _ => ⟨fun _ => hh μ1 f1 e1 (fun t t0 t1 => z1 t t0 (by omega)), fun q => absurd q (by omega)⟩
    | succ d ih =>
      intro i μ1 i0 hi f1 e1 z1
      apply g_X5_lay_30
      rw [L.f2.1, w32_id (show i32 (k * 40) by unfold i32; omega), w32_id (show i32 (k * 40 + i) by unfold i32; omega)]
      refine fun _ _ _ => ⟨fun q => absurd q (by omega), fun _ => ⟨L.k, L.f2.2.1, by omega, by rw [L.f2.2.2]; omega, fun μ2 m2 v h => ?_⟩⟩
      rw [w32_id (show i32 (i + 1) by unfold i32; omega)] at h
      rw [h]
      refine ih (i + 1) μ2 (by omega) (by omega) (fun b j h1 h2 => ?_) ?_ (fun t t0 t1 => ?_)
      · rw [m2, st, if_neg (fun z => h2 ⟨z.1, by omega, by omega⟩)]; exact f1 b j h1 h2
      · rw [m2, sx_oa (by omega)]; exact e1
      · rw [m2]
        by_cases z : t = i
        · rw [z, show 40 * k + i = k * 40 + i by omega, sx_same]
        · rw [sx_oi (by omega)]; exact z1 t t0 (by omega)
  apply e_X5_lay
  rw [L.f1.1]
  refine fun _ _ _ => ⟨fun q => by omega, fun _ => ⟨fun q => by omega, fun _ => ⟨fun q => by omega, fun _ => ⟨fun _ => ⟨L.k, L.f1.2.1, k0, by rw [L.f1.2.2]; exact k1, fun μ1 m1 v h => ?_⟩, fun q => by omega⟩⟩⟩⟩
  rw [h]
  exact O 40 0 μ1 (by decide) (by omega) (fun b j h1 h2 => by rw [m1, st, if_neg h1]) (by rw [m1, sx_same]) (fun t t0 t1 => absurd t1 (by omega))
