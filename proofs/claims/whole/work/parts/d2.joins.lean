set_option maxHeartbeats 1000000
/-! ===== the reference's shares and joins ===== -/
def FX (M k : Int) (μ μ' : m_M) : Prop := ∀ b j, ¬ (b = M + 25 ∧ 4 * k ≤ j ∧ j < 4 * k + 4) → μ' b j = μ b j
theorem FX.rf {M k : Int} {μ : m_M} : FX M k μ μ := fun _ _ _ => rfl
theorem SF.fx {μ μ' : m_M} {M k : Int} {σ : m_M} (S : SF μ M σ) (f : FX M k μ μ') : SF μ' M σ := fun o j h1 h2 => (f _ _ (by omega)).trans (S o j h1 h2)
/-- four numbers stand in a row at an index -/
def at4 (f : Int → Int) (i : Int) (x : Sp) : Prop := f i = x.1 ∧ f (i + 1) = x.2.1 ∧ f (i + 2) = x.2.2.1 ∧ f (i + 3) = x.2.2.2
theorem st4_at {μ μ1 μ2 μ3 μ4 : m_M} {b i p q r s : Int} (m1 : μ1 = st μ b i p) (m2 : μ2 = st μ1 b (i + 1) q) (m3 : μ3 = st μ2 b (i + 2) r) (m4 : μ4 = st μ3 b (i + 3) s) : at4 (μ4 b) i (p, q, r, s) ∧ ∀ c j, ¬ (c = b ∧ i ≤ j ∧ j < i + 4) → μ4 c j = μ c j := by
  refine ⟨⟨?_, ?_, ?_, ?_⟩, fun c j h => ?_⟩
  · rw [m4, sx_oi (by omega), m3, sx_oi (by omega), m2, sx_oi (by omega), m1, sx_same]
  · rw [m4, sx_oi (by omega), m3, sx_oi (by omega), m2, sx_same]
  · rw [m4, sx_oi (by omega), m3, sx_same]
  · rw [m4, sx_same]
  · rw [m4, m3, m2, m1]
    unfold st
    rw [if_neg (fun z => h ⟨z.1, by omega, by omega⟩), if_neg (fun z => h ⟨z.1, by omega, by omega⟩), if_neg (fun z => h ⟨z.1, by omega, by omega⟩), if_neg (fun z => h ⟨z.1, by omega, by omega⟩)]
theorem sh_125 {Q X : m_Po} {ε : m_E} {μ : m_M} {M k ax ay bx by_ cx cy dx dy : Int} (L : LM ε M) (k0 : 0 ≤ k) (k1 : k ≤ 10) (b1 : ab ax 100) (b2 : ab ay 100) (b3 : ab bx 100) (b4 : ab by_ 100) (b5 : ab cx 100) (b6 : ab cy 100) (b7 : ab dx 100) (b8 : ab dy 100) (z1 : (bx - ax) * (cy - ay) - (by_ - ay) * (cx - ax) = 0)
    (h0 : shr ax ay bx by_ cx cy dx dy = none → Q 0 ε μ) (h1 : ∀ x μ', shr ax ay bx by_ cx cy dx dy = some x → FX M k μ μ' → at4 (μ' (M + 25)) (4 * k) x → Q 1 ε μ') :
    G cd_X12_shares Q X 125 [(0, (2, M)), (2, (0, k)), (5, (0, ax)), (6, (0, ay)), (7, (0, bx)), (8, (0, by_)), (9, (0, cx)), (10, (0, cy)), (11, (0, dx)), (12, (0, dy))] [(0, (bx - ax) * (dy - ay) - (by_ - ay) * (dx - ax))] ε μ := by
  have d1 := ab_sub b3 b1
  have d2 := ab_sub b4 b2
  have d3 := ab_sub b7 b5
  have d4 := ab_sub b8 b6
  have d5 := ab_sub b7 b1
  have d6 := ab_sub b8 b2
  have d7 := ab_sub b5 b1
  have d8 := ab_sub b6 b2
  have p1 := abm d1 d3
  have p2 := abm d2 d4
  have p3 := abm d1 d1
  have p4 := abm d2 d2
  have p5 := abm d1 d5
  have p6 := abm d2 d6
  have p7 := abm d1 d7
  have p8 := abm d2 d8
  apply g_X12_shares_125
  refine fun _ _ _ _ _ _ _ _ _ _ _ => ⟨fun z2 v13 h13 v14 h14 => ?_, fun z2 => h0 ?_⟩
  · rw [w32_ab d1 (by decide)] at h13
    rw [w32_ab d2 (by decide)] at h14
    subst h13 h14
    rw [w32_ab d3 (by decide), w32_ab d4 (by decide), w32_ab d5 (by decide), w32_ab d6 (by decide), w32_ab d7 (by decide), w32_ab d8 (by decide), w32_ab p1 (by decide), w32_ab p2 (by decide), w32_ab p3 (by decide), w32_ab p4 (by decide), w32_ab p5 (by decide), w32_ab p6 (by decide), w32_ab p7 (by decide), w32_ab p8 (by decide), w32_ab (ab_ad p1 p2) (by decide), w32_ab (ab_ad p3 p4) (by decide), w32_ab (ab_ad p5 p6) (by decide), w32_ab (ab_ad p7 p8) (by decide)]
    have e : (bx - ax) * (dx - cx) + (by_ - ay) * (dy - cy) = ((bx - ax) * (dx - ax) + (by_ - ay) * (dy - ay)) - ((bx - ax) * (cx - ax) + (by_ - ay) * (cy - ay)) := by grind
    rw [e]
    have es : shr ax ay bx by_ cx cy dx dy = shx ((bx - ax) * (dx - ax) + (by_ - ay) * (dy - ay)) ((bx - ax) * (cx - ax) + (by_ - ay) * (cy - ay)) ((bx - ax) * (bx - ax) + (by_ - ay) * (by_ - ay)) ax ay bx by_ cx cy dx dy := by
      unfold shr
      rw [if_pos z1, if_pos z2]
    rw [es] at h0 h1
    generalize (bx - ax) * (dx - ax) + (by_ - ay) * (dy - ay) = F at *
    generalize (bx - ax) * (cx - ax) + (by_ - ay) * (cy - ay) = T at *
    generalize (bx - ax) * (bx - ax) + (by_ - ay) * (by_ - ay) = A at *
    refine ⟨fun q v15 h15 v16 h16 v17 h17 t1 ht1 t2 ht2 => ?_, fun q => h0 ?_⟩
    · subst h15 h16 h17
      rw [L.f28.1, w32_id (show i32 (4 * k) by unfold i32; omega), w32_id (show i32 (4 * k + 1) by unfold i32; omega), w32_id (show i32 (4 * k + 2) by unfold i32; omega), w32_id (show i32 (4 * k + 3) by unfold i32; omega)]
      refine ⟨fun r => ⟨L.k, fun t3 ht3 => ⟨L.f28.2.1, by omega, by rw [L.f28.2.2]; omega, fun μ1 m1 => ⟨L.k, fun t4 ht4 => ⟨L.f28.2.1, by omega, by rw [L.f28.2.2]; omega, fun μ2 m2 => ⟨L.k, fun t5 ht5 => ⟨L.f28.2.1, by omega, by rw [L.f28.2.2]; omega, fun μ3 m3 => ⟨L.k, fun t6 ht6 => ⟨L.f28.2.1, by omega, by rw [L.f28.2.2]; omega, fun μ4 m4 => ?_⟩⟩⟩⟩⟩⟩⟩⟩, fun r => h0 ?_⟩
      · obtain ⟨g1, g2⟩ := st4_at m1 m2 m3 m4
        refine h1 _ μ4 ?_ g2 g1
        unfold shx
        rw [if_neg (by omega), if_neg (by rw [← ht1, ← ht2]; omega), ht3, ht4, ht5, ht6]
      · unfold shx
        rw [if_neg (by omega), if_pos (by rw [← ht1, ← ht2]; exact r)]
    · unfold shx
      rw [if_pos (by omega)]
  · unfold shr
    rw [if_pos z1, if_neg z2]
theorem sp_X12_shares {Q X : m_Po} {ε : m_E} {μ σ : m_M} {M a k i j : Int} (L : LM ε M) (S : SF μ M σ) (A : MA σ a) (G' : MG σ a) (k0 : 0 ≤ k) (k1 : k ≤ σ 15 a) (i0 : 0 ≤ i) (i1 : i < fcn σ a (k - 1)) (j0 : 0 ≤ j) (j1 : j < fcn σ a k)
    (h0 : jf σ a k i j = none → Q 0 ε μ) (h1 : ∀ x μ', jf σ a k i j = some x → FX M k μ μ' → at4 (μ' (M + 25)) (4 * k) x → Q 1 ε μ') : o_X12_shares [(2, M), (0, a), (0, k), (0, i), (0, j)] ε μ Q X := by
  have n10 : σ 15 a ≤ 10 := A.2.2.2.1
  have F : ∀ w, 0 ≤ w → w < 4 → ab (fA σ a (k - 1) i w) 100 := fun w w0 w1 => fA_ab G' (by omega) i0 i1 w0 w1
  have E : ∀ w, 0 ≤ w → w < 4 → ab (fA σ a k j w) 100 := fun w w0 w1 => fA_ab G' k1 j0 j1 w0 w1
  have wk : w32 (k - 1) = k - 1 := w32_id (by unfold i32; omega)
  unfold jf at h0 h1
  have f0 := F 0 (by decide) (by decide)
  have f1 := F 1 (by decide) (by decide)
  have f2 := F 2 (by decide) (by decide)
  have f3 := F 3 (by decide) (by decide)
  have g0 := E 0 (by decide) (by decide)
  have g1 := E 1 (by decide) (by decide)
  have g2 := E 2 (by decide) (by decide)
  have g3 := E 3 (by decide) (by decide)
  apply e_X12_shares
  rw [wk]
  refine fun _ _ _ _ _ => ⟨L.k, sp_X12_faceAt L S A G' (by omega) (by omega) i0 i1 (by decide) (by decide) ?_⟩
  apply g_X12_shares_10
  rw [wk]
  refine fun _ _ _ _ _ _ v5 h5 => ⟨L.k, sp_X12_faceAt L S A G' (by omega) (by omega) i0 i1 (by decide) (by decide) ?_⟩
  apply g_X12_shares_22
  rw [wk]
  refine fun _ _ _ _ _ _ _ v6 h6 => ⟨L.k, sp_X12_faceAt L S A G' (by omega) (by omega) i0 i1 (by decide) (by decide) ?_⟩
  apply g_X12_shares_34
  rw [wk]
  refine fun _ _ _ _ _ _ _ _ v7 h7 => ⟨L.k, sp_X12_faceAt L S A G' (by omega) (by omega) i0 i1 (by decide) (by decide) ?_⟩
  apply g_X12_shares_46
  refine fun _ _ _ _ _ _ _ _ v8 h8 => ⟨L.k, sp_X12_faceAt L S A G' (by omega) (by omega) j0 j1 (by decide) (by decide) ?_⟩
  apply g_X12_shares_57
  refine fun _ _ _ _ _ _ _ _ _ v9 h9 => ⟨L.k, sp_X12_faceAt L S A G' (by omega) (by omega) j0 j1 (by decide) (by decide) ?_⟩
  apply g_X12_shares_68
  refine fun _ _ _ _ _ _ _ _ _ _ v10 h10 => ⟨L.k, sp_X12_faceAt L S A G' (by omega) (by omega) j0 j1 (by decide) (by decide) ?_⟩
  apply g_X12_shares_79
  refine fun _ _ _ _ _ _ _ _ _ _ _ v11 h11 => ⟨L.k, sp_X12_faceAt L S A G' (by omega) (by omega) j0 j1 (by decide) (by decide) ?_⟩
  apply g_X12_shares_90
  intro _ _ _ _ _ _ _ _ _ _ v12 h12
  rw [← h5] at f0 h0 h1
  rw [← h6] at f1 h0 h1
  rw [← h7] at f2 h0 h1
  rw [← h8] at f3 h0 h1
  rw [← h9] at g0 h0 h1
  rw [← h10] at g1 h0 h1
  rw [← h11] at g2 h0 h1
  rw [← h12] at g3 h0 h1
  refine sp_X12_turn f0 f1 f2 f3 g0 g1 ?_
  apply g_X12_shares_107
  refine fun _ _ _ _ _ _ _ _ _ _ _ => ⟨fun q => h0 ?_, fun q => sp_X12_turn f0 f1 f2 f3 g2 g3 (sh_125 L k0 (by omega) f0 f1 f2 f3 g0 g1 g2 g3 q h0 h1)⟩
  unfold shr
  rw [if_neg q]
theorem sp_X12_joins {Q X : m_Po} {ε : m_E} {μ σ : m_M} {M a k : Int} (L : LM ε M) (S : SF μ M σ) (A : MA σ a) (G' : MG σ a) (k0 : 0 ≤ k) (k1 : k ≤ σ 15 a)
    (h0 : jo σ a k = none → Q 0 ε μ) (h1 : ∀ x μ', jo σ a k = some x → FX M k μ μ' → at4 (μ' (M + 25)) (4 * k) x → Q 1 ε μ') : o_X12_joins [(2, M), (0, a), (0, k)] ε μ Q X := by
  have n10 : σ 15 a ≤ 10 := A.2.2.2.1
  have r1 := fcn_rng (p := k - 1) G' (by omega)
  have r2 := fcn_rng (p := k) G' k1
  have wk : w32 (k - 1) = k - 1 := w32_id (by unfold i32; omega)
  unfold jo at h0 h1
  have O : ∀ (d : Nat) (i : Int), 0 ≤ i → i + d = fcn σ a (k - 1) → (fs (fun i => fs (fun j => jf σ a k i j) 0 (fcn σ a k).toNat) i d = none → Q 0 ε μ) → (∀ x μ', fs (fun i => fs (fun j => jf σ a k i j) 0 (fcn σ a k).toNat) i d = some x → FX M k μ μ' → at4 (μ' (M + 25)) (4 * k) x → Q 1 ε μ') → G cd_X12_joins Q X 20 [(0, (2, M)), (1, (0, a)), (2, (0, k)), (3, (0, fcn σ a (k - 1))), (4, (0, fcn σ a k)), (5, (0, i))] [] ε μ := by
    intro d
    induction d with
    | zero =>
      intro i i0 hi K0 _
      apply g_X12_joins_20
      exact fun _ _ _ _ _ _ => ⟨fun _ => K0 rfl, fun q => absurd q (by omega)⟩
    | succ d ih =>
      intro i i0 hi K0 K1
      have I : ∀ (e : Nat) (j : Int), 0 ≤ j → j + e = fcn σ a k → (fs (fun j => jf σ a k i j) j e = none → G cd_X12_joins Q X 20 [(0, (2, M)), (1, (0, a)), (2, (0, k)), (3, (0, fcn σ a (k - 1))), (4, (0, fcn σ a k)), (5, (0, i + 1))] [] ε μ) → (∀ x μ', fs (fun j => jf σ a k i j) j e = some x → FX M k μ μ' → at4 (μ' (M + 25)) (4 * k) x → Q 1 ε μ') → G cd_X12_joins Q X 29 [(0, (2, M)), (1, (0, a)), (2, (0, k)), (3, (0, fcn σ a (k - 1))), (4, (0, fcn σ a k)), (5, (0, i)), (6, (0, j))] [] ε μ := by
        intro e
        induction e with
        | zero =>
          intro j j0 hj N0 _
          apply g_X12_joins_29
          refine fun _ _ _ _ _ _ _ => ⟨fun _ v h => ?_, fun q => absurd q (by omega)⟩
          rw [w32_id (show i32 (i + 1) by unfold i32; omega)] at h
          rw [h]; exact N0 rfl
        | succ e ih2 =>
          intro j j0 hj N0 N1
          apply g_X12_joins_29
          refine fun _ _ _ _ _ _ _ => ⟨fun q => absurd q (by omega), fun _ => ⟨L.k, sp_X12_shares L S A G' k0 k1 i0 (by omega) j0 (by omega) (fun q => ?_) (fun x μ' q f x4 => ?_)⟩⟩
          · apply g_X12_joins_46
            refine fun _ _ _ _ _ _ _ _ => ⟨fun _ v h => ?_, fun z => absurd rfl z⟩
            rw [w32_id (show i32 (j + 1) by unfold i32; omega)] at h
            rw [h]
            rw [fs_miss q] at N0 N1
            exact ih2 (j + 1) (by omega) (by omega) N0 N1
          · apply g_X12_joins_46
            refine fun _ _ _ _ _ _ _ _ => ⟨fun z => absurd z (by decide), fun _ => N1 x μ' (fs_hit q) f x4⟩
      apply g_X12_joins_20
      refine fun _ _ _ _ _ _ => ⟨fun q => absurd q (by omega), fun _ v6 h6 => ?_⟩
      rw [h6]
      refine I (fcn σ a k).toNat 0 (by decide) (by omega) (fun q => ?_) (fun x μ' q f x4 => K1 x μ' (fs_hit q) f x4)
      rw [fs_miss q] at K0 K1
      exact ih (i + 1) (by omega) (by omega) K0 K1
  apply e_X12_joins
  rw [wk]
  refine fun _ _ _ => ⟨L.k, sp_X12_facesOf L S A (by omega) (by omega) ?_⟩
  apply g_X12_joins_8
  intro _ _ _ _ v3 h3
  subst h3
  refine ⟨L.k, sp_X12_facesOf L S A (by omega) k1 ?_⟩
  apply g_X12_joins_15
  intro _ _ _ _ _ v4 h4 v5 h5
  rw [h4, h5]
  exact O (fcn σ a (k - 1)).toNat 0 (by decide) (by omega) h0 h1
