set_option maxHeartbeats 4000000
/-! ===== an arch by its parts; pairs of calls: there, slope, pier ===== -/
def PLa (μ : m_M) (X : Int) (σ : m_M) (a P : Int) : Prop := ∀ p, 0 ≤ p → p < σ 15 a → μ (P + 6) p = σ 16 (10 * a + p) ∧ -2 ≤ σ 16 (10 * a + p) ∧ σ 16 (10 * a + p) < σ 0 14 ∧ (σ 16 (10 * a + p) < 0 → μ (P + 7) p = 0) ∧ (0 ≤ σ 16 (10 * a + p) → μ (P + 7) p = μ (X + 2) (σ 16 (10 * a + p)))
def PIa (μ σ : m_M) (a P : Int) : Prop := (∀ i, 0 ≤ i → i < 4 → μ (P + 1) i = σ 18 (8 * a + i) ∧ μ (P + 2) i = σ 18 (8 * a + 4 + i)) ∧ (∀ i, 0 ≤ i → i < 8 → ab (σ 18 (8 * a + i)) 100) ∧ μ P 11 = σ 17 (2 * a) ∧ μ P 12 = σ 17 (2 * a + 1)
def LOa (μ σ : m_M) (a P : Int) : Prop := μ P 13 = σ 19 a ∧ 0 ≤ σ 19 a ∧ σ 19 a ≤ 6 ∧ ∀ i : Int, 0 ≤ i → i < σ 19 a → (μ (P + 3) i = σ 20 (6 * a + i) ∧ μ (P + 4) i = σ 21 (6 * a + i) ∧ μ (P + 5) i = σ 22 (6 * a + i)) ∧ ab (σ 22 (6 * a + i)) 100000 ∧ ab (σ 21 (6 * a + i)) 1000
def SLa (μ σ : m_M) (a P : Int) : Prop := μ P 14 = σ 23 a ∧ μ P 15 = σ 24 a ∧ 0 ≤ σ 23 a ∧ σ 23 a ≤ 20 ∧ 1 ≤ σ 24 a ∧ σ 24 a ≤ 20
theorem CAa.parts {ε : m_E} {μ σ : m_M} {X a P : Int} {ow : Int → Int} (H : CAa ε μ X ow σ a P) : LA ε P (σ 15 a) ∧ X + 141 < P ∧ (∀ d, 0 ≤ d → d ≤ 10 → ow (P + d) = 3 * a + 2) ∧ PLa μ X σ a P ∧ PIa μ σ a P ∧ LOa μ σ a P ∧ SLa μ σ a P ∧ SPc μ σ a P ∧ ORc μ σ a P := by
  obtain ⟨c1, c2, c3, c4, c5, c6, c7, c8, c9, c10, c11, c12, c13, c14, c15, c16, c17, c18, c19, c20⟩ := H
  exact ⟨c1, c2, c3, c4, ⟨c5, c6, c7, c8⟩, ⟨c9, c10, c11, c12⟩, ⟨c13, c14, c15, c16, c17, c18⟩, c19, c20⟩
theorem CAa.of {ε : m_E} {μ σ : m_M} {X a P : Int} {ow : Int → Int} (h1 : LA ε P (σ 15 a)) (h2 : X + 141 < P) (h3 : ∀ d, 0 ≤ d → d ≤ 10 → ow (P + d) = 3 * a + 2) (h4 : PLa μ X σ a P) (h5 : PIa μ σ a P) (h6 : LOa μ σ a P) (h7 : SLa μ σ a P) (h8 : SPc μ σ a P) (h9 : ORc μ σ a P) : CAa ε μ X ow σ a P := by
  obtain ⟨c5, c6, c7, c8⟩ := h5
  obtain ⟨c9, c10, c11, c12⟩ := h6
  obtain ⟨c13, c14, c15, c16, c17, c18⟩ := h7
  exact ⟨h1, h2, h3, h4, c5, c6, c7, c8, c9, c10, c11, c12, c13, c14, c15, c16, c17, c18, h8, h9⟩
theorem PLa.go {μ μ' σ σ' : m_M} {X a P : Int} (H : PLa μ X σ a P) (n10 : σ 15 a ≤ 10) (s15 : σ' 15 a = σ 15 a) (s16 : ∀ p, 0 ≤ p → p < 10 → σ' 16 (10 * a + p) = σ 16 (10 * a + p)) (s14 : σ 0 14 ≤ σ' 0 14) (e : ∀ b j, b = P + 6 ∨ b = P + 7 ∨ (b = X + 2 ∧ 0 ≤ j ∧ j < σ 0 14) → μ' b j = μ b j) : PLa μ' X σ' a P := fun p p0 p1 => by
  rw [s15] at p1
  rw [s16 p p0 (by omega), e (P + 6) _ (by omega), e (P + 7) _ (by omega)]
  obtain ⟨q1, q2, q3, q4, q5⟩ := H p p0 p1
  exact ⟨q1, q2, by omega, q4, fun z => by rw [e (X + 2) _ (by omega)]; exact q5 z⟩
theorem PIa.go {μ μ' σ σ' : m_M} {a P : Int} (H : PIa μ σ a P) (s17 : σ' 17 (2 * a) = σ 17 (2 * a) ∧ σ' 17 (2 * a + 1) = σ 17 (2 * a + 1)) (s18 : ∀ i, 0 ≤ i → i < 8 → σ' 18 (8 * a + i) = σ 18 (8 * a + i)) (e : ∀ b j, b = P + 1 ∨ b = P + 2 ∨ (b = P ∧ (j = 11 ∨ j = 12)) → μ' b j = μ b j) : PIa μ' σ' a P := by
  obtain ⟨h1, h2, h3, h4⟩ := H
  refine ⟨fun i i0 i1 => ?_, fun i i0 i1 => by rw [s18 i i0 i1]; exact h2 i i0 i1, by rw [e P 11 (by omega), s17.1]; exact h3, by rw [e P 12 (by omega), s17.2]; exact h4⟩
  rw [e (P + 1) _ (by omega), e (P + 2) _ (by omega), s18 i i0 (by omega), show 8 * a + 4 + i = 8 * a + (4 + i) by omega, s18 (4 + i) (by omega) (by omega), ← show 8 * a + 4 + i = 8 * a + (4 + i) by omega]
  exact h1 i i0 i1
theorem LOa.go {μ μ' σ σ' : m_M} {a P : Int} (H : LOa μ σ a P) (s19 : σ' 19 a = σ 19 a) (s : ∀ i, 0 ≤ i → i < 6 → σ' 20 (6 * a + i) = σ 20 (6 * a + i) ∧ σ' 21 (6 * a + i) = σ 21 (6 * a + i) ∧ σ' 22 (6 * a + i) = σ 22 (6 * a + i)) (e : ∀ b j, b = P + 3 ∨ b = P + 4 ∨ b = P + 5 ∨ (b = P ∧ j = 13) → μ' b j = μ b j) : LOa μ' σ' a P := by
  obtain ⟨h1, h2, h3, h4⟩ := H
  refine ⟨by rw [e P 13 (by omega), s19]; exact h1, by omega, by omega, fun i i0 i1 => ?_⟩
  rw [s19] at i1
  obtain ⟨a1, a2, a3⟩ := s i i0 (by omega)
  rw [e (P + 3) _ (by omega), e (P + 4) _ (by omega), e (P + 5) _ (by omega), a1, a2, a3]
  exact h4 i i0 i1
theorem SLa.go {μ μ' σ σ' : m_M} {a P : Int} (H : SLa μ σ a P) (s : σ' 23 a = σ 23 a ∧ σ' 24 a = σ 24 a) (e : ∀ b j, b = P ∧ (j = 14 ∨ j = 15) → μ' b j = μ b j) : SLa μ' σ' a P := by
  obtain ⟨h1, h2, h3, h4, h5, h6⟩ := H
  exact ⟨by rw [e P 14 (by omega), s.1]; exact h1, by rw [e P 15 (by omega), s.2]; exact h2, by omega, by omega, by omega, by omega⟩
theorem pr_there {ε : m_E} {μ : m_M} {X a p : Int} {codes : Int → Int} (c1 : codes 1 = 1) (H : Rel ε μ X) : PAIR (fun ε μ Q Y => o_X10_there [(2, X), (0, a), (0, p)] ε μ Q Y) (fun ε μ Q Y => o_X12_there [(2, X + 34), (0, a), (0, p)] ε μ Q Y) codes ε μ X := by
  intro QC XC hq hx
  have H' := H
  obtain ⟨ow, R, S, G', J, P, C⟩ := H
  have e27 : sgM μ (X + 34) 0 27 = μ (X + 34) 27 := by unfold sgM; rw [Int.add_zero]
  have e15 : sgM μ (X + 34) 15 a = μ (X + 34 + 15) a := rfl
  have a12 := C.2.2.2.1.2.2.1
  apply e_X10_there
  intro T _ _
  refine ⟨S.1.k, sp_X10_archWithPlace S C.2.2.2.1 (fun q z hz => hx 1 _ _ (by rw [c1]; decide) ?_) (fun q r p0 p1 K => ?_)⟩
  · rw [c1]
    refine aft_thr H' (by decide) EX.nx (fun μ2 Q Y f2 G2 K => ?_)
    have f27 : μ2 (X + 34) 27 = μ (X + 34) 27 := f2 _ _ (by omega)
    have f15 : μ2 (X + 34 + 15) a = μ (X + 34 + 15) a := f2 _ _ (by omega)
    apply e_X12_there
    refine fun _ _ _ => ⟨G2.1.k, sp_X12_isPlace G2.1 (by omega) (fun y1 y2 y3 y4 => by omega) (fun y => ?_)⟩
    apply g_X12_there_6
    refine fun _ _ _ _ => ⟨fun z => absurd rfl z, fun t ht => ?_⟩
    rw [if_pos rfl] at ht
    rw [ht]; exact K
  · have n10 := K.n
    have pl := K.parts.2.2.2.1 p p0 p1
    apply g_X10_there_6
    refine fun _ _ => ⟨K.1.k, ?_⟩
    apply e_X0_standing
    refine fun _ _ => ⟨K.1.k, sp_X0_hasPlace K.1 (fun _ _ => ?_) (fun y => by omega)⟩
    apply g_X0_standing_5
    rw [K.1.f1.1]
    refine fun _ _ _ => ⟨fun _ => ⟨K.1.k, K.1.f1.2.1, p0, by rw [K.1.f1.2.2]; exact p1⟩, fun t ht => ?_⟩
    rw [if_neg (by decide), pl.1] at ht
    rw [ht]
    apply g_X10_there_10
    refine fun _ _ => hq _ _ _ ⟨EX.rf, fun _ _ _ => rfl, fun μ2 f2 Q Y K2 => ?_⟩
    have LM2 := G'.1
    have f27 : μ2 (X + 34) 27 = μ (X + 34) 27 := f2 _ _ (by omega)
    have f15 : μ2 (X + 34 + 15) a = μ (X + 34 + 15) a := f2 _ _ (by omega)
    apply e_X12_there
    refine fun _ _ _ => ⟨LM2.k, sp_X12_isPlace LM2 (by omega) (fun y1 y2 y3 y4 => ?_) (fun y => by omega)⟩
    apply g_X12_there_6
    rw [LM2.f18.1, w32_id (show i32 (10 * a) by unfold i32; omega), w32_id (show i32 (10 * a + p) by unfold i32; omega)]
    refine fun _ _ _ _ => ⟨fun _ => ⟨LM2.k, LM2.f18.2.1, by omega, by rw [LM2.f18.2.2]; omega⟩, fun t ht => ?_⟩
    rw [if_neg (by decide), sx_oa (by omega), f2 _ _ (by omega)] at ht
    rw [ht]
    exact K2 _ _ (fun c j h => sx_oa (by omega)) (Rel.st0 S G' J P C (fun b j h1 h2 => by rw [st, if_neg h2]; exact f2 b j h1)) sx_same (fun _ => rfl) (fun j => sx_oa (by omega))
theorem pr_slope {ε : m_E} {μ : m_M} {X a p q : Int} {codes : Int → Int} (c1 : codes 1 = 1) (c2 : codes 2 = 2) (H : Rel ε μ X) : PAIR (fun ε μ Q Y => o_X10_slope [(2, X), (0, a), (0, p), (0, q)] ε μ Q Y) (fun ε μ Q Y => o_X12_slope [(2, X + 34), (0, a), (0, p), (0, q)] ε μ Q Y) codes ε μ X := by
  intro QC XC hq hx
  have H' := H
  obtain ⟨ow, R, S, G', J, P, C⟩ := H
  have e27 : sgM μ (X + 34) 0 27 = μ (X + 34) 27 := by unfold sgM; rw [Int.add_zero]
  have a12 := C.2.2.2.1.2.2.1
  apply e_X10_slope
  intro T _ _ _
  refine ⟨S.1.k, sp_X10_archAt S C.2.2.2.1 (fun y z hz => hx 1 _ _ (by rw [c1]; decide) ?_) (fun a0 a1 K => ?_)⟩
  · rw [c1]
    refine aft_thr H' (by decide) EX.nx (fun μ2 Q Y f2 G2 K => ?_)
    have f27 : μ2 (X + 34) 27 = μ (X + 34) 27 := f2 _ _ (by omega)
    apply e_X12_slope
    refine fun _ _ _ _ => ⟨G2.1.k, sp_X12_isArch G2.1 (fun a b => by omega) (fun _ => ?_)⟩
    apply g_X12_slope_5
    exact fun _ _ _ _ _ => ⟨fun z => absurd rfl z, fun _ => K⟩
  · have thr : (p < 0 ∨ 20 < p ∨ q < 1 ∨ 20 < q) → ∀ z : Int, nx ε ≤ z → XC 2 (enx ε z) μ := fun why z hz => by
      refine hx 2 _ _ (by rw [c2]; decide) ?_
      rw [c2]
      refine aft_thr H' (by decide) EX.nx (fun μ2 Q Y f2 G2 K' => ?_)
      have f27 : μ2 (X + 34) 27 = μ (X + 34) 27 := f2 _ _ (by omega)
      apply e_X12_slope
      refine fun _ _ _ _ => ⟨G2.1.k, sp_X12_isArch G2.1 (fun a b => ?_) (fun y => by omega)⟩
      apply g_X12_slope_5
      refine fun _ _ _ _ _ => ⟨fun _ t1 ht1 => ⟨G2.1.k, fun μ3 m3 => ⟨G2.1.k, ?_⟩⟩, fun z => absurd z (by decide)⟩
      have et : t1 = 2 := by
        rw [ht1]
        by_cases y1 : p < 0
        · rw [if_pos y1]
        · rw [if_neg y1]
          by_cases y2 : 20 < p
          · rw [if_pos y2]
          · rw [if_neg y2]
            by_cases y3 : q < 1
            · rw [if_pos y3]
            · rw [if_neg y3, if_neg (by omega)]
      rw [m3, et, sx_same, st_st]
      exact ⟨fun y => absurd y (by decide), fun _ => K'⟩
    have x := K.2.1
    obtain ⟨kL, _, ko, kpl, kpi, klo, ksl, ksp, kor⟩ := K.parts
    have n10 := K.n
    apply g_X10_slope_5
    intro _ _ _ v4 h4
    subst h4
    refine ⟨fun y => thr (by omega), fun p0 => ⟨fun y => thr (by omega), fun p1 => ⟨fun y => thr (by omega), fun q0 => ⟨fun q1 => ⟨kL.k, ?_⟩, fun y => thr (by omega)⟩⟩⟩⟩
    apply e_X0_lean
    refine fun _ _ _ => ⟨kL.k, fun μ1 m1 μ2 m2 => ?_⟩
    apply e_X0_forgetFindings
    refine fun _ => ⟨kL.k, fun μ3 m3 μ4 m4 => ?_⟩
    apply g_X0_lean_14
    intro _
    apply g_X10_slope_45
    intro _
    have g4 : ∀ b j, ¬ (b = μ (X + 3) a ∧ 14 ≤ j ∧ j ≤ 17) → μ4 b j = μ b j := fun b j h => by
      rw [m4, st, if_neg (by omega), m3, st, if_neg (by omega), m2, st, if_neg (by omega), m1, st, if_neg (by omega)]
    have v14 : μ4 (μ (X + 3) a) 14 = p := by rw [m4, sx_oi (by decide), m3, sx_oi (by decide), m2, sx_oi (by decide), m1, sx_same]
    have v15 : μ4 (μ (X + 3) a) 15 = q := by rw [m4, sx_oi (by decide), m3, sx_oi (by decide), m2, sx_same]
    have v16 : μ4 (μ (X + 3) a) 16 = 0 := by rw [m4, sx_oi (by decide), m3, sx_same]
    have v17 : μ4 (μ (X + 3) a) 17 = 0 := by rw [m4, sx_same]
    refine hq _ _ _ ⟨EX.rf, fun b j h => g4 _ _ (by omega), fun μ5 f5 Q Y K2 => ?_⟩
    have LM2 := G'.1
    have n5 : ∀ b j, b ≠ X + 141 → ¬ (b = μ (X + 3) a ∧ 14 ≤ j ∧ j ≤ 17) → μ5 b j = μ b j := fun b j h h' => by rw [f5 b j h, g4 b j h']
    have f27 : μ5 (X + 34) 27 = μ (X + 34) 27 := n5 _ _ (by omega) (by omega)
    apply e_X12_slope
    refine fun _ _ _ _ => ⟨LM2.k, sp_X12_isArch LM2 (fun _ _ => ?_) (fun y => by omega)⟩
    apply g_X12_slope_5
    refine fun _ _ _ _ _ => ⟨fun _ t1 ht1 => ⟨LM2.k, fun μ6 m6 => ⟨LM2.k, ?_⟩⟩, fun z => absurd z (by decide)⟩
    rw [if_neg (by omega), if_neg (by omega), if_neg (by omega), if_pos q1] at ht1
    rw [ht1, st_st] at m6
    rw [m6, sx_same, ← m6, LM2.f25.1, LM2.f26.1]
    refine ⟨fun _ => ⟨LM2.f25.2.1, a0, by rw [LM2.f25.2.2]; omega, fun μ7 m7 => ⟨LM2.f26.2.1, by rw [LM2.f26.2.2]; omega, fun μ8 m8 μ9 m9 => ?_⟩⟩, fun y => absurd y (by decide)⟩
    have g9 : ∀ b j, ¬ (b = X + 34 ∧ (j = 0 ∨ j = 66)) → ¬ ((b = X + 34 + 23 ∨ b = X + 34 + 24) ∧ j = a) → μ9 b j = μ5 b j := fun b j h h' => by
      rw [m9, st, if_neg (by omega), m8, st, if_neg (by omega), m7, st, if_neg (by omega), m6, st, if_neg (by omega)]
    have w23 : sgM μ9 (X + 34) 23 a = p := by
      show μ9 (X + 34 + 23) a = p
      rw [m9, sx_oa (by omega), m8, sx_oa (by omega), m7, sx_same]
    have w24 : sgM μ9 (X + 34) 24 a = q := by
      show μ9 (X + 34 + 24) a = q
      rw [m9, sx_oa (by omega), m8, sx_same]
    have w66 : sgM μ9 (X + 34) 0 66 = -1 := by
      show μ9 (X + 34 + 0) 66 = -1
      rw [Int.add_zero, m9, sx_same]
    have sgo : ∀ o j, 1 ≤ o → o ≤ 24 → ¬ ((o = 23 ∨ o = 24) ∧ j = a) → sgM μ9 (X + 34) o j = sgM μ (X + 34) o j := fun o j o1 o2 h => by
      show μ9 (X + 34 + o) j = μ (X + 34 + o) j
      rw [g9 _ _ (by omega) (by omega), n5 _ _ (by omega) (by omega)]
    have s14 : sgM μ9 (X + 34) 0 14 = sgM μ (X + 34) 0 14 := by
      show μ9 (X + 34 + 0) 14 = μ (X + 34 + 0) 14
      rw [g9 _ _ (by omega) (by omega), n5 _ _ (by omega) (by omega)]
    have s27 : sgM μ9 (X + 34) 0 27 = sgM μ (X + 34) 0 27 := by
      show μ9 (X + 34 + 0) 27 = μ (X + 34 + 0) 27
      rw [g9 _ _ (by omega) (by omega), n5 _ _ (by omega) (by omega)]
    have memA : ∀ b j, X + 141 < b → ¬ (b = μ (X + 3) a ∧ 14 ≤ j ∧ j ≤ 17) → μ9 b j = μ b j := fun b j h h' => by rw [g9 _ _ (by omega) (by omega), n5 _ _ (by omega) h']
    have memP : ∀ j, μ9 (μ (X + 3) a) j = μ4 (μ (X + 3) a) j := fun j => by rw [g9 _ _ (by omega) (by omega), f5 _ _ (by omega)]
    have memX : ∀ j, μ9 (X + 2) j = μ (X + 2) j := fun j => by rw [g9 _ _ (by omega) (by omega), n5 _ _ (by omega) (by omega)]
    have o0 := ko 0 (by decide) (by decide)
    rw [Int.add_zero] at o0
    refine K2 _ _ (fun c j h => g9 _ _ (by omega) (by omega)) (Rel.mk' (ow := ow) S G' J P EX.rf (fun b j h => ?_) (C.arch (a := a) EX.rf (fun b j h1 h2 h3 => ?_) (fun _ _ => CAa.of ?_ x ko ?_ ?_ ?_ ?_ ?_ ?_) (C.2.2.2.2.no s27 (fun i _ => sgo _ _ (by decide) (by decide) (by omega)) w66))) (by rw [m9, sx_oi (by decide), m8, sx_oa (by omega), m7, sx_oa (by omega), m6, sx_same]) (fun _ => rfl) (fun j => g9 _ _ (by omega) (by omega))
    · unfold kpt at h
      rw [g9 _ _ (by omega) (by omega), n5 _ _ (by omega) (by omega)]
    · rw [g9 b j (fun z => z.2.elim (fun e => h1 (by unfold scq; omega)) (fun e => h2 (by unfold acl; omega))) (fun z => h2 (by unfold acl; omega)), n5 b j (fun z => h1 (by unfold scq; omega)) (fun z => h3 ⟨by omega, by rw [z.1]; exact o0⟩)]
    · rw [sgo 15 a (by decide) (by decide) (by omega)]; exact kL
    · exact kpl.go n10.2 (sgo _ _ (by decide) (by decide) (by omega)) (fun p _ _ => sgo _ _ (by decide) (by decide) (by omega)) (by omega) (fun b j h => by
        rcases h with h | h | h
        · exact memA _ _ (by omega) (by omega)
        · exact memA _ _ (by omega) (by omega)
        · rw [h.1]; exact memX j)
    · exact kpi.go ⟨sgo _ _ (by decide) (by decide) (by omega), sgo _ _ (by decide) (by decide) (by omega)⟩ (fun i _ _ => sgo _ _ (by decide) (by decide) (by omega)) (fun b j h => memA _ _ (by omega) (by omega))
    · exact klo.go (sgo _ _ (by decide) (by decide) (by omega)) (fun i _ _ => ⟨sgo _ _ (by decide) (by decide) (by omega), sgo _ _ (by decide) (by decide) (by omega), sgo _ _ (by decide) (by decide) (by omega)⟩) (fun b j h => memA _ _ (by omega) (by omega))
    · unfold SLa
      rw [w23, w24, memP, memP]
      exact ⟨v14, v15, p0, p1, q0, q1⟩
    · exact Or.inl (by rw [memP]; exact v16)
    · exact Or.inl (by rw [memP]; exact v17)
