set_option maxHeartbeats 2000000
/-! ===== pair of calls: order ===== -/
def ans (len : Int) (seq : Int → Int) (k : Int) : Int := if k < 0 then -1 else if len ≤ k then -1 else seq k
theorem od_ans {σ : m_M} {a len len' k : Int} {seq seq' : Int → Int} (D : OD σ a len seq) (D' : OD σ a len' seq') (n1 : 1 ≤ σ 15 a) : ans len seq k = ans len' seq' k := by
  obtain ⟨e, h⟩ := D.one D' n1
  unfold ans
  rw [← e]
  by_cases a : k < 0
  · rw [if_pos a, if_pos a]
  · rw [if_neg a, if_neg a]
    by_cases b : len ≤ k
    · rw [if_pos b, if_pos b]
    · rw [if_neg b, if_neg b]; exact h k (by omega) (by omega)
theorem OD.len {σ : m_M} {a len : Int} {seq : Int → Int} (D : OD σ a len seq) (n1 : 1 ≤ σ 15 a) : len ≤ σ 15 a := by
  rcases D with ⟨e, _⟩ | ⟨e, _⟩ <;> omega
theorem sp_X0_ordered {Q Y : m_Po} {ε : m_E} {μ : m_M} {P n k : Int} (L : LA ε P n) (hl : μ P 18 ≤ n) (hh : Q (ans (μ P 18) (μ (P + 10)) k) ε μ) : o_X0_ordered [(2, P), (0, k)] ε μ Q Y := by
  apply e_X0_ordered
  rw [L.f10.1, L.f10.2.2]
  refine fun _ _ => ⟨fun _ => ⟨L.k, fun _ => ⟨L.f10.2.1, fun _ => ⟨by omega, by omega⟩⟩⟩, fun t ht => ?_⟩
  have : t = ans (μ P 18) (μ (P + 10)) k := by
    rw [ht]
    unfold ans
    by_cases a : k < 0
    · rw [if_pos a, if_pos a]
    · rw [if_neg a, if_neg a]
      by_cases b : μ P 18 ≤ k
      · rw [if_pos b, if_pos b]
      · rw [if_neg b, if_neg b, if_neg (by omega)]
  rw [this]; exact hh
theorem Rel.mk6 {ε ε' : m_E} {μ μ' : m_M} {X : Int} {ow R : Int → Int} (S : SL ε X) (G' : RG ε μ (X + 34) R) (J : JV μ (X + 20) (X + 34) R) (P : PG μ (X + 29) (X + 34)) (e : EX ε ε') (g : ∀ b j, kpt X b j → b ≠ X + 34 + 44 → b ≠ X + 34 + 45 → b ≠ X + 34 + 46 → μ' b j = μ b j) (C' : Core ε' μ' X ow (sgM μ' (X + 34))) : Rel ε' μ' X := by
  refine ⟨ow, R, S.ex e, (G'.of (fun b j h => ?_)).ex e, J.fr (fun b j h => g _ _ (by unfold vc at h; unfold kpt; omega) (by unfold vc at h; omega) (by unfold vc at h; omega) (by unfold vc at h; omega)) (fun _ _ _ => ⟨rfl, rfl⟩) (fun _ _ _ => rfl), ?_, C'⟩
  · have hb : X + 34 + 31 ≤ b ∧ b ≤ X + 34 + 101 ∧ b ≠ X + 34 + 44 ∧ b ≠ X + 34 + 45 ∧ b ≠ X + 34 + 46 := by
      rcases h with h | ⟨q, hq, z⟩
      · have := bc_rng h; omega
      · have := (by decide : ∀ q ∈ lm_a, 31 ≤ q.1 ∧ q.1 ≤ 91 ∧ q.1 ≠ 44 ∧ q.1 ≠ 45 ∧ q.1 ≠ 46) q hq
        omega
    exact g _ _ (by unfold kpt; omega) hb.2.2.1 hb.2.2.2.1 hb.2.2.2.2
  · obtain ⟨t, t1, t2, t3⟩ := P
    have y : ∀ b j, b = X + 29 + 1 ∨ b = X + 29 ∨ b = X + 34 + 104 ∨ (b = X + 34 ∧ j = 63) → μ' b j = μ b j := fun b j h => g _ _ (by unfold kpt; omega) (by omega) (by omega) (by omega)
    exact ⟨t, t1, t2.congr (y _ _ (by omega)) (fun j _ _ => y _ _ (by omega)), t3.congr (y _ _ (by omega)) (fun j _ _ => y _ _ (by omega))⟩
theorem SPc.f6 {μ μ' σ : m_M} {a P : Int} (H : SPc μ σ a P) (f0 : μ' P 16 = μ P 16) (f : ∀ b j, b = P + 8 ∨ b = P + 9 → μ' b j = μ b j) : SPc μ' σ a P := by
  unfold SPc SPk at *
  rw [f0]
  rcases H with H | ⟨h1, h2⟩
  · exact Or.inl H
  · refine Or.inr ⟨h1, fun k k0 k1 => ?_⟩
    rw [f (P + 9) k (by omega)]
    rcases h2 k k0 k1 with z | ⟨x, x1, x2, x3⟩
    · exact Or.inl z
    · exact Or.inr ⟨x, x1, x2, at4_congr x3 (fun j _ _ => f _ _ (by omega))⟩
/-- cells of scratch, of the reference's order -/
def sco (X b j : Int) : Prop := sc2 X b j ∨ (b = X + 34 ∧ (j = 66 ∨ j = 67)) ∨ b = X + 34 + 105
theorem order_fin {ε : m_E} {μ μ5 : m_M} {X a A : Int} {ow R : Int → Int} (S : SL ε X) (G' : RG ε μ (X + 34) R) (J : JV μ (X + 20) (X + 34) R) (P : PG μ (X + 29) (X + 34)) (C : Core ε μ X ow (sgM μ (X + 34))) (a0 : 0 ≤ a) (a27 : a < sgM μ (X + 34) 0 27) (hA : μ (X + 3) a = A) (f : ∀ b j, ¬ sco X b j → b ≠ A + 8 → b ≠ A + 9 → b ≠ A + 10 → ¬ (b = A ∧ (j = 16 ∨ j = 17 ∨ j = 18)) → μ5 b j = μ b j) (sp : SPc μ5 (sgM μ (X + 34)) a A) (hp : ∀ p, 0 ≤ p → p < sgM μ (X + 34) 15 a → 0 ≤ sgM μ (X + 34) 16 (10 * a + p)) (e17 : μ5 A 17 = 1) (odc : OD (sgM μ (X + 34)) a (μ5 A 18) (μ5 (A + 10))) (e66 : μ5 (X + 34) 66 = a) (odm : OD (sgM μ (X + 34)) a (μ5 (X + 34) 67) (μ5 (X + 34 + 105))) : Rel ε μ5 X := by
  have K := C.2.2.2.1.2.2.2 a a0 a27
  rw [hA] at K
  have x := K.2.1
  have o := K.2.2.1
  have lo : ∀ b j, b ≤ X + 141 → ¬ sco X b j → μ5 b j = μ b j := fun b j h h' => f b j h' (by omega) (by omega) (by omega) (by omega)
  have nsc : ∀ o j, (1 ≤ o ∧ o ≤ 12) ∨ (15 ≤ o ∧ o ≤ 24) → sgM μ5 (X + 34) o j = sgM μ (X + 34) o j := fun o j h => lo _ _ (by omega) (fun z => by unfold sco sc2 at z; omega)
  have g0 : ∀ j, (j = 4 ∨ j = 14 ∨ j = 27) → sgM μ5 (X + 34) 0 j = sgM μ (X + 34) 0 j := fun j h => lo _ _ (by omega) (fun z => by unfold sco sc2 at z; omega)
  have A' := C.ag (σ' := sgM μ5 (X + 34)) a0 a27 nsc
  have s66 : sgM μ5 (X + 34) 0 66 = a := by show μ5 (X + 34 + 0) 66 = a; rw [Int.add_zero]; exact e66
  have s67 : sgM μ5 (X + 34) 0 67 = μ5 (X + 34) 67 := by show μ5 (X + 34 + 0) 67 = _; rw [Int.add_zero]
  have e' : ∀ d j, 0 < d → d ≠ 8 → d ≠ 9 → d ≠ 10 → μ5 (A + d) j = μ (A + d) j := fun d j h1 h2 h3 h4 => f _ _ (fun z => by unfold sco sc2 at z; omega) (by omega) (by omega) (by omega) (by omega)
  have e0 : ∀ j, j ≠ 16 → j ≠ 17 → j ≠ 18 → μ5 A j = μ A j := fun j h h1 h2 => f _ _ (fun z => by unfold sco sc2 at z; omega) (by omega) (by omega) (by omega) (by omega)
  have ex : ∀ j, μ5 (X + 2) j = μ (X + 2) j := fun j => lo _ _ (by omega) (fun z => by unfold sco sc2 at z; omega)
  have K1 : CAa ε μ5 X ow (sgM μ (X + 34)) a A := by
    obtain ⟨c1, c2, c3, c4, c5, c6, c7, c8, c9, c10, c11, c12, c13, c14, c15, c16, c17, c18, c19, c20⟩ := K
    refine ⟨c1, c2, c3, fun p p0 p1 => ?_, fun i i0 i1 => ?_, c6, (e0 _ (by decide) (by decide) (by decide)).trans c7, (e0 _ (by decide) (by decide) (by decide)).trans c8, (e0 _ (by decide) (by decide) (by decide)).trans c9, c10, c11, fun i i0 i1 => ?_, (e0 _ (by decide) (by decide) (by decide)).trans c13, (e0 _ (by decide) (by decide) (by decide)).trans c14, c15, c16, c17, c18, sp, Or.inr ⟨e17, hp, odc⟩⟩
    · rw [e' 6 _ (by decide) (by decide) (by decide) (by decide), e' 7 _ (by decide) (by decide) (by decide) (by decide), ex]; exact c4 p p0 p1
    · rw [e' 1 _ (by decide) (by decide) (by decide) (by decide), e' 2 _ (by decide) (by decide) (by decide) (by decide)]; exact c5 i i0 i1
    · rw [e' 3 _ (by decide) (by decide) (by decide) (by decide), e' 4 _ (by decide) (by decide) (by decide) (by decide), e' 5 _ (by decide) (by decide) (by decide) (by decide)]; exact c12 i i0 i1
  refine Rel.mk6 (ow := ow) S G' J P EX.rf (fun b j h h1 h2 h3 => ?_) (C.arch (a := a) EX.rf (fun b j h1 h2 h3 => ?_) (fun _ _ => ?_) ⟨fun i i0 i1 => ?_, Or.inr ?_⟩)
  · refine lo _ _ (by unfold kpt at h; omega) (fun z => ?_)
    unfold kpt at h; unfold sco sc2 at z; omega
  · have o0 := o 0 (by decide) (by decide)
    have o8 := o 8 (by decide) (by decide)
    have o9 := o 9 (by decide) (by decide)
    have o10 := o 10 (by decide) (by decide)
    rw [Int.add_zero] at o0
    refine f b j (fun z => ?_) (fun z => h3 ⟨by omega, by rw [z]; exact o8⟩) (fun z => h3 ⟨by omega, by rw [z]; exact o9⟩) (fun z => h3 ⟨by omega, by rw [z]; exact o10⟩) (fun z => h3 ⟨by omega, by rw [z.1]; exact o0⟩)
    rcases z with z | z | z
    · exact h1 z.q
    · exact h2 (Or.inr (Or.inr (Or.inr (Or.inr (Or.inr (Or.inr (Or.inr (Or.inl z))))))))
    · exact h2 (Or.inr (Or.inr (Or.inr (Or.inr (Or.inr (Or.inr (Or.inr (Or.inr z))))))))
  · rw [hA]
    exact K1.go A' EX.rf (fun _ _ _ _ => rfl) (fun _ _ => rfl) (fun _ _ _ => rfl) (by rw [g0 14 (by decide)]; omega) (nsc _ _ (by decide)) (fun _ _ _ => ⟨nsc _ _ (by decide), nsc _ _ (by decide), nsc _ _ (by decide)⟩)
  · rw [g0 27 (by decide)] at i0
    rw [nsc 18 i (by decide)]
    exact C.2.2.2.2.1 i i0 i1
  · rw [s66, s67, g0 27 (by decide)]
    exact ⟨a0, a27, A'.od ⟨hp, odm⟩⟩
theorem pr_order {ε : m_E} {μ : m_M} {X i k : Int} {codes : Int → Int} (c1 : codes 1 = 1) (c3 : codes 3 = 2) (H : Rel ε μ X) : PAIR (fun ε μ Q Y => o_X10_order [(2, X), (0, i), (0, k)] ε μ Q Y) (fun ε μ Q Y => o_X12_order [(2, X + 34), (0, i), (0, k)] ε μ Q Y) codes ε μ X := by
  intro QC XC hq hx
  have H' := H
  obtain ⟨ow, R, S, G', J, P, C⟩ := H
  have e27 : sgM μ (X + 34) 0 27 = μ (X + 34) 27 := by unfold sgM; rw [Int.add_zero]
  apply e_X10_order
  intro T _ _
  have a12 := C.2.2.2.1.2.2.1
  refine ⟨S.1.k, sp_X10_archAt S C.2.2.2.1 (fun q z hz => hx 1 _ _ (by rw [c1]; decide) ?_) (fun q r K => ?_)⟩
  · rw [c1]
    refine aft_thr H' (by decide) EX.nx (fun μ2 Q Y f2 G2 K => ?_)
    apply e_X12_order
    refine fun _ _ _ => ⟨G2.1.k, sp_X12_isArch G2.1 (fun a b => ?_) (fun _ => ?_)⟩
    · rw [f2 _ _ (by omega)] at b; omega
    · apply g_X12_order_5
      exact fun _ _ _ _ => ⟨fun z => absurd rfl z, fun _ => K⟩
  · obtain ⟨na, ng, nB, nf⟩ := K.need T C.2.2.1 q (by omega)
    have x := K.2.1
    have n1 := K.n.1
    have sp0 := K.2.2.2.2.2.2.2.2.2.2.2.2.2.2.2.2.2.2.1
    have or0 := K.2.2.2.2.2.2.2.2.2.2.2.2.2.2.2.2.2.2.2
    apply g_X10_order_5
    intro _ _ v2 h2
    subst h2
    refine sp_X10_requireWhole nf ng sp0 (fun μ1 f1 s1 hho s16 => ?_) (fun μ1 f1 s1 hho z hz => hx 3 _ _ (by rw [c3]; decide) ?_)
    · have W := K.wh T C.2.2.1 q (by omega) f1 s1 hho s16
      have hp := ho_hp n1 hho
      have fin : ∀ μC, FDo X (μ (X + 3) i) μ1 μC → μC (μ (X + 3) i) 17 = 1 → OD (sgM μ (X + 34)) i (μC (μ (X + 3) i) 18) (μC (μ (X + 3) i + 10)) → G cd_X10_order QC XC 22 [(2, (0, k)), (3, (2, μ (X + 3) i))] [] ε μC := fun μC fC e17 od => by
        apply g_X10_order_22
        refine fun _ _ => ⟨K.1.k, sp_X0_ordered K.1 (od.len n1) ?_⟩
        apply g_X10_order_27
        refine fun _ _ => hq _ _ _ ⟨EX.rf, fun b j h => ?_, fun μ2 f2 Q Y K2 => ?_⟩
        · rw [fC _ _ (by omega) (by omega) (by omega) (by omega), f1 _ _ (by omega) (by omega) (by omega)]
        have m2 : ∀ b j, X + 34 ≤ b → b ≤ X + 140 → μ2 b j = μ b j := fun b j h h' => by rw [f2 _ _ (by omega), fC _ _ (by omega) (by omega) (by omega) (by omega), f1 _ _ (by omega) (by omega) (by omega)]
        have LM2 := G'.1
        -- the reference's end
        have done : ∀ μ5 : m_M, (∀ b j, ¬ (X + 34 + 25 ≤ b ∧ b ≤ X + 34 + 30) → b ≠ X + 34 + 44 → b ≠ X + 34 + 45 → b ≠ X + 34 + 46 → b ≠ X + 34 + 106 → b ≠ X + 34 + 105 → ¬ (b = X + 34 ∧ (j = 0 ∨ j = 35 ∨ (42 ≤ j ∧ j ≤ 49) ∨ j = 66 ∨ j = 67)) → μ5 b j = μ2 b j) → μ5 (X + 34) 0 = 0 → μ5 (X + 34) 66 = i → OD (sgM μ (X + 34)) i (μ5 (X + 34) 67) (μ5 (X + 34 + 105)) → G cd_X12_order Q Y 50 [(0, (2, X + 34)), (2, (0, k))] [] ε μ5 := fun μ5 f5 z5 e66 odm => by
          have l5 := odm.len n1
          have n10 := K.n.2
          apply g_X12_order_50
          rw [LM2.f64.1, LM2.f64.2.2]
          refine fun _ _ => ⟨fun _ => ⟨LM2.k, fun _ => ⟨LM2.f64.2.1, by omega, by omega⟩⟩, fun t ht => ?_⟩
          have et : t = ans (μC (μ (X + 3) i) 18) (μC (μ (X + 3) i + 10)) k := by
            rw [od_ans od odm n1, ht]; rfl
          have hi5 : ∀ b j, X + 141 < b → μ5 b j = μC b j := fun b j h => by rw [f5 b j (by omega) (by omega) (by omega) (by omega) (by omega) (by omega) (by omega), f2 b j (by omega)]
          refine K2 _ _ (fun c j h => f5 c j (by omega) (by omega) (by omega) (by omega) (by omega) (by omega) (by omega)) (order_fin S G' J P C q r rfl (fun b j h h1 h2 h3 h4 => ?_) (s1.f6 (by rw [hi5 _ _ (by omega)]; exact fC _ _ (by omega) (by omega) (by omega) (by omega)) (fun b j h => ?_)) hp (by rw [hi5 _ _ (by omega)]; exact e17) ?_ e66 odm) z5 (fun _ => et) (fun j => f5 _ j (by omega) (by omega) (by omega) (by omega) (by omega) (by omega) (by omega))
          · have h' : ¬ ((X + 4 ≤ b ∧ b ≤ X + 19) ∨ b = X + 33 ∨ b = X + 141 ∨ (X + 34 + 25 ≤ b ∧ b ≤ X + 34 + 30) ∨ (X + 34 + 44 ≤ b ∧ b ≤ X + 34 + 46) ∨ b = X + 34 + 106 ∨ (b = X + 34 ∧ (j = 0 ∨ (28 ≤ j ∧ j ≤ 49)))) := fun z => h (Or.inl z)
            have h'' : ¬ (b = X + 34 ∧ (j = 66 ∨ j = 67)) := fun z => h (Or.inr (Or.inl z))
            have h3' : b ≠ X + 34 + 105 := fun z => h (Or.inr (Or.inr z))
            clear h
            rw [f5 b j (by omega) (by omega) (by omega) (by omega) (by omega) h3' (by omega), f2 b j (by omega), fC b j (by omega) (by omega) h3 (fun z => h4 ⟨z.1, Or.inr z.2⟩), f1 b j h1 h2 (fun z => h4 ⟨z.1, Or.inl z.2⟩)]
          · rw [hi5 _ _ (by omega)]; exact fC _ _ (by omega) (by omega) (by omega) (by omega)
          · rw [hi5 _ _ (by omega)]
            have : μ5 (μ (X + 3) i + 10) = μC (μ (X + 3) i + 10) := funext fun j => hi5 _ _ (by omega)
            rw [this]; exact od
        apply e_X12_order
        refine fun _ _ _ => ⟨LM2.k, sp_X12_isArch LM2 (fun _ _ => ?_) (fun z => ?_)⟩
        · apply g_X12_order_5
          refine fun _ _ _ _ => ⟨fun _ => ⟨LM2.k, sp_X12_holeOf (σ := sgM μ (X + 34)) LM2 (fun o j o1 o2 => ?_) na ng (fun μ3 f3 k3 => ?_)⟩, fun z => absurd z (by decide)⟩
          · rw [sx_oa (by omega)]; exact m2 _ _ (by omega) (by omega)
          · apply g_X12_order_16
            intro _ _ _ _ t2 ht2
            rw [if_pos hho] at ht2
            refine ⟨LM2.k, fun μ4 m4 => ⟨LM2.k, ?_⟩⟩
            rw [ht2] at m4
            have z4 : μ4 (X + 34) 0 = 0 := by rw [m4, sx_same]
            rw [z4]
            have g4 : ∀ b j, b ≠ X + 34 + 25 → ¬ (b = X + 34 ∧ j = 0) → μ4 b j = μ2 b j := fun b j h h' => by rw [m4, st, if_neg h', f3 b j h, st, if_neg h']
            have e25 : μ4 (X + 34 + 25) = μ3 (X + 34 + 25) := by funext j; rw [m4]; exact sx_oa (by omega)
            have K' := K
            obtain ⟨_, _, _, _, _, _, _, _, _, _, _, _, _, _, p0, p1, q0, q1, _, _⟩ := K'
            refine ⟨fun _ => ⟨fun e66 => ?_, fun e66 => ?_⟩, fun z => absurd z (by decide)⟩
            · have O := C.2.2.2.2.2
              have s66 : sgM μ (X + 34) 0 66 = i := by
                show μ (X + 34 + 0) 66 = i
                rw [Int.add_zero, ← m2 _ _ (by omega) (by omega), ← g4 _ _ (by omega) (by omega)]; exact e66
              have s67 : sgM μ (X + 34) 0 67 = μ4 (X + 34) 67 := by
                show μ (X + 34 + 0) 67 = _
                rw [Int.add_zero, g4 _ _ (by omega) (by omega), m2 _ _ (by omega) (by omega)]
              have s105 : μ4 (X + 34 + 105) = sgM μ (X + 34) 105 := funext fun j => by rw [g4 _ _ (by omega) (by omega), m2 _ _ (by omega) (by omega)]; rfl
              rcases O with O | ⟨_, _, _, O⟩
              · omega
              · rw [s66, s67, ← s105] at O
                exact done μ4 (fun b j h1 h2 h3 h4 h5 h6 h7 => g4 b j (by omega) (by omega)) z4 e66 O
            · refine sp_X12_orders (σ := sgM μ (X + 34)) LM2 ⟨na, ng, nB, hho, p0, p1, q0, q1, fun o j o1 o2 => ?_, by rw [e25]; exact k3 hho⟩ (fun μ5 f5 e66 odm => done μ5 (fun b j h1 h2 h3 h4 h5 h6 h7 => ?_) ?_ e66 odm)
              · rw [g4 _ _ (by omega) (by omega)]; exact m2 _ _ (by omega) (by omega)
              · rw [f5 b j (by omega) h2 h3 h4 (by omega) h5 h6 (by omega), g4 b j (by omega) (by omega)]
              · rw [f5 _ _ (by omega) (by omega) (by omega) (by omega) (by omega) (by omega) (by omega) (by omega), z4]
        · rw [m2 _ _ (by omega) (by omega)] at z; omega
      apply g_X10_order_10
      refine fun _ _ => ⟨K.1.k, ?_⟩
      have p17 : μ1 (μ (X + 3) i) 17 = μ (μ (X + 3) i) 17 := f1 _ _ (by omega) (by omega) (by omega)
      have p18 : μ1 (μ (X + 3) i) 18 = μ (μ (X + 3) i) 18 := f1 _ _ (by omega) (by omega) (by omega)
      have p10 : μ1 (μ (X + 3) i + 10) = μ (μ (X + 3) i + 10) := funext fun j => f1 _ _ (by omega) (by omega) (by omega)
      apply e_X0_isOrderKnown
      rcases or0 with z | ⟨z, _, od⟩
      · refine fun _ => ⟨K.1.k, Or.inl (p17.trans z), ?_⟩
        rw [p17, z]
        apply g_X10_order_14
        exact fun _ _ _ => ⟨fun y => absurd rfl y, fun _ => ⟨S.1.k, sp_X10_findOrder S W K.1 (fun μC fC e17 od => fin μC fC e17 od)⟩⟩
      · refine fun _ => ⟨K.1.k, Or.inr (p17.trans z), ?_⟩
        rw [p17, z]
        apply g_X10_order_14
        refine fun _ _ _ => ⟨fun _ => fin μ1 (fun _ _ _ _ _ _ => rfl) (p17.trans z) ?_, fun y => absurd y (by decide)⟩
        rw [p18, p10]; exact od
    · rw [c3]
      refine aft_hole S G' J P C EX.nx q r f1 s1 (by decide) (fun μ2 Q Y m2 G2 K3 => ?_)
      apply e_X12_order
      refine fun _ _ _ => ⟨G2.1.k, sp_X12_isArch G2.1 (fun _ _ => ?_) (fun z => ?_)⟩
      · apply g_X12_order_5
        refine fun _ _ _ _ => ⟨fun _ => ⟨G2.1.k, sp_X12_holeOf (σ := sgM μ (X + 34)) G2.1 (fun o j o1 o2 => ?_) na ng (fun μ3 f3 k3 => ?_)⟩, fun z => absurd z (by decide)⟩
        · rw [sx_oa (by omega)]; exact m2 _ _ (by omega)
        · apply g_X12_order_16
          intro _ _ _ _ t2 ht2
          rw [if_neg hho] at ht2
          refine ⟨G2.1.k, fun μ4 m4 => ⟨G2.1.k, ?_⟩⟩
          rw [ht2] at m4
          rw [m4, sx_same]
          exact ⟨fun z => absurd z (by decide), fun _ => K3 μ3 f3⟩
      · rw [m2 _ _ (by omega)] at z; omega
