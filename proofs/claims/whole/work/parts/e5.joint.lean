set_option maxHeartbeats 1000000
/-! ===== pair of calls: joint; the list of an arch that is whole ===== -/
theorem pr_joint {ε : m_E} {μ : m_M} {X i k w : Int} {codes : Int → Int} (c1 : codes 1 = 1) (c2 : codes 2 = 2) (H : Rel ε μ X) : PAIR (fun ε μ Q Y => o_X10_joint [(2, X), (0, i), (0, k), (0, w)] ε μ Q Y) (fun ε μ Q Y => o_X12_joint [(2, X + 34), (0, i), (0, k), (0, w)] ε μ Q Y) codes ε μ X := by
  intro QC XC hq hx
  have H' := H
  obtain ⟨ow, R, S, G', J, P, C⟩ := H
  have e27 : sgM μ (X + 34) 0 27 = μ (X + 34) 27 := by unfold sgM; rw [Int.add_zero]
  apply e_X10_joint
  intro T _ _ _
  refine ⟨S.1.k, sp_X10_archAt S C.2.2.2.1 (fun q z hz => hx 1 _ _ (by rw [c1]; decide) ?_) (fun q r K => ?_)⟩
  · rw [c1]
    refine aft_thr H' (by decide) EX.nx (fun μ2 Q Y f2 G2 K => ?_)
    apply e_X12_joint
    refine fun _ _ _ _ => ⟨G2.1.k, sp_X12_isArch G2.1 (fun a b => ?_) (fun _ => ?_)⟩
    · rw [f2 _ _ (by omega)] at b; omega
    · apply g_X12_joint_5
      exact fun _ _ _ _ _ => ⟨fun z => absurd rfl z, fun _ => K⟩
  · have a12 := C.2.2.2.1.2.2.1
    obtain ⟨na, ng, nB, nf⟩ := K.need T C.2.2.1 q (by omega)
    have x := K.2.1
    have n10 := K.n
    have sp0 := K.2.2.2.2.2.2.2.2.2.2.2.2.2.2.2.2.2.2.1
    have ez : ∀ t : Int, st μ (X + 34) 0 t = st μ (X + 34) 0 t := fun _ => rfl
    -- a refusal: the reference sees it too
    have thr : ∀ c e, codes e = c → c ≠ 0 → (c = 1 ∨ c = 2) → (c = 1 ↔ (k < 0 ∨ sgM μ (X + 34) 15 i < k)) → (c = 2 → w < 0 ∨ 3 < w) → ∀ z : Int, nx ε ≤ z → XC e (enx ε z) μ := fun c e he hc h12 hi h2 z hz => by
      refine hx e _ _ (by rw [he]; omega) ?_
      rw [he]
      refine aft_thr H' hc EX.nx (fun μ2 Q Y f2 G2 K' => ?_)
      apply e_X12_joint
      refine fun _ _ _ _ => ⟨G2.1.k, sp_X12_isArch G2.1 (fun a b => ?_) (fun y => ?_)⟩
      · apply g_X12_joint_5
        rw [G2.1.f17.1]
        refine fun _ _ _ _ _ => ⟨fun _ => ⟨fun _ => ⟨G2.1.k, G2.1.f17.2.1, q, by rw [G2.1.f17.2.2]; omega⟩, fun t1 ht1 => ⟨G2.1.k, fun μ3 m3 => ⟨G2.1.k, ?_⟩⟩⟩, fun y => absurd y (by decide)⟩
        rw [sx_oa (by omega), f2 _ _ (by omega)] at ht1
        have et : t1 = c := by
          rw [ht1]
          have hs : μ (X + 34 + 15) i = sgM μ (X + 34) 15 i := rfl
          rw [hs]
          by_cases y : k < 0
          · rw [if_pos y]; omega
          · rw [if_neg y]
            by_cases u : k ≤ sgM μ (X + 34) 15 i
            · rw [if_pos u]
              have : c = 2 := by omega
              rcases h2 this with v | v
              · rw [if_pos v]; omega
              · rw [if_neg (by omega), if_neg (by omega)]; omega
            · rw [if_neg u]; omega
        have e3 : μ3 = st μ2 (X + 34) 0 c := by
          rw [m3, et]
          funext b j
          unfold st
          by_cases y : b = X + 34 ∧ j = 0
          · rw [if_pos y, if_pos y]
          · rw [if_neg y, if_neg y, if_neg y]
        rw [e3, sx_same]
        exact ⟨fun y => by omega, fun _ => K'⟩
      · rw [f2 _ _ (by omega)] at y; omega
    apply g_X10_joint_5
    intro _ _ _ v4 h4
    subst h4
    rw [K.1.2.1]
    refine ⟨fun y => thr 1 1 c1 (by decide) (by decide) (by omega) (by omega), fun y => ⟨K.1.k, fun u => ⟨fun v => thr 2 2 c2 (by decide) (by decide) (by omega) (by omega), fun v => ⟨fun v' => ?_, fun v' => thr 2 2 c2 (by decide) (by decide) (by omega) (by omega)⟩⟩, fun u => thr 1 1 c1 (by decide) (by decide) (by omega) (by omega)⟩⟩
    -- the joint itself
    have fin : ∀ (μ1 : m_M) (z : Int), FA2 (μ (X + 3) i) μ μ1 → SPc μ1 (sgM μ (X + 34)) i (μ (X + 3) i) → (jo (sgM μ (X + 34)) i k = none → z = -1000) → (∀ x, jo (sgM μ (X + 34)) i k = some x → z = if w = 0 then x.1 else if w = 1 then x.2.1 else if w = 2 then x.2.2.1 else x.2.2.2) → AFT (fun ε μ Q Y => o_X12_joint [(2, X + 34), (0, i), (0, k), (0, w)] ε μ Q Y) X 0 z ε μ ε μ1 := fun μ1 z f1 s1 z0 z1 => by
      refine ⟨EX.rf, fun b j h => f1 _ _ (by omega) (by omega) (by omega), fun μ2 f2 Q Y K2 => ?_⟩
      have m2 : ∀ b j, b ≤ X + 140 → μ2 b j = μ b j := fun b j h => by rw [f2 _ _ (by omega), f1 _ _ (by omega) (by omega) (by omega)]
      have G2 : RG ε μ2 (X + 34) R := G'.sc (fun b j h h' => m2 _ _ (by
        have : b ≠ X + 141 := fun z => h' (by unfold sc2; omega)
        omega))
      apply e_X12_joint
      refine fun _ _ _ _ => ⟨G2.1.k, sp_X12_isArch G2.1 (fun _ _ => ?_) (fun y => ?_)⟩
      · apply g_X12_joint_5
        rw [G2.1.f17.1]
        refine fun _ _ _ _ _ => ⟨fun _ => ⟨fun _ => ⟨G2.1.k, G2.1.f17.2.1, q, by rw [G2.1.f17.2.2]; omega⟩, fun t1 ht1 => ⟨G2.1.k, fun μ3 m3 => ⟨G2.1.k, ?_⟩⟩⟩, fun y => absurd y (by decide)⟩
        have et : t1 = 0 := by
          rw [ht1, sx_oa (by omega), m2 _ _ (by omega)]
          have hs : μ (X + 34 + 15) i = sgM μ (X + 34) 15 i := rfl
          rw [hs, if_neg (by omega), if_pos u, if_neg (by omega), if_pos v']
        rw [et] at m3
        have m3' : ∀ b j, ¬ (b = X + 34 ∧ j = 0) → μ3 b j = μ2 b j := fun b j h => by
          rw [m3, st, if_neg h, st, if_neg h]
        have z3 : μ3 (X + 34) 0 = 0 := by rw [m3, sx_same]
        rw [z3]
        have wk : w32 (w32 (4 * k) + w) = 4 * k + w := by rw [w32_id (show i32 (4 * k) by unfold i32; omega), w32_id (by unfold i32; omega)]
        have done : ∀ b μ4, FX (X + 34) k μ3 μ4 → b = z → Q b ε μ4 := fun b μ4 f4 hb => by
          have m4 : ∀ b j, b ≠ X + 34 + 25 → ¬ (b = X + 34 ∧ j = 0) → μ4 b j = μ2 b j := fun b j h h' => by rw [f4.a b j h, m3' b j h']
          refine K2 _ _ (fun c j h => m4 _ _ (by omega) (by omega)) (Rel.fin S G' J P C EX.rf q r (fun b j h h1 h2 h3 => ?_) (s1.fr (fun b j h => ?_))) (by rw [f4.a _ _ (by omega), z3]) (fun _ => hb) (fun j => m4 _ _ (by omega) (by omega))
          · rw [m4 _ _ (fun z => h (by unfold sc2; omega)) (fun z => h (by unfold sc2; omega)), f2 _ _ (fun z => h (by unfold sc2; omega)), f1 _ _ h1 h2 h3]
          · rw [m4 _ _ (by omega) (by omega), f2 _ _ (by omega)]
        refine ⟨fun _ => sp_X12_joins (σ := sgM μ (X + 34)) G2.1 (fun o j o1 o2 => ?_) na ng (by omega) u (fun y' => ?_) (fun x' μ4 y' f4 a4 => ?_), fun y' => absurd y' (by decide)⟩
        · rw [m3' _ _ (by omega)]; exact m2 _ _ (by omega)
        · apply g_X12_joint_61
          refine fun _ _ _ _ => ⟨fun z => absurd rfl z, fun t2 ht2 => ?_⟩
          rw [if_pos rfl] at ht2
          exact done t2 μ3 FX.rf (by rw [ht2, z0 y'])
        · apply g_X12_joint_61
          rw [G2.1.f28.1, wk]
          refine fun _ _ _ _ => ⟨fun _ => ⟨G2.1.k, G2.1.f28.2.1, by omega, by rw [G2.1.f28.2.2]; omega⟩, fun t2 ht2 => ?_⟩
          rw [if_neg (by decide)] at ht2
          refine done t2 μ4 f4 ?_
          rw [ht2, z1 x' y']
          obtain ⟨a0, a1, a2, a3⟩ := a4
          have : w = 0 ∨ w = 1 ∨ w = 2 ∨ w = 3 := by omega
          rcases this with h | h | h | h <;> subst h
          · rw [Int.add_zero, if_pos rfl]; exact a0
          · rw [if_neg (by decide), if_pos rfl]; exact a1
          · rw [if_neg (by decide), if_neg (by decide), if_pos rfl]; exact a2
          · rw [if_neg (by decide), if_neg (by decide), if_neg (by decide)]; exact a3
      · rw [m2 _ _ (by omega)] at y; omega
    refine sp_X0_hasSpan nf ng sp0 y u (fun μ1 f1 s1 j1 => ?_) (fun μ1 x1 f1 s1 j1 a4 => ?_)
    · apply g_X10_joint_55
      exact fun _ _ _ _ => ⟨fun _ => hq _ _ _ (fin μ1 _ f1 s1 (fun _ => rfl) (fun x' hx' => by rw [j1] at hx'; cases hx')), fun y => absurd rfl y⟩
    · apply g_X10_joint_55
      refine fun _ _ _ _ => ⟨fun y => absurd y (by decide), fun _ => ⟨K.1.k, sp_X0_span K.1 y u v (by omega) ?_⟩⟩
      apply g_X10_joint_65
      refine fun _ _ => hq _ _ _ (fin μ1 _ f1 s1 (fun h => by rw [j1] at h; cases h) (fun x' hx' => ?_))
      rw [j1] at hx'
      have := Option.some.inj hx'
      subst this
      obtain ⟨a0, a1, a2, a3⟩ := a4
      have : w = 0 ∨ w = 1 ∨ w = 2 ∨ w = 3 := by omega
      rcases this with h | h | h | h <;> subst h
      · rw [Int.add_zero, if_pos rfl]; exact a0
      · rw [if_neg (by decide), if_pos rfl]; exact a1
      · rw [if_neg (by decide), if_neg (by decide), if_pos rfl]; exact a2
      · rw [if_neg (by decide), if_neg (by decide), if_neg (by decide)]; exact a3
/-- a span's ends are near and apart -/
theorem shr_ok {ax ay bx by_ cx cy dx dy : Int} {x : Sp} (h : shr ax ay bx by_ cx cy dx dy = some x) (b1 : ab ax 100) (b2 : ab ay 100) (b3 : ab bx 100) (b4 : ab by_ 100) (b5 : ab cx 100) (b6 : ab cy 100) (b7 : ab dx 100) (b8 : ab dy 100) : (ab x.1 100 ∧ ab x.2.1 100 ∧ ab x.2.2.1 100 ∧ ab x.2.2.2 100) ∧ ¬ (x.2.2.1 = x.1 ∧ x.2.2.2 = x.2.1) := by
  unfold shr at h
  split at h
  · split at h
    · unfold shx at h
      generalize eF : (bx - ax) * (dx - ax) + (by_ - ay) * (dy - ay) = F at h
      generalize eT : (bx - ax) * (cx - ax) + (by_ - ay) * (cy - ay) = T at h
      generalize eA : (bx - ax) * (bx - ax) + (by_ - ay) * (by_ - ay) = A at h
      by_cases q : T ≤ F
      · rw [if_pos q] at h; cases h
      · rw [if_neg q] at h
        by_cases r : (if A ≤ T then A else T) ≤ (if F ≤ 0 then 0 else F)
        · rw [if_pos r] at h; cases h
        · rw [if_neg r] at h
          have := Option.some.inj h
          subst this
          by_cases f : F ≤ 0
          · rw [if_pos f] at r
            simp only [if_pos f]
            by_cases g : A ≤ T
            · rw [if_pos g] at r
              simp only [if_pos g]
              refine ⟨⟨b1, b2, b3, b4⟩, fun z => ?_⟩
              rw [z.1, z.2, Int.sub_self, Int.sub_self] at eA
              omega
            · rw [if_neg g] at r
              simp only [if_neg g]
              refine ⟨⟨b1, b2, b5, b6⟩, fun z => ?_⟩
              rw [z.1, z.2, Int.sub_self, Int.sub_self, Int.mul_zero, Int.mul_zero] at eT
              omega
          · rw [if_neg f] at r
            simp only [if_neg f]
            by_cases g : A ≤ T
            · rw [if_pos g] at r
              simp only [if_pos g]
              refine ⟨⟨b7, b8, b3, b4⟩, fun z => ?_⟩
              rw [← z.1, ← z.2] at eF
              omega
            · rw [if_neg g] at r
              simp only [if_neg g]
              refine ⟨⟨b7, b8, b5, b6⟩, fun z => ?_⟩
              rw [z.1, z.2] at eT
              omega
    · cases h
  · cases h
theorem jo_ok {σ : m_M} {a k : Int} {x : Sp} (G' : MG σ a) (k0 : 0 ≤ k) (k1 : k ≤ σ 15 a) (h : jo σ a k = some x) : (ab x.1 100 ∧ ab x.2.1 100 ∧ ab x.2.2.1 100 ∧ ab x.2.2.2 100) ∧ ¬ (x.2.2.1 = x.1 ∧ x.2.2.2 = x.2.1) := by
  have r1 := fcn_rng (p := k - 1) G' (by omega)
  have r2 := fcn_rng (p := k) G' k1
  unfold jo at h
  obtain ⟨i, i0, i1, i2⟩ := fs_some _ _ h
  obtain ⟨j, j0, j1, j2⟩ := fs_some _ _ i2
  have F : ∀ w, 0 ≤ w → w < 4 → ab (fA σ a (k - 1) i w) 100 := fun w w0 w1 => fA_ab G' (by omega) i0 (by omega) w0 w1
  have E : ∀ w, 0 ≤ w → w < 4 → ab (fA σ a k j w) 100 := fun w w0 w1 => fA_ab G' k1 j0 (by omega) w0 w1
  exact shr_ok j2 (F 0 (by decide) (by decide)) (F 1 (by decide) (by decide)) (F 2 (by decide) (by decide)) (F 3 (by decide) (by decide)) (E 0 (by decide) (by decide)) (E 1 (by decide) (by decide)) (E 2 (by decide) (by decide)) (E 3 (by decide) (by decide))
theorem JJ_ok {σ : m_M} {a : Int} (G' : MG σ a) (n1 : 1 ≤ σ 15 a) (h : ho σ a = -1) : (∀ i, 0 ≤ i → i < 4 * (σ 15 a + 1) → ab (JJ σ a i) 100) ∧ ∀ k, 0 ≤ k → k ≤ σ 15 a → ¬ (JJ σ a (4 * k + 2) = JJ σ a (4 * k) ∧ JJ σ a (4 * k + 3) = JJ σ a (4 * k + 1)) := by
  obtain ⟨_, _, _, al⟩ := ho_neg n1 h
  constructor
  · intro i i0 i1
    obtain ⟨x, hx⟩ := al (i / 4) (by omega) (by omega)
    obtain ⟨⟨b1, b2, b3, b4⟩, _⟩ := jo_ok G' (by omega) (by omega) hx
    obtain ⟨j0, j1, j2, j3⟩ := JJ_at hx
    have : i = 4 * (i / 4) ∨ i = 4 * (i / 4) + 1 ∨ i = 4 * (i / 4) + 2 ∨ i = 4 * (i / 4) + 3 := by omega
    rcases this with q | q | q | q
    · rw [q, j0]; exact b1
    · rw [q, j1]; exact b2
    · rw [q, j2]; exact b3
    · rw [q, j3]; exact b4
  · intro k k0 k1
    obtain ⟨x, hx⟩ := al k k0 k1
    obtain ⟨_, nz⟩ := jo_ok G' k0 k1 hx
    obtain ⟨j0, j1, j2, j3⟩ := JJ_at hx
    rw [j0, j1, j2, j3]
    exact nz
