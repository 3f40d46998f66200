set_option maxHeartbeats 1000000
/-! ===== pairs of calls: put, tear ===== -/
theorem sp_X5_sizeOf {Q Y : m_Po} {ε : m_E} {μ : m_M} {A k : Int} (L : LR ε A) (k0 : 0 ≤ k) (k1 : k < 40) (hh : Q (μ (A + 1) k) ε μ) : o_X5_sizeOf [(2, A), (0, k)] ε μ Q Y := by
  apply e_X5_sizeOf
  rw [L.f1.1]
  refine fun _ _ => ⟨fun _ _ => ⟨L.k, L.f1.2.1, k0, by rw [L.f1.2.2]; exact k1⟩, fun t ht => ?_⟩
  rw [if_neg (by omega), if_neg (by omega)] at ht
  rw [ht]; exact hh
theorem pr_put {ε : m_E} {μ : m_M} {X r k i v : Int} {codes : Int → Int} (c1 : codes 1 = 1) (H : Rel ε μ X) : PAIR (fun ε μ Q Y => o_X10_put [(2, X), (0, r), (0, k), (0, i), (0, v)] ε μ Q Y) (fun ε μ Q Y => o_X12_put [(2, X + 34), (0, r), (0, k), (0, i), (0, v)] ε μ Q Y) codes ε μ X := by
  intro QC XC hq hx
  have H' := H
  obtain ⟨ow, R, S, G', J, P, C⟩ := H
  have e4 : sgM μ (X + 34) 0 4 = μ (X + 34) 4 := by unfold sgM; rw [Int.add_zero]
  have r8 := C.2.1.2.2.1
  apply e_X10_put
  intro T _ _ _ _
  refine ⟨S.1.k, sp_X10_rackWithRow S C.2.1 (fun q z hz => hx 1 _ _ (by rw [c1]; decide) ?_) (fun q u k0 k1 K => ?_)⟩
  · rw [c1]
    refine aft_thr H' (by decide) EX.nx (fun μ2 Q Y f2 G2 K => ?_)
    have f4 : μ2 (X + 34) 4 = μ (X + 34) 4 := f2 _ _ (by omega)
    apply e_X12_put
    refine fun _ _ _ _ _ => ⟨G2.1.k, sp_X12_isRow G2.1 (fun a b c d => by omega) (fun _ => ?_)⟩
    apply g_X12_put_6
    exact fun _ _ _ _ _ _ => ⟨fun z => absurd rfl z, fun _ => K⟩
  · have x := K.2.1
    have K' := K
    obtain ⟨kL, _, ko, kf, k2, k3⟩ := K'
    have kk := k2 k k0 k1
    have ek : sgM μ (X + 34) 2 (40 * r + k) = μ (X + 34 + 2) (40 * r + k) := rfl
    -- behind a put that changes nothing
    have no : (i < 0 ∨ sgM μ (X + 34) 2 (40 * r + k) ≤ i) → QC (-2147483648) ε μ := fun why => by
      refine hq _ _ _ ⟨EX.rf, fun _ _ _ => rfl, fun μ2 f2 Q Y K2 => ?_⟩
      have LM2 := G'.1
      have f4 : μ2 (X + 34) 4 = μ (X + 34) 4 := f2 _ _ (by omega)
      have f2' : st μ2 (X + 34) 0 0 (X + 34 + 2) (40 * r + k) = μ (X + 34 + 2) (40 * r + k) := by rw [sx_oa (by omega)]; exact f2 _ _ (by omega)
      have done : Q (-2147483648) ε (st μ2 (X + 34) 0 0) := K2 _ _ (fun c j h => sx_oa (by omega)) (Rel.st0 S G' J P C (fun b j h1 h2 => by rw [st, if_neg h2]; exact f2 b j h1)) sx_same (fun _ => rfl) (fun j => sx_oa (by omega))
      apply e_X12_put
      refine fun _ _ _ _ _ => ⟨LM2.k, sp_X12_isRow LM2 (fun a b c d => ?_) (fun y => by omega)⟩
      apply g_X12_put_6
      rw [LM2.f2.1, w32_id (show i32 (40 * r) by unfold i32; omega), w32_id (show i32 (40 * r + k) by unfold i32; omega)]
      refine fun _ _ _ _ _ _ => ⟨fun _ v5 h5 => ⟨fun _ => done, fun i0 => ?_⟩, fun z => absurd z (by decide)⟩
      subst h5
      rw [f2']
      exact ⟨LM2.k, LM2.f2.2.1, by omega, by rw [LM2.f2.2.2]; omega, fun y => by omega, fun _ => done⟩
    apply g_X10_put_6
    refine fun _ _ _ _ => ⟨kL.k, ?_⟩
    apply e_X5_exchange
    have ret : ∀ z ε' μ', QC z ε' μ' → G cd_X10_put QC XC 13 [] [(0, z)] ε' μ' := fun z ε' μ' hz => by
      apply g_X10_put_13
      exact fun _ _ => hz
    refine fun _ _ _ _ => ⟨fun y => ret _ _ _ (no (Or.inl y)), fun i0 => ⟨fun y => ret _ _ _ (no (Or.inr (by omega))), fun i1 => ⟨kL.k, sp_X5_sizeOf kL k0 k1 ?_⟩⟩⟩
    apply g_X5_exchange_16
    rw [kL.f2.1, kk.1, w32_id (show i32 (k * 40) by unfold i32; omega), w32_id (show i32 (k * 40 + i) by unfold i32; omega)]
    refine fun _ _ _ _ _ _ => ⟨fun lt v4 h4 => ⟨kL.k, kL.f2.2.1, by omega, by rw [kL.f2.2.2]; omega, fun v5 h5 => ⟨kL.k, fun t2 ht2 => ⟨kL.f2.2.1, by omega, by rw [kL.f2.2.2]; omega, fun μ1 m1 => ret _ _ _ ?_⟩⟩⟩, fun y => ret _ _ _ (no (Or.inr y))⟩
    subst h4
    have ej : 1600 * r + (k * 40 + i) = 40 * (40 * r + k) + i := by omega
    have had := k3 (k * 40 + i) (by omega) (by omega)
    rw [ej] at had
    rw [h5, had]
    refine hq _ _ _ ⟨EX.rf, fun b j h => by rw [m1]; exact sx_oa (by omega), fun μ2 f2 Q Y K2 => ?_⟩
    have m2 : ∀ b j, b ≠ X + 141 → b ≠ μ (X + 1) r + 2 → μ2 b j = μ b j := fun b j h h1 => by rw [f2 _ _ h, m1, sx_oa h1]
    have LM2 := G'.1
    have f4 : μ2 (X + 34) 4 = μ (X + 34) 4 := m2 _ _ (by omega) (by omega)
    have s0 : ∀ b j, X + 34 < b → b ≤ X + 140 → st μ2 (X + 34) 0 0 b j = μ b j := fun b j h h' => by rw [sx_oa (by omega)]; exact m2 _ _ (by omega) (by omega)
    apply e_X12_put
    refine fun _ _ _ _ _ => ⟨LM2.k, sp_X12_isRow LM2 (fun a b c d => ?_) (fun y => by omega)⟩
    apply g_X12_put_6
    rw [LM2.f1.1, LM2.f2.1, LM2.f3.1, w32_id (show i32 (40 * r) by unfold i32; omega), w32_id (show i32 (40 * r + k) by unfold i32; omega)]
    refine fun _ _ _ _ _ _ => ⟨fun _ v5' h5' => ⟨fun y => by omega, fun _ => ?_⟩, fun z => absurd z (by decide)⟩
    subst h5'
    rw [s0 (X + 34 + 2) _ (by omega) (by omega), w32_id (show i32 (40 * (40 * r + k)) by unfold i32; omega), w32_id (show i32 (40 * (40 * r + k) + i) by unfold i32; omega)]
    refine ⟨LM2.k, LM2.f2.2.1, by omega, by rw [LM2.f2.2.2]; omega, fun _ => ⟨LM2.f3.2.1, by omega, by rw [LM2.f3.2.2]; omega, fun v6 h6 => ⟨LM2.f1.2.1, q, by rw [LM2.f1.2.2]; omega, fun t1 ht1 => ⟨LM2.f3.2.1, by omega, by rw [LM2.f3.2.2]; omega, fun μ4 m4 => ?_⟩⟩⟩, fun y => by omega⟩
    rw [s0 (X + 34 + 1) _ (by omega) (by omega)] at ht1
    rw [s0 (X + 34 + 3) _ (by omega) (by omega)] at h6
    have eq : t1 = t2 := by
      rw [ht1, ht2, kf]
      have es : sgM μ (X + 34) 1 r = μ (X + 34 + 1) r := rfl
      rw [es]
      by_cases z : μ (X + 34 + 1) r = 0
      · rw [if_pos z, if_pos z, if_neg (by decide)]
      · rw [if_neg z, if_neg z, if_pos rfl]
    have g4 : ∀ b j, ¬ (b = X + 34 ∧ j = 0) → ¬ (b = X + 34 + 3 ∧ j = 40 * (40 * r + k) + i) → μ4 b j = μ2 b j := fun b j h h1 => by rw [m4, st, if_neg h1, st, if_neg h]
    have M : ∀ o j, 1 ≤ o → o ≤ 12 → ¬ (o = 3 ∧ j = 40 * (40 * r + k) + i) → sgM μ4 (X + 34) o j = sgM μ (X + 34) o j := fun o j o1 o2 h => by
      show μ4 (X + 34 + o) j = μ (X + 34 + o) j
      rw [g4 _ _ (by omega) (by omega), m2 _ _ (by omega) (by omega)]
    refine K2 _ _ (fun c j h => g4 _ _ (by omega) (by omega)) (Rel.mk' (ow := ow) S G' J P EX.rf (fun b j h => ?_) (C.rack (r := r) EX.rf q u (fun b j h1 h2 h3 => ?_) ⟨kL, x, ko, by rw [M 1 r (by decide) (by decide) (by omega)]; exact kf, fun t t0 t1 => ?_, fun j j0 j1 => ?_⟩)) (by rw [m4, sx_oa (by omega), sx_same]) (fun _ => h6) (fun j => g4 _ _ (by omega) (by omega))
    · unfold kpt at h
      rw [g4 _ _ (by omega) (by omega), m2 _ _ (by omega) (by omega)]
    · unfold scq at h1
      unfold rcl at h2
      rw [g4 _ _ (by omega) (by omega), m2 _ _ (by omega) (fun z => h3 ⟨by omega, by rw [z]; exact ko.2.2⟩)]
    · rw [M 2 _ (by decide) (by decide) (by omega), g4 _ _ (by omega) (by omega), m2 _ _ (by omega) (by omega)]; exact k2 t t0 t1
    · by_cases z : j = k * 40 + i
      · have y1 : μ4 (μ (X + 1) r + 2) j = t2 := by rw [g4 _ _ (by omega) (by omega), f2 _ _ (by omega), m1, z, sx_same]
        have y2 : sgM μ4 (X + 34) 3 (1600 * r + j) = t1 := by
          show μ4 (X + 34 + 3) (1600 * r + j) = t1
          rw [show 1600 * r + j = 40 * (40 * r + k) + i by omega, m4, sx_same]
        rw [y1, y2, eq]
      · have y1 : μ4 (μ (X + 1) r + 2) j = μ (μ (X + 1) r + 2) j := by rw [g4 _ _ (by omega) (by omega), f2 _ _ (by omega), m1, sx_oi z]
        rw [y1, M 3 _ (by decide) (by decide) (by omega)]; exact k3 j j0 j1
theorem pr_tear {ε : m_E} {μ : m_M} {X r k n : Int} {codes : Int → Int} (c1 : codes 1 = 1) (H : Rel ε μ X) : PAIR (fun ε μ Q Y => o_X10_tear [(2, X), (0, r), (0, k), (0, n)] ε μ Q Y) (fun ε μ Q Y => o_X12_tear [(2, X + 34), (0, r), (0, k), (0, n)] ε μ Q Y) codes ε μ X := by
  intro QC XC hq hx
  have H' := H
  obtain ⟨ow, R, S, G', J, P, C⟩ := H
  have e4 : sgM μ (X + 34) 0 4 = μ (X + 34) 4 := by unfold sgM; rw [Int.add_zero]
  have r8 := C.2.1.2.2.1
  apply e_X10_tear
  intro T _ _ _
  refine ⟨S.1.k, sp_X10_rackWithRow S C.2.1 (fun q z hz => hx 1 _ _ (by rw [c1]; decide) ?_) (fun q u k0 k1 K => ?_)⟩
  · rw [c1]
    refine aft_thr H' (by decide) EX.nx (fun μ2 Q Y f2 G2 K => ?_)
    have f4 : μ2 (X + 34) 4 = μ (X + 34) 4 := f2 _ _ (by omega)
    apply e_X12_tear
    refine fun _ _ _ _ => ⟨G2.1.k, sp_X12_isRow G2.1 (fun a b c d => by omega) (fun _ => ?_)⟩
    apply g_X12_tear_6
    exact fun _ _ _ _ _ => ⟨fun z => absurd rfl z, fun _ => K⟩
  · have x := K.2.1
    have K' := K
    obtain ⟨kL, _, ko, kf, k2, k3⟩ := K'
    have kk := k2 k k0 k1
    have ek : sgM μ (X + 34) 2 (40 * r + k) = μ (X + 34 + 2) (40 * r + k) := rfl
    have ret : ∀ z w ε' μ', QC w ε' μ' → w = (if z = 0 then 0 else 1) → G cd_X10_tear QC XC 11 [] [(0, z)] ε' μ' := fun z w ε' μ' hz hw => by
      apply g_X10_tear_11
      intro _ _ t ht
      rw [ht, ← hw]; exact hz
    have no : (n < 0 ∨ sgM μ (X + 34) 2 (40 * r + k) < n) → QC 0 ε μ := fun why => by
      refine hq _ _ _ ⟨EX.rf, fun _ _ _ => rfl, fun μ2 f2 Q Y K2 => ?_⟩
      have LM2 := G'.1
      have f4 : μ2 (X + 34) 4 = μ (X + 34) 4 := f2 _ _ (by omega)
      have f2' : st μ2 (X + 34) 0 0 (X + 34 + 2) (40 * r + k) = μ (X + 34 + 2) (40 * r + k) := by rw [sx_oa (by omega)]; exact f2 _ _ (by omega)
      have done : Q 0 ε (st μ2 (X + 34) 0 0) := K2 _ _ (fun c j h => sx_oa (by omega)) (Rel.st0 S G' J P C (fun b j h1 h2 => by rw [st, if_neg h2]; exact f2 b j h1)) sx_same (fun _ => rfl) (fun j => sx_oa (by omega))
      apply e_X12_tear
      refine fun _ _ _ _ => ⟨LM2.k, sp_X12_isRow LM2 (fun a b c d => ?_) (fun y => by omega)⟩
      apply g_X12_tear_6
      rw [LM2.f2.1, w32_id (show i32 (40 * r) by unfold i32; omega), w32_id (show i32 (40 * r + k) by unfold i32; omega)]
      refine fun _ _ _ _ _ => ⟨fun _ v5 h5 => ⟨fun _ => done, fun i0 => ?_⟩, fun z => absurd z (by decide)⟩
      subst h5
      rw [f2']
      exact ⟨LM2.k, LM2.f2.2.1, by omega, by rw [LM2.f2.2.2]; omega, fun y => by omega, fun _ => done⟩
    apply g_X10_tear_6
    refine fun _ _ _ => ⟨kL.k, ?_⟩
    apply e_X5_cut
    refine fun _ _ _ => ⟨fun y => ret 0 0 _ _ (no (Or.inl y)) (by rw [if_pos rfl]), fun n0 => ⟨kL.k, sp_X5_sizeOf kL k0 k1 ?_⟩⟩
    apply g_X5_cut_10
    rw [kL.f1.1, kk.1]
    refine fun _ _ _ _ _ => ⟨fun le => ⟨kL.k, kL.f1.2.1, k0, by rw [kL.f1.2.2]; exact k1, fun μ1 m1 => ret 1 1 _ _ ?_ (by rw [if_neg (by decide)])⟩, fun y => ret 0 0 _ _ (no (Or.inr y)) (by rw [if_pos rfl])⟩
    refine hq _ _ _ ⟨EX.rf, fun b j h => by rw [m1]; exact sx_oa (by omega), fun μ2 f2 Q Y K2 => ?_⟩
    have m2 : ∀ b j, b ≠ X + 141 → b ≠ μ (X + 1) r + 1 → μ2 b j = μ b j := fun b j h h1 => by rw [f2 _ _ h, m1, sx_oa h1]
    have LM2 := G'.1
    have f4 : μ2 (X + 34) 4 = μ (X + 34) 4 := m2 _ _ (by omega) (by omega)
    have s0 : ∀ b j, X + 34 < b → b ≤ X + 140 → st μ2 (X + 34) 0 0 b j = μ b j := fun b j h h' => by rw [sx_oa (by omega)]; exact m2 _ _ (by omega) (by omega)
    apply e_X12_tear
    refine fun _ _ _ _ => ⟨LM2.k, sp_X12_isRow LM2 (fun a b c d => ?_) (fun y => by omega)⟩
    apply g_X12_tear_6
    rw [LM2.f2.1, w32_id (show i32 (40 * r) by unfold i32; omega), w32_id (show i32 (40 * r + k) by unfold i32; omega)]
    refine fun _ _ _ _ _ => ⟨fun _ v5' h5' => ⟨fun y => by omega, fun _ => ?_⟩, fun z => absurd z (by decide)⟩
    subst h5'
    rw [s0 (X + 34 + 2) _ (by omega) (by omega)]
    refine ⟨LM2.k, LM2.f2.2.1, by omega, by rw [LM2.f2.2.2]; omega, fun _ μ4 m4 => ?_, fun y => by omega⟩
    have g4 : ∀ b j, ¬ (b = X + 34 ∧ j = 0) → ¬ (b = X + 34 + 2 ∧ j = 40 * r + k) → μ4 b j = μ2 b j := fun b j h h1 => by rw [m4, st, if_neg h1, st, if_neg h]
    have M : ∀ o j, 1 ≤ o → o ≤ 12 → ¬ (o = 2 ∧ j = 40 * r + k) → sgM μ4 (X + 34) o j = sgM μ (X + 34) o j := fun o j o1 o2 h => by
      show μ4 (X + 34 + o) j = μ (X + 34 + o) j
      rw [g4 _ _ (by omega) (by omega), m2 _ _ (by omega) (by omega)]
    refine K2 _ _ (fun c j h => g4 _ _ (by omega) (by omega)) (Rel.mk' (ow := ow) S G' J P EX.rf (fun b j h => ?_) (C.rack (r := r) EX.rf q u (fun b j h1 h2 h3 => ?_) ⟨kL, x, ko, by rw [M 1 r (by decide) (by decide) (by omega)]; exact kf, fun t t0 t1 => ?_, fun j j0 j1 => ?_⟩)) (by rw [m4, sx_oa (by omega), sx_same]) (fun _ => rfl) (fun j => g4 _ _ (by omega) (by omega))
    · unfold kpt at h
      rw [g4 _ _ (by omega) (by omega), m2 _ _ (by omega) (by omega)]
    · unfold scq at h1
      unfold rcl at h2
      rw [g4 _ _ (by omega) (by omega), m2 _ _ (by omega) (fun z => h3 ⟨by omega, by rw [z]; exact ko.2.1⟩)]
    · by_cases z : t = k
      · have y1 : μ4 (μ (X + 1) r + 1) t = n := by rw [g4 _ _ (by omega) (by omega), f2 _ _ (by omega), m1, z, sx_same]
        have y2 : sgM μ4 (X + 34) 2 (40 * r + t) = n := by
          show μ4 (X + 34 + 2) (40 * r + t) = n
          rw [z, m4, sx_same]
        rw [y1, y2]
        exact ⟨rfl, by omega, by omega⟩
      · have y1 : μ4 (μ (X + 1) r + 1) t = μ (μ (X + 1) r + 1) t := by rw [g4 _ _ (by omega) (by omega), f2 _ _ (by omega), m1, sx_oi z]
        rw [y1, M 2 _ (by decide) (by decide) (by omega)]; exact k2 t t0 t1
    · rw [M 3 _ (by decide) (by decide) (by omega), g4 _ _ (by omega) (by omega), m2 _ _ (by omega) (by omega)]; exact k3 j j0 j1
