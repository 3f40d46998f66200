set_option maxHeartbeats 2000000
/-! ===== pair of calls: rack ===== -/
theorem Core.newrack {ε ε' : m_E} {μ μ' : m_M} {X A n w : Int} {ow : Int → Int} (H : Core ε μ X ow (sgM μ (X + 34))) (B : ∀ b, 0 ≤ kd ε b → b < A) (hA : X + 141 < A) (e : EX ε ε') (LR' : LR ε' A) (hn : sgM μ (X + 34) 0 4 = n) (n8 : n < 8) (f0 : fn ε' A 0 = if w = 0 then 1 else 0)
    (f : ∀ b j, b < A → ¬ scq X b j → ¬ (b = X ∧ j = 9) → ¬ (b = X + 1 ∧ j = n) → ¬ (b = X + 34 + 1 ∧ j = n) → ¬ (b = X + 34 + 2 ∧ 40 * n ≤ j ∧ j < 40 * n + 40) → ¬ (b = X + 34 ∧ j = 4) → μ' b j = μ b j)
    (x9 : μ' X 9 = n + 1) (x1 : μ' (X + 1) n = A) (m4 : μ' (X + 34) 4 = n + 1) (m1 : μ' (X + 34 + 1) n = w) (m2 : ∀ k, 0 ≤ k → k < 40 → μ' (X + 34 + 2) (40 * n + k) = -1) (a1 : ∀ k, 0 ≤ k → k < 40 → μ' (A + 1) k = -1) (a2 : ∀ j, μ' (A + 2) j = 0) : Core ε' μ' X (fun b => if A ≤ b ∧ b ≤ A + 2 then 3 * n else ow b) (sgM μ' (X + 34)) := by
  obtain ⟨w', R, C, A', O⟩ := H
  have n0 := R.2.1
  rw [hn] at n0
  have s4 : sgM μ' (X + 34) 0 4 = n + 1 := by show μ' (X + 34 + 0) 4 = n + 1; rw [Int.add_zero]; exact m4
  have s1n : sgM μ' (X + 34) 1 n = w := m1
  have s2n : ∀ k, 0 ≤ k → k < 40 → sgM μ' (X + 34) 2 (40 * n + k) = -1 := m2
  have g0 : ∀ j, (j = 14 ∨ j = 27 ∨ j = 66 ∨ j = 67) → sgM μ' (X + 34) 0 j = sgM μ (X + 34) 0 j := fun j h => f _ _ (by omega) (fun z => by unfold scq at z; omega) (by omega) (by omega) (by omega) (by omega) (by omega)
  have g1 : ∀ o j, ((3 ≤ o ∧ o ≤ 12) ∨ (15 ≤ o ∧ o ≤ 24) ∨ o = 105) → sgM μ' (X + 34) o j = sgM μ (X + 34) o j := fun o j h => f _ _ (by omega) (fun z => by unfold scq at z; omega) (by omega) (by omega) (by omega) (by omega) (by omega)
  have gr : ∀ o j, (o = 1 ∧ j ≠ n) ∨ (o = 2 ∧ ¬ (40 * n ≤ j ∧ j < 40 * n + 40)) → sgM μ' (X + 34) o j = sgM μ (X + 34) o j := fun o j h => f _ _ (by omega) (fun z => by unfold scq at z; omega) (by omega) (by omega) (by omega) (by omega) (by omega)
  have m : ∀ b j, (b = X ∧ j ≠ 9) ∨ (b = X + 1 ∧ j ≠ n) ∨ b = X + 2 ∨ b = X + 3 ∨ (X + 141 < b ∧ b < A) → μ' b j = μ b j := fun b j h => f _ _ (by omega) (fun z => by unfold scq at z; omega) (by omega) (by omega) (by omega) (by omega) (by omega)
  have oo : ∀ b, 0 ≤ kd ε b → (fun b => if A ≤ b ∧ b ≤ A + 2 then 3 * n else ow b) b = ow b := fun b hb => if_neg (by have := B b hb; omega)
  generalize sgM μ (X + 34) = σ at *
  generalize sgM μ' (X + 34) = σ' at *
  clear f m1 m2 m4
  have n14 := g0 14 (by decide)
  have n27 := g0 27 (by decide)
  have n66 := g0 66 (by decide)
  have n67 := g0 67 (by decide)
  have C1 := C.2.1
  have C2 := C.2.2.1
  have A1 := A'.2.1
  have A2 := A'.2.2.1
  have ag : ∀ a, 0 ≤ a → a < σ 0 27 → AGa σ σ' a (σ 0 14) := fun a a0 a1 => (A'.2.2.2 a a0 a1).aga C ⟨g1 _ _ (by decide), fun _ _ _ => g1 _ _ (by decide), g1 _ _ (by decide), g1 _ _ (by decide), fun _ _ _ => g1 _ _ (by decide), g1 _ _ (by decide), g1 _ _ (by decide), fun _ _ _ => ⟨g1 _ _ (by decide), g1 _ _ (by decide), g1 _ _ (by decide), g1 _ _ (by decide), fun _ _ _ => ⟨g1 _ _ (by decide), g1 _ _ (by decide)⟩⟩⟩
  refine ⟨fun b hb => ?_, ⟨by rw [x9, s4], by omega, by omega, fun q q0 q1 => ?_, fun i i0 i1 => ?_⟩, ⟨?_, by omega, by omega, fun s s0 s1 => ?_⟩, ⟨?_, by omega, by omega, fun b a0 a1 => ?_⟩, ?_⟩
  · show (if A ≤ b ∧ b ≤ A + 2 then 3 * n else ow b) = -1
    rw [if_neg (by omega)]; exact w' b hb
  · rw [s4] at q1
    by_cases z : q = n
    · subst z
      rw [x1]
      refine ⟨LR', hA, ⟨if_pos (by omega), if_pos (by omega), if_pos (by omega)⟩, by rw [s1n]; exact f0, fun k k0 k1 => ?_, fun j j0 j1 => ?_⟩
      · rw [a1 k k0 k1, s2n k k0 k1]
        exact ⟨rfl, by decide, by decide⟩
      · rw [a2, g1 3 _ (by decide), R.2.2.2.2 _ (by omega) (by omega)]
    · rw [m (X + 1) q (by omega)]
      have K := R.2.2.2.1 q q0 (by omega)
      have x := K.2.1
      have y1 := B _ (show 0 ≤ kd ε (μ (X + 1) q + 1) by rw [K.1.f1.2.1]; decide)
      have y2 := B _ (show 0 ≤ kd ε (μ (X + 1) q + 2) by rw [K.1.f2.2.1]; decide)
      exact K.go e (fun j => m _ _ (by omega)) (fun j => m _ _ (by omega)) oo (gr _ _ (by omega)) (fun _ _ _ => gr _ _ (by omega)) (fun _ _ _ => g1 _ _ (by decide))
  · rw [s4] at i0
    rw [g1 3 _ (by decide)]
    exact R.2.2.2.2 i (by omega) i1
  · rw [m X 10 (by omega), n14]; exact C.1
  · rw [n14] at s1
    rw [m (X + 2) s (by omega)]
    obtain ⟨k1, k2, k3⟩ := C.2.2.2 s s0 s1
    have x := k3.2.2.2.2.1
    have y1 := B _ (show 0 ≤ kd ε (fn ε (μ (X + 2) s) 1) by rw [k3.1]; decide)
    rw [(e (μ (X + 2) s) (by rw [k2.1]; decide)).2.2 1]
    exact ⟨k1, k2.go e (g1 _ _ (by decide)) (g1 _ _ (by decide)) (g1 _ _ (by decide)) (g1 _ _ (by decide)) ⟨g1 _ _ (by decide), g1 _ _ (by decide)⟩ ⟨g1 _ _ (by decide), g1 _ _ (by decide)⟩, k3.go e (fun j => m _ _ (by omega)) oo (g1 _ _ (by decide)) (fun _ _ _ => ⟨g1 _ _ (by decide), g1 _ _ (by decide)⟩)⟩
  · rw [m X 11 (by omega), n27]; exact A'.1
  · rw [n27] at a1
    rw [m (X + 3) b (by omega)]
    have K' := A'.2.2.2 b a0 a1
    have x := K'.2.1
    have y1 := B _ (show 0 ≤ kd ε (μ (X + 3) b + 10) by rw [K'.1.f10.2.1]; decide)
    exact K'.go (ag b a0 a1) e (fun d j d0 d1 => m _ _ (by omega)) oo (fun s _ _ => m _ _ (by omega)) (by omega) (g1 _ _ (by decide)) (fun _ _ _ => ⟨g1 _ _ (by decide), g1 _ _ (by decide), g1 _ _ (by decide)⟩)
  · unfold ORm at *
    rw [n66, n67, n27]
    refine ⟨fun i i0 i1 => by rw [g1 18 i (by decide)]; exact O.1 i i0 i1, ?_⟩
    rcases O.2 with O | ⟨o1, o2, o3⟩
    · exact Or.inl O
    · have := (ag _ o1 o2).od o3
      have n1 := (A'.2.2.2 _ o1 o2).n
      refine Or.inr ⟨o1, o2, this.1, this.2.congr rfl (fun t _ _ => g1 105 t (by decide)) ?_⟩
      rw [(ag _ o1 o2).1]; exact n1.1
theorem pr_rack {ε : m_E} {μ : m_M} {X w : Int} {codes : Int → Int} (c2 : codes 2 = 1) (c3 : codes 3 = 2) (H : Rel ε μ X) : PAIR (fun ε μ Q Y => o_X10_rack [(2, X), (0, w)] ε μ Q Y) (fun ε μ Q Y => o_X12_rack [(2, X + 34), (0, w)] ε μ Q Y) codes ε μ X := by
  intro QC XC hq hx
  have H' := H
  obtain ⟨ow, R, S, G', J, P, C⟩ := H
  have e4 : sgM μ (X + 34) 0 4 = μ (X + 34) 4 := by unfold sgM; rw [Int.add_zero]
  have R9 := C.2.1.1
  have R0 := C.2.1.2.1
  have R8 := C.2.1.2.2.1
  apply e_X10_rack
  have thr : ∀ e k, codes e = k → k = 1 ∨ k = 2 → (k = 1 ↔ (w < 0 ∨ 1 < w)) → (k = 2 → μ (X + 34) 4 = 8) → ∀ z : Int, nx ε ≤ z → XC e (enx ε z) μ := fun e k he hk h1 h2 z hz => by
    refine hx e _ _ (by rw [he]; omega) ?_
    rw [he]
    refine aft_thr H' (by omega) EX.nx (fun μ2 Q Y f2 G2 K => ?_)
    have f4 : μ2 (X + 34) 4 = μ (X + 34) 4 := f2 _ _ (by omega)
    apply e_X12_rack
    rw [f4]
    refine fun _ _ => ⟨fun _ _ => G2.1.k, fun t ht => ⟨G2.1.k, fun μ3 m3 => ⟨G2.1.k, ?_⟩⟩⟩
    have et : t = k := by
      rw [ht]
      by_cases y : w < 0
      · rw [if_pos y]; omega
      · rw [if_neg y]
        by_cases y2 : w ≤ 1
        · rw [if_pos y2, if_pos (h2 (by omega))]; omega
        · rw [if_neg y2]; omega
    rw [m3, et, sx_same]
    exact ⟨fun y => by omega, fun _ => K⟩
  intro T _
  have B := fun b (hb : 0 ≤ kd ε b) => (T.1 b hb).2
  have T19 : (w = 0 ∨ w = 1) → G cd_X10_rack QC XC 19 [(0, (2, X)), (1, (0, w))] [] ε μ := fun hw => by
    apply g_X10_rack_19
    rw [R9]
    refine fun _ _ => ⟨S.1.k, fun n8 A ε1 μ1 hA e1 m1 t ht => ?_, fun y => thr 3 2 c3 (by decide) (by omega) (by omega)⟩
    subst hA
    have hX := B (X + 141) (by rw [S.2.2.2.2.2.2.1]; decide)
    have A0 : 0 < nx ε := by have := (T.1 X (by rw [S.1.k]; decide)).1; omega
    have k1 : kd ε1 (nx ε) = 5 := by rw [e1]; show (if nx ε = nx ε then 5 else kd ε (nx ε)) = 5; rw [if_pos rfl]
    have E1 : EX ε ε1 := by rw [e1]; exact ex_al EX.rf B
    refine ⟨k1, sp_X5_init A0 k1 (by rw [e1]; rfl) (by rw [ht]; split <;> omega) E1 B (fun ε' μ' E' LR' f0 g' z1 z2 => ?_)⟩
    apply g_X10_rack_62
    rw [S.1.f0.1]
    have SX := S.ex E'
    generalize hA : nx ε = A at *
    generalize hn : sgM μ (X + 34) 0 4 = n at *
    refine fun _ _ => ⟨SX.1.f0.2.1, by omega, by rw [SX.1.f0.2.2]; omega, Or.inr LR'.k, fun μ2 m2 => ⟨SX.1.k, fun μ3 m3 => ?_⟩⟩
    have q2 : μ2 X 9 = n := by
      rw [m2, sx_oa (by omega), g' _ _ (by omega) (by omega), m1, mnew, if_neg (by omega)]; exact R9
    rw [q2, w32_id (show i32 (n + 1) by unfold i32; omega)] at m3
    have q3 : μ3 X 9 = n + 1 := by rw [m3, sx_same]
    rw [q3, show n + 1 - 1 = n by omega, w32_id (show i32 n by unfold i32; omega)]
    have gC : ∀ b j, b < A → ¬ (b = X ∧ j = 9) → ¬ (b = X + 1 ∧ j = n) → μ3 b j = μ b j := fun b j h h1 h2 => by rw [m3, st, if_neg h1, m2, st, if_neg h2, g' _ _ (by omega) (by omega), m1, mnew, if_neg (by omega)]
    have gA : ∀ b j, A < b → μ3 b j = μ' b j := fun b j h => by rw [m3, sx_oa (by omega), m2, sx_oa (by omega)]
    have x1 : μ3 (X + 1) n = A := by rw [m3, sx_oa (by omega), m2, sx_same]
    clear m1 m2 m3 g'
    refine hq _ _ _ ⟨E', fun b j h => gC _ _ (by omega) (by omega) (by omega), fun μ4 f4 Q Y K2 => ?_⟩
    have LM2 := G'.1.ex E'
    have f44 : μ4 (X + 34) 4 = n := by rw [f4 _ _ (by omega), gC _ _ (by omega) (by omega) (by omega)]; omega
    apply e_X12_rack
    rw [f44]
    refine fun _ _ => ⟨fun _ _ => LM2.k, fun t' ht' => ⟨LM2.k, fun μ5 m5 => ⟨LM2.k, ?_⟩⟩⟩
    have et : t' = 0 := by rw [ht', if_neg (by omega), if_pos (by omega), if_neg (by omega)]
    rw [et] at m5
    have z5 : μ5 (X + 34) 0 = 0 := by rw [m5, sx_same]
    have f54 : μ5 (X + 34) 4 = n := by rw [m5, sx_oi (by decide)]; exact f44
    rw [z5, LM2.f1.1, f54]
    refine ⟨fun _ => ⟨LM2.f1.2.1, by omega, by rw [LM2.f1.2.2]; omega, fun μ6 m6 v2 h2 => ?_⟩, fun y => absurd y (by decide)⟩
    rw [h2]
    refine rack_52 LM2 (r := n) (by rw [m6, sx_oa (by omega)]; exact f54) (by omega) (by omega) (fun μ7 g7 w2 w4 => ?_)
    have q7 : ∀ b j, ¬ (b = X + 34 ∧ (j = 0 ∨ j = 4)) → ¬ (b = X + 34 + 1 ∧ j = n) → ¬ (b = X + 34 + 2 ∧ 40 * n ≤ j ∧ j < 40 * n + 40) → μ7 b j = μ4 b j := fun b j h h1 h2 => by rw [g7 b j h2 (fun z => h ⟨z.1, Or.inr z.2⟩), m6, st, if_neg h1, m5, st, if_neg (fun z => h ⟨z.1, Or.inl z.2⟩)]
    have w1 : μ7 (X + 34 + 1) n = w := by rw [g7 _ _ (by omega) (by omega), m6, sx_same]
    have z7 : μ7 (X + 34) 0 = 0 := by rw [g7 _ _ (by omega) (by omega), m6, sx_oa (by omega)]; exact z5
    clear m5 m6 g7
    refine K2 _ _ (fun c j h => q7 _ _ (by omega) (by omega) (by omega)) (Rel.mk' (ow := fun b => if A ≤ b ∧ b ≤ A + 2 then 3 * n else ow b) S G' J P E' (fun b j h => ?_) (C.newrack B hX E' LR' hn n8 (w := w) (by rw [f0, ht]) (fun b j h0 h1 h2 h3 h4 h5 h6 => ?_) ?_ ?_ w4 w1 w2 (fun k k0 k1 => ?_) (fun j => ?_))) z7 (fun _ => rfl) (fun j => q7 _ _ (by omega) (by omega) (by omega))
    · unfold kpt at h
      rw [q7 _ _ (by omega) (by omega) (by omega), f4 _ _ (by omega), gC _ _ (by omega) (by omega) (by omega)]
    · rw [q7 b j (fun z => z.2.elim (fun y => h1 (Or.inr (Or.inr (Or.inr (Or.inr (Or.inr (Or.inr ⟨z.1, Or.inl y⟩))))))) (fun y => h6 ⟨z.1, y⟩)) h4 h5, f4 b j (fun z => h1 (Or.inr (Or.inl z))), gC b j h0 h2 h3]
    · rw [q7 _ _ (by omega) (by omega) (by omega), f4 _ _ (by omega)]; exact q3
    · rw [q7 _ _ (by omega) (by omega) (by omega), f4 _ _ (by omega)]; exact x1
    · rw [q7 _ _ (by omega) (by omega) (by omega), f4 _ _ (by omega), gA _ _ (by omega)]; exact z1 k k0 k1
    · rw [q7 _ _ (by omega) (by omega) (by omega), f4 _ _ (by omega), gA _ _ (by omega)]; exact z2 j
  exact ⟨fun h => T19 (Or.inl h), fun h => ⟨fun h' => T19 (Or.inr h'), fun h' => thr 2 1 c2 (by decide) (by omega) (by omega)⟩⟩
