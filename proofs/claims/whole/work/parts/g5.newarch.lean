set_option maxHeartbeats 2000000
/-! ===== pair of calls: arch ===== -/
def acn (X n b j : Int) : Prop := ((b = X + 34 + 15 ∨ b = X + 34 + 19 ∨ b = X + 34 + 23 ∨ b = X + 34 + 24) ∧ j = n) ∨ (b = X + 34 + 16 ∧ 10 * n ≤ j ∧ j < 10 * n + 10) ∨ (b = X + 34 + 17 ∧ 2 * n ≤ j ∧ j < 2 * n + 2)
theorem Core.newarch {ε ε' : m_E} {μ μ' : m_M} {X A n v : Int} {ow : Int → Int} (H : Core ε μ X ow (sgM μ (X + 34))) (B : ∀ b, 0 ≤ kd ε b → b < A) (hA : X + 141 < A) (e : EX ε ε') (L' : LA ε' A v) (hn : sgM μ (X + 34) 0 27 = n) (n12 : n < 12)
    (f : ∀ b j, b < A → ¬ scq X b j → ¬ (b = X ∧ j = 11) → ¬ (b = X + 3 ∧ j = n) → ¬ (b = X + 34 ∧ j = 27) → ¬ acn X n b j → μ' b j = μ b j)
    (x11 : μ' X 11 = n + 1) (x3 : μ' (X + 3) n = A) (m27 : μ' (X + 34) 27 = n + 1) (m15 : μ' (X + 34 + 15) n = v) (m16 : ∀ k, 0 ≤ k → k < 10 → μ' (X + 34 + 16) (10 * n + k) = -1) (m17 : μ' (X + 34 + 17) (2 * n) = 0) (m17' : μ' (X + 34 + 17) (2 * n + 1) = 0) (m19 : μ' (X + 34 + 19) n = 0) (m23 : μ' (X + 34 + 23) n = 1) (m24 : μ' (X + 34 + 24) n = 2) (z : ∀ d j, 1 ≤ d → d ≤ 10 → d ≠ 6 → μ' (A + d) j = 0) (z6 : ∀ p, 0 ≤ p → p < v → μ' (A + 6) p = -1) (z0 : ∀ j, j ≠ 14 → j ≠ 15 → μ' A j = 0) (z14 : μ' A 14 = 1) (z15 : μ' A 15 = 2) : Core ε' μ' X (fun b => if A ≤ b ∧ b ≤ A + 10 then 3 * n + 2 else ow b) (sgM μ' (X + 34)) := by
  obtain ⟨w', R, C, A', O⟩ := H
  have n0 := A'.2.1
  rw [hn] at n0
  have s27 : sgM μ' (X + 34) 0 27 = n + 1 := by show μ' (X + 34 + 0) 27 = n + 1; rw [Int.add_zero]; exact m27
  have s15 : sgM μ' (X + 34) 15 n = v := m15
  have s16 : ∀ k, 0 ≤ k → k < 10 → sgM μ' (X + 34) 16 (10 * n + k) = -1 := m16
  have s17 : sgM μ' (X + 34) 17 (2 * n) = 0 := m17
  have s17' : sgM μ' (X + 34) 17 (2 * n + 1) = 0 := m17'
  have s19 : sgM μ' (X + 34) 19 n = 0 := m19
  have s23 : sgM μ' (X + 34) 23 n = 1 := m23
  have s24 : sgM μ' (X + 34) 24 n = 2 := m24
  have g0 : ∀ j, (j = 4 ∨ j = 14 ∨ j = 66 ∨ j = 67) → sgM μ' (X + 34) 0 j = sgM μ (X + 34) 0 j := fun j h => f _ _ (by omega) (fun z => by unfold scq at z; omega) (by omega) (by omega) (by omega) (fun z => by unfold acn at z; omega)
  have g1 : ∀ o j, ((1 ≤ o ∧ o ≤ 12) ∨ o = 18 ∨ o = 20 ∨ o = 21 ∨ o = 22 ∨ o = 105) → sgM μ' (X + 34) o j = sgM μ (X + 34) o j := fun o j h => f _ _ (by omega) (fun z => by unfold scq at z; omega) (by omega) (by omega) (by omega) (fun z => by unfold acn at z; omega)
  have gr : ∀ o j, (((o = 15 ∨ o = 19 ∨ o = 23 ∨ o = 24) ∧ j < n) ∨ (o = 16 ∧ j < 10 * n) ∨ (o = 17 ∧ j < 2 * n)) → sgM μ' (X + 34) o j = sgM μ (X + 34) o j := fun o j h => f _ _ (by omega) (fun z => by unfold scq at z; omega) (by omega) (by omega) (by omega) (fun z => by unfold acn at z; omega)
  have m : ∀ b j, (b = X ∧ j ≠ 11) ∨ (b = X + 3 ∧ j ≠ n) ∨ b = X + 1 ∨ b = X + 2 ∨ (X + 141 < b ∧ b < A) → μ' b j = μ b j := fun b j h => f _ _ (by omega) (fun z => by unfold scq at z; omega) (by omega) (by omega) (by omega) (fun z => by unfold acn at z; omega)
  have oo : ∀ b, 0 ≤ kd ε b → (fun b => if A ≤ b ∧ b ≤ A + 10 then 3 * n + 2 else ow b) b = ow b := fun b hb => if_neg (by have := B b hb; omega)
  generalize sgM μ (X + 34) = σ at *
  generalize sgM μ' (X + 34) = σ' at *
  clear f m15 m16 m17 m17' m19 m23 m24 m27
  have n14 := g0 14 (by decide)
  have n4 := g0 4 (by decide)
  have n66 := g0 66 (by decide)
  have n67 := g0 67 (by decide)
  have C1 := C.2.1
  have C2 := C.2.2.1
  have R1 := R.2.1
  have R2 := R.2.2.1
  have ag : ∀ a, 0 ≤ a → a < n → AGa σ σ' a (σ 0 14) := fun a a0 a1 => (A'.2.2.2 a a0 (by omega)).aga C ⟨gr 15 _ (by omega), fun _ _ _ => gr 16 _ (by omega), gr 17 _ (by omega), gr 17 _ (by omega), fun _ _ _ => g1 _ _ (by decide), gr 23 _ (by omega), gr 24 _ (by omega), fun _ _ _ => ⟨g1 _ _ (by decide), g1 _ _ (by decide), g1 _ _ (by decide), g1 _ _ (by decide), fun _ _ _ => ⟨g1 _ _ (by decide), g1 _ _ (by decide)⟩⟩⟩
  refine ⟨fun b hb => ?_, ⟨?_, by omega, by omega, fun q q0 q1 => ?_, fun i i0 i1 => ?_⟩, ⟨?_, by omega, by omega, fun s s0 s1 => ?_⟩, ⟨by rw [x11, s27], by omega, by omega, fun b a0 a1 => ?_⟩, ?_⟩
  · show (if A ≤ b ∧ b ≤ A + 10 then 3 * n + 2 else ow b) = -1
    rw [if_neg (by omega)]; exact w' b hb
  · rw [m X 9 (by omega), n4]; exact R.1
  · rw [n4] at q1
    rw [m (X + 1) q (by omega)]
    have K := R.2.2.2.1 q q0 (by omega)
    have x := K.2.1
    have y1 := B _ (show 0 ≤ kd ε (μ (X + 1) q + 1) by rw [K.1.f1.2.1]; decide)
    have y2 := B _ (show 0 ≤ kd ε (μ (X + 1) q + 2) by rw [K.1.f2.2.1]; decide)
    exact K.go e (fun j => m _ _ (by omega)) (fun j => m _ _ (by omega)) oo (g1 _ _ (by decide)) (fun _ _ _ => g1 _ _ (by decide)) (fun _ _ _ => g1 _ _ (by decide))
  · rw [n4] at i0
    rw [g1 3 _ (by decide)]
    exact R.2.2.2.2 i i0 i1
  · rw [m X 10 (by omega), n14]; exact C.1
  · rw [n14] at s1
    rw [m (X + 2) s (by omega)]
    obtain ⟨k1, k2, k3⟩ := C.2.2.2 s s0 s1
    have x := k3.2.2.2.2.1
    have y1 := B _ (show 0 ≤ kd ε (fn ε (μ (X + 2) s) 1) by rw [k3.1]; decide)
    rw [(e (μ (X + 2) s) (by rw [k2.1]; decide)).2.2 1]
    exact ⟨k1, k2.go e (g1 _ _ (by decide)) (g1 _ _ (by decide)) (g1 _ _ (by decide)) (g1 _ _ (by decide)) ⟨g1 _ _ (by decide), g1 _ _ (by decide)⟩ ⟨g1 _ _ (by decide), g1 _ _ (by decide)⟩, k3.go e (fun j => m _ _ (by omega)) oo (g1 _ _ (by decide)) (fun _ _ _ => ⟨g1 _ _ (by decide), g1 _ _ (by decide)⟩)⟩
  · rw [s27] at a1
    by_cases y : b = n
    · subst y
      rw [x3]
      have p18 : ∀ i, 0 ≤ i → i < 8 → σ' 18 (8 * b + i) = 0 := fun i i0 i1 => by rw [g1 18 _ (by decide)]; exact O.1 _ (by omega) (by omega)
      have v10 := L'.2.2.2
      refine ⟨by rw [s15]; exact L', hA, fun d d0 d1 => if_pos (by omega), fun p p0 p1 => ?_, fun i i0 i1 => ?_, fun i i0 i1 => ?_, by rw [s17]; exact z0 _ (by decide) (by decide), by rw [s17']; exact z0 _ (by decide) (by decide), by rw [s19]; exact z0 _ (by decide) (by decide), by omega, by omega, fun i i0 i1 => absurd i1 (by omega), by rw [s23]; exact z14, by rw [s24]; exact z15, by omega, by omega, by omega, by omega, Or.inl (z0 _ (by decide) (by decide)), Or.inl (z0 _ (by decide) (by decide))⟩
      · rw [s15] at p1
        rw [s16 p p0 (by omega), z6 p p0 p1]
        exact ⟨rfl, by decide, by omega, fun _ => z 7 _ (by decide) (by decide) (by decide), fun q => absurd q (by decide)⟩
      · rw [z 1 _ (by decide) (by decide) (by decide), z 2 _ (by decide) (by decide) (by decide), p18 i i0 (by omega), show 8 * b + 4 + i = 8 * b + (4 + i) by omega, p18 _ (by omega) (by omega)]
        exact ⟨rfl, rfl⟩
      · rw [p18 i i0 i1]; unfold ab; omega
    · rw [m (X + 3) b (by omega)]
      have K' := A'.2.2.2 b a0 (by omega)
      have x := K'.2.1
      have y1 := B _ (show 0 ≤ kd ε (μ (X + 3) b + 10) by rw [K'.1.f10.2.1]; decide)
      exact K'.go (ag b a0 (by omega)) e (fun d j d0 d1 => m _ _ (by omega)) oo (fun s _ _ => m _ _ (by omega)) (by omega) (gr 19 _ (by omega)) (fun _ _ _ => ⟨g1 _ _ (by decide), g1 _ _ (by decide), g1 _ _ (by decide)⟩)
  · unfold ORm at *
    rw [n66, n67, s27]
    refine ⟨fun i i0 i1 => by rw [g1 18 i (by decide)]; exact O.1 i (by omega) i1, ?_⟩
    rcases O.2 with O | ⟨o1, o2, o3⟩
    · exact Or.inl O
    · have A2 := ag _ o1 (by omega)
      have := A2.od o3
      have n1 := (A'.2.2.2 _ o1 o2).n
      refine Or.inr ⟨o1, by omega, this.1, this.2.congr rfl (fun t _ _ => g1 105 t (by decide)) ?_⟩
      rw [A2.1]; exact n1.1
theorem arch_56 {Q Y : m_Po} {ε : m_E} {μ : m_M} {X r : Int} (L : LM ε (X + 34)) (hr : μ (X + 34) 27 = r) (r0 : 0 ≤ r) (r1 : r < 12) (hh : ∀ μ' : m_M, (∀ b j, ¬ (b = X + 34 ∧ j = 27) → (¬ acn X r b j ∨ b = X + 34 + 15) → μ' b j = μ b j) → (∀ k, 0 ≤ k → k < 10 → μ' (X + 34 + 16) (10 * r + k) = -1) → μ' (X + 34 + 17) (2 * r) = 0 → μ' (X + 34 + 17) (2 * r + 1) = 0 → μ' (X + 34 + 19) r = 0 → μ' (X + 34 + 23) r = 1 → μ' (X + 34 + 24) r = 2 → μ' (X + 34) 27 = r + 1 → Q r ε μ') : G cd_X12_arch Q Y 56 [(0, (2, X + 34)), (2, (0, r)), (3, (0, 0))] [] ε μ := by
  have O : ∀ (d : Nat) (i : Int) (μ1 : m_M), 0 ≤ i → i + d = 10 → (∀ b j, ¬ (b = X + 34 + 16 ∧ 10 * r ≤ j ∧ j < 10 * r + 10) → μ1 b j = μ b j) → (∀ k, 0 ≤ k → k < i → μ1 (X + 34 + 16) (10 * r + k) = -1) → G cd_X12_arch Q Y 56 [(0, (2, X + 34)), (2, (0, r)), (3, (0, i))] [] ε μ1 := by
    intro d
    induction d with
    | zero =>
      intro i μ1 i0 hi g1 z1
      apply g_X12_arch_56
      rw [L.f19.1, L.f21.1, L.f25.1, L.f26.1, w32_id (show i32 (2 * r) by unfold i32; omega), w32_id (show i32 (2 * r + 1) by unfold i32; omega)]
      refine fun _ _ _ => ⟨fun _ => ⟨L.k, L.f19.2.1, by omega, by rw [L.f19.2.2]; omega, fun μ2 m2 => ⟨by omega, by rw [L.f19.2.2]; omega, fun μ3 m3 => ⟨L.f21.2.1, by omega, by rw [L.f21.2.2]; omega, fun μ4 m4 => ⟨L.f25.2.1, by rw [L.f25.2.2]; omega, fun μ5 m5 => ⟨L.f26.2.1, by omega, by rw [L.f26.2.2]; omega, fun μ6 m6 => ⟨L.k, fun μ7 m7 => ?_⟩⟩⟩⟩⟩⟩, fun q => absurd q (by omega)⟩
      have e4 : μ6 (X + 34) 27 = r := by rw [m6, sx_oa (by omega), m5, sx_oa (by omega), m4, sx_oa (by omega), m3, sx_oa (by omega), m2, sx_oa (by omega), g1 _ _ (by omega)]; exact hr
      rw [e4, w32_id (show i32 (r + 1) by unfold i32; omega)] at m7
      refine hh μ7 (fun b j h h' => ?_) (fun k k0 k1 => ?_) ?_ ?_ ?_ ?_ ?_ (by rw [m7, sx_same])
      · have q : ¬ (b = X + 34 + 17 ∧ 2 * r ≤ j ∧ j < 2 * r + 2) ∧ ¬ ((b = X + 34 + 19 ∨ b = X + 34 + 23 ∨ b = X + 34 + 24) ∧ j = r) ∧ ¬ (b = X + 34 + 16 ∧ 10 * r ≤ j ∧ j < 10 * r + 10) := by
          rcases h' with h' | h'
          · exact ⟨fun y => h' (Or.inr (Or.inr y)), fun y => h' (Or.inl ⟨Or.inr y.1, y.2⟩), fun y => h' (Or.inr (Or.inl y))⟩
          · exact ⟨by omega, by omega, by omega⟩
        obtain ⟨q1, q2, q3⟩ := q
        clear h'
        rw [m7, st, if_neg h, m6, st, if_neg (by omega), m5, st, if_neg (by omega), m4, st, if_neg (by omega), m3, st, if_neg (by omega), m2, st, if_neg (by omega)]
        exact g1 b j q3
      · rw [m7, sx_oa (by omega), m6, sx_oa (by omega), m5, sx_oa (by omega), m4, sx_oa (by omega), m3, sx_oa (by omega), m2, sx_oa (by omega)]
        exact z1 k k0 (by omega)
      · rw [m7, sx_oa (by omega), m6, sx_oa (by omega), m5, sx_oa (by omega), m4, sx_oa (by omega), m3, sx_oi (by omega), m2, sx_same]
      · rw [m7, sx_oa (by omega), m6, sx_oa (by omega), m5, sx_oa (by omega), m4, sx_oa (by omega), m3, sx_same]
      · rw [m7, sx_oa (by omega), m6, sx_oa (by omega), m5, sx_oa (by omega), m4, sx_same]
      · rw [m7, sx_oa (by omega), m6, sx_oa (by omega), m5, sx_same]
      · rw [m7, sx_oa (by omega), m6, sx_same]
    | succ d ih =>
      intro i μ1 i0 hi g1 z1
      apply g_X12_arch_56
      rw [L.f18.1, w32_id (show i32 (10 * r) by unfold i32; omega), w32_id (show i32 (10 * r + i) by unfold i32; omega)]
      refine fun _ _ _ => ⟨fun q => absurd q (by omega), fun _ => ⟨L.k, L.f18.2.1, by omega, by rw [L.f18.2.2]; omega, fun μ2 m2 v h => ?_⟩⟩
      rw [w32_id (show i32 (i + 1) by unfold i32; omega)] at h
      rw [h]
      refine ih (i + 1) μ2 (by omega) (by omega) (fun b j h1 => by rw [m2, st, if_neg (fun z => h1 ⟨z.1, by omega, by omega⟩)]; exact g1 b j h1) (fun k k0 k1 => ?_)
      rw [m2]
      by_cases z : k = i
      · rw [z, sx_same]
      · rw [sx_oi (by omega)]; exact z1 k k0 (by omega)
  exact O 10 0 μ (by decide) (by omega) (fun _ _ _ => rfl) (fun k k0 k1 => absurd k1 (by omega))
theorem pr_arch {ε : m_E} {μ : m_M} {X w : Int} {codes : Int → Int} (c2 : codes 2 = 1) (c3 : codes 3 = 2) (H : Rel ε μ X) : PAIR (fun ε μ Q Y => o_X10_arch [(2, X), (0, w)] ε μ Q Y) (fun ε μ Q Y => o_X12_arch [(2, X + 34), (0, w)] ε μ Q Y) codes ε μ X := by
  intro QC XC hq hx
  have H' := H
  obtain ⟨ow, R, S, G', J, P, C⟩ := H
  have e4 : sgM μ (X + 34) 0 27 = μ (X + 34) 27 := by unfold sgM; rw [Int.add_zero]
  have R9 := C.2.2.2.1.1
  have R0 := C.2.2.2.1.2.1
  have R8 := C.2.2.2.1.2.2.1
  apply e_X10_arch
  have thr : ∀ e k, codes e = k → k = 1 ∨ k = 2 → (k = 1 ↔ (w < 1 ∨ 10 < w)) → (k = 2 → μ (X + 34) 27 = 12) → ∀ z : Int, nx ε ≤ z → XC e (enx ε z) μ := fun e k he hk h1 h2 z hz => by
    refine hx e _ _ (by rw [he]; omega) ?_
    rw [he]
    refine aft_thr H' (by omega) EX.nx (fun μ2 Q Y f2 G2 K => ?_)
    have f4 : μ2 (X + 34) 27 = μ (X + 34) 27 := f2 _ _ (by omega)
    apply e_X12_arch
    rw [f4]
    refine fun _ _ => ⟨fun _ _ => G2.1.k, fun t ht => ⟨G2.1.k, fun μ3 m3 => ⟨G2.1.k, ?_⟩⟩⟩
    have et : t = k := by
      rw [ht]
      by_cases y : w < 1
      · rw [if_pos y]; omega
      · rw [if_neg y]
        by_cases y2 : w ≤ 10
        · rw [if_pos y2, if_pos (h2 (by omega))]; omega
        · rw [if_neg y2]; omega
    rw [m3, et, sx_same]
    exact ⟨fun y => by omega, fun _ => K⟩
  intro T _
  have B := fun b (hb : 0 ≤ kd ε b) => (T.1 b hb).2
  refine ⟨fun y => thr 2 1 c2 (by decide) (by omega) (by omega), fun w0 => ⟨fun w1 => ⟨S.1.k, ?_⟩, fun y => thr 2 1 c2 (by decide) (by omega) (by omega)⟩⟩
  rw [R9]
  refine ⟨fun n8 A ε1 μ1 hA e1 m1 => ?_, fun y => thr 3 2 c3 (by decide) (by omega) (by omega)⟩
  subst hA
  have hX := B (X + 141) (by rw [S.2.2.2.2.2.2.1]; decide)
  have A0 : 0 < nx ε := by have := (T.1 X (by rw [S.1.k]; decide)).1; omega
  have k1 : kd ε1 (nx ε) = 0 := by rw [e1]; show (if nx ε = nx ε then 0 else kd ε (nx ε)) = 0; rw [if_pos rfl]
  have E1 : EX ε ε1 := by rw [e1]; exact ex_al EX.rf B
  have T0 : Tb ε1 (nx ε) 1 [(0, 0, 0)] [] := by
    refine ⟨by rw [e1]; rfl, by decide, fun q hq => ?_, fun q hq => absurd hq (List.not_mem_nil)⟩
    rw [List.mem_singleton] at hq
    subst hq
    refine ⟨by decide, by decide, ?_, ?_⟩
    · show kd ε1 (nx ε + 0) = 0
      rw [Int.add_zero]; exact k1
    · show ln ε1 (nx ε + 0) = 0
      rw [Int.add_zero, e1]; show (if nx ε = nx ε then 0 else ln ε (nx ε)) = 0; rw [if_pos rfl]
  refine ⟨k1, sp_X0_init A0 T0 w0 w1 E1 B (fun ε' μ' E' L' g' ga z14 z15 zz z6 => ?_)⟩
  apply g_X10_arch_56
  rw [S.1.f2.1]
  have SX := S.ex E'
  generalize hA : nx ε = A at *
  generalize hn : sgM μ (X + 34) 0 27 = n at *
  refine fun _ _ => ⟨SX.1.f2.2.1, by omega, by rw [SX.1.f2.2.2]; omega, Or.inr L'.k, fun μ2 m2 => ⟨SX.1.k, fun μ3 m3 => ?_⟩⟩
  have q2 : μ2 X 11 = n := by
    rw [m2, sx_oa (by omega), g' _ _ (by omega), m1, mnew, if_neg (by omega)]; exact R9
  rw [q2, w32_id (show i32 (n + 1) by unfold i32; omega)] at m3
  have q3 : μ3 X 11 = n + 1 := by rw [m3, sx_same]
  rw [q3, show n + 1 - 1 = n by omega, w32_id (show i32 n by unfold i32; omega)]
  have gC : ∀ b j, b < A → ¬ (b = X ∧ j = 11) → ¬ (b = X + 3 ∧ j = n) → μ3 b j = μ b j := fun b j h h1 h2 => by rw [m3, st, if_neg h1, m2, st, if_neg h2, g' _ _ (by omega), m1, mnew, if_neg (by omega)]
  have gA : ∀ b j, A ≤ b → μ3 b j = μ' b j := fun b j h => by rw [m3, sx_oa (by omega), m2, sx_oa (by omega)]
  have x1 : μ3 (X + 3) n = A := by rw [m3, sx_oa (by omega), m2, sx_same]
  have zA : ∀ j, j ≠ 14 → j ≠ 15 → μ' A j = 0 := fun j h h' => by rw [ga j h h', m1, mnew, if_pos rfl]
  clear m1 m2 m3 g' ga
  refine hq _ _ _ ⟨E', fun b j h => gC _ _ (by omega) (by omega) (by omega), fun μ4 f4 Q Y K2 => ?_⟩
  have LM2 := G'.1.ex E'
  have f44 : μ4 (X + 34) 27 = n := by rw [f4 _ _ (by omega), gC _ _ (by omega) (by omega) (by omega)]; omega
  apply e_X12_arch
  rw [f44]
  refine fun _ _ => ⟨fun _ _ => LM2.k, fun t' ht' => ⟨LM2.k, fun μ5 m5 => ⟨LM2.k, ?_⟩⟩⟩
  have et : t' = 0 := by rw [ht', if_neg (by omega), if_pos (by omega), if_neg (by omega)]
  rw [et] at m5
  have z5 : μ5 (X + 34) 0 = 0 := by rw [m5, sx_same]
  have f54 : μ5 (X + 34) 27 = n := by rw [m5, sx_oi (by decide)]; exact f44
  rw [z5, LM2.f17.1, f54]
  refine ⟨fun _ v2 hv2 => ?_, fun y => absurd y (by decide)⟩
  subst hv2
  refine ⟨LM2.f17.2.1, by omega, by rw [LM2.f17.2.2]; omega, fun μ6 m6 v3 h3 => ?_⟩
  rw [h3]
  refine arch_56 LM2 (r := v2) (by rw [m6, sx_oa (by omega)]; exact f54) (by omega) (by omega) (fun μ7 g7 w16 w17 w17' w19 w23 w24 w27 => ?_)
  have w1' : μ7 (X + 34 + 15) v2 = w := by rw [g7 _ _ (by omega) (Or.inr rfl), m6, sx_same]
  have z7 : μ7 (X + 34) 0 = 0 := by rw [g7 _ _ (by omega) (Or.inl (fun z => by unfold acn at z; omega)), m6, sx_oa (by omega)]; exact z5
  have q7 : ∀ b j, ¬ (b = X + 34 ∧ (j = 0 ∨ j = 27)) → ¬ acn X v2 b j → μ7 b j = μ4 b j := fun b j h h1 => by rw [g7 b j (fun z => h ⟨z.1, Or.inr z.2⟩) (Or.inl h1), m6, st, if_neg (fun z => h1 (Or.inl ⟨Or.inl z.1, z.2⟩)), m5, st, if_neg (fun z => h ⟨z.1, Or.inl z.2⟩)]
  clear m5 m6 g7
  have na : ∀ b j, b < X + 34 + 15 ∨ X + 34 + 24 < b → ¬ acn X v2 b j := fun b j h z => by unfold acn at z; omega
  have q8 : ∀ b j, ¬ (b = X + 34 ∧ (j = 0 ∨ j = 27)) → (b < X + 34 + 15 ∨ X + 34 + 24 < b) → μ7 b j = μ4 b j := fun b j h h1 => q7 b j h (na b j h1)
  refine K2 _ _ (fun c j h => q8 _ _ (by omega) (by omega)) (Rel.mk' (ow := fun b => if A ≤ b ∧ b ≤ A + 10 then 3 * v2 + 2 else ow b) S G' J P E' (fun b j h => ?_) (C.newarch B hX E' L' hn n8 (fun b j h0 h1 h2 h3 h4 h5 => ?_) ?_ ?_ w27 w1' w16 w17 w17' w19 w23 w24 (fun d j d0 d1 d6 => ?_) (fun p p0 p1 => ?_) (fun j j0 j1 => ?_) ?_ ?_)) z7 (fun _ => rfl) (fun j => q8 _ _ (by omega) (by omega))
  · unfold kpt at h
    rw [q8 _ _ (by omega) (by omega), f4 _ _ (by omega), gC _ _ (by omega) (by omega) (by omega)]
  · rw [q7 b j (fun z => z.2.elim (fun y => h1 (Or.inr (Or.inr (Or.inr (Or.inr (Or.inr (Or.inr ⟨z.1, Or.inl y⟩))))))) (fun y => h4 ⟨z.1, y⟩)) h5, f4 b j (fun z => h1 (Or.inr (Or.inl z))), gC b j h0 h2 h3]
  · rw [q8 _ _ (by omega) (by omega), f4 _ _ (by omega)]; exact q3
  · rw [q8 _ _ (by omega) (by omega), f4 _ _ (by omega)]; exact x1
  · rw [q8 _ _ (by omega) (by omega), f4 _ _ (by omega), gA _ _ (by omega)]; exact zz d j d0 d1 d6
  · rw [q8 _ _ (by omega) (by omega), f4 _ _ (by omega), gA _ _ (by omega)]; exact z6 p p0 p1
  · rw [q8 _ _ (by omega) (by omega), f4 _ _ (by omega), gA _ _ (by omega)]; exact zA j j0 j1
  · rw [q8 _ _ (by omega) (by omega), f4 _ _ (by omega), gA _ _ (by omega)]; exact z14
  · rw [q8 _ _ (by omega) (by omega), f4 _ _ (by omega), gA _ _ (by omega)]; exact z15
