set_option maxHeartbeats 2000000
/-! ===== a stone is told, or is not ===== -/
/-- the reference's cells of stone n -/
def stc (X n b j : Int) : Prop := ((b = X + 34 + 4 ∨ b = X + 34 + 5 ∨ b = X + 34 + 8 ∨ b = X + 34 + 9 ∨ b = X + 34 + 10) ∧ j = n) ∨ ((b = X + 34 + 6 ∨ b = X + 34 + 7) ∧ 12 * n ≤ j ∧ j < 12 * n + 12) ∨ ((b = X + 34 + 11 ∨ b = X + 34 + 12) ∧ 2 * n ≤ j ∧ j < 2 * n + 2)
theorem Core.newstone {ε ε' : m_E} {μ μ' : m_M} {X A n m : Int} {ow : Int → Int} (H : Core ε μ X ow (sgM μ (X + 34))) (B : ∀ b, 0 ≤ kd ε b → b < A) (hA : X + 141 < A) (e : EX ε ε') (hn : sgM μ (X + 34) 0 14 = n) (nm : n ≤ m) (m120 : m ≤ 120)
    (f : ∀ b j, b < A → ¬ scq X b j → ¬ (b = X ∧ j = 10) → ¬ (b = X + 2 ∧ j = n) → ¬ (b = X + 34 ∧ j = 14) → ¬ stc X n b j → μ' b j = μ b j)
    (x10 : μ' X 10 = m) (m14 : μ' (X + 34) 14 = m) (m1 : m ≤ n + 1)
    (K : n < m → 0 < μ' (X + 2) n ∧ SN ε' (sgM μ' (X + 34)) n (μ' (X + 2) n) ∧ SCr ε' μ' X (fun b => if b = A then 3 * n + 1 else ow b) (sgM μ' (X + 34)) n (fn ε' (μ' (X + 2) n) 1)) : Core ε' μ' X (fun b => if b = A then 3 * n + 1 else ow b) (sgM μ' (X + 34)) := by
  obtain ⟨w', R, C, A', O⟩ := H
  have n0 := C.2.1
  rw [hn] at n0
  have s14 : sgM μ' (X + 34) 0 14 = m := by show μ' (X + 34 + 0) 14 = m; rw [Int.add_zero]; exact m14
  have g0 : ∀ j, (j = 4 ∨ j = 27 ∨ j = 66 ∨ j = 67) → sgM μ' (X + 34) 0 j = sgM μ (X + 34) 0 j := fun j h => f _ _ (by omega) (fun z => by unfold scq at z; omega) (by omega) (by omega) (by omega) (fun z => by unfold stc at z; omega)
  have g1 : ∀ o j, ((1 ≤ o ∧ o ≤ 3) ∨ (15 ≤ o ∧ o ≤ 24) ∨ o = 105) → sgM μ' (X + 34) o j = sgM μ (X + 34) o j := fun o j h => f _ _ (by omega) (fun z => by unfold scq at z; omega) (by omega) (by omega) (by omega) (fun z => by unfold stc at z; omega)
  have gr : ∀ o j, (((o = 4 ∨ o = 5 ∨ o = 8 ∨ o = 9 ∨ o = 10) ∧ j < n) ∨ ((o = 6 ∨ o = 7) ∧ j < 12 * n) ∨ ((o = 11 ∨ o = 12) ∧ j < 2 * n)) → sgM μ' (X + 34) o j = sgM μ (X + 34) o j := fun o j h => f _ _ (by omega) (fun z => by unfold scq at z; omega) (by omega) (by omega) (by omega) (fun z => by unfold stc at z; omega)
  have mm : ∀ b j, (b = X ∧ j ≠ 10) ∨ (b = X + 2 ∧ j ≠ n) ∨ b = X + 1 ∨ b = X + 3 ∨ (X + 141 < b ∧ b < A) → μ' b j = μ b j := fun b j h => f _ _ (by omega) (fun z => by unfold scq at z; omega) (by omega) (by omega) (by omega) (fun z => by unfold stc at z; omega)
  have oo : ∀ b, 0 ≤ kd ε b → (fun b => if b = A then 3 * n + 1 else ow b) b = ow b := fun b hb => if_neg (by have := B b hb; omega)
  generalize sgM μ (X + 34) = σ at *
  generalize sgM μ' (X + 34) = σ' at *
  clear f m14
  have n4 := g0 4 (by decide)
  have n27 := g0 27 (by decide)
  have n66 := g0 66 (by decide)
  have n67 := g0 67 (by decide)
  have R1 := R.2.1
  have R2 := R.2.2.1
  have A1 := A'.2.1
  have A2 := A'.2.2.1
  have ag : ∀ a, 0 ≤ a → a < σ 0 27 → AGa σ σ' a (σ 0 14) := fun a a0 a1 => (A'.2.2.2 a a0 a1).aga C ⟨g1 15 _ (by decide), fun _ _ _ => g1 16 _ (by decide), g1 17 _ (by decide), g1 17 _ (by decide), fun _ _ _ => g1 18 _ (by decide), g1 23 _ (by decide), g1 24 _ (by decide), fun s s0 s1 => ⟨gr 4 _ (by omega), gr 5 _ (by omega), gr 9 _ (by omega), gr 10 _ (by omega), fun i i0 i1 => ⟨gr 6 _ (by omega), gr 7 _ (by omega)⟩⟩⟩
  refine ⟨fun b hb => ?_, ⟨?_, by omega, by omega, fun q q0 q1 => ?_, fun i i0 i1 => ?_⟩, ⟨by rw [x10, s14], by omega, by omega, fun s s0 s1 => ?_⟩, ⟨?_, by omega, by omega, fun b a0 a1 => ?_⟩, ?_⟩
  · show (if b = A then 3 * n + 1 else ow b) = -1
    rw [if_neg (by omega)]; exact w' b hb
  · rw [mm X 9 (by omega), n4]; exact R.1
  · rw [n4] at q1
    rw [mm (X + 1) q (by omega)]
    have K' := R.2.2.2.1 q q0 (by omega)
    have x := K'.2.1
    have y1 := B _ (show 0 ≤ kd ε (μ (X + 1) q + 1) by rw [K'.1.f1.2.1]; decide)
    have y2 := B _ (show 0 ≤ kd ε (μ (X + 1) q + 2) by rw [K'.1.f2.2.1]; decide)
    exact K'.go e (fun j => mm _ _ (by omega)) (fun j => mm _ _ (by omega)) oo (g1 _ _ (by decide)) (fun _ _ _ => g1 _ _ (by decide)) (fun _ _ _ => g1 _ _ (by decide))
  · rw [n4] at i0
    rw [g1 3 _ (by decide)]
    exact R.2.2.2.2 i i0 i1
  · rw [s14] at s1
    by_cases y : s = n
    · rw [y]; exact K (by omega)
    · rw [mm (X + 2) s (by omega)]
      obtain ⟨k1, k2, k3⟩ := C.2.2.2 s s0 (by omega)
      have x := k3.2.2.2.2.1
      have y1 := B _ (show 0 ≤ kd ε (fn ε (μ (X + 2) s) 1) by rw [k3.1]; decide)
      rw [(e (μ (X + 2) s) (by rw [k2.1]; decide)).2.2 1]
      exact ⟨k1, k2.go e (gr 4 _ (by omega)) (gr 8 _ (by omega)) (gr 9 _ (by omega)) (gr 10 _ (by omega)) ⟨gr 11 _ (by omega), gr 11 _ (by omega)⟩ ⟨gr 12 _ (by omega), gr 12 _ (by omega)⟩, k3.go e (fun j => mm _ _ (by omega)) oo (gr 5 _ (by omega)) (fun _ _ _ => ⟨gr 6 _ (by omega), gr 7 _ (by omega)⟩)⟩
  · rw [mm X 11 (by omega), n27]; exact A'.1
  · rw [n27] at a1
    rw [mm (X + 3) b (by omega)]
    have K' := A'.2.2.2 b a0 a1
    have x := K'.2.1
    have y1 := B _ (show 0 ≤ kd ε (μ (X + 3) b + 10) by rw [K'.1.f10.2.1]; decide)
    exact K'.go (ag b a0 a1) e (fun d j d0 d1 => mm _ _ (by omega)) oo (fun s s0 s1 => mm _ _ (by omega)) (by omega) (g1 19 _ (by decide)) (fun _ _ _ => ⟨g1 20 _ (by decide), g1 21 _ (by decide), g1 22 _ (by decide)⟩)
  · unfold ORm at *
    rw [n66, n67, n27]
    refine ⟨fun i i0 i1 => by rw [g1 18 i (by decide)]; exact O.1 i i0 i1, ?_⟩
    rcases O.2 with O | ⟨o1, o2, o3⟩
    · exact Or.inl O
    · have := (ag _ o1 o2).od o3
      have n1 := (A'.2.2.2 _ o1 o2).n
      refine Or.inr ⟨o1, o2, this.1, this.2.congr rfl (fun t _ _ => g1 105 t (by decide)) ?_⟩
      rw [(ag _ o1 o2).1]; exact n1.1
/-- the stone's number of weight and spot -/
theorem spot_ab {kind part A x : Int} (p0 : 0 ≤ part) (p1 : part ≤ 99) (A1 : 1 ≤ A) (A2 : A ≤ 240000) (bx : ab x 48000000) : (0 ≤ wtw kind part A ∧ wtw kind part A ≤ 660000) ∧ ab (wtw kind part A * Int.tdiv (10 * x) (3 * A)) 440000000 := by
  have h1 := wtw_rng (kind := kind) p0 p1 (show 0 ≤ A by omega) A2
  have h2 := fwt_rng (kind := kind) (show 0 ≤ A by omega) A2
  have h3 := fwt_4 (kind := kind) (show 0 ≤ A by omega)
  refine ⟨⟨h1.1, by omega⟩, ?_⟩
  generalize wtw kind part A = W at *
  generalize fwt kind A = F at *
  have bx' : -48000000 ≤ x ∧ x ≤ 48000000 := bx
  have key : ∀ s : Int, 0 ≤ s → 3 * A * s ≤ 480000000 → W * s ≤ 440000000 := fun s s0 hs => by
    have a1 := Int.mul_le_mul_of_nonneg_right (show 4 * W ≤ 11 * A by omega) s0
    rw [Int.mul_assoc, Int.mul_assoc] at a1
    rw [Int.mul_assoc] at hs
    omega
  rcases Int.lt_or_le x 0 with z | z
  · have e : Int.tdiv (10 * x) (3 * A) = -(Int.tdiv (10 * -x) (3 * A)) := by rw [show 10 * -x = -(10 * x) by omega, Int.neg_tdiv, Int.neg_neg]
    have n0 := Int.tdiv_nonneg (show 0 ≤ 10 * -x by omega) (show 0 ≤ 3 * A by omega)
    have le : 3 * A * Int.tdiv (10 * -x) (3 * A) ≤ 10 * -x := by
      rw [Int.tdiv_eq_ediv_of_nonneg (by omega)]; exact Int.mul_ediv_self_le (by omega)
    have k := key _ n0 (by omega)
    have k0 := Int.mul_nonneg h1.1 n0
    rw [e, Int.mul_neg]
    unfold ab
    omega
  · have n0 := Int.tdiv_nonneg (show 0 ≤ 10 * x by omega) (show 0 ≤ 3 * A by omega)
    have le : 3 * A * Int.tdiv (10 * x) (3 * A) ≤ 10 * x := by
      rw [Int.tdiv_eq_ediv_of_nonneg (by omega)]; exact Int.mul_ediv_self_le (by omega)
    have k := key _ n0 (by omega)
    have k0 := Int.mul_nonneg h1.1 n0
    unfold ab
    omega
theorem mid_ex {x l : Int} (l1 : 1 ≤ l) (l2 : l ≤ 720000) : ∃ p q : Int, Mid x l p q := by
  obtain ⟨g, p, q, h1, h2, h3, h4, h5, h6⟩ := gcd_fac (x := x) l1 l2
  exact ⟨p, q, g, h2, h1, h4, h5⟩
