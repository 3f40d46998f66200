set_option maxHeartbeats 1000000
/-! ===== pairs of calls: octet, count, bound, weigh, number ===== -/
theorem EX.nx {ε : m_E} {z : Int} : EX ε (enx ε z) := fun _ _ => ⟨rfl, rfl, fun _ => rfl⟩
def scq (X b j : Int) : Prop := (X + 4 ≤ b ∧ b ≤ X + 33) ∨ b = X + 141 ∨ (X + 34 + 25 ≤ b ∧ b ≤ X + 34 + 104) ∨ b = X + 34 + 106 ∨ b = X + 34 + 13 ∨ b = X + 34 + 14 ∨ (b = X + 34 ∧ (j = 0 ∨ (28 ≤ j ∧ j ≤ 63)))
theorem Core.scr {ε ε' : m_E} {μ μ' : m_M} {X : Int} {ow : Int → Int} (H : Core ε μ X ow (sgM μ (X + 34))) (e : EX ε ε') (f : ∀ b j, ¬ scq X b j → μ' b j = μ b j) : Core ε' μ' X ow (sgM μ' (X + 34)) := by
  obtain ⟨w, R, C, A, O⟩ := H
  have sg : ∀ o j, (1 ≤ o ∧ o ≤ 12) ∨ (15 ≤ o ∧ o ≤ 24) ∨ o = 105 ∨ (o = 0 ∧ (j = 4 ∨ j = 14 ∨ j = 27 ∨ j = 66 ∨ j = 67)) → sgM μ' (X + 34) o j = sgM μ (X + 34) o j := fun o j h => f _ _ (fun z => by unfold scq at z; omega)
  have g0 : ∀ j, (j = 4 ∨ j = 14 ∨ j = 27 ∨ j = 66 ∨ j = 67) → sgM μ' (X + 34) 0 j = sgM μ (X + 34) 0 j := fun j h => sg 0 j (by omega)
  have g1 : ∀ o j, (1 ≤ o ∧ o ≤ 12) ∨ (15 ≤ o ∧ o ≤ 24) ∨ o = 105 → sgM μ' (X + 34) o j = sgM μ (X + 34) o j := fun o j h => sg o j (by omega)
  have m : ∀ b j, b = X ∨ b = X + 1 ∨ b = X + 2 ∨ b = X + 3 ∨ X + 141 < b → μ' b j = μ b j := fun b j h => f _ _ (fun z => by unfold scq at z; omega)
  generalize sgM μ (X + 34) = σ at *
  generalize sgM μ' (X + 34) = σ' at *
  have n4 := g0 4 (by decide)
  have n14 := g0 14 (by decide)
  have n27 := g0 27 (by decide)
  have n66 := g0 66 (by decide)
  have n67 := g0 67 (by decide)
  have ag : ∀ a, 0 ≤ a → a < σ 0 27 → AGa σ σ' a (σ 0 14) := fun a a0 a1 => (A.2.2.2 a a0 a1).aga C ⟨g1 _ _ (by decide), fun _ _ _ => g1 _ _ (by decide), g1 _ _ (by decide), g1 _ _ (by decide), fun _ _ _ => g1 _ _ (by decide), g1 _ _ (by decide), g1 _ _ (by decide), fun _ _ _ => ⟨g1 _ _ (by decide), g1 _ _ (by decide), g1 _ _ (by decide), g1 _ _ (by decide), fun _ _ _ => ⟨g1 _ _ (by decide), g1 _ _ (by decide)⟩⟩⟩
  have R1 := R.2.1
  have R2 := R.2.2.1
  have C1 := C.2.1
  have C2 := C.2.2.1
  have A1 := A.2.1
  have A2 := A.2.2.1
  refine ⟨w, ⟨?_, by omega, by omega, fun r r0 r1 => ?_, fun i i0 i1 => ?_⟩, ⟨?_, by omega, by omega, fun s s0 s1 => ?_⟩, ⟨?_, by omega, by omega, fun a a0 a1 => ?_⟩, ?_⟩
  · rw [m X 9 (by omega), n4]; exact R.1
  · rw [n4] at r1
    rw [m (X + 1) r (by omega)]
    have K := R.2.2.2.1 r r0 r1
    have x := K.2.1
    exact K.go e (fun j => m _ _ (by omega)) (fun j => m _ _ (by omega)) (fun _ _ => rfl) (g1 _ _ (by decide)) (fun _ _ _ => g1 _ _ (by decide)) (fun _ _ _ => g1 _ _ (by decide))
  · rw [n4] at i0
    rw [g1 3 _ (by decide)]
    exact R.2.2.2.2 i i0 i1
  · rw [m X 10 (by omega), n14]; exact C.1
  · rw [n14] at s1
    rw [m (X + 2) s (by omega)]
    obtain ⟨k1, k2, k3⟩ := C.2.2.2 s s0 s1
    have x := k3.2.2.2.2.1
    rw [(e (μ (X + 2) s) (by rw [k2.1]; decide)).2.2 1]
    exact ⟨k1, k2.go e (g1 _ _ (by decide)) (g1 _ _ (by decide)) (g1 _ _ (by decide)) (g1 _ _ (by decide)) ⟨g1 _ _ (by decide), g1 _ _ (by decide)⟩ ⟨g1 _ _ (by decide), g1 _ _ (by decide)⟩, k3.go e (fun j => m _ _ (by omega)) (fun _ _ => rfl) (g1 _ _ (by decide)) (fun _ _ _ => ⟨g1 _ _ (by decide), g1 _ _ (by decide)⟩)⟩
  · rw [m X 11 (by omega), n27]; exact A.1
  · rw [n27] at a1
    rw [m (X + 3) a (by omega)]
    have K := A.2.2.2 a a0 a1
    have x := K.2.1
    exact K.go (ag a a0 a1) e (fun d j d0 d1 => m _ _ (by omega)) (fun _ _ => rfl) (fun s _ _ => m _ _ (by omega)) (by omega) (g1 _ _ (by decide)) (fun _ _ _ => ⟨g1 _ _ (by decide), g1 _ _ (by decide), g1 _ _ (by decide)⟩)
  · unfold ORm at *
    rw [n66, n67, n27]
    refine ⟨fun i i0 i1 => by rw [g1 18 i (by decide)]; exact O.1 i i0 i1, ?_⟩
    rcases O.2 with O | ⟨o1, o2, o3⟩
    · exact Or.inl O
    · have := (ag _ o1 o2).od o3
      have n1 := (A.2.2.2 _ o1 o2).n
      refine Or.inr ⟨o1, o2, this.1, this.2.congr rfl (fun t _ _ => g1 105 t (by decide)) ?_⟩
      rw [(ag _ o1 o2).1]; exact n1.1
/-- behind the class's call: the reference's call, with what the class answered in the cell of the law -/
def AFT (om : m_E → m_M → m_Po → m_Po → Prop) (X k z : Int) (ε0 : m_E) (μ0 : m_M) (ε1 : m_E) (μ1 : m_M) : Prop := EX ε0 ε1 ∧ (∀ b j, b < X → μ1 b j = μ0 b j) ∧ ∀ μ2 : m_M, (∀ b j, b ≠ X + 141 → μ2 b j = μ1 b j) → ∀ (Q : m_Po) (Y : m_Po), (∀ b μ3, (∀ c j, c < X → μ3 c j = μ2 c j) → Rel ε1 μ3 X → μ3 (X + 34) 0 = k → (k = 0 → b = z) → (∀ j, μ3 (X + 141) j = μ2 (X + 141) j) → Q b ε1 μ3) → om ε1 μ2 Q Y
def PAIR (oc om : m_E → m_M → m_Po → m_Po → Prop) (codes : Int → Int) (ε : m_E) (μ : m_M) (X : Int) : Prop := ∀ QC XC : m_Po, (∀ z ε1 μ1, AFT om X 0 z ε μ ε1 μ1 → QC z ε1 μ1) → (∀ e ε1 μ1, codes e ≠ 0 → AFT om X (codes e) 0 ε μ ε1 μ1 → XC e ε1 μ1) → oc ε μ QC XC
/-- a state with cells of scratch changed -/
theorem Rel.st0 {ε : m_E} {μ μ' : m_M} {X : Int} {ow R : Int → Int} (S : SL ε X) (H : RG ε μ (X + 34) R) (J : JV μ (X + 20) (X + 34) R) (P : PG μ (X + 29) (X + 34)) (C : Core ε μ X ow (sgM μ (X + 34))) (f : ∀ b j, b ≠ X + 141 → ¬ (b = X + 34 ∧ j = 0) → μ' b j = μ b j) : Rel ε μ' X := by
  refine ⟨ow, R, S, H.of (fun b i hb => ?_), J.fr (fun b j h => f _ _ ?_ ?_) (fun _ _ _ => ⟨rfl, rfl⟩) (fun _ _ _ => rfl), ?_, C.scr EX.rf (fun b j h => f _ _ ?_ ?_)⟩
  · have : ∀ r ∈ lm_b, 32 ≤ r ∧ r ≤ 100 := by decide
    have := lm_arr
    refine f _ _ (fun e => ?_) (fun e => ?_)
    · rcases hb with hb | hb
      · obtain ⟨r, hr, q⟩ := hb
        have := (by decide : ∀ r ∈ lm_b, 32 ≤ r ∧ r ≤ 100) r hr
        omega
      · obtain ⟨q, hq, z⟩ := hb
        have := (by decide : ∀ q ∈ lm_a, 31 ≤ q.1 ∧ q.1 ≤ 91) q hq
        omega
    · rcases hb with hb | hb
      · obtain ⟨r, hr, q⟩ := hb
        have := (by decide : ∀ r ∈ lm_b, 32 ≤ r ∧ r ≤ 100) r hr
        omega
      · obtain ⟨q, hq, z⟩ := hb
        have := (by decide : ∀ q ∈ lm_a, 31 ≤ q.1 ∧ q.1 ≤ 91) q hq
        omega
  · unfold vc at h; omega
  · unfold vc at h; omega
  · obtain ⟨t, t1, t2, t3⟩ := P
    have e1 : ∀ j, μ' (X + 29 + 1) j = μ (X + 29 + 1) j := fun j => f _ _ (by omega) (by omega)
    have e2 : ∀ j, μ' (X + 34 + 104) j = μ (X + 34 + 104) j := fun j => f _ _ (by omega) (by omega)
    exact ⟨t, t1, t2.congr (f _ _ (by omega) (by omega)) (fun j _ _ => e1 j), t3.congr (f _ _ (by omega) (by omega)) (fun j _ _ => e2 j)⟩
  · unfold scq at h; omega
  · unfold scq at h; omega
