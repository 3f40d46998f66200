set_option maxHeartbeats 1000000
/-! ===== an arch changes, all else stays; archAt, requireWhole ===== -/
/-- the reference's cells of arch a -/
def acl (X a b j : Int) : Prop := (b = X + 34 + 15 ∧ j = a) ∨ (b = X + 34 + 16 ∧ 10 * a ≤ j ∧ j < 10 * a + 10) ∨ (b = X + 34 + 17 ∧ 2 * a ≤ j ∧ j < 2 * a + 2) ∨ (b = X + 34 + 18 ∧ 8 * a ≤ j ∧ j < 8 * a + 8) ∨ (b = X + 34 + 19 ∧ j = a) ∨ ((b = X + 34 + 20 ∨ b = X + 34 + 21 ∨ b = X + 34 + 22) ∧ 6 * a ≤ j ∧ j < 6 * a + 6) ∨ ((b = X + 34 + 23 ∨ b = X + 34 + 24) ∧ j = a) ∨ (b = X + 34 ∧ (j = 66 ∨ j = 67)) ∨ b = X + 34 + 105
theorem Core.arch {ε ε' : m_E} {μ μ' : m_M} {X a : Int} {ow : Int → Int} (H : Core ε μ X ow (sgM μ (X + 34))) (e : EX ε ε') (f : ∀ b j, ¬ scq X b j → ¬ acl X a b j → ¬ (X + 141 < b ∧ ow b = 3 * a + 2) → μ' b j = μ b j) (K : 0 ≤ a → a < sgM μ (X + 34) 0 27 → CAa ε' μ' X ow (sgM μ' (X + 34)) a (μ (X + 3) a)) (O' : ORm (sgM μ' (X + 34))) : Core ε' μ' X ow (sgM μ' (X + 34)) := by
  obtain ⟨w, R, C, A, O⟩ := H
  have g0 : ∀ j, (j = 4 ∨ j = 14 ∨ j = 27) → sgM μ' (X + 34) 0 j = sgM μ (X + 34) 0 j := fun j h => f _ _ (fun z => by unfold scq at z; omega) (fun z => by unfold acl at z; omega) (by omega)
  have g1 : ∀ o j, (1 ≤ o ∧ o ≤ 12) → sgM μ' (X + 34) o j = sgM μ (X + 34) o j := fun o j h => f _ _ (fun z => by unfold scq at z; omega) (fun z => by unfold acl at z; omega) (by omega)
  have g2 : ∀ o j, (15 ≤ o ∧ o ≤ 24) → ¬ acl X a (X + 34 + o) j → sgM μ' (X + 34) o j = sgM μ (X + 34) o j := fun o j h h' => f _ _ (fun z => by unfold scq at z; omega) h' (by omega)
  have m : ∀ b j, b = X ∨ b = X + 1 ∨ b = X + 2 ∨ b = X + 3 ∨ (X + 141 < b ∧ ow b ≠ 3 * a + 2) → μ' b j = μ b j := fun b j h => f _ _ (fun z => by unfold scq at z; omega) (fun z => by unfold acl at z; omega) (fun z => by omega)
  generalize sgM μ (X + 34) = σ at *
  generalize sgM μ' (X + 34) = σ' at *
  have n4 := g0 4 (by decide)
  have n14 := g0 14 (by decide)
  have n27 := g0 27 (by decide)
  have R1 := R.2.1
  have R2 := R.2.2.1
  have C1 := C.2.1
  have C2 := C.2.2.1
  have A1 := A.2.1
  have A2 := A.2.2.1
  refine ⟨w, ⟨?_, by omega, by omega, fun r r0 r1 => ?_, fun i i0 i1 => ?_⟩, ⟨?_, by omega, by omega, fun s s0 s1 => ?_⟩, ⟨?_, by omega, by omega, fun b a0 a1 => ?_⟩, O'⟩
  · rw [m X 9 (by omega), n4]; exact R.1
  · rw [n4] at r1
    rw [m (X + 1) r (by omega)]
    have K := R.2.2.2.1 r r0 r1
    have x := K.2.1
    have o' := K.2.2.1
    exact K.go e (fun j => m _ _ (by omega)) (fun j => m _ _ (by omega)) (fun _ _ => rfl) (g1 _ _ (by decide)) (fun _ _ _ => g1 _ _ (by decide)) (fun _ _ _ => g1 _ _ (by decide))
  · rw [n4] at i0
    rw [g1 3 _ (by decide)]
    exact R.2.2.2.2 i i0 i1
  · rw [m X 10 (by omega), n14]; exact C.1
  · rw [n14] at s1
    rw [m (X + 2) s (by omega)]
    obtain ⟨k1, k2, k3⟩ := C.2.2.2 s s0 s1
    have x := k3.2.2.2.2.1
    have o' := k3.2.2.2.2.2.1
    rw [(e (μ (X + 2) s) (by rw [k2.1]; decide)).2.2 1]
    exact ⟨k1, k2.go e (g1 _ _ (by decide)) (g1 _ _ (by decide)) (g1 _ _ (by decide)) (g1 _ _ (by decide)) ⟨g1 _ _ (by decide), g1 _ _ (by decide)⟩ ⟨g1 _ _ (by decide), g1 _ _ (by decide)⟩, k3.go e (fun j => m _ _ (by omega)) (fun _ _ => rfl) (g1 _ _ (by decide)) (fun _ _ _ => ⟨g1 _ _ (by decide), g1 _ _ (by decide)⟩)⟩
  · rw [m X 11 (by omega), n27]; exact A.1
  · rw [n27] at a1
    rw [m (X + 3) b (by omega)]
    by_cases q : b = a
    · rw [q]; exact K (by omega) (by omega)
    · have K' := A.2.2.2 b a0 a1
      have x := K'.2.1
      have o' := K'.2.2.1
      have gg : ∀ o j, (15 ≤ o ∧ o ≤ 24) → (o = 15 ∨ o = 19 ∨ o = 23 ∨ o = 24 → j = b) → (o = 16 → 10 * b ≤ j ∧ j < 10 * b + 10) → (o = 17 → 2 * b ≤ j ∧ j < 2 * b + 2) → (o = 18 → 8 * b ≤ j ∧ j < 8 * b + 8) → (o = 20 ∨ o = 21 ∨ o = 22 → 6 * b ≤ j ∧ j < 6 * b + 6) → σ' o j = σ o j := fun o j h h1 h2 h3 h4 h5 => g2 o j h (fun z => by unfold acl at z; omega)
      have ag : AGa σ σ' b (σ 0 14) := K'.aga C ⟨gg 15 _ (by omega) (by omega) (by omega) (by omega) (by omega) (by omega), fun p p0 p1 => gg 16 _ (by omega) (by omega) (by omega) (by omega) (by omega) (by omega), gg 17 _ (by omega) (by omega) (by omega) (by omega) (by omega) (by omega), gg 17 _ (by omega) (by omega) (by omega) (by omega) (by omega) (by omega), fun i i0 i1 => gg 18 _ (by omega) (by omega) (by omega) (by omega) (by omega) (by omega), gg 23 _ (by omega) (by omega) (by omega) (by omega) (by omega) (by omega), gg 24 _ (by omega) (by omega) (by omega) (by omega) (by omega) (by omega), fun s _ _ => ⟨g1 _ _ (by decide), g1 _ _ (by decide), g1 _ _ (by decide), g1 _ _ (by decide), fun _ _ _ => ⟨g1 _ _ (by decide), g1 _ _ (by decide)⟩⟩⟩
      refine K'.go ag e (fun d j d0 d1 => m _ _ ?_) (fun _ _ => rfl) (fun s _ _ => m _ _ (by omega)) (by omega) (gg 19 _ (by omega) (by omega) (by omega) (by omega) (by omega) (by omega)) (fun i i0 i1 => ⟨gg 20 _ (by omega) (by omega) (by omega) (by omega) (by omega) (by omega), gg 21 _ (by omega) (by omega) (by omega) (by omega) (by omega) (by omega), gg 22 _ (by omega) (by omega) (by omega) (by omega) (by omega) (by omega)⟩)
      have := o' d d0 d1
      omega
/-- an arch whose spans alone have been found -/
theorem CAa.fa {ε : m_E} {μ μ' σ σ' : m_M} {X a P : Int} {ow : Int → Int} (H : CAa ε μ X ow σ a P) (f : FA2 P μ μ') (sp : SPc μ' σ a P) : CAa ε μ' X ow σ a P := by
  obtain ⟨c1, c2, c3, c4, c5, c6, c7, c8, c9, c10, c11, c12, c13, c14, c15, c16, c17, c18, c19, c20⟩ := H
  have e : ∀ d j, d ≠ 0 → d ≠ 8 → d ≠ 9 → μ' (P + d) j = μ (P + d) j := fun d j h1 h2 h3 => f _ _ (by omega) (by omega) (by omega)
  have e0 : ∀ j, j ≠ 16 → μ' P j = μ P j := fun j h => f _ _ (by omega) (by omega) (by omega)
  have ex : ∀ j, μ' (X + 2) j = μ (X + 2) j := fun j => f _ _ (by omega) (by omega) (by omega)
  refine ⟨c1, c2, c3, fun p p0 p1 => ?_, fun i i0 i1 => ?_, c6, (e0 _ (by decide)).trans c7, (e0 _ (by decide)).trans c8, (e0 _ (by decide)).trans c9, c10, c11, fun i i0 i1 => ?_, (e0 _ (by decide)).trans c13, (e0 _ (by decide)).trans c14, c15, c16, c17, c18, sp, ?_⟩
  · rw [e 6 _ (by decide) (by decide) (by decide), e 7 _ (by decide) (by decide) (by decide), ex]; exact c4 p p0 p1
  · rw [e 1 _ (by decide) (by decide) (by decide), e 2 _ (by decide) (by decide) (by decide)]; exact c5 i i0 i1
  · rw [e 3 _ (by decide) (by decide) (by decide), e 4 _ (by decide) (by decide) (by decide), e 5 _ (by decide) (by decide) (by decide)]; exact c12 i i0 i1
  · unfold ORc at *
    rw [e0 17 (by decide), e0 18 (by decide)]
    rcases c20 with q | ⟨q1, q2, q3⟩
    · exact Or.inl q
    · exact Or.inr ⟨q1, q2, q3.congr rfl (fun t _ _ => e 10 t (by decide) (by decide) (by decide)) c1.2.2.1⟩
theorem CAa.same {ε ε' : m_E} {μ σ σ' : m_M} {X a P : Int} {ow : Int → Int} (H : CAa ε μ X ow σ a P) (C : CSt ε μ X ow σ) (e : EX ε ε') (g : ∀ o j, (1 ≤ o ∧ o ≤ 12) ∨ (15 ≤ o ∧ o ≤ 24) → σ' o j = σ o j) (n14 : σ' 0 14 = σ 0 14) : CAa ε' μ X ow σ' a P := H.go (H.aga C ⟨g _ _ (by decide), fun _ _ _ => g _ _ (by decide), g _ _ (by decide), g _ _ (by decide), fun _ _ _ => g _ _ (by decide), g _ _ (by decide), g _ _ (by decide), fun _ _ _ => ⟨g _ _ (by decide), g _ _ (by decide), g _ _ (by decide), g _ _ (by decide), fun _ _ _ => ⟨g _ _ (by decide), g _ _ (by decide)⟩⟩⟩) e (fun _ _ _ _ => rfl) (fun _ _ => rfl) (fun _ _ _ => rfl) (by omega) (g _ _ (by decide)) (fun _ _ _ => ⟨g _ _ (by decide), g _ _ (by decide), g _ _ (by decide)⟩)
theorem Core.ag {ε : m_E} {μ σ σ' : m_M} {X a : Int} {ow : Int → Int} (H : Core ε μ X ow σ) (a0 : 0 ≤ a) (a1 : a < σ 0 27) (g : ∀ o j, (1 ≤ o ∧ o ≤ 12) ∨ (15 ≤ o ∧ o ≤ 24) → σ' o j = σ o j) : AGa σ σ' a (σ 0 14) := (H.2.2.2.1.2.2.2 a a0 a1).aga H.2.2.1 ⟨g _ _ (by decide), fun _ _ _ => g _ _ (by decide), g _ _ (by decide), g _ _ (by decide), fun _ _ _ => g _ _ (by decide), g _ _ (by decide), g _ _ (by decide), fun _ _ _ => ⟨g _ _ (by decide), g _ _ (by decide), g _ _ (by decide), g _ _ (by decide), fun _ _ _ => ⟨g _ _ (by decide), g _ _ (by decide)⟩⟩⟩
theorem Core.or {ε : m_E} {μ σ σ' : m_M} {X : Int} {ow : Int → Int} (H : Core ε μ X ow σ) (g : ∀ o j, (1 ≤ o ∧ o ≤ 12) ∨ (15 ≤ o ∧ o ≤ 24) ∨ o = 105 → σ' o j = σ o j) (h : ∀ j, (j = 27 ∨ j = 66 ∨ j = 67) → σ' 0 j = σ 0 j) : ORm σ' := by
  have O := H.2.2.2.2
  unfold ORm at *
  rw [h 66 (by decide), h 67 (by decide), h 27 (by decide)]
  refine ⟨fun i i0 i1 => by rw [g 18 i (by decide)]; exact O.1 i i0 i1, ?_⟩
  rcases O.2 with O | ⟨o1, o2, o3⟩
  · exact Or.inl O
  · have A := H.ag o1 o2 (fun o j h => g o j (by omega))
    have := A.od o3
    exact Or.inr ⟨o1, o2, this.1, this.2.congr rfl (fun t _ _ => g 105 t (by decide)) (by rw [A.1]; exact (H.2.2.2.1.2.2.2 _ o1 o2).n.1)⟩
/-- an arch's spans have been found; scratch has changed -/
theorem Core.fa {ε ε' : m_E} {μ μ' : m_M} {X a : Int} {ow : Int → Int} (H : Core ε μ X ow (sgM μ (X + 34))) (e : EX ε ε') (a0 : 0 ≤ a) (a1 : a < sgM μ (X + 34) 0 27) (f : ∀ b j, ¬ scq X b j → b ≠ μ (X + 3) a + 8 → b ≠ μ (X + 3) a + 9 → ¬ (b = μ (X + 3) a ∧ j = 16) → μ' b j = μ b j) (sp : SPc μ' (sgM μ (X + 34)) a (μ (X + 3) a)) : Core ε' μ' X ow (sgM μ' (X + 34)) := by
  have K := H.2.2.2.1.2.2.2 a a0 a1
  have x := K.2.1
  have o := K.2.2.1
  have o0 := o 0 (by decide) (by decide)
  have o8 := o 8 (by decide) (by decide)
  have o9 := o 9 (by decide) (by decide)
  rw [Int.add_zero] at o0
  have g : ∀ o j, (1 ≤ o ∧ o ≤ 12) ∨ (15 ≤ o ∧ o ≤ 24) ∨ o = 105 → sgM μ' (X + 34) o j = sgM μ (X + 34) o j := fun o j h => f _ _ (fun z => by unfold scq at z; omega) (by omega) (by omega) (by omega)
  have g0 : ∀ j, (j = 4 ∨ j = 14 ∨ j = 27 ∨ j = 66 ∨ j = 67) → sgM μ' (X + 34) 0 j = sgM μ (X + 34) 0 j := fun j h => f _ _ (fun z => by unfold scq at z; omega) (by omega) (by omega) (by omega)
  refine H.arch (a := a) e (fun b j h1 _ h3 => f b j h1 (fun z => h3 ⟨by omega, by rw [z]; exact o8⟩) (fun z => h3 ⟨by omega, by rw [z]; exact o9⟩) (fun z => h3 ⟨by omega, by rw [z.1]; exact o0⟩)) (fun _ _ => ?_) (H.or g (fun j h => g0 j (by omega)))
  generalize hμ : μ (X + 3) a = P at *
  -- the arch as the memory has it now
  have K1 : CAa ε μ' X ow (sgM μ (X + 34)) a P := by
    obtain ⟨c1, c2, c3, c4, c5, c6, c7, c8, c9, c10, c11, c12, c13, c14, c15, c16, c17, c18, c19, c20⟩ := K
    have e' : ∀ d j, 0 < d → d ≠ 8 → d ≠ 9 → μ' (P + d) j = μ (P + d) j := fun d j h1 h2 h3 => f _ _ (fun z => by unfold scq at z; omega) (by omega) (by omega) (by omega)
    have e0 : ∀ j, j ≠ 16 → μ' P j = μ P j := fun j h => f _ _ (fun z => by unfold scq at z; omega) (by omega) (by omega) (by omega)
    have ex : ∀ j, μ' (X + 2) j = μ (X + 2) j := fun j => f _ _ (fun z => by unfold scq at z; omega) (by omega) (by omega) (by omega)
    refine ⟨c1, c2, c3, fun p p0 p1 => ?_, fun i i0 i1 => ?_, c6, (e0 _ (by decide)).trans c7, (e0 _ (by decide)).trans c8, (e0 _ (by decide)).trans c9, c10, c11, fun i i0 i1 => ?_, (e0 _ (by decide)).trans c13, (e0 _ (by decide)).trans c14, c15, c16, c17, c18, sp, ?_⟩
    · rw [e' 6 _ (by decide) (by decide) (by decide), e' 7 _ (by decide) (by decide) (by decide), ex]; exact c4 p p0 p1
    · rw [e' 1 _ (by decide) (by decide) (by decide), e' 2 _ (by decide) (by decide) (by decide)]; exact c5 i i0 i1
    · rw [e' 3 _ (by decide) (by decide) (by decide), e' 4 _ (by decide) (by decide) (by decide), e' 5 _ (by decide) (by decide) (by decide)]; exact c12 i i0 i1
    · unfold ORc at *
      rw [e0 17 (by decide), e0 18 (by decide)]
      rcases c20 with q | ⟨q1, q2, q3⟩
      · exact Or.inl q
      · exact Or.inr ⟨q1, q2, q3.congr rfl (fun t _ _ => e' 10 t (by decide) (by decide) (by decide)) c1.2.2.1⟩
  have A := H.ag (σ' := sgM μ' (X + 34)) a0 a1 (fun o j h => g o j (by omega))
  exact K1.go A e (fun _ _ _ _ => rfl) (fun _ _ => rfl) (fun _ _ _ => rfl) (by rw [g0 14 (by decide)]; omega) (g _ _ (by decide)) (fun _ _ _ => ⟨g _ _ (by decide), g _ _ (by decide), g _ _ (by decide)⟩)
