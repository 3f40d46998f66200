set_option maxHeartbeats 1000000
/-! ===== the relation of class and reference ===== -/
def ODh (σ : m_M) (a len : Int) (seq : Int → Int) : Prop := (∀ p, 0 ≤ p → p < σ 15 a → 0 ≤ σ 16 (10 * a + p)) ∧ OD σ a len seq
theorem od_in {σ : m_M} {a f : Int} {seq I J : Int → Int} (f0 : 0 ≤ f) (f1 : f < σ 15 a) (g : Grw σ a f f) (i0 : I 0 = f) (j0 : J 0 = f) (w : ODw σ a seq I J (σ 15 a)) : ∀ t : Nat, (t : Int) < σ 15 a → 0 ≤ I t ∧ J t < σ 15 a ∧ J t - I t = t ∧ Grw σ a (I t) (J t) := by
  intro t
  induction t with
  | zero =>
    intro _
    have e1 : I ((0 : Nat) : Int) = f := i0
    have e2 : J ((0 : Nat) : Int) = f := j0
    rw [e1, e2]
    exact ⟨f0, f1, by omega, g⟩
  | succ t ih =>
    intro ht
    obtain ⟨a1, a2, a3, a4⟩ := ih (by omega)
    have w1 := w ((t + 1 : Nat) : Int) (by omega) ht
    rw [show ((t + 1 : Nat) : Int) - 1 = (t : Int) by omega] at w1
    have s := (Grw.step a1 (by omega) a2).mp a4
    rcases w1 with ⟨c, d1, d2, _⟩ | ⟨c, d1, d2, _⟩
    · rw [d1, d2]
      exact ⟨by omega, a2, by omega, c.2⟩
    · rw [d1, d2]
      rcases s.2 with z | z | z
      · omega
      · exact absurd z c
      · exact ⟨a1, by omega, by omega, z.2⟩
theorem AGa.od {σ σ' : m_M} {a ns len : Int} {seq : Int → Int} (A : AGa σ σ' a ns) (D : ODh σ a len seq) : ODh σ' a len seq := by
  obtain ⟨hp, D⟩ := D
  have n10 := A.2.2.2.2.2.2.2.2.2.1
  refine ⟨fun p p0 p1 => ?_, ?_⟩
  · rw [A.1] at p1
    rw [A.2.1 p p0 (by omega)]
    exact hp p p0 p1
  · have G' : ∀ i j, 0 ≤ i → i ≤ j → j < σ 15 a → (Grw σ' a i j ↔ Grw σ a i j) := fun i j i0 ij jn => A.Grw' hp i0 ij jn
    rcases D with ⟨e, no⟩ | ⟨e, f, I, J, f0, f1, g, mi, i0, j0, s0, w⟩
    · refine Or.inl ⟨e, fun f f0 f1 => ?_⟩
      rw [A.1] at f1
      rw [G' f f f0 (by omega) f1]
      exact no f f0 f1
    · refine Or.inr ⟨by rw [e, A.1], f, I, J, f0, by rw [A.1]; exact f1, (G' f f f0 (by omega) f1).mpr g, fun x x0 x1 => by rw [G' x x x0 (by omega) (by omega)]; exact mi x x0 x1, i0, j0, s0, fun t t0 t1 => ?_⟩
      rw [A.1] at t1
      have h := od_in f0 f1 g i0 j0 w (t - 1).toNat (by omega)
      rw [show (((t - 1).toNat : Nat) : Int) = t - 1 by omega] at h
      have q : (0 < I (t - 1) ∧ Grw σ' a (I (t - 1) - 1) (J (t - 1))) ↔ (0 < I (t - 1) ∧ Grw σ a (I (t - 1) - 1) (J (t - 1))) := ⟨fun y => ⟨y.1, (G' _ _ (by omega) (by omega) (by omega)).mp y.2⟩, fun y => ⟨y.1, (G' _ _ (by omega) (by omega) (by omega)).mpr y.2⟩⟩
      rw [q]
      exact w t t0 t1
/-- the static objects -/
def SL (ε : m_E) (X : Int) : Prop := LY ε X ∧ LB ε (X + 4) ∧ LC ε (X + 10) ∧ LN ε (X + 15) ∧ LV ε (X + 20) ∧ LPg ε (X + 29) ∧ kd ε (X + 141) = 101 ∧ ln ε (X + 141) = 1
theorem SL.ex {ε ε' : m_E} {X : Int} (h : SL ε X) (e : EX ε ε') : SL ε' X := by
  obtain ⟨h1, h2, h3, h4, h5, h6, h7, h8⟩ := h
  obtain ⟨e1, e2, _⟩ := e (X + 141) (by rw [h7]; decide)
  exact ⟨h1.ex e, h2.ex e, h3.ex e, h4.ex e, h5.ex e, h6.ex e, e1.trans h7, e2.trans h8⟩
/-- a rack -/
def RK (ε : m_E) (μ : m_M) (X : Int) (ow : Int → Int) (σ : m_M) (r A : Int) : Prop := LR ε A ∧ X + 141 < A ∧ (ow A = 3 * r ∧ ow (A + 1) = 3 * r ∧ ow (A + 2) = 3 * r) ∧ fn ε A 0 = (if σ 1 r = 0 then 1 else 0) ∧ (∀ k, 0 ≤ k → k < 40 → μ (A + 1) k = σ 2 (40 * r + k) ∧ -1 ≤ σ 2 (40 * r + k) ∧ σ 2 (40 * r + k) ≤ 40) ∧ ∀ j, 0 ≤ j → j < 1600 → μ (A + 2) j = σ 3 (1600 * r + j)
def CRk (ε : m_E) (μ : m_M) (X : Int) (ow : Int → Int) (σ : m_M) : Prop := μ X 9 = σ 0 4 ∧ 0 ≤ σ 0 4 ∧ σ 0 4 ≤ 8 ∧ (∀ r, 0 ≤ r → r < σ 0 4 → RK ε μ X ow σ r (μ (X + 1) r)) ∧ ∀ i, 1600 * σ 0 4 ≤ i → i < 12800 → σ 3 i = 0
theorem RK.go {ε ε' : m_E} {μ μ' σ σ' : m_M} {X r A : Int} {ow ow' : Int → Int} (H : RK ε μ X ow σ r A) (e : EX ε ε') (h1 : ∀ j, μ' (A + 1) j = μ (A + 1) j) (h2 : ∀ j, μ' (A + 2) j = μ (A + 2) j) (o : ∀ b, 0 ≤ kd ε b → ow' b = ow b) (s1 : σ' 1 r = σ 1 r) (s2 : ∀ k, 0 ≤ k → k < 40 → σ' 2 (40 * r + k) = σ 2 (40 * r + k)) (s3 : ∀ j, 0 ≤ j → j < 1600 → σ' 3 (1600 * r + j) = σ 3 (1600 * r + j)) : RK ε' μ' X ow' σ' r A := by
  obtain ⟨L, x, ⟨o1, o2, o3⟩, f, a, b⟩ := H
  refine ⟨L.ex e, x, ⟨(o A (by rw [L.k]; decide)).trans o1, (o (A + 1) (by rw [L.f1.2.1]; decide)).trans o2, (o (A + 2) (by rw [L.f2.2.1]; decide)).trans o3⟩, ?_, fun k k0 k1 => ?_, fun j j0 j1 => ?_⟩
  · rw [(e A (by rw [L.k]; decide)).2.2 0, s1]; exact f
  · rw [h1, s2 k k0 k1]; exact a k k0 k1
  · rw [h2, s3 j j0 j1]; exact b j j0 j1
/-- a stone's corners -/
def SCr (ε : m_E) (μ : m_M) (X : Int) (ow : Int → Int) (σ : m_M) (s C : Int) : Prop := kd ε C = 100 ∧ ln ε C = 2 * σ 5 s ∧ 3 ≤ σ 5 s ∧ σ 5 s ≤ 12 ∧ X + 141 < C ∧ ow C = 3 * s + 1 ∧ ∀ i, 0 ≤ i → i < σ 5 s → μ C (2 * i) = σ 6 (12 * s + i) ∧ μ C (2 * i + 1) = σ 7 (12 * s + i) ∧ ab (σ 6 (12 * s + i)) 100 ∧ ab (σ 7 (12 * s + i)) 100
def CSt (ε : m_E) (μ : m_M) (X : Int) (ow : Int → Int) (σ : m_M) : Prop := μ X 10 = σ 0 14 ∧ 0 ≤ σ 0 14 ∧ σ 0 14 ≤ 120 ∧ ∀ s, 0 ≤ s → s < σ 0 14 → 0 < μ (X + 2) s ∧ SN ε σ s (μ (X + 2) s) ∧ SCr ε μ X ow σ s (fn ε (μ (X + 2) s) 1)
theorem SCr.go {ε ε' : m_E} {μ μ' σ σ' : m_M} {X s C : Int} {ow ow' : Int → Int} (H : SCr ε μ X ow σ s C) (e : EX ε ε') (h : ∀ j, μ' C j = μ C j) (o : ∀ b, 0 ≤ kd ε b → ow' b = ow b) (s5 : σ' 5 s = σ 5 s) (s6 : ∀ i, 0 ≤ i → i < 12 → σ' 6 (12 * s + i) = σ 6 (12 * s + i) ∧ σ' 7 (12 * s + i) = σ 7 (12 * s + i)) : SCr ε' μ' X ow' σ' s C := by
  obtain ⟨k, l, n3, n12, x, ow0, c⟩ := H
  obtain ⟨e1, e2, _⟩ := e C (by rw [k]; decide)
  refine ⟨e1.trans k, by rw [e2, s5]; exact l, by omega, by omega, x, (o C (by rw [k]; decide)).trans ow0, fun i i0 i1 => ?_⟩
  rw [h, h, (s6 i i0 (by omega)).1, (s6 i i0 (by omega)).2]
  exact c i i0 (by omega)
theorem SN.go {ε ε' : m_E} {σ σ' : m_M} {s S : Int} (H : SN ε σ s S) (e : EX ε ε') (h4 : σ' 4 s = σ 4 s) (h8 : σ' 8 s = σ 8 s) (h9 : σ' 9 s = σ 9 s) (h10 : σ' 10 s = σ 10 s) (h11 : σ' 11 (2 * s) = σ 11 (2 * s) ∧ σ' 11 (2 * s + 1) = σ 11 (2 * s + 1)) (h12 : σ' 12 (2 * s) = σ 12 (2 * s) ∧ σ' 12 (2 * s + 1) = σ 12 (2 * s + 1)) : SN ε' σ' s S := by
  unfold SN at *
  obtain ⟨e1, _, e3⟩ := e S (by rw [H.1]; decide)
  rw [e1, h4, h8, h9, h10, h11.1, h11.2, h12.1, h12.2]
  simp only [e3]
  exact H
/-- an arch -/
def ORc (μ σ : m_M) (a P : Int) : Prop := μ P 17 = 0 ∨ (μ P 17 = 1 ∧ ODh σ a (μ P 18) (μ (P + 10)))
def CAa (ε : m_E) (μ : m_M) (X : Int) (ow : Int → Int) (σ : m_M) (a P : Int) : Prop := LA ε P (σ 15 a) ∧ X + 141 < P ∧ (∀ d, 0 ≤ d → d ≤ 10 → ow (P + d) = 3 * a + 2) ∧
  (∀ p, 0 ≤ p → p < σ 15 a → μ (P + 6) p = σ 16 (10 * a + p) ∧ -2 ≤ σ 16 (10 * a + p) ∧ σ 16 (10 * a + p) < σ 0 14 ∧ (σ 16 (10 * a + p) < 0 → μ (P + 7) p = 0) ∧ (0 ≤ σ 16 (10 * a + p) → μ (P + 7) p = μ (X + 2) (σ 16 (10 * a + p)))) ∧
  (∀ i, 0 ≤ i → i < 4 → μ (P + 1) i = σ 18 (8 * a + i) ∧ μ (P + 2) i = σ 18 (8 * a + 4 + i)) ∧ (∀ i, 0 ≤ i → i < 8 → ab (σ 18 (8 * a + i)) 100) ∧ μ P 11 = σ 17 (2 * a) ∧ μ P 12 = σ 17 (2 * a + 1) ∧
  μ P 13 = σ 19 a ∧ 0 ≤ σ 19 a ∧ σ 19 a ≤ 6 ∧ (∀ i : Int, 0 ≤ i → i < σ 19 a → (μ (P + 3) i = σ 20 (6 * a + i) ∧ μ (P + 4) i = σ 21 (6 * a + i) ∧ μ (P + 5) i = σ 22 (6 * a + i)) ∧ ab (σ 22 (6 * a + i)) 100000 ∧ ab (σ 21 (6 * a + i)) 1000) ∧
  μ P 14 = σ 23 a ∧ μ P 15 = σ 24 a ∧ 0 ≤ σ 23 a ∧ σ 23 a ≤ 20 ∧ 1 ≤ σ 24 a ∧ σ 24 a ≤ 20 ∧ SPc μ σ a P ∧ ORc μ σ a P
def CAr (ε : m_E) (μ : m_M) (X : Int) (ow : Int → Int) (σ : m_M) : Prop := μ X 11 = σ 0 27 ∧ 0 ≤ σ 0 27 ∧ σ 0 27 ≤ 12 ∧ ∀ a, 0 ≤ a → a < σ 0 27 → CAa ε μ X ow σ a (μ (X + 3) a)
theorem SPk.go {μ μ' σ σ' : m_M} {a P k ns : Int} (A : AGa σ σ' a ns) (k0 : 0 ≤ k) (k1 : k ≤ σ 15 a) (h8 : ∀ j, μ' (P + 8) j = μ (P + 8) j) (h9 : ∀ j, μ' (P + 9) j = μ (P + 9) j) (H : SPk μ σ a P k) : SPk μ' σ' a P k := by
  unfold SPk at *
  rw [A.jo' k0 k1, h9]
  rcases H with H | ⟨x, x1, x2, x3⟩
  · exact Or.inl H
  · exact Or.inr ⟨x, x1, x2, at4_congr x3 (fun j _ _ => h8 j)⟩
theorem CAa.go {ε ε' : m_E} {μ μ' σ σ' : m_M} {X a P : Int} {ow ow' : Int → Int} (H : CAa ε μ X ow σ a P) (A : AGa σ σ' a (σ 0 14)) (e : EX ε ε') (h : ∀ d j, 0 ≤ d → d ≤ 10 → μ' (P + d) j = μ (P + d) j) (o : ∀ b, 0 ≤ kd ε b → ow' b = ow b) (hs : ∀ s, 0 ≤ s → s < σ 0 14 → μ' (X + 2) s = μ (X + 2) s) (n14 : σ 0 14 ≤ σ' 0 14) (l0 : σ' 19 a = σ 19 a) (l1 : ∀ i, 0 ≤ i → i < 6 → σ' 20 (6 * a + i) = σ 20 (6 * a + i) ∧ σ' 21 (6 * a + i) = σ 21 (6 * a + i) ∧ σ' 22 (6 * a + i) = σ 22 (6 * a + i)) : CAa ε' μ' X ow' σ' a P := by
  obtain ⟨c1, c2, c3, c4, c5, c6, c7, c8, c9, c10, c11, c12, c13, c14, c15, c16, c17, c18, c19, c20⟩ := H
  have A' := A
  obtain ⟨a1, a2, a3, a4, a5, a6, a7, a8, n1, n2, lt, _⟩ := A
  have h0 : ∀ j, μ' P j = μ P j := fun j => by have := h 0 j (by decide) (by decide); rw [Int.add_zero] at this; exact this
  refine ⟨by rw [a1]; exact c1.ex e, c2, fun d d0 d1 => ?_, fun p p0 p1 => ?_, fun i i0 i1 => ?_, fun i i0 i1 => ?_, by rw [h0, a3]; exact c7, by rw [h0, a4]; exact c8, by rw [h0, l0]; exact c9, by omega, by omega, fun i i0 i1 => ?_, by rw [h0, a6]; exact c13, by rw [h0, a7]; exact c14, by omega, by omega, by omega, by omega, ?_, ?_⟩
  · refine (o (P + d) ?_).trans (c3 d d0 d1)
    have : d = 0 ∨ d = 1 ∨ d = 2 ∨ d = 3 ∨ d = 4 ∨ d = 5 ∨ d = 6 ∨ d = 7 ∨ d = 8 ∨ d = 9 ∨ d = 10 := by omega
    rcases this with q | q | q | q | q | q | q | q | q | q | q <;> subst q
    · rw [Int.add_zero, c1.k]; decide
    · rw [c1.f3.2.1]; decide
    · rw [c1.f4.2.1]; decide
    · rw [c1.f5.2.1]; decide
    · rw [c1.f6.2.1]; decide
    · rw [c1.f7.2.1]; decide
    · rw [c1.f1.2.1]; decide
    · rw [c1.f2.2.1]; decide
    · rw [c1.f8.2.1]; decide
    · rw [c1.f9.2.1]; decide
    · rw [c1.f10.2.1]; decide
  · rw [a1] at p1
    obtain ⟨q1, q2, q3, q4, q5⟩ := c4 p p0 p1
    rw [a2 p p0 (by omega), h 6 _ (by decide) (by decide), h 7 _ (by decide) (by decide)]
    exact ⟨q1, q2, by omega, q4, fun z => by rw [hs _ z q3]; exact q5 z⟩
  · rw [h 1 _ (by decide) (by decide), h 2 _ (by decide) (by decide), a5 i i0 (by omega), show 8 * a + 4 + i = 8 * a + (4 + i) by omega, a5 (4 + i) (by omega) (by omega), ← show 8 * a + 4 + i = 8 * a + (4 + i) by omega]
    exact c5 i i0 i1
  · rw [a5 i i0 i1]; exact c6 i i0 i1
  · rw [l0] at i1
    obtain ⟨q1, q2, q3⟩ := l1 i i0 (by omega)
    rw [h 3 _ (by decide) (by decide), h 4 _ (by decide) (by decide), h 5 _ (by decide) (by decide), q1, q2, q3]
    exact c12 i i0 i1
  · unfold SPc at *
    rw [h0, a1]
    rcases c19 with q | ⟨q1, q2⟩
    · exact Or.inl q
    · exact Or.inr ⟨q1, fun k k0 k1 => (q2 k k0 k1).go A' k0 k1 (fun j => h 8 j (by decide) (by decide)) (fun j => h 9 j (by decide) (by decide))⟩
  · unfold ORc at *
    rw [h0, h0]
    rcases c20 with q | ⟨q1, q2⟩
    · exact Or.inl q
    · refine Or.inr ⟨q1, ?_⟩
      have := A'.od q2
      refine ⟨this.1, this.2.congr rfl (fun t _ _ => h 10 t (by decide) (by decide)) (by rw [a1]; exact n1)⟩
/-- the reference's order, if it holds one -/
def ORm (σ : m_M) : Prop := (∀ i, 8 * σ 0 27 ≤ i → i < 96 → σ 18 i = 0) ∧ (σ 0 66 = -1 ∨ (0 ≤ σ 0 66 ∧ σ 0 66 < σ 0 27 ∧ ODh σ (σ 0 66) (σ 0 67) (σ 105)))
theorem ORm.no {σ σ' : m_M} (H : ORm σ) (n : σ' 0 27 = σ 0 27) (g : ∀ i, 8 * σ 0 27 ≤ i → σ' 18 i = σ 18 i) (z : σ' 0 66 = -1) : ORm σ' := ⟨fun i i0 i1 => by rw [n] at i0; rw [g i i0]; exact H.1 i i0 i1, Or.inl z⟩
def Core (ε : m_E) (μ : m_M) (X : Int) (ow : Int → Int) (σ : m_M) : Prop := (∀ b, b ≤ X + 141 → ow b = -1) ∧ CRk ε μ X ow σ ∧ CSt ε μ X ow σ ∧ CAr ε μ X ow σ ∧ ORm σ
/-- class and reference are in one state -/
def Rel (ε : m_E) (μ : m_M) (X : Int) : Prop := ∃ ow R, SL ε X ∧ RG ε μ (X + 34) R ∧ JV μ (X + 20) (X + 34) R ∧ PG μ (X + 29) (X + 34) ∧ Core ε μ X ow (sgM μ (X + 34))
theorem CAa.n {ε : m_E} {μ σ : m_M} {X a P : Int} {ow : Int → Int} (H : CAa ε μ X ow σ a P) : 1 ≤ σ 15 a ∧ σ 15 a ≤ 10 := H.1.2.2
theorem CAa.aga {ε : m_E} {μ σ : m_M} {X a P : Int} {ow : Int → Int} (H : CAa ε μ X ow σ a P) (C : CSt ε μ X ow σ) {σ' : m_M} (h : σ' 15 a = σ 15 a ∧ (∀ p, 0 ≤ p → p < 10 → σ' 16 (10 * a + p) = σ 16 (10 * a + p)) ∧ σ' 17 (2 * a) = σ 17 (2 * a) ∧ σ' 17 (2 * a + 1) = σ 17 (2 * a + 1) ∧ (∀ i, 0 ≤ i → i < 8 → σ' 18 (8 * a + i) = σ 18 (8 * a + i)) ∧ σ' 23 a = σ 23 a ∧ σ' 24 a = σ 24 a ∧ (∀ s, 0 ≤ s → s < σ 0 14 → σ' 4 s = σ 4 s ∧ σ' 5 s = σ 5 s ∧ σ' 9 s = σ 9 s ∧ σ' 10 s = σ 10 s ∧ ∀ i, 0 ≤ i → i < 12 → σ' 6 (12 * s + i) = σ 6 (12 * s + i) ∧ σ' 7 (12 * s + i) = σ 7 (12 * s + i))) : AGa σ σ' a (σ 0 14) := by
  obtain ⟨h1, h2, h3, h4, h5, h6, h7, h8⟩ := h
  exact ⟨h1, h2, h3, h4, h5, h6, h7, h8, H.n.1, H.n.2, fun p p0 p1 => (H.2.2.2.1 p p0 p1).2.2.1, fun s s0 s1 => by
    have := (C.2.2.2 s s0 s1).2.2
    exact ⟨this.2.2.1, this.2.2.2.1⟩⟩
/-- what the methods of an arch need -/
theorem CAa.need {ε : m_E} {μ σ : m_M} {X a P : Int} {ow : Int → Int} (T : TY ε μ) (H : CAa ε μ X ow σ a P) (C : CSt ε μ X ow σ) (a0 : 0 ≤ a) (a1 : a < 12) : MA σ a ∧ MG σ a ∧ AB σ a ∧ AF ε μ σ a P := by
  obtain ⟨c1, c2, c3, c4, c5, c6, c7, c8, c9, c10, c11, c12, c13, c14, c15, c16, c17, c18, c19, c20⟩ := H
  obtain ⟨s1, s2, s3, s4⟩ := C
  have st' : ∀ p, 0 ≤ p → p < σ 15 a → 0 ≤ σ 16 (10 * a + p) → 0 < μ (P + 7) p ∧ SN ε σ (σ 16 (10 * a + p)) (μ (P + 7) p) ∧ SCr ε μ X ow σ (σ 16 (10 * a + p)) (fn ε (μ (P + 7) p) 1) := fun p p0 p1 z => by
    obtain ⟨q1, q2, q3, q4, q5⟩ := c4 p p0 p1
    rw [q5 z]
    exact s4 _ z q3
  refine ⟨⟨a0, a1, c1.2.2.1, c1.2.2.2, fun p p0 p1 => ?_, c10, c11⟩, ⟨fun p p0 p1 z => ?_, c6⟩, ⟨fun p p0 p1 z => ?_, fun i i0 i1 => (c12 i i0 i1).2, ⟨by omega, by omega⟩, ⟨by omega, by omega⟩⟩, ⟨⟨c1, fun p p0 p1 => ⟨(c4 p p0 p1).2.2.2.1, fun z => ⟨(st' p p0 p1 z).1, (st' p p0 p1 z).2.1⟩⟩, c9, fun i i0 i1 => (c12 i i0 i1).1, c13, c14, c10, c11⟩, c5, c7, c8, fun p p0 p1 z => ?_⟩⟩
  · have := (c4 p p0 p1).2.2.1; omega
  · obtain ⟨_, _, k1, k2, k3, k4, k5, k6, k7⟩ := st' p p0 p1 z
    exact ⟨k3, k4, fun i i0 i1 => (k7 i i0 i1).2.2⟩
  · obtain ⟨_, _, _, _, _, _, _, _, _, _, _, k1, k2, k3⟩ := (st' p p0 p1 z).2.1
    exact ⟨⟨by omega, k2⟩, k3⟩
  · obtain ⟨_, _, k1, k2, k3, k4, k5, k6, k7⟩ := st' p p0 p1 z
    have pos := (T.1 (fn ε (μ (P + 7) p) 1) (by rw [k1]; decide)).1
    have ef : fcn σ a p = σ 5 (σ 16 (10 * a + p)) := by
      unfold fcn
      rw [if_neg (by omega), if_neg (by omega), if_pos z]
    refine ⟨pos, ⟨k1, σ 5 (σ 16 (10 * a + p)), k2, by omega, k4, by rw [ef, if_neg (by omega)], fun i i0 i1 => ?_⟩, ?_⟩
    · rw [ef] at i1
      have e0 : i % σ 5 (σ 16 (10 * a + p)) = i := Int.emod_eq_of_lt i0 i1
      have m0 := Int.emod_nonneg (i + 1) (show σ 5 (σ 16 (10 * a + p)) ≠ 0 by omega)
      have m1 := Int.emod_lt_of_pos (i + 1) (show 0 < σ 5 (σ 16 (10 * a + p)) by omega)
      have g1 := k7 i i0 i1
      have g2 := k7 _ m0 m1
      have f : ∀ w, fA σ a p i w = if w % 2 = 0 then σ 6 (12 * σ 16 (10 * a + p) + (if 2 ≤ w then (i + 1) % σ 5 (σ 16 (10 * a + p)) else i)) else σ 7 (12 * σ 16 (10 * a + p) + (if 2 ≤ w then (i + 1) % σ 5 (σ 16 (10 * a + p)) else i)) := fun w => by
        unfold fA
        rw [if_neg (show ¬ p < 0 by omega), if_neg (show ¬ p = σ 15 a by omega)]
      rw [e0, f, f, f, f]
      exact ⟨g1.1, g1.2.1, g2.1, g2.2.1⟩
    · rcases Int.lt_or_le (fn ε (μ (P + 7) p) 1) P with q | q
      · exact Or.inl q
      · rcases Int.lt_or_le (P + 10) (fn ε (μ (P + 7) p) 1) with r | r
        · exact Or.inr r
        · have := c3 (fn ε (μ (P + 7) p) 1 - P) (by omega) (by omega)
          rw [show P + (fn ε (μ (P + 7) p) 1 - P) = fn ε (μ (P + 7) p) 1 by omega] at this
          omega
