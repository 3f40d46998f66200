/-! ===== isSafe, its second loop ===== -/
def GN (vh vv v1 : Int → Int) (T : Int) (S : Int → Int → Prop) : Prop := ∀ a d, S a d → (∃ i, 0 ≤ i ∧ i < T ∧ vv i = 0 ∧ a = vh i ∧ d = v1 i) ∨ (∃ i j p q, 0 ≤ i ∧ i < T ∧ 0 ≤ j ∧ j < T ∧ 0 < vv i ∧ vv j < 0 ∧ 0 < p ∧ 0 < q ∧ p * vv i + q * vv j = 0 ∧ a = p * vh i + q * vh j ∧ d = p * v1 i + q * v1 j)
def GC (vh vv v1 : Int → Int) (Z : Int → Prop) (D : Int → Int → Prop) (S : Int → Int → Prop) : Prop := (∀ i, Z i → vv i = 0 → S (vh i) (v1 i)) ∧ ∀ i j, D i j → 0 < vv i → vv j < 0 → ∃ p q, 0 < p ∧ 0 < q ∧ p * vv i + q * vv j = 0 ∧ S (p * vh i + q * vh j) (p * v1 i + q * v1 j)
/-- the second loop's state -/
def S2 (vh vv v1 : Int → Int) (T : Int) (Z : Int → Prop) (D : Int → Int → Prop) (f : Int → Int) : Prop := ∃ S, AL S f ∧ GN vh vv v1 T S ∧ (f 43 = 0 → GC vh vv v1 Z D S)
theorem S2.mono {vh vv v1 : Int → Int} {T : Int} {Z Z' : Int → Prop} {D D' : Int → Int → Prop} {f : Int → Int} (H : S2 vh vv v1 T Z D f) (kZ : f 43 = 0 → ∀ i, Z' i → vv i = 0 → Z i) (kD : f 43 = 0 → ∀ i j, D' i j → 0 < vv i → vv j < 0 → D i j) : S2 vh vv v1 T Z' D' f := by
  obtain ⟨S, a, b, c⟩ := H
  exact ⟨S, a, b, fun z => ⟨fun i i1 i2 => (c z).1 i (kZ z i i1 i2) i2, fun i j d x y => (c z).2 i j (kD z i j d x y) x y⟩⟩
theorem ab_mul {p x P B : Int} (p0 : 0 ≤ p) (p1 : p ≤ P) (hx : ab x B) (B0 : 0 ≤ B) : ab (p * x) (P * B) := by
  unfold ab at *
  have a1 := Int.mul_le_mul_of_nonneg_left hx.2 p0
  have a2 := Int.mul_le_mul_of_nonneg_left hx.1 p0
  have a3 := Int.mul_le_mul_of_nonneg_right p1 B0
  rw [Int.mul_neg] at a2
  omega
theorem w64_3 {a b : Int} (ha : ab a 4096000000000000000) (hb : ab b 4096000000000000000) : w64 (w64 a + w64 b) = a + b := by
  unfold ab at ha hb
  rw [w64_id (z := a) (by unfold i64; omega), w64_id (z := b) (by unfold i64; omega), w64_id (by unfold i64; omega)]
/-- what the rows of two unknowns are -/
def RV (μ : m_M) (M T : Int) (vh vv v1 : Int → Int) : Prop := μ M 42 = T ∧ (∀ k, μ (M + 44) k = vh k) ∧ (∀ k, μ (M + 45) k = vv k) ∧ ∀ k, μ (M + 46) k = v1 k
theorem RV.ff {μ μ' : m_M} {M T : Int} {vh vv v1 : Int → Int} (H : RV μ M T vh vv v1) (f : FF M 43 49 μ μ') : RV μ' M T vh vv v1 := by
  obtain ⟨h1, h2, h3, h4⟩ := H
  exact ⟨(f M 42 (by omega)).trans h1, fun k => (f _ k (by omega)).trans (h2 k), fun k => (f _ k (by omega)).trans (h3 k), fun k => (f _ k (by omega)).trans (h4 k)⟩
def VB (vh vv v1 : Int → Int) (T : Int) : Prop := ∀ t, 0 ≤ t → t < T → ab (vh t) 512000 ∧ ab (vv t) 512000 ∧ ab (v1 t) 8000000000000
theorem is2_in {Q X : m_Po} {ε : m_E} {M : Int} (L : LM ε M) {T : Nat} (hT : T ≤ 672) {μ0 : m_M} {vh vv v1 : Int → Int} (W0 : RV μ0 M T vh vv v1) (B : VB vh vv v1 T) {i : Nat} (hi : i < T) (hm : 0 < vv i) {Z : Int → Prop}
    (nxt : ∀ μ : m_M, FF M 43 49 μ0 μ → S2 vh vv v1 T Z (Dj i T T) (μ M) → G cd_X12_isSafe Q X 372 [(0, (2, M)), (1, (0, i))] [] ε μ) :
    ∀ (d j : Nat) (μ : m_M), j + d = T → FF M 43 49 μ0 μ → S2 vh vv v1 T Z (Dj i j T) (μ M) → G cd_X12_isSafe Q X 247 [(0, (2, M)), (1, (0, i)), (2, (0, j))] [] ε μ := by
  intro d
  induction d with
  | zero =>
    intro j μ hd f H
    have hj : j = T := by omega
    subst hj
    have r := (W0.ff f).1
    apply g_X12_isSafe_247
    rw [r]
    refine fun _ _ _ => ⟨L.k, fun _ => nxt μ f H, fun z => absurd z (by omega)⟩
  | succ d ih =>
    intro j μ hd f H
    obtain ⟨r, rh, rv, rc⟩ := W0.ff f
    have i0 : (0 : Int) ≤ i := by omega
    have i1 : (i : Int) < 700 := by omega
    have i2 : (i : Int) < T := by omega
    have j0 : (0 : Int) ≤ j := by omega
    have j1 : (j : Int) < 700 := by omega
    have j2 : (j : Int) < T := by omega
    have jn : ¬ (T : Int) ≤ j := by omega
    have jm : j < 2147483647 := by omega
    have hd' : j + 1 + d = T := by omega
    have nm : ¬ vv i ≤ 0 := by omega
    have next : ∀ μ' : m_M, FF M 43 49 μ0 μ' → S2 vh vv v1 T Z (Dj i ((j + 1 : Nat) : Int) T) (μ' M) → G cd_X12_isSafe Q X 366 [(0, (2, M)), (1, (0, i)), (2, (0, j))] [] ε μ' := by
      intro μ' a1 a2
      apply g_X12_isSafe_366
      refine fun _ _ _ v2 e2 => ?_
      rw [w32_succ jm e2]
      exact ih (j + 1) μ' hd' a1 a2
    apply g_X12_isSafe_247
    rw [r, L.f40.1, rv, rv]
    refine fun _ _ _ => ⟨L.k, fun z => absurd z jn, fun _ => ⟨L.f40.2.1, i0, by rw [L.f40.2.2]; exact i1, fun z => absurd z nm, fun _ => ⟨fun z => nxt μ f (H.mono (fun q => absurd q z) (fun q => absurd q z)), fun lost => ⟨j0, by rw [L.f40.2.2]; exact j1, fun mj => ?_, fun mj => ?_⟩⟩⟩⟩
    · have bi := B i i0 i2
      have bj := B j j0 j2
      obtain ⟨g1, g2, g3, g4, g5⟩ := gpq hm mj
      have p512 : gp vv i j ≤ 512000 := by have := bj.2.1; unfold ab at this; omega
      have q512 : gq vv i j ≤ 512000 := by have := bi.2.1; unfold ab at this; omega
      have c1 := ab_mul (Int.le_of_lt g1) p512 bi.1 (by decide)
      have c2 := ab_mul (Int.le_of_lt g2) q512 bj.1 (by decide)
      have c5 := ab_mul (Int.le_of_lt g1) p512 bi.2.2 (by decide)
      have c6 := ab_mul (Int.le_of_lt g2) q512 bj.2.2 (by decide)
      have gg := gcd_pos_r (a := vv i) (b := vv j) (by omega)
      have bb := bi.2.1
      have bc := bj.2.1
      have wm : w64 (-(vv j)) = -(vv j) := w64_id (by unfold ab at bc; unfold i64; omega)
      have wp : w64 (gp vv i j) = gp vv i j := w64_id (by unfold i64; omega)
      have wq : w64 (gq vv i j) = gq vv i j := w64_id (by unfold i64; omega)
      refine sp_X12_gcd (by unfold ab at bb; omega) (by unfold ab at bc; omega) ?_
      have gne : ((Int.gcd (vv i) (vv j) : Nat) : Int) ≠ 0 := by omega
      apply g_X12_isSafe_302
      rw [L.f39.1, L.f40.1, L.f41.1]
      simp only [rh, rv, rc]
      refine fun _ _ _ _ v3 e3 => ⟨L.k, L.f40.2.1, j0, by rw [L.f40.2.2]; exact j1, by rw [e3]; exact gne, fun v5 e5 => ⟨L.k, L.f40.2.1, i0, by rw [L.f40.2.2]; exact i1, by rw [e3]; exact gne, fun v7 e7 => ⟨L.f39.2.1, by rw [L.f39.2.2]; exact i1, j0, by rw [L.f39.2.2]; exact j1, L.f41.2.1, by rw [L.f41.2.2]; exact i1, L.f41.2.1, j0, by rw [L.f41.2.2]; exact j1, L.k, ?_⟩⟩⟩
      rw [e3, wm] at e5
      rw [e3] at e7
      have e5' : v5 = gp vv i j := e5.trans wp
      have e7' : v7 = gq vv i j := e7.trans wq
      rw [e5', e7', w64_3 (ab_le c1 (by decide)) (ab_le c2 (by decide)), w64_3 (ab_le c5 (by decide)) (ab_le c6 (by decide))]
      clear e5 e7 e3 wm wp wq e5' e7'
      obtain ⟨S, hA, hG, hC⟩ := H
      have C := hC lost
      have s1 := ab_add c1 c2 (Int.le_refl _)
      have s2 := ab_add c5 c6 (Int.le_refl _)
      refine sp_X12_alone L.k hA (by unfold ab at s1; omega) (by unfold ab at s2; omega) (fun μ' f1 a1 => next μ' (f.trans f1) ⟨_, a1, ?_, fun _ => ⟨fun a z y => Or.inl (C.1 a z y), fun a b z x y => ?_⟩⟩)
      · intro a d' z
        rcases z with z | ⟨z1, z2⟩
        · exact hG a d' z
        · exact Or.inr ⟨i, j, _, _, i0, i2, j0, j2, hm, mj, g1, g2, g3, z1, z2⟩
      · by_cases q : a = i ∧ b = j
        · rw [q.1, q.2]
          exact ⟨_, _, g1, g2, g3, Or.inr ⟨rfl, rfl⟩⟩
        · obtain ⟨p', q', r1, r2, r3, r4⟩ := C.2 a b (by unfold Dj at *; omega) x y
          exact ⟨p', q', r1, r2, r3, Or.inl r4⟩
    · refine next μ f (H.mono (fun _ _ z _ => z) (fun _ a b z _ y => ?_))
      by_cases q : a = i ∧ b = j
      · rw [q.2] at y; omega
      · unfold Dj at *; omega
theorem is2_out {Q X : m_Po} {ε : m_E} {M : Int} (L : LM ε M) {T : Nat} (hT : T ≤ 672) {μ0 : m_M} {vh vv v1 : Int → Int} (W0 : RV μ0 M T vh vv v1) (B : VB vh vv v1 T)
    (nxt : ∀ μ : m_M, FF M 43 49 μ0 μ → S2 vh vv v1 T (Zi T) (Di T T) (μ M) → ((μ M 43 ≠ 0 → G cd_X12_isSafe Q X 411 [] [] ε μ) ∧ (μ M 43 = 0 → o_X12_lies [(1, μ M 44), (1, μ M 45), (1, μ M 46), (1, μ M 47)] ε μ (fun z ε_1 μ_1 => G cd_X12_isSafe Q X 404 [] [(0, z)] ε_1 μ_1) m_F))) :
    ∀ (d i : Nat) (μ : m_M), i + d = T → FF M 43 49 μ0 μ → S2 vh vv v1 T (Zi i) (Di i T) (μ M) → G cd_X12_isSafe Q X 210 [(0, (2, M)), (1, (0, i))] [] ε μ := by
  intro d
  induction d with
  | zero =>
    intro i μ hd f H
    have hi : i = T := by omega
    subst hi
    have r := (W0.ff f).1
    apply g_X12_isSafe_210
    rw [r]
    refine fun _ _ => ⟨L.k, fun _ => nxt μ f H, fun z => absurd z (by omega)⟩
  | succ d ih =>
    intro i μ hd f H
    obtain ⟨r, rh, rv, rc⟩ := W0.ff f
    have i0 : (0 : Int) ≤ i := by omega
    have i1 : (i : Int) < 700 := by omega
    have i2 : (i : Int) < T := by omega
    have iN : ¬ (T : Int) ≤ i := by omega
    have im : i < 2147483647 := by omega
    have hd' : i + 1 + d = T := by omega
    have next : ∀ μ' : m_M, FF M 43 49 μ0 μ' → S2 vh vv v1 T (Zi ((i + 1 : Nat) : Int)) (Di ((i + 1 : Nat) : Int) T) (μ' M) → G cd_X12_isSafe Q X 372 [(0, (2, M)), (1, (0, i))] [] ε μ' := by
      intro μ' a1 a2
      apply g_X12_isSafe_372
      refine fun _ _ v2 e2 => ?_
      rw [w32_succ im e2]
      exact ih (i + 1) μ' hd' a1 a2
    have inner : ∀ μ' : m_M, FF M 43 49 μ0 μ' → S2 vh vv v1 T (Zi ((i + 1 : Nat) : Int)) (Di i T) (μ' M) → G cd_X12_isSafe Q X 245 [(0, (2, M)), (1, (0, i))] [] ε μ' := by
      intro μ' a1 a5
      apply g_X12_isSafe_245
      refine fun _ _ v2 e2 => ?_
      rw [e2]
      by_cases mi : 0 < vv i
      · refine is2_in L hT W0 B (i := i) (by omega) mi (Z := Zi ((i + 1 : Nat) : Int)) (fun μ2 b1 b5 => next μ2 b1 (b5.mono (fun _ _ z _ => z) (fun _ a b z _ _ => ?_))) T 0 μ' (by omega) a1 (a5.mono (fun _ _ z _ => z) (fun _ a b z _ _ => ?_))
        · unfold Di at z; unfold Dj; omega
        · unfold Dj at z; unfold Di; omega
      · obtain ⟨r', rh', rv', rc'⟩ := W0.ff a1
        have goal : G cd_X12_isSafe Q X 372 [(0, (2, M)), (1, (0, i))] [] ε μ' := by
          refine next μ' a1 (a5.mono (fun _ _ z _ => z) (fun _ a b z m1 _ => ?_))
          by_cases q : a = i
          · rw [q] at m1; omega
          · unfold Di at *; omega
        apply g_X12_isSafe_247
        rw [r', L.f40.1, rv', rv']
        refine fun _ _ _ => ⟨L.k, fun _ => goal, fun _ => ⟨L.f40.2.1, i0, by rw [L.f40.2.2]; exact i1, fun _ => goal, fun z => absurd z mi⟩⟩
    apply g_X12_isSafe_210
    rw [r, L.f39.1, L.f40.1, L.f41.1]
    simp only [rh, rv, rc]
    refine fun _ _ => ⟨L.k, fun z => absurd z iN, fun _ => ⟨L.f40.2.1, i0, by rw [L.f40.2.2]; exact i1, fun mi => ?_, fun mi => ⟨L.f39.2.1, by rw [L.f39.2.2]; exact i1, L.f41.2.1, by rw [L.f41.2.2]; exact i1, ?_⟩⟩⟩
    · refine inner μ f (H.mono (fun _ a z m1 => ?_) (fun _ _ _ z _ _ => z))
      by_cases q : a = i
      · rw [q] at m1; exact absurd m1 mi
      · unfold Zi at *; omega
    · have bb := B i i0 i2
      obtain ⟨S, hA, hG, hC⟩ := H
      have b1 := bb.1
      have b3 := bb.2.2
      refine sp_X12_alone L.k hA (by unfold ab at b1; omega) (by unfold ab at b3; omega) (fun μ' f1 a1 => inner μ' (f.trans f1) ⟨_, a1, ?_, fun lo => ?_⟩)
      · intro a d' z
        rcases z with z | ⟨z1, z2⟩
        · exact hG a d' z
        · exact Or.inl ⟨i, i0, i2, mi, z1, z2⟩
      · have lo0 : μ M 43 = 0 := by
          rcases hA.i43 with q | q
          · exact q
          · obtain ⟨d', e1, e2⟩ := hA.lost q
            have := a1.ok0 lo d' (Or.inl e1)
            omega
        have C := hC lo0
        refine ⟨fun a z y => ?_, fun a b z x y => ?_⟩
        · by_cases q : a = i
          · rw [q]; exact Or.inr ⟨rfl, rfl⟩
          · exact Or.inl (C.1 a (by unfold Zi at *; omega) y)
        · obtain ⟨p', q', r1, r2, r3, r4⟩ := C.2 a b z x y
          exact ⟨p', q', r1, r2, r3, Or.inl r4⟩
