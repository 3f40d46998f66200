/-! ===== isSafe, its first loop ===== -/
def Zi (i : Int) : Int → Prop := fun k => 0 ≤ k ∧ k < i
def Di (i n : Int) : Int → Int → Prop := fun a b => 0 ≤ a ∧ a < i ∧ 0 ≤ b ∧ b < n
def Dj (i j n : Int) : Int → Int → Prop := fun a b => 0 ≤ a ∧ 0 ≤ b ∧ b < n ∧ (a < i ∨ (a = i ∧ b < j))
def cP (m : Int → Int) (n : Nat) : Nat := ct (fun k => decide (0 < m k)) n
def cN (m : Int → Int) (n : Nat) : Nat := ct (fun k => decide (m k < 0)) n
def cZ (m : Int → Int) (n : Nat) : Nat := ct (fun k => decide (m k = 0)) n
theorem cP_at (m : Int → Int) (n : Nat) : cP m (n + 1) = cP m n + (if 0 < m n then 1 else 0) := by unfold cP; rw [ct_at]; simp
theorem cN_at (m : Int → Int) (n : Nat) : cN m (n + 1) = cN m n + (if m n < 0 then 1 else 0) := by unfold cN; rw [ct_at]; simp
theorem cZ_at (m : Int → Int) (n : Nat) : cZ m (n + 1) = cZ m n + (if m n = 0 then 1 else 0) := by unfold cZ; rw [ct_at]; simp
theorem c_bound (m : Int → Int) {i j n : Nat} (hn : n ≤ 48) (hi : i ≤ n) (hj : j ≤ n) : cP m i * cN m n + cZ m i + cN m j ≤ 672 := by
  have s := ct_sum m n
  have a := ct_mono (fun k => decide (0 < m k)) i (n - i)
  have b := ct_mono (fun k => decide (m k < 0)) j (n - j)
  have c := ct_le (fun k => decide (m k = 0)) i
  rw [show i + (n - i) = n by omega] at a
  rw [show j + (n - j) = n by omega] at b
  have p := ct_prod (cP m i) (by unfold cP; omega) (cN m n) (by unfold cN; omega) (by unfold cP cN; omega)
  unfold cP cN cZ at *
  omega
theorem w64_2 {a b : Int} (ha : ab a 4000000000000) (hb : ab b 4000000000000) : w64 (w64 a + w64 b) = a + b := by
  unfold ab at ha hb
  rw [w64_id (z := a) (by unfold i64; omega), w64_id (z := b) (by unfold i64; omega), w64_id (by unfold i64; omega)]
theorem ab_le {x A B : Int} (h : ab x A) (hb : A ≤ B) : ab x B := by unfold ab at *; omega
theorem ab_add {x y A B C : Int} (h : ab x A) (k : ab y B) (hc : A + B ≤ C) : ab (x + y) C := by unfold ab at *; omega
/-- what the rows h, v, m, c of the reference at M are -/
def RW (μ : m_M) (M n : Int) (h v m c : Int → Int) : Prop := μ M 35 = n ∧ (∀ k, μ (M + 26) k = h k) ∧ (∀ k, μ (M + 27) k = v k) ∧ (∀ k, μ (M + 28) k = m k) ∧ ∀ k, μ (M + 29) k = c k
theorem RW.fs {μ μ' : m_M} {M n : Int} {h v m c : Int → Int} (H : RW μ M n h v m c) (f : FS M μ μ') : RW μ' M n h v m c := by
  obtain ⟨h1, h2, h3, h4, h5⟩ := H
  refine ⟨(f M 35 (by omega) (by omega) (by omega) (by omega)).trans h1, fun k => (f _ k (by omega) (by omega) (by omega) (by omega)).trans (h2 k), fun k => (f _ k (by omega) (by omega) (by omega) (by omega)).trans (h3 k), fun k => (f _ k (by omega) (by omega) (by omega) (by omega)).trans (h4 k), fun k => (f _ k (by omega) (by omega) (by omega) (by omega)).trans (h5 k)⟩
theorem is_in {Q X : m_Po} {ε : m_E} {M : Int} (L : LM ε M) {n : Nat} (hn : n ≤ 48) {μ0 : m_M} {h v m c : Int → Int} (W0 : RW μ0 M n h v m c) (B : FMB h v m c n) {i : Nat} (hi : i < n) (hm : 0 < m i) {Z : Int → Prop} {base : Nat} (hb : ∀ j, j ≤ n → base + cN m j ≤ 672)
    (nxt : ∀ μ : m_M, FS M μ0 μ → (∀ k, 43 ≤ k → μ M k = μ0 M k) → 0 ≤ μ M 42 → μ M 42 ≤ ((base + cN m n : Nat) : Int) → TT h v m c Z (Dj i n n) (μ (M + 44)) (μ (M + 45)) (μ (M + 46)) (μ M 42) → G cd_X12_isSafe Q X 202 [(0, (2, M)), (1, (0, i))] [] ε μ) :
    ∀ (d j : Nat) (μ : m_M), j + d = n → FS M μ0 μ → (∀ k, 43 ≤ k → μ M k = μ0 M k) → 0 ≤ μ M 42 → μ M 42 ≤ ((base + cN m j : Nat) : Int) → TT h v m c Z (Dj i j n) (μ (M + 44)) (μ (M + 45)) (μ (M + 46)) (μ M 42) → G cd_X12_isSafe Q X 65 [(0, (2, M)), (1, (0, i)), (2, (0, j))] [] ε μ := by
  intro d
  induction d with
  | zero =>
    intro j μ hd f k43 T0 T1 H
    have hj : j = n := by omega
    subst hj
    have r := (W0.fs f).1
    apply g_X12_isSafe_65
    rw [r]
    refine fun _ _ _ => ⟨L.k, fun _ => nxt μ f k43 T0 T1 H, fun z => absurd z (by omega)⟩
  | succ d ih =>
    intro j μ hd f k43 T0 T1 H
    obtain ⟨r, rh, rv, rm, rc⟩ := W0.fs f
    have i0 : (0 : Int) ≤ i := by omega
    have i1 : (i : Int) < 48 := by omega
    have i2 : (i : Int) < n := by omega
    have j0 : (0 : Int) ≤ j := by omega
    have j1 : (j : Int) < 48 := by omega
    have j2 : (j : Int) < n := by omega
    have jn : ¬ (n : Int) ≤ j := by omega
    have jm : j < 2147483647 := by omega
    have bj := hb j (by omega)
    have T2 : μ M 42 < 700 := by omega
    have hd' : j + 1 + d = n := by omega
    have nm : ¬ m i ≤ 0 := by omega
    have next : ∀ μ' : m_M, FS M μ0 μ' → (∀ k, 43 ≤ k → μ' M k = μ0 M k) → 0 ≤ μ' M 42 → μ' M 42 ≤ ((base + cN m (j + 1) : Nat) : Int) → TT h v m c Z (Dj i ((j + 1 : Nat) : Int) n) (μ' (M + 44)) (μ' (M + 45)) (μ' (M + 46)) (μ' M 42) → G cd_X12_isSafe Q X 196 [(0, (2, M)), (1, (0, i)), (2, (0, j))] [] ε μ' := by
      intro μ' a1 a2 a3 a4 a5
      apply g_X12_isSafe_196
      refine fun _ _ _ v2 e2 => ?_
      rw [w32_succ jm e2]
      exact ih (j + 1) μ' hd' a1 a2 a3 a4 a5
    apply g_X12_isSafe_65
    rw [r, L.f32.1, rm, rm]
    refine fun _ _ _ => ⟨L.k, fun z => absurd z jn, fun _ => ⟨L.f32.2.1, i0, by rw [L.f32.2.2]; exact i1, fun z => absurd z nm, fun _ => ⟨j0, by rw [L.f32.2.2]; exact j1, fun mj => ?_, fun mj => ?_⟩⟩⟩
    · have bi := (B.1 i i0 i2).1
      have bj' := (B.1 j j0 j2).1
      obtain ⟨c1, c2, c3, c4, c5, c6⟩ := B.2 i j i0 i2 j0 j2 hm mj
      obtain ⟨g1, g2, g3, g4, g5⟩ := gpq hm mj
      have gg := gcd_pos_r (a := m i) (b := m j) (by omega)
      have wm : w64 (-(m j)) = -(m j) := w64_id (by unfold ab at bj'; unfold i64; omega)
      have wp : w64 (gp m i j) = gp m i j := w64_id (by unfold ab at bj'; unfold i64; omega)
      have wq : w64 (gq m i j) = gq m i j := w64_id (by unfold ab at bi; unfold i64; omega)
      refine sp_X12_gcd (by unfold ab at bi; omega) (by unfold ab at bj'; omega) ?_
      have gne : ((Int.gcd (m i) (m j) : Nat) : Int) ≠ 0 := by omega
      apply g_X12_isSafe_113
      rw [L.f30.1, L.f31.1, L.f32.1, L.f33.1]
      simp only [rh, rv, rm, rc]
      refine fun _ _ _ _ v3 e3 => ⟨L.k, L.f32.2.1, j0, by rw [L.f32.2.2]; exact j1, by rw [e3]; exact gne, fun v5 e5 => ⟨L.k, L.f32.2.1, i0, by rw [L.f32.2.2]; exact i1, by rw [e3]; exact gne, fun v7 e7 => ⟨L.f30.2.1, by rw [L.f30.2.2]; exact i1, j0, by rw [L.f30.2.2]; exact j1, L.f31.2.1, by rw [L.f31.2.2]; exact i1, L.f31.2.1, j0, by rw [L.f31.2.2]; exact j1, L.k, L.f33.2.1, i0, by rw [L.f33.2.2]; exact i1, j0, by rw [L.f33.2.2]; exact j1, L.k, ?_⟩⟩⟩
      rw [e3, wm] at e5
      rw [e3] at e7
      have e5' : v5 = gp m i j := e5.trans wp
      have e7' : v7 = gq m i j := e7.trans wq
      rw [e5', e7', w64_2 (ab_le c1 (by decide)) (ab_le c2 (by decide)), w64_2 (ab_le c3 (by decide)) (ab_le c4 (by decide)), w64_2 c5 c6]
      clear e5 e7 e3 wm wp wq e5' e7'
      refine sp_X12_two L T0 T2 (fun μ' f1 f2 f3 f4 f5 f6 => next μ' (f.trans f1) (fun k hk => by rw [f3 k (by omega)]; exact k43 k hk) (by omega) ?_ ?_)
      · rw [f2, cN_at, if_pos mj]; omega
      · rw [f2]
        refine TT.add (Z' := Z) (D' := Dj i ((j + 1 : Nat) : Int) n) T0 H (fun _ z => z) ?_ (fun _ z _ => Or.inl z) ?_ ?_ ⟨ab_add c1 c2 (by decide), ab_add c3 c4 (by decide), ab_add c5 c6 (by decide)⟩ f4 f5 f6
        · intro a b z
          unfold Dj at *; omega
        · intro a b z _ _
          by_cases q : a = i ∧ b = j
          · rw [q.1, q.2]
            exact Or.inr ⟨_, _, g1, g2, g3, rfl, rfl, rfl⟩
          · refine Or.inl ?_
            unfold Dj at *; omega
        · exact Or.inr ⟨i, j, _, _, by unfold Dj; omega, hm, mj, g1, g2, g3, rfl, rfl, rfl⟩
    · refine next μ f k43 T0 ?_ ?_
      · rw [cN_at, if_neg (by omega)]; exact T1
      · refine H.mono (fun _ z => z) ?_ (fun _ z _ => z) ?_
        · intro a b z
          unfold Dj at *; omega
        · intro a b z _ m2
          by_cases q : a = i ∧ b = j
          · rw [q.2] at m2; omega
          · unfold Dj at *; omega
theorem is_out {Q X : m_Po} {ε : m_E} {M : Int} (L : LM ε M) {n : Nat} (hn : n ≤ 48) {μ0 : m_M} {h v m c : Int → Int} (W0 : RW μ0 M n h v m c) (B : FMB h v m c n)
    (nxt : ∀ μ : m_M, FS M μ0 μ → (∀ k, 43 ≤ k → μ M k = μ0 M k) → 0 ≤ μ M 42 → μ M 42 ≤ 672 → TT h v m c (Zi n) (Di n n) (μ (M + 44)) (μ (M + 45)) (μ (M + 46)) (μ M 42) → G cd_X12_isSafe Q X 210 [(0, (2, M)), (1, (0, 0))] [] ε μ) :
    ∀ (d i : Nat) (μ : m_M), i + d = n → FS M μ0 μ → (∀ k, 43 ≤ k → μ M k = μ0 M k) → 0 ≤ μ M 42 → μ M 42 ≤ ((cP m i * cN m n + cZ m i : Nat) : Int) → TT h v m c (Zi i) (Di i n) (μ (M + 44)) (μ (M + 45)) (μ (M + 46)) (μ M 42) → G cd_X12_isSafe Q X 22 [(0, (2, M)), (1, (0, i))] [] ε μ := by
  intro d
  induction d with
  | zero =>
    intro i μ hd f k43 T0 T1 H
    have hi : i = n := by omega
    subst hi
    have r := (W0.fs f).1
    have cb := c_bound m (i := i) (j := 0) hn (Nat.le_refl _) (by omega)
    apply g_X12_isSafe_22
    rw [r]
    refine fun _ _ => ⟨L.k, fun _ v1 e1 => ?_, fun z => absurd z (by omega)⟩
    rw [e1]
    exact nxt μ f k43 T0 (by omega) H
  | succ d ih =>
    intro i μ hd f k43 T0 T1 H
    obtain ⟨r, rh, rv, rm, rc⟩ := W0.fs f
    have i0 : (0 : Int) ≤ i := by omega
    have i1 : (i : Int) < 48 := by omega
    have i2 : (i : Int) < n := by omega
    have iN : ¬ (n : Int) ≤ i := by omega
    have im : i < 2147483647 := by omega
    have cb := c_bound m (i := i) (j := 0) hn (by omega) (by omega)
    have T2 : μ M 42 < 700 := by omega
    have hd' : i + 1 + d = n := by omega
    have next : ∀ μ' : m_M, FS M μ0 μ' → (∀ k, 43 ≤ k → μ' M k = μ0 M k) → 0 ≤ μ' M 42 → μ' M 42 ≤ ((cP m (i + 1) * cN m n + cZ m (i + 1) : Nat) : Int) → TT h v m c (Zi ((i + 1 : Nat) : Int)) (Di ((i + 1 : Nat) : Int) n) (μ' (M + 44)) (μ' (M + 45)) (μ' (M + 46)) (μ' M 42) → G cd_X12_isSafe Q X 202 [(0, (2, M)), (1, (0, i))] [] ε μ' := by
      intro μ' a1 a2 a3 a4 a5
      apply g_X12_isSafe_202
      refine fun _ _ v2 e2 => ?_
      rw [w32_succ im e2]
      exact ih (i + 1) μ' hd' a1 a2 a3 a4 a5
    have inner : ∀ μ' : m_M, FS M μ0 μ' → (∀ k, 43 ≤ k → μ' M k = μ0 M k) → 0 ≤ μ' M 42 → μ' M 42 ≤ ((cP m i * cN m n + cZ m (i + 1) : Nat) : Int) → TT h v m c (Zi ((i + 1 : Nat) : Int)) (Di i n) (μ' (M + 44)) (μ' (M + 45)) (μ' (M + 46)) (μ' M 42) → G cd_X12_isSafe Q X 63 [(0, (2, M)), (1, (0, i))] [] ε μ' := by
      intro μ' a1 a2 a3 a4 a5
      apply g_X12_isSafe_63
      refine fun _ _ v2 e2 => ?_
      rw [e2]
      by_cases mi : 0 < m i
      · have zz : cZ m (i + 1) = cZ m i := by rw [cZ_at, if_neg (by omega)]; rfl
        rw [zz] at a4
        refine is_in L hn W0 B (i := i) (by omega) mi (Z := Zi ((i + 1 : Nat) : Int)) (base := cP m i * cN m n + cZ m i) (fun j hj => c_bound m hn (by omega) hj) (fun μ2 b1 b2 b3 b4 b5 => next μ2 b1 b2 b3 ?_ ?_) n 0 μ' (by omega) a1 a2 a3 ?_ ?_
        · rw [cP_at, if_pos mi, zz, Nat.add_mul]
          omega
        · refine b5.mono (fun _ z => z) ?_ (fun _ z _ => z) ?_
          · intro a b z; unfold Dj at z; unfold Di; omega
          · intro a b z _ _; unfold Di at z; unfold Dj; omega
        · exact a4
        · refine a5.mono (fun _ z => z) ?_ (fun _ z _ => z) ?_
          · intro a b z; unfold Di at z; unfold Dj; omega
          · intro a b z _ _; unfold Dj at z; unfold Di; omega
      · obtain ⟨r', rh', rv', rm', rc'⟩ := W0.fs a1
        have goal : G cd_X12_isSafe Q X 202 [(0, (2, M)), (1, (0, i))] [] ε μ' := by
          refine next μ' a1 a2 a3 ?_ ?_
          · rw [cP_at, if_neg mi]; exact a4
          · refine a5.mono (fun _ z => z) ?_ (fun _ z _ => z) ?_
            · intro a b z; unfold Di at *; omega
            · intro a b z m1 _
              by_cases q : a = i
              · rw [q] at m1; omega
              · unfold Di at *; omega
        apply g_X12_isSafe_65
        rw [r', L.f32.1, rm', rm']
        refine fun _ _ _ => ⟨L.k, fun _ => goal, fun _ => ⟨L.f32.2.1, i0, by rw [L.f32.2.2]; exact i1, fun _ => goal, fun z => absurd z mi⟩⟩
    apply g_X12_isSafe_22
    rw [r, L.f30.1, L.f31.1, L.f32.1, L.f33.1]
    simp only [rh, rv, rm, rc]
    refine fun _ _ => ⟨L.k, fun z => absurd z iN, fun _ => ⟨L.f32.2.1, i0, by rw [L.f32.2.2]; exact i1, fun mi => ?_, fun mi => ⟨L.f30.2.1, by rw [L.f30.2.2]; exact i1, L.f31.2.1, by rw [L.f31.2.2]; exact i1, L.f33.2.1, by rw [L.f33.2.2]; exact i1, ?_⟩⟩⟩
    · refine inner μ f k43 T0 ?_ ?_
      · rw [cZ_at, if_neg mi]; exact T1
      · refine H.mono ?_ (fun _ _ z => z) ?_ (fun _ _ z _ _ => z)
        · intro a z; unfold Zi at *; omega
        · intro a z m1
          by_cases q : a = i
          · rw [q] at m1; exact absurd m1 mi
          · unfold Zi at *; omega
    · have bb := B.1 i i0 i2
      refine sp_X12_two L T0 T2 (fun μ' f1 f2 f3 f4 f5 f6 => inner μ' (f.trans f1) (fun k hk => by rw [f3 k (by omega)]; exact k43 k hk) (by omega) ?_ ?_)
      · rw [f2, cZ_at, if_pos mi]; omega
      · rw [f2]
        refine TT.add (Z' := Zi ((i + 1 : Nat) : Int)) (D' := Di i n) T0 H ?_ (fun _ _ z => z) ?_ (fun _ _ z _ _ => Or.inl z) ?_ bb.2 f4 f5 f6
        · intro a z; unfold Zi at *; omega
        · intro a z _
          by_cases q : a = i
          · rw [q]; exact Or.inr ⟨rfl, rfl, rfl⟩
          · refine Or.inl ?_; unfold Zi at *; omega
        · exact Or.inl ⟨i, by unfold Zi; omega, mi, rfl, rfl, rfl⟩
