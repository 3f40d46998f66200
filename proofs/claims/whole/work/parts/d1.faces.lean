set_option maxHeartbeats 1000000
/-! ===== faces and what two faces share; the reference's joins ===== -/
def fs {α : Type} (f : Int → Option α) (i : Int) : Nat → Option α
  | 0 => none
  | k + 1 => match f i with
    | some x => some x
    | none => fs f (i + 1) k
theorem fs_hit {α : Type} {f : Int → Option α} {i : Int} {k : Nat} {x : α} (h : f i = some x) : fs f i (k + 1) = some x := by
  unfold fs; rw [h]
theorem fs_miss {α : Type} {f : Int → Option α} {i : Int} {k : Nat} (h : f i = none) : fs f i (k + 1) = fs f (i + 1) k := by
  rw [fs.eq_2, h]
theorem fs_congr {α : Type} {f g : Int → Option α} : ∀ (k : Nat) (i : Int), (∀ j, i ≤ j → j < i + k → f j = g j) → fs f i k = fs g i k := by
  intro k
  induction k with
  | zero => intro i _; rfl
  | succ k ih =>
    intro i h
    have e := h i (by omega) (by omega)
    cases hg : g i with
    | some x => rw [fs_hit hg, fs_hit (e.trans hg)]
    | none => rw [fs_miss hg, fs_miss (e.trans hg)]; exact ih (i + 1) (fun j j0 j1 => h j (by omega) (by omega))
theorem fs_some {α : Type} {f : Int → Option α} {x : α} : ∀ (k : Nat) (i : Int), fs f i k = some x → ∃ j, i ≤ j ∧ j < i + k ∧ f j = some x := by
  intro k
  induction k with
  | zero => intro i h; cases h
  | succ k ih =>
    intro i h
    cases hf : f i with
    | some y => rw [fs_hit hf] at h; exact ⟨i, by omega, by omega, hf.trans h⟩
    | none =>
      rw [fs_miss hf] at h
      obtain ⟨j, j0, j1, j2⟩ := ih (i + 1) h
      exact ⟨j, by omega, by omega, j2⟩
theorem fs_none {α : Type} {f : Int → Option α} : ∀ (k : Nat) (i : Int), fs f i k = none → ∀ j, i ≤ j → j < i + k → f j = none := by
  intro k
  induction k with
  | zero => intro i _ j j0 j1; omega
  | succ k ih =>
    intro i h j j0 j1
    cases hf : f i with
    | some y => rw [fs_hit hf] at h; cases h
    | none =>
      rw [fs_miss hf] at h
      by_cases q : j = i
      · rw [q]; exact hf
      · exact ih (i + 1) h j (by omega) (by omega)
abbrev Sp : Type := Int × Int × Int × Int
/-- the span that two faces share: a to b, c to d, by how far d, c and b lie along a to b -/
def shx (F T A ax ay bx by_ cx cy dx dy : Int) : Option Sp :=
  if T ≤ F then none else if (if A ≤ T then A else T) ≤ (if F ≤ 0 then 0 else F) then none
  else some (if F ≤ 0 then ax else dx, if F ≤ 0 then ay else dy, if A ≤ T then bx else cx, if A ≤ T then by_ else cy)
def shr (ax ay bx by_ cx cy dx dy : Int) : Option Sp :=
  if (bx - ax) * (cy - ay) - (by_ - ay) * (cx - ax) = 0 then
    if (bx - ax) * (dy - ay) - (by_ - ay) * (dx - ax) = 0 then shx ((bx - ax) * (dx - ax) + (by_ - ay) * (dy - ay)) ((bx - ax) * (cx - ax) + (by_ - ay) * (cy - ay)) ((bx - ax) * (bx - ax) + (by_ - ay) * (by_ - ay)) ax ay bx by_ cx cy dx dy
    else none
  else none
def fcn (σ : m_M) (a p : Int) : Int := if p < 0 then (if σ 17 (2 * a) = 0 then 0 else 1) else if p = σ 15 a then (if σ 17 (2 * a + 1) = 0 then 0 else 1) else if 0 ≤ σ 16 (10 * a + p) then σ 5 (σ 16 (10 * a + p)) else 0
def fA (σ : m_M) (a p i w : Int) : Int := if p < 0 then σ 18 (8 * a + w) else if p = σ 15 a then σ 18 (8 * a + 4 + w) else if w % 2 = 0 then σ 6 (12 * σ 16 (10 * a + p) + (if 2 ≤ w then (i + 1) % σ 5 (σ 16 (10 * a + p)) else i)) else σ 7 (12 * σ 16 (10 * a + p) + (if 2 ≤ w then (i + 1) % σ 5 (σ 16 (10 * a + p)) else i))
def jf (σ : m_M) (a k i j : Int) : Option Sp := shr (fA σ a (k - 1) i 0) (fA σ a (k - 1) i 1) (fA σ a (k - 1) i 2) (fA σ a (k - 1) i 3) (fA σ a k j 0) (fA σ a k j 1) (fA σ a k j 2) (fA σ a k j 3)
/-- what joint k is -/
def jo (σ : m_M) (a k : Int) : Option Sp := fs (fun i => fs (fun j => jf σ a k i j) 0 (fcn σ a k).toNat) 0 (fcn σ a (k - 1)).toNat
/-- the corners are near -/
def MG (σ : m_M) (a : Int) : Prop := (∀ p, 0 ≤ p → p < σ 15 a → 0 ≤ σ 16 (10 * a + p) → 3 ≤ σ 5 (σ 16 (10 * a + p)) ∧ σ 5 (σ 16 (10 * a + p)) ≤ 12 ∧ ∀ i, 0 ≤ i → i < σ 5 (σ 16 (10 * a + p)) → ab (σ 6 (12 * σ 16 (10 * a + p) + i)) 100 ∧ ab (σ 7 (12 * σ 16 (10 * a + p) + i)) 100) ∧ ∀ i, 0 ≤ i → i < 8 → ab (σ 18 (8 * a + i)) 100
theorem fcn_rng {σ : m_M} {a p : Int} (G' : MG σ a) (p1 : p ≤ σ 15 a) : 0 ≤ fcn σ a p ∧ fcn σ a p ≤ 12 := by
  unfold fcn
  by_cases q : p < 0
  · rw [if_pos q]; split <;> omega
  · rw [if_neg q]
    by_cases r : p = σ 15 a
    · rw [if_pos r]; split <;> omega
    · rw [if_neg r]
      split
      · have := G'.1 p (by omega) (by omega) (by assumption); omega
      · omega
theorem fA_ab {σ : m_M} {a p i w : Int} (G' : MG σ a) (p1 : p ≤ σ 15 a) (i0 : 0 ≤ i) (i1 : i < fcn σ a p) (w0 : 0 ≤ w) (w1 : w < 4) : ab (fA σ a p i w) 100 := by
  unfold fA
  by_cases q : p < 0
  · rw [if_pos q]; exact G'.2 w w0 (by omega)
  · rw [if_neg q]
    by_cases r : p = σ 15 a
    · rw [if_pos r, show 8 * a + 4 + w = 8 * a + (4 + w) by omega]; exact G'.2 (4 + w) (by omega) (by omega)
    · rw [if_neg r]
      unfold fcn at i1
      rw [if_neg q, if_neg r] at i1
      by_cases z : 0 ≤ σ 16 (10 * a + p)
      · rw [if_pos z] at i1
        obtain ⟨n3, n12, g⟩ := G'.1 p (by omega) (by omega) z
        have h : ab (σ 6 (12 * σ 16 (10 * a + p) + (if 2 ≤ w then (i + 1) % σ 5 (σ 16 (10 * a + p)) else i))) 100 ∧ ab (σ 7 (12 * σ 16 (10 * a + p) + (if 2 ≤ w then (i + 1) % σ 5 (σ 16 (10 * a + p)) else i))) 100 := by
          refine g _ ?_ ?_
          · split
            · exact Int.emod_nonneg _ (by omega)
            · exact i0
          · split
            · exact Int.emod_lt_of_pos _ (by omega)
            · exact i1
        split
        · exact h.1
        · exact h.2
      · rw [if_neg z] at i1; omega
theorem sp_X12_facesOf {Q X : m_Po} {ε : m_E} {μ σ : m_M} {M a p : Int} (L : LM ε M) (S : SF μ M σ) (A : MA σ a) (p0 : -1 ≤ p) (p1 : p ≤ σ 15 a) (hh : Q (fcn σ a p) ε μ) : o_X12_facesOf [(2, M), (0, a), (0, p)] ε μ Q X := by
  obtain ⟨a0, a1, n1, n2, s, _⟩ := A
  have C : (p < 0 ∨ p = σ 15 a) → G cd_X12_facesOf Q X 14 [(0, (2, M)), (1, (0, a)), (2, (0, p))] [] ε μ := fun q => by
    apply g_X12_facesOf_14
    rw [L.f19.1]
    refine fun _ _ _ => ⟨L.k, fun t ht => ?_⟩
    have t01 : (p < 0 ∧ t = 0) ∨ (p = σ 15 a ∧ 0 ≤ p ∧ t = 1) := by
      by_cases r : 0 ≤ p
      · rw [if_pos r] at ht; exact Or.inr ⟨by omega, r, ht⟩
      · rw [if_neg r] at ht; exact Or.inl ⟨by omega, ht⟩
    rw [w32_id (show i32 (2 * a) by unfold i32; omega), w32_id (show i32 (2 * a + t) by unfold i32; omega), S 17 _ (by decide) (by decide)]
    refine ⟨L.f19.2.1, by omega, by rw [L.f19.2.2]; omega, fun t1 ht1 => ?_⟩
    have : t1 = fcn σ a p := by
      rw [ht1]
      unfold fcn
      rcases t01 with ⟨r1, r2⟩ | ⟨r1, r2, r3⟩
      · rw [if_pos r1, r2, Int.add_zero]
      · rw [if_neg (show ¬ p < 0 by omega), if_pos r1, r3]
    rw [this]; exact hh
  apply e_X12_facesOf
  rw [L.f17.1, L.f18.1, L.f6.1, S 15 _ (by decide) (by decide)]
  refine fun _ _ _ => ⟨fun q => C (Or.inl q), fun q => ⟨L.k, L.f17.2.1, a0, by rw [L.f17.2.2]; exact a1, fun r => ?_, fun r => C (Or.inr r)⟩⟩
  rw [w32_id (show i32 (10 * a) by unfold i32; omega), w32_id (show i32 (10 * a + p) by unfold i32; omega), S 16 _ (by decide) (by decide)]
  refine ⟨L.f18.2.1, by omega, by rw [L.f18.2.2]; omega, fun v3 h3 => ⟨fun z => ⟨L.f6.2.1, z, by rw [L.f6.2.2, h3]; exact s p q (by omega)⟩, fun t ht => ?_⟩⟩
  rw [S 5 _ (by decide) (by decide)] at ht
  have : t = fcn σ a p := by
    rw [ht, h3]
    unfold fcn
    rw [if_neg (show ¬ p < 0 by omega), if_neg r]
  rw [this]; exact hh
theorem sp_X12_faceAt {Q X : m_Po} {ε : m_E} {μ σ : m_M} {M a p i w : Int} (L : LM ε M) (S : SF μ M σ) (A : MA σ a) (G' : MG σ a) (p0 : -1 ≤ p) (p1 : p ≤ σ 15 a) (i0 : 0 ≤ i) (i1 : i < fcn σ a p) (w0 : 0 ≤ w) (w1 : w < 4) (hh : Q (fA σ a p i w) ε μ) : o_X12_faceAt [(2, M), (0, a), (0, p), (0, i), (0, w)] ε μ Q X := by
  have rng := fcn_rng G' p1
  obtain ⟨a0, a1, n1, n2, s, _⟩ := A
  have C : (p < 0 ∨ p = σ 15 a) → G cd_X12_faceAt Q X 14 [(0, (2, M)), (1, (0, a)), (2, (0, p)), (4, (0, w))] [] ε μ := fun q => by
    apply g_X12_faceAt_14
    rw [L.f20.1]
    refine fun _ _ _ _ => ⟨L.k, fun t ht => ?_⟩
    have t01 : (p < 0 ∧ t = 0) ∨ (p = σ 15 a ∧ 0 ≤ p ∧ t = 1) := by
      by_cases r : 0 ≤ p
      · rw [if_pos r] at ht; exact Or.inr ⟨by omega, r, ht⟩
      · rw [if_neg r] at ht; exact Or.inl ⟨by omega, ht⟩
    rw [w32_id (show i32 (2 * a) by unfold i32; omega), w32_id (show i32 (2 * a + t) by unfold i32; omega), w32_id (show i32 (4 * (2 * a + t)) by unfold i32; omega), w32_id (show i32 (4 * (2 * a + t) + w) by unfold i32; omega), S 18 _ (by decide) (by decide)]
    refine ⟨L.f20.2.1, by omega, by rw [L.f20.2.2]; omega, ?_⟩
    have : σ 18 (4 * (2 * a + t) + w) = fA σ a p i w := by
      unfold fA
      rcases t01 with ⟨r1, r2⟩ | ⟨r1, r2, r3⟩
      · rw [if_pos r1, r2, show 4 * (2 * a + 0) + w = 8 * a + w by omega]
      · rw [if_neg (show ¬ p < 0 by omega), if_pos r1, r3, show 4 * (2 * a + 1) + w = 8 * a + 4 + w by omega]
    rw [this]; exact hh
  apply e_X12_faceAt
  rw [L.f17.1, L.f18.1, L.f6.1, L.f7.1, L.f8.1, S 15 _ (by decide) (by decide)]
  refine fun _ _ _ _ _ => ⟨fun q => C (Or.inl q), fun q => ⟨L.k, L.f17.2.1, a0, by rw [L.f17.2.2]; exact a1, fun r => ?_, fun r => C (Or.inr r)⟩⟩
  have ef : fcn σ a p = if 0 ≤ σ 16 (10 * a + p) then σ 5 (σ 16 (10 * a + p)) else 0 := by
    unfold fcn
    rw [if_neg (show ¬ p < 0 by omega), if_neg r]
  have z : 0 ≤ σ 16 (10 * a + p) := by
    by_cases z : 0 ≤ σ 16 (10 * a + p)
    · exact z
    · rw [if_neg z] at ef; omega
  rw [if_pos z] at ef
  have s' := s p q (by omega)
  rw [w32_id (show i32 (10 * a) by unfold i32; omega), w32_id (show i32 (10 * a + p) by unfold i32; omega), S 16 _ (by decide) (by decide)]
  refine ⟨L.f18.2.1, by omega, by rw [L.f18.2.2]; omega, fun v5 h5 => ?_⟩
  rw [S 5 _ (by decide) (by decide), w32_id (show i32 (i + 1) by unfold i32; omega)]
  refine ⟨fun _ => ⟨L.f6.2.1, by omega, by rw [L.f6.2.2]; omega, by rw [h5]; omega⟩, fun t ht v6 h6 => ?_⟩
  have et : t = if 2 ≤ w then (i + 1) % σ 5 (σ 16 (10 * a + p)) else i := by
    rw [ht, h5, Int.tmod_eq_emod_of_nonneg (by omega)]
  have t0 : 0 ≤ t ∧ t < 12 := by
    rw [et]
    split
    · have := Int.emod_nonneg (i + 1) (show σ 5 (σ 16 (10 * a + p)) ≠ 0 by omega)
      have := Int.emod_lt_of_pos (i + 1) (show 0 < σ 5 (σ 16 (10 * a + p)) by omega)
      omega
    · omega
  rw [w32_id (show i32 (12 * v5) by unfold i32; omega), w32_id (show i32 (12 * v5 + t) by unfold i32; omega)] at h6
  refine ⟨⟨fun _ => ⟨L.k, L.f8.2.1, by omega, by rw [L.f8.2.2]; omega⟩, fun _ => ⟨L.k, L.f7.2.1, by omega, by rw [L.f7.2.2]; omega⟩⟩, fun t1 ht1 => ?_⟩
  have : t1 = fA σ a p i w := by
    rw [ht1, Int.tmod_eq_emod_of_nonneg w0, S 6 _ (by decide) (by decide), S 7 _ (by decide) (by decide), h6, h5, et]
    unfold fA
    rw [if_neg (show ¬ p < 0 by omega), if_neg r]
  rw [this]; exact hh
theorem w32_ab {x A : Int} (h : ab x A) (hA : A < 2147483648) : w32 x = x := w32_id (by unfold ab at h; unfold i32; omega)
theorem sp_X12_turn {Q X : m_Po} {ε : m_E} {μ : m_M} {ax ay bx by_ cx cy : Int} (b1 : ab ax 100) (b2 : ab ay 100) (b3 : ab bx 100) (b4 : ab by_ 100) (b5 : ab cx 100) (b6 : ab cy 100) (hh : Q ((bx - ax) * (cy - ay) - (by_ - ay) * (cx - ax)) ε μ) : o_X12_turn [(0, ax), (0, ay), (0, bx), (0, by_), (0, cx), (0, cy)] ε μ Q X := by
  apply e_X12_turn
  have d1 := ab_sub b3 b1
  have d2 := ab_sub b6 b2
  have d3 := ab_sub b4 b2
  have d4 := ab_sub b5 b1
  have p1 := abm d1 d2
  have p2 := abm d3 d4
  rw [w32_ab d1 (by decide), w32_ab d2 (by decide), w32_ab d3 (by decide), w32_ab d4 (by decide), w32_ab p1 (by decide), w32_ab p2 (by decide), w32_ab (ab_sub p1 p2) (by decide)]
  exact fun _ _ _ _ _ _ _ => hh
