set_option maxHeartbeats 1000000
/-! ===== shapes: areas, moments, isSound ===== -/
def smA (f : Int → Int) : Nat → Int
  | 0 => 0
  | k + 1 => smA f k + f k
theorem smA_ab {f : Int → Int} {B : Int} : ∀ k : Nat, (∀ i : Int, 0 ≤ i → i < k → ab (f i) B) → ab (smA f k) (k * B) := by
  intro k
  induction k with
  | zero => intro _; unfold smA ab; omega
  | succ k ih =>
    intro h
    have h1 := ih (fun i a b => h i a (by omega))
    have h2 := h k (by omega) (by omega)
    have e : ((k + 1 : Nat) : Int) * B = (k : Int) * B + B := by
      rw [show ((k + 1 : Nat) : Int) = (k : Int) + 1 by omega, Int.add_mul, Int.one_mul]
    rw [e]
    exact ab_ad h1 h2
theorem smA_ext {f g : Int → Int} : ∀ k : Nat, (∀ i : Int, 0 ≤ i → i < k → f i = g i) → smA f k = smA g k := by
  intro k
  induction k with
  | zero => intro _; rfl
  | succ k ih =>
    intro h
    show smA f k + f k = smA g k + g k
    rw [ih (fun i a b => h i a (by omega)), h k (by omega) (by omega)]
def tuA (u v : Int → Int) (i : Int) : Int := u i * v (i + 1) - u (i + 1) * v i
def moA (w u v : Int → Int) (i : Int) : Int := (w i + w (i + 1)) * tuA u v i
theorem tuA_ab {u v : Int → Int} (bu : ∀ i, 0 ≤ i → ab (u i) 100) (bv : ∀ i, 0 ≤ i → ab (v i) 100) {i : Int} (i0 : 0 ≤ i) : ab (tuA u v i) 20000 := ab_sub (abm (bu i i0) (bv (i + 1) (by omega))) (abm (bu (i + 1) (by omega)) (bv i i0))
theorem moA_ab {w u v : Int → Int} (bw : ∀ i, 0 ≤ i → ab (w i) 100) (bu : ∀ i, 0 ≤ i → ab (u i) 100) (bv : ∀ i, 0 ≤ i → ab (v i) 100) {i : Int} (i0 : 0 ≤ i) : ab (moA w u v i) 4000000 := abm (ab_ad (bw i i0) (bw (i + 1) (by omega))) (tuA_ab bu bv i0)
theorem smA_12 {f : Int → Int} {B C : Int} {k : Nat} (hk : k ≤ 12) (B0 : 0 ≤ B) (hC : 12 * B ≤ C) (h : ∀ i : Int, 0 ≤ i → ab (f i) B) : ab (smA f k) C := by
  have h1 := smA_ab k (fun i a _ => h i a)
  refine ab_l h1 ?_
  have : (k : Int) * B ≤ 12 * B := Int.mul_le_mul_of_nonneg_right (by omega) B0
  omega
theorem sp_X6_turnAt {Q Y : m_Po} {ε : m_E} {μ : m_M} {p n i : Int} {u v : Int → Int} (H : Pt ε μ p n u v) (i0 : 0 ≤ i) (i1 : i ≤ 100) (hh : Q (tuA u v i) ε μ) : o_X6_turnAt [(2, p), (0, i)] ε μ Q Y := by
  have bu := H.bu
  have bv := H.bv
  have p1 := abm (bu i i0) (bv (i + 1) (by omega))
  have p2 := abm (bu (i + 1) (by omega)) (bv i i0)
  apply e_X6_turnAt
  refine fun _ _ => H.x i0 ?_
  apply g_X6_turnAt_5
  rw [w1_id i0 i1]
  refine fun _ _ _ => H.y (by omega) ?_
  apply g_X6_turnAt_12
  rw [w1_id i0 i1, w32_ab p1 (by decide)]
  refine fun _ _ _ _ => H.x (by omega) ?_
  apply g_X6_turnAt_20
  refine fun _ _ _ _ => H.y i0 ?_
  apply g_X6_turnAt_25
  rw [w32_ab p2 (by decide), w32_ab (ab_sub p1 p2) (by decide)]
  exact fun _ _ _ _ => hh
theorem sp_X6_twiceArea {Q Y : m_Po} {ε : m_E} {μ : m_M} {p n : Int} {u v : Int → Int} (H : Pt ε μ p n u v) (hh : Q (smA (tuA u v) n.toNat) ε μ) : o_X6_twiceArea [(2, p)] ε μ Q Y := by
  have n3 := H.2.2.1
  have n12 := H.2.2.2.1
  have tb := fun i (i0 : (0 : Int) ≤ i) => tuA_ab H.bu H.bv (i := i) i0
  have O : ∀ (d k : Nat), k + d = n.toNat → G cd_X6_twiceArea Q Y 4 [(0, (2, p)), (1, (0, smA (tuA u v) k)), (2, (0, (k : Int)))] [] ε μ := by
    intro d
    induction d with
    | zero =>
      intro k hk
      apply g_X6_twiceArea_4
      refine fun _ _ _ => sp_X6_pointsOf H.1 H.2.1 (by omega) (by omega) ?_
      apply g_X6_twiceArea_9
      refine fun _ _ _ _ _ => ⟨fun _ => ?_, fun y => absurd y (by omega)⟩
      rw [show k = n.toNat by omega]; exact hh
    | succ d ih =>
      intro k hk
      apply g_X6_twiceArea_4
      refine fun _ _ _ => sp_X6_pointsOf H.1 H.2.1 (by omega) (by omega) ?_
      apply g_X6_twiceArea_9
      refine fun _ _ _ _ _ => ⟨fun y => absurd y (by omega), fun _ => sp_X6_turnAt H (by omega) (by omega) ?_⟩
      apply g_X6_twiceArea_18
      intro _ _ _ _ v1 e1 v2 e2
      have b1 : ab (smA (tuA u v) (k + 1)) 240000 := smA_12 (by omega) (by decide) (by decide) tb
      have e1' : v1 = smA (tuA u v) (k + 1) := by rw [e1]; exact w32_ab b1 (by decide)
      have e2' : v2 = ((k + 1 : Nat) : Int) := by rw [e2, w1_id (by omega) (by omega)]; omega
      rw [e1', e2']
      exact ih (k + 1) (by omega)
  apply e_X6_twiceArea
  intro _ v1 e1 v2 e2
  rw [e1, e2]
  exact O n.toNat 0 (by omega)
theorem sp_X6_momentOfX {Q Y : m_Po} {ε : m_E} {μ : m_M} {p n : Int} {u v : Int → Int} (H : Pt ε μ p n u v) (hh : Q (smA (moA u u v) n.toNat) ε μ) : o_X6_momentOfX [(2, p)] ε μ Q Y := by
  have n3 := H.2.2.1
  have n12 := H.2.2.2.1
  have bu := H.bu
  have tb := fun i (i0 : (0 : Int) ≤ i) => moA_ab H.bu H.bu H.bv (i := i) i0
  have O : ∀ (d k : Nat), k + d = n.toNat → G cd_X6_momentOfX Q Y 4 [(0, (2, p)), (1, (0, smA (moA u u v) k)), (2, (0, (k : Int)))] [] ε μ := by
    intro d
    induction d with
    | zero =>
      intro k hk
      apply g_X6_momentOfX_4
      refine fun _ _ _ => sp_X6_pointsOf H.1 H.2.1 (by omega) (by omega) ?_
      apply g_X6_momentOfX_9
      refine fun _ _ _ _ _ => ⟨fun _ => ?_, fun y => absurd y (by omega)⟩
      rw [show k = n.toNat by omega]; exact hh
    | succ d ih =>
      intro k hk
      have k0 : (0 : Int) ≤ (k : Int) := by omega
      apply g_X6_momentOfX_4
      refine fun _ _ _ => sp_X6_pointsOf H.1 H.2.1 (by omega) (by omega) ?_
      apply g_X6_momentOfX_9
      refine fun _ _ _ _ _ => ⟨fun y => absurd y (by omega), fun _ => H.x (by omega) ?_⟩
      apply g_X6_momentOfX_18
      rw [w1_id k0 (by omega)]
      refine fun _ _ _ _ => H.x (by omega) ?_
      apply g_X6_momentOfX_25
      rw [w32_ab (ab_ad (bu k k0) (bu (k + 1) (by omega))) (by decide)]
      refine fun _ _ _ _ _ => sp_X6_turnAt H k0 (by omega) ?_
      apply g_X6_momentOfX_31
      intro _ _ _ _ _ v1 e1 v2 e2
      have b1 : ab (smA (moA u u v) (k + 1)) 48000000 := smA_12 (by omega) (by decide) (by decide) tb
      have e1' : v1 = smA (moA u u v) (k + 1) := by rw [e1, show (u k + u (k + 1)) * tuA u v k = moA u u v k from rfl, w32_ab (tb k k0) (by decide)]; exact w32_ab b1 (by decide)
      have e2' : v2 = ((k + 1 : Nat) : Int) := by rw [e2, w1_id (by omega) (by omega)]; omega
      rw [e1', e2']
      exact ih (k + 1) (by omega)
  apply e_X6_momentOfX
  intro _ v1 e1 v2 e2
  rw [e1, e2]
  exact O n.toNat 0 (by omega)
theorem sp_X6_momentOfY {Q Y : m_Po} {ε : m_E} {μ : m_M} {p n : Int} {u v : Int → Int} (H : Pt ε μ p n u v) (hh : Q (smA (moA v u v) n.toNat) ε μ) : o_X6_momentOfY [(2, p)] ε μ Q Y := by
  have n3 := H.2.2.1
  have n12 := H.2.2.2.1
  have bv := H.bv
  have tb := fun i (i0 : (0 : Int) ≤ i) => moA_ab H.bv H.bu H.bv (i := i) i0
  have O : ∀ (d k : Nat), k + d = n.toNat → G cd_X6_momentOfY Q Y 4 [(0, (2, p)), (1, (0, smA (moA v u v) k)), (2, (0, (k : Int)))] [] ε μ := by
    intro d
    induction d with
    | zero =>
      intro k hk
      apply g_X6_momentOfY_4
      refine fun _ _ _ => sp_X6_pointsOf H.1 H.2.1 (by omega) (by omega) ?_
      apply g_X6_momentOfY_9
      refine fun _ _ _ _ _ => ⟨fun _ => ?_, fun y => absurd y (by omega)⟩
      rw [show k = n.toNat by omega]; exact hh
    | succ d ih =>
      intro k hk
      have k0 : (0 : Int) ≤ (k : Int) := by omega
      apply g_X6_momentOfY_4
      refine fun _ _ _ => sp_X6_pointsOf H.1 H.2.1 (by omega) (by omega) ?_
      apply g_X6_momentOfY_9
      refine fun _ _ _ _ _ => ⟨fun y => absurd y (by omega), fun _ => H.y (by omega) ?_⟩
      apply g_X6_momentOfY_18
      rw [w1_id k0 (by omega)]
      refine fun _ _ _ _ => H.y (by omega) ?_
      apply g_X6_momentOfY_25
      rw [w32_ab (ab_ad (bv k k0) (bv (k + 1) (by omega))) (by decide)]
      refine fun _ _ _ _ _ => sp_X6_turnAt H k0 (by omega) ?_
      apply g_X6_momentOfY_31
      intro _ _ _ _ _ v1 e1 v2 e2
      have b1 : ab (smA (moA v u v) (k + 1)) 48000000 := smA_12 (by omega) (by decide) (by decide) tb
      have e1' : v1 = smA (moA v u v) (k + 1) := by rw [e1, show (v k + v (k + 1)) * tuA u v k = moA v u v k from rfl, w32_ab (tb k k0) (by decide)]; exact w32_ab b1 (by decide)
      have e2' : v2 = ((k + 1 : Nat) : Int) := by rw [e2, w1_id (by omega) (by omega)]; omega
      rw [e1', e2']
      exact ih (k + 1) (by omega)
  apply e_X6_momentOfY
  intro _ v1 e1 v2 e2
  rw [e1, e2]
  exact O n.toNat 0 (by omega)
/-- face i is sound: it has a length, does not fold back and meets no later face -/
def gdd (u v : Int → Int) (n i : Int) : Prop := ¬ nol u v i ∧ ¬ fob u v i ∧ ∀ j, i + 2 ≤ j → j < n → ¬ (i = 0 ∧ j = n - 1) → ¬ mee u v i j
def Sou (u v : Int → Int) (n : Int) : Prop := (∀ i, 0 ≤ i → i < n → gdd u v n i) ∧ 0 < smA (tuA u v) n.toNat
theorem sp_X6_isSound {Q Y : m_Po} {ε : m_E} {μ : m_M} {p n : Int} {u v : Int → Int} (H : Pt ε μ p n u v) (h1 : Sou u v n → Q 1 ε μ) (h0 : ¬ Sou u v n → Q 0 ε μ) : o_X6_isSound [(2, p)] ε μ Q Y := by
  have n3 := H.2.2.1
  have n12 := H.2.2.2.1
  have O : ∀ (d : Nat) (i : Int), 0 ≤ i → i + d = n → (∀ k, 0 ≤ k → k < i → gdd u v n k) → G cd_X6_isSound Q Y 7 [(0, (2, p)), (1, (0, n)), (2, (0, i))] [] ε μ := by
    intro d
    induction d with
    | zero =>
      intro i i0 hi g
      apply g_X6_isSound_7
      refine fun _ _ _ => ⟨fun _ => sp_X6_twiceArea H ?_, fun y => absurd y (by omega)⟩
      apply g_X6_isSound_89
      intro _ _ t ht
      by_cases z : smA (tuA u v) n.toNat ≤ 0
      · rw [if_pos z] at ht; rw [ht]; exact h0 (fun q => absurd q.2 (Int.not_lt.mpr z))
      · rw [if_neg z] at ht; rw [ht]; exact h1 ⟨fun k k0 k1 => g k k0 (by omega), Int.not_le.mp z⟩
    | succ d ih =>
      intro i i0 hi g
      have I : ¬ nol u v i → ¬ fob u v i → ∀ (d : Nat) (j : Int), i + 2 ≤ j → j ≤ n + 1 → n ≤ j + d → (∀ k, i + 2 ≤ k → k < j → k < n → ¬ (i = 0 ∧ k = n - 1) → ¬ mee u v i k) → G cd_X6_isSound Q Y 34 [(0, (2, p)), (1, (0, n)), (2, (0, i)), (3, (0, j))] [] ε μ := by
        intro q1 q2 d
        induction d with
        | zero =>
          intro j j0 j1 hj gm
          apply g_X6_isSound_34
          rw [w1_id i0 (by omega)]
          refine fun _ _ _ _ => ⟨fun _ w hw => ?_, fun y => absurd y (by omega)⟩
          rw [hw]
          refine ih (i + 1) (by omega) (by omega) (fun k k0 k1 => ?_)
          by_cases z : k = i
          · rw [z]; exact ⟨q1, q2, fun m m0 m1 m2 => gm m m0 (by omega) m1 m2⟩
          · exact g k k0 (by omega)
        | succ d ihj =>
          intro j j0 j1 hj gm
          apply g_X6_isSound_34
          rw [w1_id i0 (by omega), w32_id (show i32 (n - 1) by unfold i32; omega)]
          refine fun _ _ _ _ => ⟨fun _ w hw => ?_, fun jn t ht v4 e4 => ?_⟩
          · rw [hw]
            refine ih (i + 1) (by omega) (by omega) (fun k k0 k1 => ?_)
            by_cases z : k = i
            · rw [z]; exact ⟨q1, q2, fun m m0 m1 m2 => gm m m0 (by omega) m1 m2⟩
            · exact g k k0 (by omega)
          · have nx' : (¬ (i = 0 ∧ j = n - 1) → ¬ mee u v i j) → G cd_X6_isSound Q Y 73 [(0, (2, p)), (1, (0, n)), (2, (0, i)), (3, (0, j))] [] ε μ := fun q => by
              apply g_X6_isSound_73
              rw [w1_id (show 0 ≤ j by omega) (by omega)]
              intro _ _ _ _ w hw
              rw [hw]
              refine ihj (j + 1) (by omega) (by omega) (by omega) (fun k k0 k1 k2 k3 => ?_)
              by_cases z : k = j
              · rw [z] at k3 ⊢; exact q k3
              · exact gm k k0 (by omega) k2 k3
            have et : (v4 = 1 ∧ (i = 0 ∧ j = n - 1)) ∨ (v4 = 0 ∧ ¬ (i = 0 ∧ j = n - 1)) := by
              rw [e4, ht]
              by_cases a : i = 0
              · rw [if_pos a]
                by_cases b : j = n - 1
                · rw [if_pos b]; exact Or.inl ⟨rfl, a, b⟩
                · rw [if_neg b]; exact Or.inr ⟨rfl, fun z => b z.2⟩
              · rw [if_neg a]; exact Or.inr ⟨rfl, fun z => a z.1⟩
            refine ⟨fun y => nx' (fun z => ?_), fun y => sp_X6_meet H i0 (by omega) (by omega) (by omega) (fun q => ?_) (fun q => ?_)⟩
            · rcases et with ⟨_, b⟩ | ⟨a, _⟩
              · exact absurd b z
              · exact absurd a y
            · apply g_X6_isSound_68
              refine fun _ _ _ _ _ => ⟨fun x => absurd x (by decide), fun _ => h0 (fun S => ?_)⟩
              rcases et with ⟨a, _⟩ | ⟨_, b⟩
              · omega
              · exact (S.1 i i0 (by omega)).2.2 j j0 jn b q
            · apply g_X6_isSound_68
              exact fun _ _ _ _ _ => ⟨fun _ => nx' (fun _ => q), fun x => absurd rfl x⟩
      apply g_X6_isSound_7
      refine fun _ _ _ => ⟨fun y => absurd y (by omega), fun _ => sp_X6_hasNoLength H i0 (by omega) (fun q => ?_) (fun q1 => ?_)⟩
      · apply g_X6_isSound_17
        exact fun _ _ _ _ => ⟨fun _ => h0 (fun S => (S.1 i i0 (by omega)).1 q), fun x => absurd x (by decide)⟩
      · apply g_X6_isSound_17
        refine fun _ _ _ _ => ⟨fun x => absurd rfl x, fun _ => sp_X6_foldsBack H i0 (by omega) (fun q => ?_) (fun q2 => ?_)⟩
        · apply g_X6_isSound_25
          exact fun _ _ _ _ => ⟨fun x => absurd x (by decide), fun _ => h0 (fun S => (S.1 i i0 (by omega)).2.1 q)⟩
        · apply g_X6_isSound_25
          rw [w2_id i0 (by omega)]
          refine fun _ _ _ _ => ⟨fun _ w hw => ?_, fun x => absurd rfl x⟩
          rw [hw]
          exact I q1 q2 n.toNat (i + 2) (by omega) (by omega) (by omega) (fun k k0 k1 => absurd k1 (by omega))
  apply e_X6_isSound
  refine fun _ => sp_X6_pointsOf H.1 H.2.1 (by omega) (by omega) ?_
  apply g_X6_isSound_4
  intro _ _ v1 e1 v2 e2
  rw [e1, e2]
  exact O n.toNat 0 (by decide) (by omega) (fun k k0 k1 => absurd k1 (by omega))
theorem sp_X6_isNear {Q Y : m_Po} {ε : m_E} {μ : m_M} {p l : Int} (hk : kd ε p = 100) (hl : ln ε p = l) (l0 : 0 ≤ l) (l1 : l ≤ 40) (h1 : (∀ i, 0 ≤ i → i < l → ¬ far1 (μ p i)) → Q 1 ε μ) (h0 : ∀ i, 0 ≤ i → i < l → far1 (μ p i) → Q 0 ε μ) : o_X6_isNear [(2, p)] ε μ Q Y := by
  have O : ∀ (d : Nat) (i : Int), 0 ≤ i → i + d = l → (∀ k, 0 ≤ k → k < i → ¬ far1 (μ p k)) → G cd_X6_isNear Q Y 2 [(0, (2, p)), (1, (0, i))] [] ε μ := by
    intro d
    induction d with
    | zero =>
      intro i i0 hi g
      apply g_X6_isNear_2
      rw [hl]
      exact fun _ _ => ⟨hk, fun _ => h1 (fun k k0 k1 => g k k0 (by omega)), fun y => absurd y (by omega)⟩
    | succ d ih =>
      intro i i0 hi g
      apply g_X6_isNear_2
      rw [hl]
      refine fun _ _ => ⟨hk, fun y => absurd y (by omega), fun _ => ⟨i0, by omega, sp_X10_isFar1 (fun q => ?_) (fun q => ?_)⟩⟩
      · apply g_X6_isNear_16
        exact fun _ _ _ => ⟨fun x => absurd x (by decide), fun _ => h0 i i0 (by omega) q⟩
      · apply g_X6_isNear_16
        rw [w1_id i0 (by omega)]
        refine fun _ _ _ => ⟨fun _ w hw => ?_, fun x => absurd rfl x⟩
        rw [hw]
        refine ih (i + 1) (by omega) (by omega) (fun k k0 k1 => ?_)
        by_cases z : k = i
        · rw [z]; exact q
        · exact g k k0 (by omega)
  apply e_X6_isNear
  intro _ v1 e1
  rw [e1]
  exact O l.toNat 0 (by decide) (by omega) (fun k k0 k1 => absurd k1 (by omega))
