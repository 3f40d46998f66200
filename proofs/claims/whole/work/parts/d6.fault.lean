set_option maxHeartbeats 1000000
/-! ===== the class's Arch: mayStand, fault, hasSpan ===== -/
theorem sp_X0_mayStand {Q X : m_Po} {ε : m_E} {μ σ : m_M} {a P p : Int} (B : AQ ε μ σ a P) (p0 : 0 ≤ p) (p1 : p < σ 15 a) (hh : Q (if bad σ a p = 0 then 1 else 0) ε μ) : o_X0_mayStand [(2, P), (0, p)] ε μ Q X := by
  have L := B.1
  have n10 := L.2.2
  have Y : bad σ a p = 0 → Q 1 ε μ := fun q => by rw [if_pos q] at hh; exact hh
  have N : bad σ a p = 1 → Q 0 ε μ := fun q => by rw [q, if_neg (by decide)] at hh; exact hh
  apply e_X0_mayStand
  refine fun _ _ => ⟨L.k, sp_X0_blockAt B (fun nb' => ?_) (fun q0 q1 q2 q3 q4 => ?_)⟩
  · apply g_X0_mayStand_5
    intro _ _ v2 h2
    refine ⟨fun _ => N ?_, fun z => absurd z (by omega)⟩
    unfold bad
    rw [if_pos (nbI_0 nb')]
  · have e1 := nbI_1 q0 q1 q2
    have e2 := kA_b q0 q1 q2
    have bd' : bad σ a p = if kA σ a p = 1 ∧ (nbI σ a (p - 1) = 0 ∨ nbI σ a (p + 1) = 0) then 1 else if kA σ a p = 2 ∧ p ≠ 0 ∧ p ≠ σ 15 a - 1 then 1 else 0 := by
      unfold bad
      rw [if_neg (by rw [e1]; decide)]
    apply g_X0_mayStand_5
    intro _ _ v2 h2
    subst h2
    rw [L.2.1, q4.2.1, ← e2]
    refine ⟨fun z => absurd z (by omega), fun _ => ⟨q4.1, fun z => ⟨fun _ _ => L.k, fun t ht => ?_⟩, fun z => ⟨L.k, ?_⟩⟩⟩
    · rw [if_neg (fun y => z y.1)] at bd'
      rw [w32_id (show i32 (σ 15 a - 1) by unfold i32; omega)] at ht
      by_cases y : kA σ a p = 2
      · rw [if_pos y] at ht
        by_cases u : p = 0
        · rw [if_pos u] at ht
          rw [ht]; exact Y (by rw [bd', if_neg (fun w => w.2.1 u)])
        · rw [if_neg u] at ht
          by_cases w : p = σ 15 a - 1
          · rw [if_pos w] at ht
            rw [ht]; exact Y (by rw [bd', if_neg (fun v => v.2.2 w)])
          · rw [if_neg w] at ht
            rw [ht]; exact N (by rw [bd', if_pos ⟨y, u, w⟩])
      · rw [if_neg y] at ht
        rw [ht]; exact Y (by rw [bd', if_neg (fun u => y u.1)])
    · have N44 : (nbI σ a (p - 1) = 0 ∨ nbI σ a (p + 1) = 0) → G cd_X0_mayStand Q X 44 [] [] ε μ := fun y => by
        apply g_X0_mayStand_44
        exact fun _ => N (by rw [bd', if_pos ⟨z, y⟩])
      rw [w32_id (show i32 (p - 1) by unfold i32; omega)]
      refine sp_X0_blockAt B (fun nb' => ?_) (fun r0 r1 r2 r3 r4 => ?_)
      · apply g_X0_mayStand_27
        exact fun _ _ => ⟨fun _ => N44 (Or.inl (nbI_0 nb')), fun y => absurd y (by omega)⟩
      · apply g_X0_mayStand_27
        refine fun _ _ => ⟨fun y => absurd y (by omega), fun _ => ⟨L.k, ?_⟩⟩
        rw [w32_id (show i32 (p + 1) by unfold i32; omega)]
        refine sp_X0_blockAt B (fun nb' => ?_) (fun s0 s1 s2 s3 s4 => ?_)
        · apply g_X0_mayStand_37
          exact fun _ => ⟨fun _ => N44 (Or.inr (nbI_0 nb')), fun y => absurd y (by omega)⟩
        · apply g_X0_mayStand_37
          refine fun _ => ⟨fun y => absurd y (by omega), fun _ => Y ?_⟩
          have u1 := nbI_1 r0 r1 r2
          have u2 := nbI_1 s0 s1 s2
          rw [bd', if_neg (by omega), if_neg (by omega)]
theorem bad_01 (σ : m_M) (a p : Int) : bad σ a p = 0 ∨ bad σ a p = 1 := by
  unfold bad
  split
  · exact Or.inr rfl
  · split
    · exact Or.inr rfl
    · split
      · exact Or.inr rfl
      · exact Or.inl rfl
theorem sp_X0_fault {Q X : m_Po} {ε : m_E} {μ σ : m_M} {a P : Int} (A : AF ε μ σ a P) (G' : MG σ a) (C : SPc μ σ a P) (hh : ∀ μ', FA2 P μ μ' → SPc μ' σ a P → (ho σ a = -1 → μ' P 16 = 1) → Q (ho σ a) ε μ') : o_X0_fault [(2, P)] ε μ Q X := by
  have B := A.1
  have L := B.1
  have n10 := L.2.2
  obtain ⟨_, A8, A9, A10, A11⟩ := A
  have A' : AF ε μ σ a P := ⟨B, A8, A9, A10, A11⟩
  -- joints
  have J : ∀ μ1, FA2 P μ μ1 → μ1 P 16 = 1 → (∀ k, 0 ≤ k → k ≤ σ 15 a → SPk μ1 σ a P k) → ∀ (d : Nat) (k : Int), 0 ≤ k → k + d = σ 15 a + 1 → (∀ z, fs (hoK σ a) k d = some z → Q z ε μ1) → (fs (hoK σ a) k d = none → Q (-1) ε μ1) → G cd_X0_fault Q X 52 [(0, (2, P)), (1, (0, k))] [] ε μ1 := by
    intro μ1 f1 s1 S1 d
    induction d with
    | zero =>
      intro k k0 hk _ K
      apply g_X0_fault_52
      rw [L.2.1]
      exact fun _ _ => ⟨L.k, fun _ => K rfl, fun q => absurd q (by omega)⟩
    | succ d ih =>
      intro k k0 hk K0 K
      apply g_X0_fault_52
      rw [L.2.1, L.f9.1]
      refine fun _ _ => ⟨L.k, fun q => absurd q (by omega), fun _ => ⟨L.f9.2.1, k0, by rw [L.f9.2.2]; omega, fun q v h => ?_, fun q => ?_⟩⟩
      · rw [w32_id (show i32 (k + 1) by unfold i32; omega)] at h
        rw [h]
        rcases S1 k k0 (by omega) with y | ⟨x, y, _⟩
        · exact absurd y.2 q
        · rw [fs_miss (hoK_none y)] at K0 K
          exact ih (k + 1) (by omega) (by omega) K0 K
      · rw [w32_id (show i32 (200 + k) by unfold i32; omega)]
        rcases S1 k k0 (by omega) with y | ⟨x, _, y, _⟩
        · exact K0 _ (fs_hit (hoK_some y.1))
        · rw [y] at q; exact absurd q (by decide)
  have P' : ∀ (d : Nat) (p : Int), 0 ≤ p → p + d = σ 15 a → (∀ z, fs (hoP σ a) p d = some z → Q z ε μ) → (fs (hoP σ a) p d = none → G cd_X0_fault Q X 2 [(0, (2, P)), (1, (0, σ 15 a))] [] ε μ) → G cd_X0_fault Q X 2 [(0, (2, P)), (1, (0, p))] [] ε μ := by
    intro d
    induction d with
    | zero =>
      intro p p0 hp _ K
      rw [show p = σ 15 a by omega]
      exact K rfl
    | succ d ih =>
      intro p p0 hp K0 K
      apply g_X0_fault_2
      rw [L.2.1]
      refine fun _ _ => ⟨L.k, fun q => absurd q (by omega), fun _ => sp_X0_mayStand B p0 (by omega) ?_⟩
      apply g_X0_fault_15
      rcases bad_01 σ a p with y | y
      · rw [if_pos y]
        refine fun _ _ _ => ⟨fun _ v h => ?_, fun z => absurd z (by decide)⟩
        rw [w32_id (show i32 (p + 1) by unfold i32; omega)] at h
        rw [h]
        have q' : hoP σ a p = none := by unfold hoP; rw [if_pos y]
        rw [fs_miss q'] at K0 K
        exact ih (p + 1) (by omega) (by omega) K0 K
      · rw [y, if_neg (by decide)]
        exact fun _ _ _ => ⟨fun z => absurd rfl z, fun _ => K0 p (fs_hit (by unfold hoP; rw [y, if_neg (by decide)]))⟩
  apply e_X0_fault
  intro _ v h
  rw [h]
  refine P' (σ 15 a).toNat 0 (by decide) (by omega) (fun z hz => ?_) (fun hn => ?_)
  · have eh : ho σ a = z := by unfold ho; rw [hz]
    rw [← eh]
    refine hh μ FA2.rf C (fun y => ?_)
    obtain ⟨j, j0, j1, j2⟩ := fs_some _ _ hz
    unfold hoP at j2
    split at j2
    · cases j2
    · have := Option.some.inj j2
      omega
  · have eh : ho σ a = if σ 17 (2 * a) = 0 then 100 else if σ 17 (2 * a + 1) = 0 then 101 else match fs (hoK σ a) 0 (σ 15 a + 1).toNat with | some z => z | none => -1 := by
      unfold ho; rw [hn]; rfl
    apply g_X0_fault_2
    rw [L.2.1, A9, A10]
    refine fun _ _ => ⟨L.k, fun _ => ⟨fun q => ⟨fun r => sp_X0_findSpans A' G' C (fun μ1 f1 s1 S1 => ?_), fun r => ?_⟩, fun q => ?_⟩, fun q => absurd q (by omega)⟩
    · rw [if_neg q, if_neg r] at eh
      apply g_X0_fault_50
      intro _ v h
      rw [h]
      refine J μ1 f1 s1 S1 (σ 15 a + 1).toNat 0 (by decide) (by omega) (fun z hz => ?_) (fun hz => ?_)
      · rw [hz] at eh
        have eh' : ho σ a = z := eh
        rw [← eh']
        exact hh μ1 f1 (Or.inr ⟨s1, S1⟩) (fun _ => s1)
      · rw [hz] at eh
        have eh' : ho σ a = -1 := eh
        rw [← eh']
        exact hh μ1 f1 (Or.inr ⟨s1, S1⟩) (fun _ => s1)
    · rw [if_neg q, if_pos r] at eh
      rw [← eh]
      exact hh μ FA2.rf C (fun y => by omega)
    · rw [if_pos q] at eh
      rw [← eh]
      exact hh μ FA2.rf C (fun y => by omega)
theorem sp_X0_hasSpan {Q X : m_Po} {ε : m_E} {μ σ : m_M} {a P k : Int} (A : AF ε μ σ a P) (G' : MG σ a) (C : SPc μ σ a P) (k0 : 0 ≤ k) (k1 : k ≤ σ 15 a) (h0 : ∀ μ', FA2 P μ μ' → SPc μ' σ a P → jo σ a k = none → Q 0 ε μ') (h1 : ∀ μ' x, FA2 P μ μ' → SPc μ' σ a P → jo σ a k = some x → at4 (μ' (P + 8)) (4 * k) x → Q 1 ε μ') : o_X0_hasSpan [(2, P), (0, k)] ε μ Q X := by
  have L := A.1.1
  have n10 := L.2.2
  apply e_X0_hasSpan
  refine fun _ _ => ⟨L.k, sp_X0_findSpans A G' C (fun μ1 f1 s1 S1 => ?_)⟩
  apply g_X0_hasSpan_4
  rw [L.f9.1, L.f9.2.2]
  refine fun _ _ => ⟨fun _ => ⟨L.k, L.f9.2.1, fun q => ⟨k0, q⟩⟩, fun t ht => ?_⟩
  rw [if_neg (by omega), if_neg (by omega)] at ht
  rcases S1 k k0 k1 with ⟨y1, y2⟩ | ⟨x, y1, y2, y3⟩
  · rw [if_pos y2] at ht
    rw [ht]; exact h0 μ1 f1 (Or.inr ⟨s1, S1⟩) y1
  · rw [y2, if_neg (by decide)] at ht
    rw [ht]; exact h1 μ1 x f1 (Or.inr ⟨s1, S1⟩) y1 y3
