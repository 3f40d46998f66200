set_option maxHeartbeats 1000000
/-! ===== the first place or joint that is not as it should be; the reference's holeOf ===== -/
def nbI (σ : m_M) (a p : Int) : Int := if p < 0 then 0 else if σ 15 a ≤ p then 0 else if σ 16 (10 * a + p) < 0 then 0 else 1
theorem nbI_0 {σ : m_M} {a p : Int} (h : nb σ a p) : nbI σ a p = 0 := by
  unfold nbI
  by_cases q : p < 0
  · exact if_pos q
  · rw [if_neg q]
    by_cases r : σ 15 a ≤ p
    · exact if_pos r
    · rw [if_neg r]
      rcases h with h | h | h
      · exact absurd h q
      · exact absurd h r
      · exact if_pos h
theorem nbI_1 {σ : m_M} {a p : Int} (h0 : 0 ≤ p) (h1 : p < σ 15 a) (h2 : 0 ≤ σ 16 (10 * a + p)) : nbI σ a p = 1 := by
  unfold nbI
  rw [if_neg (by omega), if_neg (by omega), if_neg (by omega)]
theorem nbI_or (σ : m_M) (a p : Int) : nbI σ a p = 0 ∨ (nbI σ a p = 1 ∧ 0 ≤ p ∧ p < σ 15 a ∧ 0 ≤ σ 16 (10 * a + p)) := by
  by_cases h : nb σ a p
  · exact Or.inl (nbI_0 h)
  · unfold nb at h
    exact Or.inr ⟨nbI_1 (by omega) (by omega) (by omega), by omega, by omega, by omega⟩
/-- whether a place is not as it should be -/
def bad (σ : m_M) (a p : Int) : Int := if nbI σ a p = 0 then 1 else if kA σ a p = 1 ∧ (nbI σ a (p - 1) = 0 ∨ nbI σ a (p + 1) = 0) then 1 else if kA σ a p = 2 ∧ p ≠ 0 ∧ p ≠ σ 15 a - 1 then 1 else 0
def hoP (σ : m_M) (a p : Int) : Option Int := if bad σ a p = 0 then none else some p
def hoK (σ : m_M) (a k : Int) : Option Int := match jo σ a k with
  | some _ => none
  | none => some (200 + k)
/-- what is wrong with an arch first, or -1 -/
def ho (σ : m_M) (a : Int) : Int := match fs (hoP σ a) 0 (σ 15 a).toNat with
  | some p => p
  | none => if σ 17 (2 * a) = 0 then 100 else if σ 17 (2 * a + 1) = 0 then 101 else match fs (hoK σ a) 0 (σ 15 a + 1).toNat with
    | some z => z
    | none => -1
theorem hoK_none {σ : m_M} {a k : Int} {x : Sp} (h : jo σ a k = some x) : hoK σ a k = none := by unfold hoK; rw [h]
theorem hoK_some {σ : m_M} {a k : Int} (h : jo σ a k = none) : hoK σ a k = some (200 + k) := by unfold hoK; rw [h]
theorem ho_neg {σ : m_M} {a : Int} (n1 : 1 ≤ σ 15 a) (h : ho σ a = -1) : (∀ p, 0 ≤ p → p < σ 15 a → bad σ a p = 0) ∧ σ 17 (2 * a) ≠ 0 ∧ σ 17 (2 * a + 1) ≠ 0 ∧ ∀ k, 0 ≤ k → k ≤ σ 15 a → ∃ x, jo σ a k = some x := by
  unfold ho at h
  cases h1 : fs (hoP σ a) 0 (σ 15 a).toNat with
  | some p =>
    rw [h1] at h
    obtain ⟨j, j0, j1, j2⟩ := fs_some _ _ h1
    unfold hoP at j2
    split at j2
    · cases j2
    · have := Option.some.inj j2
      simp only at h
      omega
  | none =>
    rw [h1] at h
    simp only at h
    by_cases q : σ 17 (2 * a) = 0
    · rw [if_pos q] at h; omega
    · rw [if_neg q] at h
      by_cases r : σ 17 (2 * a + 1) = 0
      · rw [if_pos r] at h; omega
      · rw [if_neg r] at h
        refine ⟨fun p p0 p1 => ?_, q, r, fun k k0 k1 => ?_⟩
        · have := fs_none _ _ h1 p p0 (by omega)
          unfold hoP at this
          split at this
          · assumption
          · cases this
        · cases h2 : fs (hoK σ a) 0 (σ 15 a + 1).toNat with
          | some z =>
            rw [h2] at h
            obtain ⟨j, j0, j1, j2⟩ := fs_some _ _ h2
            cases hj : jo σ a j with
            | some x => rw [hoK_none hj] at j2; cases j2
            | none =>
              rw [hoK_some hj] at j2
              have := Option.some.inj j2
              simp only at h
              omega
          | none =>
            have := fs_none _ _ h2 k k0 (by omega)
            cases hj : jo σ a k with
            | some x => exact ⟨x, rfl⟩
            | none => rw [hoK_some hj] at this; cases this
theorem sp_X12_isStoneAt {Q X : m_Po} {ε : m_E} {μ σ : m_M} {M a p : Int} (L : LM ε M) (S : SF μ M σ) (A : MA σ a) (p1 : p ≤ 10) (hh : Q (nbI σ a p) ε μ) : o_X12_isStoneAt [(2, M), (0, a), (0, p)] ε μ Q X := by
  obtain ⟨a0, a1, n1, n2, s, _⟩ := A
  apply e_X12_isStoneAt
  rw [L.f17.1, L.f18.1, S 15 a (by decide) (by decide)]
  have w : 0 ≤ p → w32 (w32 (10 * a) + p) = 10 * a + p := fun q => by rw [w32_id (show i32 (10 * a) by unfold i32; omega), w32_id (by unfold i32; omega)]
  refine fun _ _ _ => ⟨fun q => ⟨L.k, L.f17.2.1, a0, by rw [L.f17.2.2]; exact a1, fun q' => ?_⟩, fun t ht => ?_⟩
  · rw [w q]
    exact ⟨L.f18.2.1, by omega, by rw [L.f18.2.2]; omega⟩
  · have e : t = nbI σ a p := by
      unfold nbI
      by_cases q : p < 0
      · rw [ht, if_pos q, if_pos q]
      · rw [w (by omega), S 16 _ (by decide) (by decide)] at ht
        exact ht
    rw [e]; exact hh
def FXa (M : Int) (μ μ' : m_M) : Prop := ∀ b j, b ≠ M + 25 → μ' b j = μ b j
theorem FXa.rf {M : Int} {μ : m_M} : FXa M μ μ := fun _ _ _ => rfl
theorem FXa.trans {M : Int} {μ μ' μ'' : m_M} (h : FXa M μ μ') (k : FXa M μ' μ'') : FXa M μ μ'' := fun b j h1 => (k b j h1).trans (h b j h1)
theorem FX.a {M k : Int} {μ μ' : m_M} (h : FX M k μ μ') : FXa M μ μ' := fun b j h1 => h b j (fun z => h1 z.1)
theorem SF.fxa {μ μ' : m_M} {M : Int} {σ : m_M} (S : SF μ M σ) (f : FXa M μ μ') : SF μ' M σ := fun o j h1 h2 => (f _ _ (by omega)).trans (S o j h1 h2)
/-- the joints before k stand -/
def jk (σ : m_M) (a : Int) (f : Int → Int) (k : Int) : Prop := ∀ t, 0 ≤ t → t < k → ∃ x, jo σ a t = some x ∧ at4 f (4 * t) x
theorem at4_congr {f g : Int → Int} {i : Int} {x : Sp} (h : at4 f i x) (e : ∀ j, i ≤ j → j < i + 4 → g j = f j) : at4 g i x := ⟨(e i (by omega) (by omega)).trans h.1, (e (i + 1) (by omega) (by omega)).trans h.2.1, (e (i + 2) (by omega) (by omega)).trans h.2.2.1, (e (i + 3) (by omega) (by omega)).trans h.2.2.2⟩
theorem sp_X12_holeOf {Q X : m_Po} {ε : m_E} {μ σ : m_M} {M a : Int} (L : LM ε M) (S : SF μ M σ) (A : MA σ a) (G' : MG σ a)
    (hh : ∀ μ', FXa M μ μ' → (ho σ a = -1 → jk σ a (μ' (M + 25)) (σ 15 a + 1)) → Q (ho σ a) ε μ') : o_X12_holeOf [(2, M), (0, a)] ε μ Q X := by
  have A' := A
  obtain ⟨a0, a1, n1, n2, s, _⟩ := A
  -- joints
  have J : ∀ (d : Nat) (k : Int) (μ1 : m_M), 0 ≤ k → k + d = σ 15 a + 1 → FXa M μ μ1 → jk σ a (μ1 (M + 25)) k → (∀ z, (match fs (hoK σ a) k d with | some z => z | none => -1) = z → z ≠ -1 → ∀ μ', FXa M μ μ' → Q z ε μ') → (fs (hoK σ a) k d = none → ∀ μ', FXa M μ μ' → jk σ a (μ' (M + 25)) (σ 15 a + 1) → Q (-1) ε μ') → G cd_X12_holeOf Q X 134 [(0, (2, M)), (1, (0, a)), (2, (0, σ 15 a)), (3, (0, k))] [] ε μ1 := by
    intro d
    induction d with
    | zero =>
      intro k μ1 k0 hk f1 j1 _ K
      apply g_X12_holeOf_134
      refine fun _ _ _ _ => ⟨fun _ => K rfl μ1 f1 (by rw [show σ 15 a + 1 = k by omega]; exact j1), fun q => absurd q (by omega)⟩
    | succ d ih =>
      intro k μ1 k0 hk f1 j1 K0 K
      apply g_X12_holeOf_134
      refine fun _ _ _ _ => ⟨fun q => absurd q (by omega), fun _ => ⟨L.k, sp_X12_joins L (S.fxa f1) A' G' k0 (by omega) (fun q => ?_) (fun x μ2 q f2 x4 => ?_)⟩⟩
      · apply g_X12_holeOf_145
        refine fun _ _ _ _ _ => ⟨fun z => absurd rfl z, fun _ => ?_⟩
        rw [w32_id (show i32 (200 + k) by unfold i32; omega)]
        refine K0 _ ?_ (by omega) μ1 f1
        rw [fs_hit (hoK_some q)]
      · apply g_X12_holeOf_145
        refine fun _ _ _ _ _ => ⟨fun _ v h => ?_, fun z => absurd z (by decide)⟩
        rw [w32_id (show i32 (k + 1) by unfold i32; omega)] at h
        rw [h]
        rw [fs_miss (hoK_none q)] at K0 K
        refine ih (k + 1) μ2 (by omega) (by omega) (f1.trans f2.a) (fun t t0 t1 => ?_) K0 K
        by_cases z : t = k
        · rw [z]; exact ⟨x, q, x4⟩
        · obtain ⟨y, y1, y2⟩ := j1 t t0 (by omega)
          exact ⟨y, y1, at4_congr y2 (fun j j0 j1 => f2 _ _ (fun w => by omega))⟩
  -- piers
  have E : fs (hoP σ a) 0 (σ 15 a).toNat = none → G cd_X12_holeOf Q X 103 [(0, (2, M)), (1, (0, a)), (2, (0, σ 15 a)), (3, (0, 0))] [] ε μ := fun hn => by
    have eh : ho σ a = if σ 17 (2 * a) = 0 then 100 else if σ 17 (2 * a + 1) = 0 then 101 else match fs (hoK σ a) 0 (σ 15 a + 1).toNat with | some z => z | none => -1 := by
      unfold ho; rw [hn]
    apply g_X12_holeOf_103
    rw [L.f19.1, w32_id (show i32 (2 * a) by unfold i32; omega), w32_id (show i32 (2 * a + 0) by unfold i32; omega), Int.add_zero, S 17 _ (by decide) (by decide)]
    refine fun _ _ _ _ => ⟨fun q => absurd q (by decide), fun _ => ⟨L.k, L.f19.2.1, by omega, by rw [L.f19.2.2]; omega, fun q v h => ?_, fun q => ?_⟩⟩
    · have hv : v = 1 := h
      rw [hv]
      rw [if_neg q] at eh
      apply g_X12_holeOf_103
      rw [L.f19.1, w32_id (show i32 (2 * a) by unfold i32; omega), w32_id (show i32 (2 * a + 1) by unfold i32; omega), S 17 _ (by decide) (by decide)]
      refine fun _ _ _ _ => ⟨fun q => absurd q (by decide), fun _ => ⟨L.k, L.f19.2.1, by omega, by rw [L.f19.2.2]; omega, fun r v' h' => ?_, fun r => ?_⟩⟩
      · have hv' : v' = 2 := h'
        rw [hv']
        rw [if_neg r] at eh
        apply g_X12_holeOf_103
        refine fun _ _ _ _ => ⟨fun _ v'' h'' => ?_, fun q => absurd q (by decide)⟩
        rw [h'']
        refine J (σ 15 a + 1).toNat 0 μ (by decide) (by omega) FXa.rf (fun t t0 t1 => absurd t1 (by omega)) (fun z hz nz μ' f' => ?_) (fun hz μ' f' j' => ?_)
        · rw [hz] at eh
          rw [← eh]
          exact hh μ' f' (fun y => absurd (eh.symm.trans y) nz)
        · rw [hz] at eh
          have eh' : ho σ a = -1 := eh
          rw [← eh']
          exact hh μ' f' (fun _ => j')
      · rw [if_pos r] at eh
        rw [show w32 (100 + 1) = 101 by decide, ← eh]
        exact hh μ FXa.rf (fun y => absurd (eh.symm.trans y) (by decide))
    · rw [if_pos q] at eh
      rw [show w32 (100 + 0) = 100 by decide, ← eh]
      exact hh μ FXa.rf (fun y => absurd (eh.symm.trans y) (by decide))
  -- places
  have P : ∀ (d : Nat) (p : Int), 0 ≤ p → p + d = σ 15 a → (∀ z, fs (hoP σ a) p d = some z → Q z ε μ) → (fs (hoP σ a) p d = none → G cd_X12_holeOf Q X 103 [(0, (2, M)), (1, (0, a)), (2, (0, σ 15 a)), (3, (0, 0))] [] ε μ) → G cd_X12_holeOf Q X 9 [(0, (2, M)), (1, (0, a)), (2, (0, σ 15 a)), (3, (0, p))] [] ε μ := by
    intro d
    induction d with
    | zero =>
      intro p p0 hp _ K
      apply g_X12_holeOf_9
      refine fun _ _ _ _ => ⟨fun _ v h => ?_, fun q => absurd q (by omega)⟩
      rw [h]; exact K rfl
    | succ d ih =>
      intro p p0 hp K0 K
      have Y : bad σ a p = 1 → Q p ε μ := fun q => K0 p (fs_hit (by unfold hoP; rw [q, if_neg (by decide)]))
      have N : bad σ a p = 0 → G cd_X12_holeOf Q X 95 [(0, (2, M)), (1, (0, a)), (2, (0, σ 15 a)), (3, (0, p))] [] ε μ := fun q => by
        have q' : hoP σ a p = none := by unfold hoP; rw [if_pos q]
        apply g_X12_holeOf_95
        intro _ _ _ _ v h
        rw [w32_id (show i32 (p + 1) by unfold i32; omega)] at h
        rw [h]
        rw [fs_miss q'] at K0 K
        exact ih (p + 1) (by omega) (by omega) K0 K
      apply g_X12_holeOf_9
      refine fun _ _ _ _ => ⟨fun q => absurd q (by omega), fun _ => ⟨L.k, sp_X12_kindAt L S A' (by omega) ?_⟩⟩
      apply g_X12_holeOf_20
      rw [w32_id (show i32 (σ 15 a - 1) by unfold i32; omega)]
      intro _ _ _ _ _ v4 h4 t1 ht1 v5 h5
      subst h4
      have e5 : (v5 = 1 ∧ (p = 0 ∨ p = σ 15 a - 1)) ∨ (v5 = 0 ∧ p ≠ 0 ∧ p ≠ σ 15 a - 1) := by
        rw [h5, ht1]
        by_cases q : p = 0
        · rw [if_pos q]; exact Or.inl ⟨rfl, Or.inl q⟩
        · rw [if_neg q]
          by_cases r : p = σ 15 a - 1
          · rw [if_pos r]; exact Or.inl ⟨rfl, Or.inr r⟩
          · rw [if_neg r]; exact Or.inr ⟨rfl, q, r⟩
      clear h5 ht1
      refine ⟨L.k, sp_X12_isStoneAt L S A' (by omega) ?_⟩
      have T82 : nbI σ a p ≠ 0 → ¬ (kA σ a p = 1 ∧ (nbI σ a (p - 1) = 0 ∨ nbI σ a (p + 1) = 0)) → G cd_X12_holeOf Q X 82 [(0, (2, M)), (1, (0, a)), (2, (0, σ 15 a)), (3, (0, p)), (4, (0, kA σ a p)), (5, (0, v5))] [] ε μ := fun b1 b2 => by
        have eb : bad σ a p = if kA σ a p = 2 ∧ p ≠ 0 ∧ p ≠ σ 15 a - 1 then 1 else 0 := by
          unfold bad; rw [if_neg b1, if_neg b2]
        apply g_X12_holeOf_82
        refine fun _ _ _ _ _ _ => ⟨fun q => N (by rw [eb, if_neg (fun z => q z.1)]), fun q => ⟨fun r => N ?_, fun r => Y ?_⟩⟩
        · rw [eb, if_neg (fun z => by omega)]
        · rw [eb, if_pos (by omega)]
      apply g_X12_holeOf_46
      refine fun _ _ _ _ _ _ _ => ⟨fun q => Y (by unfold bad; rw [if_pos q]), fun q => ⟨fun r => T82 q (fun z => r z.1), fun r => ⟨fun u => Y ?_, fun u => ⟨L.k, ?_⟩⟩⟩⟩
      · have : nbI σ a (p - 1) = 0 ∨ nbI σ a (p + 1) = 0 := by
          rcases e5 with ⟨_, z | z⟩ | ⟨z, _⟩
          · exact Or.inl (nbI_0 (Or.inl (by omega)))
          · exact Or.inr (nbI_0 (Or.inr (Or.inl (by omega))))
          · exact absurd z u
        unfold bad
        rw [if_neg q, if_pos ⟨r, this⟩]
      · rw [w32_id (show i32 (p - 1) by unfold i32; omega)]
        refine sp_X12_isStoneAt L S A' (by omega) ?_
        apply g_X12_holeOf_68
        refine fun _ _ _ _ _ _ _ => ⟨fun w => Y (by unfold bad; rw [if_neg q, if_pos ⟨r, Or.inl w⟩]), fun w => ⟨L.k, ?_⟩⟩
        rw [w32_id (show i32 (p + 1) by unfold i32; omega)]
        refine sp_X12_isStoneAt L S A' (by omega) ?_
        apply g_X12_holeOf_79
        exact fun _ _ _ _ _ _ _ => ⟨fun w' => Y (by unfold bad; rw [if_neg q, if_pos ⟨r, Or.inr w'⟩]), fun w' => T82 q (fun z => z.2.elim w w')⟩
  apply e_X12_holeOf
  rw [L.f17.1, S 15 _ (by decide) (by decide)]
  refine fun _ _ => ⟨L.k, L.f17.2.1, a0, by rw [L.f17.2.2]; exact a1, fun v2 h2 v3 h3 => ?_⟩
  rw [h2, h3]
  refine P (σ 15 a).toNat 0 (by decide) (by omega) (fun z hz => ?_) E
  have eh : ho σ a = z := by unfold ho; rw [hz]
  rw [← eh]
  refine hh μ FXa.rf (fun y => ?_)
  obtain ⟨j, j0, j1, j2⟩ := fs_some _ _ hz
  unfold hoP at j2
  split at j2
  · cases j2
  · have := Option.some.inj j2
    omega
