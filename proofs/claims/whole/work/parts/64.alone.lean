/-! ===== the reference's rows of one unknown ===== -/
def sgd (a d a' d' : Int) : Prop := a' = a ∧ d' = d
/-- what the rows S of one unknown say, kept in the fields 43 to 49 -/
def AL (S : Int → Int → Prop) (f : Int → Int) : Prop :=
  (f 43 = 0 ∨ f 43 = 1) ∧ (f 48 = 0 ∨ f 48 = 1) ∧ (f 49 = 0 ∨ f 49 = 1) ∧
  (f 43 = 1 → ∃ d, S 0 d ∧ d < 0) ∧ (f 43 = 0 → ∀ d, S 0 d → 0 ≤ d) ∧
  (f 48 = 0 → ∀ a d, S a d → a ≤ 0) ∧ (f 49 = 0 → ∀ a d, S a d → 0 ≤ a) ∧
  (f 48 = 1 → 0 < f 45 ∧ (∃ a d, S a d ∧ 0 < a ∧ f 44 * a = -d * f 45) ∧ ∀ a d, S a d → 0 < a → 0 ≤ a * f 44 + d * f 45) ∧
  (f 49 = 1 → 0 < f 47 ∧ (∃ a d, S a d ∧ a < 0 ∧ f 46 * -a = d * f 47) ∧ ∀ a d, S a d → a < 0 → 0 ≤ a * f 46 + d * f 47)
theorem AL.i43 {S : Int → Int → Prop} {f : Int → Int} (h : AL S f) : f 43 = 0 ∨ f 43 = 1 := h.1
theorem AL.i48 {S : Int → Int → Prop} {f : Int → Int} (h : AL S f) : f 48 = 0 ∨ f 48 = 1 := h.2.1
theorem AL.i49 {S : Int → Int → Prop} {f : Int → Int} (h : AL S f) : f 49 = 0 ∨ f 49 = 1 := h.2.2.1
theorem AL.lost {S : Int → Int → Prop} {f : Int → Int} (h : AL S f) : f 43 = 1 → ∃ d, S 0 d ∧ d < 0 := h.2.2.2.1
theorem AL.ok0 {S : Int → Int → Prop} {f : Int → Int} (h : AL S f) : f 43 = 0 → ∀ d, S 0 d → 0 ≤ d := h.2.2.2.2.1
theorem AL.no48 {S : Int → Int → Prop} {f : Int → Int} (h : AL S f) : f 48 = 0 → ∀ a d, S a d → a ≤ 0 := h.2.2.2.2.2.1
theorem AL.no49 {S : Int → Int → Prop} {f : Int → Int} (h : AL S f) : f 49 = 0 → ∀ a d, S a d → 0 ≤ a := h.2.2.2.2.2.2.1
theorem AL.lo {S : Int → Int → Prop} {f : Int → Int} (h : AL S f) : f 48 = 1 → 0 < f 45 ∧ (∃ a d, S a d ∧ 0 < a ∧ f 44 * a = -d * f 45) ∧ ∀ a d, S a d → 0 < a → 0 ≤ a * f 44 + d * f 45 := h.2.2.2.2.2.2.2.1
theorem AL.hi {S : Int → Int → Prop} {f : Int → Int} (h : AL S f) : f 49 = 1 → 0 < f 47 ∧ (∃ a d, S a d ∧ a < 0 ∧ f 46 * -a = d * f 47) ∧ ∀ a d, S a d → a < 0 → 0 ≤ a * f 46 + d * f 47 := h.2.2.2.2.2.2.2.2
def SU (S : Int → Int → Prop) (a d : Int) : Int → Int → Prop := fun x y => S x y ∨ (x = a ∧ y = d)
/-- memory kept but for some fields of one object -/
def FF (M lo hi : Int) (μ μ' : m_M) : Prop := ∀ b j, ¬ (b = M ∧ lo ≤ j ∧ j ≤ hi) → μ' b j = μ b j
theorem FF.rf {M lo hi : Int} {μ : m_M} : FF M lo hi μ μ := fun _ _ _ => rfl
theorem FF.trans {M lo hi : Int} {μ μ' μ'' : m_M} (h : FF M lo hi μ μ') (k : FF M lo hi μ' μ'') : FF M lo hi μ μ'' := fun b j hb => (k b j hb).trans (h b j hb)
theorem FF.st {M lo hi i v : Int} {μ : m_M} (h0 : lo ≤ i) (h1 : i ≤ hi) : FF M lo hi μ (st μ M i v) := fun b j hb => if_neg (fun z => hb ⟨z.1, by rw [z.2]; exact h0, by rw [z.2]; exact h1⟩)
theorem AL.zero {S : Int → Int → Prop} {f g : Int → Int} {d : Int} (h : AL S f) (e43 : g 43 = if f 43 = 0 then (if 0 ≤ d then 0 else 1) else 1) (e : ∀ j, 44 ≤ j → j ≤ 49 → g j = f j) : AL (SU S 0 d) g := by
  have h1 := h.i43
  have h2 := h.i48
  have h3 := h.i49
  unfold AL
  rw [e 44 (by decide) (by decide), e 45 (by decide) (by decide), e 46 (by decide) (by decide), e 47 (by decide) (by decide), e 48 (by decide) (by decide), e 49 (by decide) (by decide)]
  refine ⟨by rw [e43]; split <;> (try split) <;> omega, h2, h3, fun c => ?_, fun c d' hd => ?_, fun c a' d' hd => ?_, fun c a' d' hd => ?_, fun c => ?_, fun c => ?_⟩
  · rw [e43] at c
    by_cases z : f 43 = 0
    · rw [if_pos z] at c
      by_cases z2 : 0 ≤ d
      · rw [if_pos z2] at c; omega
      · exact ⟨d, Or.inr ⟨rfl, rfl⟩, by omega⟩
    · obtain ⟨d', k1, k2⟩ := h.lost (by omega)
      exact ⟨d', Or.inl k1, k2⟩
  · rw [e43] at c
    by_cases z : f 43 = 0
    · rw [if_pos z] at c
      by_cases z2 : 0 ≤ d
      · rcases hd with hd | ⟨_, rfl⟩
        · exact h.ok0 z d' hd
        · exact z2
      · rw [if_neg z2] at c; omega
    · rw [if_neg z] at c; omega
  · rcases hd with hd | ⟨rfl, _⟩
    · exact h.no48 c a' d' hd
    · omega
  · rcases hd with hd | ⟨rfl, _⟩
    · exact h.no49 c a' d' hd
    · omega
  · obtain ⟨k1, ⟨a', d', k2, k3⟩, k4⟩ := h.lo c
    refine ⟨k1, ⟨a', d', Or.inl k2, k3⟩, fun a2 d2 hd h0 => ?_⟩
    rcases hd with hd | ⟨rfl, _⟩
    · exact k4 a2 d2 hd h0
    · omega
  · obtain ⟨k1, ⟨a', d', k2, k3⟩, k4⟩ := h.hi c
    refine ⟨k1, ⟨a', d', Or.inl k2, k3⟩, fun a2 d2 hd h0 => ?_⟩
    rcases hd with hd | ⟨rfl, _⟩
    · exact k4 a2 d2 hd h0
    · omega
/-- a row from below that is sharper, or none yet -/
theorem AL.low {S : Int → Int → Prop} {f g : Int → Int} {a d u l : Int} (h : AL S f) (ha : 0 < a) (hl : 0 < l) (eu : u * a = -d * l) (hb : f 48 = 0 ∨ 0 ≤ u * f 45 - f 44 * l) (e44 : g 44 = u) (e45 : g 45 = l) (e48 : g 48 = 1) (e43 : g 43 = f 43) (e46 : g 46 = f 46) (e47 : g 47 = f 47) (e49 : g 49 = f 49) : AL (SU S a d) g := by
  have h1 := h.i43
  have h2 := h.i48
  have h3 := h.i49
  unfold AL
  rw [e43, e44, e45, e46, e47, e48, e49]
  refine ⟨h1, Or.inr rfl, h3, fun c => ?_, fun c d' hd => ?_, fun c => by omega, fun c a' d' hd => ?_, fun _ => ⟨hl, ⟨a, d, Or.inr ⟨rfl, rfl⟩, ha, eu⟩, fun a2 d2 hd h0 => ?_⟩, fun c => ?_⟩
  · obtain ⟨d', k1, k2⟩ := h.lost c
    exact ⟨d', Or.inl k1, k2⟩
  · rcases hd with hd | ⟨z, _⟩
    · exact h.ok0 c d' hd
    · omega
  · rcases hd with hd | ⟨rfl, _⟩
    · exact h.no49 c a' d' hd
    · omega
  · rcases hd with hd | ⟨rfl, rfl⟩
    · rcases hb with hb | hb
      · have := h.no48 hb a2 d2 hd; omega
      · by_cases z : f 48 = 0
        · have := h.no48 z a2 d2 hd; omega
        · obtain ⟨k1, _, k4⟩ := h.lo (by omega)
          have k := k4 a2 d2 hd h0
          refine nn_of_mul k1 ?_
          have x1 := Int.mul_nonneg (Int.le_of_lt h0) hb
          have x2 := Int.mul_nonneg (Int.le_of_lt hl) k
          have : f 45 * (a2 * u + d2 * l) = a2 * (u * f 45 - f 44 * l) + l * (a2 * f 44 + d2 * f 45) := by grind
          omega
    · have : a2 * u + d2 * l = 0 := by grind
      omega
  · obtain ⟨k1, ⟨a', d', k2, k3⟩, k4⟩ := h.hi c
    refine ⟨k1, ⟨a', d', Or.inl k2, k3⟩, fun a2 d2 hd h0 => ?_⟩
    rcases hd with hd | ⟨rfl, _⟩
    · exact k4 a2 d2 hd h0
    · omega
theorem AL.high {S : Int → Int → Prop} {f g : Int → Int} {a d u l : Int} (h : AL S f) (ha : a < 0) (hl : 0 < l) (eu : u * -a = d * l) (hb : f 49 = 0 ∨ u * f 47 - f 46 * l ≤ 0) (e46 : g 46 = u) (e47 : g 47 = l) (e49 : g 49 = 1) (e43 : g 43 = f 43) (e44 : g 44 = f 44) (e45 : g 45 = f 45) (e48 : g 48 = f 48) : AL (SU S a d) g := by
  have h1 := h.i43
  have h2 := h.i48
  have h3 := h.i49
  unfold AL
  rw [e43, e44, e45, e46, e47, e48, e49]
  refine ⟨h1, h2, Or.inr rfl, fun c => ?_, fun c d' hd => ?_, fun c a' d' hd => ?_, fun c => by omega, fun c => ?_, fun _ => ⟨hl, ⟨a, d, Or.inr ⟨rfl, rfl⟩, ha, eu⟩, fun a2 d2 hd h0 => ?_⟩⟩
  · obtain ⟨d', k1, k2⟩ := h.lost c
    exact ⟨d', Or.inl k1, k2⟩
  · rcases hd with hd | ⟨z, _⟩
    · exact h.ok0 c d' hd
    · omega
  · rcases hd with hd | ⟨rfl, _⟩
    · exact h.no48 c a' d' hd
    · omega
  · obtain ⟨k1, ⟨a', d', k2, k3⟩, k4⟩ := h.lo c
    refine ⟨k1, ⟨a', d', Or.inl k2, k3⟩, fun a2 d2 hd h0 => ?_⟩
    rcases hd with hd | ⟨rfl, _⟩
    · exact k4 a2 d2 hd h0
    · omega
  · rcases hd with hd | ⟨rfl, rfl⟩
    · rcases hb with hb | hb
      · have := h.no49 hb a2 d2 hd; omega
      · by_cases z : f 49 = 0
        · have := h.no49 z a2 d2 hd; omega
        · obtain ⟨k1, _, k4⟩ := h.hi (by omega)
          have k := k4 a2 d2 hd h0
          refine nn_of_mul k1 ?_
          have x1 := Int.mul_nonneg (show 0 ≤ -a2 by omega) (show 0 ≤ -(u * f 47 - f 46 * l) by omega)
          have x2 := Int.mul_nonneg (Int.le_of_lt hl) k
          have : f 47 * (a2 * u + d2 * l) = -a2 * -(u * f 47 - f 46 * l) + l * (a2 * f 46 + d2 * f 47) := by grind
          omega
    · have : a2 * u + d2 * l = 0 := by grind
      omega
/-- a row that is no sharper than what is kept -/
theorem AL.more {S : Int → Int → Prop} {f : Int → Int} {a d : Int} (h : AL S f) (ha : (0 < a ∧ f 48 = 1 ∧ 0 ≤ a * f 44 + d * f 45) ∨ (a < 0 ∧ f 49 = 1 ∧ 0 ≤ a * f 46 + d * f 47)) : AL (SU S a d) f := by
  have h1 := h.i43
  have h2 := h.i48
  have h3 := h.i49
  refine ⟨h1, h2, h3, fun c => ?_, fun c d' hd => ?_, fun c a' d' hd => ?_, fun c a' d' hd => ?_, fun c => ?_, fun c => ?_⟩
  · obtain ⟨d', k1, k2⟩ := h.lost c
    exact ⟨d', Or.inl k1, k2⟩
  · rcases hd with hd | ⟨z, _⟩
    · exact h.ok0 c d' hd
    · omega
  · rcases hd with hd | ⟨rfl, _⟩
    · exact h.no48 c a' d' hd
    · omega
  · rcases hd with hd | ⟨rfl, _⟩
    · exact h.no49 c a' d' hd
    · omega
  · obtain ⟨k1, ⟨a', d', k2, k3⟩, k4⟩ := h.lo c
    refine ⟨k1, ⟨a', d', Or.inl k2, k3⟩, fun a2 d2 hd h0 => ?_⟩
    rcases hd with hd | ⟨rfl, rfl⟩
    · exact k4 a2 d2 hd h0
    · omega
  · obtain ⟨k1, ⟨a', d', k2, k3⟩, k4⟩ := h.hi c
    refine ⟨k1, ⟨a', d', Or.inl k2, k3⟩, fun a2 d2 hd h0 => ?_⟩
    rcases hd with hd | ⟨rfl, rfl⟩
    · exact k4 a2 d2 hd h0
    · omega
theorem sg_pos {z : Int} (h : 0 < sg z) : 0 < z := by unfold sg at h; split at h <;> (try split at h) <;> omega
theorem sg_npos {z : Int} (h : sg z ≤ 0) : z ≤ 0 := by unfold sg at h; split at h <;> (try split at h) <;> omega
theorem sg_neg' {z : Int} (h : sg z < 0) : z < 0 := by unfold sg at h; split at h <;> (try split at h) <;> omega
theorem sg_nneg {z : Int} (h : 0 ≤ sg z) : 0 ≤ z := by unfold sg at h; split at h <;> (try split at h) <;> omega
theorem al_pos {Q X : m_Po} {ε : m_E} {μ : m_M} {M a d u l : Int} {S : Int → Int → Prop} (hk : kd ε M = 11) (H : AL S (μ M)) (ha : 0 < a) (hl : 0 < l) (eu : u * a = -d * l) (h : ∀ μ', FF M 43 49 μ μ' → AL (SU S a d) (μ' M) → Q 0 ε μ') :
    (((μ M 48) = 0 → G cd_X12_alone Q X 111 [(0, (2, M)), (1, (1, a)), (5, (1, u)), (7, (1, l))] [] ε μ) ∧ ((μ M 48) ≠ 0 → o_X12_lies [(1, u), (1, l), (1, μ M 44), (1, μ M 45)] ε μ (fun z ε_1 μ_1 => G cd_X12_alone Q X 108 [(0, (2, M)), (1, (1, a)), (5, (1, u)), (7, (1, l))] [(0, z)] ε_1 μ_1) m_F)) := by
  have keep : (μ M 48 = 0 ∨ 0 ≤ u * μ M 45 - μ M 44 * l) → G cd_X12_alone Q X 111 [(0, (2, M)), (1, (1, a)), (5, (1, u)), (7, (1, l))] [] ε μ := by
    intro hb
    apply g_X12_alone_111
    refine fun _ _ _ _ => ⟨hk, fun μ1 m1 μ2 m2 μ3 m3 => ?_⟩
    apply g_X12_alone_128
    refine fun _ _ _ _ => ⟨fun _ => h μ3 ?_ ?_, fun c => by omega⟩
    · rw [m3, m2, m1]
      exact ((FF.st (by decide) (by decide)).trans (FF.st (by decide) (by decide))).trans (FF.st (by decide) (by decide))
    · refine H.low ha hl eu hb ?_ ?_ ?_ ?_ ?_ ?_ ?_ <;> rw [m3, m2, m1] <;> simp [st]
  refine ⟨fun c => keep (Or.inl c), fun c => ?_⟩
  have h48 : μ M 48 = 1 := by have := H.2.1; omega
  obtain ⟨k1, _, k4⟩ := H.lo h48
  refine sp_X12_lies hl k1 ?_
  apply g_X12_alone_108
  refine fun _ _ _ _ _ => ⟨fun z => ?_, fun z => keep (Or.inr (Int.le_of_lt (sg_pos z)))⟩
  apply g_X12_alone_128
  refine fun _ _ _ _ => ⟨fun _ => h μ FF.rf (H.more (Or.inl ⟨ha, h48, ?_⟩)), fun c => by omega⟩
  have z' := sg_npos z
  refine nn_of_mul hl ?_
  have x1 := Int.mul_nonneg (Int.le_of_lt ha) (show 0 ≤ -(u * μ M 45 - μ M 44 * l) by omega)
  have : l * (a * μ M 44 + d * μ M 45) = a * -(u * μ M 45 - μ M 44 * l) + μ M 45 * (u * a - -d * l) := by grind
  rw [this, eu]
  omega
theorem al_neg {Q X : m_Po} {ε : m_E} {μ : m_M} {M a d u l : Int} {S : Int → Int → Prop} (hk : kd ε M = 11) (H : AL S (μ M)) (ha : a < 0) (hl : 0 < l) (eu : u * -a = d * l) (h : ∀ μ', FF M 43 49 μ μ' → AL (SU S a d) (μ' M) → Q 0 ε μ') : G cd_X12_alone Q X 128 [(0, (2, M)), (1, (1, a)), (5, (1, u)), (7, (1, l))] [] ε μ := by
  have keep : (μ M 49 = 0 ∨ u * μ M 47 - μ M 46 * l ≤ 0) → G cd_X12_alone Q X 159 [(0, (2, M)), (5, (1, u)), (7, (1, l))] [] ε μ := by
    intro hb
    apply g_X12_alone_159
    refine fun _ _ _ => ⟨hk, fun μ1 m1 μ2 m2 μ3 m3 => h μ3 ?_ ?_⟩
    · rw [m3, m2, m1]
      exact ((FF.st (by decide) (by decide)).trans (FF.st (by decide) (by decide))).trans (FF.st (by decide) (by decide))
    · refine H.high ha hl eu hb ?_ ?_ ?_ ?_ ?_ ?_ ?_ <;> rw [m3, m2, m1] <;> simp [st]
  apply g_X12_alone_128
  refine fun _ _ _ _ => ⟨fun c => by omega, fun _ => ⟨hk, fun c => keep (Or.inl c), fun c => ?_⟩⟩
  have h49 : μ M 49 = 1 := by have := H.2.2.1; omega
  obtain ⟨k1, _, k4⟩ := H.hi h49
  refine sp_X12_lies hl k1 ?_
  apply g_X12_alone_156
  refine fun _ _ _ _ => ⟨fun z => h μ FF.rf (H.more (Or.inr ⟨ha, h49, ?_⟩)), fun z => keep (Or.inr (Int.le_of_lt (sg_neg' z)))⟩
  have z' := sg_nneg z
  refine nn_of_mul hl ?_
  have x1 := Int.mul_nonneg (show 0 ≤ -a by omega) z'
  have : l * (a * μ M 46 + d * μ M 47) = -a * (u * μ M 47 - μ M 46 * l) - μ M 47 * (u * -a - d * l) := by grind
  rw [this, eu]
  omega
theorem tdiv_ab {n g : Int} (hn : -9223372036854775808 < n ∧ n < 9223372036854775808) (h : (Int.tdiv n g).natAbs ≤ n.natAbs) : w64 (Int.tdiv n g) = Int.tdiv n g := w64_id (by unfold i64; omega)
theorem sp_X12_alone {Q X : m_Po} {ε : m_E} {μ : m_M} {M a d : Int} {S : Int → Int → Prop} (hk : kd ε M = 11) (H : AL S (μ M)) (ba : -9223372036854775808 < a ∧ a < 9223372036854775808) (bd : -9223372036854775808 < d ∧ d < 9223372036854775808)
    (h : ∀ μ', FF M 43 49 μ μ' → AL (SU S a d) (μ' M) → Q 0 ε μ') : o_X12_alone [(2, M), (1, a), (1, d)] ε μ Q X := by
  apply e_X12_alone
  refine fun _ _ _ => ⟨fun c t et u eu t1 et1 l el => ?_, fun c => ⟨hk, fun t et => ⟨hk, by rw [et]; split <;> (try split) <;> omega, fun μ1 m1 => h μ1 (by rw [m1]; exact FF.st (by decide) (by decide)) ?_⟩⟩⟩
  · have eu' : u = if a ≤ 0 then d else -d := by
      rw [eu, et]; split
      · rfl
      · rw [w64_id (by unfold i64; omega)]
    have el' : l = if a ≤ 0 then -a else a := by
      rw [el, et1]; split
      · rw [w64_id (by unfold i64; omega)]
      · rfl
    have l0 : 0 < l := by rw [el']; split <;> omega
    have lb : l < 9223372036854775808 := by rw [el']; split <;> omega
    have ub : -9223372036854775808 < u ∧ u < 9223372036854775808 := by rw [eu']; split <;> omega
    clear eu el et et1
    refine sp_X12_gcd ub.1 (by omega) ?_
    have lo := LO.div (n := u) l0
    have g0 := gcd_pos_r (a := u) (b := l) (by omega)
    apply g_X12_alone_64
    refine fun _ _ _ _ _ g eg => ⟨by omega, fun u' eu2 => ⟨by omega, fun l' el2 => ?_⟩⟩
    rw [eg, tdiv_ab ub lo.2.2.2.1] at eu2
    rw [eg, tdiv_ab (by omega) lo.2.2.2.2] at el2
    obtain ⟨k1, _, k3, _, _⟩ := lo
    rw [← eu2, ← el2] at k3
    rw [← el2] at k1
    clear eu2 el2 eg
    refine ⟨fun z => ?_, fun z => ⟨hk, ?_⟩⟩
    · rw [if_pos z] at eu' el'
      exact al_neg hk H (by omega) k1 (by rw [← el', k3, eu']) h
    · rw [if_neg (by omega)] at eu' el'
      exact al_pos hk H z k1 (by rw [← el', k3, eu']) h
  · rw [c]
    refine H.zero ?_ (fun j j1 j2 => by rw [m1]; exact sx_oi (by omega))
    rw [m1, sx_same, et]
