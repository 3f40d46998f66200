set_option maxHeartbeats 2000000
/-! ===== pairs of calls: room, strike ===== -/
/-- how both programs halve, by an oracle -/
def rmR (o : Int → Int) : Nat → Int → Int → Int
  | 0, g, _ => g
  | k + 1, g, b => if b - g ≤ 1 then g else if o (if g = -1 then 0 else (g + b) / 2) = 0 then rmR o k g (if g = -1 then 0 else (g + b) / 2) else rmR o k (if g = -1 then 0 else (g + b) / 2) b
def cB (o : Int → Int) : Nat → Int → Int
  | 0, s => if s = 63 ∧ o 64 ≠ 0 then 64 else s
  | n + 1, s => cB o n (if o (s + 2 ^ n) = 0 then s else s + 2 ^ n)
theorem rmR_cB {o : Int → Int} : ∀ (n : Nat) (s b : Int), 0 ≤ s → (b = s + 2 ^ n ∧ s + 2 ^ n ≤ 63) ∨ (b = 65 ∧ s = 64 - 2 ^ n) → rmR o (n + 2) s b = cB o n s := by
  intro n
  induction n with
  | zero =>
    intro s b s0 h
    rcases h with ⟨h1, h2⟩ | ⟨h1, h2⟩
    · have e : (2 : Int) ^ 0 = 1 := rfl
      rw [e] at h1 h2
      unfold rmR cB
      rw [if_pos (by omega), if_neg (by omega)]
    · have e : (2 : Int) ^ 0 = 1 := rfl
      rw [e] at h2
      have s63 : s = 63 := by omega
      subst h1 s63
      unfold rmR cB
      rw [if_neg (show ¬ (65 : Int) - 63 ≤ 1 by decide), show (if (63 : Int) = -1 then 0 else ((63 : Int) + 65) / 2) = 64 by decide]
      by_cases z : o 64 = 0
      · rw [if_pos z, if_neg (fun y => y.2 z)]
        unfold rmR
        rw [if_pos (by decide)]
      · rw [if_neg z, if_pos ⟨rfl, z⟩]
        unfold rmR
        rw [if_pos (by decide)]
  | succ n ih =>
    intro s b s0 h
    have e : (2 : Int) ^ (n + 1) = 2 * 2 ^ n := by rw [Int.pow_succ]; omega
    have p : (1 : Int) ≤ 2 ^ n := by
      have : (0 : Int) < 2 ^ n := Int.pow_pos (by decide)
      omega
    rw [e] at h
    show (if b - s ≤ 1 then s else if o (if s = -1 then 0 else (s + b) / 2) = 0 then rmR o (n + 2) s (if s = -1 then 0 else (s + b) / 2) else rmR o (n + 2) (if s = -1 then 0 else (s + b) / 2) b) = cB o n (if o (s + 2 ^ n) = 0 then s else s + 2 ^ n)
    generalize (2 : Int) ^ n = J at *
    have m : (if s = -1 then 0 else (s + b) / 2) = s + J := by
      rw [if_neg (by omega)]; omega
    rw [m, if_neg (by omega)]
    by_cases z : o (s + J) = 0
    · rw [if_pos z, if_pos z]
      exact ih s (s + J) s0 (Or.inl ⟨rfl, by omega⟩)
    · rw [if_neg z, if_neg z]
      exact ih (s + J) b (by omega) (by omega)
/-- the oracle of an arch -/
def orc (σ : m_M) (a : Int) (o : Int → Int) : Prop := ∀ s, (o s = 1 ∧ Saf σ a s) ∨ (o s = 0 ∧ ¬ Saf σ a s)
theorem orc_ex (σ : m_M) (a : Int) : ∃ o, orc σ a o := by
  refine ⟨fun s => @ite Int (Saf σ a s) (Classical.propDecidable _) 1 0, fun s => ?_⟩
  by_cases h : Saf σ a s
  · exact Or.inl ⟨@if_pos _ (Classical.propDecidable _) h _ _ _, h⟩
  · exact Or.inr ⟨@if_neg _ (Classical.propDecidable _) h _ _ _, h⟩
def rmA (o : Int → Int) : Int := if o 0 = 0 then -1 else cB o 6 0
theorem rmR_all {o : Int → Int} : rmR o 9 (-1) 65 = rmA o := by
  unfold rmA
  show (if (65 : Int) - -1 ≤ 1 then -1 else if o (if (-1 : Int) = -1 then 0 else (-1 + 65) / 2) = 0 then rmR o 8 (-1) (if (-1 : Int) = -1 then 0 else (-1 + 65) / 2) else rmR o 8 (if (-1 : Int) = -1 then 0 else (-1 + 65) / 2) 65) = _
  rw [if_neg (by decide), if_pos rfl]
  by_cases z : o 0 = 0
  · rw [if_pos z, if_pos z]
    unfold rmR
    rw [if_pos (by decide)]
  · rw [if_neg z, if_neg z]
    exact rmR_cB 6 0 65 (by decide) (Or.inr ⟨rfl, by decide⟩)
theorem room_c {Q Y : m_Po} {ε : m_E} {σ : m_M} {X a P : Int} {o : Int → Int} (S : SL ε X) (ho' : orc σ a o) : ∀ (n : Nat) (s j : Int) (μ : m_M), n ≤ 6 → 0 ≤ s → s + 2 ^ n ≤ 64 → (j = if n = 0 then 0 else 2 ^ (n - 1)) → WH ε μ σ X a P → (∀ μ', FC5 X μ μ' → Q (cB o n s) ε μ') → G cd_X10_room Q Y 27 [(0, (2, X)), (2, (2, P)), (3, (0, s)), (4, (0, j))] [] ε μ := by
  intro n
  induction n with
  | zero =>
    intro s j μ _ s0 s1 hj W K
    have e : (2 : Int) ^ 0 = 1 := rfl
    rw [e] at s1
    rw [if_pos rfl] at hj
    subst hj
    have E : ∀ (t z : Int) (μ' : m_M), z = (if t = 0 then s else 64) → Q z ε μ' → G cd_X10_room Q Y 80 [(3, (0, s))] [(0, t)] ε μ' := fun t z μ' hz hQ => by
      apply g_X10_room_80
      intro _ _ _ v4 h4 t1 ht1
      rw [ht1, h4, ← hz]; exact hQ
    have N79 : ∀ μ', Q s ε μ' → G cd_X10_room Q Y 79 [(3, (0, s))] [] ε μ' := fun μ' hQ => by
      apply g_X10_room_79
      exact fun _ _ => E 0 s μ' (by rw [if_pos rfl]) hQ
    apply g_X10_room_27
    refine fun _ _ _ => ⟨fun _ => ⟨fun q => N79 μ ?_, fun q => ⟨S.1.k, sp_X10_isSafeNarrowed S W ⟨by decide, by decide⟩ (fun μ1 f1 sf => ?_) (fun μ1 f1 nsf => ?_)⟩⟩, fun q => absurd q (by decide)⟩
    · have := K μ FC5.rf
      unfold cB at this
      rw [if_neg (fun z => q z.1)] at this
      exact this
    · apply g_X10_room_72
      have := K μ1 f1
      unfold cB at this
      rcases ho' 64 with ⟨o1, _⟩ | ⟨_, o2⟩
      · rw [if_pos ⟨q, by rw [o1]; decide⟩] at this
        exact fun _ _ _ => ⟨fun z => absurd z (by decide), fun _ => E 1 64 μ1 (by rw [if_neg (by decide)]) this⟩
      · exact absurd sf o2
    · apply g_X10_room_72
      have := K μ1 f1
      unfold cB at this
      rcases ho' 64 with ⟨_, o2⟩ | ⟨o1, _⟩
      · exact absurd o2 nsf
      · rw [if_neg (fun z => z.2 o1)] at this
        exact fun _ _ _ => ⟨fun _ => N79 μ1 this, fun z => absurd rfl z⟩
  | succ n ih =>
    intro s j μ n6 s0 s1 hj W K
    have e : (2 : Int) ^ (n + 1) = 2 * 2 ^ n := by rw [Int.pow_succ]; omega
    have p : (1 : Int) ≤ 2 ^ n := by
      have : (0 : Int) < 2 ^ n := Int.pow_pos (by decide)
      omega
    rw [if_neg (by omega), show n + 1 - 1 = n by omega] at hj
    rw [e] at s1
    have K' : ∀ μ', FC5 X μ μ' → Q (cB o n (if o (s + 2 ^ n) = 0 then s else s + 2 ^ n)) ε μ' := K
    have hd : w32 (Int.tdiv j 2) = if n = 0 then 0 else 2 ^ (n - 1) := by
      rw [hj, Int.tdiv_eq_ediv_of_nonneg (by omega)]
      by_cases z : n = 0
      · subst z; decide
      · rw [if_neg z]
        obtain ⟨k, hk⟩ : ∃ k, n = k + 1 := ⟨n - 1, by omega⟩
        subst hk
        have e2 : (2 : Int) ^ (k + 1) = 2 * 2 ^ k := by rw [Int.pow_succ]; omega
        rw [e2, show k + 1 - 1 = k by omega, show 2 * (2 : Int) ^ k / 2 = 2 ^ k by omega, w32_id (by unfold i32; omega)]
    have hs : w32 (s + j) = s + 2 ^ n := by rw [hj, w32_id (by unfold i32; omega)]
    apply g_X10_room_27
    rw [hs]
    refine fun _ _ _ => ⟨fun q => absurd q (by omega), fun _ => ⟨S.1.k, sp_X10_isSafeNarrowed S W ⟨by omega, by omega⟩ (fun μ1 f1 sf => ?_) (fun μ1 f1 nsf => ?_)⟩⟩
    · apply g_X10_room_42
      rw [hs, hd]
      intro _ _ _ _ v3 h3 v4 h4
      rw [if_neg (by decide)] at h3
      rcases ho' (s + 2 ^ n) with ⟨o1, _⟩ | ⟨_, o2⟩
      · rw [h3]
        rw [o1, if_neg (by decide)] at K'
        exact ih (s + 2 ^ n) v4 μ1 (by omega) (by omega) (by omega) h4 (W.c5 f1) (fun μ' f' => K' μ' (f1.trans f'))
      · exact absurd sf o2
    · apply g_X10_room_42
      rw [hs, hd]
      intro _ _ _ _ v3 h3 v4 h4
      rw [if_pos rfl] at h3
      rcases ho' (s + 2 ^ n) with ⟨_, o2⟩ | ⟨o1, _⟩
      · exact absurd o2 nsf
      · rw [h3]
        rw [o1, if_pos rfl] at K'
        exact ih s v4 μ1 (by omega) s0 (by omega) h4 (W.c5 f1) (fun μ' f' => K' μ' (f1.trans f'))
theorem room_42 {Q Y : m_Po} {ε : m_E} {μ σ : m_M} {M a g b m : Int} (L : LM ε M) (W : WM μ σ M a) (gb : 1 < b - g) (g1 : -1 ≤ g) (b1 : b ≤ 65) (hm : m = if g = -1 then 0 else (g + b) / 2) (m0 : 0 ≤ m) (m1 : m ≤ 64)
    (h1 : ∀ μ', FR5 M μ μ' → Saf σ a m → G cd_X12_room Q Y 42 [(0, (2, M)), (1, (0, a)), (2, (0, m)), (3, (0, b))] [] ε μ') (h0 : ∀ μ', FR5 M μ μ' → ¬ Saf σ a m → G cd_X12_room Q Y 42 [(0, (2, M)), (1, (0, a)), (2, (0, g)), (3, (0, m))] [] ε μ') : G cd_X12_room Q Y 42 [(0, (2, M)), (1, (0, a)), (2, (0, g)), (3, (0, b))] [] ε μ := by
  obtain ⟨na, ng, nB, hho, p0, p1, q0, q1, SF', J'⟩ := W
  have a0 := na.1
  have a1 := na.2.1
  have n1 := na.2.2.1
  have n10 := na.2.2.2.1
  have I := gi_of (ne := neR σ a m) (fa := inR σ a m) (sl := slR σ a 0) (lo := 1) (i0 := 0) (P := 256) (t := (σ 15 a).toNat + 1) na nB ng hho p0 p1 q0 q1 (nR_ok (Or.inr ⟨m0, m1, by decide⟩)) (by decide) (by decide) (by decide) (by omega)
  apply g_X12_room_42
  rw [L.f17.1, SF' 15 _ (by decide) (by decide), w32_id (show i32 (b - g) by unfold i32; omega), w32_id (show i32 (σ 15 a - 1) by unfold i32; omega)]
  refine fun _ _ _ _ => ⟨fun q => absurd q (by omega), fun _ t ht v4 h4 => ⟨L.k, L.f17.2.1, a0, by rw [L.f17.2.2]; exact a1, ?_⟩⟩
  have ev : v4 = m := by
    rw [h4, ht, hm]
    by_cases z : g = -1
    · rw [if_pos z, if_pos z]
    · rw [if_neg z, if_neg z, w32_id (show i32 (g + b) by unfold i32; omega), Int.tdiv_eq_ediv_of_nonneg (by omega), w32_id (by unfold i32; omega)]
  subst ev
  refine tells_in (T := (σ 15 a).toNat + 1) L SF' na nB ng hho J' (by decide) (by omega) (by omega) (Or.inr ⟨m0, m1⟩) (by omega) (fun μ1 f1 L1 => ?_)
  have en : μ1 M 35 = ((lst σ a 0 0 1 v4 ((σ 15 a).toNat + 1) ++ frm (σ 15 a + 1)).length : Int) := L1.1
  have L1' : RLg ((lst σ a 0 0 1 v4 ((σ 15 a).toNat + 1) ++ frm (σ 15 a + 1)).length : Int) (μ1 (M + 30)) (μ1 (M + 26)) (μ1 (M + 27)) (μ1 (M + 28)) (μ1 (M + 29)) (lst σ a 0 0 1 v4 ((σ 15 a).toNat + 1) ++ frm (σ 15 a + 1)) := by
    rw [← en]; exact L1
  obtain ⟨fw, _, pf⟩ := rows_fw L1' I
  have fm := fmb256 L1' I (fun d _ => by
    unfold neR inR allR
    rw [if_neg (show ¬ v4 = -1 by omega), if_neg (show ¬ v4 = -1 by omega)]
    split <;> omega)
  have iff : Fe (μ1 (M + 26)) (μ1 (M + 27)) (μ1 (M + 28)) (μ1 (M + 29)) _ ↔ Saf σ a v4 := FeL.iff (nrl_l2 ⟨m0, m1⟩) L1'
  have fr : ∀ {μ'}, FS M μ1 μ' → FR5 M μ μ' := fun f b j h h2 h3 h4 h5 => by rw [f _ _ h2 h3 h4 (by omega), f1 _ _ (by omega) h]
  apply g_X12_room_83
  refine fun _ _ _ _ _ => ⟨L.k, sp_X12_isSafe L (lst_len (by omega)) ⟨en, fun _ => rfl, fun _ => rfl, fun _ => rfl, fun _ => rfl⟩ fm pf (fun μ2 T f2 fe _ _ _ _ _ => ?_) (fun μ2 f2 nfe => ?_)⟩
  · apply g_X12_room_87
    intro _ _ _ _ _ _ v2 h2 v3 h3
    rw [if_neg (by decide)] at h2 h3
    rw [h2, h3]
    exact h1 μ2 (fr f2) (iff.mp fe)
  · apply g_X12_room_87
    intro _ _ _ _ _ _ v2 h2 v3 h3
    rw [if_pos rfl] at h2 h3
    rw [h2, h3]
    exact h0 μ2 (fr f2) (fun z => nfe (iff.mpr z))
theorem room_m {Q Y : m_Po} {ε : m_E} {σ : m_M} {M a : Int} {o : Int → Int} (L : LM ε M) (ho' : orc σ a o) : ∀ (k : Nat) (g b : Int) (μ : m_M), b - g ≤ 2 ^ k → 0 ≤ g → g ≤ 64 → g < b → b ≤ 65 → WM μ σ M a → (∀ μ', FR5 M μ μ' → Q (rmR o k g b) ε μ') → G cd_X12_room Q Y 42 [(0, (2, M)), (1, (0, a)), (2, (0, g)), (3, (0, b))] [] ε μ := by
  intro k
  induction k with
  | zero =>
    intro g b μ hb g0 g64 gb b1 W K
    have e : (2 : Int) ^ 0 = 1 := rfl
    apply g_X12_room_42
    rw [w32_id (show i32 (b - g) by unfold i32; omega)]
    refine fun _ _ _ _ => ⟨fun _ => ?_, fun q => absurd q (by omega)⟩
    exact K μ FR5.rf
  | succ k ih =>
    intro g b μ hb g0 g64 gb b1 W K
    have e : (2 : Int) ^ (k + 1) = 2 * 2 ^ k := by rw [Int.pow_succ]; omega
    rw [e] at hb
    by_cases z : b - g ≤ 1
    · apply g_X12_room_42
      rw [w32_id (show i32 (b - g) by unfold i32; omega)]
      refine fun _ _ _ _ => ⟨fun _ => ?_, fun q => absurd q (by omega)⟩
      have := K μ FR5.rf
      unfold rmR at this
      rw [if_pos z] at this
      exact this
    · have K' : ∀ μ', FR5 M μ μ' → Q (if o ((g + b) / 2) = 0 then rmR o k g ((g + b) / 2) else rmR o k ((g + b) / 2) b) ε μ' := fun μ' f => by
        have := K μ' f
        unfold rmR at this
        rw [if_neg z, if_neg (show ¬ g = -1 by omega)] at this
        exact this
      refine room_42 (m := (g + b) / 2) L W (by omega) (by omega) b1 (by rw [if_neg (by omega)]) (by omega) (by omega) (fun μ1 f1 sf => ?_) (fun μ1 f1 nsf => ?_)
      · rcases ho' ((g + b) / 2) with ⟨o1, _⟩ | ⟨_, o2⟩
        · rw [o1, if_neg (by decide)] at K'
          exact ih _ _ μ1 (by omega) (by omega) (by omega) (by omega) b1 (W.r5 f1) (fun μ' f' => K' μ' (f1.trans f'))
        · exact absurd sf o2
      · rcases ho' ((g + b) / 2) with ⟨_, o2⟩ | ⟨o1, _⟩
        · exact absurd o2 nsf
        · rw [o1, if_pos rfl] at K'
          exact ih _ _ μ1 (by omega) g0 g64 (by omega) (by omega) (W.r5 f1) (fun μ' f' => K' μ' (f1.trans f'))
theorem room_all {Q Y : m_Po} {ε : m_E} {μ σ : m_M} {M a : Int} {o : Int → Int} (L : LM ε M) (ho' : orc σ a o) (W : WM μ σ M a) (K : ∀ μ', FR5 M μ μ' → Q (rmA o) ε μ') : G cd_X12_room Q Y 42 [(0, (2, M)), (1, (0, a)), (2, (0, -1)), (3, (0, 65))] [] ε μ := by
  rw [← rmR_all] at K
  have K' : ∀ μ', FR5 M μ μ' → Q (if o 0 = 0 then rmR o 8 (-1) 0 else rmR o 8 0 65) ε μ' := K
  refine room_42 (m := 0) L W (by decide) (by decide) (by decide) (by rw [if_pos rfl]) (by decide) (by decide) (fun μ1 f1 sf => ?_) (fun μ1 f1 nsf => ?_)
  · rcases ho' 0 with ⟨o1, _⟩ | ⟨_, o2⟩
    · rw [o1, if_neg (by decide)] at K'
      exact room_m L ho' 8 0 65 μ1 (by decide) (by decide) (by decide) (by decide) (by decide) (W.r5 f1) (fun μ' f' => K' μ' (f1.trans f'))
    · exact absurd sf o2
  · rcases ho' 0 with ⟨_, o2⟩ | ⟨o1, _⟩
    · exact absurd o2 nsf
    · rw [o1, if_pos rfl] at K'
      have e : rmR o 8 (-1) 0 = -1 := by unfold rmR; rw [if_pos (by decide)]
      rw [e] at K'
      apply g_X12_room_42
      rw [show w32 (0 - -1) = 1 by decide]
      exact fun _ _ _ _ => ⟨fun _ => K' μ1 f1, fun q => absurd q (by decide)⟩
