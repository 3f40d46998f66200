set_option maxHeartbeats 2000000
/-! ===== the cases of the law ===== -/
def codA (e : Int) : Int := if e = 2 then 1 else if e = 3 then 2 else 0
theorem codA_n : ∀ e, codA e ≠ 0 → e = 2 ∨ e = 3 := fun e h => by
  by_cases a0 : e = 2
  · exact Or.inl a0
  · skip
    by_cases a1 : e = 3
    · exact Or.inr a1
    · exact absurd (by unfold codA; rw [if_neg a0, if_neg a1]) h
def codB (e : Int) : Int := if e = 1 then 1 else if e = 2 then 2 else 0
theorem codB_n : ∀ e, codB e ≠ 0 → e = 1 ∨ e = 2 := fun e h => by
  by_cases a0 : e = 1
  · exact Or.inl a0
  · skip
    by_cases a1 : e = 2
    · exact Or.inr a1
    · exact absurd (by unfold codB; rw [if_neg a0, if_neg a1]) h
def codC (e : Int) : Int := if e = 1 then 1 else 0
theorem codC_n : ∀ e, codC e ≠ 0 → e = 1 := fun e h => by
  by_cases a0 : e = 1
  · exact a0
  · exact absurd (by unfold codC; rw [if_neg a0]) h
def codD (e : Int) : Int := if e = 1 then 1 else if e = 2 then 2 else if e = 3 then 3 else 0
theorem codD_n : ∀ e, codD e ≠ 0 → e = 1 ∨ e = 2 ∨ e = 3 := fun e h => by
  by_cases a0 : e = 1
  · exact Or.inl a0
  · skip
    by_cases a1 : e = 2
    · exact Or.inr (Or.inl a1)
    · skip
      by_cases a2 : e = 3
      · exact Or.inr (Or.inr a2)
      · exact absurd (by unfold codD; rw [if_neg a0, if_neg a1, if_neg a2]) h
def codE (e : Int) : Int := if e = 3 then 1 else if e = 2 then 2 else 0
theorem codE_n : ∀ e, codE e ≠ 0 → e = 3 ∨ e = 2 := fun e h => by
  by_cases a0 : e = 3
  · exact Or.inl a0
  · skip
    by_cases a1 : e = 2
    · exact Or.inr a1
    · exact absurd (by unfold codE; rw [if_neg a0, if_neg a1]) h
def codF (e : Int) : Int := if e = 1 then 1 else if e = 3 then 2 else 0
theorem codF_n : ∀ e, codF e ≠ 0 → e = 1 ∨ e = 3 := fun e h => by
  by_cases a0 : e = 1
  · exact Or.inl a0
  · skip
    by_cases a1 : e = 3
    · exact Or.inr a1
    · exact absurd (by unfold codF; rw [if_neg a0, if_neg a1]) h
def lcs (s X i : Int) : m_L := [(0, (2, s)), (1, (2, X)), (2, (2, X + 34)), (3, (2, X + 141)), (4, (0, i))]
theorem w32_i {v k : Int} (v0 : 0 ≤ v) (v1 : v ≤ 3584) (k0 : 0 ≤ k) (k1 : k ≤ 7) : w32 (v + k) = v + k := w32_id (by unfold i32; omega)
theorem Rel.sl {ε : m_E} {μ : m_M} {X : Int} (H : Rel ε μ X) : SL ε X := by obtain ⟨_, _, S, _⟩ := H; exact S
theorem Rel.lm {ε : m_E} {μ : m_M} {X : Int} (H : Rel ε μ X) : LM ε (X + 34) := by obtain ⟨_, _, _, G, _⟩ := H; exact G.1
theorem lc_rack {N : m_C} {Q Y : m_Po} {ε : m_E} {μ : m_M} {s X v : Int} (H : Rel ε μ X) (ks : kd ε s = 99) (sX : s < X) (v0 : 0 ≤ v) (v7 : v + 7 ≤ ln ε s) (hL : ln ε s ≤ 3584) (next : ∀ ε' μ', EX ε ε' → Rel ε' μ' X → G (cd_L_law N) Q Y 1721 [(0, (2, s)), (1, (2, X)), (2, (2, X + 34)), (3, (2, X + 141)), (4, (0, v))] [] ε' μ') : G (cd_L_law N) Q Y 152 [(0, (2, s)), (1, (2, X)), (2, (2, X + 34)), (3, (2, X + 141)), (4, (0, v))] [] ε μ := by
  have w1 : w32 (v + 1) = v + 1 := w32_i v0 (by omega) (by decide) (by decide)
  apply g_L_law_152
  rw [w1]
  refine fun _ _ => ⟨ks, by omega, by omega, w_rack H.sl rfl rfl codA_n (pr_rack (codes := codA) rfl rfl H) (fun k z ε1 μ1 μ2 A f2 o2 => ?_)⟩
  obtain ⟨k1, k2, _⟩ := A.1 s (by rw [ks]; decide)
  have kM : kd ε1 (X + 34) = 11 := (H.lm.ex A.1).k
  have e2 : ∀ j, μ2 s j = μ s j := fun j => by rw [f2 _ _ (by omega), A.2.1 _ _ sX]
  apply g_L_law_163
  rw [w1]
  rw [k1, k2, e2 (v + 1)]
  refine fun _ _ _ v5 e5 => ⟨ks, by omega, by omega, kM, A.2.2 μ2 f2 _ _ (fun b μ3 _ R3 t3 z3 o3 => ?_)⟩
  apply g_L_law_175
  refine fun _ _ _ _ v6 e6 => ⟨kM, ?_⟩
  apply e_X12_thrown
  refine fun _ => ⟨kM, ?_⟩
  apply g_L_law_181
  have nx : G (cd_L_law N) Q Y 205 [(0, (2, s)), (1, (2, X)), (2, (2, X + 34)), (3, (2, X + 141)), (4, (0, v))] [] ε1 μ3 := by
    apply g_L_law_205
    exact fun _ _ => next ε1 μ3 A.1 R3
  have S1 := H.sl.ex A.1
  exact fun _ _ _ _ _ => ⟨fun _ => ⟨fun _ => nx, fun q => ⟨S1.2.2.2.2.2.2.1, by rw [S1.2.2.2.2.2.2.2]; decide, fun _ => nx, fun y => absurd (by rw [o3, o2 (e5.symm.trans q), e6, z3 (e5.symm.trans q)]) y⟩⟩, fun q => absurd (t3.trans e5.symm) q⟩
theorem lc_row {N : m_C} {Q Y : m_Po} {ε : m_E} {μ : m_M} {s X v : Int} (H : Rel ε μ X) (ks : kd ε s = 99) (sX : s < X) (v0 : 0 ≤ v) (v7 : v + 7 ≤ ln ε s) (hL : ln ε s ≤ 3584) (next : ∀ ε' μ', EX ε ε' → Rel ε' μ' X → G (cd_L_law N) Q Y 1721 [(0, (2, s)), (1, (2, X)), (2, (2, X + 34)), (3, (2, X + 141)), (4, (0, v))] [] ε' μ') : G (cd_L_law N) Q Y 208 [(0, (2, s)), (1, (2, X)), (2, (2, X + 34)), (3, (2, X + 141)), (4, (0, v))] [] ε μ := by
  have w1 : w32 (v + 1) = v + 1 := w32_i v0 (by omega) (by decide) (by decide)
  have w2 : w32 (v + 2) = v + 2 := w32_i v0 (by omega) (by decide) (by decide)
  have w3 : w32 (v + 3) = v + 3 := w32_i v0 (by omega) (by decide) (by decide)
  apply g_L_law_208
  rw [w1, w2, w3]
  refine fun _ _ => ⟨ks, by omega, by omega, by omega, by omega, by omega, by omega, w_row H.sl rfl rfl codB_n (pr_row (codes := codB) rfl rfl H) (fun k z ε1 μ1 μ2 A f2 => ?_)⟩
  obtain ⟨k1, k2, _⟩ := A.1 s (by rw [ks]; decide)
  have kM : kd ε1 (X + 34) = 11 := (H.lm.ex A.1).k
  have e2 : ∀ j, μ2 s j = μ s j := fun j => by rw [f2 _ _ (by omega), A.2.1 _ _ sX]
  apply g_L_law_230
  rw [w1, w2, w3]
  rw [k1, k2, e2 (v + 1), e2 (v + 2), e2 (v + 3)]
  refine fun _ _ _ v5 e5 => ⟨ks, by omega, by omega, by omega, by omega, by omega, by omega, kM, A.2.2 μ2 f2 _ _ (fun b μ3 _ R3 t3 _ _ => ?_)⟩
  apply g_L_law_254
  refine fun _ _ _ => ⟨kM, ?_⟩
  apply e_X12_thrown
  refine fun _ => ⟨kM, ?_⟩
  apply g_L_law_258
  exact fun _ _ _ _ => ⟨fun _ => next ε1 μ3 A.1 R3, fun q => absurd (t3.trans e5.symm) q⟩
theorem lc_put {N : m_C} {Q Y : m_Po} {ε : m_E} {μ : m_M} {s X v : Int} (H : Rel ε μ X) (ks : kd ε s = 99) (sX : s < X) (v0 : 0 ≤ v) (v7 : v + 7 ≤ ln ε s) (hL : ln ε s ≤ 3584) (next : ∀ ε' μ', EX ε ε' → Rel ε' μ' X → G (cd_L_law N) Q Y 1721 [(0, (2, s)), (1, (2, X)), (2, (2, X + 34)), (3, (2, X + 141)), (4, (0, v))] [] ε' μ') : G (cd_L_law N) Q Y 268 [(0, (2, s)), (1, (2, X)), (2, (2, X + 34)), (3, (2, X + 141)), (4, (0, v))] [] ε μ := by
  have w1 : w32 (v + 1) = v + 1 := w32_i v0 (by omega) (by decide) (by decide)
  have w2 : w32 (v + 2) = v + 2 := w32_i v0 (by omega) (by decide) (by decide)
  have w3 : w32 (v + 3) = v + 3 := w32_i v0 (by omega) (by decide) (by decide)
  have w4 : w32 (v + 4) = v + 4 := w32_i v0 (by omega) (by decide) (by decide)
  apply g_L_law_268
  rw [w1, w2, w3, w4]
  refine fun _ _ => ⟨ks, by omega, by omega, by omega, by omega, by omega, by omega, by omega, by omega, w_put H.sl rfl codC_n (pr_put (codes := codC) rfl H) (fun k z ε1 μ1 μ2 A f2 o2 => ?_)⟩
  obtain ⟨k1, k2, _⟩ := A.1 s (by rw [ks]; decide)
  have kM : kd ε1 (X + 34) = 11 := (H.lm.ex A.1).k
  have e2 : ∀ j, μ2 s j = μ s j := fun j => by rw [f2 _ _ (by omega), A.2.1 _ _ sX]
  apply g_L_law_297
  rw [w1, w2, w3, w4]
  rw [k1, k2, e2 (v + 1), e2 (v + 2), e2 (v + 3), e2 (v + 4)]
  refine fun _ _ _ v5 e5 => ⟨ks, by omega, by omega, by omega, by omega, by omega, by omega, by omega, by omega, kM, A.2.2 μ2 f2 _ _ (fun b μ3 _ R3 t3 z3 o3 => ?_)⟩
  apply g_L_law_327
  refine fun _ _ _ _ v6 e6 => ⟨kM, ?_⟩
  apply e_X12_thrown
  refine fun _ => ⟨kM, ?_⟩
  apply g_L_law_333
  have nx : G (cd_L_law N) Q Y 357 [(0, (2, s)), (1, (2, X)), (2, (2, X + 34)), (3, (2, X + 141)), (4, (0, v))] [] ε1 μ3 := by
    apply g_L_law_357
    exact fun _ _ => next ε1 μ3 A.1 R3
  have S1 := H.sl.ex A.1
  exact fun _ _ _ _ _ => ⟨fun _ => ⟨fun _ => nx, fun q => ⟨S1.2.2.2.2.2.2.1, by rw [S1.2.2.2.2.2.2.2]; decide, fun _ => nx, fun y => absurd (by rw [o3, o2 (e5.symm.trans q), e6, z3 (e5.symm.trans q)]) y⟩⟩, fun q => absurd (t3.trans e5.symm) q⟩
theorem lc_tear {N : m_C} {Q Y : m_Po} {ε : m_E} {μ : m_M} {s X v : Int} (H : Rel ε μ X) (ks : kd ε s = 99) (sX : s < X) (v0 : 0 ≤ v) (v7 : v + 7 ≤ ln ε s) (hL : ln ε s ≤ 3584) (next : ∀ ε' μ', EX ε ε' → Rel ε' μ' X → G (cd_L_law N) Q Y 1721 [(0, (2, s)), (1, (2, X)), (2, (2, X + 34)), (3, (2, X + 141)), (4, (0, v))] [] ε' μ') : G (cd_L_law N) Q Y 360 [(0, (2, s)), (1, (2, X)), (2, (2, X + 34)), (3, (2, X + 141)), (4, (0, v))] [] ε μ := by
  have w1 : w32 (v + 1) = v + 1 := w32_i v0 (by omega) (by decide) (by decide)
  have w2 : w32 (v + 2) = v + 2 := w32_i v0 (by omega) (by decide) (by decide)
  have w3 : w32 (v + 3) = v + 3 := w32_i v0 (by omega) (by decide) (by decide)
  apply g_L_law_360
  rw [w1, w2, w3]
  refine fun _ _ => ⟨ks, by omega, by omega, by omega, by omega, by omega, by omega, w_tear H.sl rfl codC_n (pr_tear (codes := codC) rfl H) (fun k z ε1 μ1 μ2 A f2 o2 => ?_)⟩
  obtain ⟨k1, k2, _⟩ := A.1 s (by rw [ks]; decide)
  have kM : kd ε1 (X + 34) = 11 := (H.lm.ex A.1).k
  have e2 : ∀ j, μ2 s j = μ s j := fun j => by rw [f2 _ _ (by omega), A.2.1 _ _ sX]
  apply g_L_law_383
  rw [w1, w2, w3]
  rw [k1, k2, e2 (v + 1), e2 (v + 2), e2 (v + 3)]
  refine fun _ _ _ v5 e5 => ⟨ks, by omega, by omega, by omega, by omega, by omega, by omega, kM, A.2.2 μ2 f2 _ _ (fun b μ3 _ R3 t3 z3 o3 => ?_)⟩
  apply g_L_law_407
  refine fun _ _ _ _ v6 e6 => ⟨kM, ?_⟩
  apply e_X12_thrown
  refine fun _ => ⟨kM, ?_⟩
  apply g_L_law_413
  have nx : G (cd_L_law N) Q Y 437 [(0, (2, s)), (1, (2, X)), (2, (2, X + 34)), (3, (2, X + 141)), (4, (0, v))] [] ε1 μ3 := by
    apply g_L_law_437
    exact fun _ _ => next ε1 μ3 A.1 R3
  have S1 := H.sl.ex A.1
  exact fun _ _ _ _ _ => ⟨fun _ => ⟨fun _ => nx, fun q => ⟨S1.2.2.2.2.2.2.1, by rw [S1.2.2.2.2.2.2.2]; decide, fun _ => nx, fun y => absurd (by rw [o3, o2 (e5.symm.trans q), e6, z3 (e5.symm.trans q)]) y⟩⟩, fun q => absurd (t3.trans e5.symm) q⟩
theorem lc_stone {N : m_C} {Q Y : m_Po} {ε : m_E} {μ : m_M} {s X v : Int} (H : Rel ε μ X) (ks : kd ε s = 99) (sX : s < X) (v0 : 0 ≤ v) (v7 : v + 7 ≤ ln ε s) (hL : ln ε s ≤ 3584) (next : ∀ ε' μ', EX ε ε' → Rel ε' μ' X → G (cd_L_law N) Q Y 1721 [(0, (2, s)), (1, (2, X)), (2, (2, X + 34)), (3, (2, X + 141)), (4, (0, v))] [] ε' μ') : G (cd_L_law N) Q Y 440 [(0, (2, s)), (1, (2, X)), (2, (2, X + 34)), (3, (2, X + 141)), (4, (0, v))] [] ε μ := by
  have w1 : w32 (v + 1) = v + 1 := w32_i v0 (by omega) (by decide) (by decide)
  have w2 : w32 (v + 2) = v + 2 := w32_i v0 (by omega) (by decide) (by decide)
  have w3 : w32 (v + 3) = v + 3 := w32_i v0 (by omega) (by decide) (by decide)
  have w4 : w32 (v + 4) = v + 4 := w32_i v0 (by omega) (by decide) (by decide)
  apply g_L_law_440
  rw [w1, w2, w3, w4]
  refine fun _ _ => ⟨ks, by omega, by omega, by omega, by omega, by omega, by omega, by omega, by omega, w_stone H.sl rfl rfl codB_n (pr_stone (codes := codB) rfl rfl H) (fun k z ε1 μ1 μ2 A f2 o2 => ?_)⟩
  obtain ⟨k1, k2, _⟩ := A.1 s (by rw [ks]; decide)
  have kM : kd ε1 (X + 34) = 11 := (H.lm.ex A.1).k
  have e2 : ∀ j, μ2 s j = μ s j := fun j => by rw [f2 _ _ (by omega), A.2.1 _ _ sX]
  apply g_L_law_469
  rw [w1, w2, w3, w4]
  rw [k1, k2, e2 (v + 1), e2 (v + 2), e2 (v + 3), e2 (v + 4)]
  refine fun _ _ _ v5 e5 => ⟨ks, by omega, by omega, by omega, by omega, by omega, by omega, by omega, by omega, kM, A.2.2 μ2 f2 _ _ (fun b μ3 _ R3 t3 z3 o3 => ?_)⟩
  apply g_L_law_499
  refine fun _ _ _ _ v6 e6 => ⟨kM, ?_⟩
  apply e_X12_thrown
  refine fun _ => ⟨kM, ?_⟩
  apply g_L_law_505
  have nx : G (cd_L_law N) Q Y 529 [(0, (2, s)), (1, (2, X)), (2, (2, X + 34)), (3, (2, X + 141)), (4, (0, v))] [] ε1 μ3 := by
    apply g_L_law_529
    exact fun _ _ => next ε1 μ3 A.1 R3
  have S1 := H.sl.ex A.1
  exact fun _ _ _ _ _ => ⟨fun _ => ⟨fun _ => nx, fun q => ⟨S1.2.2.2.2.2.2.1, by rw [S1.2.2.2.2.2.2.2]; decide, fun _ => nx, fun y => absurd (by rw [o3, o2 (e5.symm.trans q), e6, z3 (e5.symm.trans q)]) y⟩⟩, fun q => absurd (t3.trans e5.symm) q⟩
theorem lc_told {N : m_C} {Q Y : m_Po} {ε : m_E} {μ : m_M} {s X v : Int} (H : Rel ε μ X) (ks : kd ε s = 99) (sX : s < X) (v0 : 0 ≤ v) (v7 : v + 7 ≤ ln ε s) (hL : ln ε s ≤ 3584) (next : ∀ ε' μ', EX ε ε' → Rel ε' μ' X → G (cd_L_law N) Q Y 1721 [(0, (2, s)), (1, (2, X)), (2, (2, X + 34)), (3, (2, X + 141)), (4, (0, v))] [] ε' μ') : G (cd_L_law N) Q Y 532 [(0, (2, s)), (1, (2, X)), (2, (2, X + 34)), (3, (2, X + 141)), (4, (0, v))] [] ε μ := by
  have w1 : w32 (v + 1) = v + 1 := w32_i v0 (by omega) (by decide) (by decide)
  have w2 : w32 (v + 2) = v + 2 := w32_i v0 (by omega) (by decide) (by decide)
  apply g_L_law_532
  rw [w1, w2]
  refine fun _ _ => ⟨ks, by omega, by omega, by omega, by omega, w_told H.sl rfl rfl codB_n (pr_told (codes := codB) rfl rfl H) (fun k z ε1 μ1 μ2 A f2 o2 => ?_)⟩
  obtain ⟨k1, k2, _⟩ := A.1 s (by rw [ks]; decide)
  have kM : kd ε1 (X + 34) = 11 := (H.lm.ex A.1).k
  have e2 : ∀ j, μ2 s j = μ s j := fun j => by rw [f2 _ _ (by omega), A.2.1 _ _ sX]
  apply g_L_law_549
  rw [w1, w2]
  rw [k1, k2, e2 (v + 1), e2 (v + 2)]
  refine fun _ _ _ v5 e5 => ⟨ks, by omega, by omega, by omega, by omega, kM, A.2.2 μ2 f2 _ _ (fun b μ3 _ R3 t3 z3 o3 => ?_)⟩
  apply g_L_law_567
  refine fun _ _ _ _ v6 e6 => ⟨kM, ?_⟩
  apply e_X12_thrown
  refine fun _ => ⟨kM, ?_⟩
  apply g_L_law_573
  have nx : G (cd_L_law N) Q Y 597 [(0, (2, s)), (1, (2, X)), (2, (2, X + 34)), (3, (2, X + 141)), (4, (0, v))] [] ε1 μ3 := by
    apply g_L_law_597
    exact fun _ _ => next ε1 μ3 A.1 R3
  have S1 := H.sl.ex A.1
  exact fun _ _ _ _ _ => ⟨fun _ => ⟨fun _ => nx, fun q => ⟨S1.2.2.2.2.2.2.1, by rw [S1.2.2.2.2.2.2.2]; decide, fun _ => nx, fun y => absurd (by rw [o3, o2 (e5.symm.trans q), e6, z3 (e5.symm.trans q)]) y⟩⟩, fun q => absurd (t3.trans e5.symm) q⟩
theorem lc_arch {N : m_C} {Q Y : m_Po} {ε : m_E} {μ : m_M} {s X v : Int} (H : Rel ε μ X) (ks : kd ε s = 99) (sX : s < X) (v0 : 0 ≤ v) (v7 : v + 7 ≤ ln ε s) (hL : ln ε s ≤ 3584) (next : ∀ ε' μ', EX ε ε' → Rel ε' μ' X → G (cd_L_law N) Q Y 1721 [(0, (2, s)), (1, (2, X)), (2, (2, X + 34)), (3, (2, X + 141)), (4, (0, v))] [] ε' μ') : G (cd_L_law N) Q Y 600 [(0, (2, s)), (1, (2, X)), (2, (2, X + 34)), (3, (2, X + 141)), (4, (0, v))] [] ε μ := by
  have w1 : w32 (v + 1) = v + 1 := w32_i v0 (by omega) (by decide) (by decide)
  apply g_L_law_600
  rw [w1]
  refine fun _ _ => ⟨ks, by omega, by omega, w_arch H.sl rfl rfl codA_n (pr_arch (codes := codA) rfl rfl H) (fun k z ε1 μ1 μ2 A f2 o2 => ?_)⟩
  obtain ⟨k1, k2, _⟩ := A.1 s (by rw [ks]; decide)
  have kM : kd ε1 (X + 34) = 11 := (H.lm.ex A.1).k
  have e2 : ∀ j, μ2 s j = μ s j := fun j => by rw [f2 _ _ (by omega), A.2.1 _ _ sX]
  apply g_L_law_611
  rw [w1]
  rw [k1, k2, e2 (v + 1)]
  refine fun _ _ _ v5 e5 => ⟨ks, by omega, by omega, kM, A.2.2 μ2 f2 _ _ (fun b μ3 _ R3 t3 z3 o3 => ?_)⟩
  apply g_L_law_623
  refine fun _ _ _ _ v6 e6 => ⟨kM, ?_⟩
  apply e_X12_thrown
  refine fun _ => ⟨kM, ?_⟩
  apply g_L_law_629
  have nx : G (cd_L_law N) Q Y 653 [(0, (2, s)), (1, (2, X)), (2, (2, X + 34)), (3, (2, X + 141)), (4, (0, v))] [] ε1 μ3 := by
    apply g_L_law_653
    exact fun _ _ => next ε1 μ3 A.1 R3
  have S1 := H.sl.ex A.1
  exact fun _ _ _ _ _ => ⟨fun _ => ⟨fun _ => nx, fun q => ⟨S1.2.2.2.2.2.2.1, by rw [S1.2.2.2.2.2.2.2]; decide, fun _ => nx, fun y => absurd (by rw [o3, o2 (e5.symm.trans q), e6, z3 (e5.symm.trans q)]) y⟩⟩, fun q => absurd (t3.trans e5.symm) q⟩
theorem lc_pier {N : m_C} {Q Y : m_Po} {ε : m_E} {μ : m_M} {s X v : Int} (H : Rel ε μ X) (ks : kd ε s = 99) (sX : s < X) (v0 : 0 ≤ v) (v7 : v + 7 ≤ ln ε s) (hL : ln ε s ≤ 3584) (next : ∀ ε' μ', EX ε ε' → Rel ε' μ' X → G (cd_L_law N) Q Y 1721 [(0, (2, s)), (1, (2, X)), (2, (2, X + 34)), (3, (2, X + 141)), (4, (0, v))] [] ε' μ') : G (cd_L_law N) Q Y 656 [(0, (2, s)), (1, (2, X)), (2, (2, X + 34)), (3, (2, X + 141)), (4, (0, v))] [] ε μ := by
  have w1 : w32 (v + 1) = v + 1 := w32_i v0 (by omega) (by decide) (by decide)
  have w2 : w32 (v + 2) = v + 2 := w32_i v0 (by omega) (by decide) (by decide)
  have w3 : w32 (v + 3) = v + 3 := w32_i v0 (by omega) (by decide) (by decide)
  have w4 : w32 (v + 4) = v + 4 := w32_i v0 (by omega) (by decide) (by decide)
  have w5 : w32 (v + 5) = v + 5 := w32_i v0 (by omega) (by decide) (by decide)
  have w6 : w32 (v + 6) = v + 6 := w32_i v0 (by omega) (by decide) (by decide)
  apply g_L_law_656
  rw [w1, w2, w3, w4, w5, w6]
  refine fun _ _ => ⟨ks, by omega, by omega, by omega, by omega, by omega, by omega, by omega, by omega, by omega, by omega, ks, by omega, by omega, w_pier H.sl rfl rfl codB_n (pr_pier (codes := codB) rfl rfl H) (fun k z ε1 μ1 μ2 A f2 => ?_)⟩
  obtain ⟨k1, k2, _⟩ := A.1 s (by rw [ks]; decide)
  have kM : kd ε1 (X + 34) = 11 := (H.lm.ex A.1).k
  have e2 : ∀ j, μ2 s j = μ s j := fun j => by rw [f2 _ _ (by omega), A.2.1 _ _ sX]
  apply g_L_law_697
  rw [w1, w2, w3, w4, w5, w6]
  rw [k1, k2, e2 (v + 1), e2 (v + 2), e2 (v + 3), e2 (v + 4), e2 (v + 5), e2 (v + 6)]
  refine fun _ _ _ v5 e5 => ⟨ks, by omega, by omega, by omega, by omega, by omega, by omega, by omega, by omega, by omega, by omega, ks, by omega, by omega, kM, A.2.2 μ2 f2 _ _ (fun b μ3 _ R3 t3 _ _ => ?_)⟩
  apply g_L_law_740
  refine fun _ _ _ => ⟨kM, ?_⟩
  apply e_X12_thrown
  refine fun _ => ⟨kM, ?_⟩
  apply g_L_law_744
  exact fun _ _ _ _ => ⟨fun _ => next ε1 μ3 A.1 R3, fun q => absurd (t3.trans e5.symm) q⟩
theorem lc_place {N : m_C} {Q Y : m_Po} {ε : m_E} {μ : m_M} {s X v : Int} (H : Rel ε μ X) (ks : kd ε s = 99) (sX : s < X) (v0 : 0 ≤ v) (v7 : v + 7 ≤ ln ε s) (hL : ln ε s ≤ 3584) (next : ∀ ε' μ', EX ε ε' → Rel ε' μ' X → G (cd_L_law N) Q Y 1721 [(0, (2, s)), (1, (2, X)), (2, (2, X + 34)), (3, (2, X + 141)), (4, (0, v))] [] ε' μ') : G (cd_L_law N) Q Y 754 [(0, (2, s)), (1, (2, X)), (2, (2, X + 34)), (3, (2, X + 141)), (4, (0, v))] [] ε μ := by
  have w1 : w32 (v + 1) = v + 1 := w32_i v0 (by omega) (by decide) (by decide)
  have w2 : w32 (v + 2) = v + 2 := w32_i v0 (by omega) (by decide) (by decide)
  have w3 : w32 (v + 3) = v + 3 := w32_i v0 (by omega) (by decide) (by decide)
  apply g_L_law_754
  rw [w1, w2, w3]
  refine fun _ _ => ⟨ks, by omega, by omega, by omega, by omega, by omega, by omega, w_place H.sl rfl codC_n (pr_place (codes := codC) rfl H) (fun k z ε1 μ1 μ2 A f2 => ?_)⟩
  obtain ⟨k1, k2, _⟩ := A.1 s (by rw [ks]; decide)
  have kM : kd ε1 (X + 34) = 11 := (H.lm.ex A.1).k
  have e2 : ∀ j, μ2 s j = μ s j := fun j => by rw [f2 _ _ (by omega), A.2.1 _ _ sX]
  apply g_L_law_776
  rw [w1, w2, w3]
  rw [k1, k2, e2 (v + 1), e2 (v + 2), e2 (v + 3)]
  refine fun _ _ _ v5 e5 => ⟨ks, by omega, by omega, by omega, by omega, by omega, by omega, kM, A.2.2 μ2 f2 _ _ (fun b μ3 _ R3 t3 _ _ => ?_)⟩
  apply g_L_law_800
  refine fun _ _ _ => ⟨kM, ?_⟩
  apply e_X12_thrown
  refine fun _ => ⟨kM, ?_⟩
  apply g_L_law_804
  exact fun _ _ _ _ => ⟨fun _ => next ε1 μ3 A.1 R3, fun q => absurd (t3.trans e5.symm) q⟩
theorem lc_there {N : m_C} {Q Y : m_Po} {ε : m_E} {μ : m_M} {s X v : Int} (H : Rel ε μ X) (ks : kd ε s = 99) (sX : s < X) (v0 : 0 ≤ v) (v7 : v + 7 ≤ ln ε s) (hL : ln ε s ≤ 3584) (next : ∀ ε' μ', EX ε ε' → Rel ε' μ' X → G (cd_L_law N) Q Y 1721 [(0, (2, s)), (1, (2, X)), (2, (2, X + 34)), (3, (2, X + 141)), (4, (0, v))] [] ε' μ') : G (cd_L_law N) Q Y 814 [(0, (2, s)), (1, (2, X)), (2, (2, X + 34)), (3, (2, X + 141)), (4, (0, v))] [] ε μ := by
  have w1 : w32 (v + 1) = v + 1 := w32_i v0 (by omega) (by decide) (by decide)
  have w2 : w32 (v + 2) = v + 2 := w32_i v0 (by omega) (by decide) (by decide)
  apply g_L_law_814
  rw [w1, w2]
  refine fun _ _ => ⟨ks, by omega, by omega, by omega, by omega, w_there H.sl rfl codC_n (pr_there (codes := codC) rfl H) (fun k z ε1 μ1 μ2 A f2 o2 => ?_)⟩
  obtain ⟨k1, k2, _⟩ := A.1 s (by rw [ks]; decide)
  have kM : kd ε1 (X + 34) = 11 := (H.lm.ex A.1).k
  have e2 : ∀ j, μ2 s j = μ s j := fun j => by rw [f2 _ _ (by omega), A.2.1 _ _ sX]
  apply g_L_law_831
  rw [w1, w2]
  rw [k1, k2, e2 (v + 1), e2 (v + 2)]
  refine fun _ _ _ v5 e5 => ⟨ks, by omega, by omega, by omega, by omega, kM, A.2.2 μ2 f2 _ _ (fun b μ3 _ R3 t3 z3 o3 => ?_)⟩
  apply g_L_law_849
  refine fun _ _ _ _ v6 e6 => ⟨kM, ?_⟩
  apply e_X12_thrown
  refine fun _ => ⟨kM, ?_⟩
  apply g_L_law_855
  have nx : G (cd_L_law N) Q Y 879 [(0, (2, s)), (1, (2, X)), (2, (2, X + 34)), (3, (2, X + 141)), (4, (0, v))] [] ε1 μ3 := by
    apply g_L_law_879
    exact fun _ _ => next ε1 μ3 A.1 R3
  have S1 := H.sl.ex A.1
  exact fun _ _ _ _ _ => ⟨fun _ => ⟨fun _ => nx, fun q => ⟨S1.2.2.2.2.2.2.1, by rw [S1.2.2.2.2.2.2.2]; decide, fun _ => nx, fun y => absurd (by rw [o3, o2 (e5.symm.trans q), e6, z3 (e5.symm.trans q)]) y⟩⟩, fun q => absurd (t3.trans e5.symm) q⟩
theorem lc_load {N : m_C} {Q Y : m_Po} {ε : m_E} {μ : m_M} {s X v : Int} (H : Rel ε μ X) (ks : kd ε s = 99) (sX : s < X) (v0 : 0 ≤ v) (v7 : v + 7 ≤ ln ε s) (hL : ln ε s ≤ 3584) (next : ∀ ε' μ', EX ε ε' → Rel ε' μ' X → G (cd_L_law N) Q Y 1721 [(0, (2, s)), (1, (2, X)), (2, (2, X + 34)), (3, (2, X + 141)), (4, (0, v))] [] ε' μ') : G (cd_L_law N) Q Y 882 [(0, (2, s)), (1, (2, X)), (2, (2, X + 34)), (3, (2, X + 141)), (4, (0, v))] [] ε μ := by
  have w1 : w32 (v + 1) = v + 1 := w32_i v0 (by omega) (by decide) (by decide)
  have w2 : w32 (v + 2) = v + 2 := w32_i v0 (by omega) (by decide) (by decide)
  have w3 : w32 (v + 3) = v + 3 := w32_i v0 (by omega) (by decide) (by decide)
  have w4 : w32 (v + 4) = v + 4 := w32_i v0 (by omega) (by decide) (by decide)
  apply g_L_law_882
  rw [w1, w2, w3, w4]
  refine fun _ _ => ⟨ks, by omega, by omega, by omega, by omega, by omega, by omega, by omega, by omega, w_load H.sl rfl rfl codB_n (pr_load (codes := codB) rfl rfl H) (fun k z ε1 μ1 μ2 A f2 o2 => ?_)⟩
  obtain ⟨k1, k2, _⟩ := A.1 s (by rw [ks]; decide)
  have kM : kd ε1 (X + 34) = 11 := (H.lm.ex A.1).k
  have e2 : ∀ j, μ2 s j = μ s j := fun j => by rw [f2 _ _ (by omega), A.2.1 _ _ sX]
  apply g_L_law_911
  rw [w1, w2, w3, w4]
  rw [k1, k2, e2 (v + 1), e2 (v + 2), e2 (v + 3), e2 (v + 4)]
  refine fun _ _ _ v5 e5 => ⟨ks, by omega, by omega, by omega, by omega, by omega, by omega, by omega, by omega, kM, A.2.2 μ2 f2 _ _ (fun b μ3 _ R3 t3 z3 o3 => ?_)⟩
  apply g_L_law_941
  refine fun _ _ _ _ v6 e6 => ⟨kM, ?_⟩
  apply e_X12_thrown
  refine fun _ => ⟨kM, ?_⟩
  apply g_L_law_947
  have nx : G (cd_L_law N) Q Y 971 [(0, (2, s)), (1, (2, X)), (2, (2, X + 34)), (3, (2, X + 141)), (4, (0, v))] [] ε1 μ3 := by
    apply g_L_law_971
    exact fun _ _ => next ε1 μ3 A.1 R3
  have S1 := H.sl.ex A.1
  exact fun _ _ _ _ _ => ⟨fun _ => ⟨fun _ => nx, fun q => ⟨S1.2.2.2.2.2.2.1, by rw [S1.2.2.2.2.2.2.2]; decide, fun _ => nx, fun y => absurd (by rw [o3, o2 (e5.symm.trans q), e6, z3 (e5.symm.trans q)]) y⟩⟩, fun q => absurd (t3.trans e5.symm) q⟩
theorem lc_slope {N : m_C} {Q Y : m_Po} {ε : m_E} {μ : m_M} {s X v : Int} (H : Rel ε μ X) (ks : kd ε s = 99) (sX : s < X) (v0 : 0 ≤ v) (v7 : v + 7 ≤ ln ε s) (hL : ln ε s ≤ 3584) (next : ∀ ε' μ', EX ε ε' → Rel ε' μ' X → G (cd_L_law N) Q Y 1721 [(0, (2, s)), (1, (2, X)), (2, (2, X + 34)), (3, (2, X + 141)), (4, (0, v))] [] ε' μ') : G (cd_L_law N) Q Y 974 [(0, (2, s)), (1, (2, X)), (2, (2, X + 34)), (3, (2, X + 141)), (4, (0, v))] [] ε μ := by
  have w1 : w32 (v + 1) = v + 1 := w32_i v0 (by omega) (by decide) (by decide)
  have w2 : w32 (v + 2) = v + 2 := w32_i v0 (by omega) (by decide) (by decide)
  have w3 : w32 (v + 3) = v + 3 := w32_i v0 (by omega) (by decide) (by decide)
  apply g_L_law_974
  rw [w1, w2, w3]
  refine fun _ _ => ⟨ks, by omega, by omega, by omega, by omega, by omega, by omega, w_slope H.sl rfl rfl codB_n (pr_slope (codes := codB) rfl rfl H) (fun k z ε1 μ1 μ2 A f2 => ?_)⟩
  obtain ⟨k1, k2, _⟩ := A.1 s (by rw [ks]; decide)
  have kM : kd ε1 (X + 34) = 11 := (H.lm.ex A.1).k
  have e2 : ∀ j, μ2 s j = μ s j := fun j => by rw [f2 _ _ (by omega), A.2.1 _ _ sX]
  apply g_L_law_996
  rw [w1, w2, w3]
  rw [k1, k2, e2 (v + 1), e2 (v + 2), e2 (v + 3)]
  refine fun _ _ _ v5 e5 => ⟨ks, by omega, by omega, by omega, by omega, by omega, by omega, kM, A.2.2 μ2 f2 _ _ (fun b μ3 _ R3 t3 _ _ => ?_)⟩
  apply g_L_law_1020
  refine fun _ _ _ => ⟨kM, ?_⟩
  apply e_X12_thrown
  refine fun _ => ⟨kM, ?_⟩
  apply g_L_law_1024
  exact fun _ _ _ _ => ⟨fun _ => next ε1 μ3 A.1 R3, fun q => absurd (t3.trans e5.symm) q⟩
theorem lc_whole {N : m_C} {Q Y : m_Po} {ε : m_E} {μ : m_M} {s X v : Int} (H : Rel ε μ X) (ks : kd ε s = 99) (sX : s < X) (v0 : 0 ≤ v) (v7 : v + 7 ≤ ln ε s) (hL : ln ε s ≤ 3584) (next : ∀ ε' μ', EX ε ε' → Rel ε' μ' X → G (cd_L_law N) Q Y 1721 [(0, (2, s)), (1, (2, X)), (2, (2, X + 34)), (3, (2, X + 141)), (4, (0, v))] [] ε' μ') : G (cd_L_law N) Q Y 1034 [(0, (2, s)), (1, (2, X)), (2, (2, X + 34)), (3, (2, X + 141)), (4, (0, v))] [] ε μ := by
  have w1 : w32 (v + 1) = v + 1 := w32_i v0 (by omega) (by decide) (by decide)
  apply g_L_law_1034
  rw [w1]
  refine fun _ _ => ⟨ks, by omega, by omega, w_whole H.sl rfl codC_n (pr_whole (codes := codC) rfl H) (fun k z ε1 μ1 μ2 A f2 o2 => ?_)⟩
  obtain ⟨k1, k2, _⟩ := A.1 s (by rw [ks]; decide)
  have kM : kd ε1 (X + 34) = 11 := (H.lm.ex A.1).k
  have e2 : ∀ j, μ2 s j = μ s j := fun j => by rw [f2 _ _ (by omega), A.2.1 _ _ sX]
  apply g_L_law_1045
  rw [w1]
  rw [k1, k2, e2 (v + 1)]
  refine fun _ _ _ v5 e5 => ⟨ks, by omega, by omega, kM, A.2.2 μ2 f2 _ _ (fun b μ3 _ R3 t3 z3 o3 => ?_)⟩
  apply g_L_law_1057
  refine fun _ _ _ _ v6 e6 => ⟨kM, ?_⟩
  apply e_X12_thrown
  refine fun _ => ⟨kM, ?_⟩
  apply g_L_law_1063
  have nx : G (cd_L_law N) Q Y 1087 [(0, (2, s)), (1, (2, X)), (2, (2, X + 34)), (3, (2, X + 141)), (4, (0, v))] [] ε1 μ3 := by
    apply g_L_law_1087
    exact fun _ _ => next ε1 μ3 A.1 R3
  have S1 := H.sl.ex A.1
  exact fun _ _ _ _ _ => ⟨fun _ => ⟨fun _ => nx, fun q => ⟨S1.2.2.2.2.2.2.1, by rw [S1.2.2.2.2.2.2.2]; decide, fun _ => nx, fun y => absurd (by rw [o3, o2 (e5.symm.trans q), e6, z3 (e5.symm.trans q)]) y⟩⟩, fun q => absurd (t3.trans e5.symm) q⟩
theorem lc_joint {N : m_C} {Q Y : m_Po} {ε : m_E} {μ : m_M} {s X v : Int} (H : Rel ε μ X) (ks : kd ε s = 99) (sX : s < X) (v0 : 0 ≤ v) (v7 : v + 7 ≤ ln ε s) (hL : ln ε s ≤ 3584) (next : ∀ ε' μ', EX ε ε' → Rel ε' μ' X → G (cd_L_law N) Q Y 1721 [(0, (2, s)), (1, (2, X)), (2, (2, X + 34)), (3, (2, X + 141)), (4, (0, v))] [] ε' μ') : G (cd_L_law N) Q Y 1090 [(0, (2, s)), (1, (2, X)), (2, (2, X + 34)), (3, (2, X + 141)), (4, (0, v))] [] ε μ := by
  have w1 : w32 (v + 1) = v + 1 := w32_i v0 (by omega) (by decide) (by decide)
  have w2 : w32 (v + 2) = v + 2 := w32_i v0 (by omega) (by decide) (by decide)
  have w3 : w32 (v + 3) = v + 3 := w32_i v0 (by omega) (by decide) (by decide)
  apply g_L_law_1090
  rw [w1, w2, w3]
  refine fun _ _ => ⟨ks, by omega, by omega, by omega, by omega, by omega, by omega, w_joint H.sl rfl rfl codB_n (pr_joint (codes := codB) rfl rfl H) (fun k z ε1 μ1 μ2 A f2 o2 => ?_)⟩
  obtain ⟨k1, k2, _⟩ := A.1 s (by rw [ks]; decide)
  have kM : kd ε1 (X + 34) = 11 := (H.lm.ex A.1).k
  have e2 : ∀ j, μ2 s j = μ s j := fun j => by rw [f2 _ _ (by omega), A.2.1 _ _ sX]
  apply g_L_law_1113
  rw [w1, w2, w3]
  rw [k1, k2, e2 (v + 1), e2 (v + 2), e2 (v + 3)]
  refine fun _ _ _ v5 e5 => ⟨ks, by omega, by omega, by omega, by omega, by omega, by omega, kM, A.2.2 μ2 f2 _ _ (fun b μ3 _ R3 t3 z3 o3 => ?_)⟩
  apply g_L_law_1137
  refine fun _ _ _ _ v6 e6 => ⟨kM, ?_⟩
  apply e_X12_thrown
  refine fun _ => ⟨kM, ?_⟩
  apply g_L_law_1143
  have nx : G (cd_L_law N) Q Y 1167 [(0, (2, s)), (1, (2, X)), (2, (2, X + 34)), (3, (2, X + 141)), (4, (0, v))] [] ε1 μ3 := by
    apply g_L_law_1167
    exact fun _ _ => next ε1 μ3 A.1 R3
  have S1 := H.sl.ex A.1
  exact fun _ _ _ _ _ => ⟨fun _ => ⟨fun _ => nx, fun q => ⟨S1.2.2.2.2.2.2.1, by rw [S1.2.2.2.2.2.2.2]; decide, fun _ => nx, fun y => absurd (by rw [o3, o2 (e5.symm.trans q), e6, z3 (e5.symm.trans q)]) y⟩⟩, fun q => absurd (t3.trans e5.symm) q⟩
theorem lc_line {N : m_C} {Q Y : m_Po} {ε : m_E} {μ : m_M} {s X v : Int} (H : Rel ε μ X) (ks : kd ε s = 99) (sX : s < X) (v0 : 0 ≤ v) (v7 : v + 7 ≤ ln ε s) (hL : ln ε s ≤ 3584) (next : ∀ ε' μ', EX ε ε' → Rel ε' μ' X → G (cd_L_law N) Q Y 1721 [(0, (2, s)), (1, (2, X)), (2, (2, X + 34)), (3, (2, X + 141)), (4, (0, v))] [] ε' μ') : G (cd_L_law N) Q Y 1170 [(0, (2, s)), (1, (2, X)), (2, (2, X + 34)), (3, (2, X + 141)), (4, (0, v))] [] ε μ := by
  have w1 : w32 (v + 1) = v + 1 := w32_i v0 (by omega) (by decide) (by decide)
  have w2 : w32 (v + 2) = v + 2 := w32_i v0 (by omega) (by decide) (by decide)
  have w3 : w32 (v + 3) = v + 3 := w32_i v0 (by omega) (by decide) (by decide)
  have w4 : w32 (v + 4) = v + 4 := w32_i v0 (by omega) (by decide) (by decide)
  have w5 : w32 (v + 5) = v + 5 := w32_i v0 (by omega) (by decide) (by decide)
  apply g_L_law_1170
  rw [w1, w2, w3, w4, w5]
  refine fun _ _ => ⟨ks, by omega, by omega, by omega, by omega, by omega, by omega, by omega, by omega, by omega, by omega, w_line H.sl rfl rfl rfl codD_n (pr_line (codes := codD) rfl rfl rfl H) (fun k z ε1 μ1 μ2 A f2 o2 => ?_)⟩
  obtain ⟨k1, k2, _⟩ := A.1 s (by rw [ks]; decide)
  have kM : kd ε1 (X + 34) = 11 := (H.lm.ex A.1).k
  have e2 : ∀ j, μ2 s j = μ s j := fun j => by rw [f2 _ _ (by omega), A.2.1 _ _ sX]
  apply g_L_law_1205
  rw [w1, w2, w3, w4, w5]
  rw [k1, k2, e2 (v + 1), e2 (v + 2), e2 (v + 3), e2 (v + 4), e2 (v + 5)]
  refine fun _ _ _ v5 e5 => ⟨ks, by omega, by omega, by omega, by omega, by omega, by omega, by omega, by omega, by omega, by omega, kM, A.2.2 μ2 f2 _ _ (fun b μ3 _ R3 t3 z3 o3 => ?_)⟩
  apply g_L_law_1241
  refine fun _ _ _ _ v6 e6 => ⟨kM, ?_⟩
  apply e_X12_thrown
  refine fun _ => ⟨kM, ?_⟩
  apply g_L_law_1247
  have nx : G (cd_L_law N) Q Y 1271 [(0, (2, s)), (1, (2, X)), (2, (2, X + 34)), (3, (2, X + 141)), (4, (0, v))] [] ε1 μ3 := by
    apply g_L_law_1271
    exact fun _ _ => next ε1 μ3 A.1 R3
  have S1 := H.sl.ex A.1
  exact fun _ _ _ _ _ => ⟨fun _ => ⟨fun _ => nx, fun q => ⟨S1.2.2.2.2.2.2.1, by rw [S1.2.2.2.2.2.2.2]; decide, fun _ => nx, fun y => absurd (by rw [o3, o2 (e5.symm.trans q), e6, z3 (e5.symm.trans q)]) y⟩⟩, fun q => absurd (t3.trans e5.symm) q⟩
theorem lc_judge {N : m_C} {Q Y : m_Po} {ε : m_E} {μ : m_M} {s X v : Int} (H : Rel ε μ X) (ks : kd ε s = 99) (sX : s < X) (v0 : 0 ≤ v) (v7 : v + 7 ≤ ln ε s) (hL : ln ε s ≤ 3584) (next : ∀ ε' μ', EX ε ε' → Rel ε' μ' X → G (cd_L_law N) Q Y 1721 [(0, (2, s)), (1, (2, X)), (2, (2, X + 34)), (3, (2, X + 141)), (4, (0, v))] [] ε' μ') : G (cd_L_law N) Q Y 1274 [(0, (2, s)), (1, (2, X)), (2, (2, X + 34)), (3, (2, X + 141)), (4, (0, v))] [] ε μ := by
  have w1 : w32 (v + 1) = v + 1 := w32_i v0 (by omega) (by decide) (by decide)
  have w2 : w32 (v + 2) = v + 2 := w32_i v0 (by omega) (by decide) (by decide)
  apply g_L_law_1274
  rw [w1, w2]
  refine fun _ _ => ⟨ks, by omega, by omega, by omega, by omega, w_judge H.sl rfl rfl rfl codD_n (pr_judge (codes := codD) rfl rfl rfl H) (fun k z ε1 μ1 μ2 A f2 o2 => ?_)⟩
  obtain ⟨k1, k2, _⟩ := A.1 s (by rw [ks]; decide)
  have kM : kd ε1 (X + 34) = 11 := (H.lm.ex A.1).k
  have e2 : ∀ j, μ2 s j = μ s j := fun j => by rw [f2 _ _ (by omega), A.2.1 _ _ sX]
  apply g_L_law_1291
  rw [w1, w2]
  rw [k1, k2, e2 (v + 1), e2 (v + 2)]
  refine fun _ _ _ v5 e5 => ⟨ks, by omega, by omega, by omega, by omega, kM, A.2.2 μ2 f2 _ _ (fun b μ3 _ R3 t3 z3 o3 => ?_)⟩
  apply g_L_law_1309
  refine fun _ _ _ _ v6 e6 => ⟨kM, ?_⟩
  apply e_X12_thrown
  refine fun _ => ⟨kM, ?_⟩
  apply g_L_law_1315
  have nx : G (cd_L_law N) Q Y 1339 [(0, (2, s)), (1, (2, X)), (2, (2, X + 34)), (3, (2, X + 141)), (4, (0, v))] [] ε1 μ3 := by
    apply g_L_law_1339
    exact fun _ _ => next ε1 μ3 A.1 R3
  have S1 := H.sl.ex A.1
  exact fun _ _ _ _ _ => ⟨fun _ => ⟨fun _ => nx, fun q => ⟨S1.2.2.2.2.2.2.1, by rw [S1.2.2.2.2.2.2.2]; decide, fun _ => nx, fun y => absurd (by rw [o3, o2 (e5.symm.trans q), e6, z3 (e5.symm.trans q)]) y⟩⟩, fun q => absurd (t3.trans e5.symm) q⟩
theorem lc_number {N : m_C} {Q Y : m_Po} {ε : m_E} {μ : m_M} {s X v : Int} (H : Rel ε μ X) (ks : kd ε s = 99) (sX : s < X) (v0 : 0 ≤ v) (v7 : v + 7 ≤ ln ε s) (hL : ln ε s ≤ 3584) (next : ∀ ε' μ', EX ε ε' → Rel ε' μ' X → G (cd_L_law N) Q Y 1721 [(0, (2, s)), (1, (2, X)), (2, (2, X + 34)), (3, (2, X + 141)), (4, (0, v))] [] ε' μ') : G (cd_L_law N) Q Y 1342 [(0, (2, s)), (1, (2, X)), (2, (2, X + 34)), (3, (2, X + 141)), (4, (0, v))] [] ε μ := by
  have w1 : w32 (v + 1) = v + 1 := w32_i v0 (by omega) (by decide) (by decide)
  apply g_L_law_1342
  rw [w1]
  refine fun _ _ => ⟨ks, by omega, by omega, w_number H.sl rfl rfl codE_n (pr_number (codes := codE) rfl rfl H) (fun k z ε1 μ1 μ2 A f2 o2 => ?_)⟩
  obtain ⟨k1, k2, _⟩ := A.1 s (by rw [ks]; decide)
  have kM : kd ε1 (X + 34) = 11 := (H.lm.ex A.1).k
  have e2 : ∀ j, μ2 s j = μ s j := fun j => by rw [f2 _ _ (by omega), A.2.1 _ _ sX]
  apply g_L_law_1353
  rw [w1]
  rw [k1, k2, e2 (v + 1)]
  refine fun _ _ _ v5 e5 => ⟨ks, by omega, by omega, kM, A.2.2 μ2 f2 _ _ (fun b μ3 _ R3 t3 z3 o3 => ?_)⟩
  apply g_L_law_1365
  refine fun _ _ _ _ v6 e6 => ⟨kM, ?_⟩
  apply e_X12_thrown
  refine fun _ => ⟨kM, ?_⟩
  apply g_L_law_1371
  have nx : G (cd_L_law N) Q Y 1395 [(0, (2, s)), (1, (2, X)), (2, (2, X + 34)), (3, (2, X + 141)), (4, (0, v))] [] ε1 μ3 := by
    apply g_L_law_1395
    exact fun _ _ => next ε1 μ3 A.1 R3
  have S1 := H.sl.ex A.1
  exact fun _ _ _ _ _ => ⟨fun _ => ⟨fun _ => nx, fun q => ⟨S1.2.2.2.2.2.2.1, by rw [S1.2.2.2.2.2.2.2]; decide, fun _ => nx, fun y => absurd (by rw [o3, o2 (e5.symm.trans q), e6, z3 (e5.symm.trans q)]) y⟩⟩, fun q => absurd (t3.trans e5.symm) q⟩
theorem lc_bound {N : m_C} {Q Y : m_Po} {ε : m_E} {μ : m_M} {s X v : Int} (H : Rel ε μ X) (ks : kd ε s = 99) (sX : s < X) (v0 : 0 ≤ v) (v7 : v + 7 ≤ ln ε s) (hL : ln ε s ≤ 3584) (next : ∀ ε' μ', EX ε ε' → Rel ε' μ' X → G (cd_L_law N) Q Y 1721 [(0, (2, s)), (1, (2, X)), (2, (2, X + 34)), (3, (2, X + 141)), (4, (0, v))] [] ε' μ') : G (cd_L_law N) Q Y 1398 [(0, (2, s)), (1, (2, X)), (2, (2, X + 34)), (3, (2, X + 141)), (4, (0, v))] [] ε μ := by
  have w1 : w32 (v + 1) = v + 1 := w32_i v0 (by omega) (by decide) (by decide)
  have w2 : w32 (v + 2) = v + 2 := w32_i v0 (by omega) (by decide) (by decide)
  apply g_L_law_1398
  rw [w1, w2]
  refine fun _ _ => ⟨ks, by omega, by omega, by omega, by omega, H.sl.1.k, pr_bound (codes := fun _ => 0) H _ _ (fun z ε1 μ1 A => ?_) (fun e _ _ ne _ => absurd rfl ne)⟩
  obtain ⟨k1, k2, _⟩ := A.1 s (by rw [ks]; decide)
  have kM : kd ε1 (X + 34) = 11 := (H.lm.ex A.1).k
  apply g_L_law_1414
  rw [w1, w2]
  rw [k1, k2, A.2.1 s (v + 1) sX, A.2.1 s (v + 2) sX]
  refine fun _ _ _ => ⟨ks, by omega, by omega, by omega, by omega, kM, A.2.2 μ1 (fun _ _ _ => rfl) _ _ (fun b μ3 _ R3 _ z3 _ => ?_)⟩
  apply g_L_law_1430
  exact fun _ _ _ _ => ⟨fun _ => next ε1 μ3 A.1 R3, fun q => absurd (z3 rfl).symm q⟩
theorem lc_weigh {N : m_C} {Q Y : m_Po} {ε : m_E} {μ : m_M} {s X v : Int} (H : Rel ε μ X) (ks : kd ε s = 99) (sX : s < X) (v0 : 0 ≤ v) (v7 : v + 7 ≤ ln ε s) (hL : ln ε s ≤ 3584) (next : ∀ ε' μ', EX ε ε' → Rel ε' μ' X → G (cd_L_law N) Q Y 1721 [(0, (2, s)), (1, (2, X)), (2, (2, X + 34)), (3, (2, X + 141)), (4, (0, v))] [] ε' μ') : G (cd_L_law N) Q Y 1435 [(0, (2, s)), (1, (2, X)), (2, (2, X + 34)), (3, (2, X + 141)), (4, (0, v))] [] ε μ := by
  have w1 : w32 (v + 1) = v + 1 := w32_i v0 (by omega) (by decide) (by decide)
  apply g_L_law_1435
  rw [w1]
  refine fun _ _ => ⟨ks, by omega, by omega, H.sl.1.k, pr_weigh (codes := fun _ => 0) H _ _ (fun z ε1 μ1 A => ?_) (fun e _ _ ne _ => absurd rfl ne)⟩
  obtain ⟨k1, k2, _⟩ := A.1 s (by rw [ks]; decide)
  have kM : kd ε1 (X + 34) = 11 := (H.lm.ex A.1).k
  apply g_L_law_1445
  rw [w1]
  rw [k1, k2, A.2.1 s (v + 1) sX]
  refine fun _ _ _ => ⟨ks, by omega, by omega, kM, A.2.2 μ1 (fun _ _ _ => rfl) _ _ (fun b μ3 _ R3 _ z3 _ => ?_)⟩
  apply g_L_law_1455
  exact fun _ _ _ _ => ⟨fun _ => next ε1 μ3 A.1 R3, fun q => absurd (z3 rfl).symm q⟩
theorem lc_room {N : m_C} {Q Y : m_Po} {ε : m_E} {μ : m_M} {s X v : Int} (H : Rel ε μ X) (ks : kd ε s = 99) (sX : s < X) (v0 : 0 ≤ v) (v7 : v + 7 ≤ ln ε s) (hL : ln ε s ≤ 3584) (next : ∀ ε' μ', EX ε ε' → Rel ε' μ' X → G (cd_L_law N) Q Y 1721 [(0, (2, s)), (1, (2, X)), (2, (2, X + 34)), (3, (2, X + 141)), (4, (0, v))] [] ε' μ') : G (cd_L_law N) Q Y 1460 [(0, (2, s)), (1, (2, X)), (2, (2, X + 34)), (3, (2, X + 141)), (4, (0, v))] [] ε μ := by
  have w1 : w32 (v + 1) = v + 1 := w32_i v0 (by omega) (by decide) (by decide)
  apply g_L_law_1460
  rw [w1]
  refine fun _ _ => ⟨ks, by omega, by omega, w_room H.sl rfl rfl codF_n (pr_room (codes := codF) rfl rfl H) (fun k z ε1 μ1 μ2 A f2 o2 => ?_)⟩
  obtain ⟨k1, k2, _⟩ := A.1 s (by rw [ks]; decide)
  have kM : kd ε1 (X + 34) = 11 := (H.lm.ex A.1).k
  have e2 : ∀ j, μ2 s j = μ s j := fun j => by rw [f2 _ _ (by omega), A.2.1 _ _ sX]
  apply g_L_law_1471
  rw [w1]
  rw [k1, k2, e2 (v + 1)]
  refine fun _ _ _ v5 e5 => ⟨ks, by omega, by omega, kM, A.2.2 μ2 f2 _ _ (fun b μ3 _ R3 t3 z3 o3 => ?_)⟩
  apply g_L_law_1483
  refine fun _ _ _ _ v6 e6 => ⟨kM, ?_⟩
  apply e_X12_thrown
  refine fun _ => ⟨kM, ?_⟩
  apply g_L_law_1489
  have nx : G (cd_L_law N) Q Y 1513 [(0, (2, s)), (1, (2, X)), (2, (2, X + 34)), (3, (2, X + 141)), (4, (0, v))] [] ε1 μ3 := by
    apply g_L_law_1513
    exact fun _ _ => next ε1 μ3 A.1 R3
  have S1 := H.sl.ex A.1
  exact fun _ _ _ _ _ => ⟨fun _ => ⟨fun _ => nx, fun q => ⟨S1.2.2.2.2.2.2.1, by rw [S1.2.2.2.2.2.2.2]; decide, fun _ => nx, fun y => absurd (by rw [o3, o2 (e5.symm.trans q), e6, z3 (e5.symm.trans q)]) y⟩⟩, fun q => absurd (t3.trans e5.symm) q⟩
theorem lc_strike {N : m_C} {Q Y : m_Po} {ε : m_E} {μ : m_M} {s X v : Int} (H : Rel ε μ X) (ks : kd ε s = 99) (sX : s < X) (v0 : 0 ≤ v) (v7 : v + 7 ≤ ln ε s) (hL : ln ε s ≤ 3584) (next : ∀ ε' μ', EX ε ε' → Rel ε' μ' X → G (cd_L_law N) Q Y 1721 [(0, (2, s)), (1, (2, X)), (2, (2, X + 34)), (3, (2, X + 141)), (4, (0, v))] [] ε' μ') : G (cd_L_law N) Q Y 1516 [(0, (2, s)), (1, (2, X)), (2, (2, X + 34)), (3, (2, X + 141)), (4, (0, v))] [] ε μ := by
  have w1 : w32 (v + 1) = v + 1 := w32_i v0 (by omega) (by decide) (by decide)
  have w2 : w32 (v + 2) = v + 2 := w32_i v0 (by omega) (by decide) (by decide)
  have w3 : w32 (v + 3) = v + 3 := w32_i v0 (by omega) (by decide) (by decide)
  apply g_L_law_1516
  rw [w1, w2, w3]
  refine fun _ _ => ⟨ks, by omega, by omega, by omega, by omega, by omega, by omega, w_strike H.sl rfl rfl rfl codD_n (pr_strike (codes := codD) rfl rfl rfl H) (fun k z ε1 μ1 μ2 A f2 o2 => ?_)⟩
  obtain ⟨k1, k2, _⟩ := A.1 s (by rw [ks]; decide)
  have kM : kd ε1 (X + 34) = 11 := (H.lm.ex A.1).k
  have e2 : ∀ j, μ2 s j = μ s j := fun j => by rw [f2 _ _ (by omega), A.2.1 _ _ sX]
  apply g_L_law_1539
  rw [w1, w2, w3]
  rw [k1, k2, e2 (v + 1), e2 (v + 2), e2 (v + 3)]
  refine fun _ _ _ v5 e5 => ⟨ks, by omega, by omega, by omega, by omega, by omega, by omega, kM, A.2.2 μ2 f2 _ _ (fun b μ3 _ R3 t3 z3 o3 => ?_)⟩
  apply g_L_law_1563
  refine fun _ _ _ _ v6 e6 => ⟨kM, ?_⟩
  apply e_X12_thrown
  refine fun _ => ⟨kM, ?_⟩
  apply g_L_law_1569
  have nx : G (cd_L_law N) Q Y 1600 [(0, (2, s)), (1, (2, X)), (2, (2, X + 34)), (3, (2, X + 141)), (4, (0, v))] [] ε1 μ3 := by
    apply g_L_law_1600
    exact fun _ _ => next ε1 μ3 A.1 R3
  have S1 := H.sl.ex A.1
  exact fun _ _ _ _ _ => ⟨fun _ => ⟨fun _ => nx, fun q => ⟨S1.2.2.2.2.2.2.1, by rw [S1.2.2.2.2.2.2.2]; decide, fun t ht => ⟨fun _ => nx, fun y => absurd (by rw [o3, o2 (e5.symm.trans q), ht, e6, z3 (e5.symm.trans q)]) y⟩⟩⟩, fun q => absurd (t3.trans e5.symm) q⟩
theorem lc_order {N : m_C} {Q Y : m_Po} {ε : m_E} {μ : m_M} {s X v : Int} (H : Rel ε μ X) (ks : kd ε s = 99) (sX : s < X) (v0 : 0 ≤ v) (v7 : v + 7 ≤ ln ε s) (hL : ln ε s ≤ 3584) (next : ∀ ε' μ', EX ε ε' → Rel ε' μ' X → G (cd_L_law N) Q Y 1721 [(0, (2, s)), (1, (2, X)), (2, (2, X + 34)), (3, (2, X + 141)), (4, (0, v))] [] ε' μ') : G (cd_L_law N) Q Y 1603 [(0, (2, s)), (1, (2, X)), (2, (2, X + 34)), (3, (2, X + 141)), (4, (0, v))] [] ε μ := by
  have w1 : w32 (v + 1) = v + 1 := w32_i v0 (by omega) (by decide) (by decide)
  have w2 : w32 (v + 2) = v + 2 := w32_i v0 (by omega) (by decide) (by decide)
  apply g_L_law_1603
  rw [w1, w2]
  refine fun _ _ => ⟨ks, by omega, by omega, by omega, by omega, w_order H.sl rfl rfl codF_n (pr_order (codes := codF) rfl rfl H) (fun k z ε1 μ1 μ2 A f2 o2 => ?_)⟩
  obtain ⟨k1, k2, _⟩ := A.1 s (by rw [ks]; decide)
  have kM : kd ε1 (X + 34) = 11 := (H.lm.ex A.1).k
  have e2 : ∀ j, μ2 s j = μ s j := fun j => by rw [f2 _ _ (by omega), A.2.1 _ _ sX]
  apply g_L_law_1620
  rw [w1, w2]
  rw [k1, k2, e2 (v + 1), e2 (v + 2)]
  refine fun _ _ _ v5 e5 => ⟨ks, by omega, by omega, by omega, by omega, kM, A.2.2 μ2 f2 _ _ (fun b μ3 _ R3 t3 z3 o3 => ?_)⟩
  apply g_L_law_1638
  refine fun _ _ _ _ v6 e6 => ⟨kM, ?_⟩
  apply e_X12_thrown
  refine fun _ => ⟨kM, ?_⟩
  apply g_L_law_1644
  have nx : G (cd_L_law N) Q Y 1668 [(0, (2, s)), (1, (2, X)), (2, (2, X + 34)), (3, (2, X + 141)), (4, (0, v))] [] ε1 μ3 := by
    apply g_L_law_1668
    exact fun _ _ => next ε1 μ3 A.1 R3
  have S1 := H.sl.ex A.1
  exact fun _ _ _ _ _ => ⟨fun _ => ⟨fun _ => nx, fun q => ⟨S1.2.2.2.2.2.2.1, by rw [S1.2.2.2.2.2.2.2]; decide, fun _ => nx, fun y => absurd (by rw [o3, o2 (e5.symm.trans q), e6, z3 (e5.symm.trans q)]) y⟩⟩, fun q => absurd (t3.trans e5.symm) q⟩
theorem lc_octet {N : m_C} {Q Y : m_Po} {ε : m_E} {μ : m_M} {s X v : Int} (H : Rel ε μ X) (ks : kd ε s = 99) (sX : s < X) (v0 : 0 ≤ v) (v7 : v + 7 ≤ ln ε s) (hL : ln ε s ≤ 3584) (next : ∀ ε' μ', EX ε ε' → Rel ε' μ' X → G (cd_L_law N) Q Y 1721 [(0, (2, s)), (1, (2, X)), (2, (2, X + 34)), (3, (2, X + 141)), (4, (0, v))] [] ε' μ') : G (cd_L_law N) Q Y 1671 [(0, (2, s)), (1, (2, X)), (2, (2, X + 34)), (3, (2, X + 141)), (4, (0, v))] [] ε μ := by
  have w1 : w32 (v + 1) = v + 1 := w32_i v0 (by omega) (by decide) (by decide)
  apply g_L_law_1671
  rw [w1]
  refine fun _ _ => ⟨ks, by omega, by omega, H.sl.1.k, pr_octet (codes := fun _ => 0) H _ _ (fun z ε1 μ1 A => ?_) (fun e _ _ ne _ => absurd rfl ne)⟩
  obtain ⟨k1, k2, _⟩ := A.1 s (by rw [ks]; decide)
  have kM : kd ε1 (X + 34) = 11 := (H.lm.ex A.1).k
  apply g_L_law_1681
  rw [w1]
  rw [k1, k2, A.2.1 s (v + 1) sX]
  refine fun _ _ _ => ⟨ks, by omega, by omega, kM, A.2.2 μ1 (fun _ _ _ => rfl) _ _ (fun b μ3 _ R3 _ z3 _ => ?_)⟩
  apply g_L_law_1691
  exact fun _ _ _ _ => ⟨fun _ => next ε1 μ3 A.1 R3, fun q => absurd (z3 rfl).symm q⟩
theorem lc_count {N : m_C} {Q Y : m_Po} {ε : m_E} {μ : m_M} {s X v : Int} (H : Rel ε μ X) (ks : kd ε s = 99) (sX : s < X) (v0 : 0 ≤ v) (v7 : v + 7 ≤ ln ε s) (hL : ln ε s ≤ 3584) (next : ∀ ε' μ', EX ε ε' → Rel ε' μ' X → G (cd_L_law N) Q Y 1721 [(0, (2, s)), (1, (2, X)), (2, (2, X + 34)), (3, (2, X + 141)), (4, (0, v))] [] ε' μ') : G (cd_L_law N) Q Y 1696 [(0, (2, s)), (1, (2, X)), (2, (2, X + 34)), (3, (2, X + 141)), (4, (0, v))] [] ε μ := by
  have w1 : w32 (v + 1) = v + 1 := w32_i v0 (by omega) (by decide) (by decide)
  apply g_L_law_1696
  rw [w1]
  refine fun _ _ => ⟨ks, by omega, by omega, H.sl.1.k, pr_count (codes := fun _ => 0) H _ _ (fun z ε1 μ1 A => ?_) (fun e _ _ ne _ => absurd rfl ne)⟩
  obtain ⟨k1, k2, _⟩ := A.1 s (by rw [ks]; decide)
  have kM : kd ε1 (X + 34) = 11 := (H.lm.ex A.1).k
  apply g_L_law_1706
  rw [w1]
  rw [k1, k2, A.2.1 s (v + 1) sX]
  refine fun _ _ _ => ⟨ks, by omega, by omega, kM, A.2.2 μ1 (fun _ _ _ => rfl) _ _ (fun b μ3 _ R3 _ z3 _ => ?_)⟩
  apply g_L_law_1716
  exact fun _ _ _ _ => ⟨fun _ => next ε1 μ3 A.1 R3, fun q => absurd (z3 rfl).symm q⟩
