set_option maxHeartbeats 2000000
/-! ===== pair of calls: told ===== -/
theorem TY.st5 {ε : m_E} {μ : m_M} (h : TY ε μ) {S : Int} (hk : kd ε S = 6) : i32 (fn ε S 5) ∧ i32 (fn ε S 6) ∧ i32 (fn ε S 7) ∧ i32 (fn ε S 8) := ⟨h.2.2.1 S 6 5 _ hk (by decide) rfl (by decide), h.2.2.1 S 6 6 _ hk (by decide) rfl (by decide), h.2.2.1 S 6 7 _ hk (by decide) rfl (by decide), h.2.2.1 S 6 8 _ hk (by decide) rfl (by decide)⟩
/-- what a stone tells -/
def tol (σ : m_M) (s w : Int) : Int := if w = 0 then σ 4 s else if w = 1 then σ 5 s else if w = 2 then σ 8 s else if w = 3 then σ 9 s else if w = 4 then σ 10 s else if w = 5 then σ 11 (2 * s) else if w = 6 then σ 12 (2 * s) else if w = 7 then σ 11 (2 * s + 1) else if w = 8 then σ 12 (2 * s + 1) else if w % 2 = 1 then σ 6 (12 * s + (w - 9) / 2) else σ 7 (12 * s + (w - 9) / 2)
theorem sp_X7_fact {Q Y : m_Po} {ε : m_E} {μ σ : m_M} {X s S w : Int} {ow : Int → Int} (N : SN ε σ s S) (C : SCr ε μ X ow σ s (fn ε S 1)) (w0 : 0 ≤ w) (w1 : w < 9 + 2 * σ 5 s) (hh : Q (tol σ s w) ε μ) : o_X7_fact [(2, S), (0, w)] ε μ Q Y := by
  obtain ⟨n1, n2, n3, n4, n5, n6, n7, n8, n9, _⟩ := N
  obtain ⟨c1, c2, c3, c4, _, _, c5⟩ := C
  have e : ∀ v, w = v → tol σ s w = tol σ s v := fun v h => by rw [h]
  apply e_X7_fact
  rw [n2, n3, n4, n5, n6, n7, n8, n9, c2]
  refine fun _ _ => ⟨fun q => ⟨n1, ?_⟩, fun q => ⟨n1, c1, ?_⟩, fun q => ⟨n1, ?_⟩, fun q => ⟨n1, ?_⟩, fun q => ⟨n1, ?_⟩, fun q => ⟨n1, ?_⟩, fun q => ⟨n1, ?_⟩, fun q => ⟨n1, ?_⟩, fun q => ⟨n1, ?_⟩, fun q => ⟨n1, ?_⟩⟩
  · rw [e 0 q] at hh; exact hh
  · rw [e 1 q] at hh
    rw [Int.tdiv_eq_ediv_of_nonneg (by omega), show 2 * σ 5 s / 2 = σ 5 s by omega, w32_id (by unfold i32; omega)]; exact hh
  · rw [e 2 q] at hh; exact hh
  · rw [e 3 q] at hh; exact hh
  · rw [e 4 q] at hh; exact hh
  · rw [e 5 q] at hh; exact hh
  · rw [e 6 q] at hh; exact hh
  · rw [e 7 q] at hh; exact hh
  · rw [e 8 q] at hh; exact hh
  · rw [w32_id (show i32 (w - 9) by unfold i32; omega)]
    apply e_X7_cornerNumber
    rw [c2]
    refine fun _ _ => ⟨fun _ => ⟨n1, c1, fun y => ⟨by omega, y⟩⟩, fun t ht => ?_⟩
    rw [if_neg (by omega), if_neg (by omega)] at ht
    apply g_X7_fact_108
    intro _ _
    have et : t = tol σ s w := by
      unfold tol
      rw [if_neg (show ¬ w = 0 by omega), if_neg (show ¬ w = 1 by omega), if_neg (show ¬ w = 2 by omega), if_neg (show ¬ w = 3 by omega), if_neg (show ¬ w = 4 by omega), if_neg (show ¬ w = 5 by omega), if_neg (show ¬ w = 6 by omega), if_neg (show ¬ w = 7 by omega), if_neg (show ¬ w = 8 by omega)]
      have k := c5 ((w - 9) / 2) (by omega) (by omega)
      by_cases z : w % 2 = 1
      · rw [if_pos z, ht, ← k.1, show 2 * ((w - 9) / 2) = w - 9 by omega]
      · rw [if_neg z, ht, ← k.2.1, show 2 * ((w - 9) / 2) + 1 = w - 9 by omega]
    rw [et]; exact hh
theorem sp_X12_told {Q Y : m_Po} {ε : m_E} {μ σ : m_M} {M s w : Int} (L : LM ε M) (S : SF μ M σ) (n14 : μ M 14 ≤ 120) (hs : 0 ≤ s → s < μ M 14 → 3 ≤ σ 5 s ∧ σ 5 s ≤ 12 ∧ i32 (σ 11 (2 * s)) ∧ i32 (σ 12 (2 * s)) ∧ i32 (σ 11 (2 * s + 1)) ∧ i32 (σ 12 (2 * s + 1)))
    (h1 : s < 0 ∨ μ M 14 ≤ s → Q 0 ε (st μ M 0 1)) (h2 : 0 ≤ s → s < μ M 14 → (w < 0 ∨ 9 + 2 * σ 5 s ≤ w) → Q 0 ε (st μ M 0 2)) (h0 : 0 ≤ s → s < μ M 14 → 0 ≤ w → w < 9 + 2 * σ 5 s → Q (tol σ s w) ε (st μ M 0 0)) : o_X12_told [(2, M), (0, s), (0, w)] ε μ Q Y := by
  apply e_X12_told
  rw [L.f6.1, S 5 _ (by decide) (by decide)]
  refine fun _ _ _ => ⟨fun q => ⟨L.k, fun r _ => ⟨L.f6.2.1, q, by rw [L.f6.2.2]; omega⟩⟩, fun t ht => ⟨L.k, fun μ1 m1 => ⟨L.k, ?_⟩⟩⟩
  have e0 : μ1 M 0 = t := by rw [m1, sx_same]
  rw [e0]
  by_cases a : s < 0
  · rw [if_pos a] at ht
    exact ⟨fun y => by omega, fun _ => by rw [m1, ht]; exact h1 (Or.inl a)⟩
  · rw [if_neg a] at ht
    by_cases b : s < μ M 14
    · rw [if_pos b] at ht
      obtain ⟨k1, k2, k3, k4, k5, k6⟩ := hs (by omega) b
      rw [w32_id (show i32 (2 * σ 5 s) by unfold i32; omega), w32_id (show i32 (9 + 2 * σ 5 s) by unfold i32; omega)] at ht
      by_cases c : w < 0
      · rw [if_pos c] at ht
        exact ⟨fun y => by omega, fun _ => by rw [m1, ht]; exact h2 (by omega) b (Or.inl c)⟩
      · rw [if_neg c] at ht
        by_cases d : w < 9 + 2 * σ 5 s
        · rw [if_pos d] at ht
          have K := h0 (by omega) b (by omega) d
          have S1 : SF μ1 M σ := fun o j o1 o2 => by rw [m1, sx_oa (by omega)]; exact S o j o1 o2
          rw [ht] at m1
          rw [← m1] at K
          have e : ∀ v, w = v → tol σ s w = tol σ s v := fun v h => by rw [h]
          rw [L.f5.1, L.f7.1, L.f8.1, L.f9.1, L.f10.1, L.f11.1, L.f12.1, L.f13.1, S1 4 _ (by decide) (by decide), S1 5 _ (by decide) (by decide), S1 8 _ (by decide) (by decide), S1 9 _ (by decide) (by decide), S1 10 _ (by decide) (by decide), w32_id (show i32 (2 * s) by unfold i32; omega), w32_id (show i32 (2 * s + 1) by unfold i32; omega), S1 11 (2 * s) (by decide) (by decide), S1 11 (2 * s + 1) (by decide) (by decide), S1 12 (2 * s) (by decide) (by decide), S1 12 (2 * s + 1) (by decide) (by decide), w32_id k3, w32_id k4, w32_id k5, w32_id k6]
          refine ⟨fun _ => ⟨fun q => ⟨L.f5.2.1, by omega, by rw [L.f5.2.2]; omega, ?_⟩, fun q => ⟨L.f6.2.1, by omega, by rw [L.f6.2.2]; omega, ?_⟩, fun q => ⟨L.f9.2.1, by omega, by rw [L.f9.2.2]; omega, ?_⟩, fun q => ⟨L.f10.2.1, by omega, by rw [L.f10.2.2]; omega, ?_⟩, fun q => ⟨L.f11.2.1, by omega, by rw [L.f11.2.2]; omega, ?_⟩, fun q => ⟨L.f12.2.1, by omega, by rw [L.f12.2.2]; omega, ?_⟩, fun q => ⟨L.f13.2.1, by omega, by rw [L.f13.2.2]; omega, ?_⟩, fun q => ⟨L.f12.2.1, by omega, by rw [L.f12.2.2]; omega, ?_⟩, fun q => ⟨L.f13.2.1, by omega, by rw [L.f13.2.2]; omega, ?_⟩, fun q => ?_⟩, fun y => by omega⟩
          · rw [e 0 q] at K; exact K
          · rw [e 1 q] at K; exact K
          · rw [e 2 q] at K; exact K
          · rw [e 3 q] at K; exact K
          · rw [e 4 q] at K; exact K
          · rw [e 5 q] at K; exact K
          · rw [e 6 q] at K; exact K
          · rw [e 7 q] at K; exact K
          · rw [e 8 q] at K; exact K
          · have i1 : w32 (w32 (12 * s) + w32 (Int.tdiv (w32 (w - 9)) 2)) = 12 * s + (w - 9) / 2 := by
              rw [w32_id (show i32 (12 * s) by unfold i32; omega), w32_id (show i32 (w - 9) by unfold i32; omega), Int.tdiv_eq_ediv_of_nonneg (by omega), w32_id (show i32 ((w - 9) / 2) by unfold i32; omega), w32_id (by unfold i32; omega)]
            rw [i1, Int.tmod_eq_emod_of_nonneg (by omega), S1 6 _ (by decide) (by decide), S1 7 _ (by decide) (by decide)]
            refine ⟨⟨fun _ => ⟨L.f8.2.1, by omega, by rw [L.f8.2.2]; omega⟩, fun _ => ⟨L.f7.2.1, by omega, by rw [L.f7.2.2]; omega⟩⟩, fun t1 ht1 => ?_⟩
            have et : t1 = tol σ s w := by
              unfold tol
              rw [if_neg (show ¬ w = 0 by omega), if_neg (show ¬ w = 1 by omega), if_neg (show ¬ w = 2 by omega), if_neg (show ¬ w = 3 by omega), if_neg (show ¬ w = 4 by omega), if_neg (show ¬ w = 5 by omega), if_neg (show ¬ w = 6 by omega), if_neg (show ¬ w = 7 by omega), if_neg (show ¬ w = 8 by omega)]
              exact ht1
            rw [et]; exact K
        · rw [if_neg d] at ht
          exact ⟨fun y => by omega, fun _ => by rw [m1, ht]; exact h2 (by omega) b (Or.inr (by omega))⟩
    · rw [if_neg b] at ht
      exact ⟨fun y => by omega, fun _ => by rw [m1, ht]; exact h1 (Or.inr (by omega))⟩
theorem pr_told {ε : m_E} {μ : m_M} {X s w : Int} {codes : Int → Int} (c1 : codes 1 = 1) (c2 : codes 2 = 2) (H : Rel ε μ X) : PAIR (fun ε μ Q Y => o_X10_told [(2, X), (0, s), (0, w)] ε μ Q Y) (fun ε μ Q Y => o_X12_told [(2, X + 34), (0, s), (0, w)] ε μ Q Y) codes ε μ X := by
  intro QC XC hq hx
  have H' := H
  obtain ⟨ow, R, S, G', J, P, C⟩ := H
  have e14 : sgM μ (X + 34) 0 14 = μ (X + 34) 14 := by unfold sgM; rw [Int.add_zero]
  have n120 := C.2.2.1.2.2.1
  apply e_X10_told
  intro T _ _
  have hs : ∀ {μ2 : m_M}, (∀ b j, b ≠ X + 141 → μ2 b j = μ b j) → 0 ≤ s → s < μ2 (X + 34) 14 → 3 ≤ sgM μ (X + 34) 5 s ∧ sgM μ (X + 34) 5 s ≤ 12 ∧ i32 (sgM μ (X + 34) 11 (2 * s)) ∧ i32 (sgM μ (X + 34) 12 (2 * s)) ∧ i32 (sgM μ (X + 34) 11 (2 * s + 1)) ∧ i32 (sgM μ (X + 34) 12 (2 * s + 1)) := fun {μ2} f2 s0 s1 => by
    rw [f2 _ _ (by omega)] at s1
    obtain ⟨_, k2, k3⟩ := C.2.2.1.2.2.2 s s0 (by omega)
    obtain ⟨i5, i6, i7, i8⟩ := T.st5 k2.1
    obtain ⟨_, _, _, _, _, n5, n6, n7, n8, _⟩ := k2
    rw [n5] at i5
    rw [n6] at i6
    rw [n7] at i7
    rw [n8] at i8
    exact ⟨k3.2.2.1, k3.2.2.2.1, i5, i6, i7, i8⟩
  refine ⟨S.1.k, sp_X10_stoneAt S C.2.2.1 (fun q z hz => hx 1 _ _ (by rw [c1]; decide) ?_) (fun s0 s1 => ?_)⟩
  · rw [c1]
    refine aft_thr H' (by decide) EX.nx (fun μ2 Q Y f2 G2 K => ?_)
    have f14 : μ2 (X + 34) 14 = μ (X + 34) 14 := f2 _ _ (by omega)
    exact sp_X12_told (σ := sgM μ (X + 34)) G2.1 (fun o j o1 o2 => f2 _ _ (by omega)) (by omega) (hs f2) (fun _ => K) (fun a b => by omega) (fun a b => by omega)
  · obtain ⟨k1, k2, k3⟩ := C.2.2.1.2.2.2 s s0 s1
    have k3' := k3
    obtain ⟨q1, q2, q3, q4, _⟩ := k3'
    have thr : (w < 0 ∨ 9 + 2 * sgM μ (X + 34) 5 s ≤ w) → ∀ z : Int, nx ε ≤ z → XC 2 (enx ε z) μ := fun why z hz => by
      refine hx 2 _ _ (by rw [c2]; decide) ?_
      rw [c2]
      refine aft_thr H' (by decide) EX.nx (fun μ2 Q Y f2 G2 K => ?_)
      have f14 : μ2 (X + 34) 14 = μ (X + 34) 14 := f2 _ _ (by omega)
      exact sp_X12_told (σ := sgM μ (X + 34)) G2.1 (fun o j o1 o2 => f2 _ _ (by omega)) (by omega) (hs f2) (fun a => by omega) (fun _ _ _ => K) (fun a b c d => by omega)
    apply g_X10_told_5
    intro _ _ v3 h3
    subst h3
    refine ⟨fun y => thr (Or.inl y), fun w0 => ⟨k2.1, ?_⟩⟩
    apply e_X7_facts
    rw [q2, w32_id (show i32 (9 + 2 * sgM μ (X + 34) 5 s) by unfold i32; omega)]
    refine fun _ => ⟨k2.1, q1, ?_⟩
    apply g_X10_told_15
    refine fun _ _ _ _ => ⟨fun w1 => ⟨k2.1, sp_X7_fact k2 k3 w0 w1 ?_⟩, fun y => thr (Or.inr y)⟩
    apply g_X10_told_33
    refine fun _ _ => hq _ _ _ ⟨EX.rf, fun _ _ _ => rfl, fun μ2 f2 Q Y K2 => ?_⟩
    have f14 : μ2 (X + 34) 14 = μ (X + 34) 14 := f2 _ _ (by omega)
    exact sp_X12_told (σ := sgM μ (X + 34)) G'.1 (fun o j o1 o2 => f2 _ _ (by omega)) (by omega) (hs f2) (fun a => by omega) (fun a b c => by omega) (fun _ _ _ _ => K2 _ _ (fun c j h => sx_oa (by omega)) (Rel.st0 S G' J P C (fun b j h1 h2 => by rw [st, if_neg h2]; exact f2 b j h1)) sx_same (fun _ => rfl) (fun j => sx_oa (by omega)))
