/-! ===== the reference's isNever ===== -/
theorem gd_div {a : Int → Int} {n : Nat} (pa : ∀ t : Int, 0 ≤ t → t < n → 0 < a t) (t : Int) (t0 : 0 ≤ t) (t1 : t < n) : a t = (gd a n : Int) * (a t / gd a n) := by
  obtain ⟨q, rfl⟩ : ∃ q : Nat, t = q := ⟨t.toNat, by omega⟩
  have d := gd_dvd (a := a) n q (by omega)
  have p := pa q t0 t1
  have d' : ((gd a n : Nat) : Int) ∣ a q := by
    have : ((gd a n : Nat) : Int) ∣ (((a q).natAbs : Nat) : Int) := Int.natCast_dvd_natCast.mpr d
    rw [show (((a q).natAbs : Nat) : Int) = a q by omega] at this
    exact this
  exact (Int.mul_ediv_cancel' d').symm
theorem sm_gd {a c ix : Int → Int} {n : Nat} (pa : ∀ t : Int, 0 ≤ t → t < n → 0 < a t) : sm (fun t => a t * c (ix t)) n = (gd a n : Int) * sm (fun t => a t / gd a n * c (ix t)) n :=
  sm_mul n (fun t t0 t1 => by
    show a t * c (ix t) = (gd a n : Int) * (a t / gd a n * c (ix t))
    rw [← Int.mul_assoc, ← gd_div pa t t0 t1])
theorem gd_p {a : Int → Int} {n : Nat} (n1 : 1 ≤ n) (pa : ∀ t : Int, 0 ≤ t → t < n → 0 < a t) : 0 < gd a n := by
  cases n with
  | zero => omega
  | succ k =>
    refine gd_pos k ?_
    have := pa k (by omega) (by omega)
    omega
theorem in_keep {Q X : m_Po} {ε : m_E} {M nb S : Int} {n : Nat} (n4 : n ≤ 4) (n48 : nb ≤ 48) {b ix code R0 : Int → Int} (bb : ∀ t : Int, 0 ≤ t → t < n → bd (b t) 63) (ri : ∀ t : Int, 0 ≤ t → t < n → 0 ≤ ix t ∧ ix t < nb) {μ0 : m_M} (eb : ∀ t : Int, 0 ≤ t → t < n → μ0 (M + 102) t = b t) (ei : ∀ t : Int, 0 ≤ t → t < n → μ0 (M + 103) t = ix t) (hc : ∀ q, μ0 (M + 30) q = code q)
    (h1 : ∀ μ' R', RG ε μ' M R' → FNm M μ0 μ' → μ' M 59 = μ0 M 59 → (∀ t : Int, 0 ≤ t → t < n → μ' (M + 90) t = code (ix t) ∧ R' (92 + 2 * t) = b t) → R' 100 = S → (∀ s, s < 92 → R' s = R0 s) → Q 1 ε μ') :
    ∀ (d t : Nat) (μ : m_M) (R : Int → Int), t + d = n → RG ε μ M R → FNm M μ0 μ → (∀ r, μ (M + 102) r = μ0 (M + 102) r) → μ M 59 = μ0 M 59 → (∀ r : Int, 0 ≤ r → r < t → μ (M + 90) r = code (ix r) ∧ R (92 + 2 * r) = b r) → R 82 = S → (∀ s, s < 92 → R s = R0 s) → G cd_X12_isNever Q X 184 [(0, (2, M)), (1, (0, n)), (4, (0, t))] [] ε μ := by
  intro d
  induction d with
  | zero =>
    intro t μ R hd H f fp f59 A e82 fr
    have ht : t = n := by omega
    subst ht
    have tn : ¬ (t : Int) < t := by omega
    apply g_X12_isNever_184
    rw [H.1.f58.1, H.1.f52.1, H.t4, H.e4]
    refine fun _ _ _ => ⟨fun _ => ⟨H.1.k, H.1.f58.2.1, by rw [H.1.f58.2.2]; decide, H.1.f52.2.1, by rw [H.1.f52.2.2]; decide, H.b100, rg_take H (by decide) (by decide) (fun μ1 H1 f1 => ?_)⟩, fun z => absurd z tn⟩
    apply g_X12_isNever_247
    refine fun _ => h1 μ1 _ H1 (f.trans (FNm.b f1)) ((f1 _ _ nbc0).trans f59) (fun r r0 r1 => ?_) (by rw [up_same]; exact e82) (fun s s1 => ?_)
    · rw [f1 _ _ (nbc (by decide)), up_ne (by omega)]; exact A r r0 r1
    · rw [up_ne (by omega)]; exact fr s s1
  | succ d ih =>
    intro t μ R hd H f fp f59 A e82 fr
    have t0 : (0 : Int) ≤ t := by omega
    have t1 : (t : Int) < n := by omega
    have t4 : (t : Int) < 4 := by omega
    have t5 : (t : Int) < 5 := by omega
    have tN : ¬ (n : Int) ≤ t := by omega
    have tm : t < 2147483647 := by omega
    have hd' : t + 1 + d = n := by omega
    have rr := ri t t0 t1
    have r48 : ix t < 48 := by omega
    have i1 : μ (M + 103) t = ix t := (f _ _ (nbc (by decide)) (by omega) (by omega) (by omega)).trans (ei t t0 t1)
    have c1 : ∀ q, μ (M + 30) q = code q := fun q => (f _ _ (nbc (by decide)) (by omega) (by omega) (by omega)).trans (hc q)
    have p1 : μ (M + 102) t = b t := (fp t).trans (eb t t0 t1)
    apply g_X12_isNever_184
    rw [H.1.f61.1, H.1.f34.1, H.1.f57.1, H.1.f58.1, H.1.f60.1, i1, c1]
    refine fun _ _ _ => ⟨fun z => absurd z tN, fun _ => ⟨H.1.k, H.1.f61.2.1, t0, by rw [H.1.f61.2.2]; exact t4, H.1.f34.2.1, rr.1, by rw [H.1.f34.2.2]; exact r48, H.1.f57.2.1, by rw [H.1.f57.2.2]; exact t4, fun μ2 m2 => ?_⟩⟩
    have H2 : RG ε μ2 M R := by rw [m2]; exact H.st (by decide) (by decide)
    have F2 : FNm M μ0 μ2 := f.trans (by rw [m2]; exact fnm_never)
    have q2 : μ2 (M + 102) t = b t := by rw [m2, sx_oa (by omega)]; exact p1
    obtain ⟨tv, tb⟩ := rg_tv H2 t0 (by omega)
    rw [tv, q2]
    refine ⟨H2.1.f58.2.1, by rw [H2.1.f58.2.2]; exact t5, H2.1.f60.2.1, by rw [H2.1.f60.2.2]; exact t4, (H2.2.1 _ tb).1, rg_set H2 tb (bd_i64 (bb t t0 t1) (by decide)) (fun μ3 H3 f3 => ?_)⟩
    apply g_X12_isNever_226
    refine fun _ _ _ v4 e4 => ?_
    rw [w32_succ tm e4]
    clear e4
    refine ih (t + 1) μ3 _ hd' H3 (F2.trans (FNm.b f3)) (fun r => ?_) ?_ (fun r r0 r1 => ?_) ?_ (fun s s1 => ?_)
    · rw [f3 _ _ (nbc (by decide)), m2, sx_oa (by omega)]; exact fp r
    · rw [f3 _ _ nbc0, m2, sx_oa (by omega)]; exact f59
    · rw [f3 _ _ (nbc (by decide))]
      by_cases q : r = t
      · rw [q, m2, sx_same, up_same]; exact ⟨rfl, rfl⟩
      · rw [m2, sx_oi q, up_ne (by omega)]; exact A r r0 (by omega)
    · rw [up_ne (by omega)]; exact e82
    · rw [up_ne (by omega)]; exact fr s s1
theorem sp_X12_isNever {Q X : m_Po} {ε : m_E} {μ : m_M} {M nb : Int} {n : Nat} (n1 : 1 ≤ n) (n4 : n ≤ 4) (n48 : nb ≤ 48) {a ix c code R : Int → Int} (H : RG ε μ M R) (pa : ∀ t : Int, 0 ≤ t → t < n → 0 < a t) (ba : ∀ t : Int, 0 ≤ t → t < n → bd (a t) 63) (ri : ∀ t : Int, 0 ≤ t → t < n → 0 ≤ ix t ∧ ix t < nb) (bc : ∀ t : Int, 0 ≤ t → t < n → bd (c (ix t)) 44) (ea : ∀ t : Int, 0 ≤ t → t < n → μ (M + 102) t = a t) (ei : ∀ t : Int, 0 ≤ t → t < n → μ (M + 103) t = ix t) (hc : ∀ q, μ (M + 29) q = c q) (hcode : ∀ q, μ (M + 30) q = code q)
    (h1 : ∀ μ' R', RG ε μ' M R' → FNm M μ μ' → sm (fun t => a t * c (ix t)) n < 0 → μ' M 59 = n → (∀ t : Int, 0 ≤ t → t < n → μ' (M + 90) t = code (ix t) ∧ R' (92 + 2 * t) = a t / gd a n) → R' 100 = sm (fun t => a t / gd a n * c (ix t)) n → (∀ s, ¬ tme s → s < 92 → R' s = R s) → Q 1 ε μ')
    (h0 : ∀ μ' R', RG ε μ' M R' → FNm M μ μ' → μ' M 59 = μ M 59 → ¬ sm (fun t => a t * c (ix t)) n < 0 → (∀ s, ¬ tme s → R' s = R s) → Q 0 ε μ') : o_X12_isNever [(2, M), (0, n)] ε μ Q X := by
  have g0 := gd_p n1 pa
  have nN : ¬ (n : Int) < n := by omega
  have sgn := sm_gd (a := a) (c := c) (ix := ix) pa
  have neg : sm (fun t => a t * c (ix t)) n < 0 ↔ sm (fun t => a t / gd a n * c (ix t)) n < 0 := by
    rw [sgn]
    generalize sm (fun t => a t / gd a n * c (ix t)) n = S
    constructor
    · intro q
      rcases Int.lt_or_le S 0 with z | z
      · exact z
      · have := Int.mul_nonneg (show 0 ≤ ((gd a n : Nat) : Int) by omega) z
        omega
    · intro q
      have := Int.mul_lt_mul_of_pos_left q (show 0 < ((gd a n : Nat) : Int) by omega)
      omega
  apply e_X12_isNever
  intro _ _ v2 e2 v4 e4
  rw [e2, e4]
  refine in_gcd H.1 n4 ea pa ?_ n 0 (by omega)
  apply g_X12_isNever_5
  rw [H.1.f52.1, H.e4]
  refine fun _ _ _ _ => ⟨fun _ => ⟨H.1.k, H.1.f52.2.1, by rw [H.1.f52.2.2]; decide, H.b82, rg_set H (by decide) (by decide) (fun μ1 H1 f1 => ?_)⟩, fun z => absurd z nN⟩
  apply g_X12_isNever_39
  refine fun _ _ _ v4 e4 => ?_
  rw [e4]
  refine in_sum n4 n48 (g := gd a n) (R0 := R) g0 pa ba ri bc (μ0 := μ1) (fun t t0 t1 => (f1 _ _ (nbc (by decide))).trans (ei t t0 t1)) (fun q => (f1 _ _ (nbc (by decide))).trans (hc q)) (fun μ2 R2 H2 f2 g59 A2 e82 fr2 => ?_) n 0 μ1 _ (by omega) H1 FNm.rf rfl (fun r r0 r1 => by omega) (fun r r0 r1 => (f1 _ _ (nbc (by decide))).trans (ea r r0 r1)) up_same (fun s s1 => up_ne (tme.no s1).2.2.2.2.2.1)
  have F2 : FNm M μ μ2 := (FNm.b f1).trans f2
  have sg2 := rg_sg H2 (by decide : (82 : Int) ∈ lm_b)
  have g59' : μ2 M 59 = μ M 59 := g59.trans (f1 _ _ nbc0)
  have no : 0 ≤ R2 82 → Q 0 ε μ2 := fun q => h0 μ2 R2 H2 F2 g59' (fun z => by
    have := neg.mp z
    rw [← e82] at this
    omega) fr2
  apply g_X12_isNever_42
  rw [H2.1.f52.1, H2.e4]
  refine fun _ _ _ _ => ⟨fun _ => ⟨H2.1.k, H2.1.f52.2.1, by rw [H2.1.f52.2.2]; decide, H2.b82, fun q => no (by rw [if_pos q] at sg2; omega), fun q => rg_no H2 (by decide) ?_⟩, fun z => absurd z nN⟩
  rw [if_neg q] at sg2
  apply g_X12_isNever_171
  refine fun _ _ _ => ⟨fun y => ⟨H2.1.k, fun μ3 m3 v4 e4 => ?_⟩, fun y => no ?_⟩
  · have z0 : R2 82 ≠ 0 := fun x => by rw [if_pos x] at y; exact absurd y (by decide)
    have ng : R2 82 < 0 := by omega
    rw [e82] at ng
    have H3 : RG ε μ3 M R2 := by rw [m3]; exact rg_field H2
    have F3 : FNm M μ μ3 := F2.trans (by rw [m3]; exact fnm_many)
    have c3 : ∀ o y, o ≠ 0 → μ3 (M + o) y = μ2 (M + o) y := fun o y ho => by rw [m3]; exact sx_oa (by omega)
    rw [e4]
    refine in_keep n4 n48 (b := fun t => a t / gd a n) (S := sm (fun t => a t / gd a n * c (ix t)) n) (R0 := R2) (fun t t0 t1 => bd_le (ba t t0 t1) ?_) ri (μ0 := μ3) (fun t t0 t1 => (c3 _ _ (by decide)).trans (A2 t t0 t1)) (fun t t0 t1 => (F3 _ _ (nbc (by decide)) (by omega) (by omega) (by omega)).trans (ei t t0 t1)) (fun q => (F3 _ _ (nbc (by decide)) (by omega) (by omega) (by omega)).trans (hcode q)) (fun μ4 R4 H4 f4 k59 A4 e100 fr4 => ?_) n 0 μ3 R2 (by omega) H3 FNm.rf (fun _ => rfl) rfl (fun r r0 r1 => by omega) e82 (fun _ _ => rfl)
    · have r1 := fl_rng (p := a t) (q := ((gd a n : Nat) : Int)) (by omega)
      have := pa t t0 t1
      omega
    · refine h1 μ4 R4 H4 (F3.trans f4) (neg.mpr ng) (by rw [k59, m3, sx_same]) A4 e100 (fun s s1 s2 => ?_)
      rw [fr4 s s2]
      exact fr2 s s1
  · by_cases x : R2 82 = 0
    · omega
    · rw [if_neg x] at y; exact absurd rfl y
