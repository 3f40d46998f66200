/-! ===== the reference's isNever ===== -/
def FNm (M : Int) (μ μ' : m_M) : Prop := ∀ b j, ¬ BC M b → b ≠ M + 102 → b ≠ M + 90 → ¬ (b = M ∧ j = 59) → μ' b j = μ b j
theorem FNm.rf {M : Int} {μ : m_M} : FNm M μ μ := fun _ _ _ _ _ _ => rfl
theorem FNm.trans {M : Int} {μ μ' μ'' : m_M} (h : FNm M μ μ') (k : FNm M μ' μ'') : FNm M μ μ'' := fun b j h0 h1 h2 h3 => (k b j h0 h1 h2 h3).trans (h b j h0 h1 h2 h3)
theorem FNm.b {M : Int} {μ μ' : m_M} (h : FB M μ μ') : FNm M μ μ' := fun b j h0 _ _ _ => h b j h0
theorem fnm_part {M i v : Int} {μ : m_M} : FNm M μ (st μ (M + 102) i v) := fun _ _ _ h1 _ _ => sx_oa h1
theorem fnm_never {M i v : Int} {μ : m_M} : FNm M μ (st μ (M + 90) i v) := fun _ _ _ _ h2 _ => sx_oa h2
theorem fnm_many {M v : Int} {μ : m_M} : FNm M μ (st μ M 59 v) := fun _ _ _ _ _ h3 => if_neg h3
theorem rg_tv {ε : m_E} {μ : m_M} {M t : Int} {R : Int → Int} (H : RG ε μ M R) (t0 : 0 ≤ t) (t4 : t ≤ 4) : μ (M + 91) t = M + (92 + 2 * t) ∧ 92 + 2 * t ∈ lm_b := by
  have : t = 0 ∨ t = 1 ∨ t = 2 ∨ t = 3 ∨ t = 4 := by omega
  rcases this with rfl | rfl | rfl | rfl | rfl
  · exact ⟨H.t0, by decide⟩
  · exact ⟨H.t1, by decide⟩
  · exact ⟨H.t2, by decide⟩
  · exact ⟨H.t3, by decide⟩
  · exact ⟨H.t4, by decide⟩
theorem rg_field {ε : m_E} {μ : m_M} {M i v : Int} {R : Int → Int} (H : RG ε μ M R) : RG ε (st μ M i v) M R := H.of (fun b j hb => by
  rcases hb with hb | ⟨q, hq, e⟩
  · exact sx_oa (fun e => nbc0 (M := M) (e ▸ hb))
  · have a : ∀ q ∈ lm_a, 0 < q.1 := by decide
    have := a q hq
    exact sx_oa (by omega))
theorem in_gcd {Q X : m_Po} {ε : m_E} {μ : m_M} {M : Int} {n : Nat} (L : LM ε M) (n4 : n ≤ 4) {a : Int → Int} (ea : ∀ t : Int, 0 ≤ t → t < n → μ (M + 102) t = a t) (pa : ∀ t : Int, 0 ≤ t → t < n → 0 < a t)
    (nxt : G cd_X12_isNever Q X 5 [(0, (2, M)), (1, (0, n)), (2, (1, gd a n)), (4, (0, n))] [] ε μ) :
    ∀ (d t : Nat), t + d = n → G cd_X12_isNever Q X 5 [(0, (2, M)), (1, (0, n)), (2, (1, gd a t)), (4, (0, t))] [] ε μ := by
  intro d
  induction d with
  | zero =>
    intro t hd
    have ht : t = n := by omega
    subst ht
    exact nxt
  | succ d ih =>
    intro t hd
    have t0 : (0 : Int) ≤ t := by omega
    have t1 : (t : Int) < n := by omega
    have t4 : (t : Int) < 4 := by omega
    have tN : ¬ (n : Int) ≤ t := by omega
    have tm : t < 2147483647 := by omega
    have hd' : t + 1 + d = n := by omega
    have e := ea t t0 t1
    have p := pa t t0 t1
    have gg : ((Int.gcd ((gd a t : Nat) : Int) (a t) : Nat) : Int) = ((gd a (t + 1) : Nat) : Int) := by
      unfold Int.gcd
      simp [gd]
    apply g_X12_isNever_5
    rw [L.f60.1, e]
    refine fun _ _ _ _ => ⟨fun z => absurd z tN, fun _ => ⟨L.k, L.f60.2.1, t0, by rw [L.f60.2.2]; exact t4, sp_X12_gcd (by omega) (by omega) ?_⟩⟩
    rw [gg]
    apply g_X12_isNever_22
    refine fun _ _ _ _ v2 e2 v4 e4 => ?_
    rw [e2, w32_succ tm e4]
    exact ih (t + 1) hd'
/-- the sum, out of parts that have been divided -/
theorem in_sum {Q X : m_Po} {ε : m_E} {M nb : Int} {n : Nat} (n4 : n ≤ 4) (n48 : nb ≤ 48) {a ix c R0 : Int → Int} {g : Nat} (g0 : 0 < g) (pa : ∀ t : Int, 0 ≤ t → t < n → 0 < a t) (ba : ∀ t : Int, 0 ≤ t → t < n → bd (a t) 63) (ri : ∀ t : Int, 0 ≤ t → t < n → 0 ≤ ix t ∧ ix t < nb) (bc : ∀ t : Int, 0 ≤ t → t < n → bd (c (ix t)) 44) {μ0 : m_M} (ei : ∀ t : Int, 0 ≤ t → t < n → μ0 (M + 103) t = ix t) (hc : ∀ q, μ0 (M + 29) q = c q)
    (nxt : ∀ μ' R', RG ε μ' M R' → FNm M μ0 μ' → μ' M 59 = μ0 M 59 → (∀ t : Int, 0 ≤ t → t < n → μ' (M + 102) t = a t / g) → R' 82 = sm (fun t => a t / g * c (ix t)) n → (∀ s, ¬ tme s → R' s = R0 s) → G cd_X12_isNever Q X 42 [(0, (2, M)), (1, (0, n)), (2, (1, g)), (4, (0, n))] [] ε μ') :
    ∀ (d t : Nat) (μ : m_M) (R : Int → Int), t + d = n → RG ε μ M R → FNm M μ0 μ → μ M 59 = μ0 M 59 → (∀ r : Int, 0 ≤ r → r < t → μ (M + 102) r = a r / g) → (∀ r : Int, (t : Int) ≤ r → r < n → μ (M + 102) r = a r) → R 82 = sm (fun t => a t / g * c (ix t)) t → (∀ s, ¬ tme s → R s = R0 s) → G cd_X12_isNever Q X 42 [(0, (2, M)), (1, (0, n)), (2, (1, g)), (4, (0, t))] [] ε μ := by
  have ng : (g : Int) ≠ 0 := by omega
  have bq : ∀ t : Int, 0 ≤ t → t < n → bd (a t / g) 63 := fun t t0 t1 => bd_le (ba t t0 t1) (by
    have r1 := fl_rng (p := a t) (q := ((g : Nat) : Int)) (by omega)
    have := pa t t0 t1
    omega)
  intro d
  induction d with
  | zero =>
    intro t μ R hd H f f59 A C e82 fr
    have ht : t = n := by omega
    subst ht
    exact nxt μ R H f f59 A e82 fr
  | succ d ih =>
    intro t μ R hd H0 f f59 A C e82 fr
    have t0 : (0 : Int) ≤ t := by omega
    have t1 : (t : Int) < n := by omega
    have t4 : (t : Int) < 4 := by omega
    have tN : ¬ (n : Int) ≤ t := by omega
    have tm : t < 2147483647 := by omega
    have hd' : t + 1 + d = n := by omega
    have e := C t (Int.le_refl _) t1
    have p := pa t t0 t1
    have rr := ri t t0 t1
    have r48 : ix t < 48 := by omega
    have dv : w64 (Int.tdiv (a t) g) = a t / g := by
      rw [Int.tdiv_eq_ediv_of_nonneg (by omega)]
      exact w64_bd (bq t t0 t1)
    have b1 := bq t t0 t1
    have b2 := bc t t0 t1
    apply g_X12_isNever_42
    rw [H0.1.f60.1, H0.1.f52.1, e, dv]
    clear dv
    refine fun _ _ _ _ => ⟨fun z => absurd z tN, fun _ => ⟨H0.1.k, H0.1.f60.2.1, t0, by rw [H0.1.f60.2.2]; exact t4, ng, fun μ1 m1 => ?_⟩⟩
    have H1 : RG ε μ1 M R := by rw [m1]; exact H0.st (by decide) (by decide)
    have F1 : FNm M μ0 μ1 := f.trans (by rw [m1]; exact fnm_part)
    have q1 : μ1 (M + 102) t = a t / g := by rw [m1, sx_same]
    rw [H1.e0, q1]
    refine ⟨H1.1.f52.2.1, by rw [H1.1.f52.2.2]; decide, H1.b74, rg_set H1 (by decide) (bd_i64 b1 (by decide)) (fun μ2 H2 f2 => ?_)⟩
    have F2 := F1.trans (FNm.b f2)
    have i2 : μ2 (M + 103) t = ix t := (F2 _ _ (nbc (by decide)) (by omega) (by omega) (by omega)).trans (ei t t0 t1)
    have c2 : ∀ q, μ2 (M + 29) q = c q := fun q => (F2 _ _ (nbc (by decide)) (by omega) (by omega) (by omega)).trans (hc q)
    apply g_X12_isNever_80
    rw [H2.1.f52.1, H2.1.f61.1, H2.1.f33.1, H2.e1, i2, c2]
    refine fun _ _ _ _ => ⟨H2.1.k, H2.1.f52.2.1, by rw [H2.1.f52.2.2]; decide, H2.1.f61.2.1, t0, by rw [H2.1.f61.2.2]; exact t4, H2.1.f33.2.1, rr.1, by rw [H2.1.f33.2.2]; exact r48, H2.b76, rg_set H2 (by decide) (bd_i64 b2 (by decide)) (fun μ3 H3 f3 => ?_)⟩
    apply g_X12_isNever_101
    rw [H3.1.f52.1, H3.e0, H3.e1, H3.e2]
    refine fun _ _ _ _ => ⟨H3.1.k, H3.1.f52.2.1, by rw [H3.1.f52.2.2]; decide, by rw [H3.1.f52.2.2]; decide, by rw [H3.1.f52.2.2]; decide, H3.b78, rg_prod H3 (by decide) (by decide) (by decide) (by decide) (by decide) (by simp only [up, reduceIte, Int.reduceEq]; exact pb_mul b1 b2 (by decide)) (fun μ4 H4 f4 => ?_)⟩
    simp only [up, reduceIte, Int.reduceEq] at H4
    have bs1 : bd (sm (fun t => a t / g * c (ix t)) t) 111 := bd_mono (sm_bd t (fun r r0 r1 => bd_mul (bq r r0 (by omega)) (bc r r0 (by omega)))) (by omega)
    apply g_X12_isNever_122
    rw [H4.1.f52.1, H4.e2, H4.e4]
    refine fun _ _ _ _ => ⟨H4.1.k, H4.1.f52.2.1, by rw [H4.1.f52.2.2]; decide, by rw [H4.1.f52.2.2]; decide, H4.b82, rg_sum H4 (by decide) (by decide) (by decide) (Or.inl rfl) (by simp only [up, reduceIte, Int.reduceEq, e82]; exact pb_add bs1 (bd_mono (bd_mul b1 b2) (by decide)) (by decide)) (fun μ5 H5 f5 => ?_)⟩
    simp only [up, reduceIte, Int.reduceEq, e82] at H5
    have F5 : FNm M μ0 μ5 := ((F2.trans (FNm.b f3)).trans (FNm.b f4)).trans (FNm.b f5)
    have c5 : ∀ r, μ5 (M + 102) r = μ1 (M + 102) r := fun r => by rw [f5 _ _ (nbc (by decide)), f4 _ _ (nbc (by decide)), f3 _ _ (nbc (by decide)), f2 _ _ (nbc (by decide))]
    apply g_X12_isNever_144
    refine fun _ _ _ _ v4 e4 => ?_
    rw [w32_succ tm e4]
    clear e4
    have g59 : μ5 M 59 = μ0 M 59 := by rw [f5 _ _ nbc0, f4 _ _ nbc0, f3 _ _ nbc0, f2 _ _ nbc0, m1, sx_oa (by omega)]; exact f59
    refine ih (t + 1) μ5 _ hd' H5 F5 g59 (fun r r0 r1 => ?_) (fun r r0 r1 => ?_) ?_ (fun s s1 => ?_)
    · rw [c5]
      by_cases q : r = t
      · rw [q]; exact q1
      · rw [m1, sx_oi q]; exact A r r0 (by omega)
    · rw [c5, m1, sx_oi (by omega)]; exact C r (by omega) r1
    · rw [up_same]; rfl
    · have q := tme.no s1
      rw [up_ne q.2.2.2.2.2.1, up_ne q.2.2.2.1, up_ne q.2.2.1, up_ne q.2.1]
      exact fr s s1
