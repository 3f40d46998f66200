set_option maxHeartbeats 1000000
/-! ===== pairs of calls: weigh, number ===== -/
theorem bg_ex {ε ε' : m_E} {a o : Int} (h : bg ε a o) (e : EX ε ε') : bg ε' a o := by
  obtain ⟨h1, h2, h3, h4, h5⟩ := h
  obtain ⟨e1, _, e2⟩ := e a (by rw [h1]; decide)
  obtain ⟨e3, e4, _⟩ := e o (by rw [h3]; decide)
  exact ⟨e1.trans h1, (e2 0).trans h2, e3.trans h3, e4.trans h4, h5⟩
theorem RG.ex {ε ε' : m_E} {μ : m_M} {M : Int} {R : Int → Int} (h : RG ε μ M R) (e : EX ε ε') : RG ε' μ M R := by
  obtain ⟨g1, g2, g3, g4⟩ := h
  exact ⟨g1.ex e, fun r hr => bg_ex (g2 r hr) e, g3, g4⟩
theorem Rel.ex {ε ε' : m_E} {μ : m_M} {X : Int} (h : Rel ε μ X) (e : EX ε ε') : Rel ε' μ X := by
  obtain ⟨ow, R, S, G', J, P, C⟩ := h
  exact ⟨ow, R, S.ex e, G'.ex e, J, P, C.scr e (fun _ _ _ => rfl)⟩
theorem bc_rng {M b : Int} (h : BC M b) : M + 32 ≤ b ∧ b ≤ M + 101 ∧ b ≠ M + 44 ∧ b ≠ M + 45 ∧ b ≠ M + 46 ∧ b ≠ M + 88 ∧ b ≠ M + 89 ∧ b ≠ M + 90 := by
  obtain ⟨r, hr, q⟩ := h
  have := (by decide : ∀ r ∈ lm_b, 32 ≤ r ∧ r ≤ 100 ∧ r ≠ 44 ∧ r ≠ 45 ∧ r ≠ 46 ∧ r ≠ 88 ∧ r ≠ 89 ∧ r ≠ 90 ∧ r ≠ 43 ∧ r ≠ 87) r hr
  omega
theorem Rel.page {ε : m_E} {μ μ1 μ2 μ3 : m_M} {X : Int} {ow R' : Int → Int} {t : List Int} (S : SL ε X) (C : Core ε μ X ow (sgM μ (X + 34))) (J : JV μ (X + 20) (X + 34) R') (f1 : FPg (X + 29) μ μ1) (f2 : ∀ b j, b ≠ X + 141 → μ2 b j = μ1 b j) (f3 : FD (X + 34) (st μ2 (X + 34) 0 0) μ3) (G3 : RG ε μ3 (X + 34) R') (t80 : t.length ≤ 80) (p1 : PL (μ1 (X + 29 + 1)) (μ1 (X + 29) 3) t) (p3 : PL (μ3 (X + 34 + 104)) (μ3 (X + 34) 63) t) : Rel ε μ3 X ∧ μ3 (X + 34) 0 = 0 ∧ (∀ c j, c < X → μ3 c j = μ2 c j) ∧ ∀ j, μ3 (X + 141) j = μ2 (X + 141) j := by
  have f : ∀ b j, ¬ BC (X + 34) b → b ≠ X + 34 + 104 → ¬ (b = X + 34 ∧ (j = 63 ∨ j = 0)) → b ≠ X + 141 → (b < X + 29 ∨ X + 29 + 3 < b) → μ3 b j = μ b j := fun b j h1 h2 h3 h4 h5 => by
    rw [f3 b j h1 h2 (fun z => h3 ⟨z.1, Or.inl z.2⟩), st, if_neg (fun z => h3 ⟨z.1, Or.inr z.2⟩), f2 b j h4, f1 b j h5]
  have nb' : ∀ b, BC (X + 34) b → X + 34 + 32 ≤ b ∧ b ≤ X + 34 + 101 ∧ b ≠ X + 34 + 88 ∧ b ≠ X + 34 + 89 ∧ b ≠ X + 34 + 90 := fun b h => by
    have := bc_rng h; omega
  have g : ∀ b j, (∀ z : BC (X + 34) b, False) → b ≠ X + 34 + 104 → ¬ (b = X + 34 ∧ j = 63) → μ3 b j = st μ2 (X + 34) 0 0 b j := fun b j h1 h2 h3 => f3 b j h1 h2 h3
  refine ⟨⟨ow, R', S, G3, J.fr (fun b j h => f b j (fun z => ?_) ?_ ?_ ?_ ?_) (fun _ _ _ => ⟨rfl, rfl⟩) (fun _ _ _ => rfl), ⟨t, t80, p1.congr ?_ (fun j _ _ => ?_), p3⟩, C.scr EX.rf (fun b j h => f b j (fun z => ?_) ?_ ?_ ?_ ?_)⟩, ?_, fun c j h => ?_, fun j => ?_⟩
  · have := nb' b z; unfold vc at h; omega
  · unfold vc at h; omega
  · unfold vc at h; omega
  · unfold vc at h; omega
  · unfold vc at h; omega
  · rw [g _ _ (fun z => by have := nb' _ z; omega) (by omega) (by omega), sx_oa (by omega), f2 _ _ (by omega)]
  · rw [g _ _ (fun z => by have := nb' _ z; omega) (by omega) (by omega), sx_oa (by omega), f2 _ _ (by omega)]
  · have := nb' b z; unfold scq at h; omega
  · unfold scq at h; omega
  · unfold scq at h; omega
  · unfold scq at h; omega
  · unfold scq at h; omega
  · rw [g _ _ (fun z => by have := nb' _ z; omega) (by omega) (by omega), sx_same]
  · rw [g _ _ (fun z => by have := nb' _ z; omega) (by omega) (by omega), sx_oa (by omega)]
  · rw [g _ _ (fun z => by have := nb' _ z; omega) (by omega) (by omega), sx_oa (by omega)]
theorem RG.page {ε : m_E} {μ μ1 μ2 : m_M} {X : Int} {R : Int → Int} (G' : RG ε μ (X + 34) R) (f1 : FPg (X + 29) μ μ1) (f2 : ∀ b j, b ≠ X + 141 → μ2 b j = μ1 b j) : RG ε μ2 (X + 34) R := G'.of (fun b j h => by
  have hb : X + 34 + 31 ≤ b ∧ b ≤ X + 34 + 101 := by
    rcases h with h | ⟨q, hq, z⟩
    · have := bc_rng h; omega
    · have := (by decide : ∀ q ∈ lm_a, 31 ≤ q.1 ∧ q.1 ≤ 91) q hq
      omega
  rw [f2 _ _ (by omega), f1 _ _ (by omega)])
theorem LO.d1 {n a d : Int} (h : LO n 1 a d) : a = n ∧ d = 1 := by
  obtain ⟨h1, h2, h3, h4, h5⟩ := h
  have e : d = 1 := by
    have : (1 : Int).natAbs = 1 := rfl
    omega
  subst e
  exact ⟨by omega, rfl⟩
theorem pr_weigh {ε : m_E} {μ : m_M} {X n : Int} {codes : Int → Int} (H : Rel ε μ X) : PAIR (fun ε μ Q Y => o_X10_weigh [(2, X), (0, n)] ε μ Q Y) (fun ε μ Q Y => o_X12_weigh [(2, X + 34), (0, n)] ε μ Q Y) codes ε μ X := by
  intro QC XC hq _
  obtain ⟨ow, R, S, G', J, P, C⟩ := H
  have N : μ (X + 34) 59 = μ (X + 20) 8 ∧ 0 ≤ μ (X + 20) 8 ∧ μ (X + 20) 8 ≤ 4 ∧ (0 < μ (X + 20) 8 → JN μ (X + 20) (X + 34) R ∧ JS μ (X + 20)) := by
    rcases J with ⟨_, j1, _, _, _, j2, _⟩ | ⟨_, j1, _, _, j2, _⟩ | ⟨_, _, _, _, _, _, _, j1, j2⟩
    · exact ⟨by omega, by omega, by omega, fun z => by omega⟩
    · exact ⟨by omega, by omega, by omega, fun z => by omega⟩
    · exact ⟨j1.1, j1.2.1, j1.2.2.1, fun _ => ⟨j1, j2⟩⟩
  obtain ⟨n1, n2, n3, n4⟩ := N
  have e59 : ∀ {μ1 μ2 : m_M}, FPg (X + 29) μ μ1 → (∀ b j, b ≠ X + 141 → μ2 b j = μ1 b j) → μ2 (X + 34) 59 = μ (X + 20) 8 := fun f1 f2 => by rw [f2 _ _ (by omega), f1 _ _ (by omega), n1]
  have val : ∀ m, 0 ≤ m → (m < μ (X + 20) 8 ∨ (m = 4 ∧ μ (X + 20) 8 ≠ 0)) → (R (92 + 2 * m)).natAbs < 10 ^ 38 := fun m m0 m1 => by
    obtain ⟨⟨_, _, _, k4, k5⟩, s1, s2⟩ := n4 (by omega)
    rcases m1 with m1 | m1
    · rw [← (k4 m m0 m1).2.1]; exact (s1 m m0 m1).1
    · rw [m1.1, show 92 + 2 * 4 = (100 : Int) by decide, ← k5 (by omega)]; exact s2 (by omega)
  have one : ∀ (z : Int) (μ1 : m_M) (t : List Int), 0 ≤ n → (n < μ (X + 20) 8 ∨ (n = 4 ∧ μ (X + 20) 8 ≠ 0)) → FPg (X + 29) μ μ1 → z = t.length → TX (R (92 + 2 * n)) 1 t → PL (μ1 (X + 29 + 1)) (μ1 (X + 29) 3) t → AFT (fun ε μ Q Y => o_X12_weigh [(2, X + 34), (0, n)] ε μ Q Y) X 0 z ε μ ε μ1 := fun z μ1 t n0 hn f1 hz tx pl => by
    refine ⟨EX.rf, fun b j h => f1 _ _ (by omega), fun μ2 f2 Q Y K => ?_⟩
    have e := e59 f1 f2
    refine sp_X12_weigh (G'.page f1 f2) (by rw [e]; exact n2) (fun m0 m1 => ?_) (fun m1 => ?_) (by rw [e]; exact n3) (fun μ3 R' t' m0 m1 G3 hR tx' pl' f3 => ?_)
    · rw [e] at m1
      have := val n m0 m1
      omega
    · rw [e] at m1; omega
    · have et : t = t' := tx.one tx'
      subst et
      obtain ⟨r1, r2, r3, r4⟩ := Rel.page S C (J.fr (μ' := μ) (fun _ _ _ => rfl) (fun m m0 m1 => ⟨hR _ (by omega), hR _ (by omega)⟩) (fun m m0 m1 => hR _ (by omega))) f1 f2 f3 G3 (tx.len (val n n0 hn) (by decide)) pl pl'
      exact K _ _ r3 r1 r2 (fun _ => hz.symm) r4
  refine sp_X10_weigh S.1 S.2.2.2.2.1 S.2.2.2.2.2.1 n3 (fun m0 m1 => ?_) (fun m1 => (n4 m1).2.2 m1) (fun m1 => hq _ _ _ ⟨EX.rf, fun _ _ _ => rfl, fun μ2 f2 Q Y K => ?_⟩) (fun μ1 t m0 m1 f1 ⟨a, d, lo, tx⟩ pl => hq _ _ _ (one _ μ1 t m0 (Or.inl m1) f1 rfl ?_ pl)) (fun μ1 t m0 m1 f1 ⟨a, d, lo, tx⟩ pl => hq _ _ _ (one _ μ1 t (by omega) (Or.inr ⟨m0, by omega⟩) f1 rfl ?_ pl))
  · have := (n4 (by omega)).2.1 n m0 m1
    rw [this.2]; exact this.1
  · have e := e59 (fun _ _ _ => rfl) f2
    refine sp_X12_weigh (G'.page (fun _ _ _ => rfl) f2) (by rw [e]; exact n2) (fun m0 m2 => ?_) (fun _ => K _ _ (fun c j h => sx_oa (by omega)) (Rel.st0 S G' J P C (fun b j h1 h2 => by rw [st, if_neg h2]; exact f2 b j h1)) sx_same (fun _ => rfl) (fun j => sx_oa (by omega))) (by rw [e]; exact n3) (fun μ3 R' t' m0 m2 _ _ _ _ _ => ?_)
    · rw [e] at m2; omega
    · rw [e] at m2; omega
  · obtain ⟨e1, e2⟩ := lo.d1
    subst e1 e2
    obtain ⟨⟨_, _, _, k4, _⟩, s1, _⟩ := n4 (by omega)
    rw [← (k4 n m0 m1).2.1, ← (s1 n m0 m1).2]; exact tx
  · obtain ⟨e1, e2⟩ := lo.d1
    subst e1 e2
    obtain ⟨⟨_, _, _, _, k5⟩, _, _⟩ := n4 m1
    rw [m0, show 92 + 2 * 4 = (100 : Int) by decide, ← k5 m1]; exact tx
theorem pr_number {ε : m_E} {μ : m_M} {X n : Int} {codes : Int → Int} (c3 : codes 3 = 1) (c2 : codes 2 = 2) (H : Rel ε μ X) : PAIR (fun ε μ Q Y => o_X10_number [(2, X), (0, n)] ε μ Q Y) (fun ε μ Q Y => o_X12_number [(2, X + 34), (0, n)] ε μ Q Y) codes ε μ X := by
  intro QC XC hq hx
  obtain ⟨ow, R, S, G', J, P, C⟩ := H
  have Z : (μ (X + 20) 9 = 0 ∧ (μ (X + 34) 53 = 0 ∨ μ (X + 34) 54 = 0)) ∨ (μ (X + 20) 9 = 1 ∧ μ (X + 34) 53 = 1 ∧ μ (X + 34) 54 = 1 ∧ ∀ n, 0 ≤ n → n < 6 → JQ μ (X + 20) R n) := by
    rcases J with ⟨j1, _, _, _, j2, _⟩ | ⟨j1, _, j2, j3, _, j4, _⟩ | ⟨j1, _, j2, _⟩
    · exact Or.inl ⟨j1, Or.inl j2⟩
    · exact Or.inr ⟨j1, j2, j3, j4⟩
    · exact Or.inl ⟨j1, Or.inr j2⟩
  have thr : ∀ k ε1, EX ε ε1 → ∀ μ2 : m_M, (∀ b j, b ≠ X + 141 → μ2 b j = μ b j) → Rel ε1 (st μ2 (X + 34) 0 k) X := fun k ε1 e μ2 f2 => by
    have := Rel.st0 S G' J P C (μ' := st μ2 (X + 34) 0 k) (fun b j h1 h2 => by rw [st, if_neg h2]; exact f2 b j h1)
    exact this.ex e
  have mem : ∀ ε1, EX ε ε1 → RG ε1 μ (X + 34) R := fun ε1 e => G'.ex e
  refine sp_X10_number S.1 S.2.2.2.2.1 S.2.2.2.2.2.1 (by omega) (fun q m0 m1 => ?_) (fun q z hz => hx _ _ _ (by rw [c3]; decide) ⟨EX.nx, fun _ _ _ => rfl, fun μ2 f2 Q Y K => ?_⟩) (fun q r z hz => hx _ _ _ (by rw [c2]; decide) ⟨EX.nx, fun _ _ _ => rfl, fun μ2 f2 Q Y K => ?_⟩) (fun μ1 t q m0 m1 f1 h pl => hq _ _ _ ⟨EX.rf, fun b j h => f1 _ _ (by omega), fun μ2 f2 Q Y K => ?_⟩)
  · rcases Z with Z | ⟨_, _, _, z⟩
    · omega
    · have := z n m0 m1
      exact ⟨this.1, this.2.1, this.2.2.1⟩
  · have z' : μ2 (X + 34) 53 = 0 ∨ μ2 (X + 34) 54 = 0 := by
      rw [f2 _ _ (by omega), f2 _ _ (by omega)]; omega
    refine sp_X12_number (RG.page (mem _ EX.nx) (fun _ _ _ => rfl) f2) (fun a b => by omega) (fun _ => ?_) (fun a b => by omega) (fun μ3 R' t a b => by omega)
    rw [c3] at K
    exact K _ _ (fun c j h => sx_oa (by omega)) (thr 1 _ EX.nx μ2 f2) sx_same (fun z => by omega) (fun j => sx_oa (by omega))
  · have z1 : μ2 (X + 34) 53 = 1 ∧ μ2 (X + 34) 54 = 1 := by
      rw [f2 _ _ (by omega), f2 _ _ (by omega)]; omega
    refine sp_X12_number (RG.page (mem _ EX.nx) (fun _ _ _ => rfl) f2) (fun a b => by omega) (fun z => by omega) (fun a b _ => ?_) (fun μ3 R' t a b => by omega)
    rw [c2] at K
    exact K _ _ (fun c j h => sx_oa (by omega)) (thr 2 _ EX.nx μ2 f2) sx_same (fun z => by omega) (fun j => sx_oa (by omega))
  · have z1 : μ2 (X + 34) 53 = 1 ∧ μ2 (X + 34) 54 = 1 := by
      rw [f2 _ _ (by omega), f2 _ _ (by omega), f1 _ _ (by omega), f1 _ _ (by omega)]; omega
    have jq : ∀ n, 0 ≤ n → n < 6 → JQ μ (X + 20) R n := by
      rcases Z with Z | ⟨_, _, _, z⟩
      · omega
      · exact z
    have j := jq n m0 m1
    refine sp_X12_number (G'.page f1 f2) (fun _ _ _ _ => ⟨j.2.2.2.1, j.2.2.2.2.1, j.2.2.2.2.2.1, j.small⟩) (fun z => by omega) (fun _ _ z => by omega) (fun μ3 R' t' _ _ _ _ G3 hR lo tx pl' f3 => ?_)
    have et : t = t' := j.text h lo tx
    subst et
    have t80 : t.length ≤ 80 := by
      obtain ⟨a, d, lo', tx'⟩ := h
      have b1 := j.2.2.1
      have b2 := j.2.1
      have b3 := j.1
      exact tx'.len (Nat.lt_of_le_of_lt lo'.2.2.2.1 b1) (by have := lo'.2.2.2.2; omega)
    have J' : JV μ (X + 20) (X + 34) R' := by
      rcases J with J | ⟨j1, j2, j3, j4, j5, j6, j7⟩ | ⟨j1, _⟩
      · omega
      · refine Or.inr (Or.inl ⟨j1, j2, j3, j4, j5, fun m k0 k1 => ?_, j7⟩)
        by_cases y : m = n
        · rw [y]; exact j.keep lo
        · have t1 : ¬ tmp (48 + 2 * m) := by unfold tmp; omega
          have t2 : ¬ tmp (61 + 2 * m) := by unfold tmp; omega
          exact (j6 m k0 k1).other (hR _ t1 (by omega) (by omega)) (hR _ t2 (by omega) (by omega))
      · omega
    obtain ⟨r1, r2, r3, r4⟩ := Rel.page S C J' f1 f2 f3 G3 t80 pl pl'
    exact K _ _ r3 r1 r2 (fun _ => rfl) r4
