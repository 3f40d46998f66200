set_option maxHeartbeats 1000000
/-! ===== the reference's rows: keeps, point, leans; the list that both programs tell ===== -/
theorem w64_ab {x A : Int} (h : ab x A) (hA : A < 9223372036854775808) : w64 x = x := w64_id (by unfold ab at h; unfold i64; omega)
theorem ab_ad {x y A B : Int} (h : ab x A) (k : ab y B) : ab (x + y) (A + B) := by unfold ab at *; omega
theorem ab_sub {x y A B : Int} (h : ab x A) (k : ab y B) : ab (x - y) (A + B) := by unfold ab at *; omega
theorem ab_l {x A B : Int} (h : ab x A) (k : A ≤ B) : ab x B := by unfold ab at *; omega
def FKp (M : Int) (μ μ' : m_M) : Prop := ∀ b j, ¬ (b = M ∧ j = 35) → (b < M + 26 ∨ M + 30 < b) → μ' b j = μ b j
theorem FKp.rf {M : Int} {μ : m_M} : FKp M μ μ := fun _ _ _ _ => rfl
theorem FKp.trans {M : Int} {μ μ' μ'' : m_M} (h : FKp M μ μ') (k : FKp M μ' μ'') : FKp M μ μ'' := fun b j h1 h2 => (k b j h1 h2).trans (h b j h1 h2)
theorem FKp.st {M a i v : Int} {μ : m_M} (h : (a = M ∧ i = 35) ∨ (M + 26 ≤ a ∧ a ≤ M + 30)) : FKp M μ (st μ a i v) := fun b j h1 h2 => if_neg (fun z => by
  rcases h with ⟨e, e'⟩ | h
  · exact h1 ⟨by omega, by omega⟩
  · omega)
theorem sp_X12_keeps {Q X : m_Po} {ε : m_E} {μ : m_M} {M : Int} {l : List Rw} {k h v m c : Int} (L : LM ε M) (H : RMm μ M l) (hl : l.length < 48) (hh : ∀ μ', FKp M μ μ' → RMm μ' M (l ++ [(k, h, v, m, c)]) → Q 0 ε μ') : o_X12_keeps [(2, M), (0, k), (1, h), (1, v), (1, m), (1, c)] ε μ Q X := by
  apply e_X12_keeps
  have en : μ M 35 = (l.length : Int) := H.1
  rw [L.f30.1, L.f31.1, L.f32.1, L.f33.1, L.f34.1]
  refine fun _ _ _ _ _ _ => ⟨L.k, L.f34.2.1, by omega, by rw [L.f34.2.2]; omega, fun μ1 m1 => ?_⟩
  have n1 : μ1 M 35 = μ M 35 := by rw [m1]; exact sx_oa (by omega)
  rw [n1]
  refine ⟨L.f30.2.1, by omega, by rw [L.f30.2.2]; omega, fun μ2 m2 => ?_⟩
  have n2 : μ2 M 35 = μ M 35 := by rw [m2, sx_oa (by omega)]; exact n1
  rw [n2]
  refine ⟨L.f31.2.1, by omega, by rw [L.f31.2.2]; omega, fun μ3 m3 => ?_⟩
  have n3 : μ3 M 35 = μ M 35 := by rw [m3, sx_oa (by omega)]; exact n2
  rw [n3]
  refine ⟨L.f32.2.1, by omega, by rw [L.f32.2.2]; omega, fun μ4 m4 => ?_⟩
  have n4 : μ4 M 35 = μ M 35 := by rw [m4, sx_oa (by omega)]; exact n3
  rw [n4]
  refine ⟨L.f33.2.1, by omega, by rw [L.f33.2.2]; omega, fun μ5 m5 => ?_⟩
  have n5 : μ5 M 35 = μ M 35 := by rw [m5, sx_oa (by omega)]; exact n4
  rw [n5, w32_id (by unfold i32; omega)]
  refine ⟨L.k, fun μ6 m6 => ?_⟩
  generalize en' : μ M 35 = n at *
  refine hh μ6 ?_ (H.add (n' := μ6 M 35) ?_ ?_ ?_ ?_ ?_ ?_)
  · rw [m6, m5, m4, m3, m2, m1]
    exact (((((FKp.st (by omega)).trans (FKp.st (by omega))).trans (FKp.st (by omega))).trans (FKp.st (by omega))).trans (FKp.st (by omega))).trans (FKp.st (by omega))
  · rw [m6, sx_same, en']
  · intro j
    rw [m6, sx_oa (by omega), m5, sx_oa (by omega), m4, sx_oa (by omega), m3, sx_oa (by omega), m2, sx_oa (by omega), m1, en']
    unfold st
    by_cases q : j = n
    · rw [if_pos ⟨rfl, q⟩, if_pos q]
    · rw [if_neg (fun z => q z.2), if_neg q]
  · intro j
    rw [m6, sx_oa (by omega), m5, sx_oa (by omega), m4, sx_oa (by omega), m3, sx_oa (by omega), m2, en']
    unfold st
    by_cases q : j = n
    · rw [if_pos ⟨rfl, q⟩, if_pos q]
    · rw [if_neg (fun z => q z.2), if_neg q, m1, sx_oa (by omega)]
  · intro j
    rw [m6, sx_oa (by omega), m5, sx_oa (by omega), m4, sx_oa (by omega), m3, en']
    unfold st
    by_cases q : j = n
    · rw [if_pos ⟨rfl, q⟩, if_pos q]
    · rw [if_neg (fun z => q z.2), if_neg q, m2, sx_oa (by omega), m1, sx_oa (by omega)]
  · intro j
    rw [m6, sx_oa (by omega), m5, sx_oa (by omega), m4, en']
    unfold st
    by_cases q : j = n
    · rw [if_pos ⟨rfl, q⟩, if_pos q]
    · rw [if_neg (fun z => q z.2), if_neg q, m3, sx_oa (by omega), m2, sx_oa (by omega), m1, sx_oa (by omega)]
  · intro j
    rw [m6, sx_oa (by omega), m5, en']
    unfold st
    by_cases q : j = n
    · rw [if_pos ⟨rfl, q⟩, if_pos q]
    · rw [if_neg (fun z => q z.2), if_neg q, m4, sx_oa (by omega), m3, sx_oa (by omega), m2, sx_oa (by omega), m1, sx_oa (by omega)]
/-- rows of a joint: near parts of the own end, far parts of the other -/
def mrA (k x y parts w t : Int) : Rw := (4 * k, -10 * y, 10 * x, -parts, parts * t - 10 * x * w)
def mrB (k x y parts w t : Int) : Rw := (4 * k + 1, 10 * y, -10 * x, parts, 10 * x * w - parts * t)
def srA (k p q dx dy w : Int) : Rw := (4 * k + 2, p * dy - q * dx, -p * dx - q * dy, 0, -(-p * dx - q * dy) * w)
def srB (k p q dx dy w : Int) : Rw := (4 * k + 3, p * dy + q * dx, -p * dx + q * dy, 0, -(-p * dx + q * dy) * w)
theorem sp_X12_pointA {Q X : m_Po} {ε : m_E} {μ : m_M} {M k x y p w t : Int} {l : List Rw} (L : LM ε M) (H : RMm μ M l) (hl : l.length < 48) (bx : ab x 25600) (bY : ab y 25600) (bp : ab p 256) (bw : ab w 7200000) (bt : ab t 5000000000) (hh : ∀ μ', FKp M μ μ' → RMm μ' M (l ++ [mrA k x y p w t]) → Q 0 ε μ') : o_X12_point [(2, M), (0, 4 * k), (1, -1), (1, x), (1, y), (1, p), (1, w), (1, t)] ε μ Q X := by
  apply e_X12_point
  have e1 : w64 (-1 * 10) = -10 := by decide
  have e2 : w64 (w64 (-(-1)) * 10) = 10 := by decide
  have y10 : ab (-10 * y) 256000 := by unfold ab at *; omega
  have x10 : ab (10 * x) 256000 := by unfold ab at *; omega
  have np : ab (-1 * p) 256 := by unfold ab at *; omega
  have xw := abm x10 bw
  have pt := abm bp bt
  have d := ab_sub xw pt
  have d' : ab (-1 * (10 * x * w - p * t)) (256000 * 7200000 + 256 * 5000000000) := by unfold ab at d ⊢; omega
  rw [e1, e2, w64_ab y10 (by decide), w64_ab x10 (by decide), w64_ab np (by decide), w64_ab xw (by decide), w64_ab pt (by decide), w64_ab d (by decide), w64_ab d' (by decide)]
  have e3 : -1 * (10 * x * w - p * t) = p * t - 10 * x * w := by generalize 10 * x * w = A; generalize p * t = B'; omega
  have e4 : -1 * p = -p := by omega
  rw [e3, e4]
  refine fun _ _ _ _ _ _ _ _ => ⟨L.k, sp_X12_keeps L H hl (fun μ1 f1 H1 => ?_)⟩
  apply g_X12_point_43
  exact fun _ => hh μ1 f1 H1
theorem sp_X12_pointB {Q X : m_Po} {ε : m_E} {μ : m_M} {M k x y p w t : Int} {l : List Rw} (L : LM ε M) (H : RMm μ M l) (hl : l.length < 48) (bx : ab x 25600) (bY : ab y 25600) (bp : ab p 256) (bw : ab w 7200000) (bt : ab t 5000000000) (hh : ∀ μ', FKp M μ μ' → RMm μ' M (l ++ [mrB k x y p w t]) → Q 0 ε μ') : o_X12_point [(2, M), (0, 4 * k + 1), (1, 1), (1, x), (1, y), (1, p), (1, w), (1, t)] ε μ Q X := by
  apply e_X12_point
  have e1 : w64 (1 * 10) = 10 := by decide
  have e2 : w64 (w64 (-1) * 10) = -10 := by decide
  have y10 : ab (10 * y) 256000 := by unfold ab at *; omega
  have x10 : ab (-10 * x) 256000 := by unfold ab at *; omega
  have x11 : ab (10 * x) 256000 := by unfold ab at *; omega
  have np : ab (1 * p) 256 := by unfold ab at *; omega
  have xw := abm x11 bw
  have pt := abm bp bt
  have d := ab_sub xw pt
  have d' : ab (1 * (10 * x * w - p * t)) (256000 * 7200000 + 256 * 5000000000) := by unfold ab at d ⊢; omega
  rw [e1, e2, w64_ab y10 (by decide), w64_ab x10 (by decide), w64_ab x11 (by decide), w64_ab np (by decide), w64_ab xw (by decide), w64_ab pt (by decide), w64_ab d (by decide), w64_ab d' (by decide), Int.one_mul, Int.one_mul]
  refine fun _ _ _ _ _ _ _ _ => ⟨L.k, sp_X12_keeps L H hl (fun μ1 f1 H1 => ?_)⟩
  apply g_X12_point_43
  exact fun _ => hh μ1 f1 H1
theorem sp_X12_leans {Q X : m_Po} {ε : m_E} {μ : m_M} {M k p q x y w : Int} {l : List Rw} (L : LM ε M) (H : RMm μ M l) (hl : l.length < 47) (k0 : 0 ≤ k) (k1 : k ≤ 1000) (bp : ab p 20) (bq : ab q 20) (bx : ab x 200) (bY : ab y 200) (bw : ab w 7200000) (hh : ∀ μ', FKp M μ μ' → RMm μ' M (l ++ [srA k p q x y w, srB k p q x y w]) → Q 0 ε μ') : o_X12_leans [(2, M), (0, 4 * k + 2), (1, p), (1, q), (1, x), (1, y), (1, w)] ε μ Q X := by
  apply e_X12_leans
  have p1 := abm bp bY
  have p2 := abm bq bx
  have p3 := abm (abn bp) bx
  have p4 := abm bq bY
  have a1 := ab_sub p1 p2
  have a2 := ab_sub p3 p4
  have a3 := ab_ad p1 p2
  have a4 := ab_ad p3 p4
  have c1 := abm (abn a2) bw
  have c2 := abm (abn a4) bw
  refine fun _ _ _ _ _ _ _ v12 h12 v14 h14 v16 h16 v18 h18 => ⟨L.k, ?_⟩
  rw [w64_ab p1 (by decide), w64_ab p2 (by decide), w64_ab a1 (by decide)] at h12
  rw [w64_ab (abn bp) (by decide), w64_ab p3 (by decide), w64_ab p4 (by decide), w64_ab a2 (by decide)] at h14
  rw [w64_ab p1 (by decide), w64_ab p2 (by decide), w64_ab a3 (by decide)] at h16
  rw [w64_ab (abn bp) (by decide), w64_ab p3 (by decide), w64_ab p4 (by decide), w64_ab a4 (by decide)] at h18
  subst h12 h14 h16 h18
  rw [w64_ab (abn a2) (by decide), w64_ab c1 (by decide)]
  refine sp_X12_keeps L H (by omega) (fun μ1 f1 H1 => ?_)
  apply g_X12_leans_66
  rw [w32_id (show i32 (4 * k + 2 + 1) by unfold i32; omega), w64_ab (abn a4) (by decide), w64_ab c2 (by decide)]
  refine fun _ _ _ _ _ => ⟨L.k, sp_X12_keeps L H1 (by rw [List.length_append]; simp; omega) (fun μ2 f2 H2 => ?_)⟩
  apply g_X12_leans_84
  refine fun _ => hh μ2 (f1.trans f2) ?_
  have e : l ++ [srA k p q x y w, srB k p q x y w] = l ++ [srA k p q x y w] ++ [srB k p q x y w] := by simp
  rw [e]
  have e3 : 4 * k + 2 + 1 = 4 * k + 3 := by omega
  rw [e3] at H2
  exact H2
