set_option maxHeartbeats 1000000
/-! ===== the reference's tells ===== -/
def Wf (σ : m_M) (a lo i0 : Int) : Int → Int := cwt (fun p => σ 9 (σ 16 (10 * a + p))) (fun i => σ 22 (6 * a + i)) (fun i => σ 20 (6 * a + i)) (σ 19 a).toNat lo i0
def Tf (σ : m_M) (a lo i0 : Int) : Int → Int := cwt (fun p => σ 9 (σ 16 (10 * a + p)) * σ 10 (σ 16 (10 * a + p))) (fun i => σ 22 (6 * a + i) * σ 21 (6 * a + i)) (fun i => σ 20 (6 * a + i)) (σ 19 a).toNat lo i0
def allR (σ : m_M) (a nw k : Int) : Int := if nw = -1 then (if fl σ a k = 0 then 1 else 4) else 256
def inR (σ : m_M) (a nw k : Int) : Int := if nw = -1 then (if fl σ a k = 0 then 0 else 1) else if fl σ a k = 0 then 2 * nw else 64 + nw
def neR (σ : m_M) (a nw k : Int) : Int := allR σ a nw k - inR σ a nw k
def slR (σ : m_M) (a sl k : Int) : Int := if sl = 0 then 0 else if spr σ a k = 0 then 1 else 0
theorem nf_ok {σ : m_M} {a nw k : Int} (h : nw = -1 ∨ (0 ≤ nw ∧ nw ≤ 64)) : 0 ≤ neR σ a nw k ∧ 0 ≤ inR σ a nw k ∧ inR σ a nw k ≤ 128 ∧ 1 ≤ allR σ a nw k ∧ allR σ a nw k ≤ 256 := by
  unfold neR inR allR
  rcases h with h | h
  · subst h
    rw [if_pos rfl, if_pos rfl]
    split <;> omega
  · rw [if_neg (by omega), if_neg (by omega)]
    split <;> omega
theorem cvx {x y p q : Int} (p0 : 0 ≤ p) (q0 : 0 ≤ q) (hx : ab x 100) (hy : ab y 100) (hs : p + q ≤ 256) : ab (p * x + q * y) 25600 := by
  unfold ab at *
  have a1 : p * x ≤ p * 100 := Int.mul_le_mul_of_nonneg_left hx.2 p0
  have a2 : p * (-100) ≤ p * x := Int.mul_le_mul_of_nonneg_left hx.1 p0
  have a3 : q * y ≤ q * 100 := Int.mul_le_mul_of_nonneg_left hy.2 q0
  have a4 : q * (-100) ≤ q * y := Int.mul_le_mul_of_nonneg_left hy.1 q0
  generalize p * x = u at *
  generalize q * y = v at *
  omega
/-- what tells needs of an arch: its numbers are small -/
def AB (σ : m_M) (a : Int) : Prop := (∀ p, 0 ≤ p → p < σ 15 a → 0 ≤ σ 16 (10 * a + p) → ab (σ 9 (σ 16 (10 * a + p))) 660000 ∧ ab (σ 9 (σ 16 (10 * a + p)) * σ 10 (σ 16 (10 * a + p))) 440000000) ∧ (∀ i : Int, 0 ≤ i → i < σ 19 a → ab (σ 22 (6 * a + i)) 100000 ∧ ab (σ 21 (6 * a + i)) 1000) ∧ ab (σ 23 a) 20 ∧ ab (σ 24 a) 20
theorem wf_ab {σ : m_M} {a lo i0 k : Int} (A : MA σ a) (B : AB σ a) (i00 : 0 ≤ i0) (hk : k ≤ σ 15 a) (hp : ∀ p, i0 ≤ p → p < k → 0 ≤ σ 16 (10 * a + p)) : ab (Wf σ a lo i0 k) 7200000 ∧ ab (Tf σ a lo i0 k) 5000000000 := by
  obtain ⟨a0, a1, n1, n2, s, l0, l1⟩ := A
  obtain ⟨b1, b2, _, _⟩ := B
  constructor
  · exact cw_ab (A := 660000) (B := 100000) (by omega) (by omega) (by decide) (by decide) (fun p p0 p1 => (b1 p (by omega) (by omega) (hp p p0 p1)).1) (fun i j0 j1 => (b2 i j0 (by omega)).1)
  · exact cw_ab (A := 440000000) (B := 100000 * 1000) (by omega) (by omega) (by decide) (by decide) (fun p p0 p1 => (b1 p (by omega) (by omega) (hp p p0 p1)).2) (fun i j0 j1 => abm (b2 i j0 (by omega)).1 (b2 i j0 (by omega)).2)
theorem tl_358 {Q X : m_Po} {ε : m_E} {μ σ : m_M} {M a j sl lo nw k i0 : Int} (L : LM ε M) (S : SE μ M σ) (A : MA σ a) (B : AB σ a) (i00 : 0 ≤ i0) (ik : i0 ≤ k) (kj : k ≤ j → k < σ 15 a) (hkn : k ≤ σ 15 a) (hp : ∀ p, i0 ≤ p → p ≤ j → 0 ≤ σ 16 (10 * a + p)) (hkj : k ≤ j + 1)
    (K1 : k ≤ j → G cd_X12_tells Q X 499 [(0, (2, M)), (1, (0, a)), (3, (0, j)), (4, (0, sl)), (5, (0, lo)), (6, (0, nw)), (7, (1, Wf σ a lo i0 (k + 1))), (9, (1, Tf σ a lo i0 (k + 1))), (11, (0, k))] [] ε μ)
    (K2 : j < k → G cd_X12_tells Q X 499 [(0, (2, M)), (1, (0, a)), (3, (0, j)), (4, (0, sl)), (5, (0, lo)), (6, (0, nw)), (7, (1, Wf σ a lo i0 k)), (9, (1, Tf σ a lo i0 k)), (11, (0, k))] [] ε μ) :
    G cd_X12_tells Q X 358 [(0, (2, M)), (1, (0, a)), (3, (0, j)), (4, (0, sl)), (5, (0, lo)), (6, (0, nw)), (7, (1, Wf σ a lo i0 k)), (9, (1, Tf σ a lo i0 k)), (11, (0, k))] [] ε μ := by
  have A' := A
  have B' := B
  obtain ⟨a0, a1, n1, n2, s, l0, l1⟩ := A
  obtain ⟨b1, b2, _, _⟩ := B
  have bb := wf_ab (lo := lo) (k := k) A' B' i00 hkn (fun p p0 p1 => hp p p0 (by omega))
  apply g_X12_tells_358
  refine fun _ _ _ _ _ _ _ _ _ => ⟨fun q => ?_, K2⟩
  have kn := kj q
  have s0 := hp k ik q
  have s1 := s k (by omega) kn
  have be := b1 k (by omega) kn s0
  rw [L.f18.1, L.f10.1, L.f11.1, w32_id (show i32 (10 * a) by unfold i32; omega), w32_id (show i32 (10 * a + k) by unfold i32; omega), w32_id (show i32 (6 * a) by unfold i32; omega), S 16 _ (by decide) (by decide)]
  refine ⟨L.k, L.f18.2.1, by omega, by rw [L.f18.2.2]; omega, fun v26 h26 => ?_⟩
  subst h26
  rw [S 9 _ (by decide) (by decide), S 10 _ (by decide) (by decide)]
  refine ⟨L.f10.2.1, s0, by rw [L.f10.2.2]; exact s1, fun v7 h7 => ⟨L.k, L.f10.2.1, s0, by rw [L.f10.2.2]; exact s1, L.f11.2.1, by rw [L.f11.2.2]; exact s1, fun v9 h9 v27 h27 => ?_⟩⟩
  have c1 := ab_ad bb.1 be.1
  have c2 := ab_ad bb.2 be.2
  rw [w64_ab c1 (by decide)] at h7
  rw [w64_ab be.2 (by decide), w64_ab c2 (by decide)] at h9
  have e1 : Wf σ a lo i0 (k + 1) = v7 + at_ (fun i => σ 22 (6 * a + i)) (fun i => σ 20 (6 * a + i)) (σ 19 a).toNat lo k := by
    rw [h7]; exact cw_succ ik
  have e2 : Tf σ a lo i0 (k + 1) = v9 + at_ (fun i => σ 22 (6 * a + i) * σ 21 (6 * a + i)) (fun i => σ 20 (6 * a + i)) (σ 19 a).toNat lo k := by
    rw [h9]; exact cw_succ ik
  have K := K1 q
  rw [e1, e2] at K
  by_cases z : lo = 0
  · subst z
    have e3 : ∀ g pl n, at_ g pl n 0 k = 0 := fun g pl n => if_pos rfl
    rw [e3, e3, Int.add_zero, Int.add_zero] at K
    apply g_X12_tells_422
    rw [L.f21.1]
    exact fun _ _ _ _ _ _ _ _ _ _ => ⟨L.k, L.f21.2.1, a0, by rw [L.f21.2.2]; exact a1, fun _ => K, fun _ => ⟨fun _ => K, fun q => absurd rfl q⟩⟩
  · have T := tl_422 (Q := Q) (X := X) (ε := ε) (j := j) (sl := sl) (nw := nw) (k := k) (A := v7) (B := v9) L S a0 a1 (show σ 19 a = (((σ 19 a).toNat : Nat) : Int) by omega) (by omega) z (by rw [h7]; exact ab_l c1 (by decide)) (by rw [h9]; exact ab_l c2 (by decide)) (fun i j0 j1 => b2 i j0 (by omega)) (by
      have e3 : at_ (fun i => σ 22 (6 * a + i)) (fun i => σ 20 (6 * a + i)) (σ 19 a).toNat lo k = sm (lwf σ a k) (σ 19 a).toNat := if_neg z
      have e4 : at_ (fun i => σ 22 (6 * a + i) * σ 21 (6 * a + i)) (fun i => σ 20 (6 * a + i)) (σ 19 a).toNat lo k = sm (ltf σ a k) (σ 19 a).toNat := if_neg z
      rw [e3, e4] at K
      exact K) (σ 19 a).toNat 0 (by omega)
    have e5 : v7 + sm (lwf σ a k) 0 = v7 := Int.add_zero _
    have e6 : v9 + sm (ltf σ a k) 0 = v9 := Int.add_zero _
    have e7 : 6 * a + ((0 : Nat) : Int) = v27 := by rw [h27]; omega
    rw [e5, e6, e7] at T
    exact T
theorem tl_310 {Q X : m_Po} {ε : m_E} {μ σ : m_M} {M a j sl lo nw k w t ax ay bx by_ : Int} {l : List Rw} (L : LM ε M) (S : SE μ M σ) (A : MA σ a) (B : AB σ a) (k0 : 0 ≤ k) (k1 : k ≤ 10) (H : RMm μ M l) (hl : l.length < 47) (bw : ab w 7200000) (b1 : ab ax 100) (b2 : ab ay 100) (b3 : ab bx 100) (b4 : ab by_ 100)
    (K : ∀ μ', FKp M μ μ' → RMm μ' M (l ++ (if slR σ a sl k = 0 then [] else [srA k (σ 23 a) (σ 24 a) (bx - ax) (by_ - ay) w, srB k (σ 23 a) (σ 24 a) (bx - ax) (by_ - ay) w])) → G cd_X12_tells Q X 358 [(0, (2, M)), (1, (0, a)), (3, (0, j)), (4, (0, sl)), (5, (0, lo)), (6, (0, nw)), (7, (1, w)), (9, (1, t)), (11, (0, k))] [] ε μ') :
    G cd_X12_tells Q X 310 [(0, (2, M)), (1, (0, a)), (3, (0, j)), (4, (0, sl)), (5, (0, lo)), (6, (0, nw)), (7, (1, w)), (9, (1, t)), (11, (0, k)), (12, (1, ax)), (14, (1, ay)), (16, (1, bx)), (18, (1, by_))] [(0, spr σ a k)] ε μ := by
  obtain ⟨a0, a1, _⟩ := A
  obtain ⟨_, _, c1, c2⟩ := B
  have K0 : slR σ a sl k = 0 → G cd_X12_tells Q X 358 [(0, (2, M)), (1, (0, a)), (3, (0, j)), (4, (0, sl)), (5, (0, lo)), (6, (0, nw)), (7, (1, w)), (9, (1, t)), (11, (0, k))] [] ε μ := fun z => K μ FKp.rf (by rw [if_pos z, List.append_nil]; exact H)
  apply g_X12_tells_310
  refine fun _ _ _ _ _ _ _ _ _ _ _ _ _ _ v25 h25 => ⟨fun q => K0 (if_pos q), fun q => ⟨fun r => K0 ?_, fun r => ?_⟩⟩
  · unfold slR
    rw [if_neg q, if_neg (by rw [← h25]; exact r)]
  · rw [L.f25.1, L.f26.1, S 23 _ (by decide) (by decide), S 24 _ (by decide) (by decide), w32_id (show i32 (4 * k) by unfold i32; omega), w32_id (show i32 (4 * k + 2) by unfold i32; omega)]
    have d1 := ab_sub b3 b1
    have d2 := ab_sub b4 b2
    rw [w64_ab d1 (by decide), w64_ab d2 (by decide)]
    refine ⟨L.k, L.f25.2.1, a0, by rw [L.f25.2.2]; exact a1, L.f26.2.1, by rw [L.f26.2.2]; exact a1, sp_X12_leans L H hl k0 (by omega) c1 c2 d1 d2 bw (fun μ1 f1 H1 => K μ1 f1 ?_)⟩
    have z : slR σ a sl k = 1 := by
      unfold slR
      rw [if_neg q, if_pos (by rw [← h25]; exact r)]
    rw [if_neg (by rw [z]; decide)]
    exact H1
theorem tl_266 {Q X : m_Po} {ε : m_E} {μ σ : m_M} {M a j sl lo nw k w t ax ay bx by_ : Int} (L : LM ε M) (S : SE μ M σ) (A : MA σ a) (k0 : 0 ≤ k) (k1 : k ≤ 10)
    (K : G cd_X12_tells Q X 310 [(0, (2, M)), (1, (0, a)), (3, (0, j)), (4, (0, sl)), (5, (0, lo)), (6, (0, nw)), (7, (1, w)), (9, (1, t)), (11, (0, k)), (12, (1, ax)), (14, (1, ay)), (16, (1, bx)), (18, (1, by_))] [(0, spr σ a k)] ε μ) :
    G cd_X12_tells Q X 266 [(0, (2, M)), (1, (0, a)), (3, (0, j)), (4, (0, sl)), (5, (0, lo)), (6, (0, nw)), (7, (1, w)), (9, (1, t)), (11, (0, k)), (12, (1, ax)), (14, (1, ay)), (16, (1, bx)), (18, (1, by_))] [] ε μ := by
  have A' := A
  obtain ⟨a0, a1, _⟩ := A
  have Y : spr σ a k = 1 → G cd_X12_tells Q X 305 [(0, (2, M)), (1, (0, a)), (3, (0, j)), (4, (0, sl)), (5, (0, lo)), (6, (0, nw)), (7, (1, w)), (9, (1, t)), (11, (0, k)), (12, (1, ax)), (14, (1, ay)), (16, (1, bx)), (18, (1, by_))] [] ε μ := fun z => by
    apply g_X12_tells_305
    rw [z] at K
    exact fun _ _ _ _ _ _ _ _ _ _ _ _ _ => K
  have N : spr σ a k = 0 → G cd_X12_tells Q X 309 [(0, (2, M)), (1, (0, a)), (3, (0, j)), (4, (0, sl)), (5, (0, lo)), (6, (0, nw)), (7, (1, w)), (9, (1, t)), (11, (0, k)), (12, (1, ax)), (14, (1, ay)), (16, (1, bx)), (18, (1, by_))] [] ε μ := fun z => by
    apply g_X12_tells_309
    rw [z] at K
    exact fun _ _ _ _ _ _ _ _ _ _ _ _ _ => K
  have Z : ¬ (k = 0 ∧ kA σ a 0 = 2) → G cd_X12_tells Q X 281 [(0, (2, M)), (1, (0, a)), (3, (0, j)), (4, (0, sl)), (5, (0, lo)), (6, (0, nw)), (7, (1, w)), (9, (1, t)), (11, (0, k)), (12, (1, ax)), (14, (1, ay)), (16, (1, bx)), (18, (1, by_))] [] ε μ := fun z => by
    apply g_X12_tells_281
    rw [L.f17.1, S 15 _ (by decide) (by decide), w32_id (show i32 (k - 1) by unfold i32; omega)]
    refine fun _ _ _ _ _ _ _ _ _ _ _ _ _ => ⟨L.k, L.f17.2.1, a0, by rw [L.f17.2.2]; exact a1, fun q => N ?_, fun q => sp_X12_kindAt L S.d A' (by omega) ?_⟩
    · unfold spr
      exact if_neg (fun y => y.elim z (fun y => q y.1))
    · apply g_X12_tells_301
      refine fun _ _ _ _ _ _ _ _ _ _ _ _ _ _ => ⟨fun r => N ?_, fun r => Y ?_⟩
      · unfold spr
        exact if_neg (fun y => y.elim z (fun y => r y.2))
      · unfold spr
        exact if_pos (Or.inr ⟨q, r⟩)
  apply g_X12_tells_266
  refine fun _ _ _ _ _ _ _ _ _ _ _ _ _ => ⟨fun q => Z (fun y => q y.1), fun q => ⟨L.k, sp_X12_kindAt L S.d A' (by omega) ?_⟩⟩
  apply g_X12_tells_277
  refine fun _ _ _ _ _ _ _ _ _ _ _ _ _ _ => ⟨fun r => Y ?_, fun r => Z (fun y => r y.2)⟩
  unfold spr
  exact if_pos (Or.inl ⟨q, r⟩)
