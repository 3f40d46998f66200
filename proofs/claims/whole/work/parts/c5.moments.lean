set_option maxHeartbeats 1000000
/-! ===== the class's Bounds: a joint's rows, what is passed ===== -/
theorem sp_X1_addMomentsAt {Q X : m_Po} {ε : m_E} {μ : m_M} {B P n k ne fa w t ax ay bx by_ : Int} {l : List Rw} (L : LB ε B) (LP : LA ε P n) (hB : B + 5 < P) (H : RLc μ B l) (hl : l.length < 47) (k0 : 0 ≤ k) (k1 : k ≤ n) (o1 : 0 ≤ ne) (o2 : 0 ≤ fa) (o3 : ne + fa ≤ 256)
    (e0 : μ (P + 8) (4 * k) = ax) (e1 : μ (P + 8) (4 * k + 1) = ay) (e2 : μ (P + 8) (4 * k + 2) = bx) (e3 : μ (P + 8) (4 * k + 3) = by_) (b1 : ab ax 100) (b2 : ab ay 100) (b3 : ab bx 100) (b4 : ab by_ 100) (h6 : μ B 6 = w) (h7 : μ B 7 = t) (bw : ab w 7200000) (bt : ab t 5000000000)
    (hh : ∀ μ', FBo B μ μ' → RLc μ' B (l ++ [mrA k (ne * ax + fa * bx) (ne * ay + fa * by_) (ne + fa) w t, mrB k (fa * ax + ne * bx) (fa * ay + ne * by_) (ne + fa) w t]) → μ' B 6 = w → μ' B 7 = t → Q 0 ε μ') : o_X1_addMomentsAt [(2, B), (2, P), (0, k), (1, ne), (1, fa)] ε μ Q X := by
  have n10 := LP.2.2
  have cn : ab ne 256 := by unfold ab; omega
  have cf : ab fa 256 := by unfold ab; omega
  have cp : ab (ne + fa) 256 := by unfold ab; omega
  have q1 := abm cn b1
  have q2 := abm cf b3
  have q3 := abm cn b2
  have q4 := abm cf b4
  have q5 := abm cf b1
  have q6 := abm cn b3
  have q7 := abm cf b2
  have q8 := abm cn b4
  have x1 := cvx o1 o2 b1 b3 o3
  have y1 := cvx o1 o2 b2 b4 o3
  have x2 := cvx o2 o1 b1 b3 (by omega)
  have y2 := cvx o2 o1 b2 b4 (by omega)
  have w4 : w32 (4 * k) = 4 * k := w32_id (by unfold i32; omega)
  have w5 : w32 (4 * k + 1) = 4 * k + 1 := w32_id (by unfold i32; omega)
  apply e_X1_addMomentsAt
  rw [w64_ab cp (by decide)]
  refine fun _ _ _ _ v7 hv7 => ⟨LP.k, sp_X0_span LP k0 k1 (by decide) (by decide) ?_⟩
  subst hv7
  rw [Int.add_zero, e0]
  apply g_X1_addMomentsAt_13
  rw [w64_ab q1 (by decide)]
  refine fun _ _ _ _ _ _ _ => ⟨LP.k, sp_X0_span LP k0 k1 (by decide) (by decide) ?_⟩
  rw [e2]
  apply g_X1_addMomentsAt_23
  rw [w64_ab q2 (by decide), w64_ab x1 (by decide)]
  refine fun _ _ _ _ _ _ _ _ v9 hv9 => ⟨LP.k, sp_X0_span LP k0 k1 (by decide) (by decide) ?_⟩
  rw [e1]
  apply g_X1_addMomentsAt_35
  rw [w64_ab q3 (by decide)]
  refine fun _ _ _ _ _ _ _ _ => ⟨LP.k, sp_X0_span LP k0 k1 (by decide) (by decide) ?_⟩
  rw [e3]
  apply g_X1_addMomentsAt_45
  rw [w64_ab q4 (by decide), w64_ab y1 (by decide)]
  refine fun _ _ _ _ _ _ _ _ _ v11 hv11 => ⟨L.k, ?_⟩
  rw [← hv9] at x1
  rw [← hv11] at y1
  have y10 : ab (-10 * v11) 256000 := by unfold ab at *; omega
  have x10 : ab (10 * v9) 256000 := by unfold ab at *; omega
  have cm := abm cp bt
  have cx := abm x10 bw
  rw [h6, h7, w4, w64_ab y10 (by decide), w64_ab x10 (by decide), w64_ab (abn cp) (by decide), w64_ab cm (by decide), w64_ab cx (by decide), w64_ab (ab_sub cm cx) (by decide)]
  refine sp_X1_add L H (by omega) (fun μ1 f1 H1 g6 g7 => ?_)
  have E : ∀ j, μ1 (P + 8) j = μ (P + 8) j := fun j => f1 _ _ (Or.inr (by omega))
  apply g_X1_addMomentsAt_91
  refine fun _ _ _ _ _ => ⟨LP.k, sp_X0_span LP k0 k1 (by decide) (by decide) ?_⟩
  rw [Int.add_zero, E, e0]
  apply g_X1_addMomentsAt_99
  rw [w64_ab q5 (by decide)]
  refine fun _ _ _ _ _ _ _ => ⟨LP.k, sp_X0_span LP k0 k1 (by decide) (by decide) ?_⟩
  rw [E, e2]
  apply g_X1_addMomentsAt_108
  rw [w64_ab q6 (by decide), w64_ab x2 (by decide)]
  refine fun _ _ _ _ _ _ _ _ u9 hu9 => ⟨LP.k, sp_X0_span LP k0 k1 (by decide) (by decide) ?_⟩
  rw [E, e1]
  apply g_X1_addMomentsAt_121
  rw [w64_ab q7 (by decide)]
  refine fun _ _ _ _ _ _ _ => ⟨LP.k, sp_X0_span LP k0 k1 (by decide) (by decide) ?_⟩
  rw [E, e3]
  apply g_X1_addMomentsAt_130
  rw [w64_ab q8 (by decide), w64_ab y2 (by decide)]
  refine fun _ _ _ _ _ _ _ u11 hu11 => ⟨L.k, ?_⟩
  rw [← hu9] at x2
  rw [← hu11] at y2
  have y20 : ab (10 * u11) 256000 := by unfold ab at *; omega
  have x20 : ab (10 * u9) 256000 := by unfold ab at *; omega
  have x21 : ab (-10 * u9) 256000 := by unfold ab at *; omega
  have cx2 := abm x20 bw
  rw [g6, g7, h6, h7, w4, w5, w64_ab y20 (by decide), w64_ab x20 (by decide), w64_ab x21 (by decide), w64_ab cm (by decide), w64_ab cx2 (by decide), w64_ab (ab_sub cx2 cm) (by decide)]
  refine sp_X1_add L H1 (by rw [List.length_append]; simp; omega) (fun μ2 f2 H2 k6 k7 => ?_)
  apply g_X1_addMomentsAt_177
  refine fun _ => hh μ2 (f1.trans f2) ?_ (k6.trans (g6.trans h6)) (k7.trans (g7.trans h7))
  rw [List.append_assoc, hv9, hv11, hu9, hu11] at H2
  exact H2
theorem sp_X1_addMoments {Q X : m_Po} {ε : m_E} {μ σ : m_M} {B P a k w t ax ay bx by_ : Int} {l : List Rw} (L : LB ε B) (A : AQ ε μ σ a P) (hB : B + 5 < P) (H : RLc μ B l) (hl : l.length < 47) (k0 : 0 ≤ k) (k1 : k ≤ σ 15 a)
    (e0 : μ (P + 8) (4 * k) = ax) (e1 : μ (P + 8) (4 * k + 1) = ay) (e2 : μ (P + 8) (4 * k + 2) = bx) (e3 : μ (P + 8) (4 * k + 3) = by_) (b1 : ab ax 100) (b2 : ab ay 100) (b3 : ab bx 100) (b4 : ab by_ 100) (h6 : μ B 6 = w) (h7 : μ B 7 = t) (bw : ab w 7200000) (bt : ab t 5000000000)
    (hh : ∀ μ', FBo B μ μ' → RLc μ' B (l ++ [mrA k (neR σ a (-1) k * ax + inR σ a (-1) k * bx) (neR σ a (-1) k * ay + inR σ a (-1) k * by_) (neR σ a (-1) k + inR σ a (-1) k) w t, mrB k (inR σ a (-1) k * ax + neR σ a (-1) k * bx) (inR σ a (-1) k * ay + neR σ a (-1) k * by_) (neR σ a (-1) k + inR σ a (-1) k) w t]) → μ' B 6 = w → μ' B 7 = t → Q 0 ε μ') : o_X1_addMoments [(2, B), (2, P), (0, k)] ε μ Q X := by
  have LP := A.1
  have n10 := LP.2.2
  apply e_X1_addMoments
  refine fun _ _ => ⟨LP.k, sp_X0_isAtFilled A k0 (by omega) ?_⟩
  have ein : inR σ a (-1) k = if fl σ a k = 0 then 0 else 1 := if_pos rfl
  have eal : allR σ a (-1) k = if fl σ a k = 0 then 1 else 4 := if_pos rfl
  have ene : neR σ a (-1) k = allR σ a (-1) k - inR σ a (-1) k := rfl
  apply g_X1_addMoments_5
  refine fun _ _ _ => ⟨fun z => ⟨L.k, ?_⟩, fun z => ⟨L.k, ?_⟩⟩
  · rw [if_pos z] at ein eal
    have e1' : neR σ a (-1) k = 1 := by omega
    rw [ein, e1'] at hh
    refine sp_X1_addMomentsAt L LP hB H hl k0 k1 (by decide) (by decide) (by decide) e0 e1 e2 e3 b1 b2 b3 b4 h6 h7 bw bt (fun μ1 f1 H1 g6 g7 => ?_)
    apply g_X1_addMoments_29
    exact fun _ => hh μ1 f1 H1 g6 g7
  · rw [if_neg z] at ein eal
    have e1' : neR σ a (-1) k = 3 := by omega
    rw [ein, e1'] at hh
    refine sp_X1_addMomentsAt L LP hB H hl k0 k1 (by decide) (by decide) (by decide) e0 e1 e2 e3 b1 b2 b3 b4 h6 h7 bw bt (fun μ1 f1 H1 g6 g7 => ?_)
    apply g_X1_addMoments_18
    intro _
    apply g_X1_addMoments_29
    exact fun _ => hh μ1 f1 H1 g6 g7
theorem sp_X1_addSlopes {Q X : m_Po} {ε : m_E} {μ σ : m_M} {B P a k w ax ay bx by_ : Int} {l : List Rw} (L : LB ε B) (A : AQ ε μ σ a P) (hB : B + 5 < P) (H : RLc μ B l) (hl : l.length < 47) (k0 : 0 ≤ k) (k1 : k ≤ σ 15 a) (bp : ab (σ 23 a) 20) (bq : ab (σ 24 a) 20)
    (e0 : μ (P + 8) (4 * k) = ax) (e1 : μ (P + 8) (4 * k + 1) = ay) (e2 : μ (P + 8) (4 * k + 2) = bx) (e3 : μ (P + 8) (4 * k + 3) = by_) (b1 : ab ax 100) (b2 : ab ay 100) (b3 : ab bx 100) (b4 : ab by_ 100) (h6 : μ B 6 = w) (bw : ab w 7200000)
    (hh : ∀ μ', FBo B μ μ' → RLc μ' B (l ++ (if slR σ a 1 k = 0 then [] else [srA k (σ 23 a) (σ 24 a) (bx - ax) (by_ - ay) w, srB k (σ 23 a) (σ 24 a) (bx - ax) (by_ - ay) w])) → μ' B 6 = w → μ' B 7 = μ B 7 → Q 0 ε μ') : o_X1_addSlopes [(2, B), (2, P), (0, k)] ε μ Q X := by
  have LP := A.1
  have n10 := LP.2.2
  have A14 := A.2.2.2.2.1
  have A15 := A.2.2.2.2.2.1
  have w4 : w32 (4 * k) = 4 * k := w32_id (by unfold i32; omega)
  apply e_X1_addSlopes
  refine fun _ _ => ⟨LP.k, sp_X0_isSpringing A k0 (by omega) ?_⟩
  have esl : slR σ a 1 k = if spr σ a k = 0 then 1 else 0 := if_neg (by decide)
  apply g_X1_addSlopes_5
  refine fun _ _ _ => ⟨fun z => ⟨LP.k, sp_X0_span LP k0 k1 (by decide) (by decide) ?_⟩, fun z => ?_⟩
  · rw [if_pos z] at esl
    rw [e2]
    apply g_X1_addSlopes_15
    refine fun _ _ _ => ⟨LP.k, sp_X0_span LP k0 k1 (by decide) (by decide) ?_⟩
    rw [Int.add_zero, e0]
    apply g_X1_addSlopes_21
    have d1 := ab_sub b3 b1
    have d2 := ab_sub b4 b2
    have wd1 : w32 (bx - ax) = bx - ax := w32_id (by unfold ab at d1; unfold i32; omega)
    have wd2 : w32 (by_ - ay) = by_ - ay := w32_id (by unfold ab at d2; unfold i32; omega)
    rw [wd1]
    refine fun _ _ _ _ v3 h3 => ⟨LP.k, sp_X0_span LP k0 k1 (by decide) (by decide) ?_⟩
    rw [e3]
    apply g_X1_addSlopes_30
    refine fun _ _ _ _ => ⟨LP.k, sp_X0_span LP k0 k1 (by decide) (by decide) ?_⟩
    rw [e1]
    apply g_X1_addSlopes_36
    rw [wd2, A14, A15]
    refine fun _ _ _ _ _ v5 h5 => ⟨LP.k, fun v7 h7 => ⟨LP.k, fun v9 h9 v11 h11 => ⟨L.k, ?_⟩⟩⟩
    subst h3 h5 h7 h9
    generalize σ 23 a = p at *
    generalize σ 24 a = q at *
    generalize bx - ax = x at *
    generalize by_ - ay = y at *
    have p1 := abm bp d2
    have p2 := abm bq d1
    have p3 := abm (abn bp) d1
    have p4 := abm bq d2
    have a1 := ab_sub p1 p2
    have a2 := ab_sub p3 p4
    have a3 := ab_ad p1 p2
    have a4 := ab_ad p3 p4
    have c1 := abm (abn a2) bw
    have c2 := abm (abn a4) bw
    rw [w64_ab (abn bp) (by decide), w64_ab p3 (by decide), w64_ab p4 (by decide), w64_ab a2 (by decide)] at h11
    subst h11
    rw [h6, w4, w32_id (show i32 (4 * k + 2) by unfold i32; omega), w64_ab p1 (by decide), w64_ab p2 (by decide), w64_ab a1 (by decide), w64_ab (abn a2) (by decide), w64_ab c1 (by decide)]
    refine sp_X1_add L H (by omega) (fun μ1 f1 H1 g6 g7 => ?_)
    apply g_X1_addSlopes_97
    rw [g6, h6]
    refine fun _ _ _ _ _ _ u11 hu11 => ⟨L.k, ?_⟩
    rw [w64_ab (abn bp) (by decide), w64_ab p3 (by decide), w64_ab p4 (by decide), w64_ab a4 (by decide)] at hu11
    subst hu11
    rw [w4, w32_id (show i32 (4 * k + 3) by unfold i32; omega), w64_ab p1 (by decide), w64_ab p2 (by decide), w64_ab a3 (by decide), w64_ab (abn a4) (by decide), w64_ab c2 (by decide)]
    refine sp_X1_add L H1 (by rw [List.length_append]; simp; omega) (fun μ2 f2 H2 k6 k7 => ?_)
    apply g_X1_addSlopes_140
    refine fun _ => hh μ2 (f1.trans f2) ?_ (k6.trans (g6.trans h6)) (k7.trans g7)
    rw [if_neg (by rw [esl]; decide)]
    rw [List.append_assoc] at H2
    exact H2
  · rw [if_neg z] at esl
    refine hh μ FBo.rf ?_ h6 rfl
    rw [if_pos esl, List.append_nil]
    exact H
theorem sp_X1_passStone {Q X : m_Po} {ε : m_E} {μ σ : m_M} {B P a k w t : Int} {l : List Rw} (L : LB ε B) (A : AQ ε μ σ a P) (H : RLc μ B l) (h6 : μ B 6 = w) (h7 : μ B 7 = t) (bw : ab w 10000000) (bt : ab t 10000000000)
    (hh : ∀ μ', FBo B μ μ' → RLc μ' B l → (0 ≤ k → k < σ 15 a → 0 ≤ σ 16 (10 * a + k) → μ' B 6 = w + σ 9 (σ 16 (10 * a + k)) ∧ μ' B 7 = t + σ 9 (σ 16 (10 * a + k)) * σ 10 (σ 16 (10 * a + k))) → ab (μ' B 6) 11000000 → ab (μ' B 7) 11000000000 → Q 0 ε μ') : o_X1_passStone [(2, B), (2, P), (0, k)] ε μ Q X := by
  have LP := A.1
  apply e_X1_passStone
  refine fun _ _ => ⟨LP.k, sp_X0_blockAt A (fun q => ?_) (fun a1 a2 a3 a4 a5 => ?_)⟩
  · apply g_X1_passStone_5
    intro _ v3 h3
    refine ⟨fun _ => ?_, fun z => absurd z (by omega)⟩
    apply g_X1_passStone_24
    refine fun _ => hh μ FBo.rf H (fun z1 z2 z3 => ?_) (by rw [h6]; exact ab_l bw (by decide)) (by rw [h7]; exact ab_l bt (by decide))
    unfold nb at q
    omega
  · apply g_X1_passStone_5
    intro _ v3 h3
    have s1 := a5.2.2.2.1
    have s2 := a5.2.2.2.2.1
    obtain ⟨_, _, _, _, _, _, _, _, _, _, _, s3, s4, s5⟩ := a5
    refine ⟨fun z => absurd z (by omega), fun _ => ⟨by rw [h3]; assumption, L.k, ?_⟩⟩
    rw [h3, s1, s2]
    generalize eg : σ 9 (σ 16 (10 * a + k)) = g at *
    generalize σ 10 (σ 16 (10 * a + k)) = s at *
    have i1 : i64 (μ B 6 + g) := by rw [h6]; unfold ab at bw; unfold i64; omega
    have i2 : i64 (g * s) := by unfold ab at s5; unfold i64; generalize g * s = z at *; omega
    have i3 : i64 (μ B 7 + g * s) := by rw [h7]; unfold ab at s5 bt; unfold i64; generalize g * s = z at *; omega
    refine sp_X1_pass L H i1 i2 i3 (fun μ1 f1 H1 g6 g7 => ?_)
    apply g_X1_passStone_24
    refine fun _ => hh μ1 f1 H1 (fun _ _ _ => ⟨by rw [g6, h6], by rw [g7, h7]⟩) ?_ ?_
    · rw [g6, h6]; unfold ab at bw ⊢; omega
    · rw [g7, h7]; unfold ab at bt s5 ⊢; generalize g * s = z at *; omega
