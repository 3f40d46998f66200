set_option maxHeartbeats 1000000
/-! ===== the rows of an arch that is whole, in both programs; isJudged, requireHow ===== -/
theorem ho_hp {σ : m_M} {a : Int} (n1 : 1 ≤ σ 15 a) (h : ho σ a = -1) : ∀ p, 0 ≤ p → p < σ 15 a → 0 ≤ σ 16 (10 * a + p) := fun p p0 p1 => by
  have b := (ho_neg n1 h).1 p p0 p1
  unfold bad at b
  rcases nbI_or σ a p with q | q
  · rw [if_pos q] at b; omega
  · exact q.2.2.2
theorem gi_of {σ : m_M} {a i0 lo P : Int} {ne fa sl : Int → Int} {t : Nat} (A : MA σ a) (B : AB σ a) (G' : MG σ a) (h : ho σ a = -1) (p0 : 0 ≤ σ 23 a) (p1 : σ 23 a ≤ 20) (q0 : 1 ≤ σ 24 a) (q1 : σ 24 a ≤ 20) (hn : ∀ k, 0 ≤ ne k ∧ 0 ≤ fa k ∧ 1 ≤ ne k + fa k ∧ ne k + fa k ≤ P) (P4 : 4 ≤ P) (P5 : P ≤ 256) (i00 : 0 ≤ i0) (it : i0 + t ≤ σ 15 a + 1) : GI ne fa (JJ σ a) sl (Wf σ a lo i0) (Tf σ a lo i0) (σ 23 a) (σ 24 a) i0 t P := by
  have n1 := A.2.2.1
  have hp := ho_hp n1 h
  obtain ⟨j1, j2⟩ := JJ_ok G' n1 h
  refine ⟨fun d hd => ?_, fun i i0' i1 => j1 i (by omega) (by omega), p0, p1, q0, q1, fun d hd => j2 _ (by omega) (by omega), P4, P5⟩
  obtain ⟨k1, k2, k3, k4⟩ := hn (i0 + d)
  obtain ⟨w1, w2⟩ := wf_ab (lo := lo) (k := i0 + d) A B i00 (by omega) (fun p p0 p1 => hp p (by omega) (by omega))
  exact ⟨k1, k2, k3, k4, w1, w2⟩
theorem nR_ok {σ : m_M} {a nw P : Int} (h : (nw = -1 ∧ 4 ≤ P) ∨ (0 ≤ nw ∧ nw ≤ 64 ∧ 256 ≤ P)) : ∀ k, 0 ≤ neR σ a nw k ∧ 0 ≤ inR σ a nw k ∧ 1 ≤ neR σ a nw k + inR σ a nw k ∧ neR σ a nw k + inR σ a nw k ≤ P := fun k => by
  unfold neR allR inR
  rcases h with h | h
  · rw [if_pos h.1, if_pos h.1]
    split <;> omega
  · rw [if_neg (by omega), if_neg (by omega)]
    split <;> omega
/-- the rows, by what the arch is -/
def lst (σ : m_M) (a i0 sl lo nw : Int) : Nat → List Rw := gs (neR σ a nw) (inR σ a nw) (JJ σ a) (slR σ a sl) (Wf σ a lo i0) (Tf σ a lo i0) (σ 23 a) (σ 24 a) i0
theorem tel_eq {σ σ' : m_M} {a i0 j sl lo nw : Int} {T : Nat} (g : ∀ o j, 1 ≤ o → o ≤ 24 → σ' o j = σ o j) (i00 : 0 ≤ i0) (it : i0 + T ≤ σ 15 a + 1) (K : jk σ a (σ' 25) (σ 15 a + 1)) : tel σ' a i0 j sl lo nw T = lst σ a i0 sl lo nw T := by
  unfold tel lst
  rw [g 23 _ (by decide) (by decide), g 24 _ (by decide) (by decide)]
  have ek : ∀ p, kA σ' a p = kA σ a p := fun p => by
    unfold kA
    rw [g 15 _ (by decide) (by decide), g 16 _ (by decide) (by decide), g 4 _ (by decide) (by decide)]
  have ef : ∀ k, fl σ' a k = fl σ a k := fun k => by unfold fl; rw [ek, ek]
  have es : ∀ k, spr σ' a k = spr σ a k := fun k => by unfold spr; rw [ek, ek, g 15 _ (by decide) (by decide)]
  refine gs_congr T (fun d hd => ⟨?_, ?_, ?_, ?_, ?_⟩) (fun i j0 j1 => ?_)
  · unfold neR allR inR; rw [ef]
  · unfold inR; rw [ef]
  · unfold slR; rw [es]
  · unfold Wf
    simp only [g 9 _ (by decide) (by decide), g 16 _ (by decide) (by decide), g 22 _ (by decide) (by decide), g 20 _ (by decide) (by decide), g 19 _ (by decide) (by decide)]
  · unfold Tf
    simp only [g 9 _ (by decide) (by decide), g 10 _ (by decide) (by decide), g 16 _ (by decide) (by decide), g 22 _ (by decide) (by decide), g 21 _ (by decide) (by decide), g 20 _ (by decide) (by decide), g 19 _ (by decide) (by decide)]
  · obtain ⟨x, x1, x2⟩ := K (i / 4) (by omega) (by omega)
    exact JJ_eq (by omega) x1 x2
theorem MA.ag {σ σ' : m_M} {a : Int} (A : MA σ a) (g : ∀ o j, 1 ≤ o → o ≤ 24 → σ' o j = σ o j) : MA σ' a := by
  unfold MA at *
  simp only [g 15 _ (by decide) (by decide), g 16 _ (by decide) (by decide), g 19 _ (by decide) (by decide)]
  exact A
theorem AB.ag {σ σ' : m_M} {a : Int} (A : AB σ a) (g : ∀ o j, 1 ≤ o → o ≤ 24 → σ' o j = σ o j) : AB σ' a := by
  unfold AB at *
  simp only [g 9 _ (by decide) (by decide), g 10 _ (by decide) (by decide), g 15 _ (by decide) (by decide), g 16 _ (by decide) (by decide), g 19 _ (by decide) (by decide), g 21 _ (by decide) (by decide), g 22 _ (by decide) (by decide), g 23 _ (by decide) (by decide), g 24 _ (by decide) (by decide)]
  exact A
theorem tells_in {Q Y : m_Po} {ε : m_E} {μ σ : m_M} {M a i0 j sl lo nw : Int} {T : Nat} (L : LM ε M) (S : SF μ M σ) (A : MA σ a) (B : AB σ a) (G' : MG σ a) (h : ho σ a = -1) (K : jk σ a (μ (M + 25)) (σ 15 a + 1)) (i00 : 0 ≤ i0) (ij : i0 ≤ j) (jn : j < σ 15 a) (hnw : nw = -1 ∨ (0 ≤ nw ∧ nw ≤ 64)) (hT : (T : Int) = j - i0 + 2)
    (hh : ∀ μ', FKp M μ μ' → RMm μ' M (lst σ a i0 sl lo nw T ++ frm (σ 15 a + 1)) → Q 0 ε μ') : o_X12_tells [(2, M), (0, a), (0, i0), (0, j), (0, sl), (0, lo), (0, nw)] ε μ Q Y := by
  have g : ∀ o j, 1 ≤ o → o ≤ 24 → sgM μ M o j = σ o j := fun o j h1 h2 => S o j h1 h2
  have n1 := A.2.2.1
  have hp := ho_hp n1 h
  have e15 := g 15 a (by decide) (by decide)
  have J := (JJ_ok G' n1 h).1
  refine sp_X12_tells (σ := sgM μ M) L (fun o j _ _ => rfl) (A.ag g) (B.ag g) i00 ij (by rw [e15]; exact jn) (fun p p0 p1 => ?_) (fun i j0 j1 => ?_) hnw hT (fun μ1 f1 H1 => hh μ1 f1 ?_)
  · rw [g 16 _ (by decide) (by decide)]; exact hp p (by omega) (by omega)
  · obtain ⟨x, x1, x2⟩ := K (i / 4) (by omega) (by omega)
    have : sgM μ M 25 i = JJ σ a i := JJ_eq (f := sgM μ M 25) (by omega) x1 x2
    rw [this]; exact J i (by omega) (by omega)
  · rw [e15, tel_eq g i00 (by omega) K] at H1
    exact H1
theorem gather_in {Q Y : m_Po} {ε : m_E} {μ σ : m_M} {B P a sl : Int} {T : Nat} (L : LB ε B) (hB : B + 5 < P) (A : MA σ a) (B' : AB σ a) (G' : MG σ a) (h : ho σ a = -1) (F : AF ε μ σ a P) (sp : SPc μ σ a P) (s16 : μ P 16 = 1) (hT : (T : Int) = σ 15 a + 1) (hh : ∀ μ', FBo B μ μ' → RLc μ' B (lst σ a 0 sl 1 (-1) T ++ frm (σ 15 a + 1)) → Q 0 ε μ') : o_X1_gather [(2, B), (2, P), (0, sl)] ε μ Q Y := by
  have n1 := A.2.2.1
  refine sp_X1_gather (J := JJ σ a) L hB A B' (ho_hp n1 h) (JJ_ok G' n1 h).1 hT F.1 (fun i i0 i1 => ?_) hh
  rcases sp with q | ⟨_, q⟩
  · omega
  · obtain ⟨_, _, _, al⟩ := ho_neg n1 h
    obtain ⟨x, hx⟩ := al (i / 4) (by omega) (by omega)
    rcases q (i / 4) (by omega) (by omega) with z | ⟨y, y1, y2, y3⟩
    · rw [hx] at z; cases z.1
    · exact JJ_eq i0 y1 y3
theorem sp_X10_requireHow {Q Y : m_Po} {ε : m_E} {μ : m_M} {w : Int} (h0 : w = 0 ∨ w = 1 → Q 0 ε μ) (h2 : w ≠ 0 → w ≠ 1 → ∀ z : Int, nx ε ≤ z → Y 2 (enx ε z) μ) : o_X10_requireHow [(0, w)] ε μ Q Y := by
  apply e_X10_requireHow
  exact fun _ _ => ⟨fun q => h0 (Or.inl q), fun q => ⟨fun r => h0 (Or.inr r), fun r => h2 q r⟩⟩
theorem sp_X12_isJudged {Q Y : m_Po} {ε : m_E} {μ σ : m_M} {M i w more : Int} (L : LM ε M) (S : SF μ M σ) (N : 0 ≤ i → i < μ M 27 → MA σ i ∧ MG σ i)
    (k1 : i < 0 ∨ μ M 27 ≤ i → Q 0 ε (st μ M 0 1)) (k2 : 0 ≤ i → i < μ M 27 → (w < 0 ∨ 1 < w ∨ more ≠ 0) → Q 0 ε (st (st μ M 0 0) M 0 2))
    (k3 : 0 ≤ i → i < μ M 27 → 0 ≤ w → w ≤ 1 → more = 0 → ho σ i ≠ -1 → ∀ μ', FXa M (st μ M 0 0) μ' → Q 0 ε (st μ' M 0 3))
    (k0 : 0 ≤ i → i < μ M 27 → 0 ≤ w → w ≤ 1 → more = 0 → ho σ i = -1 → ∀ μ', FXa M (st μ M 0 0) μ' → jk σ i (μ' (M + 25)) (σ 15 i + 1) → Q 1 ε (st μ' M 0 0)) : o_X12_isJudged [(2, M), (0, i), (0, w), (0, more)] ε μ Q Y := by
  apply e_X12_isJudged
  refine fun _ _ _ _ => ⟨L.k, sp_X12_isArch L (fun a b => ?_) (fun a => ?_)⟩
  · obtain ⟨na, ng⟩ := N a b
    have T24 : (w < 0 ∨ 1 < w ∨ more ≠ 0) → G cd_X12_isJudged Q Y 24 [(0, (2, M))] [(2, M)] ε (st μ M 0 0) := fun q => by
      apply g_X12_isJudged_24
      intro _
      apply g_X12_isJudged_42
      refine fun _ _ => ⟨L.k, fun μ1 m1 => ⟨L.k, fun t ht => ?_⟩⟩
      rw [m1, sx_same, if_neg (by decide)] at ht
      rw [ht, m1]; exact k2 a b q
    apply g_X12_isJudged_5
    refine fun _ _ _ _ _ => ⟨fun _ => ⟨fun q => T24 (Or.inl q), fun q => ⟨fun r => T24 (Or.inr (Or.inl r)), fun r => ⟨fun u => ⟨L.k, sp_X12_holeOf L (fun o j o1 o2 => ?_) na ng (fun μ1 f1 j1 => ?_)⟩, fun u => T24 (Or.inr (Or.inr u))⟩⟩⟩, fun q => absurd q (by decide)⟩
    · rw [sx_oa (by omega)]; exact S o j o1 o2
    · apply g_X12_isJudged_33
      intro _ _ t2 ht2
      apply g_X12_isJudged_42
      refine fun _ _ => ⟨L.k, fun μ2 m2 => ⟨L.k, fun t ht => ?_⟩⟩
      rw [m2, sx_same] at ht
      rw [m2]
      by_cases y : ho σ i = -1
      · rw [if_pos y] at ht2
        rw [ht2, if_pos rfl] at ht
        rw [ht, ht2]; exact k0 a b q r u y μ1 f1 (j1 y)
      · rw [if_neg y] at ht2
        rw [ht2, if_neg (by decide)] at ht
        rw [ht, ht2]; exact k3 a b q r u y μ1 f1
  · apply g_X12_isJudged_5
    exact fun _ _ _ _ _ => ⟨fun q => absurd rfl q, fun _ => k1 a⟩
