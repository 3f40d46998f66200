set_option maxHeartbeats 2000000
/-! ===== the class's Bounds: gather, gatherNarrowed, gatherRow (by c6.py) ===== -/
/-- the list that gather leaves -/
def gaC (σ : m_M) (a : Int) (J : Int → Int) (sl : Int) : Nat → List Rw := gs (neR σ a (-1)) (inR σ a (-1)) J (slR σ a sl) (Wf σ a 1 0) (Tf σ a 1 0) (σ 23 a) (σ 24 a) 0
theorem gaC_l {Q X : m_Po} {ε : m_E} {σ : m_M} {B P a sl : Int} {J : Int → Int} {T : Nat} (L : LB ε B) (hB : B + 5 < P) (A : MA σ a) (B' : AB σ a) (hp : ∀ p, 0 ≤ p → p < σ 15 a → 0 ≤ σ 16 (10 * a + p)) (hJ : ∀ i, 0 ≤ i → i < 4 * (σ 15 a + 1) → ab (J i) 100) (hT : (T : Int) = σ 15 a + 1) :
    ∀ (d t : Nat), t + d = T → ∀ μ : m_M, AQ ε μ σ a P → (∀ i, 0 ≤ i → i < 4 * (σ 15 a + 1) → μ (P + 8) i = J i) → RLc μ B (gaC σ a J sl t) → (d ≠ 0 → μ B 6 = Wf σ a 1 0 (0 + t) ∧ μ B 7 = Tf σ a 1 0 (0 + t)) → (∀ μ', FBo B μ μ' → RLc μ' B (gaC σ a J sl T ++ frm (σ 15 a + 1)) → Q 0 ε μ') →
    G cd_X1_gather Q X 6 [(0, (2, B)), (1, (2, P)), (2, (0, sl)), (3, (0, 0 + t))] [] ε μ := by
  have A0 := A
  have B0 := B'
  obtain ⟨a0, a1, n1, n2, s, l0, l1⟩ := A
  intro d
  induction d with
  | zero =>
    intro t ht μ AQ' eJ H _ K
    have : t = T := by omega
    subst this
    have len := gs_len (ne := (neR σ a (-1))) (fa := (inR σ a (-1))) (J := J) (sl := (slR σ a sl)) (W := Wf σ a 1 0) (T := Tf σ a 1 0) (p := σ 23 a) (q := σ 24 a) (i0 := 0) t
    have len' : (gaC σ a J sl t).length ≤ 4 * t := len
    apply g_X1_gather_6
    rw [AQ'.1.2.1, w32_id (show i32 (σ 15 a + 1) by unfold i32; omega)]
    refine fun _ _ _ => ⟨AQ'.1.k, fun _ => ⟨L.k, sp_X1_addFrame L H (by omega) (by omega) (by omega) (fun μ1 f1 H1 => ?_)⟩, fun q => absurd q (by omega)⟩
    apply g_X1_gather_58
    exact fun _ => K μ1 f1 H1
  | succ d ih =>
    intro t ht μ AQ' eJ H hw K
    obtain ⟨hw1, hw2⟩ := hw (by omega)
    have len := gs_len (ne := (neR σ a (-1))) (fa := (inR σ a (-1))) (J := J) (sl := (slR σ a sl)) (W := Wf σ a 1 0) (T := Tf σ a 1 0) (p := σ 23 a) (q := σ 24 a) (i0 := 0) t
    have len' : (gaC σ a J sl t).length ≤ 4 * t := len
    clear len
    have bb := wf_ab (lo := 1) (i0 := 0) (k := 0 + t) A0 B0 (by decide) (by omega) (fun p p0 p1 => hp p (by omega) (by omega))
    have es : gaC σ a J sl (t + 1) = gaC σ a J sl t ++ gj (neR σ a (-1)) (inR σ a (-1)) J (slR σ a sl) (Wf σ a 1 0) (Tf σ a 1 0) (σ 23 a) (σ 24 a) (0 + t) := rfl
    have ih' := ih (t + 1) (by omega)
    rw [es] at ih'
    have ek1 : 0 + ((t + 1 : Nat) : Int) = 0 + t + 1 := by omega
    rw [ek1] at ih'
    generalize ek : 0 + (t : Int) = k at *
    generalize gaC σ a J sl t = l at *
    have k0 : 0 ≤ k := by omega
    have k10 : k ≤ σ 15 a := by omega
    have j0 := hJ (4 * k) (by omega) (by omega)
    have j1 := hJ (4 * k + 1) (by omega) (by omega)
    have j2 := hJ (4 * k + 2) (by omega) (by omega)
    have j3 := hJ (4 * k + 3) (by omega) (by omega)
    have y0 := eJ (4 * k) (by omega) (by omega)
    have y1 := eJ (4 * k + 1) (by omega) (by omega)
    have y2 := eJ (4 * k + 2) (by omega) (by omega)
    have y3 := eJ (4 * k + 3) (by omega) (by omega)
    have pn := pass_next (σ := σ) (a := a) (k := k) (i0 := 0) (by omega)
    have R : ∀ μ3, FBo B μ μ3 → RLc μ3 B (l ++ gj (neR σ a (-1)) (inR σ a (-1)) J (slR σ a sl) (Wf σ a 1 0) (Tf σ a 1 0) (σ 23 a) (σ 24 a) k) → μ3 B 6 = Wf σ a 1 0 k → μ3 B 7 = Tf σ a 1 0 k → G cd_X1_gather Q X 30 [(0, (2, B)), (1, (2, P)), (2, (0, sl)), (3, (0, k))] [] ε μ3 := fun μ3 f3 H3 g6 g7 => by
      apply g_X1_gather_30
      refine fun _ _ _ => ⟨L.k, sp_X1_passStone L (AQ'.fb hB f3) H3 g6 g7 (ab_l bb.1 (by decide)) (ab_l bb.2 (by decide)) (fun μ4 f4 H4 c4 c5 c6 => ?_)⟩
      apply g_X1_gather_36
      refine fun _ _ _ => ⟨L.k, passLoads_in L hB B0 ((AQ'.fb hB f3).fb hB f4) H4 rfl rfl c5 c6 (fun μ5 f5 H5 g6' g7' => ?_)⟩
      apply g_X1_gather_42
      intro _ _ _ v h
      rw [w32_id (show i32 (k + 1) by unfold i32; omega)] at h
      rw [h]
      have f35 := (f3.trans f4).trans f5
      refine ih' μ5 (AQ'.fb hB f35) (fun i i0 i1 => (f35 _ _ (Or.inr (by omega))).trans (eJ i i0 i1)) H5 (fun z => ?_) (fun μ' f' => K μ' (f35.trans f'))
      have c := c4 k0 (by omega) (hp k (by omega) (by omega))
      rw [g6', g7', c.1, c.2]
      exact ⟨pn.1.symm, pn.2.symm⟩
    apply g_X1_gather_6
    rw [AQ'.1.2.1]
    refine fun _ _ _ => ⟨AQ'.1.k, fun q => absurd q (by omega), fun _ => ⟨L.k, sp_X1_addMoments L AQ' hB H (by omega) k0 k10 y0 y1 y2 y3 j0 j1 j2 j3 hw1 hw2 bb.1 bb.2 (fun μ1 f1 H1 g6 g7 => ?_)⟩⟩
    have e8 : ∀ j, μ1 (P + 8) j = μ (P + 8) j := fun j => f1 _ _ (Or.inr (by omega))
    apply g_X1_gather_20
    refine fun _ _ _ => ⟨fun z => R μ1 f1 ?_ g6 g7, fun z => ⟨L.k, sp_X1_addSlopes L (AQ'.fb hB f1) hB H1 (by rw [List.length_append]; simp; omega) k0 k10 B0.2.2.1 B0.2.2.2 (by rw [e8]; exact y0) (by rw [e8]; exact y1) (by rw [e8]; exact y2) (by rw [e8]; exact y3) j0 j1 j2 j3 g6 bb.1 (fun μ2 f2 H2 k6 k7 => R μ2 (f1.trans f2) ?_ k6 (k7.trans g7))⟩⟩
    · have e : slR σ a sl k = 0 := if_pos z
      unfold gj
      rw [if_pos e, List.append_nil]
      exact H1
    · have e : slR σ a sl k = slR σ a 1 k := by unfold slR; rw [if_neg z, if_neg (show ¬ (1 : Int) = 0 by decide)]
      unfold gj
      rw [e, ← List.append_assoc]
      exact H2
/-- the list that gatherNarrowed leaves -/
def gaN (σ : m_M) (a : Int) (J : Int → Int) (step : Int) : Nat → List Rw := gs (neN σ a step) (faN σ a step) J (fun _ => 0) (Wf σ a 1 0) (Tf σ a 1 0) (σ 23 a) (σ 24 a) 0
theorem gaN_l {Q X : m_Po} {ε : m_E} {σ : m_M} {B P a step : Int} {J : Int → Int} {T : Nat} (L : LB ε B) (hB : B + 5 < P) (A : MA σ a) (B' : AB σ a) (hst : 0 ≤ step ∧ step ≤ 64) (hp : ∀ p, 0 ≤ p → p < σ 15 a → 0 ≤ σ 16 (10 * a + p)) (hJ : ∀ i, 0 ≤ i → i < 4 * (σ 15 a + 1) → ab (J i) 100) (hT : (T : Int) = σ 15 a + 1) :
    ∀ (d t : Nat), t + d = T → ∀ μ : m_M, AQ ε μ σ a P → (∀ i, 0 ≤ i → i < 4 * (σ 15 a + 1) → μ (P + 8) i = J i) → RLc μ B (gaN σ a J step t) → (d ≠ 0 → μ B 6 = Wf σ a 1 0 (0 + t) ∧ μ B 7 = Tf σ a 1 0 (0 + t)) → (∀ μ', FBo B μ μ' → RLc μ' B (gaN σ a J step T ++ frm (σ 15 a + 1)) → Q 0 ε μ') →
    G cd_X1_gatherNarrowed Q X 6 [(0, (2, B)), (1, (2, P)), (2, (0, step)), (3, (0, 0 + t))] [] ε μ := by
  have A0 := A
  have B0 := B'
  obtain ⟨a0, a1, n1, n2, s, l0, l1⟩ := A
  intro d
  induction d with
  | zero =>
    intro t ht μ AQ' eJ H _ K
    have : t = T := by omega
    subst this
    have len := gs_len (ne := (neN σ a step)) (fa := (faN σ a step)) (J := J) (sl := (fun _ => 0)) (W := Wf σ a 1 0) (T := Tf σ a 1 0) (p := σ 23 a) (q := σ 24 a) (i0 := 0) t
    have len' : (gaN σ a J step t).length ≤ 4 * t := len
    apply g_X1_gatherNarrowed_6
    rw [AQ'.1.2.1, w32_id (show i32 (σ 15 a + 1) by unfold i32; omega)]
    refine fun _ _ _ => ⟨AQ'.1.k, fun _ => ⟨L.k, sp_X1_addFrame L H (by omega) (by omega) (by omega) (fun μ1 f1 H1 => ?_)⟩, fun q => absurd q (by omega)⟩
    apply g_X1_gatherNarrowed_86
    exact fun _ => K μ1 f1 H1
  | succ d ih =>
    intro t ht μ AQ' eJ H hw K
    obtain ⟨hw1, hw2⟩ := hw (by omega)
    have len := gs_len (ne := (neN σ a step)) (fa := (faN σ a step)) (J := J) (sl := (fun _ => 0)) (W := Wf σ a 1 0) (T := Tf σ a 1 0) (p := σ 23 a) (q := σ 24 a) (i0 := 0) t
    have len' : (gaN σ a J step t).length ≤ 4 * t := len
    clear len
    have bb := wf_ab (lo := 1) (i0 := 0) (k := 0 + t) A0 B0 (by decide) (by omega) (fun p p0 p1 => hp p (by omega) (by omega))
    have es : gaN σ a J step (t + 1) = gaN σ a J step t ++ gj (neN σ a step) (faN σ a step) J (fun _ => 0) (Wf σ a 1 0) (Tf σ a 1 0) (σ 23 a) (σ 24 a) (0 + t) := rfl
    have ih' := ih (t + 1) (by omega)
    rw [es] at ih'
    have ek1 : 0 + ((t + 1 : Nat) : Int) = 0 + t + 1 := by omega
    rw [ek1] at ih'
    generalize ek : 0 + (t : Int) = k at *
    generalize gaN σ a J step t = l at *
    have k0 : 0 ≤ k := by omega
    have k10 : k ≤ σ 15 a := by omega
    have j0 := hJ (4 * k) (by omega) (by omega)
    have j1 := hJ (4 * k + 1) (by omega) (by omega)
    have j2 := hJ (4 * k + 2) (by omega) (by omega)
    have j3 := hJ (4 * k + 3) (by omega) (by omega)
    have y0 := eJ (4 * k) (by omega) (by omega)
    have y1 := eJ (4 * k + 1) (by omega) (by omega)
    have y2 := eJ (4 * k + 2) (by omega) (by omega)
    have y3 := eJ (4 * k + 3) (by omega) (by omega)
    have pn := pass_next (σ := σ) (a := a) (k := k) (i0 := 0) (by omega)
    have R : ∀ μ3, FBo B μ μ3 → RLc μ3 B (l ++ gj (neN σ a step) (faN σ a step) J (fun _ => 0) (Wf σ a 1 0) (Tf σ a 1 0) (σ 23 a) (σ 24 a) k) → μ3 B 6 = Wf σ a 1 0 k → μ3 B 7 = Tf σ a 1 0 k → G cd_X1_gatherNarrowed Q X 58 [(0, (2, B)), (1, (2, P)), (2, (0, step)), (3, (0, k))] [] ε μ3 := fun μ3 f3 H3 g6 g7 => by
      apply g_X1_gatherNarrowed_58
      refine fun _ _ _ => ⟨L.k, sp_X1_passStone L (AQ'.fb hB f3) H3 g6 g7 (ab_l bb.1 (by decide)) (ab_l bb.2 (by decide)) (fun μ4 f4 H4 c4 c5 c6 => ?_)⟩
      apply g_X1_gatherNarrowed_64
      refine fun _ _ _ => ⟨L.k, passLoads_in L hB B0 ((AQ'.fb hB f3).fb hB f4) H4 rfl rfl c5 c6 (fun μ5 f5 H5 g6' g7' => ?_)⟩
      apply g_X1_gatherNarrowed_70
      intro _ _ _ v h
      rw [w32_id (show i32 (k + 1) by unfold i32; omega)] at h
      rw [h]
      have f35 := (f3.trans f4).trans f5
      refine ih' μ5 (AQ'.fb hB f35) (fun i i0 i1 => (f35 _ _ (Or.inr (by omega))).trans (eJ i i0 i1)) H5 (fun z => ?_) (fun μ' f' => K μ' (f35.trans f'))
      have c := c4 k0 (by omega) (hp k (by omega) (by omega))
      rw [g6', g7', c.1, c.2]
      exact ⟨pn.1.symm, pn.2.symm⟩
    apply g_X1_gatherNarrowed_6
    rw [AQ'.1.2.1]
    refine fun _ _ _ => ⟨AQ'.1.k, fun q => absurd q (by omega), fun _ => sp_X0_isAtFilled AQ' k0 (by omega) ?_⟩
    apply g_X1_gatherNarrowed_19
    intro _ _ _ _ v4 h4 t1 h1 t2 h2
    have e1 : w32 (t1 - step) = neN σ a step k := by
      rw [h1, h4]; unfold neN; rw [w32_id]; split <;> (unfold i32; omega)
    have e2 : w32 (t2 + step) = faN σ a step k := by
      rw [h2, h4]; unfold faN; rw [w32_id]; split <;> (unfold i32; omega)
    rw [e1, e2]
    have o : 0 ≤ neN σ a step k ∧ 0 ≤ faN σ a step k ∧ neN σ a step k + faN σ a step k ≤ 256 := by
      unfold neN faN; split <;> omega
    refine ⟨L.k, sp_X1_addMomentsAt L AQ'.1 hB H (by omega) k0 k10 o.1 o.2.1 o.2.2 y0 y1 y2 y3 j0 j1 j2 j3 hw1 hw2 bb.1 bb.2 (fun μ1 f1 H1 g6 g7 => R μ1 f1 ?_ g6 g7)⟩
    unfold gj
    rw [if_pos rfl, List.append_nil]
    exact H1
/-- the list that gatherRow leaves -/
def gaR (σ : m_M) (a : Int) (J : Int → Int) (i0 : Int) : Nat → List Rw := gs (neR σ a (-1)) (inR σ a (-1)) J (slR σ a 1) (Wf σ a 0 i0) (Tf σ a 0 i0) (σ 23 a) (σ 24 a) i0
theorem gaR_l {Q X : m_Po} {ε : m_E} {σ : m_M} {B P a i0 j : Int} {J : Int → Int} {T : Nat} (L : LB ε B) (hB : B + 5 < P) (A : MA σ a) (B' : AB σ a) (i00 : 0 ≤ i0) (ij : i0 ≤ j) (jn : j < σ 15 a) (hp : ∀ p, i0 ≤ p → p ≤ j → 0 ≤ σ 16 (10 * a + p)) (hJ : ∀ i, 4 * i0 ≤ i → i < 4 * (j + 2) → ab (J i) 100) (hT : (T : Int) = j - i0 + 2) :
    ∀ (d t : Nat), t + d = T → ∀ μ : m_M, AQ ε μ σ a P → (∀ i, 4 * i0 ≤ i → i < 4 * (j + 2) → μ (P + 8) i = J i) → RLc μ B (gaR σ a J i0 t) → (d ≠ 0 → μ B 6 = Wf σ a 0 i0 (i0 + t) ∧ μ B 7 = Tf σ a 0 i0 (i0 + t)) → (∀ μ', FBo B μ μ' → RLc μ' B (gaR σ a J i0 T ++ frm (j + 2)) → Q 0 ε μ') →
    G cd_X1_gatherRow Q X 7 [(0, (2, B)), (1, (2, P)), (3, (0, j)), (4, (0, i0 + t))] [] ε μ := by
  have A0 := A
  have B0 := B'
  obtain ⟨a0, a1, n1, n2, s, l0, l1⟩ := A
  intro d
  induction d with
  | zero =>
    intro t ht μ AQ' eJ H _ K
    have : t = T := by omega
    subst this
    have len := gs_len (ne := (neR σ a (-1))) (fa := (inR σ a (-1))) (J := J) (sl := (slR σ a 1)) (W := Wf σ a 0 i0) (T := Tf σ a 0 i0) (p := σ 23 a) (q := σ 24 a) (i0 := i0) t
    have len' : (gaR σ a J i0 t).length ≤ 4 * t := len
    apply g_X1_gatherRow_7
    rw [w32_id (show i32 (j + 1) by unfold i32; omega), w32_id (show i32 (j + 2) by unfold i32; omega)]
    refine fun _ _ _ => ⟨fun _ => ⟨L.k, sp_X1_addFrame L H (by omega) (by omega) (by omega) (fun μ1 f1 H1 => ?_)⟩, fun q => absurd q (by omega)⟩
    apply g_X1_gatherRow_49
    exact fun _ => K μ1 f1 H1
  | succ d ih =>
    intro t ht μ AQ' eJ H hw K
    obtain ⟨hw1, hw2⟩ := hw (by omega)
    have len := gs_len (ne := (neR σ a (-1))) (fa := (inR σ a (-1))) (J := J) (sl := (slR σ a 1)) (W := Wf σ a 0 i0) (T := Tf σ a 0 i0) (p := σ 23 a) (q := σ 24 a) (i0 := i0) t
    have len' : (gaR σ a J i0 t).length ≤ 4 * t := len
    clear len
    have bb := wf_ab (lo := 0) (i0 := i0) (k := i0 + t) A0 B0 i00 (by omega) (fun p p0 p1 => hp p (by omega) (by omega))
    have es : gaR σ a J i0 (t + 1) = gaR σ a J i0 t ++ gj (neR σ a (-1)) (inR σ a (-1)) J (slR σ a 1) (Wf σ a 0 i0) (Tf σ a 0 i0) (σ 23 a) (σ 24 a) (i0 + t) := rfl
    have ih' := ih (t + 1) (by omega)
    rw [es] at ih'
    have ek1 : i0 + ((t + 1 : Nat) : Int) = i0 + t + 1 := by omega
    rw [ek1] at ih'
    generalize ek : i0 + (t : Int) = k at *
    generalize gaR σ a J i0 t = l at *
    have k0 : 0 ≤ k := by omega
    have k10 : k ≤ σ 15 a := by omega
    have j0 := hJ (4 * k) (by omega) (by omega)
    have j1 := hJ (4 * k + 1) (by omega) (by omega)
    have j2 := hJ (4 * k + 2) (by omega) (by omega)
    have j3 := hJ (4 * k + 3) (by omega) (by omega)
    have y0 := eJ (4 * k) (by omega) (by omega)
    have y1 := eJ (4 * k + 1) (by omega) (by omega)
    have y2 := eJ (4 * k + 2) (by omega) (by omega)
    have y3 := eJ (4 * k + 3) (by omega) (by omega)
    have pn := pass_next0 (σ := σ) (a := a) (k := k) (i0 := i0) (by omega)
    have R : ∀ μ3, FBo B μ μ3 → RLc μ3 B (l ++ gj (neR σ a (-1)) (inR σ a (-1)) J (slR σ a 1) (Wf σ a 0 i0) (Tf σ a 0 i0) (σ 23 a) (σ 24 a) k) → μ3 B 6 = Wf σ a 0 i0 k → μ3 B 7 = Tf σ a 0 i0 k → G cd_X1_gatherRow Q X 29 [(0, (2, B)), (1, (2, P)), (3, (0, j)), (4, (0, k))] [] ε μ3 := fun μ3 f3 H3 g6 g7 => by
      apply g_X1_gatherRow_29
      refine fun _ _ _ => ⟨L.k, sp_X1_passStone L (AQ'.fb hB f3) H3 g6 g7 (ab_l bb.1 (by decide)) (ab_l bb.2 (by decide)) (fun μ5 f4 H5 c4 c5 c6 => ?_)⟩
      apply g_X1_gatherRow_36
      intro _ _ _ v h
      rw [w32_id (show i32 (k + 1) by unfold i32; omega)] at h
      rw [h]
      have f35 := f3.trans f4
      refine ih' μ5 (AQ'.fb hB f35) (fun i i0 i1 => (f35 _ _ (Or.inr (by omega))).trans (eJ i i0 i1)) H5 (fun z => ?_) (fun μ' f' => K μ' (f35.trans f'))
      have c := c4 k0 (by omega) (hp k (by omega) (by omega))
      rw [c.1, c.2]
      exact ⟨pn.1.symm, pn.2.symm⟩
    apply g_X1_gatherRow_7
    rw [w32_id (show i32 (j + 1) by unfold i32; omega)]
    refine fun _ _ _ => ⟨fun q => absurd q (by omega), fun _ => ⟨L.k, sp_X1_addMoments L AQ' hB H (by omega) k0 k10 y0 y1 y2 y3 j0 j1 j2 j3 hw1 hw2 bb.1 bb.2 (fun μ1 f1 H1 g6 g7 => ?_)⟩⟩
    have e8 : ∀ j, μ1 (P + 8) j = μ (P + 8) j := fun j => f1 _ _ (Or.inr (by omega))
    apply g_X1_gatherRow_22
    refine fun _ _ _ => ⟨L.k, sp_X1_addSlopes L (AQ'.fb hB f1) hB H1 (by rw [List.length_append]; simp; omega) k0 k10 B0.2.2.1 B0.2.2.2 (by rw [e8]; exact y0) (by rw [e8]; exact y1) (by rw [e8]; exact y2) (by rw [e8]; exact y3) j0 j1 j2 j3 g6 bb.1 (fun μ2 f2 H2 k6 k7 => R μ2 (f1.trans f2) ?_ k6 (k7.trans g7))⟩
    unfold gj
    rw [← List.append_assoc]
    exact H2
theorem sp_X1_gather {Q X : m_Po} {ε : m_E} {μ σ : m_M} {B P a sl : Int} {J : Int → Int} {T : Nat} (L : LB ε B) (hB : B + 5 < P) (A : MA σ a) (B' : AB σ a) (hp : ∀ p, 0 ≤ p → p < σ 15 a → 0 ≤ σ 16 (10 * a + p)) (hJ : ∀ i, 0 ≤ i → i < 4 * (σ 15 a + 1) → ab (J i) 100) (hT : (T : Int) = σ 15 a + 1) (C : AQ ε μ σ a P) (eJ : ∀ i, 0 ≤ i → i < 4 * (σ 15 a + 1) → μ (P + 8) i = J i) (hh : ∀ μ', FBo B μ μ' → RLc μ' B (gaC σ a J sl T ++ frm (σ 15 a + 1)) → Q 0 ε μ') : o_X1_gather [(2, B), (2, P), (0, sl)] ε μ Q X := by
  apply e_X1_gather
  refine fun _ _ => ⟨L.k, sp_X1_begin L (fun μ1 f1 H1 h6 h7 => ?_)⟩
  apply g_X1_gather_4
  intro _ _ v h
  have R := gaC_l (Q := Q) (X := X) (sl := sl) L hB A B' hp hJ hT T 0 (by omega) μ1 (C.fb hB f1) (fun i i0 i1 => (f1 _ _ (Or.inr (by omega))).trans (eJ i i0 i1)) H1 (fun _ => ⟨h6.trans cw_0.symm, h7.trans cw_0.symm⟩) (fun μ' f' => hh μ' (f1.trans f'))
  rw [show (0 : Int) + ((0 : Nat) : Int) = v by rw [h]; rfl] at R
  exact R
theorem sp_X1_gatherNarrowed {Q X : m_Po} {ε : m_E} {μ σ : m_M} {B P a step : Int} {J : Int → Int} {T : Nat} (L : LB ε B) (hB : B + 5 < P) (A : MA σ a) (B' : AB σ a) (hst : 0 ≤ step ∧ step ≤ 64) (hp : ∀ p, 0 ≤ p → p < σ 15 a → 0 ≤ σ 16 (10 * a + p)) (hJ : ∀ i, 0 ≤ i → i < 4 * (σ 15 a + 1) → ab (J i) 100) (hT : (T : Int) = σ 15 a + 1) (C : AQ ε μ σ a P) (eJ : ∀ i, 0 ≤ i → i < 4 * (σ 15 a + 1) → μ (P + 8) i = J i) (hh : ∀ μ', FBo B μ μ' → RLc μ' B (gaN σ a J step T ++ frm (σ 15 a + 1)) → Q 0 ε μ') : o_X1_gatherNarrowed [(2, B), (2, P), (0, step)] ε μ Q X := by
  apply e_X1_gatherNarrowed
  refine fun _ _ => ⟨L.k, sp_X1_begin L (fun μ1 f1 H1 h6 h7 => ?_)⟩
  apply g_X1_gatherNarrowed_4
  intro _ _ v h
  have R := gaN_l (Q := Q) (X := X) (step := step) L hB A B' hst hp hJ hT T 0 (by omega) μ1 (C.fb hB f1) (fun i i0 i1 => (f1 _ _ (Or.inr (by omega))).trans (eJ i i0 i1)) H1 (fun _ => ⟨h6.trans cw_0.symm, h7.trans cw_0.symm⟩) (fun μ' f' => hh μ' (f1.trans f'))
  rw [show (0 : Int) + ((0 : Nat) : Int) = v by rw [h]; rfl] at R
  exact R
theorem sp_X1_gatherRow {Q X : m_Po} {ε : m_E} {μ σ : m_M} {B P a i0 j : Int} {J : Int → Int} {T : Nat} (L : LB ε B) (hB : B + 5 < P) (A : MA σ a) (B' : AB σ a) (i00 : 0 ≤ i0) (ij : i0 ≤ j) (jn : j < σ 15 a) (hp : ∀ p, i0 ≤ p → p ≤ j → 0 ≤ σ 16 (10 * a + p)) (hJ : ∀ i, 4 * i0 ≤ i → i < 4 * (j + 2) → ab (J i) 100) (hT : (T : Int) = j - i0 + 2) (C : AQ ε μ σ a P) (eJ : ∀ i, 4 * i0 ≤ i → i < 4 * (j + 2) → μ (P + 8) i = J i) (hh : ∀ μ', FBo B μ μ' → RLc μ' B (gaR σ a J i0 T ++ frm (j + 2)) → Q 0 ε μ') : o_X1_gatherRow [(2, B), (2, P), (0, i0), (0, j)] ε μ Q X := by
  apply e_X1_gatherRow
  refine fun _ _ _ => ⟨L.k, sp_X1_begin L (fun μ1 f1 H1 h6 h7 => ?_)⟩
  apply g_X1_gatherRow_4
  intro _ _ _ v h
  have R := gaR_l (Q := Q) (X := X) L hB A B' i00 ij jn hp hJ hT T 0 (by omega) μ1 (C.fb hB f1) (fun i i0 i1 => (f1 _ _ (Or.inr (by omega))).trans (eJ i i0 i1)) H1 (fun _ => by
    rw [show i0 + ((0 : Nat) : Int) = i0 by omega]
    exact ⟨h6.trans cw_0.symm, h7.trans cw_0.symm⟩) (fun μ' f' => hh μ' (f1.trans f'))
  rw [show i0 + ((0 : Nat) : Int) = v by rw [h]; omega] at R
  exact R
