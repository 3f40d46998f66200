set_option maxHeartbeats 2000000
/-! ===== what stands: isStruck, isSafeNarrowed, strikes ===== -/
def FC5 (X : Int) (μ μ' : m_M) : Prop := ∀ b j, (b < X + 4 ∨ X + 14 < b) → μ' b j = μ b j
theorem FC5.rf {X : Int} {μ : m_M} : FC5 X μ μ := fun _ _ _ => rfl
theorem FC5.trans {X : Int} {μ μ' μ'' : m_M} (h : FC5 X μ μ') (k : FC5 X μ' μ'') : FC5 X μ μ'' := fun b j h1 => (k b j h1).trans (h b j h1)
def FR5 (M : Int) (μ μ' : m_M) : Prop := ∀ b j, (b < M + 26 ∨ M + 30 < b) → b ≠ M + 44 → b ≠ M + 45 → b ≠ M + 46 → ¬ (b = M ∧ (j = 35 ∨ (42 ≤ j ∧ j ≤ 49))) → μ' b j = μ b j
theorem FR5.rf {M : Int} {μ : m_M} : FR5 M μ μ := fun _ _ _ _ _ _ _ => rfl
theorem FR5.trans {M : Int} {μ μ' μ'' : m_M} (h : FR5 M μ μ') (k : FR5 M μ' μ'') : FR5 M μ μ'' := fun b j h1 h2 h3 h4 h5 => (k b j h1 h2 h3 h4 h5).trans (h b j h1 h2 h3 h4 h5)
theorem SF.r5 {μ μ' : m_M} {M : Int} {σ : m_M} (S : SF μ M σ) (f : FR5 M μ μ') : SF μ' M σ := fun o j h1 h2 => (f _ _ (by omega) (by omega) (by omega) (by omega) (by omega)).trans (S o j h1 h2)
theorem AF.c5 {ε : m_E} {μ μ' σ : m_M} {a P X : Int} (A : AF ε μ σ a P) (hX : X + 141 < P) (f : FC5 X μ μ') (hC : ∀ p, 0 ≤ p → p < σ 15 a → 0 ≤ σ 16 (10 * a + p) → X + 141 < fn ε (μ (P + 7) p) 1) : AF ε μ' σ a P := by
  unfold AF AQ at *
  have e : ∀ d j, 0 ≤ d → μ' (P + d) j = μ (P + d) j := fun d j h1 => f _ _ (by omega)
  have e0 : ∀ j, μ' P j = μ P j := fun j => f _ _ (by omega)
  obtain ⟨⟨A1, A2, A3, A4, A5, A6, A7⟩, A8, A9, A10, A11⟩ := A
  refine ⟨⟨A1, fun p p0 p1 => ?_, (e0 13).trans A3, fun i i0 i1 => ?_, (e0 14).trans A5, (e0 15).trans A6, A7⟩, fun i i0 i1 => ?_, (e0 11).trans A9, (e0 12).trans A10, fun p p0 p1 p2 => ?_⟩
  · rw [e 7 _ (by decide)]; exact A2 p p0 p1
  · rw [e 3 _ (by decide), e 4 _ (by decide), e 5 _ (by decide)]; exact A4 i i0 i1
  · rw [e 1 _ (by decide), e 2 _ (by decide)]; exact A8 i i0 i1
  · rw [e 7 _ (by decide)]
    obtain ⟨b1, b2, b3⟩ := A11 p p0 p1 p2
    have := hC p p0 p1 p2
    exact ⟨b1, b2.fr (fun j => f _ _ (by omega)), b3⟩
/-- narrowed by a step, the arch stands -/
def nrl (σ : m_M) (a step : Int) : List Rw := gaN σ a (JJ σ a) step ((σ 15 a).toNat + 1)
def Saf (σ : m_M) (a step : Int) : Prop := FeL (nrl σ a step ++ frm 0)
theorem l2_gs {ne fa ne' fa' J sl sl' W T : Int → Int} {p q i0 : Int} (hs : ∀ k, ∃ s : Int, 0 < s ∧ ne' k = s * ne k ∧ fa' k = s * fa k) (h0 : ∀ k, sl k = 0) (h0' : ∀ k, sl' k = 0) : ∀ t : Nat, L2 (gs ne fa J sl W T p q i0 t) (gs ne' fa' J sl' W T p q i0 t) := by
  intro t
  induction t with
  | zero => exact True.intro
  | succ t ih =>
    refine L2.app ih ?_
    obtain ⟨s, s0, s1, s2⟩ := hs (i0 + t)
    unfold gj
    rw [if_pos (h0 _), if_pos (h0' _), List.append_nil, List.append_nil]
    refine ⟨⟨s, s0, ?_, ?_, ?_, ?_⟩, ⟨s, s0, ?_, ?_, ?_, ?_⟩, True.intro⟩
    · unfold mrA; simp only; rw [s1, s2]; grind
    · unfold mrA; simp only; rw [s1, s2]; grind
    · unfold mrA; simp only; rw [s1, s2]; grind
    · unfold mrA; simp only; rw [s1, s2]; grind
    · unfold mrB; simp only; rw [s1, s2]; grind
    · unfold mrB; simp only; rw [s1, s2]; grind
    · unfold mrB; simp only; rw [s1, s2]; grind
    · unfold mrB; simp only; rw [s1, s2]; grind
theorem nrl_l2 {σ : m_M} {a step kf : Int} (h : 0 ≤ step ∧ step ≤ 64) : L2 (nrl σ a step ++ frm 0) (lst σ a 0 0 1 step ((σ 15 a).toNat + 1) ++ frm kf) := by
  refine L2.app ?_ l2_frm
  refine l2_gs (fun k => ?_) (fun _ => rfl) (fun k => if_pos rfl) _
  unfold neN faN neR inR allR
  rw [if_neg (show ¬ step = -1 by omega), if_neg (show ¬ step = -1 by omega)]
  by_cases z : fl σ a k = 0
  · rw [if_pos z, if_pos z, if_pos z]
    exact ⟨2, by decide, by omega, by omega⟩
  · rw [if_neg z, if_neg z, if_neg z]
    exact ⟨1, by decide, by omega, by omega⟩
theorem nN_ok {σ : m_M} {a step : Int} (h : 0 ≤ step ∧ step ≤ 64) : ∀ k, 0 ≤ neN σ a step k ∧ 0 ≤ faN σ a step k ∧ 1 ≤ neN σ a step k + faN σ a step k ∧ neN σ a step k + faN σ a step k ≤ 256 := fun k => by
  unfold neN faN
  split <;> omega
/-- what both need of an arch that is whole -/
def WH (ε : m_E) (μ σ : m_M) (X a P : Int) : Prop := MA σ a ∧ MG σ a ∧ AB σ a ∧ ho σ a = -1 ∧ 0 ≤ σ 23 a ∧ σ 23 a ≤ 20 ∧ 1 ≤ σ 24 a ∧ σ 24 a ≤ 20 ∧ X + 141 < P ∧ AF ε μ σ a P ∧ SPc μ σ a P ∧ μ P 16 = 1 ∧ ∀ p, 0 ≤ p → p < σ 15 a → 0 ≤ σ 16 (10 * a + p) → X + 141 < fn ε (μ (P + 7) p) 1
theorem WH.c5 {ε : m_E} {μ μ' σ : m_M} {X a P : Int} (H : WH ε μ σ X a P) (f : FC5 X μ μ') : WH ε μ' σ X a P := by
  obtain ⟨h1, h2, h3, h4, h5, h6, h7, h8, h9, h10, h11, h12, h13⟩ := H
  refine ⟨h1, h2, h3, h4, h5, h6, h7, h8, h9, h10.c5 h9 f h13, h11.fr (fun b j h => f _ _ (by omega)), (f _ _ (by omega)).trans h12, fun p p0 p1 p2 => ?_⟩
  rw [f (P + 7) p (by omega)]; exact h13 p p0 p1 p2
theorem WH.j {ε : m_E} {μ σ : m_M} {X a P : Int} (H : WH ε μ σ X a P) : ∀ i, 0 ≤ i → i < 4 * (σ 15 a + 1) → μ (P + 8) i = JJ σ a i := fun i i0 i1 => by
  obtain ⟨h1, h2, h3, h4, h5, h6, h7, h8, h9, h10, h11, h12, h13⟩ := H
  rcases h11 with q | ⟨_, q⟩
  · omega
  · obtain ⟨_, _, _, al⟩ := ho_neg h1.2.2.1 h4
    obtain ⟨x, hx⟩ := al (i / 4) (by omega) (by omega)
    rcases q (i / 4) (by omega) (by omega) with z | ⟨y, y1, y2, y3⟩
    · rw [hx] at z; cases z.1
    · exact JJ_eq i0 y1 y3
theorem sp_X10_isSafeNarrowed {Q Y : m_Po} {ε : m_E} {μ σ : m_M} {X a P step : Int} (S : SL ε X) (W : WH ε μ σ X a P) (hs : 0 ≤ step ∧ step ≤ 64) (h1 : ∀ μ', FC5 X μ μ' → Saf σ a step → Q 1 ε μ') (h0 : ∀ μ', FC5 X μ μ' → ¬ Saf σ a step → Q 0 ε μ') : o_X10_isSafeNarrowed [(2, X), (2, P), (0, step)] ε μ Q Y := by
  have eJ := W.j
  obtain ⟨na, ng, nB, hho, p0, p1, q0, q1, hX, F, sp, s16, hC⟩ := W
  have n1 := na.2.2.1
  have n10 := na.2.2.2.1
  have hT : (((σ 15 a).toNat + 1 : Nat) : Int) = σ 15 a + 1 := by omega
  have I := gi_of (ne := neN σ a step) (fa := faN σ a step) (sl := fun _ => 0) (lo := 1) (i0 := 0) (P := 256) (t := (σ 15 a).toNat + 1) na nB ng hho p0 p1 q0 q1 (nN_ok hs) (by decide) (by decide) (by decide) (by omega)
  apply e_X10_isSafeNarrowed
  rw [S.1.f3.1]
  refine fun _ _ => ⟨S.1.k, S.2.1.k, sp_X1_gatherNarrowed (J := JJ σ a) S.2.1 (by omega) na nB hs (ho_hp n1 hho) (JJ_ok ng n1 hho).1 hT F.1 eJ (fun μg fg Lg => ?_)⟩
  have en : μg (X + 4) 5 = ((gaN σ a (JJ σ a) step ((σ 15 a).toNat + 1) ++ frm (σ 15 a + 1)).length : Int) := Lg.1
  have Lg' : RLg ((gaN σ a (JJ σ a) step ((σ 15 a).toNat + 1) ++ frm (σ 15 a + 1)).length : Int) (μg (X + 4 + 5)) (μg (X + 4 + 1)) (μg (X + 4 + 2)) (μg (X + 4 + 3)) (μg (X + 4 + 4)) (gaN σ a (JJ σ a) step ((σ 15 a).toNat + 1) ++ frm (σ 15 a + 1)) := by
    rw [← en]; exact Lg
  have Ln : (gaN σ a (JJ σ a) step ((σ 15 a).toNat + 1) ++ frm (σ 15 a + 1)).length ≤ 48 := by
    have := gs_len (ne := neN σ a step) (fa := faN σ a step) (J := JJ σ a) (sl := fun _ => 0) (W := Wf σ a 1 0) (T := Tf σ a 1 0) (p := σ 23 a) (q := σ 24 a) (i0 := 0) ((σ 15 a).toNat + 1)
    rw [List.length_append]
    have fl4 : (frm (σ 15 a + 1)).length = 4 := rfl
    have e : (gaN σ a (JJ σ a) step ((σ 15 a).toNat + 1)).length ≤ 4 * ((σ 15 a).toNat + 1) := this
    omega
  obtain ⟨fw, _, _⟩ := rows_fw Lg' I
  obtain ⟨rb', _⟩ := rows_rb Lg' I
  have iff : Fe (μg (X + 4 + 1)) (μg (X + 4 + 2)) (μg (X + 4 + 3)) (μg (X + 4 + 4)) _ ↔ Saf σ a step := FeL.iff (L2.app L2.rf l2_frm) Lg'
  have fr : ∀ {μ'}, FK (X + 10) μg μ' → FC5 X μ μ' := fun f b j h => by rw [f _ _ (by omega), fg _ _ (by omega)]
  apply g_X10_isSafeNarrowed_9
  rw [S.1.f3.1, S.1.f4.1]
  refine fun _ => ⟨S.1.k, S.2.2.1.k, sp_X2_seek S.2.2.1 S.2.1 (by omega) Ln ⟨en, fun _ => rfl, fun _ => rfl, fun _ => rfl, fun _ => rfl⟩ rb' fw (Or.inl rfl) (fun μ1 i j k s f1 hi hj hk CS' lo ok => ?_) (fun μ1 f1 nfe => ?_)⟩
  · apply g_X10_isSafeNarrowed_21
    have lx := LX.low (h := μg (X + 4 + 1)) (v := μg (X + 4 + 2)) (m := μg (X + 4 + 3)) (c := μg (X + 4 + 4)) lo hi hj hk ok
    exact fun _ _ => ⟨Or.inr rfl, h1 μ1 (fr f1) (iff.mp ⟨_, _, _, _, lx.1⟩)⟩
  · apply g_X10_isSafeNarrowed_21
    exact fun _ _ => ⟨Or.inl rfl, h0 μ1 (fr f1) (fun z => nfe (iff.mpr z))⟩
theorem sp_X10_isStruck {Q Y : m_Po} {ε : m_E} {μ σ : m_M} {X a P i j : Int} (S : SL ε X) (W : WH ε μ σ X a P) (i0 : 0 ≤ i) (ij : i ≤ j) (jn : j < σ 15 a) (h1 : ∀ μ', FC5 X μ μ' → Stk σ a i j → Q 1 ε μ') (h0 : ∀ μ', FC5 X μ μ' → ¬ Stk σ a i j → Q 0 ε μ') : o_X10_isStruck [(2, X), (2, P), (0, i), (0, j)] ε μ Q Y := by
  have eJ := W.j
  obtain ⟨na, ng, nB, hho, p0, p1, q0, q1, hX, F, sp, s16, hC⟩ := W
  have n1 := na.2.2.1
  have n10 := na.2.2.2.1
  obtain ⟨t, ht⟩ : ∃ t : Nat, (j - i + 2).toNat = t + 1 := ⟨(j - i + 1).toNat, by omega⟩
  have hT : ((t + 1 : Nat) : Int) = j - i + 2 := by omega
  have I := gi_of (ne := neR σ a (-1)) (fa := inR σ a (-1)) (sl := slR σ a 1) (lo := 0) (i0 := i) (P := 4) (t := t + 1) na nB ng hho p0 p1 q0 q1 (nR_ok (Or.inl ⟨rfl, by decide⟩)) (by decide) (by decide) i0 (by omega)
  apply e_X10_isStruck
  rw [S.1.f3.1]
  refine fun _ _ _ => ⟨S.1.k, S.2.1.k, sp_X1_gatherRow (J := JJ σ a) S.2.1 (by omega) na nB i0 ij jn (fun p p0 p1 => ho_hp n1 hho p (by omega) (by omega)) (fun k k0 k1 => (JJ_ok ng n1 hho).1 k (by omega) (by omega)) hT F.1 (fun k k0 k1 => eJ k (by omega) (by omega)) (fun μg fg Lg => ?_)⟩
  have en : μg (X + 4) 5 = ((gaR σ a (JJ σ a) i (t + 1) ++ frm (j + 2)).length : Int) := Lg.1
  have Lg' : RLg ((gaR σ a (JJ σ a) i (t + 1) ++ frm (j + 2)).length : Int) (μg (X + 4 + 5)) (μg (X + 4 + 1)) (μg (X + 4 + 2)) (μg (X + 4 + 3)) (μg (X + 4 + 4)) (gaR σ a (JJ σ a) i (t + 1) ++ frm (j + 2)) := by
    rw [← en]; exact Lg
  have Ln : (gaR σ a (JJ σ a) i (t + 1) ++ frm (j + 2)).length ≤ 48 := by
    have := gs_len (ne := neR σ a (-1)) (fa := inR σ a (-1)) (J := JJ σ a) (sl := slR σ a 1) (W := Wf σ a 0 i) (T := Tf σ a 0 i) (p := σ 23 a) (q := σ 24 a) (i0 := i) (t + 1)
    rw [List.length_append]
    have fl4 : (frm (j + 2)).length = 4 := rfl
    have e : (gaR σ a (JJ σ a) i (t + 1)).length ≤ 4 * (t + 1) := this
    omega
  obtain ⟨fw, _, _⟩ := rows_fw Lg' I
  obtain ⟨rb', _⟩ := rows_rb Lg' I
  have iff : Fe (μg (X + 4 + 1)) (μg (X + 4 + 2)) (μg (X + 4 + 3)) (μg (X + 4 + 4)) _ ↔ Stk σ a i j := FeL.iff (L2.app (by unfold skl; rw [ht]; exact L2.rf) l2_frm) Lg'
  have fr : ∀ {μ'}, FK (X + 10) μg μ' → FC5 X μ μ' := fun f b j h => by rw [f _ _ (by omega), fg _ _ (by omega)]
  apply g_X10_isStruck_10
  rw [S.1.f3.1, S.1.f4.1]
  refine fun _ => ⟨S.1.k, S.2.2.1.k, sp_X2_seek S.2.2.1 S.2.1 (by omega) Ln ⟨en, fun _ => rfl, fun _ => rfl, fun _ => rfl, fun _ => rfl⟩ rb' fw (Or.inl rfl) (fun μ1 i j k s f1 hi hj hk CS' lo ok => ?_) (fun μ1 f1 nfe => ?_)⟩
  · apply g_X10_isStruck_22
    have lx := LX.low (h := μg (X + 4 + 1)) (v := μg (X + 4 + 2)) (m := μg (X + 4 + 3)) (c := μg (X + 4 + 4)) lo hi hj hk ok
    exact fun _ _ => ⟨Or.inr rfl, h1 μ1 (fr f1) (iff.mp ⟨_, _, _, _, lx.1⟩)⟩
  · apply g_X10_isStruck_22
    exact fun _ _ => ⟨Or.inl rfl, h0 μ1 (fr f1) (fun z => nfe (iff.mpr z))⟩
/-- what the reference needs -/
def WM (μ σ : m_M) (M a : Int) : Prop := MA σ a ∧ MG σ a ∧ AB σ a ∧ ho σ a = -1 ∧ 0 ≤ σ 23 a ∧ σ 23 a ≤ 20 ∧ 1 ≤ σ 24 a ∧ σ 24 a ≤ 20 ∧ SF μ M σ ∧ jk σ a (μ (M + 25)) (σ 15 a + 1)
theorem WM.r5 {μ μ' σ : m_M} {M a : Int} (H : WM μ σ M a) (f : FR5 M μ μ') : WM μ' σ M a := by
  obtain ⟨h1, h2, h3, h4, h5, h6, h7, h8, h9, h10⟩ := H
  refine ⟨h1, h2, h3, h4, h5, h6, h7, h8, h9.r5 f, ?_⟩
  have e : μ' (M + 25) = μ (M + 25) := by funext j; exact f _ _ (by omega) (by omega) (by omega) (by omega) (by omega)
  rw [e]; exact h10
theorem sp_X12_strikes {Q Y : m_Po} {ε : m_E} {μ σ : m_M} {M a i j : Int} (L : LM ε M) (W : WM μ σ M a) (i0 : 0 ≤ i) (ij : i ≤ j) (jn : j < σ 15 a) (h1 : ∀ μ', FR5 M μ μ' → Stk σ a i j → Q 1 ε μ') (h0 : ∀ μ', FR5 M μ μ' → ¬ Stk σ a i j → Q 0 ε μ') : o_X12_strikes [(2, M), (0, a), (0, i), (0, j)] ε μ Q Y := by
  obtain ⟨na, ng, nB, hho, p0, p1, q0, q1, SF', J'⟩ := W
  have n1 := na.2.2.1
  have n10 := na.2.2.2.1
  obtain ⟨t, ht⟩ : ∃ t : Nat, (j - i + 2).toNat = t + 1 := ⟨(j - i + 1).toNat, by omega⟩
  have hT : ((t + 1 : Nat) : Int) = j - i + 2 := by omega
  have I := gi_of (ne := neR σ a (-1)) (fa := inR σ a (-1)) (sl := slR σ a 1) (lo := 0) (i0 := i) (P := 4) (t := t + 1) na nB ng hho p0 p1 q0 q1 (nR_ok (Or.inl ⟨rfl, by decide⟩)) (by decide) (by decide) i0 (by omega)
  apply e_X12_strikes
  refine fun _ _ _ _ => ⟨L.k, tells_in (T := t + 1) L SF' na nB ng hho J' i0 ij jn (Or.inl rfl) hT (fun μ1 f1 L1 => ?_)⟩
  have en : μ1 M 35 = ((lst σ a i 1 0 (-1) (t + 1) ++ frm (σ 15 a + 1)).length : Int) := L1.1
  have L1' : RLg ((lst σ a i 1 0 (-1) (t + 1) ++ frm (σ 15 a + 1)).length : Int) (μ1 (M + 30)) (μ1 (M + 26)) (μ1 (M + 27)) (μ1 (M + 28)) (μ1 (M + 29)) (lst σ a i 1 0 (-1) (t + 1) ++ frm (σ 15 a + 1)) := by
    rw [← en]; exact L1
  obtain ⟨fw, _, pf⟩ := rows_fw L1' I
  obtain ⟨fm, _⟩ := fmb4 L1' I
  have iff : Fe (μ1 (M + 26)) (μ1 (M + 27)) (μ1 (M + 28)) (μ1 (M + 29)) _ ↔ Stk σ a i j := FeL.iff (L2.app (by unfold skl; rw [ht]; exact L2.rf) l2_frm) L1'
  have fr : ∀ {μ'}, FS M μ1 μ' → FR5 M μ μ' := fun f b j h h2 h3 h4 h5 => by rw [f _ _ h2 h3 h4 (by omega), f1 _ _ (by omega) h]
  apply g_X12_strikes_10
  refine fun _ => ⟨L.k, sp_X12_isSafe L (lst_len (by omega)) ⟨en, fun _ => rfl, fun _ => rfl, fun _ => rfl, fun _ => rfl⟩ fm pf (fun μ2 T f2 fe _ _ _ _ _ => ?_) (fun μ2 f2 nfe => ?_)⟩
  · apply g_X12_strikes_14
    exact fun _ _ => ⟨Or.inr rfl, h1 μ2 (fr f2) (iff.mp fe)⟩
  · apply g_X12_strikes_14
    exact fun _ _ => ⟨Or.inl rfl, h0 μ2 (fr f2) (fun z => nfe (iff.mpr z))⟩
