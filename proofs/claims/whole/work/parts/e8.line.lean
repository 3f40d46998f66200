set_option maxHeartbeats 2000000
/-! ===== pair of calls: line ===== -/
def lf (l : List Rw) (h v m i : Int) : Option Int := if (lat l i).2.1 * h + (lat l i).2.2.1 * v + (lat l i).2.2.2.1 * m + (lat l i).2.2.2.2 < 0 then some (lat l i).1 else none
def fbr (l : List Rw) (h v m : Int) : Int := match fs (lf l h v m) 0 l.length with
  | some z => z
  | none => -1
theorem RLg.lat {n : Int} {cd h v m c : Int → Int} {l : List Rw} (H : RLg n cd h v m c l) {i : Int} (i0 : 0 ≤ i) (i1 : i < n) : cd i = (lat l i).1 ∧ h i = (lat l i).2.1 ∧ v i = (lat l i).2.2.1 ∧ m i = (lat l i).2.2.2.1 ∧ c i = (lat l i).2.2.2.2 := by
  obtain ⟨x, e, _, r⟩ := H.at i0 i1
  have : Jvm.Pilot.CArchYardLaw_law_r4426_3bcbf1.lat l i = x := by
    unfold Jvm.Pilot.CArchYardLaw_law_r4426_3bcbf1.lat; rw [e]; rfl
  rw [this]; exact r
theorem val_ab {a b c d h v m : Int} (ba : ab a 8000) (bb : ab b 8000) (bc : ab c 4) (bd' : ab d 8000000000000) (hh : ab h 1000000000) (hv : ab v 1000000000) (hm : ab m 1000000000) : w64 (w64 (w64 (w64 (a * h) + w64 (b * v)) + w64 (c * m)) + d) = a * h + b * v + c * m + d := by
  have p1 := abm ba hh
  have p2 := abm bb hv
  have p3 := abm bc hm
  have s1 := ab_ad p1 p2
  have s2 := ab_ad s1 p3
  have s3 := ab_ad s2 bd'
  rw [w64_ab p1 (by decide), w64_ab p2 (by decide), w64_ab p3 (by decide), w64_ab s1 (by decide), w64_ab s2 (by decide), w64_ab s3 (by decide)]
theorem sp_X1_firstBelow {Q Y : m_Po} {ε : m_E} {μ : m_M} {B h v m : Int} {l : List Rw} (L : LB ε B) (H : RLc μ B l) (hl : l.length ≤ 48) (hb : ∀ i : Int, 0 ≤ i → i < l.length → ab (lat l i).2.1 8000 ∧ ab (lat l i).2.2.1 8000 ∧ ab (lat l i).2.2.2.1 4 ∧ ab (lat l i).2.2.2.2 8000000000000) (hh : ab h 1000000000) (hv : ab v 1000000000) (hm : ab m 1000000000) (K : Q (fbr l h v m) ε μ) : o_X1_firstBelow [(2, B), (1, h), (1, v), (1, m)] ε μ Q Y := by
  have en : μ B 5 = (l.length : Int) := H.1
  have O : ∀ (d : Nat) (i : Int), 0 ≤ i → i + d = l.length → (∀ z, fs (lf l h v m) i d = some z → Q z ε μ) → (fs (lf l h v m) i d = none → Q (-1) ε μ) → G cd_X1_firstBelow Q Y 3 [(0, (2, B)), (1, (1, h)), (3, (1, v)), (5, (1, m)), (7, (0, i))] [] ε μ := by
    intro d
    induction d with
    | zero =>
      intro i i0 hi _ K0
      apply g_X1_firstBelow_3
      exact fun _ _ _ _ _ => ⟨L.k, fun _ => K0 rfl, fun q => absurd q (by omega)⟩
    | succ d ih =>
      intro i i0 hi K1 K0
      obtain ⟨x0, x1, x2, x3, x4⟩ := RLg.lat H i0 (by rw [en]; omega)
      obtain ⟨y1, y2, y3, y4⟩ := hb i i0 (by omega)
      apply g_X1_firstBelow_3
      rw [L.f0.1, L.f1.1, L.f2.1, L.f3.1, L.f4.1, x0, x1, x2, x3, x4, val_ab y1 y2 y3 y4 hh hv hm]
      refine fun _ _ _ _ _ => ⟨L.k, fun q => absurd q (by omega), fun _ => ⟨fun q => absurd q (by omega), fun _ => ⟨L.f0.2.1, i0, by rw [L.f0.2.2]; omega, L.f1.2.1, by rw [L.f1.2.2]; omega, L.f2.2.1, by rw [L.f2.2.2]; omega, L.f3.2.1, by rw [L.f3.2.2]; omega, fun q w hw => ?_, fun q => ⟨L.f4.2.1, by rw [L.f4.2.2]; omega, ?_⟩⟩⟩⟩
      · rw [w32_id (show i32 (i + 1) by unfold i32; omega)] at hw
        rw [hw]
        have z : lf l h v m i = none := if_neg (by omega)
        rw [fs_miss z] at K0 K1
        exact ih (i + 1) (by omega) (by omega) K1 K0
      · exact K1 _ (fs_hit (if_pos q))
  apply e_X1_firstBelow
  intro _ _ _ _ w hw
  rw [hw]
  unfold fbr at K
  refine O l.length 0 (by decide) (by omega) (fun z hz => ?_) (fun hz => ?_)
  · rw [hz] at K; exact K
  · rw [hz] at K; exact K
theorem sp_X12_line_67 {Q Y : m_Po} {ε : m_E} {μ : m_M} {M h v m : Int} {l : List Rw} (L : LM ε M) (H : RMm μ M l) (hl : l.length ≤ 48) (hb : ∀ i : Int, 0 ≤ i → i < l.length → ab (lat l i).2.1 8000 ∧ ab (lat l i).2.2.1 8000 ∧ ab (lat l i).2.2.2.1 4 ∧ ab (lat l i).2.2.2.2 8000000000000) (hh : ab h 1000000000) (hv : ab v 1000000000) (hm : ab m 1000000000) (K : Q (fbr l h v m) ε μ) : G cd_X12_line Q Y 67 [(0, (2, M)), (3, (0, h)), (4, (0, v)), (5, (0, m)), (6, (0, 0))] [] ε μ := by
  have en : μ M 35 = (l.length : Int) := H.1
  have O : ∀ (d : Nat) (i : Int), 0 ≤ i → i + d = l.length → (∀ z, fs (lf l h v m) i d = some z → Q z ε μ) → (fs (lf l h v m) i d = none → Q (-1) ε μ) → G cd_X12_line Q Y 67 [(0, (2, M)), (3, (0, h)), (4, (0, v)), (5, (0, m)), (6, (0, i))] [] ε μ := by
    intro d
    induction d with
    | zero =>
      intro i i0 hi _ K0
      apply g_X12_line_67
      exact fun _ _ _ _ _ => ⟨L.k, fun _ => K0 rfl, fun q => absurd q (by omega)⟩
    | succ d ih =>
      intro i i0 hi K1 K0
      obtain ⟨x0, x1, x2, x3, x4⟩ := RLg.lat H i0 (by rw [en]; omega)
      obtain ⟨y1, y2, y3, y4⟩ := hb i i0 (by omega)
      apply g_X12_line_67
      rw [L.f30.1, L.f31.1, L.f32.1, L.f33.1, L.f34.1, x0, x1, x2, x3, x4, val_ab y1 y2 y3 y4 hh hv hm]
      refine fun _ _ _ _ _ => ⟨L.k, fun q => absurd q (by omega), fun _ => ⟨L.f30.2.1, i0, by rw [L.f30.2.2]; omega, L.f31.2.1, by rw [L.f31.2.2]; omega, L.f32.2.1, by rw [L.f32.2.2]; omega, L.f33.2.1, by rw [L.f33.2.2]; omega, fun q w hw => ?_, fun q => ⟨L.f34.2.1, by rw [L.f34.2.2]; omega, ?_⟩⟩⟩
      · rw [w32_id (show i32 (i + 1) by unfold i32; omega)] at hw
        rw [hw]
        have z : lf l h v m i = none := if_neg (by omega)
        rw [fs_miss z] at K0 K1
        exact ih (i + 1) (by omega) (by omega) K1 K0
      · exact K1 _ (fs_hit (if_pos q))
  unfold fbr at K
  refine O l.length 0 (by decide) (by omega) (fun z hz => ?_) (fun hz => ?_)
  · rw [hz] at K; exact K
  · rw [hz] at K; exact K
def far9 (v : Int) : Prop := v < -1000000000 ∨ 1000000000 < v
theorem sp_X12_isBeyond {Q Y : m_Po} {ε : m_E} {μ : m_M} {v : Int} (h1 : far9 v → Q 1 ε μ) (h0 : ¬ far9 v → Q 0 ε μ) : o_X12_isBeyond [(0, v)] ε μ Q Y := by
  apply e_X12_isBeyond
  intro _ _ t ht
  unfold far9 at *
  by_cases a : v < -1000000000
  · rw [if_pos a] at ht; rw [ht]; exact h1 (Or.inl a)
  · rw [if_neg a] at ht
    by_cases b : v ≤ 1000000000
    · rw [if_pos b] at ht; rw [ht]; exact h0 (by omega)
    · rw [if_neg b] at ht; rw [ht]; exact h1 (by omega)
theorem sp_X10_isFar9 {Q Y : m_Po} {ε : m_E} {μ : m_M} {v : Int} (h1 : far9 v → Q 1 ε μ) (h0 : ¬ far9 v → Q 0 ε μ) : o_X10_isFar [(0, v), (0, 1000000000)] ε μ Q Y := by
  apply e_X10_isFar
  intro _ _ _ t ht
  rw [show w32 (-1000000000) = -1000000000 by decide] at ht
  unfold far9 at *
  by_cases a : v < -1000000000
  · rw [if_pos a] at ht; rw [ht]; exact h1 (Or.inl a)
  · rw [if_neg a] at ht
    by_cases b : v ≤ 1000000000
    · rw [if_pos b] at ht; rw [ht]; exact h0 (by omega)
    · rw [if_neg b] at ht; rw [ht]; exact h1 (by omega)
theorem line_31 {Q Y : m_Po} {ε : m_E} {μ : m_M} {M i w h v m : Int} (K : ∀ more, (more = 0 ∧ ¬ far9 h ∧ ¬ far9 v ∧ ¬ far9 m) ∨ (more = 1 ∧ (far9 h ∨ far9 v ∨ far9 m)) → G cd_X12_line Q Y 31 [(0, (2, M)), (1, (0, i)), (2, (0, w)), (3, (0, h)), (4, (0, v)), (5, (0, m))] [(0, more), (0, w), (0, i), (2, M)] ε μ) : o_X12_line [(2, M), (0, i), (0, w), (0, h), (0, v), (0, m)] ε μ Q Y := by
  have B : (far9 h ∨ far9 v ∨ far9 m) → G cd_X12_line Q Y 26 [(0, (2, M)), (1, (0, i)), (2, (0, w)), (3, (0, h)), (4, (0, v)), (5, (0, m))] [(0, w), (0, i), (2, M)] ε μ := fun q => by
    apply g_X12_line_26
    exact fun _ _ _ _ _ _ _ _ => K 1 (Or.inr ⟨rfl, q⟩)
  apply e_X12_line
  refine fun _ _ _ _ _ _ => sp_X12_isBeyond (fun q => ?_) (fun q => ?_)
  · apply g_X12_line_7
    exact fun _ _ _ _ _ _ _ _ _ => ⟨fun _ => B (Or.inl q), fun z => absurd z (by decide)⟩
  · apply g_X12_line_7
    refine fun _ _ _ _ _ _ _ _ _ => ⟨fun z => absurd rfl z, fun _ => sp_X12_isBeyond (fun r => ?_) (fun r => ?_)⟩
    · apply g_X12_line_15
      exact fun _ _ _ _ _ _ _ _ _ => ⟨fun _ => B (Or.inr (Or.inl r)), fun z => absurd z (by decide)⟩
    · apply g_X12_line_15
      refine fun _ _ _ _ _ _ _ _ _ => ⟨fun z => absurd rfl z, fun _ => sp_X12_isBeyond (fun u => ?_) (fun u => ?_)⟩
      · apply g_X12_line_23
        exact fun _ _ _ _ _ _ _ _ _ => ⟨fun z => absurd z (by decide), fun _ => B (Or.inr (Or.inr u))⟩
      · apply g_X12_line_23
        exact fun _ _ _ _ _ _ _ _ _ => ⟨fun _ => K 0 (Or.inl ⟨rfl, q, r, u⟩), fun z => absurd rfl z⟩
theorem lst_rb {σ : m_M} {a sl kf : Int} {t : Nat} (I : GI (neR σ a (-1)) (inR σ a (-1)) (JJ σ a) (slR σ a sl) (Wf σ a 1 0) (Tf σ a 1 0) (σ 23 a) (σ 24 a) 0 t 4) : ∀ i : Int, 0 ≤ i → i < (lst σ a 0 sl 1 (-1) t ++ frm kf).length → ab (lat (lst σ a 0 sl 1 (-1) t ++ frm kf) i).2.1 8000 ∧ ab (lat (lst σ a 0 sl 1 (-1) t ++ frm kf) i).2.2.1 8000 ∧ ab (lat (lst σ a 0 sl 1 (-1) t ++ frm kf) i).2.2.2.1 4 ∧ ab (lat (lst σ a 0 sl 1 (-1) t ++ frm kf) i).2.2.2.2 8000000000000 := fun i i0 i1 => (fmb4 (rlg_self (lst σ a 0 sl 1 (-1) t ++ frm kf)) I).2 i i0 i1
theorem lst_len {σ : m_M} {a i0 sl lo nw kf : Int} {t : Nat} (h : t ≤ 11) : (lst σ a i0 sl lo nw t ++ frm kf).length ≤ 48 := by
  have := gs_len (ne := neR σ a nw) (fa := inR σ a nw) (J := JJ σ a) (sl := slR σ a sl) (W := Wf σ a lo i0) (T := Tf σ a lo i0) (p := σ 23 a) (q := σ 24 a) (i0 := i0) t
  rw [List.length_append]
  have fl4 : (frm kf).length = 4 := rfl
  have e : (lst σ a i0 sl lo nw t).length ≤ 4 * t := this
  omega
theorem pr_line {ε : m_E} {μ : m_M} {X i w h v m : Int} {codes : Int → Int} (c1 : codes 1 = 1) (c2 : codes 2 = 2) (c3 : codes 3 = 3) (H : Rel ε μ X) : PAIR (fun ε μ Q Y => o_X10_line [(2, X), (0, i), (0, w), (0, h), (0, v), (0, m)] ε μ Q Y) (fun ε μ Q Y => o_X12_line [(2, X + 34), (0, i), (0, w), (0, h), (0, v), (0, m)] ε μ Q Y) codes ε μ X := by
  intro QC XC hq hx
  have H' := H
  obtain ⟨ow, R, S, G', J, P, C⟩ := H
  have e27 : sgM μ (X + 34) 0 27 = μ (X + 34) 27 := by unfold sgM; rw [Int.add_zero]
  apply e_X10_line
  intro T _ _ _ _ _
  have a12 := C.2.2.2.1.2.2.1
  have N : ∀ μ2 : m_M, (∀ b j, b ≤ X + 140 → μ2 b j = μ b j) → 0 ≤ i → i < μ2 (X + 34) 27 → MA (sgM μ (X + 34)) i ∧ MG (sgM μ (X + 34)) i := fun μ2 m2 a b => by
    rw [m2 _ _ (by omega)] at b
    obtain ⟨na, ng, _, _⟩ := (C.2.2.2.1.2.2.2 i a (by omega)).need T C.2.2.1 a (by omega)
    exact ⟨na, ng⟩
  have f140 : ∀ {μ2 : m_M}, (∀ b j, b ≠ X + 141 → μ2 b j = μ b j) → ∀ b j, b ≤ X + 140 → μ2 b j = μ b j := fun f b j h => f b j (by omega)
  refine ⟨S.1.k, sp_X10_archAt S C.2.2.2.1 (fun q z hz => hx 1 _ _ (by rw [c1]; decide) ?_) (fun q r K => ?_)⟩
  · rw [c1]
    refine aft_thr H' (by decide) EX.nx (fun μ2 Q Y f2 G2 K => ?_)
    have e' := f140 f2 (X + 34) 27 (by omega)
    refine line_31 (fun more hmore => ?_)
    apply g_X12_line_31
    refine fun _ _ _ _ _ _ _ _ _ => ⟨G2.1.k, sp_X12_isJudged G2.1 (SF.of (f140 f2)) (N μ2 (f140 f2)) (fun _ => ?_) (fun a b => by omega) (fun a b => by omega) (fun a b => by omega)⟩
    apply g_X12_line_34
    exact fun _ _ _ _ _ _ _ => ⟨fun z => absurd rfl z, fun _ => K⟩
  · obtain ⟨na, ng, nB, nf⟩ := K.need T C.2.2.1 q (by omega)
    have x := K.2.1
    have n10 := K.n
    obtain ⟨_, _, _, _, _, _, _, _, _, _, _, _, _, _, p0, p1, q0, q1, sp0, _⟩ := K
    -- a refusal for how, or for a number
    have thr : (w ≠ 0 ∧ w ≠ 1) ∨ far9 h ∨ far9 v ∨ far9 m → ∀ z : Int, nx ε ≤ z → XC 2 (enx ε z) μ := fun why z hz => by
      refine hx 2 _ _ (by rw [c2]; decide) ?_
      rw [c2]
      refine aft_thr H' (by decide) EX.nx (fun μ2 Q Y f2 G2 K => ?_)
      have e' := f140 f2 (X + 34) 27 (by omega)
      refine line_31 (fun more hmore => ?_)
      apply g_X12_line_31
      have bad' : w < 0 ∨ 1 < w ∨ more ≠ 0 := by
        rcases hmore with ⟨z, z1, z2, z3⟩ | ⟨z, _⟩
        · rcases why with y | y | y | y
          · omega
          · exact absurd y z1
          · exact absurd y z2
          · exact absurd y z3
        · omega
      refine fun _ _ _ _ _ _ _ _ _ => ⟨G2.1.k, sp_X12_isJudged G2.1 (SF.of (f140 f2)) (N μ2 (f140 f2)) (fun a => by omega) (fun _ _ _ => ?_) (fun a b c d e => by omega) (fun a b c d e => by omega)⟩
      apply g_X12_line_34
      rw [st_st]
      exact fun _ _ _ _ _ _ _ => ⟨fun z => absurd rfl z, fun _ => K⟩
    apply g_X10_line_5
    intro _ _ _ _ _ v6 h6
    subst h6
    refine sp_X10_requireHow (fun hw => ?_) (fun w0 w1 => thr (Or.inl ⟨w0, w1⟩))
    apply g_X10_line_11
    refine fun _ _ _ _ _ => sp_X10_isFar9 (fun fh => ?_) (fun fh => ?_)
    · apply g_X10_line_17
      exact fun _ _ _ _ _ _ => ⟨fun _ => thr (Or.inr (Or.inl fh)), fun z => absurd z (by decide)⟩
    apply g_X10_line_17
    refine fun _ _ _ _ _ _ => ⟨fun z => absurd rfl z, fun _ => sp_X10_isFar9 (fun fv => ?_) (fun fv => ?_)⟩
    · apply g_X10_line_27
      exact fun _ _ _ _ _ _ => ⟨fun _ => thr (Or.inr (Or.inr (Or.inl fv))), fun z => absurd z (by decide)⟩
    apply g_X10_line_27
    refine fun _ _ _ _ _ _ => ⟨fun z => absurd rfl z, fun _ => sp_X10_isFar9 (fun fm => ?_) (fun fm => ?_)⟩
    · apply g_X10_line_37
      exact fun _ _ _ _ _ _ => ⟨fun z => absurd z (by decide), fun _ => thr (Or.inr (Or.inr (Or.inr fm)))⟩
    have bh : ab h 1000000000 := by unfold far9 at fh; unfold ab; omega
    have bv' : ab v 1000000000 := by unfold far9 at fv; unfold ab; omega
    have bm : ab m 1000000000 := by unfold far9 at fm; unfold ab; omega
    apply g_X10_line_37
    refine fun _ _ _ _ _ _ => ⟨fun _ => sp_X10_requireWhole nf ng sp0 (fun μ1 f1 s1 hho s16 => ?_) (fun μ1 f1 s1 hho z hz => hx 3 _ _ (by rw [c3]; decide) ?_), fun z => absurd rfl z⟩
    · have F1 := nf.fa f1
      have hT : (((sgM μ (X + 34) 15 i).toNat + 1 : Nat) : Int) = sgM μ (X + 34) 15 i + 1 := by omega
      have Ln : ∀ sl, (lst (sgM μ (X + 34)) i 0 sl 1 (-1) ((sgM μ (X + 34) 15 i).toNat + 1) ++ frm (sgM μ (X + 34) 15 i + 1)).length ≤ 48 := fun sl => lst_len (by omega)
      have I : ∀ sl, GI (neR (sgM μ (X + 34)) i (-1)) (inR (sgM μ (X + 34)) i (-1)) (JJ (sgM μ (X + 34)) i) (slR (sgM μ (X + 34)) i sl) (Wf (sgM μ (X + 34)) i 1 0) (Tf (sgM μ (X + 34)) i 1 0) (sgM μ (X + 34) 23 i) (sgM μ (X + 34) 24 i) 0 ((sgM μ (X + 34) 15 i).toNat + 1) 4 := fun sl => gi_of na nB ng hho p0 p1 q0 q1 (nR_ok (Or.inl ⟨rfl, by decide⟩)) (by decide) (by decide) (by decide) (by omega)
      apply g_X10_line_55
      rw [S.1.f3.1]
      refine fun _ _ _ _ _ => ⟨S.1.k, fun sl hsl => ⟨S.2.1.k, gather_in S.2.1 (by omega) na nB ng hho F1 s1 s16 hT (fun μg fg Lg => ?_)⟩⟩
      apply g_X10_line_73
      rw [S.1.f3.1]
      refine fun _ _ _ _ => ⟨S.1.k, S.2.1.k, sp_X1_firstBelow S.2.1 Lg (Ln sl) (lst_rb (I sl)) bh bv' bm ?_⟩
      apply g_X10_line_88
      refine fun _ _ => hq _ _ _ ⟨EX.rf, fun b j h => ?_, fun μ2 f2 Q Y K2 => ?_⟩
      · rw [fg _ _ (by omega), f1 _ _ (by omega) (by omega) (by omega)]
      have m2 : ∀ b j, (b < X + 4 ∨ (X + 9 < b ∧ b ≠ X + 141)) → b ≠ μ (X + 3) i + 8 → b ≠ μ (X + 3) i + 9 → ¬ (b = μ (X + 3) i ∧ j = 16) → μ2 b j = μ b j := fun b j h h1 h2 h3 => by rw [f2 _ _ (by omega), fg _ _ (by omega), f1 _ _ h1 h2 h3]
      have m2' : ∀ b j, X + 34 ≤ b → b ≤ X + 140 → μ2 b j = μ b j := fun b j h h' => m2 b j (by omega) (by omega) (by omega) (by omega)
      have SF2 : SF μ2 (X + 34) (sgM μ (X + 34)) := fun o j o1 o2 => m2' _ _ (by omega) (by omega)
      have LM2 : LM ε (X + 34) := G'.1
      have e' := m2' (X + 34) 27 (by omega) (by omega)
      refine line_31 (fun more hmore => ?_)
      have more0 : more = 0 := by
        rcases hmore with z | ⟨_, z | z | z⟩
        · exact z.1
        · exact absurd z fh
        · exact absurd z fv
        · exact absurd z fm
      apply g_X12_line_31
      refine fun _ _ _ _ _ _ _ _ _ => ⟨LM2.k, sp_X12_isJudged LM2 SF2 (fun _ _ => ⟨na, ng⟩) (fun a => by omega) (fun a b c => by omega) (fun _ _ _ _ _ d => absurd hho d) (fun _ _ _ _ _ _ μ3 f3 j3 => ?_)⟩
      apply g_X12_line_34
      have g3 : ∀ b j, b ≠ X + 34 + 25 → ¬ (b = X + 34 ∧ j = 0) → st μ3 (X + 34) 0 0 b j = μ2 b j := fun b j h h' => by rw [st, if_neg h', f3 b j h, st, if_neg h']
      have e15 : st μ3 (X + 34) 0 0 (X + 34 + 15) i = sgM μ (X + 34) 15 i := by rw [g3 _ _ (by omega) (by omega), m2' _ _ (by omega) (by omega)]; rfl
      rw [LM2.f17.1, e15, w32_id (show i32 (sgM μ (X + 34) 15 i - 1) by unfold i32; omega)]
      refine fun _ _ _ _ _ _ _ => ⟨fun _ => ⟨LM2.k, LM2.f17.2.1, q, by rw [LM2.f17.2.2]; omega, fun t1 ht1 => ⟨LM2.k, ?_⟩⟩, fun z => absurd z (by decide)⟩
      have et : t1 = sl := by rw [ht1, hsl]
      subst et
      refine tells_in (T := (sgM μ (X + 34) 15 i).toNat + 1) LM2 (fun o j o1 o2 => by rw [g3 _ _ (by omega) (by omega)]; exact SF2 o j o1 o2) na nB ng hho (by
        have e25 : st μ3 (X + 34) 0 0 (X + 34 + 25) = μ3 (X + 34 + 25) := by funext j; exact sx_oa (by omega)
        rw [e25]; exact j3) (by decide) (by omega) (by omega) (Or.inl rfl) (by omega) (fun μ4 f4 L4 => ?_)
      apply g_X12_line_64
      intro _ _ _ _ v6 h6
      rw [h6]
      refine sp_X12_line_67 LM2 L4 (Ln t1) (lst_rb (I t1)) bh bv' bm ?_
      have g4 : ∀ b j, b ≠ X + 34 + 25 → ¬ (b = X + 34 ∧ (j = 0 ∨ j = 35)) → (b < X + 34 + 26 ∨ X + 34 + 30 < b) → μ4 b j = μ2 b j := fun b j h h' h'' => by rw [f4 b j (by omega) h'', g3 b j h (by omega)]
      refine K2 _ _ (fun c j h => g4 _ _ (by omega) (by omega) (by omega)) (Rel.fin S G' J P C EX.rf q r (fun b j h h1 h2 h3 => ?_) (s1.fr (fun b j h => ?_))) (by rw [f4 _ _ (by omega) (by omega), sx_same]) (fun _ => rfl) (fun j => g4 _ _ (by omega) (by omega) (by omega))
      · rw [g4 b j (fun z => h (by unfold sc2; omega)) (fun z => h (by unfold sc2; omega)) (by
          rcases Int.lt_or_le b (X + 34 + 26) with y | y
          · exact Or.inl y
          · rcases Int.lt_or_le (X + 34 + 30) b with y' | y'
            · exact Or.inr y'
            · exact absurd (show sc2 X b j by unfold sc2; omega) h), m2 b j (by
          rcases Int.lt_or_le b (X + 4) with y | y
          · exact Or.inl y
          · rcases Int.lt_or_le (X + 9) b with y' | y'
            · exact Or.inr ⟨y', fun z => h (by unfold sc2; omega)⟩
            · exact absurd (show sc2 X b j by unfold sc2; omega) h) h1 h2 h3]
      · rw [g4 _ _ (by omega) (by omega) (by omega), f2 _ _ (by omega), fg _ _ (by omega)]
    · rw [c3]
      refine aft_hole S G' J P C EX.nx q r f1 s1 (by decide) (fun μ2 Q Y m2 G2 K3 => ?_)
      have e' := m2 (X + 34) 27 (by omega)
      refine line_31 (fun more hmore => ?_)
      have more0 : more = 0 := by
        rcases hmore with z | ⟨_, z | z | z⟩
        · exact z.1
        · exact absurd z fh
        · exact absurd z fv
        · exact absurd z fm
      apply g_X12_line_31
      refine fun _ _ _ _ _ _ _ _ _ => ⟨G2.1.k, sp_X12_isJudged G2.1 (SF.of m2) (fun _ _ => ⟨na, ng⟩) (fun a => by omega) (fun a b c => by omega) (fun _ _ _ _ _ _ μ3 f3 => ?_) (fun _ _ _ _ _ d => absurd d hho)⟩
      apply g_X12_line_34
      exact fun _ _ _ _ _ _ _ => ⟨fun z => absurd rfl z, fun _ => K3 μ3 f3⟩
