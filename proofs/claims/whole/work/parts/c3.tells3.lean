set_option maxHeartbeats 2000000
/-! ===== the reference's tells, whole ===== -/
theorem tl_105 {Q X : m_Po} {ε : m_E} {μ σ : m_M} {M a j sl lo nw k w t ax ay bx by_ : Int} {l : List Rw} (L : LM ε M) (hnw : nw = -1 ∨ (0 ≤ nw ∧ nw ≤ 64)) (k0 : 0 ≤ k) (k1 : k ≤ 10) (H : RMm μ M l) (hl : l.length < 47) (bw : ab w 7200000) (bt : ab t 5000000000) (b1 : ab ax 100) (b2 : ab ay 100) (b3 : ab bx 100) (b4 : ab by_ 100)
    (K : ∀ μ', FKp M μ μ' → RMm μ' M (l ++ [mrA k (neR σ a nw k * ax + inR σ a nw k * bx) (neR σ a nw k * ay + inR σ a nw k * by_) (neR σ a nw k + inR σ a nw k) w t, mrB k (inR σ a nw k * ax + neR σ a nw k * bx) (inR σ a nw k * ay + neR σ a nw k * by_) (neR σ a nw k + inR σ a nw k) w t]) → G cd_X12_tells Q X 266 [(0, (2, M)), (1, (0, a)), (3, (0, j)), (4, (0, sl)), (5, (0, lo)), (6, (0, nw)), (7, (1, w)), (9, (1, t)), (11, (0, k)), (12, (1, ax)), (14, (1, ay)), (16, (1, bx)), (18, (1, by_))] [] ε μ') :
    G cd_X12_tells Q X 105 [(0, (2, M)), (1, (0, a)), (3, (0, j)), (4, (0, sl)), (5, (0, lo)), (6, (0, nw)), (7, (1, w)), (9, (1, t)), (11, (0, k)), (12, (1, ax)), (14, (1, ay)), (16, (1, bx)), (18, (1, by_))] [(0, fl σ a k)] ε μ := by
  obtain ⟨o1, o2, o3, o4, o5⟩ := nf_ok (σ := σ) (a := a) (k := k) hnw
  have en : neR σ a nw k + inR σ a nw k = allR σ a nw k := by unfold neR; omega
  apply g_X12_tells_105
  refine fun _ _ _ _ _ _ _ _ _ _ _ _ _ _ v20 h20 t1 ht1 v21 h21 t2 ht2 v23 h23 => ⟨L.k, ?_⟩
  have e21 : v21 = allR σ a nw k := by
    rw [h21, ht1, h20]; rfl
  have e23 : v23 = inR σ a nw k := by
    rw [h23, ht2, h20, w64_id (show i64 (2 * nw) by unfold i64; omega), w64_id (show i64 (64 + nw) by unfold i64; omega)]; rfl
  clear h21 ht1 h20 h23 ht2
  subst e21 e23
  generalize neR σ a nw k = ne at *
  generalize inR σ a nw k = inn at *
  generalize allR σ a nw k = al at *
  have ba : ab al 256 := by unfold ab; omega
  have bi : ab inn 128 := by unfold ab; omega
  have ea : al = ne + inn := by omega
  have d1 := ab_sub b3 b1
  have d2 := ab_sub b4 b2
  have p1 := abm ba b1
  have p2 := abm bi d1
  have p3 := abm ba b2
  have p4 := abm bi d2
  have p5 := abm ba b3
  have p6 := abm ba b4
  rw [w32_id (show i32 (4 * k) by unfold i32; omega), w64_ab d1 (by decide), w64_ab d2 (by decide), w64_ab p1 (by decide), w64_ab p2 (by decide), w64_ab p3 (by decide), w64_ab p4 (by decide), w64_ab (ab_ad p1 p2) (by decide), w64_ab (ab_ad p3 p4) (by decide)]
  have x1 : al * ax + inn * (bx - ax) = ne * ax + inn * bx := by rw [ea]; grind
  have y1 : al * ay + inn * (by_ - ay) = ne * ay + inn * by_ := by rw [ea]; grind
  have x2 : al * bx - inn * (bx - ax) = inn * ax + ne * bx := by rw [ea]; grind
  have y2 : al * by_ - inn * (by_ - ay) = inn * ay + ne * by_ := by rw [ea]; grind
  rw [x1, y1]
  refine sp_X12_pointA L H (by omega) (cvx o1 o2 b1 b3 (by omega)) (cvx o1 o2 b2 b4 (by omega)) ba bw bt (fun μ1 f1 H1 => ?_)
  apply g_X12_tells_221
  rw [w32_id (show i32 (4 * k) by unfold i32; omega), w32_id (show i32 (4 * k + 1) by unfold i32; omega), w64_ab d1 (by decide), w64_ab d2 (by decide), w64_ab p2 (by decide), w64_ab p4 (by decide), w64_ab p5 (by decide), w64_ab p6 (by decide), w64_ab (ab_sub p5 p2) (by decide), w64_ab (ab_sub p6 p4) (by decide), x2, y2]
  refine fun _ _ _ _ _ _ _ _ _ _ _ _ _ _ _ => ⟨L.k, sp_X12_pointB L H1 (by rw [List.length_append]; simp; omega) (cvx o2 o1 b1 b3 (by omega)) (cvx o2 o1 b2 b4 (by omega)) ba bw bt (fun μ2 f2 H2 => K μ2 (f1.trans f2) ?_)⟩
  rw [en]
  rw [List.append_assoc] at H2
  exact H2
theorem tl_85 {Q X : m_Po} {ε : m_E} {μ σ : m_M} {M a j sl lo nw k w t ax ay bx by_ : Int} (L : LM ε M) (S : SE μ M σ) (A : MA σ a) (k1 : k ≤ 10)
    (K : G cd_X12_tells Q X 105 [(0, (2, M)), (1, (0, a)), (3, (0, j)), (4, (0, sl)), (5, (0, lo)), (6, (0, nw)), (7, (1, w)), (9, (1, t)), (11, (0, k)), (12, (1, ax)), (14, (1, ay)), (16, (1, bx)), (18, (1, by_))] [(0, fl σ a k)] ε μ) :
    G cd_X12_tells Q X 85 [(0, (2, M)), (1, (0, a)), (3, (0, j)), (4, (0, sl)), (5, (0, lo)), (6, (0, nw)), (7, (1, w)), (9, (1, t)), (11, (0, k)), (12, (1, ax)), (14, (1, ay)), (16, (1, bx)), (18, (1, by_))] [(0, kA σ a (k - 1))] ε μ := by
  have Y : fl σ a k = 1 → G cd_X12_tells Q X 100 [(0, (2, M)), (1, (0, a)), (3, (0, j)), (4, (0, sl)), (5, (0, lo)), (6, (0, nw)), (7, (1, w)), (9, (1, t)), (11, (0, k)), (12, (1, ax)), (14, (1, ay)), (16, (1, bx)), (18, (1, by_))] [] ε μ := fun z => by
    apply g_X12_tells_100
    rw [z] at K
    exact fun _ _ _ _ _ _ _ _ _ _ _ _ _ => K
  apply g_X12_tells_85
  refine fun _ _ _ _ _ _ _ _ _ _ _ _ _ _ => ⟨fun q => Y (if_pos q), fun q => ⟨L.k, sp_X12_kindAt L S.d A k1 ?_⟩⟩
  apply g_X12_tells_96
  refine fun _ _ _ _ _ _ _ _ _ _ _ _ _ _ => ⟨fun r => ?_, fun r => Y ?_⟩
  · have z : fl σ a k = 0 := by unfold fl; rw [if_neg (by omega), if_neg (by omega)]
    rw [z] at K
    exact K
  · unfold fl
    rw [if_neg (by omega), if_pos r]
/-- the list that tells leaves -/
def tel (σ : m_M) (a i0 j sl lo nw : Int) : Nat → List Rw := gs (neR σ a nw) (inR σ a nw) (σ 25) (slR σ a sl) (Wf σ a lo i0) (Tf σ a lo i0) (σ 23 a) (σ 24 a) i0
theorem tl_14 {Q X : m_Po} {ε : m_E} {σ : m_M} {M a j sl lo nw i0 : Int} {T : Nat} (L : LM ε M) (A : MA σ a) (B : AB σ a) (i00 : 0 ≤ i0) (ij : i0 ≤ j) (jn : j < σ 15 a) (hp : ∀ p, i0 ≤ p → p ≤ j → 0 ≤ σ 16 (10 * a + p)) (hJ : ∀ i, 4 * i0 ≤ i → i < 4 * (j + 2) → ab (σ 25 i) 100) (hnw : nw = -1 ∨ (0 ≤ nw ∧ nw ≤ 64)) (hT : (T : Int) = j - i0 + 2) :
    ∀ (d t : Nat), t + d = T → ∀ (μ : m_M) (w tt : Int), SE μ M σ → RMm μ M (tel σ a i0 j sl lo nw t) → (d ≠ 0 → w = Wf σ a lo i0 (i0 + t) ∧ tt = Tf σ a lo i0 (i0 + t)) → (∀ μ', FKp M μ μ' → RMm μ' M (tel σ a i0 j sl lo nw T ++ frm (σ 15 a + 1)) → Q 0 ε μ') →
    G cd_X12_tells Q X 14 [(0, (2, M)), (1, (0, a)), (3, (0, j)), (4, (0, sl)), (5, (0, lo)), (6, (0, nw)), (7, (1, w)), (9, (1, tt)), (11, (0, i0 + t))] [] ε μ := by
  have A' := A
  have B' := B
  obtain ⟨a0, a1, n1, n2, s, l0, l1⟩ := A
  intro d
  induction d with
  | zero =>
    intro t ht μ w tt S H _ K
    have : t = T := by omega
    subst this
    have len := gs_len (ne := neR σ a nw) (fa := inR σ a nw) (J := σ 25) (sl := slR σ a sl) (W := Wf σ a lo i0) (T := Tf σ a lo i0) (p := σ 23 a) (q := σ 24 a) (i0 := i0) t
    have len' : (tel σ a i0 j sl lo nw t).length ≤ 4 * t := len
    clear len
    generalize tel σ a i0 j sl lo nw t = l at *
    apply g_X12_tells_14
    rw [L.f17.1, S 15 _ (by decide) (by decide), w32_id (show i32 (j + 1) by unfold i32; omega), w32_id (show i32 (σ 15 a + 1) by unfold i32; omega), w32_id (show i32 (4 * (σ 15 a + 1)) by unfold i32; omega)]
    refine fun _ _ _ _ _ _ _ _ _ => ⟨fun _ => ⟨L.k, L.f17.2.1, a0, by rw [L.f17.2.2]; exact a1, fun v11 h11 => ?_⟩, fun q => absurd q (by omega)⟩
    subst h11
    refine sp_X12_keeps L H (by omega) (fun μ1 f1 H1 => ?_)
    apply g_X12_tells_527
    rw [w32_id (show i32 (4 * (σ 15 a + 1) + 1) by unfold i32; omega)]
    refine fun _ _ => ⟨L.k, sp_X12_keeps L H1 (by rw [List.length_append]; simp; omega) (fun μ2 f2 H2 => ?_)⟩
    apply g_X12_tells_543
    rw [w32_id (show i32 (4 * (σ 15 a + 1) + 2) by unfold i32; omega)]
    refine fun _ _ => ⟨L.k, sp_X12_keeps L H2 (by rw [List.length_append, List.length_append]; simp; omega) (fun μ3 f3 H3 => ?_)⟩
    apply g_X12_tells_557
    rw [w32_id (show i32 (4 * (σ 15 a + 1) + 3) by unfold i32; omega)]
    refine fun _ _ => ⟨L.k, sp_X12_keeps L H3 (by rw [List.length_append, List.length_append, List.length_append]; simp; omega) (fun μ4 f4 H4 => ?_)⟩
    apply g_X12_tells_573
    refine fun _ => K μ4 (((f1.trans f2).trans f3).trans f4) ?_
    have e : l ++ frm (σ 15 a + 1) = l ++ [((4 * (σ 15 a + 1), 1, 0, 0, 0) : Rw)] ++ [(4 * (σ 15 a + 1) + 1, -1, 0, 0, 1000000000)] ++ [(4 * (σ 15 a + 1) + 2, 0, 1, 0, 1000000000)] ++ [(4 * (σ 15 a + 1) + 3, 0, -1, 0, 1000000000)] := by
      unfold frm
      simp
    rw [e]
    exact H4
  | succ d ih =>
    intro t ht μ w tt S H hw K
    obtain ⟨hw1, hw2⟩ := hw (by omega)
    subst hw1 hw2
    have len := gs_len (ne := neR σ a nw) (fa := inR σ a nw) (J := σ 25) (sl := slR σ a sl) (W := Wf σ a lo i0) (T := Tf σ a lo i0) (p := σ 23 a) (q := σ 24 a) (i0 := i0) t
    have len' : (tel σ a i0 j sl lo nw t).length ≤ 4 * t := len
    clear len
    have bb := wf_ab (lo := lo) (k := i0 + t) A' B' i00 (by omega) (fun p p0 p1 => hp p p0 (by omega))
    have es : tel σ a i0 j sl lo nw (t + 1) = tel σ a i0 j sl lo nw t ++ gj (neR σ a nw) (inR σ a nw) (σ 25) (slR σ a sl) (Wf σ a lo i0) (Tf σ a lo i0) (σ 23 a) (σ 24 a) (i0 + t) := rfl
    have ih' := ih (t + 1) (by omega)
    rw [es] at ih'
    have ek1 : i0 + ((t + 1 : Nat) : Int) = i0 + t + 1 := by omega
    rw [ek1] at ih'
    generalize ek : i0 + (t : Int) = k at *
    generalize tel σ a i0 j sl lo nw t = l at *
    have k0 : 0 ≤ k := by omega
    have k10 : k ≤ 10 := by omega
    apply g_X12_tells_14
    rw [L.f28.1, w32_id (show i32 (j + 1) by unfold i32; omega), w32_id (show i32 (4 * k) by unfold i32; omega), w32_id (show i32 (4 * k + 1) by unfold i32; omega), w32_id (show i32 (4 * k + 2) by unfold i32; omega), w32_id (show i32 (4 * k + 3) by unfold i32; omega), w32_id (show i32 (k - 1) by unfold i32; omega), S 25 _ (by decide) (by decide), S 25 _ (by decide) (by decide), S 25 _ (by decide) (by decide), S 25 _ (by decide) (by decide)]
    refine fun _ _ _ _ _ _ _ _ _ => ⟨fun q => absurd q (by omega), fun _ => ⟨L.k, L.f28.2.1, by omega, by rw [L.f28.2.2]; omega, fun v12 h12 => ⟨by omega, by rw [L.f28.2.2]; omega, fun v14 h14 => ⟨L.k, L.f28.2.1, by omega, by rw [L.f28.2.2]; omega, fun v16 h16 => ⟨by omega, by rw [L.f28.2.2]; omega, fun v18 h18 => ⟨L.k, sp_X12_kindAt L S.d A' (by omega) ?_⟩⟩⟩⟩⟩⟩
    have b1 : ab v12 100 := by rw [h12]; exact hJ _ (by omega) (by omega)
    have b2 : ab v14 100 := by rw [h14]; exact hJ _ (by omega) (by omega)
    have b3 : ab v16 100 := by rw [h16]; exact hJ _ (by omega) (by omega)
    have b4 : ab v18 100 := by rw [h18]; exact hJ _ (by omega) (by omega)
    refine tl_85 L S A' k10 (tl_105 L hnw k0 k10 H (by omega) bb.1 bb.2 b1 b2 b3 b4 (fun μ1 f1 H1 => tl_266 L (S.fk f1) A' k0 k10 (tl_310 L (S.fk f1) A' B' k0 k10 H1 (by rw [List.length_append]; simp; omega) bb.1 b1 b2 b3 b4 (fun μ2 f2 H2 => ?_))))
    have S2 := (S.fk f1).fk f2
    have H3 : RMm μ2 M (l ++ gj (neR σ a nw) (inR σ a nw) (σ 25) (slR σ a sl) (Wf σ a lo i0) (Tf σ a lo i0) (σ 23 a) (σ 24 a) k) := by
      rw [List.append_assoc, h12, h14, h16, h18] at H2
      exact H2
    have Ke : ∀ w' t', (d ≠ 0 → w' = Wf σ a lo i0 (k + 1) ∧ t' = Tf σ a lo i0 (k + 1)) → G cd_X12_tells Q X 499 [(0, (2, M)), (1, (0, a)), (3, (0, j)), (4, (0, sl)), (5, (0, lo)), (6, (0, nw)), (7, (1, w')), (9, (1, t')), (11, (0, k))] [] ε μ2 := fun w' t' hw' => by
      apply g_X12_tells_499
      intro _ _ _ _ _ _ _ _ _ v11 h11
      rw [w32_id (show i32 (k + 1) by unfold i32; omega)] at h11
      rw [h11]
      exact ih' μ2 w' t' S2 H3 hw' (fun μ' f' H' => K μ' ((f1.trans f2).trans f') H')
    refine tl_358 L S2 A' B' i00 (by omega) (fun q => by omega) (by omega) hp (by omega) (fun q => Ke _ _ (fun _ => ⟨rfl, rfl⟩)) (fun q => Ke _ _ (fun z => absurd z (by omega)))
theorem sp_X12_tells {Q X : m_Po} {ε : m_E} {μ σ : m_M} {M a i0 j sl lo nw : Int} {T : Nat} (L : LM ε M) (S : SE μ M σ) (A : MA σ a) (B : AB σ a) (i00 : 0 ≤ i0) (ij : i0 ≤ j) (jn : j < σ 15 a) (hp : ∀ p, i0 ≤ p → p ≤ j → 0 ≤ σ 16 (10 * a + p)) (hJ : ∀ i, 4 * i0 ≤ i → i < 4 * (j + 2) → ab (σ 25 i) 100) (hnw : nw = -1 ∨ (0 ≤ nw ∧ nw ≤ 64)) (hT : (T : Int) = j - i0 + 2)
    (hh : ∀ μ', FKp M μ μ' → RMm μ' M (tel σ a i0 j sl lo nw T ++ frm (σ 15 a + 1)) → Q 0 ε μ') : o_X12_tells [(2, M), (0, a), (0, i0), (0, j), (0, sl), (0, lo), (0, nw)] ε μ Q X := by
  apply e_X12_tells
  refine fun _ _ _ _ _ _ _ => ⟨L.k, fun μ1 m1 v7 h7 v9 h9 v11 h11 => ?_⟩
  have f1 : FKp M μ μ1 := by rw [m1]; exact FKp.st (Or.inl ⟨rfl, rfl⟩)
  have R := tl_14 (Q := Q) (X := X) (sl := sl) (lo := lo) L A B i00 ij jn hp hJ hnw hT T 0 (by omega) μ1 v7 v9 (S.fk f1) (RLg.nil (by rw [m1, sx_same])) (fun _ => by
    rw [show i0 + ((0 : Nat) : Int) = i0 by omega]
    exact ⟨h7.trans cw_0.symm, h9.trans cw_0.symm⟩) (fun μ' f' H' => hh μ' (f1.trans f') H')
  rw [show i0 + ((0 : Nat) : Int) = v11 by rw [h11]; omega] at R
  exact R
