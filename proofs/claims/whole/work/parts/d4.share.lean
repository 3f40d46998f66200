set_option maxHeartbeats 1000000
/-! ===== the class's Shape: points, share, findSpan ===== -/
theorem sp_X6_pointsOf {Q X : m_Po} {ε : m_E} {μ : m_M} {p n : Int} (hk : kd ε p = 100) (hl : ln ε p = 2 * n) (n0 : 0 ≤ n) (n1 : n ≤ 1000) (hh : Q n ε μ) : o_X6_pointsOf [(2, p)] ε μ Q X := by
  apply e_X6_pointsOf
  rw [hl, Int.tdiv_eq_ediv_of_nonneg (by omega), show 2 * n / 2 = n by omega, w32_id (by unfold i32; omega)]
  exact fun _ => ⟨hk, hh⟩
theorem sp_X6_xOf {Q X : m_Po} {ε : m_E} {μ : m_M} {p n i : Int} (hk : kd ε p = 100) (hl : ln ε p = 2 * n) (n1 : 1 ≤ n) (n2 : n ≤ 1000) (i0 : 0 ≤ i) (hh : Q (μ p (2 * (i % n))) ε μ) : o_X6_xOf [(2, p), (0, i)] ε μ Q X := by
  have m0 := Int.emod_nonneg i (show n ≠ 0 by omega)
  have m1 := Int.emod_lt_of_pos i (show 0 < n by omega)
  apply e_X6_xOf
  rw [hl, Int.tdiv_eq_ediv_of_nonneg (by omega), show 2 * n / 2 = n by omega, w32_id (show i32 n by unfold i32; omega)]
  refine fun _ _ => ⟨hk, fun v2 h2 => ?_⟩
  rw [h2, Int.tmod_eq_emod_of_nonneg i0, w32_id (show i32 (2 * (i % n)) by unfold i32; omega)]
  refine ⟨fun _ _ => ⟨by omega, by omega, by omega⟩, fun t ht => ?_⟩
  rw [if_neg (by omega), if_pos i0] at ht
  rw [ht]; exact hh
theorem sp_X6_yOf {Q X : m_Po} {ε : m_E} {μ : m_M} {p n i : Int} (hk : kd ε p = 100) (hl : ln ε p = 2 * n) (n1 : 1 ≤ n) (n2 : n ≤ 1000) (i0 : 0 ≤ i) (hh : Q (μ p (2 * (i % n) + 1)) ε μ) : o_X6_yOf [(2, p), (0, i)] ε μ Q X := by
  have m0 := Int.emod_nonneg i (show n ≠ 0 by omega)
  have m1 := Int.emod_lt_of_pos i (show 0 < n by omega)
  apply e_X6_yOf
  rw [hl, Int.tdiv_eq_ediv_of_nonneg (by omega), show 2 * n / 2 = n by omega, w32_id (show i32 n by unfold i32; omega)]
  refine fun _ _ => ⟨hk, fun v2 h2 => ?_⟩
  rw [h2, Int.tmod_eq_emod_of_nonneg i0, w32_id (show i32 (2 * (i % n)) by unfold i32; omega), w32_id (show i32 (2 * (i % n) + 1) by unfold i32; omega)]
  refine ⟨fun _ _ => ⟨by omega, by omega, by omega⟩, fun t ht => ?_⟩
  rw [if_neg (by omega), if_pos i0] at ht
  rw [ht]; exact hh
/-- an array holds the points of what stands at a place (or of a pier) -/
def FP (ε : m_E) (μ σ : m_M) (a p adr : Int) : Prop := kd ε adr = 100 ∧ ∃ n, ln ε adr = 2 * n ∧ 2 ≤ n ∧ n ≤ 12 ∧ fcn σ a p = (if n = 2 then 1 else n) ∧ ∀ i, 0 ≤ i → i < fcn σ a p → μ adr (2 * (i % n)) = fA σ a p i 0 ∧ μ adr (2 * (i % n) + 1) = fA σ a p i 1 ∧ μ adr (2 * ((i + 1) % n)) = fA σ a p i 2 ∧ μ adr (2 * ((i + 1) % n) + 1) = fA σ a p i 3
theorem sp_X6_facesOf {Q X : m_Po} {ε : m_E} {μ σ : m_M} {a p adr : Int} (F : FP ε μ σ a p adr) (hh : Q (fcn σ a p) ε μ) : o_X6_facesOf [(2, adr)] ε μ Q X := by
  obtain ⟨hk, n, hl, n1, n2, e, _⟩ := F
  apply e_X6_facesOf
  refine fun _ => sp_X6_pointsOf hk hl (by omega) (by omega) ?_
  apply g_X6_facesOf_4
  intro _ _ v1 h1 t ht
  rw [ht, h1, ← e]
  exact hh
def FS4 (S k : Int) (μ μ' : m_M) : Prop := ∀ b j, ¬ (b = S ∧ 4 * k ≤ j ∧ j < 4 * k + 4) → μ' b j = μ b j
theorem ss_77 {Q X : m_Po} {ε : m_E} {μ : m_M} {S n k ax ay bx by_ cx cy dx dy : Int} (hS : kd ε S = 100) (lS : ln ε S = 4 * (n + 1)) (n10 : n ≤ 10) (k0 : 0 ≤ k) (k1 : k ≤ n) (b1 : ab ax 100) (b2 : ab ay 100) (b3 : ab bx 100) (b4 : ab by_ 100) (b5 : ab cx 100) (b6 : ab cy 100) (b7 : ab dx 100) (b8 : ab dy 100)
    (h0 : shr ax ay bx by_ cx cy dx dy = none → Q 0 ε μ) (h1 : ∀ x μ', shr ax ay bx by_ cx cy dx dy = some x → FS4 S k μ μ' → at4 (μ' S) (4 * k) x → Q 1 ε μ') :
    G cd_X6_share Q X 77 [(4, (2, S)), (5, (0, 4 * k)), (6, (0, ax)), (7, (0, ay)), (8, (0, bx - ax)), (9, (0, by_ - ay)), (10, (0, cx - ax)), (11, (0, cy - ay)), (12, (0, dx - ax))] [(0, dy)] ε μ := by
  have d1 := ab_sub b3 b1
  have d2 := ab_sub b4 b2
  have d5 := ab_sub b7 b1
  have d6 := ab_sub b8 b2
  have d7 := ab_sub b5 b1
  have d8 := ab_sub b6 b2
  have p1 := abm d1 d8
  have p2 := abm d2 d7
  have q1 := abm d1 d6
  have q2 := abm d2 d5
  have p3 := abm d1 d1
  have p4 := abm d2 d2
  have p5 := abm d1 d5
  have p6 := abm d2 d6
  have p7 := abm d1 d7
  have p8 := abm d2 d8
  apply g_X6_share_77
  intro _ _ _ _ _ _ _ _ _ _ v13 h13
  rw [w32_ab d6 (by decide)] at h13
  subst h13
  rw [w32_ab p1 (by decide), w32_ab p2 (by decide), w32_ab q1 (by decide), w32_ab q2 (by decide), w32_ab p3 (by decide), w32_ab p4 (by decide), w32_ab p5 (by decide), w32_ab p6 (by decide), w32_ab p7 (by decide), w32_ab p8 (by decide), w32_ab (ab_sub p1 p2) (by decide), w32_ab (ab_sub q1 q2) (by decide), w32_ab (ab_ad p3 p4) (by decide), w32_ab (ab_ad p5 p6) (by decide), w32_ab (ab_ad p7 p8) (by decide)]
  refine ⟨fun z => h0 (by unfold shr; rw [if_neg z]), fun z1 => ⟨fun z2 v14 h14 v15 h15 v16 h16 t1 ht1 v17 h17 => ?_, fun z2 => h0 (by unfold shr; rw [if_pos z1, if_neg z2])⟩⟩
  have es : shr ax ay bx by_ cx cy dx dy = shx ((bx - ax) * (dx - ax) + (by_ - ay) * (dy - ay)) ((bx - ax) * (cx - ax) + (by_ - ay) * (cy - ay)) ((bx - ax) * (bx - ax) + (by_ - ay) * (by_ - ay)) ax ay bx by_ cx cy dx dy := by
    unfold shr
    rw [if_pos z1, if_pos z2]
  rw [es, ← h14, ← h15, ← h16] at h0 h1
  clear h14 h15 h16 z1 z2 es
  rw [lS, w32_id (show i32 (4 * (n + 1) - 4) by unfold i32; omega), w32_id (show i32 (4 * k + 1) by unfold i32; omega), w32_id (show i32 (4 * k + 2) by unfold i32; omega), w32_id (show i32 (4 * k + 3) by unfold i32; omega)]
  have e1 : (if v15 < 0 then 0 else v15) = if v15 ≤ 0 then 0 else v15 := by split <;> split <;> omega
  have e2 : (if v14 < v16 then v14 else v16) = if v14 ≤ v16 then v14 else v16 := by split <;> split <;> omega
  rw [e1, e2]
  refine ⟨fun z => h0 ?_, fun z => ⟨fun r => ⟨fun y => absurd y (by omega), fun _ => ⟨hS, fun _ t2 ht2 => ⟨hS, by omega, by omega, fun μ1 m1 t3 ht3 => ⟨hS, by omega, by omega, fun μ2 m2 t4 ht4 => ⟨hS, by omega, by omega, fun μ3 m3 t5 ht5 => ⟨hS, by omega, by omega, fun μ4 m4 => ?_⟩⟩⟩⟩, fun y => absurd y (by omega)⟩⟩, fun r => h0 ?_⟩⟩
  · unfold shx
    rw [h17, ht1] at z
    by_cases y : v16 ≤ v15
    · rw [if_pos y]
    · rw [if_neg y] at z; omega
  · have y : ¬ v16 ≤ v15 := fun y => z (by rw [h17, ht1, if_pos y])
    obtain ⟨g1, g2⟩ := st4_at m1 m2 m3 m4
    refine h1 _ μ4 ?_ g2 g1
    unfold shx
    rw [if_neg y, if_neg (by omega)]
    have w1 : w32 (ax + t2) = if v15 ≤ 0 then ax else dx := by
      rw [ht2]
      split
      · rw [Int.add_zero, w32_ab b1 (by decide)]
      · rw [show ax + (dx - ax) = dx by omega, w32_ab b7 (by decide)]
    have w2 : w32 (ay + t3) = if v15 ≤ 0 then ay else dy := by
      rw [ht3]
      split
      · rw [Int.add_zero, w32_ab b2 (by decide)]
      · rw [show ay + (dy - ay) = dy by omega, w32_ab b8 (by decide)]
    have w3 : w32 (ax + t4) = if v14 ≤ v16 then bx else cx := by
      rw [ht4]
      split
      · rw [show ax + (bx - ax) = bx by omega, w32_ab b3 (by decide)]
      · rw [show ax + (cx - ax) = cx by omega, w32_ab b5 (by decide)]
    have w4 : w32 (ay + t5) = if v14 ≤ v16 then by_ else cy := by
      rw [ht5]
      split
      · rw [show ay + (by_ - ay) = by_ by omega, w32_ab b4 (by decide)]
      · rw [show ay + (cy - ay) = cy by omega, w32_ab b6 (by decide)]
    rw [w1, w2, w3, w4]
  · have y : ¬ v16 ≤ v15 := fun y => z (by rw [h17, ht1, if_pos y])
    unfold shx
    rw [if_neg y, if_pos r]
theorem sp_X6_share {Q X : m_Po} {ε : m_E} {μ σ : m_M} {a k i j l r S n : Int} (G' : MG σ a) (FL : FP ε μ σ a (k - 1) l) (FR : FP ε μ σ a k r) (hn : σ 15 a = n) (hS : kd ε S = 100) (lS : ln ε S = 4 * (n + 1)) (n10 : n ≤ 10) (k0 : 0 ≤ k) (k1 : k ≤ n) (i0 : 0 ≤ i) (i1 : i < fcn σ a (k - 1)) (j0 : 0 ≤ j) (j1 : j < fcn σ a k)
    (h0 : jf σ a k i j = none → Q 0 ε μ) (h1 : ∀ x μ', jf σ a k i j = some x → FS4 S k μ μ' → at4 (μ' S) (4 * k) x → Q 1 ε μ') : o_X6_share [(2, l), (0, i), (2, r), (0, j), (2, S), (0, 4 * k)] ε μ Q X := by
  have r1 := fcn_rng (p := k - 1) G' (by omega)
  have r2 := fcn_rng (p := k) G' (by omega)
  have F : ∀ w, 0 ≤ w → w < 4 → ab (fA σ a (k - 1) i w) 100 := fun w w0 w1 => fA_ab G' (by omega) i0 i1 w0 w1
  have E : ∀ w, 0 ≤ w → w < 4 → ab (fA σ a k j w) 100 := fun w w0 w1 => fA_ab G' (by omega) j0 j1 w0 w1
  obtain ⟨kl, nl, ll, nl1, nl2, el, pl⟩ := FL
  obtain ⟨kr, nr, lr, nr1, nr2, er, pr⟩ := FR
  obtain ⟨l0, l1, l2, l3⟩ := pl i i0 i1
  obtain ⟨c0, c1, c2, c3⟩ := pr j j0 j1
  have f0 := F 0 (by decide) (by decide)
  have f1 := F 1 (by decide) (by decide)
  have f2 := F 2 (by decide) (by decide)
  have f3 := F 3 (by decide) (by decide)
  have g0 := E 0 (by decide) (by decide)
  have g1 := E 1 (by decide) (by decide)
  have g2 := E 2 (by decide) (by decide)
  have g3 := E 3 (by decide) (by decide)
  unfold jf at h0 h1
  have wi : w32 (i + 1) = i + 1 := w32_id (by unfold i32; omega)
  have wj : w32 (j + 1) = j + 1 := w32_id (by unfold i32; omega)
  apply e_X6_share
  refine fun _ _ _ _ => sp_X6_xOf kl ll (by omega) (by omega) i0 ?_
  rw [l0]
  apply g_X6_share_5
  intro _ _ _ _ _ v6 h6
  refine sp_X6_yOf kl ll (by omega) (by omega) i0 ?_
  rw [l1]
  apply g_X6_share_12
  intro _ _ _ _ _ _ v7 h7
  rw [wi]
  refine sp_X6_xOf kl ll (by omega) (by omega) (by omega) ?_
  rw [l2]
  apply g_X6_share_21
  intro _ _ _ _ _ _ _ v8 h8
  rw [wi]
  refine sp_X6_yOf kl ll (by omega) (by omega) (by omega) ?_
  rw [l3]
  apply g_X6_share_33
  intro _ _ _ _ _ _ _ v9 h9
  refine sp_X6_xOf kr lr (by omega) (by omega) j0 ?_
  rw [c0]
  apply g_X6_share_43
  intro _ _ _ _ _ _ _ _ v10 h10
  refine sp_X6_yOf kr lr (by omega) (by omega) j0 ?_
  rw [c1]
  apply g_X6_share_53
  intro _ _ _ _ _ _ _ _ _ v11 h11
  rw [wj]
  refine sp_X6_xOf kr lr (by omega) (by omega) (by omega) ?_
  rw [c2]
  apply g_X6_share_65
  intro _ _ _ _ _ _ _ _ _ _ v12 h12
  rw [wj]
  refine sp_X6_yOf kr lr (by omega) (by omega) (by omega) ?_
  rw [c3]
  rw [h6, w32_ab (ab_sub f2 f0) (by decide)] at h8
  rw [h7, w32_ab (ab_sub f3 f1) (by decide)] at h9
  rw [h6, w32_ab (ab_sub g0 f0) (by decide)] at h10
  rw [h7, w32_ab (ab_sub g1 f1) (by decide)] at h11
  rw [h6, w32_ab (ab_sub g2 f0) (by decide)] at h12
  rw [h6, h7, h8, h9, h10, h11, h12]
  exact ss_77 hS lS n10 k0 k1 f0 f1 f2 f3 g0 g1 g2 g3 h0 h1
theorem sp_X6_findSpan {Q X : m_Po} {ε : m_E} {μ σ : m_M} {a k l r S n : Int} (G' : MG σ a) (FL : FP ε μ σ a (k - 1) l) (FR : FP ε μ σ a k r) (hn : σ 15 a = n) (hS : kd ε S = 100) (lS : ln ε S = 4 * (n + 1)) (n10 : n ≤ 10) (k0 : 0 ≤ k) (k1 : k ≤ n)
    (h0 : jo σ a k = none → Q 0 ε μ) (h1 : ∀ x μ', jo σ a k = some x → FS4 S k μ μ' → at4 (μ' S) (4 * k) x → Q 1 ε μ') : o_X6_findSpan [(2, l), (2, r), (2, S), (0, 4 * k)] ε μ Q X := by
  have r1 := fcn_rng (p := k - 1) G' (by omega)
  have r2 := fcn_rng (p := k) G' (by omega)
  unfold jo at h0 h1
  have O : ∀ (d : Nat) (i : Int), 0 ≤ i → i + d = fcn σ a (k - 1) → (fs (fun i => fs (fun j => jf σ a k i j) 0 (fcn σ a k).toNat) i d = none → Q 0 ε μ) → (∀ x μ', fs (fun i => fs (fun j => jf σ a k i j) 0 (fcn σ a k).toNat) i d = some x → FS4 S k μ μ' → at4 (μ' S) (4 * k) x → Q 1 ε μ') → G cd_X6_findSpan Q X 3 [(0, (2, l)), (1, (2, r)), (2, (2, S)), (3, (0, 4 * k)), (4, (0, i))] [] ε μ := by
    intro d
    induction d with
    | zero =>
      intro i i0 hi K0 _
      apply g_X6_findSpan_3
      refine fun _ _ _ => sp_X6_facesOf FL ?_
      apply g_X6_findSpan_9
      exact fun _ _ _ _ _ => ⟨fun _ => K0 rfl, fun q => absurd q (by omega)⟩
    | succ d ih =>
      intro i i0 hi K0 K1
      have I : ∀ (e : Nat) (j : Int), 0 ≤ j → j + e = fcn σ a k → (fs (fun j => jf σ a k i j) j e = none → G cd_X6_findSpan Q X 3 [(0, (2, l)), (1, (2, r)), (2, (2, S)), (3, (0, 4 * k)), (4, (0, i + 1))] [] ε μ) → (∀ x μ', fs (fun j => jf σ a k i j) j e = some x → FS4 S k μ μ' → at4 (μ' S) (4 * k) x → Q 1 ε μ') → G cd_X6_findSpan Q X 15 [(0, (2, l)), (1, (2, r)), (2, (2, S)), (3, (0, 4 * k)), (4, (0, i)), (5, (0, j))] [] ε μ := by
        intro e
        induction e with
        | zero =>
          intro j j0 hj N0 _
          apply g_X6_findSpan_15
          refine fun _ _ _ _ => sp_X6_facesOf FR ?_
          apply g_X6_findSpan_21
          refine fun _ _ _ _ _ _ => ⟨fun _ v h => ?_, fun q => absurd q (by omega)⟩
          rw [w32_id (show i32 (i + 1) by unfold i32; omega)] at h
          rw [h]; exact N0 rfl
        | succ e ih2 =>
          intro j j0 hj N0 N1
          apply g_X6_findSpan_15
          refine fun _ _ _ _ => sp_X6_facesOf FR ?_
          apply g_X6_findSpan_21
          refine fun _ _ _ _ _ _ => ⟨fun q => absurd q (by omega), fun _ => sp_X6_share G' FL FR hn hS lS n10 k0 k1 i0 (by omega) j0 (by omega) (fun q => ?_) (fun x μ' q f x4 => ?_)⟩
          · apply g_X6_findSpan_35
            refine fun _ _ _ _ _ => ⟨fun _ v h => ?_, fun z => absurd rfl z⟩
            rw [w32_id (show i32 (j + 1) by unfold i32; omega)] at h
            rw [h]
            rw [fs_miss q] at N0 N1
            exact ih2 (j + 1) (by omega) (by omega) N0 N1
          · apply g_X6_findSpan_35
            refine fun _ _ _ _ _ => ⟨fun z => absurd z (by decide), fun _ => N1 x μ' (fs_hit q) f x4⟩
      apply g_X6_findSpan_3
      refine fun _ _ _ => sp_X6_facesOf FL ?_
      apply g_X6_findSpan_9
      refine fun _ _ _ _ _ => ⟨fun q => absurd q (by omega), fun _ v5 h5 => ?_⟩
      rw [h5]
      refine I (fcn σ a k).toNat 0 (by decide) (by omega) (fun q => ?_) (fun x μ' q f x4 => K1 x μ' (fs_hit q) f x4)
      rw [fs_miss q] at K0 K1
      exact ih (i + 1) (by omega) (by omega) K0 K1
  apply e_X6_findSpan
  intro _ _ v4 h4
  rw [h4]
  exact O (fcn σ a (k - 1)).toNat 0 (by decide) (by omega) h0 h1
