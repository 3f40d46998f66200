/-! ===== the reference's threes ===== -/
theorem sg_if {x : Int} (h : x ≠ 0) : (if x ≤ 0 then (0 : Int) else 1) = if 0 < x then 1 else 0 := by
  split <;> split <;> omega
theorem th_go {Q X : m_Po} {ε : m_E} {μ : m_M} {M i j k w : Int} {n : Nat} {h v m c code R : Int → Int} (n48 : n ≤ 48) (B : RB h v m c n) (H : RG ε μ M R) (W : RW μ M n h v m c) (hcode : ∀ q, μ (M + 30) q = code q) (hi : 0 ≤ i ∧ i < n) (hj : 0 ≤ j ∧ j < n) (hk : 0 ≤ k ∧ k < n) (d : dt3 h v m i j k = 0) (hw : w = 0 ∨ w = 1 ∨ w = 2) (t3 : T3 h v m i j k w) (nb : ∀ u, 0 ≤ u → u < w → ¬ T3 h v m i j k u)
    (no : ∀ μ' R', RG ε μ' M R' → FNs M μ μ' → μ' M 59 = μ M 59 → (∀ s, ¬ tme s → R' s = R s) → ¬ Pr3 h v m c i j k → G cd_X12_threes Q X 293 [(0, (2, M)), (1, (0, i)), (2, (0, j)), (3, (0, k))] [] ε μ')
    (yes : ∀ μ' R', RG ε μ' M R' → FNs M μ μ' → (∀ s, ¬ tme s → s < 92 → R' s = R s) → Pr3 h v m c i j k → NMc μ' M R' 3 (ix3 i j k) (a3 h v m i j k) c code → Q 1 ε μ') :
    G cd_X12_threes Q X 103 [(0, (2, M)), (1, (0, i)), (2, (0, j)), (3, (0, k)), (4, (0, w))] [] ε μ := by
  have n48' : (n : Int) ≤ 48 := by omega
  have L := H.1
  have w3 : w ≠ 3 := by omega
  obtain ⟨np, s, hs, cxe⟩ := th_some d hw t3 nb
  obtain ⟨x0, y0, z0⟩ := t3
  have bx := bd_mono (cw_bd (w := w) B hj hk) (by decide : 41 ≤ 62)
  have b_y := bd_mono (cw_bd (w := w) B hk hi) (by decide : 41 ≤ 62)
  have bz := bd_mono (cw_bd (w := w) B hi hj) (by decide : 41 ≤ 62)
  have e0 : a3 h v m i j k 0 = s * cw h v m w j k := by rw [a3_0]; exact cxe j k
  have e1 : a3 h v m i j k 1 = s * cw h v m w k i := by rw [a3_1]; exact cxe k i
  have e2 : a3 h v m i j k 2 = s * cw h v m w i j := by rw [a3_2]; exact cxe i j
  have sse : SS (a3 h v m i j k) ((3 : Nat) : Int) ↔ ((0 < cw h v m w j k ∧ 0 < cw h v m w k i ∧ 0 < cw h v m w i j) ∨ (cw h v m w j k < 0 ∧ cw h v m w k i < 0 ∧ cw h v m w i j < 0)) := by
    rw [ss3, e0, e1, e2]
    rcases hs with rfl | rfl
    · simp only [Int.one_mul]
    · simp only [Int.neg_mul, Int.one_mul]
      omega
  have ax := abs_if bx
  have ay := abs_if b_y
  have az := abs_if bz
  have g0 : ((a3 h v m i j k 0).natAbs : Int) = ((cw h v m w j k).natAbs : Int) := by rw [e0, Int.natAbs_mul]; rcases hs with rfl | rfl <;> simp
  have g1 : ((a3 h v m i j k 1).natAbs : Int) = ((cw h v m w k i).natAbs : Int) := by rw [e1, Int.natAbs_mul]; rcases hs with rfl | rfl <;> simp
  have g2 : ((a3 h v m i j k 2).natAbs : Int) = ((cw h v m w i j).natAbs : Int) := by rw [e2, Int.natAbs_mul]; rcases hs with rfl | rfl <;> simp
  apply g_X12_threes_103
  refine fun _ _ _ _ _ => ⟨fun _ => ⟨L.k, sp_X12_across L n48' W B hj hk ?_⟩, fun z => absurd z w3⟩
  apply g_X12_threes_120
  refine fun _ _ _ _ _ _ v5 e5 => ⟨L.k, sp_X12_across L n48' W B hk hi ?_⟩
  rw [e5]
  apply g_X12_threes_130
  refine fun _ _ _ _ _ _ _ v7 e7 => ⟨L.k, sp_X12_across L n48' W B hi hj ?_⟩
  rw [e7]
  generalize hX : cw h v m w j k = x at *
  generalize hY : cw h v m w k i = y at *
  generalize hZ : cw h v m w i j = z at *
  apply g_X12_threes_140
  simp only [L.k, L.f60.1, L.f60.2.1, L.f60.2.2, L.f61.1, L.f61.2.1, L.f61.2.2, forall_eq, eq_self, true_and, Int.reduceLT, Int.reduceLE, Int.le_refl, ax, ay, az]
  clear ax ay az
  rw [sg_if x0, sg_if y0, sg_if z0]
  intro _ _ _ _ _ _ _
  refine ⟨fun q => no μ R H FNs.rf rfl (fun _ _ => rfl) (fun p => q ?_), fun q1 => ⟨fun q2 => ?_, fun q => no μ R H FNs.rf rfl (fun _ _ => rfl) (fun p => q ?_)⟩⟩
  · rcases sse.mp p.2.2.1 with ⟨a, b, _⟩ | ⟨a, b, _⟩
    · rw [if_pos a, if_pos b]
    · rw [if_neg (by omega), if_neg (by omega)]
  · have ssT : SS (a3 h v m i j k) ((3 : Nat) : Int) := by
      rw [sse]
      by_cases px : 0 < x
      · rw [if_pos px] at q1 q2
        left
        refine ⟨px, ?_, ?_⟩
        · by_cases py : 0 < y
          · exact py
          · rw [if_neg py] at q1; exact absurd q1 (by decide)
        · by_cases pz : 0 < z
          · exact pz
          · rw [if_neg pz] at q2; exact absurd q2 (by decide)
      · rw [if_neg px] at q1 q2
        right
        refine ⟨by omega, ?_, ?_⟩
        · by_cases py : 0 < y
          · rw [if_pos py] at q1; exact absurd q1 (by decide)
          · omega
        · by_cases pz : 0 < z
          · rw [if_pos pz] at q2; exact absurd q2 (by decide)
          · omega
    have three : ∀ t : Int, 0 ≤ t → t < ((3 : Nat) : Int) → t = 0 ∨ t = 1 ∨ t = 2 := fun t t0 t1 => by omega
    obtain ⟨μ6, m6⟩ : ∃ μ6, μ6 = st (st (st (st (st (st μ (M + 103) 0 i) (M + 103) 1 j) (M + 103) 2 k) (M + 102) 0 (x.natAbs : Int)) (M + 102) 1 (y.natAbs : Int)) (M + 102) 2 (z.natAbs : Int) := ⟨_, rfl⟩
    rw [← m6]
    have H6 : RG ε μ6 M R := by rw [m6]; exact (((((H.st (by decide) (by decide)).st (by decide) (by decide)).st (by decide) (by decide)).st (by decide) (by decide)).st (by decide) (by decide)).st (by decide) (by decide)
    have F6 : FNs M μ μ6 := by rw [m6]; exact (((((fns_st (Or.inr rfl)).trans (fns_st (Or.inr rfl))).trans (fns_st (Or.inr rfl))).trans (fns_st (Or.inl rfl))).trans (fns_st (Or.inl rfl))).trans (fns_st (Or.inl rfl))
    have k6 : μ6 M 59 = μ M 59 := by rw [m6, sx_oa (by omega), sx_oa (by omega), sx_oa (by omega), sx_oa (by omega), sx_oa (by omega), sx_oa (by omega)]
    have gg : gd (fun t => ((a3 h v m i j k t).natAbs : Int)) 3 = gd (a3 h v m i j k) 3 := gd_congr 3 (fun t _ _ => by simp)
    have W6 := W.fns F6
    refine sp_X12_isNever (n := 3) (nb := n) (by decide) (by decide) n48' (a := fun t => ((a3 h v m i j k t).natAbs : Int)) (ix := ix3 i j k) (c := c) (code := code) H6 ?_ ?_ ?_ ?_ ?_ ?_ W6.2.2.2.2 (fun q => (F6 _ q (nbc (by decide)) (by omega) (by omega) (by omega) (by omega)).trans (hcode q)) (fun μ7 R7 H7 f7 sn k59 nf e100 fr7 => ?_) (fun μ7 R7 H7 f7 g59 sn fr7 => ?_)
    · intro t t0 t1
      rcases three t t0 t1 with rfl | rfl | rfl
      · show 0 < ((a3 h v m i j k 0).natAbs : Int); rw [g0]; omega
      · show 0 < ((a3 h v m i j k 1).natAbs : Int); rw [g1]; omega
      · show 0 < ((a3 h v m i j k 2).natAbs : Int); rw [g2]; omega
    · intro t t0 t1
      rcases three t t0 t1 with rfl | rfl | rfl
      · show bd ((a3 h v m i j k 0).natAbs : Int) 63; rw [g0]; exact bd_le (bd_mono bx (by decide)) (by omega)
      · show bd ((a3 h v m i j k 1).natAbs : Int) 63; rw [g1]; exact bd_le (bd_mono b_y (by decide)) (by omega)
      · show bd ((a3 h v m i j k 2).natAbs : Int) 63; rw [g2]; exact bd_le (bd_mono bz (by decide)) (by omega)
    · intro t t0 t1
      rcases three t t0 t1 with rfl | rfl | rfl
      · exact hi
      · exact hj
      · exact hk
    · intro t t0 t1
      rcases three t t0 t1 with rfl | rfl | rfl
      · exact (B i hi.1 hi.2).2.2.2
      · exact (B j hj.1 hj.2).2.2.2
      · exact (B k hk.1 hk.2).2.2.2
    · intro t t0 t1
      rcases three t t0 t1 with rfl | rfl | rfl
      · show _ = ((a3 h v m i j k 0).natAbs : Int); rw [g0, m6, sx_oi (by decide), sx_oi (by decide), sx_same]
      · show _ = ((a3 h v m i j k 1).natAbs : Int); rw [g1, m6, sx_oi (by decide), sx_same]
      · show _ = ((a3 h v m i j k 2).natAbs : Int); rw [g2, m6, sx_same]
    · intro t t0 t1
      rcases three t t0 t1 with rfl | rfl | rfl
      · rw [m6, sx_oa (by omega), sx_oa (by omega), sx_oa (by omega), sx_oi (by decide), sx_oi (by decide), sx_same]; rfl
      · rw [m6, sx_oa (by omega), sx_oa (by omega), sx_oa (by omega), sx_oi (by decide), sx_same]; rfl
      · rw [m6, sx_oa (by omega), sx_oa (by omega), sx_oa (by omega), sx_same]; rfl
    · apply g_X12_threes_288
      refine fun _ _ _ _ _ => ⟨fun y => absurd y (by decide), fun _ => yes μ7 R7 H7 (F6.trans (FNs.m f7)) fr7 ⟨np, d, ssT, sn⟩ ⟨k59, fun t t0 t1 => ?_, ?_⟩⟩
      · have := nf t t0 t1
        rw [gg] at this
        exact this
      · rw [e100, gg]
    · apply g_X12_threes_288
      exact fun _ _ _ _ _ => ⟨fun _ => no μ7 R7 H7 (F6.trans (FNs.m f7)) (g59.trans k6) fr7 (fun p => sn p.2.2.2), fun y => absurd rfl y⟩
  · rcases sse.mp p.2.2.1 with ⟨a, _, b⟩ | ⟨a, _, b⟩
    · rw [if_pos a, if_pos b]
    · rw [if_neg (by omega), if_neg (by omega)]
