/-! ===== the reference's fours ===== -/
theorem abs_if3 {x : Int} (h : bd x 63) : (if 0 ≤ x then x else w64 (-x)) = (x.natAbs : Int) := by
  rw [w64_bd (bd_neg h)]; split <;> omega
theorem ss4 {a : Int → Int} : SS a ((4 : Nat) : Int) ↔ (0 < a 0 ∧ 0 < a 1 ∧ 0 < a 2 ∧ 0 < a 3) ∨ (a 0 < 0 ∧ a 1 < 0 ∧ a 2 < 0 ∧ a 3 < 0) := by
  constructor
  · rintro (S | S)
    · exact Or.inl ⟨S 0 (by decide) (by decide), S 1 (by decide) (by decide), S 2 (by decide) (by decide), S 3 (by decide) (by decide)⟩
    · exact Or.inr ⟨S 0 (by decide) (by decide), S 1 (by decide) (by decide), S 2 (by decide) (by decide), S 3 (by decide) (by decide)⟩
  · have four : ∀ t : Int, 0 ≤ t → t < ((4 : Nat) : Int) → t = 0 ∨ t = 1 ∨ t = 2 ∨ t = 3 := fun t t0 t1 => by omega
    rintro (⟨x, y, z, u⟩ | ⟨x, y, z, u⟩)
    · refine Or.inl (fun t t0 t1 => ?_)
      rcases four t t0 t1 with rfl | rfl | rfl | rfl <;> assumption
    · refine Or.inr (fun t t0 t1 => ?_)
      rcases four t t0 t1 with rfl | rfl | rfl | rfl <;> assumption
theorem sgn_eq {x y : Int} (x0 : x ≠ 0) (y0 : y ≠ 0) : (if 0 < x then (1 : Int) else 0) = (if 0 < y then 1 else 0) ↔ ((0 < x ∧ 0 < y) ∨ (x < 0 ∧ y < 0)) := by
  by_cases a : 0 < x <;> by_cases b : 0 < y
  · rw [if_pos a, if_pos b]; exact ⟨fun _ => Or.inl ⟨a, b⟩, fun _ => rfl⟩
  · rw [if_pos a, if_neg b]; exact ⟨fun q => absurd q (by decide), fun q => by omega⟩
  · rw [if_neg a, if_pos b]; exact ⟨fun q => absurd q (by decide), fun q => by omega⟩
  · rw [if_neg a, if_neg b]; exact ⟨fun _ => Or.inr ⟨by omega, by omega⟩, fun _ => rfl⟩
theorem fo_go {Q X : m_Po} {ε : m_E} {μ : m_M} {M i j k l : Int} {n : Nat} {h v m c code R : Int → Int} (n48 : n ≤ 48) (B : RB h v m c n) (H : RG ε μ M R) (W : RW μ M n h v m c) (hcode : ∀ q, μ (M + 30) q = code q) (hi : 0 ≤ i ∧ i < n) (hj : 0 ≤ j ∧ j < n) (hk : 0 ≤ k ∧ k < n) (hl : 0 ≤ l ∧ l < n) (d0 : dt3 h v m i j k ≠ 0)
    (no : ∀ μ' R', RG ε μ' M R' → FNs M μ μ' → μ' M 59 = μ M 59 → (∀ s, ¬ tme s → R' s = R s) → ¬ Pr4 h v m c i j k l → G cd_X12_fours Q X 327 [(0, (2, M)), (1, (0, i)), (2, (0, j)), (3, (0, k)), (4, (1, dt3 h v m i j k)), (6, (0, l))] [] ε μ')
    (yes : ∀ μ' R', RG ε μ' M R' → FNs M μ μ' → (∀ s, ¬ tme s → s < 92 → R' s = R s) → Pr4 h v m c i j k l → NMc μ' M R' 4 (ix4 i j k l) (a4 h v m i j k l) c code → Q 0 ε μ') :
    o_X12_minor [(2, M), (0, j), (0, k), (0, l)] ε μ (fun z ε_1 μ_1 => G cd_X12_fours Q X 72 [(0, (2, M)), (1, (0, i)), (2, (0, j)), (3, (0, k)), (4, (1, dt3 h v m i j k)), (6, (0, l))] [(1, z)] ε_1 μ_1) m_F := by
  have n48' : (n : Int) ≤ 48 := by omega
  have L := H.1
  have bx := dt_bd B hj hk hl
  have b_y := dt_bd B hi hk hl
  have bz := dt_bd B hi hj hl
  have bu := dt_bd B hi hj hk
  have e0 := a4_0 h v m i j k l
  have e1 := a4_1 h v m i j k l
  have e2 := a4_2 h v m i j k l
  have e3 := a4_3 h v m i j k l
  refine sp_X12_minor L n48' W B hj hk hl ?_
  apply g_X12_fours_72
  refine fun _ _ _ _ _ _ _ v7 e7 => ⟨L.k, sp_X12_minor L n48' W B hi hk hl ?_⟩
  rw [e7]
  apply g_X12_fours_82
  refine fun _ _ _ _ _ _ _ _ v9 e9 => ⟨L.k, sp_X12_minor L n48' W B hi hj hl ?_⟩
  rw [e9, w64_bd (bd_neg b_y)]
  clear e9 e7
  have sse := ss4 (a := a4 h v m i j k l)
  rw [e0, e1, e2, e3] at sse
  generalize hX : dt3 h v m j k l = x at *
  generalize hY : -(dt3 h v m i k l) = y at *
  generalize hZ : dt3 h v m i j l = z at *
  generalize hU : dt3 h v m i j k = u at *
  have b_y' : bd y 63 := by rw [← hY]; exact bd_neg b_y
  have nu : w64 (-u) = -u := w64_bd (bd_neg bu)
  have ax := abs_if3 bx
  have ay := abs_if3 b_y'
  have az := abs_if3 bz
  have au := abs_if3 (bd_neg bu)
  have u0 : -u ≠ 0 := by omega
  have g0 : ((a4 h v m i j k l 0).natAbs : Int) = (x.natAbs : Int) := by rw [e0]
  have g1 : ((a4 h v m i j k l 1).natAbs : Int) = (y.natAbs : Int) := by rw [e1]
  have g2 : ((a4 h v m i j k l 2).natAbs : Int) = (z.natAbs : Int) := by rw [e2]
  have g3 : ((a4 h v m i j k l 3).natAbs : Int) = ((-u).natAbs : Int) := by rw [e3]
  have bad : ¬ SS (a4 h v m i j k l) ((4 : Nat) : Int) → G cd_X12_fours Q X 327 [(0, (2, M)), (1, (0, i)), (2, (0, j)), (3, (0, k)), (4, (1, u)), (6, (0, l))] [] ε μ := fun q => no μ R H FNs.rf rfl (fun _ _ => rfl) (fun p => q p.1)
  apply g_X12_fours_93
  simp only [L.k, L.f60.1, L.f60.2.1, L.f60.2.2, L.f61.1, L.f61.2.1, L.f61.2.2, forall_eq, eq_self, true_and, Int.reduceLT, Int.reduceLE, Int.le_refl, nu, ax, ay, az, au]
  clear nu ax ay az au
  intro _ _ _ _ _ _ _ _ _
  refine ⟨fun q => bad (fun S => ?_), fun x0 => ⟨fun q => bad (fun S => ?_), fun y0 => ⟨fun q => bad (fun S => ?_), fun z0 => ?_⟩⟩⟩
  · have := sse.mp S; omega
  · have := sse.mp S; omega
  · have := sse.mp S; omega
  rw [sg_if x0, sg_if y0, sg_if z0, sg_if u0]
  refine ⟨fun q => bad (fun S => q ((sgn_eq x0 y0).mpr ?_)), fun q1 => ⟨fun q => bad (fun S => q ((sgn_eq x0 z0).mpr ?_)), fun q2 => ⟨fun q3 => ?_, fun q => bad (fun S => q ((sgn_eq x0 u0).mpr ?_))⟩⟩⟩
  · have := sse.mp S; omega
  · have := sse.mp S; omega
  · have s1 := (sgn_eq x0 y0).mp q1
    have s2 := (sgn_eq x0 z0).mp q2
    have s3 := (sgn_eq x0 u0).mp q3
    have ssT : SS (a4 h v m i j k l) ((4 : Nat) : Int) := by
      rw [sse]; omega
    have four : ∀ t : Int, 0 ≤ t → t < ((4 : Nat) : Int) → t = 0 ∨ t = 1 ∨ t = 2 ∨ t = 3 := fun t t0 t1 => by omega
    obtain ⟨μ8, m8⟩ : ∃ μ8, μ8 = st (st (st (st (st (st (st (st μ (M + 103) 0 i) (M + 103) 1 j) (M + 103) 2 k) (M + 103) 3 l) (M + 102) 0 (x.natAbs : Int)) (M + 102) 1 (y.natAbs : Int)) (M + 102) 2 (z.natAbs : Int)) (M + 102) 3 ((-u).natAbs : Int) := ⟨_, rfl⟩
    rw [← m8]
    have H8 : RG ε μ8 M R := by rw [m8]; exact (((((((H.st (by decide) (by decide)).st (by decide) (by decide)).st (by decide) (by decide)).st (by decide) (by decide)).st (by decide) (by decide)).st (by decide) (by decide)).st (by decide) (by decide)).st (by decide) (by decide)
    have F8 : FNs M μ μ8 := by rw [m8]; exact (((((((fns_st (Or.inr rfl)).trans (fns_st (Or.inr rfl))).trans (fns_st (Or.inr rfl))).trans (fns_st (Or.inr rfl))).trans (fns_st (Or.inl rfl))).trans (fns_st (Or.inl rfl))).trans (fns_st (Or.inl rfl))).trans (fns_st (Or.inl rfl))
    have k8 : μ8 M 59 = μ M 59 := by rw [m8, sx_oa (by omega), sx_oa (by omega), sx_oa (by omega), sx_oa (by omega), sx_oa (by omega), sx_oa (by omega), sx_oa (by omega), sx_oa (by omega)]
    have gg : gd (fun t => ((a4 h v m i j k l t).natAbs : Int)) 4 = gd (a4 h v m i j k l) 4 := gd_congr 4 (fun t _ _ => by simp)
    have W8 := W.fns F8
    refine sp_X12_isNever (n := 4) (nb := n) (by decide) (by decide) n48' (a := fun t => ((a4 h v m i j k l t).natAbs : Int)) (ix := ix4 i j k l) (c := c) (code := code) H8 ?_ ?_ ?_ ?_ ?_ ?_ W8.2.2.2.2 (fun q => (F8 _ q (nbc (by decide)) (by omega) (by omega) (by omega) (by omega)).trans (hcode q)) (fun μ9 R9 H9 f9 sn k59 nf e100 fr9 => ?_) (fun μ9 R9 H9 f9 g59 sn fr9 => ?_)
    · intro t t0 t1
      rcases four t t0 t1 with rfl | rfl | rfl | rfl
      · show 0 < ((a4 h v m i j k l 0).natAbs : Int); rw [g0]; omega
      · show 0 < ((a4 h v m i j k l 1).natAbs : Int); rw [g1]; omega
      · show 0 < ((a4 h v m i j k l 2).natAbs : Int); rw [g2]; omega
      · show 0 < ((a4 h v m i j k l 3).natAbs : Int); rw [g3]; omega
    · intro t t0 t1
      rcases four t t0 t1 with rfl | rfl | rfl | rfl
      · show bd ((a4 h v m i j k l 0).natAbs : Int) 63; rw [g0]; exact bd_le bx (by omega)
      · show bd ((a4 h v m i j k l 1).natAbs : Int) 63; rw [g1]; exact bd_le b_y' (by omega)
      · show bd ((a4 h v m i j k l 2).natAbs : Int) 63; rw [g2]; exact bd_le bz (by omega)
      · show bd ((a4 h v m i j k l 3).natAbs : Int) 63; rw [g3]; exact bd_le (bd_neg bu) (by omega)
    · intro t t0 t1
      rcases four t t0 t1 with rfl | rfl | rfl | rfl
      · exact hi
      · exact hj
      · exact hk
      · exact hl
    · intro t t0 t1
      rcases four t t0 t1 with rfl | rfl | rfl | rfl
      · exact (B i hi.1 hi.2).2.2.2
      · exact (B j hj.1 hj.2).2.2.2
      · exact (B k hk.1 hk.2).2.2.2
      · exact (B l hl.1 hl.2).2.2.2
    · intro t t0 t1
      rcases four t t0 t1 with rfl | rfl | rfl | rfl
      · show _ = ((a4 h v m i j k l 0).natAbs : Int); rw [g0, m8, sx_oi (by decide), sx_oi (by decide), sx_oi (by decide), sx_same]
      · show _ = ((a4 h v m i j k l 1).natAbs : Int); rw [g1, m8, sx_oi (by decide), sx_oi (by decide), sx_same]
      · show _ = ((a4 h v m i j k l 2).natAbs : Int); rw [g2, m8, sx_oi (by decide), sx_same]
      · show _ = ((a4 h v m i j k l 3).natAbs : Int); rw [g3, m8, sx_same]
    · intro t t0 t1
      rcases four t t0 t1 with rfl | rfl | rfl | rfl
      · rw [m8, sx_oa (by omega), sx_oa (by omega), sx_oa (by omega), sx_oa (by omega), sx_oi (by decide), sx_oi (by decide), sx_oi (by decide), sx_same]; rfl
      · rw [m8, sx_oa (by omega), sx_oa (by omega), sx_oa (by omega), sx_oa (by omega), sx_oi (by decide), sx_oi (by decide), sx_same]; rfl
      · rw [m8, sx_oa (by omega), sx_oa (by omega), sx_oa (by omega), sx_oa (by omega), sx_oi (by decide), sx_same]; rfl
      · rw [m8, sx_oa (by omega), sx_oa (by omega), sx_oa (by omega), sx_oa (by omega), sx_same]; rfl
    · apply g_X12_fours_323
      refine fun _ _ _ _ _ _ _ => ⟨fun y => absurd y (by decide), fun _ => yes μ9 R9 H9 (F8.trans (FNs.m f9)) fr9 ⟨ssT, sn⟩ ⟨k59, fun t t0 t1 => ?_, ?_⟩⟩
      · have := nf t t0 t1
        rw [gg] at this
        exact this
      · rw [e100, gg]
    · apply g_X12_fours_323
      exact fun _ _ _ _ _ _ _ => ⟨fun _ => no μ9 R9 H9 (F8.trans (FNs.m f9)) (g59.trans k8) fr9 (fun p => sn p.2), fun y => absurd rfl y⟩
  · have := sse.mp S; omega
