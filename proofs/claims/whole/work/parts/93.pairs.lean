/-! ===== the reference's pairs ===== -/
def FNs (M : Int) (μ μ' : m_M) : Prop := ∀ b j, ¬ BC M b → b ≠ M + 102 → b ≠ M + 103 → b ≠ M + 90 → ¬ (b = M ∧ j = 59) → μ' b j = μ b j
theorem FNs.rf {M : Int} {μ : m_M} : FNs M μ μ := fun _ _ _ _ _ _ _ => rfl
theorem FNs.trans {M : Int} {μ μ' μ'' : m_M} (h : FNs M μ μ') (k : FNs M μ' μ'') : FNs M μ μ'' := fun b j h0 h1 h2 h3 h4 => (k b j h0 h1 h2 h3 h4).trans (h b j h0 h1 h2 h3 h4)
theorem FNs.m {M : Int} {μ μ' : m_M} (h : FNm M μ μ') : FNs M μ μ' := fun b j h0 h1 _ h3 h4 => h b j h0 h1 h3 h4
theorem fns_st {M o i v : Int} {μ : m_M} (ho : o = 102 ∨ o = 103) : FNs M μ (st μ (M + o) i v) := fun _ _ _ h1 h2 _ _ => sx_oa (by omega)
theorem RW.fns {μ μ' : m_M} {M n : Int} {h v m c : Int → Int} (H : RW μ M n h v m c) (f : FNs M μ μ') : RW μ' M n h v m c := by
  obtain ⟨h1, h2, h3, h4, h5⟩ := H
  exact ⟨(f M 35 nbc0 (by omega) (by omega) (by omega) (by omega)).trans h1, fun k => (f _ k (nbc (by decide)) (by omega) (by omega) (by omega) (by omega)).trans (h2 k), fun k => (f _ k (nbc (by decide)) (by omega) (by omega) (by omega) (by omega)).trans (h3 k), fun k => (f _ k (nbc (by decide)) (by omega) (by omega) (by omega) (by omega)).trans (h4 k), fun k => (f _ k (nbc (by decide)) (by omega) (by omega) (by omega) (by omega)).trans (h5 k)⟩
def NMc (μ : m_M) (M : Int) (R : Int → Int) (k : Nat) (ix a c code : Int → Int) : Prop := μ M 59 = k ∧ (∀ t : Int, 0 ≤ t → t < k → μ (M + 90) t = code (ix t) ∧ R (92 + 2 * t) = ((a t).natAbs : Int) / gd a k) ∧ R 100 = sm (fun t => ((a t).natAbs : Int) / gd a k * c (ix t)) k
/-- no row is all 0 -/
def NZ (h v m : Int → Int) (n : Int) : Prop := ∀ i, 0 ≤ i → i < n → ¬ (h i = 0 ∧ v i = 0 ∧ m i = 0)
theorem sel_nz {h v m : Int → Int} {i : Int} (h0 : ¬ (h i = 0 ∧ v i = 0 ∧ m i = 0)) : selx h v m i i ≠ 0 := by
  unfold selx
  by_cases a : h i = 0
  · rw [if_pos a]
    by_cases b : v i = 0
    · rw [if_pos b]
      exact fun q => h0 ⟨a, b, q⟩
    · rw [if_neg b]; exact b
  · rw [if_neg a, if_neg a]; exact a
theorem mul_nz {a b : Int} (h : a ≠ 0) (k : a * b = 0) : b = 0 := by
  rcases Int.mul_eq_zero.mp k with q | q
  · exact absurd q h
  · exact q
theorem sel_nz2 {h v m : Int → Int} {i j : Int} (h0 : ¬ (h i = 0 ∧ v i = 0 ∧ m i = 0)) (h1 : ¬ (h j = 0 ∧ v j = 0 ∧ m j = 0)) (p : par h v m i j) : selx h v m i j ≠ 0 := by
  obtain ⟨p1, p2, p3⟩ := p
  unfold crH at p1
  unfold crV at p2
  unfold crM at p3
  unfold selx
  by_cases a : h i = 0
  · rw [if_pos a, if_pos a]
    by_cases b : v i = 0
    · rw [if_pos b]
      intro q
      have c : m i ≠ 0 := fun z => h0 ⟨a, b, z⟩
      rw [b, q] at p1
      rw [a, q] at p2
      exact h1 ⟨mul_nz c (by omega), mul_nz c (by omega), q⟩
    · rw [if_neg b]
      intro q
      rw [q] at p1 p3
      rw [a] at p3
      exact h1 ⟨mul_nz b (by omega), q, mul_nz b (by omega)⟩
  · rw [if_neg a, if_neg a]
    intro q
    rw [if_neg a] at q
    rw [q] at p2 p3
    exact h1 ⟨q, mul_nz a (by omega), mul_nz a (by omega)⟩
theorem sel_m (h v m : Int → Int) (i t : Int) : (if h i = 0 then (if v i = 0 then m t else v t) else h t) = selx h v m i t := by
  unfold selx
  by_cases a : h i = 0
  · rw [if_pos a, if_pos a, if_pos a]
  · rw [if_neg a, if_neg a, if_neg a, if_neg a]
theorem ss2 {x y : Int} (x0 : x ≠ 0) (y0 : y ≠ 0) {h v m : Int → Int} {i j : Int} (ex : selx h v m i i = x) (ey : selx h v m i j = y) : SS (a2 h v m i j) 2 ↔ (if 0 ≤ x then (0 : Int) else 1) ≠ (if 0 ≤ y then (0 : Int) else 1) := by
  have e0 : a2 h v m i j 0 = y := by unfold a2; rw [if_pos rfl]; exact ey
  have e1 : a2 h v m i j 1 = -x := by unfold a2; rw [if_neg (by decide), ex]
  constructor
  · intro S
    rcases S with S | S
    · have p := S 0 (by decide) (by decide)
      have q := S 1 (by decide) (by decide)
      rw [e0] at p
      rw [e1] at q
      rw [if_neg (by omega), if_pos (by omega)]; decide
    · have p := S 0 (by decide) (by decide)
      have q := S 1 (by decide) (by decide)
      rw [e0] at p
      rw [e1] at q
      rw [if_pos (by omega), if_neg (by omega)]; decide
  · intro q
    by_cases a : 0 ≤ x
    · rw [if_pos a] at q
      have b : ¬ 0 ≤ y := fun z => by rw [if_pos z] at q; exact q rfl
      refine Or.inr (fun t t0 t1 => ?_)
      have : t = 0 ∨ t = 1 := by omega
      rcases this with rfl | rfl
      · rw [e0]; omega
      · rw [e1]; omega
    · rw [if_neg a] at q
      have b : 0 ≤ y := by
        by_cases z : 0 ≤ y
        · exact z
        · rw [if_neg z] at q; exact absurd rfl q
      refine Or.inl (fun t t0 t1 => ?_)
      have : t = 0 ∨ t = 1 := by omega
      rcases this with rfl | rfl
      · rw [e0]; omega
      · rw [e1]; omega
theorem abs_if {x : Int} (h : bd x 62) : (if 0 ≤ x then x else w64 (-x)) = (x.natAbs : Int) := by
  rw [w64_bd (bd_mono (bd_neg h) (by decide))]; split <;> omega
theorem p2_in {Q X : m_Po} {ε : m_E} {M : Int} {n i : Nat} {h v m c code : Int → Int} (n48 : n ≤ 48) (B : RB h v m c n) (nz : NZ h v m n) (hi : i < n) {μ0 : m_M} {R0 : Int → Int} (W0 : RW μ0 M n h v m c) (hcode : ∀ q, μ0 (M + 30) q = code q) (hb : ∀ a b : Int, 0 ≤ a → a < b → b < n → a < i → ¬ Pr2 h v m c a b)
    (nxt : ∀ μ' R', RG ε μ' M R' → FNs M μ0 μ' → μ' M 59 = μ0 M 59 → (∀ s, ¬ tme s → R' s = R0 s) → (∀ b : Int, (i : Int) < b → b < n → ¬ Pr2 h v m c i b) → G cd_X12_pairs Q X 2 [(0, (2, M)), (1, (0, ((i + 1 : Nat) : Int)))] [] ε μ')
    (h1 : ∀ (μ' : m_M) (R' : Int → Int) (i j : Int), RG ε μ' M R' → FNs M μ0 μ' → (∀ s, ¬ tme s → s < 92 → R' s = R0 s) → Fst2 (Pr2 h v m c) n i j → NMc μ' M R' 2 (ix2 i j) (a2 h v m i j) c code → Q 1 ε μ') :
    ∀ (d j : Nat) (μ : m_M) (R : Int → Int), j + d = n → i < j → RG ε μ M R → FNs M μ0 μ → μ M 59 = μ0 M 59 → (∀ s, ¬ tme s → R s = R0 s) → (∀ b : Int, (i : Int) < b → b < j → ¬ Pr2 h v m c i b) → G cd_X12_pairs Q X 14 [(0, (2, M)), (1, (0, i)), (2, (0, j))] [] ε μ := by
  intro d
  induction d with
  | zero =>
    intro j μ R hd hj H f f59 fr hk
    have e : j = n := by omega
    subst e
    have W := W0.fns f
    have jn : ¬ (j : Int) < j := by omega
    have im : i < 2147483647 := by omega
    apply g_X12_pairs_14
    rw [W.1]
    refine fun _ _ _ => ⟨H.1.k, fun _ v1 e1 => ?_, fun z => absurd z jn⟩
    rw [w32_succ im e1]
    exact nxt μ R H f f59 fr hk
  | succ d ih =>
    intro j μ R hd hj H f f59 fr hk
    obtain ⟨r, rh, rv, rm, rc⟩ := W0.fns f
    have i0 : 0 ≤ (i : Int) := by omega
    have i1 : (i : Int) < 48 := by omega
    have i2 : (i : Int) < n := by omega
    have j0 : 0 ≤ (j : Int) := by omega
    have j1 : (j : Int) < 48 := by omega
    have j2 : (j : Int) < n := by omega
    have ij : (i : Int) < j := by omega
    have jN : ¬ (n : Int) ≤ j := by omega
    have jm : j < 2147483647 := by omega
    have hd' : j + 1 + d = n := by omega
    have hj1 : i < j + 1 := by omega
    obtain ⟨a1, a2', a3, a4⟩ := B i i0 i2
    obtain ⟨b1, b2, b3, b4⟩ := B j j0 j2
    have q1 : w64 (h i * v j) = h i * v j := w64_bd (bd_mono (bd_mul a1 b2) (by decide))
    have q2 : w64 (h j * v i) = h j * v i := w64_bd (bd_mono (bd_mul b1 a2') (by decide))
    have q3 : w64 (h i * m j) = h i * m j := w64_bd (bd_mono (bd_mul a1 b3) (by decide))
    have q4 : w64 (h j * m i) = h j * m i := w64_bd (bd_mono (bd_mul b1 a3) (by decide))
    have q5 : w64 (v i * m j) = v i * m j := w64_bd (bd_mono (bd_mul a2' b3) (by decide))
    have q6 : w64 (v j * m i) = v j * m i := w64_bd (bd_mono (bd_mul b2 a3) (by decide))
    have go : ∀ μ' R', RG ε μ' M R' → FNs M μ0 μ' → μ' M 59 = μ0 M 59 → (∀ s, ¬ tme s → R' s = R0 s) → ¬ Pr2 h v m c i j → G cd_X12_pairs Q X 317 [(0, (2, M)), (1, (0, i)), (2, (0, j))] [] ε μ' := by
      intro μ' R' H' f' g59 fr' np
      apply g_X12_pairs_317
      refine fun _ _ _ v2 e2 => ?_
      rw [w32_succ jm e2]
      refine ih (j + 1) μ' R' hd' hj1 H' f' g59 fr' (fun b b0 b1 => ?_)
      by_cases q : b = j
      · rw [q]; exact np
      · exact hk b b0 (by clear e2 q1 q2 q3 q4 q5 q6; omega)
    apply g_X12_pairs_14
    rw [r, H.1.f30.1, H.1.f31.1, H.1.f32.1, H.1.f60.1, H.1.f61.1]
    simp only [rh, rv, rm, q1, q2, q3, q4, q5, q6]
    clear q1 q2 q3 q4 q5 q6
    refine fun _ _ _ => ⟨H.1.k, fun z => absurd z jN, fun _ => ⟨H.1.f30.2.1, i0, by rw [H.1.f30.2.2]; exact i1, H.1.f31.2.1, j0, by rw [H.1.f31.2.2]; exact j1, by rw [H.1.f30.2.2]; exact j1, by rw [H.1.f31.2.2]; exact i1, fun _ => ⟨H.1.f32.2.1, by rw [H.1.f32.2.2]; exact j1, by rw [H.1.f32.2.2]; exact i1⟩, fun t et v3 e3 => ⟨fun q => ?_, fun q => go μ R H f f59 fr (fun p => ?_)⟩⟩⟩
    · have pp : par h v m i j := by
        rw [e3, et] at q
        unfold par crH crV crM
        by_cases x1 : h i * v j = h j * v i
        · rw [if_pos x1] at q
          by_cases x2 : h i * m j = h j * m i
          · rw [if_pos x2] at q
            by_cases x3 : v i * m j = v j * m i
            · refine ⟨by rw [x3, Int.mul_comm (m i)]; omega, by rw [x2, Int.mul_comm (m i)]; omega, by rw [x1, Int.mul_comm (v i)]; omega⟩
            · rw [if_neg x3] at q; exact absurd rfl q
          · rw [if_neg x2] at q; exact absurd rfl q
        · rw [if_neg x1] at q; exact absurd rfl q
      have xnz := sel_nz (nz i i0 i2)
      have ynz := sel_nz2 (nz i i0 i2) (nz j j0 j2) pp
      have bx := selx_bd (i := (i : Int)) B ⟨i0, i2⟩
      have b_y := selx_bd (i := (i : Int)) B ⟨j0, j2⟩
      have ax := abs_if (bd_mono bx (by decide : 20 ≤ 62))
      have ay := abs_if (bd_mono b_y (by decide : 20 ≤ 62))
      have s2 := ss2 xnz ynz (h := h) (v := v) (m := m) (i := i) (j := j) rfl rfl
      simp only [H.1.k, H.1.f30.2.1, H.1.f30.2.2, H.1.f31.2.1, H.1.f31.2.2, H.1.f32.2.1, H.1.f32.2.2, H.1.f60.2.1, H.1.f60.2.2, H.1.f61.2.1, H.1.f61.2.2, forall_eq, eq_self, true_and, and_true, implies_true, i0, i1, j0, j1, sel_m, Int.reduceLT, Int.reduceLE, Int.le_refl, ax, ay]
      clear ax ay
      refine ⟨fun ne => ?_, fun eq => go μ R H f f59 fr (fun p => absurd eq (s2.mp p.2.1))⟩
      have two : ∀ t : Int, 0 ≤ t → t < ((2 : Nat) : Int) → t = 0 ∨ t = 1 := fun t t0 t1 => by omega
      have e0 : a2 h v m i j 0 = selx h v m i j := by unfold a2; rw [if_pos rfl]
      have e1 : a2 h v m i j 1 = -(selx h v m i i) := by unfold a2; rw [if_neg (by decide)]
      have H4 : RG ε (st (st (st (st μ (M + 103) 0 i) (M + 103) 1 j) (M + 102) 0 ((selx h v m i j).natAbs : Int)) (M + 102) 1 ((selx h v m i i).natAbs : Int)) M R := (((H.st (by decide) (by decide)).st (by decide) (by decide)).st (by decide) (by decide)).st (by decide) (by decide)
      have F4 : FNs M μ0 (st (st (st (st μ (M + 103) 0 i) (M + 103) 1 j) (M + 102) 0 ((selx h v m i j).natAbs : Int)) (M + 102) 1 ((selx h v m i i).natAbs : Int)) := (((f.trans (fns_st (Or.inr rfl))).trans (fns_st (Or.inr rfl))).trans (fns_st (Or.inl rfl))).trans (fns_st (Or.inl rfl))
      have g4 : st (st (st (st μ (M + 103) 0 i) (M + 103) 1 j) (M + 102) 0 ((selx h v m i j).natAbs : Int)) (M + 102) 1 ((selx h v m i i).natAbs : Int) M 59 = μ0 M 59 := by rw [sx_oa (by omega), sx_oa (by omega), sx_oa (by omega), sx_oa (by omega)]; exact f59
      have eA : ∀ t : Int, 0 ≤ t → t < ((2 : Nat) : Int) → ((a2 h v m i j t).natAbs : Int) = if t = 0 then ((selx h v m i j).natAbs : Int) else ((selx h v m i i).natAbs : Int) := by
        intro t t0 t1
        rcases two t t0 t1 with rfl | rfl
        · rw [e0, if_pos rfl]
        · rw [e1, if_neg (by decide)]; omega
      have gg : gd (fun t => ((a2 h v m i j t).natAbs : Int)) 2 = gd (a2 h v m i j) 2 := gd_congr 2 (fun t _ _ => by simp)
      have W4 := W0.fns F4
      refine sp_X12_isNever (n := 2) (nb := n) (by decide) (by decide) (by omega) (a := fun t => ((a2 h v m i j t).natAbs : Int)) (ix := ix2 i j) (c := c) (code := code) H4 ?_ ?_ ?_ ?_ ?_ ?_ W4.2.2.2.2 (fun q => (F4 _ q (nbc (by decide)) (by omega) (by omega) (by omega) (by omega)).trans (hcode q)) (fun μ5 R5 H5 f5 sn k59 nf e100 fr5 => ?_) (fun μ5 R5 H5 f5 g59 sn fr5 => ?_)
      · intro t t0 t1
        show 0 < ((a2 h v m i j t).natAbs : Int)
        rw [eA t t0 t1]
        split <;> omega
      · intro t t0 t1
        show bd ((a2 h v m i j t).natAbs : Int) 63
        rw [eA t t0 t1]
        split
        · exact bd_le (bd_mono b_y (by decide)) (by omega)
        · exact bd_le (bd_mono bx (by decide)) (by omega)
      · intro t t0 t1
        rcases two t t0 t1 with rfl | rfl
        · exact ⟨i0, i2⟩
        · exact ⟨j0, j2⟩
      · intro t t0 t1
        rcases two t t0 t1 with rfl | rfl
        · exact a4
        · exact b4
      · intro t t0 t1
        show _ = ((a2 h v m i j t).natAbs : Int)
        rw [eA t t0 t1]
        rcases two t t0 t1 with rfl | rfl
        · rw [sx_oi (by decide), sx_same, if_pos rfl]
        · rw [sx_same, if_neg (by decide)]
      · intro t t0 t1
        rcases two t t0 t1 with rfl | rfl
        · rw [sx_oa (by omega), sx_oa (by omega), sx_oi (by decide), sx_same]; rfl
        · rw [sx_oa (by omega), sx_oa (by omega), sx_same]; rfl
      · apply g_X12_pairs_312
        refine fun _ _ _ _ => ⟨fun y => absurd y (by decide), fun _ => h1 μ5 R5 i j H5 (F4.trans (FNs.m f5)) (fun s s1 s2 => (fr5 s s1 s2).trans (fr s s1)) ⟨i0, ij, j2, ⟨pp, s2.mpr ne, sn⟩, fun a b a0 ab' bn q => ?_⟩ ⟨k59, fun t t0 t1 => ?_, ?_⟩⟩
        · rcases q with q | ⟨q1, q2⟩
          · exact hb a b a0 ab' bn q
          · rw [q1]; exact hk b (by omega) q2
        · have := nf t t0 t1
          rw [gg] at this
          exact this
        · rw [e100, gg]
      · apply g_X12_pairs_312
        exact fun _ _ _ _ => ⟨fun _ => go μ5 R5 H5 (F4.trans (FNs.m f5)) (g59.trans g4) (fun s s1 => (fr5 s s1).trans (fr s s1)) (fun p => sn p.2.2), fun y => absurd rfl y⟩
    · obtain ⟨⟨c1, c2, c3⟩, _⟩ := p
      unfold crH at c1
      unfold crV at c2
      unfold crM at c3
      rw [e3, et, if_pos (by rw [Int.mul_comm (h j)]; omega), if_pos (by rw [Int.mul_comm (h j)]; omega), if_pos (by rw [Int.mul_comm (v j)]; omega)] at q
      exact absurd q (by decide)
