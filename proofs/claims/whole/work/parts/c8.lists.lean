set_option maxHeartbeats 1000000
/-! ===== what the lists of rows give: bounds, the frame, no row of nothing ===== -/
theorem RLg.at {n : Int} {cd h v m c : Int → Int} {l : List Rw} (H : RLg n cd h v m c l) {i : Int} (i0 : 0 ≤ i) (i1 : i < n) : ∃ x, l[i.toNat]? = some x ∧ x ∈ l ∧ cd i = x.1 ∧ h i = x.2.1 ∧ v i = x.2.2.1 ∧ m i = x.2.2.2.1 ∧ c i = x.2.2.2.2 := by
  obtain ⟨h1, h2⟩ := H
  have q : i.toNat < l.length := by omega
  have e := List.getElem?_eq_getElem q
  have := h2 i.toNat _ e
  rw [show ((i.toNat : Nat) : Int) = i by omega] at this
  exact ⟨_, e, List.getElem_mem q, this⟩
theorem RLg.one {n n' : Int} {cd h v m c cd' h' v' m' c' : Int → Int} {l : List Rw} (H : RLg n cd h v m c l) (K : RLg n' cd' h' v' m' c' l) : n = n' ∧ ∀ i, 0 ≤ i → i < n → cd i = cd' i ∧ h i = h' i ∧ v i = v' i ∧ m i = m' i ∧ c i = c' i := by
  refine ⟨H.1.trans K.1.symm, fun i i0 i1 => ?_⟩
  obtain ⟨x, e, _, x0, x1, x2, x3, x4⟩ := H.at i0 i1
  obtain ⟨y, e', _, y0, y1, y2, y3, y4⟩ := K.at i0 (by rw [K.1, ← H.1]; exact i1)
  rw [e] at e'
  have := Option.some.inj e'
  subst this
  exact ⟨x0.trans y0.symm, x1.trans y1.symm, x2.trans y2.symm, x3.trans y3.symm, x4.trans y4.symm⟩
theorem gs_mem {ne fa J sl W T : Int → Int} {p q i0 : Int} {x : Rw} : ∀ t : Nat, x ∈ gs ne fa J sl W T p q i0 t → ∃ d : Nat, d < t ∧ x ∈ gj ne fa J sl W T p q (i0 + d) := by
  intro t
  induction t with
  | zero => intro h; exact absurd h (by simp [gs])
  | succ t ih =>
    intro h
    rcases List.mem_append.mp h with h | h
    · obtain ⟨d, d1, d2⟩ := ih h
      exact ⟨d, by omega, d2⟩
    · exact ⟨t, by omega, h⟩
theorem gs_two {ne fa J sl W T : Int → Int} {p q i0 : Int} : ∀ t : Nat, ∃ r, gs ne fa J sl W T p q i0 (t + 1) = mrA i0 (ne i0 * J (4 * i0) + fa i0 * J (4 * i0 + 2)) (ne i0 * J (4 * i0 + 1) + fa i0 * J (4 * i0 + 3)) (ne i0 + fa i0) (W i0) (T i0) :: mrB i0 (fa i0 * J (4 * i0) + ne i0 * J (4 * i0 + 2)) (fa i0 * J (4 * i0 + 1) + ne i0 * J (4 * i0 + 3)) (ne i0 + fa i0) (W i0) (T i0) :: r := by
  intro t
  induction t with
  | zero =>
    refine ⟨(if sl i0 = 0 then [] else [srA i0 p q (J (4 * i0 + 2) - J (4 * i0)) (J (4 * i0 + 3) - J (4 * i0 + 1)) (W i0), srB i0 p q (J (4 * i0 + 2) - J (4 * i0)) (J (4 * i0 + 3) - J (4 * i0 + 1)) (W i0)]), ?_⟩
    show gj ne fa J sl W T p q (i0 + ((0 : Nat) : Int)) = _
    rw [show i0 + ((0 : Nat) : Int) = i0 by omega]
    rfl
  | succ t ih =>
    obtain ⟨r, e⟩ := ih
    refine ⟨r ++ gj ne fa J sl W T p q (i0 + ((t + 1 : Nat) : Int)), ?_⟩
    show gs ne fa J sl W T p q i0 (t + 1) ++ _ = _
    rw [e]; rfl
/-- a row's numbers are small -/
def rb (x : Rw) (H P C : Int) : Prop := ab x.2.1 H ∧ ab x.2.2.1 H ∧ ab x.2.2.2.1 P ∧ ab x.2.2.2.2 C
theorem rb.le {x : Rw} {H P C H' P' C' : Int} (h : rb x H P C) (a : H ≤ H') (b : P ≤ P') (c : C ≤ C') : rb x H' P' C' := ⟨ab_l h.1 a, ab_l h.2.1 a, ab_l h.2.2.1 b, ab_l h.2.2.2 c⟩
/-- what is asked of the numbers that a list is made of -/
def GI (ne fa J sl W T : Int → Int) (p q i0 : Int) (t : Nat) (P : Int) : Prop := (∀ d : Nat, d < t → 0 ≤ ne (i0 + d) ∧ 0 ≤ fa (i0 + d) ∧ 1 ≤ ne (i0 + d) + fa (i0 + d) ∧ ne (i0 + d) + fa (i0 + d) ≤ P ∧ ab (W (i0 + d)) 7200000 ∧ ab (T (i0 + d)) 5000000000) ∧ (∀ i, 4 * i0 ≤ i → i < 4 * (i0 + t) → ab (J i) 100) ∧ 0 ≤ p ∧ p ≤ 20 ∧ 1 ≤ q ∧ q ≤ 20 ∧ (∀ d : Nat, d < t → ¬ (J (4 * (i0 + d) + 2) = J (4 * (i0 + d)) ∧ J (4 * (i0 + d) + 3) = J (4 * (i0 + d) + 1))) ∧ 4 ≤ P ∧ P ≤ 256
theorem cvp {x y p q P : Int} (p0 : 0 ≤ p) (q0 : 0 ≤ q) (hx : ab x 100) (hy : ab y 100) (hs : p + q ≤ P) : ab (p * x + q * y) (100 * P) := by
  unfold ab at *
  have a1 : p * x ≤ p * 100 := Int.mul_le_mul_of_nonneg_left hx.2 p0
  have a2 : p * (-100) ≤ p * x := Int.mul_le_mul_of_nonneg_left hx.1 p0
  have a3 : q * y ≤ q * 100 := Int.mul_le_mul_of_nonneg_left hy.2 q0
  have a4 : q * (-100) ≤ q * y := Int.mul_le_mul_of_nonneg_left hy.1 q0
  generalize p * x = u at *
  generalize q * y = v at *
  omega
theorem nz_slope {p q x y : Int} (q1 : 1 ≤ q) (h : ¬ (x = 0 ∧ y = 0)) (a : p * y - q * x = 0) (b : -p * x - q * y = 0) : False := by
  have e1 : (p * p + q * q) * x = 0 := by grind
  have e2 : (p * p + q * q) * y = 0 := by grind
  have s : 0 < p * p + q * q := by
    have a1 : 0 ≤ p * p := by
      rcases Int.le_total 0 p with h | h
      · exact Int.mul_nonneg h h
      · exact Int.mul_nonneg_of_nonpos_of_nonpos h h
    have a2 : 1 * 1 ≤ q * q := Int.mul_le_mul q1 q1 (by decide) (by omega)
    omega
  rcases Int.mul_eq_zero.mp e1 with z | z
  · omega
  · rcases Int.mul_eq_zero.mp e2 with z' | z'
    · omega
    · exact h ⟨z, z'⟩
theorem gj_ok {ne fa J sl W T : Int → Int} {p q i0 P : Int} {t d : Nat} (I : GI ne fa J sl W T p q i0 t P) (hd : d < t) {x : Rw} (hx : x ∈ gj ne fa J sl W T p q (i0 + d)) : (rb x (1000 * P) P (P * 5000000000 + 1000 * P * 7200000) ∧ x.2.2.2.1 ≠ 0 ∧ (x.2.2.2.1 = ne (i0 + d) + fa (i0 + d) ∨ x.2.2.2.1 = -(ne (i0 + d) + fa (i0 + d)))) ∨ (sl (i0 + d) ≠ 0 ∧ rb x 8000 0 57600000000 ∧ x.2.2.2.1 = 0 ∧ ¬ (x.2.1 = 0 ∧ x.2.2.1 = 0)) := by
  obtain ⟨I1, I2, p0, p1, q0, q1, nz, P4, P5⟩ := I
  obtain ⟨n0, f0, s1, s2, bw, bt⟩ := I1 d hd
  have j0 := I2 (4 * (i0 + d)) (by omega) (by omega)
  have j1 := I2 (4 * (i0 + d) + 1) (by omega) (by omega)
  have j2 := I2 (4 * (i0 + d) + 2) (by omega) (by omega)
  have j3 := I2 (4 * (i0 + d) + 3) (by omega) (by omega)
  have nz' := nz d hd
  generalize i0 + (d : Int) = k at *
  unfold gj at hx
  generalize ne k = n at *
  generalize fa k = f at *
  generalize W k = w at *
  generalize T k = tt at *
  generalize J (4 * k) = ax at *
  generalize J (4 * k + 1) = ay at *
  generalize J (4 * k + 2) = bx at *
  generalize J (4 * k + 3) = by_ at *
  have bs : ab (n + f) P := by unfold ab; omega
  have ct := abm bs bt
  rcases List.mem_append.mp hx with hx | hx
  · left
    simp only [List.mem_cons, List.not_mem_nil, or_false] at hx
    rcases hx with hx | hx
    · have bx' := cvp n0 f0 j0 j2 s2
      have by' := cvp n0 f0 j1 j3 s2
      rw [hx]
      unfold mrA rb
      generalize n * ax + f * bx = X at *
      generalize n * ay + f * by_ = Y at *
      have cX : ab (10 * X) (1000 * P) := by unfold ab at *; omega
      have cwt := abm cX bw
      refine ⟨⟨?_, cX, ?_, ab_sub ct cwt⟩, ?_, Or.inr rfl⟩
      · show ab (-10 * Y) (1000 * P)
        unfold ab at *; omega
      · show ab (-(n + f)) P
        unfold ab at *; omega
      · show -(n + f) ≠ 0
        omega
    · have bx' := cvp f0 n0 j0 j2 (by omega : f + n ≤ P)
      have by' := cvp f0 n0 j1 j3 (by omega : f + n ≤ P)
      rw [hx]
      unfold mrB rb
      generalize f * ax + n * bx = X at *
      generalize f * ay + n * by_ = Y at *
      have cX : ab (10 * X) (1000 * P) := by unfold ab at *; omega
      have cwt := abm cX bw
      have cc := ab_sub cwt ct
      refine ⟨⟨?_, ?_, bs, ab_l cc (by omega)⟩, ?_, Or.inl rfl⟩
      · show ab (10 * Y) (1000 * P)
        unfold ab at *; omega
      · show ab (-10 * X) (1000 * P)
        unfold ab at *; omega
      · show n + f ≠ 0
        omega
  · right
    by_cases z : sl k = 0
    · rw [if_pos z] at hx
      exact absurd hx (by simp)
    · rw [if_neg z] at hx
      have bp : ab p 20 := by unfold ab; omega
      have bq : ab q 20 := by unfold ab; omega
      have d1 := ab_sub j2 j0
      have d2 := ab_sub j3 j1
      have hn : ¬ (bx - ax = 0 ∧ by_ - ay = 0) := fun y => nz' ⟨by omega, by omega⟩
      generalize bx - ax = x' at *
      generalize by_ - ay = y' at *
      have p1 := abm bp d2
      have p2 := abm bq d1
      have p3 := abm (abn bp) d1
      have p4 := abm bq d2
      have a1 := ab_sub p1 p2
      have a2 := ab_sub p3 p4
      have a3 := ab_ad p1 p2
      have a4 := ab_ad p3 p4
      have c1 := abm (abn a2) bw
      have c2 := abm (abn a4) bw
      simp only [List.mem_cons, List.not_mem_nil, or_false] at hx
      refine ⟨z, ?_⟩
      rcases hx with hx | hx
      · rw [hx]
        unfold srA rb
        refine ⟨⟨ab_l a1 (by decide), ab_l a2 (by decide), (show ab (0 : Int) 0 from ⟨by decide, by decide⟩), ab_l c1 (by decide)⟩, rfl, fun y => nz_slope q0 hn y.1 y.2⟩
      · rw [hx]
        unfold srB rb
        refine ⟨⟨ab_l a3 (by decide), ab_l a4 (by decide), (show ab (0 : Int) 0 from ⟨by decide, by decide⟩), ab_l c2 (by decide)⟩, rfl, fun y => ?_⟩
        refine nz_slope (p := p) (q := q) (x := -x') (y := y') q0 (fun u => hn ⟨by omega, u.2⟩) ?_ ?_
        · have := y.1
          simp only at this
          rw [Int.mul_neg]
          omega
        · have := y.2
          simp only at this
          rw [Int.neg_mul, Int.mul_neg, Int.neg_neg]
          rw [Int.neg_mul] at this
          omega
theorem frm_ok {k : Int} {x : Rw} (hx : x ∈ frm k) : rb x 1 0 1000000000 ∧ x.2.2.2.1 = 0 ∧ ¬ (x.2.1 = 0 ∧ x.2.2.1 = 0) := by
  unfold frm at hx
  simp only [List.mem_cons, List.not_mem_nil, or_false] at hx
  unfold rb ab
  rcases hx with h | h | h | h <;> (rw [h]; simp)
theorem gsl_ok {ne fa J sl W T : Int → Int} {p q i0 P kf : Int} {t : Nat} (I : GI ne fa J sl W T p q i0 t P) {x : Rw} (hx : x ∈ gs ne fa J sl W T p q i0 t ++ frm kf) : (rb x (1000 * P) P (P * 5000000000 + 1000 * P * 7200000) ∨ rb x 8000 P 57600000000) ∧ ¬ (x.2.1 = 0 ∧ x.2.2.1 = 0 ∧ x.2.2.2.1 = 0) ∧ (x.2.2.2.1 = 0 ∨ ∃ d : Nat, d < t ∧ (x.2.2.2.1 = ne (i0 + d) + fa (i0 + d) ∨ x.2.2.2.1 = -(ne (i0 + d) + fa (i0 + d)))) := by
  have P4 := I.2.2.2.2.2.2.2
  rcases List.mem_append.mp hx with hx | hx
  · obtain ⟨d, d1, d2⟩ := gs_mem t hx
    rcases gj_ok I d1 d2 with ⟨h1, h2, h3⟩ | ⟨_, h1, h2, h3⟩
    · exact ⟨Or.inl h1, fun y => h2 y.2.2, Or.inr ⟨d, d1, h3⟩⟩
    · exact ⟨Or.inr (h1.le (by decide) (by omega) (by decide)), fun y => h3 ⟨y.1, y.2.1⟩, Or.inl h2⟩
  · obtain ⟨h1, h2, h3⟩ := frm_ok hx
    exact ⟨Or.inr (h1.le (by decide) (by omega) (by decide)), fun y => h3 ⟨y.1, y.2.1⟩, Or.inl h2⟩
