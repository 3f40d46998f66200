set_option maxHeartbeats 2000000
/-! ===== making an arch ===== -/
def Tb (ε : m_E) (a D : Int) (L : List (Int × Int × Int)) (F : List (Int × Int)) : Prop := nx ε = a + D ∧ 0 < D ∧ (∀ q ∈ L, 0 ≤ q.1 ∧ q.1 < D ∧ kd ε (a + q.1) = q.2.1 ∧ ln ε (a + q.1) = q.2.2) ∧ ∀ q ∈ F, fn ε a q.1 = q.2
theorem Tb.al {ε : m_E} {a D k n : Int} {L : List (Int × Int × Int)} {F : List (Int × Int)} (H : Tb ε a D L F) : Tb (ealloc ε k n) a (D + 1) ((D, k, n) :: L) F := by
  obtain ⟨h1, h2, h3, h4⟩ := H
  refine ⟨by show nx ε + 1 = _; omega, by omega, fun q hq => ?_, fun q hq => ?_⟩
  · rcases List.mem_cons.mp hq with z | z
    · subst z
      refine ⟨by omega, by show D < D + 1; omega, ?_, ?_⟩
      · show (if a + D = nx ε then k else kd ε (a + D)) = k
        rw [if_pos (by omega)]
      · show (if a + D = nx ε then n else ln ε (a + D)) = n
        rw [if_pos (by omega)]
    · obtain ⟨k0, k1, k2, k3⟩ := h3 q z
      refine ⟨k0, by omega, ?_, ?_⟩
      · show (if a + q.1 = nx ε then k else kd ε (a + q.1)) = _
        rw [if_neg (by omega)]; exact k2
      · show (if a + q.1 = nx ε then n else ln ε (a + q.1)) = _
        rw [if_neg (by omega)]; exact k3
  · show (if a = nx ε then 0 else fn ε a q.1) = _
    rw [if_neg (by omega)]; exact h4 q hq
theorem Tb.fi {ε : m_E} {a D i v : Int} {L : List (Int × Int × Int)} {F : List (Int × Int)} (H : Tb ε a D L F) (hi : ∀ q ∈ F, q.1 ≠ i) : Tb (efin ε a i v) a D L ((i, v) :: F) := by
  obtain ⟨h1, h2, h3, h4⟩ := H
  refine ⟨h1, h2, h3, fun q hq => ?_⟩
  rcases List.mem_cons.mp hq with z | z
  · subst z
    show st (fn ε) a i v a i = v
    rw [sx_same]
  · show st (fn ε) a i v a q.1 = _
    rw [sx_oi (hi q z)]; exact h4 q z
theorem Tb.k {ε : m_E} {a D k n d : Int} {L : List (Int × Int × Int)} {F : List (Int × Int)} (H : Tb ε a D L F) (h : (d, k, n) ∈ L) : kd ε (a + d) = k ∧ ln ε (a + d) = n := ⟨(H.2.2.1 _ h).2.2.1, (H.2.2.1 _ h).2.2.2⟩
theorem Tb.f {ε : m_E} {a D i v : Int} {L : List (Int × Int × Int)} {F : List (Int × Int)} (H : Tb ε a D L F) (h : (i, v) ∈ F) : fn ε a i = v := H.2.2.2 _ h
theorem sp_X0_init {Q Y : m_Po} {ε0 ε : m_E} {μ : m_M} {a v : Int} (h0 : 0 < a) (T0 : Tb ε a 1 [(0, 0, 0)] []) (v1 : 1 ≤ v) (v10 : v ≤ 10) (e : EX ε0 ε) (hb : ∀ b, 0 ≤ kd ε0 b → b < a) (hh : ∀ (ε' : m_E) (μ' : m_M), EX ε0 ε' → LA ε' a v → (∀ b j, b < a → μ' b j = μ b j) → (∀ j, j ≠ 14 → j ≠ 15 → μ' a j = μ a j) → μ' a 14 = 1 → μ' a 15 = 2 → (∀ d j, 1 ≤ d → d ≤ 10 → d ≠ 6 → μ' (a + d) j = 0) → (∀ p, 0 ≤ p → p < v → μ' (a + 6) p = -1) → Q 0 ε' μ') : o_X0_init [(2, a), (0, v)] ε μ Q Y := by
  have hb' : kd ε0 a < 0 ∨ ∀ b, 0 ≤ kd ε0 b → b < a := Or.inr hb
  have ka : ∀ {ε : m_E} {D : Int} {L : List (Int × Int × Int)} {F : List (Int × Int)}, Tb ε a D ((0, 0, 0) :: L) F → kd ε a = 0 := fun H => by have := (H.k (List.mem_cons_self)).1; rw [Int.add_zero] at this; exact this
  have kz : ∀ {ε : m_E} {D : Int} {L : List (Int × Int × Int)} {F : List (Int × Int)}, (0, 0, 0) ∈ L → Tb ε a D L F → kd ε a = 0 := fun hm H => by have := (H.k hm).1; rw [Int.add_zero] at this; exact this
  have hv : (if 1 < (if v < 10 then v else 10) then (if v < 10 then v else 10) else 1) = v := by split <;> split <;> omega
  apply e_X0_init
  rw [hv]
  intro _ _
  refine ⟨h0, fun a1 ε1 μ1 ha1 e1 m1 => ?_⟩
  have q1 := T0.al (k := 100) (n := 4)
  rw [← e1] at q1
  have E1 : EX ε0 ε1 := by rw [e1]; exact ex_al e (fun b h => by have := hb b h; have := T0.1; omega)
  rw [T0.1] at ha1
  subst ha1
  refine ⟨kz (by simp) q1, fun ε2 e2 a2 ε3 μ2 ha2 e3 m2 => ?_⟩
  have p2 := q1.fi (i := 3) (v := a + 1) (by simp)
  rw [← e2] at p2
  have E2 : EX ε0 ε2 := by rw [e2]; exact ex_fi E1 hb'
  have q2 := p2.al (k := 100) (n := 4)
  rw [← e3] at q2
  have E3 : EX ε0 ε3 := by rw [e3]; exact ex_al E2 (fun b h => by have := hb b h; have := p2.1; omega)
  rw [p2.1] at ha2
  subst ha2
  refine ⟨kz (by simp) q2, fun ε4 e4 a3 ε5 μ3 ha3 e5 m3 => ?_⟩
  have p3 := q2.fi (i := 4) (v := a + (1 + 1)) (by simp)
  rw [← e4] at p3
  have E4 : EX ε0 ε4 := by rw [e4]; exact ex_fi E3 hb'
  have q3 := p3.al (k := 100) (n := 6)
  rw [← e5] at q3
  have E5 : EX ε0 ε5 := by rw [e5]; exact ex_al E4 (fun b h => by have := hb b h; have := p3.1; omega)
  rw [p3.1] at ha3
  subst ha3
  refine ⟨kz (by simp) q3, fun ε6 e6 a4 ε7 μ4 ha4 e7 m4 => ?_⟩
  have p4 := q3.fi (i := 5) (v := a + (1 + 1 + 1)) (by simp)
  rw [← e6] at p4
  have E6 : EX ε0 ε6 := by rw [e6]; exact ex_fi E5 hb'
  have q4 := p4.al (k := 100) (n := 6)
  rw [← e7] at q4
  have E7 : EX ε0 ε7 := by rw [e7]; exact ex_al E6 (fun b h => by have := hb b h; have := p4.1; omega)
  rw [p4.1] at ha4
  subst ha4
  refine ⟨kz (by simp) q4, fun ε8 e8 a5 ε9 μ5 ha5 e9 m5 => ?_⟩
  have p5 := q4.fi (i := 6) (v := a + (1 + 1 + 1 + 1)) (by simp)
  rw [← e8] at p5
  have E8 : EX ε0 ε8 := by rw [e8]; exact ex_fi E7 hb'
  have q5 := p5.al (k := 100) (n := 6)
  rw [← e9] at q5
  have E9 : EX ε0 ε9 := by rw [e9]; exact ex_al E8 (fun b h => by have := hb b h; have := p5.1; omega)
  rw [p5.1] at ha5
  subst ha5
  refine ⟨kz (by simp) q5, fun ε10 e10 => ?_⟩
  have p6 := q5.fi (i := 7) (v := a + (1 + 1 + 1 + 1 + 1)) (by simp)
  rw [← e10] at p6
  have E10 : EX ε0 ε10 := by rw [e10]; exact ex_fi E9 hb'
  refine ⟨kz (by simp) p6, fun μ6 m6 μ7 m7 => ⟨kz (by simp) p6, fun ε11 e11 => ?_⟩⟩
  have p7 := p6.fi (i := 0) (v := v) (by simp)
  rw [← e11] at p7
  have E11 : EX ε0 ε11 := by rw [e11]; exact ex_fi E10 hb'
  have f11 : fn ε11 a 0 = v := p7.f (by simp)
  rw [f11]
  refine ⟨kz (by simp) p7, by omega, v10, fun a6 ε12 μ8 ha6 e12 m8 => ?_⟩
  have q7 := p7.al (k := 100) (n := v)
  rw [← e12] at q7
  have E12 : EX ε0 ε12 := by rw [e12]; exact ex_al E11 (fun b h => by have := hb b h; have := p7.1; omega)
  rw [p7.1] at ha6
  subst ha6
  refine ⟨kz (by simp) q7, fun ε13 e13 => ?_⟩
  have p8 := q7.fi (i := 1) (v := a + (1 + 1 + 1 + 1 + 1 + 1)) (by simp)
  rw [← e13] at p8
  have E13 : EX ε0 ε13 := by rw [e13]; exact ex_fi E12 hb'
  have f13 : fn ε13 a 0 = v := p8.f (by simp)
  rw [f13]
  refine ⟨kz (by simp) p8, by omega, v10, fun a7 ε14 μ9 ha7 e14 m9 => ?_⟩
  have q8 := p8.al (k := 105) (n := v)
  rw [← e14] at q8
  have E14 : EX ε0 ε14 := by rw [e14]; exact ex_al E13 (fun b h => by have := hb b h; have := p8.1; omega)
  rw [p8.1] at ha7
  subst ha7
  refine ⟨kz (by simp) q8, fun ε15 e15 => ?_⟩
  have p9 := q8.fi (i := 2) (v := a + (1 + 1 + 1 + 1 + 1 + 1 + 1)) (by simp)
  rw [← e15] at p9
  have E15 : EX ε0 ε15 := by rw [e15]; exact ex_fi E14 hb'
  have f15 : fn ε15 a 0 = v := p9.f (by simp)
  rw [f15, w32_id (show i32 (v + 1) by unfold i32; omega), w32_id (show i32 (4 * (v + 1)) by unfold i32; omega)]
  refine ⟨kz (by simp) p9, by omega, by omega, fun a8 ε16 μ10 ha8 e16 m10 => ?_⟩
  have q9 := p9.al (k := 100) (n := 4 * (v + 1))
  rw [← e16] at q9
  have E16 : EX ε0 ε16 := by rw [e16]; exact ex_al E15 (fun b h => by have := hb b h; have := p9.1; omega)
  rw [p9.1] at ha8
  subst ha8
  refine ⟨kz (by simp) q9, fun ε17 e17 => ?_⟩
  have p10 := q9.fi (i := 8) (v := a + (1 + 1 + 1 + 1 + 1 + 1 + 1 + 1)) (by simp)
  rw [← e17] at p10
  have E17 : EX ε0 ε17 := by rw [e17]; exact ex_fi E16 hb'
  have f17 : fn ε17 a 0 = v := p10.f (by simp)
  rw [f17, w32_id (show i32 (v + 1) by unfold i32; omega)]
  refine ⟨kz (by simp) p10, by omega, by omega, fun a9 ε18 μ11 ha9 e18 m11 => ?_⟩
  have q10 := p10.al (k := 103) (n := v + 1)
  rw [← e18] at q10
  have E18 : EX ε0 ε18 := by rw [e18]; exact ex_al E17 (fun b h => by have := hb b h; have := p10.1; omega)
  rw [p10.1] at ha9
  subst ha9
  refine ⟨kz (by simp) q10, fun ε19 e19 => ?_⟩
  have p11 := q10.fi (i := 9) (v := a + (1 + 1 + 1 + 1 + 1 + 1 + 1 + 1 + 1)) (by simp)
  rw [← e19] at p11
  have E19 : EX ε0 ε19 := by rw [e19]; exact ex_fi E18 hb'
  have f19 : fn ε19 a 0 = v := p11.f (by simp)
  rw [f19]
  refine ⟨kz (by simp) p11, by omega, v10, fun a10 ε20 μ12 ha10 e20 m12 => ?_⟩
  have q11 := p11.al (k := 100) (n := v)
  rw [← e20] at q11
  have E20 : EX ε0 ε20 := by rw [e20]; exact ex_al E19 (fun b h => by have := hb b h; have := p11.1; omega)
  rw [p11.1] at ha10
  subst ha10
  refine ⟨kz (by simp) q11, fun ε21 e21 v2 h2 => ?_⟩
  have p12 := q11.fi (i := 10) (v := a + (1 + 1 + 1 + 1 + 1 + 1 + 1 + 1 + 1 + 1)) (by simp)
  rw [← e21] at p12
  have E21 : EX ε0 ε21 := by rw [e21]; exact ex_fi E20 hb'
  rw [h2]
  clear e1 e2 e3 e4 e5 e6 e7 e8 e9 e10 e11 e12 e13 e14 e15 e16 e17 e18 e19 e20 e21 E1 E2 E3 E4 E5 E6 E7 E8 E9 E10 E11 E12 E13 E14 E15 E16 E17 E18 E19 E20 p2 p3 p4 p5 p6 p7 p8 p9 p10 p11 q1 q2 q3 q4 q5 q7 q8 q9 q10 q11 f11 f13 f15 f17 f19
  have LA' : LA ε21 a v := by
    refine ⟨⟨kz (by simp) p12, fun q hq => ?_⟩, p12.f (by simp), v1, v10⟩
    simp only [LA_t, List.mem_cons, List.not_mem_nil, or_false] at hq
    rcases hq with h | h | h | h | h | h | h | h | h | h <;> rw [h]
    · exact ⟨p12.f (by simp), (p12.k (d := 1) (k := 100) (n := 4) (by simp)).1, (p12.k (d := 1) (k := 100) (n := 4) (by simp)).2⟩
    · exact ⟨p12.f (by simp), (p12.k (d := 2) (k := 100) (n := 4) (by simp)).1, (p12.k (d := 2) (k := 100) (n := 4) (by simp)).2⟩
    · exact ⟨p12.f (by simp), (p12.k (d := 3) (k := 100) (n := 6) (by simp)).1, (p12.k (d := 3) (k := 100) (n := 6) (by simp)).2⟩
    · exact ⟨p12.f (by simp), (p12.k (d := 4) (k := 100) (n := 6) (by simp)).1, (p12.k (d := 4) (k := 100) (n := 6) (by simp)).2⟩
    · exact ⟨p12.f (by simp), (p12.k (d := 5) (k := 100) (n := 6) (by simp)).1, (p12.k (d := 5) (k := 100) (n := 6) (by simp)).2⟩
    · exact ⟨p12.f (by simp), (p12.k (d := 6) (k := 100) (n := v) (by simp)).1, (p12.k (d := 6) (k := 100) (n := v) (by simp)).2⟩
    · exact ⟨p12.f (by simp), (p12.k (d := 7) (k := 105) (n := v) (by simp)).1, (p12.k (d := 7) (k := 105) (n := v) (by simp)).2⟩
    · exact ⟨p12.f (by simp), (p12.k (d := 8) (k := 100) (n := 4 * (v + 1)) (by simp)).1, (p12.k (d := 8) (k := 100) (n := 4 * (v + 1)) (by simp)).2⟩
    · exact ⟨p12.f (by simp), (p12.k (d := 9) (k := 103) (n := v + 1) (by simp)).1, (p12.k (d := 9) (k := 103) (n := v + 1) (by simp)).2⟩
    · exact ⟨p12.f (by simp), (p12.k (d := 10) (k := 100) (n := v) (by simp)).1, (p12.k (d := 10) (k := 100) (n := v) (by simp)).2⟩
  have b12 : ∀ b j, b < a → μ12 b j = μ b j := fun b j h => by
    rw [m12, mnew, if_neg (by omega), m11, mnew, if_neg (by omega), m10, mnew, if_neg (by omega), m9, mnew, if_neg (by omega), m8, mnew, if_neg (by omega), m7, sx_oa (by omega), m6, sx_oa (by omega), m5, mnew, if_neg (by omega), m4, mnew, if_neg (by omega), m3, mnew, if_neg (by omega), m2, mnew, if_neg (by omega), m1, mnew, if_neg (by omega)]
  have a12 : ∀ j, j ≠ 14 → j ≠ 15 → μ12 a j = μ a j := fun j h h' => by
    rw [m12, mnew, if_neg (by omega), m11, mnew, if_neg (by omega), m10, mnew, if_neg (by omega), m9, mnew, if_neg (by omega), m8, mnew, if_neg (by omega), m7, sx_oi h', m6, sx_oi h, m5, mnew, if_neg (by omega), m4, mnew, if_neg (by omega), m3, mnew, if_neg (by omega), m2, mnew, if_neg (by omega), m1, mnew, if_neg (by omega)]
  have a14 : μ12 a 14 = 1 := by
    rw [m12, mnew, if_neg (by omega), m11, mnew, if_neg (by omega), m10, mnew, if_neg (by omega), m9, mnew, if_neg (by omega), m8, mnew, if_neg (by omega), m7, sx_oi (by decide), m6, sx_same]
  have a15 : μ12 a 15 = 2 := by
    rw [m12, mnew, if_neg (by omega), m11, mnew, if_neg (by omega), m10, mnew, if_neg (by omega), m9, mnew, if_neg (by omega), m8, mnew, if_neg (by omega), m7, sx_same]
  have z12 : ∀ d j, 1 ≤ d → d ≤ 10 → μ12 (a + d) j = 0 := fun d j d1 d10 => by
    rw [m12, mnew]; split
    · rfl
    rw [m11, mnew]; split
    · rfl
    rw [m10, mnew]; split
    · rfl
    rw [m9, mnew]; split
    · rfl
    rw [m8, mnew]; split
    · rfl
    rw [m7, sx_oa (by omega), m6, sx_oa (by omega), m5, mnew]; split
    · rfl
    rw [m4, mnew]; split
    · rfl
    rw [m3, mnew]; split
    · rfl
    rw [m2, mnew]; split
    · rfl
    rw [m1, mnew]; split
    · rfl
    omega
  clear m1 m2 m3 m4 m5 m6 m7 m8 m9 m10 m11 m12 p12
  have O : ∀ (d : Nat) (i : Int) (μ3' : m_M), 0 ≤ i → i + d = v → (∀ b j, b ≠ a + 6 → μ3' b j = μ12 b j) → (∀ k, 0 ≤ k → k < i → μ3' (a + 6) k = -1) → G cd_X0_init Q Y 125 [(0, (2, a)), (2, (0, i))] [] ε21 μ3' := by
    intro d
    induction d with
    | zero =>
      intro i μ3' i0 hi g3 z3
      apply g_X0_init_125
      rw [LA'.2.1]
      exact fun _ _ => ⟨LA'.k, fun _ => hh ε21 μ3' E21 LA' (fun b j h => by rw [g3 _ _ (by omega)]; exact b12 b j h) (fun j h h' => by rw [g3 _ _ (by omega)]; exact a12 j h h') (by rw [g3 _ _ (by omega)]; exact a14) (by rw [g3 _ _ (by omega)]; exact a15) (fun d j d1 d10 d6 => by rw [g3 _ _ (by omega)]; exact z12 d j d1 d10) (fun p p0 p1 => z3 p p0 (by omega)), fun q => absurd q (by omega)⟩
    | succ d ih =>
      intro i μ3' i0 hi g3 z3
      apply g_X0_init_125
      rw [LA'.2.1, LA'.f1.1]
      refine fun _ _ => ⟨LA'.k, fun q => absurd q (by omega), fun _ => ⟨LA'.f1.2.1, i0, by rw [LA'.f1.2.2]; omega, fun μ4' m4' w hw => ?_⟩⟩
      rw [w32_id (show i32 (i + 1) by unfold i32; omega)] at hw
      rw [hw]
      refine ih (i + 1) μ4' (by omega) (by omega) (fun b j h => by rw [m4', sx_oa h]; exact g3 b j h) (fun k k0 k1 => ?_)
      rw [m4']
      by_cases z : k = i
      · rw [z, sx_same]
      · rw [sx_oi z]; exact z3 k k0 (by omega)
  exact O v.toNat 0 μ12 (by decide) (by omega) (fun _ _ _ => rfl) (fun k k0 k1 => absurd k1 (by omega))
