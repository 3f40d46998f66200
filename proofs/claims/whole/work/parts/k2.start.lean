set_option maxHeartbeats 2000000
/-! ===== what the constructors make is one state of class and reference ===== -/
section Ms
variable {ε0 ε : m_E} {μ0 μ : m_M} {X D : Int} {L : List (Int × Int × Int)} {F : List (Int × Int × Int)} {S : List (Int × Int × Int × Int)}
theorem MK.lt (H : MK ε0 μ0 X D L F S ε μ) {d k : Int} {T : List (Int × Int × Int × Int)} (h1 : (d, k, 0) ∈ L) (h2 : ∀ q ∈ T, (d, q.1, d + q.2.1) ∈ F ∧ (d + q.2.1, q.2.2.1, q.2.2.2) ∈ L) : LT ε (X + d) k T := by
  refine ⟨(H.2.2.1 _ h1).2.1, fun q hq => ?_⟩
  obtain ⟨a, b⟩ := h2 q hq
  have f := (H.2.2.2.1 _ a).2
  have g := (H.2.2.1 _ b).2
  rw [Int.add_assoc]
  exact ⟨f, g.1, g.2⟩
theorem MK.v (H : MK ε0 μ0 X D L F S ε μ) {b d j r v : Int} (e : b = X + d) (h0 : 0 ≤ d) (h1 : d < D) (h : lks S d j = (r, v)) : μ b j = r * X + v := by
  rw [e, H.2.2.2.2.2 d j h0 h1, h]
theorem MK.z (H : MK ε0 μ0 X D L F S ε μ) {b d : Int} (j : Int) (e : b = X + d) (h0 : 0 ≤ d) (h1 : d < D) (h : ∀ q ∈ S, q.1 ≠ d) : μ b j = 0 := by
  rw [H.v (r := 0) (v := 0) e h0 h1 (lks_no (fun q hq z => h q hq z.1))]
  omega
end Ms
theorem mk_rel {ε0 ε : m_E} {μ0 μ : m_M} {X : Int} (H : MK ε0 μ0 X 142 ((141, 101, 1) :: mL12_z) mF12_z mS12_z ε μ) : Rel ε μ X := by
  have z : ∀ {b d j : Int}, b = X + d → 0 ≤ d → d < 142 → lks mS12_z d j = (0, 0) → μ b j = 0 := fun e h0 h1 h => by
    rw [H.v e h0 h1 h]; omega
  have ly : LY ε X := by
    have := H.lt (d := 0) (k := 9) (T := LY_t) (by decide +kernel) (by decide +kernel)
    rw [Int.add_zero] at this
    exact this
  have lm : LM ε (X + 34) := H.lt (d := 34) (k := 11) (T := LM_t) (by decide +kernel) (by decide +kernel)
  have s4 : sgM μ (X + 34) 0 4 = 0 := z (d := 34) (by omega) (by decide) (by decide) (by decide +kernel)
  have s14 : sgM μ (X + 34) 0 14 = 0 := z (d := 34) (by omega) (by decide) (by decide) (by decide +kernel)
  have s27 : sgM μ (X + 34) 0 27 = 0 := z (d := 34) (by omega) (by decide) (by decide) (by decide +kernel)
  have s66 : sgM μ (X + 34) 0 66 = -1 := by
    have := H.v (b := X + 34 + 0) (d := 34) (j := 66) (r := 0) (v := -1) (by omega) (by decide) (by decide) (by decide +kernel)
    show μ (X + 34 + 0) 66 = -1
    rw [this]; omega
  have x9 : μ X 9 = 0 := z (d := 0) (by omega) (by decide) (by decide) (by decide +kernel)
  have x10 : μ X 10 = 0 := z (d := 0) (by omega) (by decide) (by decide) (by decide +kernel)
  have x11 : μ X 11 = 0 := z (d := 0) (by omega) (by decide) (by decide) (by decide +kernel)
  refine ⟨fun _ => -1, fun r => bv μ (X + 34 + r) (X + 34 + r + 1), ⟨ly, H.lt (d := 4) (k := 1) (T := LB_t) (by decide +kernel) (by decide +kernel), H.lt (d := 10) (k := 2) (T := LC_t) (by decide +kernel) (by decide +kernel), H.lt (d := 15) (k := 3) (T := LN_t) (by decide +kernel) (by decide +kernel), H.lt (d := 20) (k := 7) (T := LV_t) (by decide +kernel) (by decide +kernel), H.lt (d := 29) (k := 4) (T := LPg_t) (by decide +kernel) (by decide +kernel), H.k 0 rfl, H.n 0 rfl⟩, ⟨lm, fun r hr => ?_, fun q hq => ?_, fun r hr => ⟨Or.inl ?_, rfl⟩⟩, Or.inl ⟨?_, ?_, ?_, ?_, ?_, ?_, ?_, ?_⟩, ⟨[], by decide, ⟨?_, fun i x h => ?_⟩, ⟨?_, fun i x h => ?_⟩⟩, fun _ _ => rfl, ⟨?_, by omega, by omega, fun r r0 r1 => by omega, fun i _ _ => ?_⟩, ⟨?_, by omega, by omega, fun s s0 s1 => by omega⟩, ⟨?_, by omega, by omega, fun a a0 a1 => by omega⟩, fun i _ _ => ?_, Or.inl s66⟩
  · obtain ⟨a, b, c⟩ := (by decide +kernel : ∀ r ∈ lm_b, ((34 + r, 10, 0) : Int × Int × Int) ∈ ((141, 101, 1) :: mL12_z) ∧ ((34 + r, 0, 34 + r + 1) : Int × Int × Int) ∈ mF12_z ∧ ((34 + r + 1, 100, 12) : Int × Int × Int) ∈ ((141, 101, 1) :: mL12_z)) r hr
    have ka := (H.2.2.1 _ a).2.1
    have kf := (H.2.2.2.1 _ b).2
    have kc := (H.2.2.1 _ c).2
    have e1 : X + 34 + r = X + (34 + r) := by omega
    have e2 : X + 34 + r + 1 = X + (34 + r + 1) := by omega
    rw [e2, e1]
    exact ⟨ka, kf, kc.1, kc.2, by omega⟩
  · obtain ⟨a, b, c⟩ := (by decide +kernel : ∀ q ∈ lm_a, lks mS12_z (34 + q.1) q.2.1 = (1, 34 + q.2.2) ∧ 0 ≤ 34 + q.1 ∧ 34 + q.1 < 142) q hq
    rw [H.v (d := 34 + q.1) (by omega) b c a]
    omega
  · obtain ⟨a, b, c⟩ := (by decide +kernel : ∀ r ∈ lm_b, lks mS12_z (34 + r) 1 = (0, 0) ∧ 0 ≤ 34 + r ∧ 34 + r < 142) r hr
    exact z (d := 34 + r) (by omega) b c a
  · exact z (d := 20) (by omega) (by decide) (by decide) (by decide +kernel)
  · exact z (d := 20) (by omega) (by decide) (by decide) (by decide +kernel)
  · exact z (d := 25) (by omega) (by decide) (by decide) (by decide +kernel)
  · exact z (d := 25) (by omega) (by decide) (by decide) (by decide +kernel)
  · exact z (d := 34) (by omega) (by decide) (by decide) (by decide +kernel)
  · exact z (d := 34) (by omega) (by decide) (by decide) (by decide +kernel)
  · exact z (d := 123) (by omega) (by decide) (by decide) (by decide +kernel)
  · exact z (d := 123) (by omega) (by decide) (by decide) (by decide +kernel)
  · exact z (d := 29) (by omega) (by decide) (by decide) (by decide +kernel)
  · cases h
  · exact z (d := 34) (by omega) (by decide) (by decide) (by decide +kernel)
  · cases h
  · rw [x9, s4]
  · exact H.z i (d := 37) (by omega) (by decide) (by decide) (by decide +kernel)
  · rw [x10, s14]
  · rw [x11, s27]
  · exact H.z i (d := 52) (by omega) (by decide) (by decide) (by decide +kernel)
/-- from the entry of the law to the head of its loop -/
theorem law_first {Q Y : m_Po} {ε : m_E} {μ : m_M} {s L : Int} (hX : 0 < nx ε) (sX : s < nx ε) (hL : L ≤ 3584) (hL0 : 0 ≤ L) (hQ : ∀ ε μ, Q 1 ε μ) (ks : kd ε s = 99) (kl : ln ε s = L) : G (cd_L_law (LNq s (nx ε) L 1)) Q Y 0 [(0, (2, s))] [] ε μ := by
  have H0 : MK ε μ (nx ε) 0 [] [] [] ε μ := ⟨⟨hX, by decide, by omega⟩, fun b _ => ⟨rfl, rfl, fun _ => rfl, fun _ => rfl⟩, fun q hq => absurd hq List.not_mem_nil, fun q hq => absurd hq List.not_mem_nil, fun q hq => absurd hq List.not_mem_nil, fun d j d0 d1 => by omega⟩
  generalize hx : nx ε = X at *
  apply g_L_law_0
  intro _ a ε1 μ1 ha he hm
  obtain ⟨ea, H1⟩ := MK.al (D' := 1) H0 (by decide) (ha.trans rfl) he hm
  subst ea
  refine ⟨H1.k 0 rfl, mkc_X10 (fun ε2 μ2 H2 => ?_) H1⟩
  apply g_L_law_7
  intro _ v1 e1 a ε3 μ3 ha3 he3 hm3
  obtain ⟨ea, H3⟩ := MK.al (D' := 35) H2 (by decide) ha3 he3 hm3
  subst ea
  refine ⟨H3.k 0 rfl, mkc_X12 (fun ε4 μ4 H4 => ?_) H3⟩
  apply g_L_law_15
  intro _ v2 e2 a ε5 μ5 ha5 he5 hm5 v3 e3 v4 e4
  obtain ⟨ea, H5⟩ := MK.al (D' := 142) H4 (by decide) ha5 he5 hm5
  subst ea
  obtain ⟨k1, k2, _, _⟩ := H5.2.1 s sX
  rw [e1, e2, e3, e4, Int.add_zero]
  exact law_head (n := 0) sX hL hQ (mk_rel H5) (k1.trans ks) (k2.trans kl) (by omega)
