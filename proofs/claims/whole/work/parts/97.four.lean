/-! ===== Never: fours ===== -/
def Fst4 (P : Int → Int → Int → Int → Prop) (n i j k l : Int) : Prop := 0 ≤ i ∧ i < j ∧ j < k ∧ k < l ∧ l < n ∧ P i j k l ∧ ∀ a b d e, 0 ≤ a → a < b → b < d → d < e → e < n → (a < i ∨ (a = i ∧ (b < j ∨ (b = j ∧ (d < k ∨ (d = k ∧ e < l)))))) → ¬ P a b d e
def No4 (P : Int → Int → Int → Int → Prop) (n : Int) : Prop := ∀ a b d e, 0 ≤ a → a < b → b < d → d < e → e < n → ¬ P a b d e
theorem f4_loop {Q X : m_Po} {ε : m_E} {N B i j k : Int} {n : Nat} {h v m c : Int → Int} (L : LN ε N) (LB' : LB ε B) (hN : N = B + 11) (n48 : n ≤ 48) (R : RB h v m c n) (hi : 0 ≤ i) (hij : i < j) (hjk : j < k) (hk : k < n) {μ0 : m_M} (W0 : RC μ0 B n h v m c) (x5 : μ0 N 5 = crH v m j k) (x6 : μ0 N 6 = crV h m j k) (x7 : μ0 N 7 = crM h v j k) (V0 : VO (μ0 (N + 3)) h v m i n)
    (h1 : ∀ (μ' : m_M) (l : Int), FNv N μ0 μ' → k < l → l < n → Pr4 h v m c i j k l → (∀ d, k < d → d < l → ¬ Pr4 h v m c i j k d) → NFc μ' N 4 (ix4 i j k l) (a4 h v m i j k l) c → Q 1 ε μ')
    (h0 : ∀ μ', FNv N μ0 μ' → (∀ q, μ' (N + 3) q = μ0 (N + 3) q) → (∀ d, k < d → d < (n : Int) → ¬ Pr4 h v m c i j k d) → Q 0 ε μ') :
    ∀ (d l : Nat) (μ : m_M), l + d = n → k < l → FNv N μ0 μ → (∀ q, 5 ≤ q → q ≤ 7 → μ N q = μ0 N q) → (∀ q, μ (N + 3) q = μ0 (N + 3) q) → (∀ d, k < d → d < (l : Int) → ¬ Pr4 h v m c i j k d) → G cd_X3_findFourth Q X 28 [(0, (2, N)), (1, (2, B)), (2, (0, i)), (3, (0, j)), (4, (0, k)), (5, (1, dt3 h v m i j k)), (7, (0, l))] [] ε μ := by
  have hi' : 0 ≤ i ∧ i < n := by omega
  have hj' : 0 ≤ j ∧ j < n := by omega
  have hk' : 0 ≤ k ∧ k < n := by omega
  obtain ⟨a1, a2, a3', a4'⟩ := R j hj'.1 hj'.2
  obtain ⟨b1, b2, b3, b4⟩ := R k hk'.1 hk'.2
  have y0 : bd (crH v m j k) 41 := cr_bd a2 b3 a3' b2
  have y1 : bd (crV h m j k) 41 := cr_bd a3' b1 a1 b3
  have y2 : bd (crM h v j k) 41 := cr_bd a1 b2 a2 b1
  have bL := dt_bd R hi' hj' hk'
  have nwL : w64 (-(dt3 h v m i j k)) = -(dt3 h v m i j k) := w64_bd (bd_neg bL)
  intro d
  induction d with
  | zero =>
    intro l μ hd hkl f fx fv hb
    have e : l = n := by omega
    subst e
    have W := W0.fnv hN f
    have kn : ¬ (l : Int) < l := by omega
    apply g_X3_findFourth_28
    rw [W.1]
    exact fun _ _ _ _ _ _ => ⟨LB'.k, fun _ => h0 μ f fv hb, fun z => absurd z kn⟩
  | succ d ih =>
    intro l μ hd hkl f fx fv hb
    have W := W0.fnv hN f
    have hl : 0 ≤ (l : Int) ∧ (l : Int) < n := by omega
    have lN : ¬ (n : Int) ≤ l := by omega
    have lm : l < 2147483647 := by omega
    have n48' : (n : Int) ≤ 48 := by omega
    have hd' : l + 1 + d = n := by omega
    have hkl' : k < ((l + 1 : Nat) : Int) := by omega
    have o0 : 0 ≤ 48 * j + (l : Int) ∧ 48 * j + (l : Int) < 2304 := by omega
    have o1 : 0 ≤ 48 * k + (l : Int) ∧ 48 * k + (l : Int) < 2304 := by omega
    have e8 : μ (N + 3) (48 * j + l) = dt3 h v m i j l := (fv _).trans (V0 j l hij (by omega) hl.2)
    have e10 : μ (N + 3) (48 * k + l) = dt3 h v m i k l := (fv _).trans (V0 k l (by omega) (by omega) hl.2)
    have bJ := dt_bd R hi' hk' hl
    have bK := dt_bd R hi' hj' hl
    have bI := dt_bd R hj' hk' hl
    have v1 := vw (j := j) (k := (l : Int)) (by omega) (by omega) (by omega) (by omega)
    have v2 := vw (j := k) (k := (l : Int)) (by clear v1; omega) (by clear v1; omega) (by clear v1; omega) (by clear v1; omega)
    have nwJ : w64 (-(dt3 h v m i k l)) = -(dt3 h v m i k l) := w64_bd (bd_neg bJ)
    have go : ∀ μ', FNv N μ0 μ' → (∀ q, 5 ≤ q → q ≤ 7 → μ' N q = μ0 N q) → (∀ q, μ' (N + 3) q = μ0 (N + 3) q) → ¬ Pr4 h v m c i j k l → G cd_X3_findFourth Q X 173 [(0, (2, N)), (1, (2, B)), (2, (0, i)), (3, (0, j)), (4, (0, k)), (5, (1, dt3 h v m i j k)), (7, (0, l))] [] ε μ' := by
      intro μ' f' fx' fv' npr
      apply g_X3_findFourth_173
      refine fun _ _ _ _ _ _ v7 e7 => ?_
      rw [w32_succ lm e7]
      refine ih (l + 1) μ' hd' hkl' f' fx' fv' (fun b b0 b1 => ?_)
      by_cases q : b = l
      · rw [q]; exact npr
      · exact hb b b0 (by clear e7 v1 v2 nwL nwJ; omega)
    have four : ∀ t : Int, 0 ≤ t → t < ((4 : Nat) : Int) → t = 0 ∨ t = 1 ∨ t = 2 ∨ t = 3 := fun t t0 t1 => by clear v1 v2 nwL nwJ; omega
    apply g_X3_findFourth_28
    rw [W.1, L.f2.1, v1, v2, e8, e10]
    clear v1 v2
    refine fun _ _ _ _ _ _ => ⟨LB'.k, fun z => absurd z lN, fun _ => ⟨L.k, L.f2.2.1, o0.1, by rw [L.f2.2.2]; exact o0.2, fun v8 e8' => ⟨o1.1, by rw [L.f2.2.2]; exact o1.2, fun v10 e10' t et v12 e12 => ?_⟩⟩⟩
    rw [e8', e10'] at et
    rw [e12, et, e8', e10']
    refine ⟨fun q => go μ f fx fv (fun p => (hope p.1).2 q), fun q => ⟨L.k, sp_X3_volumeWith L LB' n48' W R hl ((fx 5 (by decide) (by decide)).trans x5) ((fx 6 (by decide) (by decide)).trans x6) ((fx 7 (by decide) (by decide)).trans x7) y0 y1 y2 ?_⟩⟩
    rw [vol_dt]
    apply g_X3_findFourth_131
    refine fun _ _ _ _ _ _ _ _ _ _ _ => ⟨L.k, sp_X3_pick L (by decide) (by decide) (fun μ1 f1 p1 q1 => ?_)⟩
    apply g_X3_findFourth_134
    rw [nwJ]
    refine fun _ _ _ _ _ _ _ _ => ⟨L.k, sp_X3_pick L (by decide) (by decide) (fun μ2 f2 p2 q2 => ?_)⟩
    apply g_X3_findFourth_143
    refine fun _ _ _ _ _ _ _ => ⟨L.k, sp_X3_pick L (by decide) (by decide) (fun μ3 f3 p3 q3 => ?_)⟩
    apply g_X3_findFourth_152
    rw [nwL]
    refine fun _ _ _ _ _ _ => ⟨L.k, sp_X3_pick L (by decide) (by decide) (fun μ4 f4 p4 q4 => ?_)⟩
    clear nwJ
    have f14 : Ex2 (N + 1) (N + 2) μ μ4 := ((f1.trans f2).trans f3).trans f4
    have F4 : FNv N μ0 μ4 := f.trans (FNv.of2 (by clear nwL; omega) (by clear nwL; omega) f14)
    have W4 := W0.fnv hN F4
    have I4 : ∀ t : Int, 0 ≤ t → t < ((4 : Nat) : Int) → μ4 (N + 1) t = ix4 i j k l t := by
      intro t t0 t1
      rcases four t t0 t1 with rfl | rfl | rfl | rfl
      · rw [p4, if_neg (by decide), p3, if_neg (by decide), p2, if_neg (by decide), p1, if_pos rfl]; rfl
      · rw [p4, if_neg (by decide), p3, if_neg (by decide), p2, if_pos rfl]; rfl
      · rw [p4, if_neg (by decide), p3, if_pos rfl]; rfl
      · rw [p4, if_pos rfl]; rfl
    have A4 : ∀ t : Int, 0 ≤ t → t < ((4 : Nat) : Int) → μ4 (N + 2) t = a4 h v m i j k l t := by
      intro t t0 t1
      rcases four t t0 t1 with rfl | rfl | rfl | rfl
      · rw [q4, if_neg (by decide), q3, if_neg (by decide), q2, if_neg (by decide), q1, if_pos rfl]; rfl
      · rw [q4, if_neg (by decide), q3, if_neg (by decide), q2, if_pos rfl]; rfl
      · rw [q4, if_neg (by decide), q3, if_pos rfl]; rfl
      · rw [q4, if_pos rfl]; rfl
    apply g_X3_findFourth_162
    refine fun _ _ _ _ _ _ => ⟨L.k, sp_X3_clash (n := 4) (nb := n) L LB' hN (by decide) (by decide) n48' (a := a4 h v m i j k l) (ix := ix4 i j k l) (c := c) A4 I4 ?_ W4.2.2.2.2 ?_ ?_ (fun μ5 f5 S sg w lf => ?_) (fun μ5 f5 nS => ?_)⟩
    · intro t t0 t1
      rcases four t t0 t1 with rfl | rfl | rfl | rfl
      · exact hi'
      · exact hj'
      · exact hk'
      · exact hl
    · intro t t0 t1
      rcases four t t0 t1 with rfl | rfl | rfl | rfl
      · exact bI
      · exact bd_neg bJ
      · exact bK
      · exact bd_neg bL
    · intro t t0 t1
      rcases four t t0 t1 with rfl | rfl | rfl | rfl
      · exact (R i hi'.1 hi'.2).2.2.2
      · exact a4'
      · exact b4
      · exact (R l hl.1 hl.2).2.2.2
    · apply g_X3_findFourth_168
      refine fun _ _ _ _ _ _ _ => ⟨fun y => absurd y (by decide), fun _ => h1 μ5 l (F4.trans (FNv.of2 (by clear nwL; omega) (by clear nwL; omega) f5)) hkl hl.2 ⟨S, sg⟩ hb ⟨fun t t0 t1 => ⟨?_, w t t0 t1⟩, lf⟩⟩
      rw [f5 _ _ (by clear nwL; omega) (by clear nwL; omega)]
      exact I4 t t0 t1
    · apply g_X3_findFourth_168
      refine fun _ _ _ _ _ _ _ => ⟨fun _ => go μ5 (F4.trans (FNv.of2 (by clear nwL; omega) (by clear nwL; omega) f5)) (fun q q0 q1 => ?_) (fun q => ?_) nS, fun y => absurd rfl y⟩
      · rw [f5 _ _ (by clear nwL; omega) (by clear nwL; omega), f14 _ _ (by clear nwL; omega) (by clear nwL; omega)]; exact fx q q0 q1
      · rw [f5 _ _ (by clear nwL; omega) (by clear nwL; omega), f14 _ _ (by clear nwL; omega) (by clear nwL; omega)]; exact fv q
theorem sp_X3_findFourth {Q X : m_Po} {ε : m_E} {μ : m_M} {N B i j : Int} {n k : Nat} {h v m c : Int → Int} (L : LN ε N) (LB' : LB ε B) (hN : N = B + 11) (n48 : n ≤ 48) (R : RB h v m c n) (hi : 0 ≤ i) (hij : i < j) (hjk : j < k) (hk : k < n) (W : RC μ B n h v m c) (V : VO (μ (N + 3)) h v m i n)
    (h1 : ∀ (μ' : m_M) (l : Int), FNv N μ μ' → (k : Int) < l → l < n → Pr4 h v m c i j k l → (∀ d, (k : Int) < d → d < l → ¬ Pr4 h v m c i j k d) → NFc μ' N 4 (ix4 i j k l) (a4 h v m i j k l) c → Q 1 ε μ')
    (h0 : ∀ μ', FNv N μ μ' → (∀ q, μ' (N + 3) q = μ (N + 3) q) → (∀ d, (k : Int) < d → d < (n : Int) → ¬ Pr4 h v m c i j k d) → Q 0 ε μ') : o_X3_findFourth [(2, N), (2, B), (0, i), (0, j), (0, k)] ε μ Q X := by
  have hj' : 0 ≤ j ∧ j < n := by omega
  have hk' : 0 ≤ (k : Int) ∧ (k : Int) < n := by omega
  have n48' : (n : Int) ≤ 48 := by omega
  have o0 : 0 ≤ 48 * j + (k : Int) ∧ 48 * j + (k : Int) < 2304 := by omega
  have km : k < 2147483647 := by omega
  have hkk : (k : Int) < ((k + 1 : Nat) : Int) := by omega
  have hd : k + 1 + (n - (k + 1)) = n := by omega
  have kn : (k : Int) < n := by omega
  apply e_X3_findFourth
  refine fun _ _ _ _ => ⟨L.k, sp_X3_cross L LB' hN n48' W R hj' hk' (fun μ1 f1 x5 x6 x7 => ?_)⟩
  have F1 := FNv.ofF f1
  have c3 : ∀ q, μ1 (N + 3) q = μ (N + 3) q := fun q => f1 _ q (by omega)
  have e5 : μ1 (N + 3) (48 * j + k) = dt3 h v m i j k := (c3 _).trans (V j k hij hjk kn)
  have vv := vw (j := j) (k := (k : Int)) (by omega) (by omega) (by omega) (by omega)
  apply g_X3_findFourth_8
  rw [L.f2.1, vv, e5]
  clear vv
  refine fun _ _ _ _ => ⟨L.k, L.f2.2.1, o0.1, by rw [L.f2.2.2]; exact o0.2, fun v5 e5' v7 e7 => ?_⟩
  rw [e5', w32_succ km e7]
  clear e7
  exact f4_loop L LB' hN n48 R hi hij hjk kn (W.fnv hN F1) x5 x6 x7 (fun a b a0 ab' bn => (c3 _).trans (V a b a0 ab' bn)) (fun μ' l f => h1 μ' l (F1.trans f)) (fun μ' f fv => h0 μ' (F1.trans f) (fun q => (fv q).trans (c3 q))) (n - (k + 1)) (k + 1) μ1 hd hkk FNv.rf (fun _ _ _ => rfl) (fun _ => rfl) (fun b b0 b1 => by omega)
