set_option maxHeartbeats 1000000
/-! ===== the class's Bounds: loads, gather (by c6.py) ===== -/
theorem sp_X1_passLoads {Q X : m_Po} {ε : m_E} {σ : m_M} {B P a k w t : Int} {l : List Rw} {n : Nat} (L : LB ε B) (hB : B + 5 < P) (AB' : AB σ a) (hn : σ 19 a = n) (bw : ab w 11000000) (bt : ab t 11000000000) :
    ∀ d i : Nat, i + d = n → ∀ μ : m_M, AQ ε μ σ a P → RLc μ B l → μ B 6 = w + sm (lwf σ a k) i → μ B 7 = t + sm (ltf σ a k) i → (∀ μ', FBo B μ μ' → RLc μ' B l → μ' B 6 = w + sm (lwf σ a k) n → μ' B 7 = t + sm (ltf σ a k) n → Q 0 ε μ') → G cd_X1_passLoads Q X 2 [(0, (2, B)), (1, (2, P)), (2, (0, k)), (3, (0, i))] [] ε μ := by
  obtain ⟨_, bg, _⟩ := AB'
  intro d
  induction d with
  | zero =>
    intro i hi μ A H h6 h7 K
    have : i = n := by omega
    subst this
    have a13 := A.2.2.1
    apply g_X1_passLoads_2
    refine fun _ _ _ => ⟨A.1.k, fun _ => K μ FBo.rf H h6 h7, fun q => absurd q (by omega)⟩
  | succ d ih =>
    intro i hi μ A H h6 h7 K
    have a13 := A.2.2.1
    have n6 : n ≤ 6 := by have := A.2.2.2.2.2.2.2; omega
    have al := A.2.2.2.1 i (by omega) (by omega)
    have b := bg i (by omega) (by omega)
    have bm := abm b.1 b.2
    have b1 : ab (sm (lwf σ a k) i) (i * 100000) := sm_ab i (fun t t0 t1 => by
      unfold lwf
      split
      · exact (bg t t0 (by omega)).1
      · unfold ab; omega)
    have b2 : ab (sm (ltf σ a k) i) (i * (100000 * 1000)) := sm_ab i (fun t t0 t1 => by
      unfold ltf
      split
      · exact abm (bg t t0 (by omega)).1 (bg t t0 (by omega)).2
      · unfold ab; omega)
    have s1 : sm (lwf σ a k) (i + 1) = sm (lwf σ a k) i + lwf σ a k i := rfl
    have s2 : sm (ltf σ a k) (i + 1) = sm (ltf σ a k) i + ltf σ a k i := rfl
    have N : ∀ μ', FBo B μ μ' → RLc μ' B l → μ' B 6 = w + sm (lwf σ a k) (i + 1) → μ' B 7 = t + sm (ltf σ a k) (i + 1) → G cd_X1_passLoads Q X 44 [(0, (2, B)), (1, (2, P)), (2, (0, k)), (3, (0, i))] [] ε μ' := fun μ' f H' h6' h7' => by
      apply g_X1_passLoads_44
      intro _ _ _ v h
      rw [w32_id (show i32 ((i : Int) + 1) by unfold i32; omega)] at h
      rw [h]
      exact ih (i + 1) (by omega) μ' (A.fb hB f) H' h6' h7' (fun μ'' f' => K μ'' (f.trans f'))
    apply g_X1_passLoads_2
    rw [A.1.f5.1, A.1.f6.1, A.1.f7.1]
    refine fun _ _ _ => ⟨A.1.k, fun q => absurd q (by omega), fun _ => ⟨fun q => absurd q (by omega), fun _ => ⟨A.1.f5.2.1, by omega, by rw [A.1.f5.2.2]; omega, fun q => N μ FBo.rf H ?_ ?_, fun q => ⟨A.1.f7.2.1, by rw [A.1.f7.2.2]; omega, A.1.f6.2.1, by rw [A.1.f6.2.2]; omega, L.k, ?_⟩⟩⟩⟩
    · rw [s1, show lwf σ a k i = 0 from if_neg (by rw [← al.1]; exact q), h6]; omega
    · rw [s2, show ltf σ a k i = 0 from if_neg (by rw [← al.1]; exact q), h7]; omega
    · rw [al.2.1, al.2.2]
      have q' : σ 20 (6 * a + i) = k := by rw [← al.1]; exact q
      have l1 : lwf σ a k i = σ 22 (6 * a + i) := if_pos q'
      have l2 : ltf σ a k i = σ 22 (6 * a + i) * σ 21 (6 * a + i) := if_pos q'
      have i1 : i64 (μ B 6 + σ 22 (6 * a + i)) := by
        rw [h6]
        have b' := b.1
        unfold ab at b1 b' bw; unfold i64
        generalize sm (lwf σ a k) i = z at *
        omega
      have i2 : i64 (σ 22 (6 * a + i) * σ 21 (6 * a + i)) := by
        unfold ab at bm; unfold i64
        generalize σ 22 (6 * a + i) * σ 21 (6 * a + i) = y at *
        omega
      have i3 : i64 (μ B 7 + σ 22 (6 * a + i) * σ 21 (6 * a + i)) := by
        rw [h7]
        unfold ab at b2 bm bt; unfold i64
        generalize sm (ltf σ a k) i = z at *
        generalize σ 22 (6 * a + i) * σ 21 (6 * a + i) = y at *
        omega
      refine sp_X1_pass L H i1 i2 i3 (fun μ1 f1 H1 g6 g7 => N μ1 f1 H1 ?_ ?_)
      · rw [g6, h6, s1, l1]; omega
      · rw [g7, h7, s2, l2]; omega
theorem passLoads_in {Q X : m_Po} {ε : m_E} {μ σ : m_M} {B P a k w t : Int} {l : List Rw} (L : LB ε B) (hB : B + 5 < P) (AB' : AB σ a) (A : AQ ε μ σ a P) (H : RLc μ B l) (h6 : μ B 6 = w) (h7 : μ B 7 = t) (bw : ab w 11000000) (bt : ab t 11000000000) (hh : ∀ μ', FBo B μ μ' → RLc μ' B l → μ' B 6 = w + sm (lwf σ a k) (σ 19 a).toNat → μ' B 7 = t + sm (ltf σ a k) (σ 19 a).toNat → Q 0 ε μ') : o_X1_passLoads [(2, B), (2, P), (0, k)] ε μ Q X := by
  apply e_X1_passLoads
  intro _ _ v h
  rw [h]
  have l0 := A.2.2.2.2.2.2.1
  exact sp_X1_passLoads L hB AB' (show σ 19 a = (((σ 19 a).toNat : Nat) : Int) by omega) bw bt (σ 19 a).toNat 0 (by omega) μ A H (by rw [h6]; exact (Int.add_zero _).symm) (by rw [h7]; exact (Int.add_zero _).symm) hh
theorem pass_next {σ : m_M} {a k i0 : Int} (ik : i0 ≤ k) : Wf σ a 1 i0 (k + 1) = Wf σ a 1 i0 k + σ 9 (σ 16 (10 * a + k)) + sm (lwf σ a k) (σ 19 a).toNat ∧ Tf σ a 1 i0 (k + 1) = Tf σ a 1 i0 k + σ 9 (σ 16 (10 * a + k)) * σ 10 (σ 16 (10 * a + k)) + sm (ltf σ a k) (σ 19 a).toNat := by
  have e3 : at_ (fun i => σ 22 (6 * a + i)) (fun i => σ 20 (6 * a + i)) (σ 19 a).toNat 1 k = sm (lwf σ a k) (σ 19 a).toNat := if_neg (by decide)
  have e4 : at_ (fun i => σ 22 (6 * a + i) * σ 21 (6 * a + i)) (fun i => σ 20 (6 * a + i)) (σ 19 a).toNat 1 k = sm (ltf σ a k) (σ 19 a).toNat := if_neg (by decide)
  rw [← e3, ← e4]
  exact ⟨cw_succ ik, cw_succ ik⟩
theorem pass_next0 {σ : m_M} {a k i0 : Int} (ik : i0 ≤ k) : Wf σ a 0 i0 (k + 1) = Wf σ a 0 i0 k + σ 9 (σ 16 (10 * a + k)) ∧ Tf σ a 0 i0 (k + 1) = Tf σ a 0 i0 k + σ 9 (σ 16 (10 * a + k)) * σ 10 (σ 16 (10 * a + k)) := by
  have c1 : Wf σ a 0 i0 (k + 1) = _ := cw_succ ik
  have c2 : Tf σ a 0 i0 (k + 1) = _ := cw_succ ik
  have e3 : ∀ g pl n, at_ g pl n 0 k = 0 := fun g pl n => if_pos rfl
  rw [e3, Int.add_zero] at c1 c2
  exact ⟨c1, c2⟩
def neN (σ : m_M) (a step k : Int) : Int := (if fl σ a k = 0 then 128 else 192) - step
def faN (σ : m_M) (a step k : Int) : Int := (if fl σ a k = 0 then 0 else 64) + step
