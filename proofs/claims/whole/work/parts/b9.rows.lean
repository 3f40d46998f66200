set_option maxHeartbeats 1000000
/-! ===== rows of bounds as a list; the class's Bounds: begin, add, addFrame, pass ===== -/
abbrev Rw : Type := Int × Int × Int × Int × Int
def RLg (n : Int) (cd h v m c : Int → Int) (l : List Rw) : Prop := n = l.length ∧ ∀ (i : Nat) (x : Rw), l[i]? = some x → cd i = x.1 ∧ h i = x.2.1 ∧ v i = x.2.2.1 ∧ m i = x.2.2.2.1 ∧ c i = x.2.2.2.2
theorem RLg.nil {cd h v m c : Int → Int} {n : Int} (e : n = 0) : RLg n cd h v m c [] := ⟨by rw [e]; rfl, fun i x e => by simp at e⟩
theorem RLg.add {cd h v m c cd' h' v' m' c' : Int → Int} {n n' : Int} {l : List Rw} {x : Rw} (H : RLg n cd h v m c l) (en : n' = n + 1) (e0 : ∀ j, cd' j = if j = n then x.1 else cd j) (e1 : ∀ j, h' j = if j = n then x.2.1 else h j) (e2 : ∀ j, v' j = if j = n then x.2.2.1 else v j) (e3 : ∀ j, m' j = if j = n then x.2.2.2.1 else m j) (e4 : ∀ j, c' j = if j = n then x.2.2.2.2 else c j) : RLg n' cd' h' v' m' c' (l ++ [x]) := by
  obtain ⟨h1, h2⟩ := H
  refine ⟨by rw [List.length_append, en, h1]; simp, fun i y hy => ?_⟩
  rw [e0, e1, e2, e3, e4]
  rw [List.getElem?_append] at hy
  by_cases q : i < l.length
  · rw [if_pos q] at hy
    have ni : ¬ (i : Int) = n := by omega
    rw [if_neg ni, if_neg ni, if_neg ni, if_neg ni, if_neg ni]
    exact h2 i y hy
  · rw [if_neg q] at hy
    have : i = l.length := by
      by_cases r : i - l.length = 0
      · omega
      · have : ([x] : List Rw)[i - l.length]? = none := by
          rw [List.getElem?_eq_none_iff]; simp; omega
        rw [this] at hy; cases hy
    subst this
    simp at hy
    have yi : (l.length : Int) = n := by omega
    rw [if_pos yi, if_pos yi, if_pos yi, if_pos yi, if_pos yi, hy]
    exact ⟨rfl, rfl, rfl, rfl, rfl⟩
theorem RLg.of {cd h v m c cd' h' v' m' c' : Int → Int} {n n' : Int} {l : List Rw} (H : RLg n cd h v m c l) (en : n' = n) (e0 : ∀ j, cd' j = cd j) (e1 : ∀ j, h' j = h j) (e2 : ∀ j, v' j = v j) (e3 : ∀ j, m' j = m j) (e4 : ∀ j, c' j = c j) : RLg n' cd' h' v' m' c' l := by
  refine ⟨en.trans H.1, fun i x hx => ?_⟩
  rw [e0, e1, e2, e3, e4]
  exact H.2 i x hx
/-- the class's rows, the reference's rows -/
def RLc (μ : m_M) (B : Int) (l : List Rw) : Prop := RLg (μ B 5) (μ (B + 5)) (μ (B + 1)) (μ (B + 2)) (μ (B + 3)) (μ (B + 4)) l
def RMm (μ : m_M) (M : Int) (l : List Rw) : Prop := RLg (μ M 35) (μ (M + 30)) (μ (M + 26)) (μ (M + 27)) (μ (M + 28)) (μ (M + 29)) l
def FBo (B : Int) (μ μ' : m_M) : Prop := ∀ b j, (b < B ∨ B + 5 < b) → μ' b j = μ b j
theorem FBo.rf {B : Int} {μ : m_M} : FBo B μ μ := fun _ _ _ => rfl
theorem FBo.trans {B : Int} {μ μ' μ'' : m_M} (h : FBo B μ μ') (k : FBo B μ' μ'') : FBo B μ μ'' := fun b j h1 => (k b j h1).trans (h b j h1)
theorem FBo.st {B a i v : Int} {μ : m_M} (h : B ≤ a) (h' : a ≤ B + 5) : FBo B μ (st μ a i v) := fun b j hb => if_neg (fun z => by omega)
theorem sp_X1_begin {Q X : m_Po} {ε : m_E} {μ : m_M} {B : Int} (L : LB ε B) (hh : ∀ μ', FBo B μ μ' → RLc μ' B [] → μ' B 6 = 0 → μ' B 7 = 0 → Q 0 ε μ') : o_X1_begin [(2, B)] ε μ Q X := by
  apply e_X1_begin
  refine fun _ => ⟨L.k, fun μ1 m1 μ2 m2 μ3 m3 => hh μ3 ?_ ?_ ?_ ?_⟩
  · rw [m3, m2, m1]
    exact ((FBo.st (by omega) (by omega)).trans (FBo.st (by omega) (by omega))).trans (FBo.st (by omega) (by omega))
  · refine RLg.nil ?_
    rw [m3, m2, m1, sx_oi (by decide), sx_oi (by decide), sx_same]
  · rw [m3, m2, sx_oi (by decide), sx_same]
  · rw [m3, sx_same]
theorem sp_X1_add {Q X : m_Po} {ε : m_E} {μ : m_M} {B : Int} {l : List Rw} {k h v m c : Int} (L : LB ε B) (H : RLc μ B l) (hl : l.length < 48) (hh : ∀ μ', FBo B μ μ' → RLc μ' B (l ++ [(k, h, v, m, c)]) → μ' B 6 = μ B 6 → μ' B 7 = μ B 7 → Q 0 ε μ') : o_X1_add [(2, B), (0, k), (1, h), (1, v), (1, m), (1, c)] ε μ Q X := by
  apply e_X1_add
  have en : μ B 5 = (l.length : Int) := H.1
  rw [L.f0.1, L.f1.1, L.f2.1, L.f3.1, L.f4.1]
  refine fun _ _ _ _ _ _ => ⟨L.k, fun _ => ⟨L.f4.2.1, by omega, by rw [L.f4.2.2]; omega, fun μ1 m1 => ?_⟩, fun q => absurd q (by omega)⟩
  have n1 : μ1 B 5 = μ B 5 := by rw [m1]; exact sx_oa (by omega)
  rw [n1]
  refine ⟨L.f0.2.1, by omega, by rw [L.f0.2.2]; omega, fun μ2 m2 => ?_⟩
  have n2 : μ2 B 5 = μ B 5 := by rw [m2, sx_oa (by omega)]; exact n1
  rw [n2]
  refine ⟨L.f1.2.1, by omega, by rw [L.f1.2.2]; omega, fun μ3 m3 => ?_⟩
  have n3 : μ3 B 5 = μ B 5 := by rw [m3, sx_oa (by omega)]; exact n2
  rw [n3]
  refine ⟨L.f2.2.1, by omega, by rw [L.f2.2.2]; omega, fun μ4 m4 => ?_⟩
  have n4 : μ4 B 5 = μ B 5 := by rw [m4, sx_oa (by omega)]; exact n3
  rw [n4]
  refine ⟨L.f3.2.1, by omega, by rw [L.f3.2.2]; omega, fun μ5 m5 => ?_⟩
  have n5 : μ5 B 5 = μ B 5 := by rw [m5, sx_oa (by omega)]; exact n4
  rw [n5, w32_id (by unfold i32; omega)]
  refine ⟨L.k, fun μ6 m6 => ?_⟩
  generalize en' : μ B 5 = n at *
  refine hh μ6 ?_ (H.add (n' := μ6 B 5) ?_ ?_ ?_ ?_ ?_ ?_) ?_ ?_
  · rw [m6, m5, m4, m3, m2, m1]
    exact (((((FBo.st (by omega) (by omega)).trans (FBo.st (by omega) (by omega))).trans (FBo.st (by omega) (by omega))).trans (FBo.st (by omega) (by omega))).trans (FBo.st (by omega) (by omega))).trans (FBo.st (by omega) (by omega))
  · rw [m6, sx_same, en']
  · intro j
    rw [m6, sx_oa (by omega), m5, sx_oa (by omega), m4, sx_oa (by omega), m3, sx_oa (by omega), m2, sx_oa (by omega), m1, en']
    unfold st
    by_cases q : j = n
    · rw [if_pos ⟨rfl, q⟩, if_pos q]
    · rw [if_neg (fun z => q z.2), if_neg q]
  · intro j
    rw [m6, sx_oa (by omega), m5, sx_oa (by omega), m4, sx_oa (by omega), m3, sx_oa (by omega), m2, en']
    unfold st
    by_cases q : j = n
    · rw [if_pos ⟨rfl, q⟩, if_pos q]
    · rw [if_neg (fun z => q z.2), if_neg q, m1, sx_oa (by omega)]
  · intro j
    rw [m6, sx_oa (by omega), m5, sx_oa (by omega), m4, sx_oa (by omega), m3, en']
    unfold st
    by_cases q : j = n
    · rw [if_pos ⟨rfl, q⟩, if_pos q]
    · rw [if_neg (fun z => q z.2), if_neg q, m2, sx_oa (by omega), m1, sx_oa (by omega)]
  · intro j
    rw [m6, sx_oa (by omega), m5, sx_oa (by omega), m4, en']
    unfold st
    by_cases q : j = n
    · rw [if_pos ⟨rfl, q⟩, if_pos q]
    · rw [if_neg (fun z => q z.2), if_neg q, m3, sx_oa (by omega), m2, sx_oa (by omega), m1, sx_oa (by omega)]
  · intro j
    rw [m6, sx_oa (by omega), m5, en']
    unfold st
    by_cases q : j = n
    · rw [if_pos ⟨rfl, q⟩, if_pos q]
    · rw [if_neg (fun z => q z.2), if_neg q, m4, sx_oa (by omega), m3, sx_oa (by omega), m2, sx_oa (by omega), m1, sx_oa (by omega)]
  · rw [m6, sx_oi (by decide), m5, sx_oa (by omega), m4, sx_oa (by omega), m3, sx_oa (by omega), m2, sx_oa (by omega), m1, sx_oa (by omega)]
  · rw [m6, sx_oi (by decide), m5, sx_oa (by omega), m4, sx_oa (by omega), m3, sx_oa (by omega), m2, sx_oa (by omega), m1, sx_oa (by omega)]
/-- the frame's four rows -/
def frm (k : Int) : List Rw := [(4 * k, 1, 0, 0, 0), (4 * k + 1, -1, 0, 0, 1000000000), (4 * k + 2, 0, 1, 0, 1000000000), (4 * k + 3, 0, -1, 0, 1000000000)]
theorem sp_X1_addFrame {Q X : m_Po} {ε : m_E} {μ : m_M} {B : Int} {l : List Rw} {k : Int} (L : LB ε B) (H : RLc μ B l) (hl : l.length ≤ 44) (k0 : 0 ≤ k) (k1 : k ≤ 1000) (hh : ∀ μ', FBo B μ μ' → RLc μ' B (l ++ frm k) → Q 0 ε μ') : o_X1_addFrame [(2, B), (0, k)] ε μ Q X := by
  have w4 : w32 (4 * k) = 4 * k := w32_id (by unfold i32; omega)
  have w5 : w32 (4 * k + 1) = 4 * k + 1 := w32_id (by unfold i32; omega)
  have w6 : w32 (4 * k + 2) = 4 * k + 2 := w32_id (by unfold i32; omega)
  have w7 : w32 (4 * k + 3) = 4 * k + 3 := w32_id (by unfold i32; omega)
  apply e_X1_addFrame
  rw [w4]
  refine fun _ _ => ⟨L.k, sp_X1_add L H (by omega) (fun μ1 f1 H1 _ _ => ?_)⟩
  apply g_X1_addFrame_11
  rw [w4, w5]
  refine fun _ _ => ⟨L.k, sp_X1_add L H1 (by rw [List.length_append]; simp; omega) (fun μ2 f2 H2 _ _ => ?_)⟩
  apply g_X1_addFrame_28
  rw [w4, w6]
  refine fun _ _ => ⟨L.k, sp_X1_add L H2 (by rw [List.length_append, List.length_append]; simp; omega) (fun μ3 f3 H3 _ _ => ?_)⟩
  apply g_X1_addFrame_43
  rw [w4, w7]
  refine fun _ _ => ⟨L.k, sp_X1_add L H3 (by rw [List.length_append, List.length_append, List.length_append]; simp; omega) (fun μ4 f4 H4 _ _ => ?_)⟩
  apply g_X1_addFrame_60
  refine fun _ => hh μ4 (((f1.trans f2).trans f3).trans f4) ?_
  have e : l ++ frm k = l ++ [((4 * k, 1, 0, 0, 0) : Rw)] ++ [(4 * k + 1, -1, 0, 0, 1000000000)] ++ [(4 * k + 2, 0, 1, 0, 1000000000)] ++ [(4 * k + 3, 0, -1, 0, 1000000000)] := by
    unfold frm
    simp
  rw [e]
  exact H4
theorem sp_X1_pass {Q X : m_Po} {ε : m_E} {μ : m_M} {B g s : Int} {l : List Rw} (L : LB ε B) (H : RLc μ B l) (b1 : i64 (μ B 6 + g)) (b2 : i64 (g * s)) (b3 : i64 (μ B 7 + g * s)) (hh : ∀ μ', FBo B μ μ' → RLc μ' B l → μ' B 6 = μ B 6 + g → μ' B 7 = μ B 7 + g * s → Q 0 ε μ') : o_X1_pass [(2, B), (1, g), (1, s)] ε μ Q X := by
  apply e_X1_pass
  rw [w64_id b1, w64_id b2]
  refine fun _ _ _ => ⟨L.k, fun μ1 m1 μ2 m2 => ?_⟩
  have n1 : μ1 B 7 = μ B 7 := by rw [m1]; exact sx_oi (by decide)
  rw [n1, w64_id b3] at m2
  refine hh μ2 ?_ (H.of ?_ ?_ ?_ ?_ ?_ ?_) ?_ ?_
  · rw [m2, m1]; exact (FBo.st (by omega) (by omega)).trans (FBo.st (by omega) (by omega))
  · rw [m2, m1, sx_oi (by decide), sx_oi (by decide)]
  · intro j; rw [m2, m1, sx_oa (by omega), sx_oa (by omega)]
  · intro j; rw [m2, m1, sx_oa (by omega), sx_oa (by omega)]
  · intro j; rw [m2, m1, sx_oa (by omega), sx_oa (by omega)]
  · intro j; rw [m2, m1, sx_oa (by omega), sx_oa (by omega)]
  · intro j; rw [m2, m1, sx_oa (by omega), sx_oa (by omega)]
  · rw [m2, sx_oi (by decide), m1, sx_same]
  · rw [m2, sx_same]
