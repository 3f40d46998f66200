/-! ===== digits; the class's page ===== -/
/-- a list of bytes at the beginning of a row -/
def PL (f : Int → Int) (n : Int) (l : List Int) : Prop := n = l.length ∧ ∀ (i : Nat) (x : Int), l[i]? = some x → f i = x
theorem PL.nil {f : Int → Int} {n : Int} (h : n = 0) : PL f n [] := ⟨by rw [h]; rfl, fun i x e => by simp at e⟩
theorem PL.add {f f' : Int → Int} {n c : Int} {l : List Int} (H : PL f n l) (e : ∀ j, f' j = if j = n then c else f j) : PL f' (n + 1) (l ++ [c]) := by
  obtain ⟨h1, h2⟩ := H
  refine ⟨by rw [List.length_append, h1]; simp, fun i x hx => ?_⟩
  rw [e]
  rw [List.getElem?_append] at hx
  by_cases q : i < l.length
  · rw [if_pos q] at hx
    rw [if_neg (by omega)]
    exact h2 i x hx
  · rw [if_neg q] at hx
    have : i = l.length := by
      by_cases r : i - l.length = 0
      · omega
      · have : ([c] : List Int)[i - l.length]? = none := by
          rw [List.getElem?_eq_none_iff]; simp; omega
        rw [this] at hx; cases hx
    subst this
    simp at hx
    rw [if_pos (by omega), hx]
theorem PL.congr {f f' : Int → Int} {n n' : Int} {l : List Int} (H : PL f n l) (e : n' = n) (h : ∀ j : Int, 0 ≤ j → j < n → f' j = f j) : PL f' n' l := by
  refine ⟨e.trans H.1, fun i x hx => ?_⟩
  have hi : i < l.length := by
    rcases Nat.lt_or_ge i l.length with q | q
    · exact q
    · rw [List.getElem?_eq_none_iff.mpr q] at hx; cases hx
  rw [h i (by omega) (by rw [H.1]; omega)]
  exact H.2 i x hx
/-- the digits of a number, the lowest first, as bytes -/
def DL : Nat → List Int → Prop
  | _, [] => False
  | n, x :: t => x = 48 + ((n % 10 : Nat) : Int) ∧ ((n / 10 = 0 ∧ t = []) ∨ (n / 10 ≠ 0 ∧ DL (n / 10) t))
theorem DL.one {l l' : List Int} : ∀ {n : Nat}, DL n l → DL n l' → l = l' := by
  induction l generalizing l' with
  | nil => intro n h; exact h.elim
  | cons x t ih =>
    intro n h h'
    cases l' with
    | nil => exact h'.elim
    | cons x' t' =>
      obtain ⟨e, h⟩ := h
      obtain ⟨e', h'⟩ := h'
      rw [e, e']
      rcases h with ⟨z, r⟩ | ⟨z, r⟩ <;> rcases h' with ⟨z', r'⟩ | ⟨z', r'⟩
      · rw [r, r']
      · exact absurd z z'
      · exact absurd z' z
      · rw [ih r r']
theorem DL.len {l : List Int} : ∀ {n k : Nat}, DL n l → n < 10 ^ (k + 1) → l.length ≤ k + 1 := by
  induction l with
  | nil => intro n k h; exact h.elim
  | cons x t ih =>
    intro n k h hk
    obtain ⟨_, h⟩ := h
    rcases h with ⟨z, r⟩ | ⟨z, r⟩
    · rw [r]; simp
    · cases k with
      | zero => omega
      | succ k =>
        have : n / 10 < 10 ^ (k + 1) := by
          rw [Nat.pow_succ] at hk
          exact Nat.div_lt_of_lt_mul (by omega)
        have := ih r this
        rw [List.length_cons]
        omega
def FPg (p : Int) (μ μ' : m_M) : Prop := ∀ b j, (b < p ∨ p + 3 < b) → μ' b j = μ b j
theorem FPg.rf {p : Int} {μ : m_M} : FPg p μ μ := fun _ _ _ => rfl
theorem FPg.trans {p : Int} {μ μ' μ'' : m_M} (h : FPg p μ μ') (k : FPg p μ' μ'') : FPg p μ μ'' := fun b j h1 => (k b j h1).trans (h b j h1)
theorem FPg.st {p a i v : Int} {μ : m_M} (h : p ≤ a ∧ a ≤ p + 3) : FPg p μ (st μ a i v) := fun b j h1 => sx_oa (by omega)
theorem FPg.of {p : Int} {μ μ' : m_M} (h : Exc (p + 3) μ μ') : FPg p μ μ' := fun b j h1 => h b j (by omega)
theorem w8_id {c : Int} (h0 : 0 ≤ c) (h1 : c < 128) : w8 c = c := by unfold w8; omega
theorem sp_X4_add {Q X : m_Po} {ε : m_E} {μ : m_M} {p c : Int} {l : List Int} (L : LPg ε p) (H : PL (μ (p + 1)) (μ p 3) l) (hl : l.length < 80) (c0 : 0 ≤ c) (c1 : c < 128)
    (hh : ∀ μ', FPg p μ μ' → (∀ j, μ' (p + 2) j = μ (p + 2) j) → (∀ j, μ' (p + 3) j = μ (p + 3) j) → PL (μ' (p + 1)) (μ' p 3) (l ++ [c]) → Q 0 ε μ') : o_X4_add [(2, p), (0, c)] ε μ Q X := by
  have e := H.1
  have n0 : 0 ≤ μ p 3 := by omega
  have n1 : μ p 3 < 80 := by omega
  have nN : ¬ 80 ≤ μ p 3 := by omega
  have ne : ¬ p = p + 1 := by omega
  have w := w8_id c0 c1
  have ws : w32 (μ p 3 + 1) = μ p 3 + 1 := w32_id (by unfold i32; omega)
  apply e_X4_add
  simp only [L.k, L.f0.1, L.f0.2.1, L.f0.2.2, forall_eq, eq_self, true_and, n0, n1, nN, false_implies, w, st, ne, false_and, if_false, ws, true_implies]
  intro _ _
  refine hh _ ((FPg.st (by omega)).trans (FPg.st (by omega))) (fun j => by rw [sx_oa (by omega), sx_oa (by omega)]) (fun j => by rw [sx_oa (by omega), sx_oa (by omega)]) ?_
  rw [sx_same]
  refine H.add (fun j => ?_)
  rw [sx_oa (by omega)]
  unfold st
  by_cases q : j = μ p 3
  · rw [if_pos ⟨rfl, q⟩, if_pos q]
  · rw [if_neg (fun z => q z.2), if_neg q]
theorem drop_step {p : List Int} {k : Nat} (h : k < p.length) : (p.drop k).reverse = (p.drop (k + 1)).reverse ++ [p[k]] := by
  rw [List.drop_eq_getElem_cons h, List.reverse_cons]
theorem ad_out {Q X : m_Po} {ε : m_E} {p : Int} {base dl : List Int} (L : LPg ε p) (hb : base.length + dl.length ≤ 80) (hd : ∀ x ∈ dl, 0 ≤ x ∧ x < 128) (hl : dl.length ≤ 80) {μ0 : m_M}
    (hh : ∀ μ', FPg p μ0 μ' → PL (μ' (p + 1)) (μ' p 3) (base ++ dl.reverse) → Q 0 ε μ') :
    ∀ (k : Nat) (v : Int) (μ : m_M), v + 1 = k → k ≤ dl.length → FPg p μ0 μ → PL (μ (p + 2)) dl.length dl → PL (μ (p + 1)) (μ p 3) (base ++ (dl.drop k).reverse) → G cd_X4_addDigits Q X 47 [(0, (2, p)), (2, (0, v))] [] ε μ := by
  intro k
  induction k with
  | zero =>
    intro v μ hv hk f D H
    apply g_X4_addDigits_47
    exact fun _ _ => ⟨fun _ => hh μ f H, fun z => by omega⟩
  | succ k ih =>
    intro v μ hv hk f D H
    have hv' : v = k := by omega
    subst hv'
    have v0 : (0 : Int) ≤ k := by omega
    have v1 : (k : Int) < 80 := by omega
    have vN : ¬ (k : Int) < 0 := by omega
    have hk' : k < dl.length := by omega
    have e : μ (p + 2) k = dl[k] := D.2 k _ (List.getElem?_eq_getElem hk')
    have bb := hd dl[k] (List.getElem_mem hk')
    have ll : (base ++ (dl.drop (k + 1)).reverse).length < 80 := by
      rw [List.length_append, List.length_reverse, List.length_drop]; omega
    have wk : w32 ((k : Int) + (-1)) = k - 1 := by rw [w32_id (by unfold i32; omega)]; omega
    apply g_X4_addDigits_47
    rw [L.f1.1, e]
    refine fun _ _ => ⟨fun z => absurd z vN, fun _ => ⟨L.k, L.f1.2.1, v0, by rw [L.f1.2.2]; exact v1, sp_X4_add L H ll bb.1 bb.2 (fun μ1 f1 d1 _ H1 => ?_)⟩⟩
    apply g_X4_addDigits_61
    refine fun _ _ v2 e2 => ?_
    rw [e2, wk]
    clear e2 wk
    refine ih _ μ1 (by omega) (by omega) (f.trans f1) (D.congr rfl (fun j _ _ => d1 j)) ?_
    rw [drop_step hk', ← List.append_assoc]
    exact H1
theorem dgw {z : Nat} (h : z < 10) : w8 (w8 (w32 (w64 (48 + (z : Int))))) = 48 + (z : Int) := by
  rw [w64_id (by unfold i64; omega), w32_id (by unfold i32; omega), w8_id (c := 48 + (z : Int)) (by omega) (by omega), w8_id (by omega) (by omega)]
theorem sp_X4_addDigits {Q X : m_Po} {ε : m_E} {μ : m_M} {p : Int} {n : Nat} {base : List Int} (L : LPg ε p) (hn : n < 10 ^ 39) (hi : 0 ≤ μ (p + 3) 0) (hv : W2 (μ (p + 3) 0) (μ (p + 3) 1) = n) (H : PL (μ (p + 1)) (μ p 3) base) (hb : base.length + 39 ≤ 80)
    (hh : ∀ μ' l, FPg p μ μ' → DL n l → PL (μ' (p + 1)) (μ' p 3) (base ++ l.reverse) → Q 0 ε μ') : o_X4_addDigits [(2, p)] ε μ Q X := by
  have one : ∀ (r : Nat) (l : List Int) (μ1 : m_M), l.length ≤ 38 → (∀ t, DL r t → DL n (l ++ t)) → (∀ x ∈ l, 0 ≤ x ∧ x < 128) → FPg p μ μ1 → PL (μ1 (p + 2)) l.length l → PL (μ1 (p + 1)) (μ1 p 3) base → 0 ≤ μ1 (p + 3) 0 → W2 (μ1 (p + 3) 0) (μ1 (p + 3) 1) = r →
      (∀ μ2, r / 10 ≠ 0 → (∀ t, DL (r / 10) t → DL n (l ++ [48 + ((r % 10 : Nat) : Int)] ++ t)) → (∀ x ∈ l ++ [48 + ((r % 10 : Nat) : Int)], 0 ≤ x ∧ x < 128) → FPg p μ μ2 → PL (μ2 (p + 2)) ((l.length + 1 : Nat) : Int) (l ++ [48 + ((r % 10 : Nat) : Int)]) → PL (μ2 (p + 1)) (μ2 p 3) base → 0 ≤ μ2 (p + 3) 0 → W2 (μ2 (p + 3) 0) (μ2 (p + 3) 1) = ((r / 10 : Nat) : Int) → G cd_X4_addDigits Q X 2 [(0, (2, p)), (1, (0, ((l.length + 1 : Nat) : Int)))] [] ε μ2) →
      G cd_X4_addDigits Q X 2 [(0, (2, p)), (1, (0, l.length))] [] ε μ1 := by
    intro r l μ1 hl hD hx f D B h0 hw nxt
    have l0 : (0 : Int) ≤ l.length := by omega
    have l1 : (l.length : Int) < 80 := by omega
    have lm : l.length < 2147483647 := by omega
    have l8 : ((l.length + 1 : Nat) : Int) < 80 := by omega
    have l9 : ¬ (80 : Int) ≤ ((l.length + 1 : Nat) : Int) := by omega
    have rq : (r : Int) / 10 = ((r / 10 : Nat) : Int) := by omega
    have rm : (r : Int) % 10 = ((r % 10 : Nat) : Int) := by omega
    have r10 : r % 10 < 10 := Nat.mod_lt _ (by decide)
    generalize hz : r % 10 = z at *
    have hx' : ∀ x ∈ l ++ [48 + (z : Int)], 0 ≤ x ∧ x < 128 := by
      intro x hm
      rcases List.mem_append.mp hm with q | q
      · exact hx x q
      · simp at q; omega
    apply g_X4_addDigits_2
    rw [L.f2.1, L.f1.1]
    refine fun _ _ => ⟨L.k, L.f2.2.1, sp_X9_divide L.f2.2.1 (by decide) (by decide) h0 (fun μ2 f2 h2 w2 => ?_)⟩
    rw [hw, rq] at w2
    rw [hw, rm]
    apply g_X4_addDigits_20
    rw [L.f2.1, dgw r10]
    refine fun _ _ _ _ _ => ⟨L.f1.2.1, l0, by rw [L.f1.2.2]; exact l1, fun μ3 m3 v1 e1 => ⟨L.k, L.f2.2.1, sp_X9_sign L.f2.2.1 ?_⟩⟩
    have e1' := w32_succ lm e1
    clear e1
    have c0 : ∀ j, μ3 (p + 3) j = μ2 (p + 3) j := fun j => by rw [m3]; exact sx_oa (by omega)
    have c1 : ∀ j, μ3 (p + 1) j = μ1 (p + 1) j := fun j => by rw [m3, sx_oa (by omega)]; exact f2 _ j (by omega)
    have c2 : μ3 p 3 = μ1 p 3 := by rw [m3, sx_oa (by omega)]; exact f2 _ _ (by omega)
    have F3 : FPg p μ μ3 := (f.trans (FPg.of f2)).trans (by rw [m3]; exact FPg.st (by omega))
    have D3 : PL (μ3 (p + 2)) ((l.length + 1 : Nat) : Int) (l ++ [48 + (z : Int)]) := by
      have := D.add (f' := μ3 (p + 2)) (c := 48 + (z : Int)) (fun j => by
        rw [m3]
        unfold st
        by_cases q : j = (l.length : Int)
        · rw [if_pos ⟨rfl, q⟩, if_pos q]
        · rw [if_neg (fun y => q y.2), if_neg q]; exact f2 _ j (by omega))
      rw [show ((l.length + 1 : Nat) : Int) = (l.length : Int) + 1 by omega]
      exact this
    have B3 : PL (μ3 (p + 1)) (μ3 p 3) base := B.congr c2 (fun j _ _ => c1 j)
    rw [c0, c0, w2, e1']
    apply g_X4_addDigits_34
    refine fun _ _ _ => ⟨fun q => ?_, fun q => ⟨fun _ => ?_, fun q2 => absurd q2 l9⟩⟩
    · have r0 : r / 10 = 0 := by
        have a := sg_npos (by omega : sg ((r / 10 : Nat) : Int) ≤ 0)
        omega
      have dn : DL n (l ++ [48 + (z : Int)]) := hD _ ⟨by rw [hz], Or.inl ⟨r0, rfl⟩⟩
      have ln1 : (l ++ [48 + (z : Int)]).length = l.length + 1 := by simp
      apply g_X4_addDigits_43
      refine fun _ _ v2 e2 => ?_
      have e2' : v2 = (l.length : Int) := by rw [e2, w32_id (by unfold i32; clear e2; omega)]; clear e2; omega
      rw [e2']
      clear e2 e2'
      refine ad_out L (base := base) (dl := l ++ [48 + (z : Int)]) (by rw [ln1]; omega) hx' (by rw [ln1]; omega) (μ0 := μ3) (fun μ4 f4 H4 => hh μ4 _ (F3.trans f4) dn H4) (l.length + 1) _ μ3 (by omega) (by rw [ln1]; omega) FPg.rf (by rw [ln1]; exact D3) ?_
      rw [← ln1, List.drop_length, List.reverse_nil, List.append_nil]
      exact B3
    · have r0 : r / 10 ≠ 0 := fun y => q (by rw [y]; rfl)
      refine nxt μ3 r0 (fun t ht => ?_) hx' F3 D3 B3 (by rw [c0]; exact h2) (by rw [c0, c0]; exact w2)
      rw [List.append_assoc]
      exact hD _ ⟨by rw [hz], Or.inr ⟨r0, ht⟩⟩
  have loop : ∀ (e : Nat) (r : Nat) (l : List Int) (μ1 : m_M), l.length + e = 38 → r < 10 ^ (e + 1) → (∀ t, DL r t → DL n (l ++ t)) → (∀ x ∈ l, 0 ≤ x ∧ x < 128) → FPg p μ μ1 → PL (μ1 (p + 2)) l.length l → PL (μ1 (p + 1)) (μ1 p 3) base → 0 ≤ μ1 (p + 3) 0 → W2 (μ1 (p + 3) 0) (μ1 (p + 3) 1) = r → G cd_X4_addDigits Q X 2 [(0, (2, p)), (1, (0, l.length))] [] ε μ1 := by
    intro e
    induction e with
    | zero =>
      intro r l μ1 hl hr hD hx f D B h0 hw
      refine one r l μ1 (by omega) hD hx f D B h0 hw (fun μ2 r0 => ?_)
      exfalso
      apply r0
      have : r < 10 := by simpa using hr
      omega
    | succ e ih =>
      intro r l μ1 hl hr hD hx f D B h0 hw
      refine one r l μ1 (by omega) hD hx f D B h0 hw (fun μ2 r0 a1 a2 a3 a4 a5 a6 a7 => ?_)
      have ln1 : (l ++ [48 + ((r % 10 : Nat) : Int)]).length = l.length + 1 := by simp
      have := ih (r / 10) (l ++ [48 + ((r % 10 : Nat) : Int)]) μ2 (by rw [ln1]; omega) (by
        rw [Nat.pow_succ] at hr
        exact Nat.div_lt_of_lt_mul (by omega)) a1 a2 a3 (by rw [ln1]; exact a4) a5 a6 a7
      rw [ln1] at this
      exact this
  apply e_X4_addDigits
  intro _ v1 e1
  rw [e1]
  exact loop 38 n [] μ (by rfl) hn (fun t h => h) (fun x h => by simp at h) FPg.rf (PL.nil rfl) H hi hv
