/-! ===== Never: pairs ===== -/
def FNv (N : Int) (μ μ' : m_M) : Prop := ∀ b j, (b < N ∨ N + 4 < b ∨ (b = N ∧ j = 4)) → μ' b j = μ b j
theorem FNv.rf {N : Int} {μ : m_M} : FNv N μ μ := fun _ _ _ => rfl
theorem FNv.trans {N : Int} {μ μ' μ'' : m_M} (h : FNv N μ μ') (k : FNv N μ' μ'') : FNv N μ μ'' := fun b j h1 => (k b j h1).trans (h b j h1)
theorem FNv.of2 {N p q : Int} {μ μ' : m_M} (hp : N + 1 ≤ p ∧ p ≤ N + 4) (hq : N + 1 ≤ q ∧ q ≤ N + 4) (h : Ex2 p q μ μ') : FNv N μ μ' := fun b j h1 => h b j (by omega) (by omega)
theorem FNv.ofF {N : Int} {μ μ' : m_M} (h : FF N 5 7 μ μ') : FNv N μ μ' := fun b j h1 => h b j (by omega)
theorem RC.fnv {μ μ' : m_M} {B N n : Int} {h v m c : Int → Int} (hN : N = B + 11) (H : RC μ B n h v m c) (f : FNv N μ μ') : RC μ' B n h v m c := H.fr (fun b t _ _ => f b t (by omega))
def OKc (k : Nat) (ix a c : Int → Int) : Prop := SS a k ∧ sm (fun t => ((a t).natAbs : Int) * c (ix t)) k < 0
/-- what is found: the bounds, their weights, what is left -/
def NFc (μ : m_M) (N : Int) (k : Nat) (ix a c : Int → Int) : Prop := (∀ t : Int, 0 ≤ t → t < k → μ (N + 1) t = ix t ∧ μ (N + 2) t = ((a t).natAbs : Int) / gd a k) ∧ W2 (μ (N + 4) 0) (μ (N + 4) 1) = sm (fun t => ((a t).natAbs : Int) / gd a k * c (ix t)) k
def selx (h v m : Int → Int) (i t : Int) : Int := if (if h i = 0 then v i else h i) = 0 then m t else (if h i = 0 then v t else h t)
def ix2 (i j : Int) : Int → Int := fun t => if t = 0 then i else j
def a2 (h v m : Int → Int) (i j : Int) : Int → Int := fun t => if t = 0 then selx h v m i j else -(selx h v m i i)
def par (h v m : Int → Int) (i j : Int) : Prop := crH v m i j = 0 ∧ crV h m i j = 0 ∧ crM h v i j = 0
def Pr2 (h v m c : Int → Int) (i j : Int) : Prop := par h v m i j ∧ OKc 2 (ix2 i j) (a2 h v m i j) c
def Fst2 (P : Int → Int → Prop) (n i j : Int) : Prop := 0 ≤ i ∧ i < j ∧ j < n ∧ P i j ∧ ∀ a b, 0 ≤ a → a < b → b < n → (a < i ∨ (a = i ∧ b < j)) → ¬ P a b
def No2 (P : Int → Int → Prop) (n : Int) : Prop := ∀ a b, 0 ≤ a → a < b → b < n → ¬ P a b
theorem selx_bd {h v m c : Int → Int} {n i t : Int} (R : RB h v m c n) (ht : 0 ≤ t ∧ t < n) : bd (selx h v m i t) 20 := by
  obtain ⟨a1, a2, a3, a4⟩ := R t ht.1 ht.2
  unfold selx
  split <;> (try split) <;> assumption
theorem sp_X3_clashTwo {Q X : m_Po} {ε : m_E} {μ : m_M} {N B n i j : Int} {h v m c : Int → Int} (L : LN ε N) (LB' : LB ε B) (hN : N = B + 11) (n48 : n ≤ 48) (W : RC μ B n h v m c) (R : RB h v m c n) (hi : 0 ≤ i ∧ i < n) (hj : 0 ≤ j ∧ j < n)
    (h1 : ∀ μ', FNv N μ μ' → OKc 2 (ix2 i j) (a2 h v m i j) c → NFc μ' N 2 (ix2 i j) (a2 h v m i j) c → Q 1 ε μ') (h0 : ∀ μ', FNv N μ μ' → ¬ OKc 2 (ix2 i j) (a2 h v m i j) c → Q 0 ε μ') : o_X3_clashTwo [(2, N), (2, B), (0, i), (0, j)] ε μ Q X := by
  have i1 : i < 48 := by omega
  have j1 : j < 48 := by omega
  have hi0 := hi.1
  have hj0 := hj.1
  have bo := selx_bd (i := i) R hi
  have bt := selx_bd (i := i) R hj
  have nw : w64 (-(selx h v m i i)) = -(selx h v m i i) := w64_bd (bd_mono (bd_neg bo) (by decide))
  have s1 : (if (if h i = 0 then v i else h i) = 0 then m i else if h i = 0 then v i else h i) = selx h v m i i := rfl
  have s2 : (if (if h i = 0 then v i else h i) = 0 then m j else if h i = 0 then v j else h j) = selx h v m i j := rfl
  apply e_X3_clashTwo
  simp only [L.k, LB'.k, LB'.f0.1, LB'.f0.2.1, LB'.f0.2.2, LB'.f1.1, LB'.f1.2.1, LB'.f1.2.2, LB'.f2.1, LB'.f2.2.1, LB'.f2.2.2, forall_eq, eq_self, true_and, and_true, implies_true, i1, j1, hi0, hj0, W.2.1, W.2.2.1, W.2.2.2.1, s1, s2]
  clear s1 s2
  refine fun _ _ _ => sp_X3_pick L (by decide) (by decide) (fun μ1 f1 p1 q1 => ?_)
  apply g_X3_clashTwo_70
  rw [nw]
  clear nw
  refine fun _ _ _ => ⟨L.k, sp_X3_pick L (by decide) (by decide) (fun μ2 f2 p2 q2 => ?_)⟩
  have F2 : FNv N μ μ2 := (FNv.of2 (by omega) (by omega) f1).trans (FNv.of2 (by omega) (by omega) f2)
  apply g_X3_clashTwo_79
  have two : ∀ t : Int, 0 ≤ t → t < ((2 : Nat) : Int) → t = 0 ∨ t = 1 := fun t t0 t1 => by omega
  have W2' := W.fnv hN F2
  refine fun _ => ⟨L.k, sp_X3_clash (n := 2) (nb := n) L LB' hN (by decide) (by decide) n48 (a := a2 h v m i j) (ix := ix2 i j) (c := c) ?_ ?_ ?_ W2'.2.2.2.2 ?_ ?_ (fun μ3 f3 S sg w l => ?_) (fun μ3 f3 nS => ?_)⟩
  · intro t t0 t1
    rcases two t t0 t1 with rfl | rfl
    · rw [q2, if_neg (by decide), q1, if_pos rfl]; rfl
    · rw [q2, if_pos rfl]; rfl
  · intro t t0 t1
    rcases two t t0 t1 with rfl | rfl
    · rw [p2, if_neg (by decide), p1, if_pos rfl]; rfl
    · rw [p2, if_pos rfl]; rfl
  · intro t t0 t1
    rcases two t t0 t1 with rfl | rfl
    · exact hi
    · exact hj
  · intro t t0 t1
    rcases two t t0 t1 with rfl | rfl
    · exact bd_mono bt (by decide)
    · exact bd_mono (bd_neg bo) (by decide)
  · intro t t0 t1
    rcases two t t0 t1 with rfl | rfl
    · exact (R i hi.1 hi.2).2.2.2
    · exact (R j hj.1 hj.2).2.2.2
  · apply g_X3_clashTwo_85
    refine fun _ _ => ⟨Or.inr rfl, h1 μ3 (F2.trans (FNv.of2 (by omega) (by omega) f3)) ⟨S, sg⟩ ⟨fun t t0 t1 => ⟨?_, w t t0 t1⟩, l⟩⟩
    rw [f3 _ _ (by omega) (by omega)]
    rcases two t t0 t1 with rfl | rfl
    · rw [p2, if_neg (by decide), p1, if_pos rfl]; rfl
    · rw [p2, if_pos rfl]; rfl
  · apply g_X3_clashTwo_85
    exact fun _ _ => ⟨Or.inl rfl, h0 μ3 (F2.trans (FNv.of2 (by omega) (by omega) f3)) nS⟩
theorem f2_in {Q X : m_Po} {ε : m_E} {N B : Int} {n i : Nat} {h v m c : Int → Int} (L : LN ε N) (LB' : LB ε B) (hN : N = B + 11) (n48 : n ≤ 48) (R : RB h v m c n) (hi : i < n) {μ0 : m_M} (W0 : RC μ0 B n h v m c) (hb : ∀ a b : Int, 0 ≤ a → a < b → b < n → a < i → ¬ Pr2 h v m c a b)
    (nxt : ∀ μ', FNv N μ0 μ' → (∀ b : Int, (i : Int) < b → b < n → ¬ Pr2 h v m c i b) → G cd_X3_findTwo Q X 2 [(0, (2, N)), (1, (2, B)), (2, (0, ((i + 1 : Nat) : Int)))] [] ε μ')
    (h1 : ∀ (μ' : m_M) (i j : Int), FNv N μ0 μ' → Fst2 (Pr2 h v m c) n i j → NFc μ' N 2 (ix2 i j) (a2 h v m i j) c → Q 1 ε μ') :
    ∀ (d j : Nat) (μ : m_M), j + d = n → i < j → FNv N μ0 μ → (∀ b : Int, (i : Int) < b → b < j → ¬ Pr2 h v m c i b) → G cd_X3_findTwo Q X 14 [(0, (2, N)), (1, (2, B)), (2, (0, i)), (3, (0, j))] [] ε μ := by
  intro d
  induction d with
  | zero =>
    intro j μ hd hj f hk
    have e : j = n := by omega
    subst e
    have W := W0.fnv hN f
    have jn : ¬ (j : Int) < j := by omega
    have im : i < 2147483647 := by omega
    apply g_X3_findTwo_14
    rw [W.1]
    refine fun _ _ _ => ⟨LB'.k, fun _ v2 e2 => ?_, fun z => absurd z jn⟩
    rw [w32_succ im e2]
    exact nxt μ f hk
  | succ d ih =>
    intro j μ hd hj f hk
    have W := W0.fnv hN f
    have hi' : 0 ≤ (i : Int) ∧ (i : Int) < n := by omega
    have hj' : 0 ≤ (j : Int) ∧ (j : Int) < n := by omega
    have ij : (i : Int) < j := by omega
    have jN : ¬ (n : Int) ≤ j := by omega
    have jm : j < 2147483647 := by omega
    have n48' : (n : Int) ≤ 48 := by omega
    have hd' : j + 1 + d = n := by omega
    have hj1 : i < j + 1 := by omega
    have go : ∀ μ', FNv N μ0 μ' → ¬ Pr2 h v m c i j → G cd_X3_findTwo Q X 48 [(0, (2, N)), (1, (2, B)), (2, (0, i)), (3, (0, j))] [] ε μ' := by
      intro μ' f' np
      apply g_X3_findTwo_48
      refine fun _ _ _ v3 e3 => ?_
      rw [w32_succ jm e3]
      refine ih (j + 1) μ' hd' hj1 f' (fun b b0 b1 => ?_)
      by_cases q : b = j
      · rw [q]; exact np
      · exact hk b b0 (by clear e3; omega)
    apply g_X3_findTwo_14
    rw [W.1]
    refine fun _ _ _ => ⟨LB'.k, fun z => absurd z jN, fun _ => ⟨L.k, sp_X3_cross L LB' hN n48' W R hi' hj' (fun μ1 f1 x5 x6 x7 => ?_)⟩⟩
    have F1 := f.trans (FNv.ofF f1)
    apply g_X3_findTwo_29
    refine fun _ _ _ => ⟨L.k, sp_X3_isCrossNothing L (fun z => ?_) (fun z => ?_)⟩
    · rw [x5, x6, x7] at z
      apply g_X3_findTwo_33
      refine fun _ _ _ _ => ⟨fun q => absurd q (by decide), fun _ => ⟨L.k, sp_X3_clashTwo L LB' hN n48' (W0.fnv hN F1) R hi' hj' (fun μ2 f2 ok nf => ?_) (fun μ2 f2 nok => ?_)⟩⟩
      · apply g_X3_findTwo_43
        refine fun _ _ _ _ => ⟨fun q => absurd q (by decide), fun _ => h1 μ2 i j (F1.trans f2) ⟨hi'.1, ij, hj'.2, ⟨z, ok⟩, fun a b a0 ab' bn q => ?_⟩ nf⟩
        rcases q with q | ⟨q1, q2⟩
        · exact hb a b a0 ab' bn q
        · rw [q1]; exact hk b (by omega) q2
      · apply g_X3_findTwo_43
        exact fun _ _ _ _ => ⟨fun _ => go μ2 (F1.trans f2) (fun p => nok p.2), fun q => absurd rfl q⟩
    · rw [x5, x6, x7] at z
      apply g_X3_findTwo_33
      exact fun _ _ _ _ => ⟨fun _ => go μ1 F1 (fun p => z p.1), fun q => absurd rfl q⟩
theorem sp_X3_findTwo {Q X : m_Po} {ε : m_E} {μ : m_M} {N B : Int} {n : Nat} {h v m c : Int → Int} (L : LN ε N) (LB' : LB ε B) (hN : N = B + 11) (n48 : n ≤ 48) (R : RB h v m c n) (W : RC μ B n h v m c)
    (h1 : ∀ (μ' : m_M) (i j : Int), FNv N μ μ' → Fst2 (Pr2 h v m c) n i j → NFc μ' N 2 (ix2 i j) (a2 h v m i j) c → Q 1 ε μ') (h0 : ∀ μ', FNv N μ μ' → No2 (Pr2 h v m c) n → Q 0 ε μ') : o_X3_findTwo [(2, N), (2, B)] ε μ Q X := by
  have loop : ∀ (d i : Nat) (μ1 : m_M), i + d = n → FNv N μ μ1 → (∀ a b : Int, 0 ≤ a → a < b → b < n → a < i → ¬ Pr2 h v m c a b) → G cd_X3_findTwo Q X 2 [(0, (2, N)), (1, (2, B)), (2, (0, i))] [] ε μ1 := by
    intro d
    induction d with
    | zero =>
      intro i μ1 hd f hb
      have e : i = n := by omega
      subst e
      have W1 := W.fnv hN f
      have jn : ¬ (i : Int) < i := by omega
      apply g_X3_findTwo_2
      rw [W1.1]
      exact fun _ _ => ⟨LB'.k, fun _ => h0 μ1 f (fun a b a0 ab' bn => hb a b a0 ab' bn (by omega)), fun z => absurd z jn⟩
    | succ d ih =>
      intro i μ1 hd f hb
      have W1 := W.fnv hN f
      have iN : ¬ (n : Int) ≤ i := by omega
      have im : i < 2147483647 := by omega
      have hd' : i + 1 + d = n := by omega
      have hi : i < n := by omega
      apply g_X3_findTwo_2
      rw [W1.1]
      refine fun _ _ => ⟨LB'.k, fun z => absurd z iN, fun _ v3 e3 => ?_⟩
      rw [w32_succ im e3]
      clear e3
      refine f2_in L LB' hN n48 R hi W1 hb (fun μ2 f2 hk => ih (i + 1) μ2 hd' (f.trans f2) (fun a b a0 ab' bn q => ?_)) (fun μ2 i' j' f2 F nf => h1 μ2 i' j' (f.trans f2) F nf) d (i + 1) μ1 hd' (by omega) FNv.rf (fun b b0 b1 => by omega)
      by_cases q2 : a = i
      · rw [q2]; exact hk b (by omega) bn
      · exact hb a b a0 ab' bn (by omega)
  apply e_X3_findTwo
  intro _ v2 e2
  rw [e2]
  exact loop n 0 μ (by omega) FNv.rf (fun a b a0 _ _ q => by omega)
