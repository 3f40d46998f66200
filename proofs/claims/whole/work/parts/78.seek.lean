/-! ===== Corner: taking a bound in; seeking ===== -/
def FK (C : Int) (μ μ' : m_M) : Prop := ∀ b j, (b < C ∨ C + 4 < b) → μ' b j = μ b j
theorem FK.rf {C : Int} {μ : m_M} : FK C μ μ := fun _ _ _ => rfl
theorem FK.trans {C : Int} {μ μ' μ'' : m_M} (h : FK C μ μ') (k : FK C μ' μ'') : FK C μ μ'' := fun b j h1 => (k b j h1).trans (h b j h1)
theorem FK.of2 {C : Int} {μ μ' : m_M} (h : Ex2 (C + 3) (C + 4) μ μ') : FK C μ μ' := fun b j h1 => h b j (by omega) (by omega)
theorem FK.ofC {C : Int} {μ μ' : m_M} (h : FC C μ μ') : FK C μ μ' := fun b j h1 => h b j (by omega) (by omega)
theorem FK.st {C a i v : Int} {μ : m_M} (h : C ≤ a ∧ a ≤ C + 4) : FK C μ (st μ a i v) := fun b j h1 => sx_oa (by omega)
theorem RC.fk {μ μ' : m_M} {B C n : Int} {h v m c : Int → Int} (hC : C = B + 6) (H : RC μ B n h v m c) (f : FK C μ μ') : RC μ' B n h v m c := H.fr (fun b t _ _ => f b t (by omega))
theorem tk_step {Q X : m_Po} {ε : m_E} {μ : m_M} {C B n f b e p i' j' k' : Int} {h v m c : Int → Int} (L : LC ε C) (LB' : LB ε B) (hC : C = B + 6) (hn : n ≤ 48) (W : RC μ B n h v m c) (R : RB h v m c n) (he : e = 0 ∨ e = 1 ∨ e = 2) (hp : μ (C + 3) e = p) (hi : 0 ≤ i' ∧ i' < n) (hj : 0 ≤ j' ∧ j' < n) (hk : 0 ≤ k' ∧ k' < n)
    (x0 : st μ (C + 1) e b (C + 1) 0 = i') (x1 : st μ (C + 1) e b (C + 1) 1 = j') (x2 : st μ (C + 1) e b (C + 1) 2 = k')
    (nxt : ∀ μ', FK C μ μ' → (∀ t, μ' (C + 1) t = μ (C + 1) t) → (∀ t, μ' (C + 3) t = μ (C + 3) t) → (p ≤ 0 ∨ ∃ s', (s' = 1 ∨ s' = -1) ∧ 0 ≤ s' * dt3 h v m i' j' k' ∧ ¬ Low h v m (gf f) i' j' k' s') → G cd_X2_takeIn Q X 3 [(0, (2, C)), (1, (2, B)), (2, (0, b)), (3, (0, f)), (4, (0, e + 1))] [] ε μ')
    (ret : ∀ μ' s', FK C μ μ' → 0 < p → CS μ' C h v m i' j' k' s' → Low h v m (gf f) i' j' k' s' → Q 1 ε μ') : G cd_X2_takeIn Q X 3 [(0, (2, C)), (1, (2, B)), (2, (0, b)), (3, (0, f)), (4, (0, e))] [] ε μ := by
  have e0 : 0 ≤ e := by omega
  have e1 : e < 3 := by omega
  have eN : ¬ 3 ≤ e := by omega
  have go : ∀ μ', FK C μ μ' → (∀ t, μ' (C + 1) t = μ (C + 1) t) → (∀ t, μ' (C + 3) t = μ (C + 3) t) → (p ≤ 0 ∨ ∃ s', (s' = 1 ∨ s' = -1) ∧ 0 ≤ s' * dt3 h v m i' j' k' ∧ ¬ Low h v m (gf f) i' j' k' s') → G cd_X2_takeIn Q X 62 [(0, (2, C)), (1, (2, B)), (2, (0, b)), (3, (0, f)), (4, (0, e))] [] ε μ' := by
    intro μ' a1 a2 a3 a4
    apply g_X2_takeIn_62
    refine fun _ _ _ _ v4 e4 => ?_
    rw [e4, w32_id (by unfold i32; clear e4; omega)]
    exact nxt μ' a1 a2 a3 a4
  apply g_X2_takeIn_3
  rw [L.f2.1, L.f0.1, hp]
  refine fun _ _ _ _ => ⟨fun z => absurd z eN, fun _ => ⟨L.k, L.f2.2.1, e0, by rw [L.f2.2.2]; exact e1, fun z => go μ FK.rf (fun _ => rfl) (fun _ => rfl) (Or.inl z), fun z => ⟨L.f0.2.1, by rw [L.f0.2.2]; exact e1, fun v5 e5 μ1 m1 => ?_⟩⟩⟩
  have f1 : FK C μ μ1 := by rw [m1]; exact FK.st (by omega)
  refine sp_X2_findEdges L LB' hC hn (W.fk hC f1) R hi hj hk (by rw [m1]; exact x0) (by rw [m1]; exact x1) (by rw [m1]; exact x2) (fun μ2 s' f2 S2 => ?_)
  have F2 := f1.trans (FK.ofC f2)
  apply g_X2_takeIn_43
  refine fun _ _ _ _ _ => ⟨L.k, sp_X2_isLowest L R hi hj hk S2 (fun lo => ?_) (fun nl => ?_)⟩
  · apply g_X2_takeIn_48
    exact fun _ _ _ _ _ _ => ⟨fun z => absurd z (by decide), fun _ => ret μ2 s' F2 z S2 lo⟩
  · apply g_X2_takeIn_48
    rw [L.f0.1]
    refine fun _ _ _ _ _ _ => ⟨fun _ => ⟨L.k, L.f0.2.1, e0, by rw [L.f0.2.2]; exact e1, fun μ3 m3 => ?_⟩, fun z => absurd rfl z⟩
    refine go μ3 (F2.trans (by rw [m3]; exact FK.st (by omega))) (fun t => ?_) (fun t => ?_) (Or.inr ⟨s', S2.2.2.2.1, S2.2.2.2.2, nl⟩)
    · rw [m3]
      by_cases q : t = e
      · rw [q, sx_same, e5]
      · rw [sx_oi q, f2 _ _ (by omega) (by omega), m1, sx_oi q]
    · rw [m3, sx_oa (by omega), f2 _ _ (by omega) (by omega), m1, sx_oa (by omega)]
theorem low_sgn {h v m : Int → Int} {g i j k s s' : Int} (hs' : s' = 1 ∨ s' = -1) (hp : 0 ≤ s' * dt3 h v m i j k) (nl : ¬ Low h v m g i j k s') : ¬ Low h v m g i j k s := by
  intro lo
  have a := lo.1
  have b := lo.2.1
  by_cases q : s = s'
  · rw [q] at lo; exact nl lo
  · have e : s = -s' := by omega
    rw [e, Int.neg_mul] at b
    omega
theorem sp_X2_takeIn {Q X : m_Po} {ε : m_E} {μ : m_M} {C B n f b i j k s : Int} {h v m c : Int → Int} (L : LC ε C) (LB' : LB ε B) (hC : C = B + 6) (hn : n ≤ 48) (W : RC μ B n h v m c) (R : RB h v m c n) (hi : 0 ≤ i ∧ i < n) (hj : 0 ≤ j ∧ j < n) (hk : 0 ≤ k ∧ k < n) (hb : 0 ≤ b ∧ b < n) (e0 : μ (C + 1) 0 = i) (e1 : μ (C + 1) 1 = j) (e2 : μ (C + 1) 2 = k) (P : PT (μ (C + 3)) h v m i j k s b) (lo : Low h v m (gf f) i j k s) (hw : wc h v m c i j k s b < 0)
    (h1 : ∀ μ' i' j' k', FK C μ μ' → (0 ≤ i' ∧ i' < n) → (0 ≤ j' ∧ j' < n) → (0 ≤ k' ∧ k' < n) → CS μ' C h v m i' j' k' s → Low h v m (gf f) i' j' k' s → CL h v m c (gf f) i j k s i' j' k' s → Q 1 ε μ')
    (h0 : ∀ μ', FK C μ μ' → pa3 h v m s b j k ≤ 0 → pa3 h v m s b k i ≤ 0 → pa3 h v m s b i j ≤ 0 → Q 0 ε μ') : o_X2_takeIn [(2, C), (2, B), (0, b), (0, f)] ε μ Q X := by
  have gg : gf f = 1 ∨ gf f = -1 := by unfold gf; split <;> omega
  obtain ⟨P0, P1, P2⟩ := P
  -- a corner that was found has the old sign
  have same : ∀ i' j' k' s', 0 < s * dt3 h v m i' j' k' → Low h v m (gf f) i' j' k' s' → s' = s := by
    intro i' j' k' s' hd l
    have a := l.1
    have b' := l.2.1
    have c' := lo.1
    by_cases q : s' = s
    · exact q
    · have e : s' = -s := by omega
      rw [e, Int.neg_mul] at b'
      omega
  apply e_X2_takeIn
  intro _ _ _ v4 e4
  rw [e4]
  refine tk_step (i' := b) (j' := j) (k' := k) L LB' hC hn W R (Or.inl rfl) P0 hb hj hk sx_same (by rw [sx_oi (by decide)]; exact e1) (by rw [sx_oi (by decide)]; exact e2) (fun μ1 f1 a1 c1 q1 => ?_) (fun μ' s' f' hp S l => ?_)
  · have W1 := W.fk hC f1
    refine tk_step (i' := i) (j' := b) (k' := k) L LB' hC hn W1 R (Or.inr (Or.inl rfl)) ((c1 1).trans P1) hi hb hk (by rw [sx_oi (by decide), a1]; exact e0) sx_same (by rw [sx_oi (by decide), a1]; exact e2) (fun μ2 f2 a2 c2 q2 => ?_) (fun μ' s' f' hp S l => ?_)
    · have W2' := W1.fk hC f2
      refine tk_step (i' := i) (j' := j) (k' := b) L LB' hC hn W2' R (Or.inr (Or.inr rfl)) ((c2 2).trans ((c1 2).trans P2)) hi hj hb (by rw [sx_oi (by decide), a2, a1]; exact e0) (by rw [sx_oi (by decide), a2, a1]; exact e1) sx_same (fun μ3 f3 a3 c3 q3 => ?_) (fun μ' s' f' hp S l => ?_)
      · apply g_X2_takeIn_3
        refine fun _ _ _ _ => ⟨fun _ => ?_, fun z => absurd z (by decide)⟩
        have none : ¬ (0 < pa3 h v m s b j k ∨ 0 < pa3 h v m s b k i ∨ 0 < pa3 h v m s b i j) := by
          intro hp
          rcases low_some (b := b) gg lo hp with ⟨p, l⟩ | ⟨p, l⟩ | ⟨p, l⟩
          · rcases q1 with q | ⟨s', u1, u2, u3⟩
            · omega
            · exact low_sgn u1 u2 u3 l
          · rcases q2 with q | ⟨s', u1, u2, u3⟩
            · omega
            · exact low_sgn u1 u2 u3 l
          · rcases q3 with q | ⟨s', u1, u2, u3⟩
            · omega
            · exact low_sgn u1 u2 u3 l
        exact h0 μ3 ((f1.trans f2).trans f3) (by omega) (by omega) (by omega)
      · have dd : 0 < s * dt3 h v m i j b := by
          have : s * dt3 h v m i j b = pa3 h v m s b i j := by rw [← ex_vol, ← dt3_rot h v m b i j]
          rw [this]; exact hp
        have e := same _ _ _ _ dd l
        rw [e] at S l
        refine h1 μ' i j b ((f1.trans f2).trans f') hi hj hb S l ?_
        exact cl_rot1 (cl_rot2 (cl_ex (low_rot (low_rot lo)) (low_rot (low_rot l)) hp (by rw [cn_rotH (i := j) (j := k) (k := i), cn_rotV (i := j) (j := k) (k := i), cn_rotM (i := j) (j := k) (k := i), cn_rotH (i := i) (j := j) (k := k), cn_rotV (i := i) (j := j) (k := k), cn_rotM (i := i) (j := j) (k := k), dt3_rot h v m j k i, dt3_rot h v m i j k]; exact hw)))
    · have dd : 0 < s * dt3 h v m i b k := by
        have : s * dt3 h v m i b k = pa3 h v m s b k i := by rw [← ex_vol, dt3_rot h v m i b k]
        rw [this]; exact hp
      have e := same _ _ _ _ dd l
      rw [e] at S l
      refine h1 μ' i b k (f1.trans f') hi hb hk S l ?_
      exact cl_rot1 (cl_rot1 (cl_rot2 (cl_rot2 (cl_ex (low_rot lo) (low_rot l) hp (by rw [cn_rotH (i := i) (j := j) (k := k), cn_rotV (i := i) (j := j) (k := k), cn_rotM (i := i) (j := j) (k := k), dt3_rot h v m i j k]; exact hw)))))
  · have dd : 0 < s * dt3 h v m b j k := by
      rw [ex_vol]; exact hp
    have e := same _ _ _ _ dd l
    rw [e] at S l
    exact h1 μ' b j k f' hb hj hk S l (cl_ex lo l hp hw)
