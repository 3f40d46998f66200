/-! ===== what is found is one; Never.report ===== -/
theorem Fst2.one {P : Int → Int → Prop} {n i j i' j' : Int} (F : Fst2 P n i j) (F' : Fst2 P n i' j') : i = i' ∧ j = j' := by
  obtain ⟨a1, a2, a3, a4, a5⟩ := F
  obtain ⟨b1, b2, b3, b4, b5⟩ := F'
  have x : ¬ (i' < i ∨ (i' = i ∧ j' < j)) := fun q => a5 i' j' b1 b2 b3 q b4
  have y : ¬ (i < i' ∨ (i = i' ∧ j < j')) := fun q => b5 i j a1 a2 a3 q a4
  omega
theorem Fst3.one {P : Int → Int → Int → Prop} {n i j k i' j' k' : Int} (F : Fst3 P n i j k) (F' : Fst3 P n i' j' k') : i = i' ∧ j = j' ∧ k = k' := by
  obtain ⟨a1, a2, a3, a4, a5, a6⟩ := F
  obtain ⟨b1, b2, b3, b4, b5, b6⟩ := F'
  have x : ¬ (i' < i ∨ (i' = i ∧ (j' < j ∨ (j' = j ∧ k' < k)))) := fun q => a6 i' j' k' b1 b2 b3 b4 q b5
  have y : ¬ (i < i' ∨ (i = i' ∧ (j < j' ∨ (j = j' ∧ k < k')))) := fun q => b6 i j k a1 a2 a3 a4 q a5
  omega
theorem Fst4.one {P : Int → Int → Int → Int → Prop} {n i j k l i' j' k' l' : Int} (F : Fst4 P n i j k l) (F' : Fst4 P n i' j' k' l') : i = i' ∧ j = j' ∧ k = k' ∧ l = l' := by
  obtain ⟨a1, a2, a3, a4, a5, a6, a7⟩ := F
  obtain ⟨b1, b2, b3, b4, b5, b6, b7⟩ := F'
  have x : ¬ (i' < i ∨ (i' = i ∧ (j' < j ∨ (j' = j ∧ (k' < k ∨ (k' = k ∧ l' < l)))))) := fun q => a7 i' j' k' l' b1 b2 b3 b4 b5 q b6
  have y : ¬ (i < i' ∨ (i = i' ∧ (j < j' ∨ (j = j' ∧ (k < k' ∨ (k = k' ∧ l < l')))))) := fun q => b7 i j k l a1 a2 a3 a4 a5 q a6
  omega
theorem no2_fst {P : Int → Int → Prop} {n i j : Int} (N : No2 P n) (F : Fst2 P n i j) : False := N i j F.1 F.2.1 F.2.2.1 F.2.2.2.1
theorem no3_fst {P : Int → Int → Int → Prop} {n i j k : Int} (N : No3 P n) (F : Fst3 P n i j k) : False := N i j k F.1 F.2.1 F.2.2.1 F.2.2.2.1 F.2.2.2.2.1
theorem no4_fst {P : Int → Int → Int → Int → Prop} {n i j k l : Int} (N : No4 P n) (F : Fst4 P n i j k l) : False := N i j k l F.1 F.2.1 F.2.2.1 F.2.2.2.1 F.2.2.2.2.1 F.2.2.2.2.2.1
/-- the two searches find the same -/
theorem Srch.one {h v m c ix a ix' a' : Int → Int} {n : Int} {k k' : Nat} (S : Srch h v m c n k ix a) (S' : Srch h v m c n k' ix' a') : k = k' ∧ (k ≠ 0 → ix = ix' ∧ a = a') := by
  rcases S with ⟨e, i, j, F, x, y⟩ | ⟨e, N2, i, j, l, F, x, y⟩ | ⟨e, N2, N3, i, j, l, q, F, x, y⟩ | ⟨e, N2, N3, N4⟩ <;> rcases S' with ⟨e', i', j', F', x', y'⟩ | ⟨e', N2', i', j', l', F', x', y'⟩ | ⟨e', N2', N3', i', j', l', q', F', x', y'⟩ | ⟨e', N2', N3', N4'⟩
  · obtain ⟨r1, r2⟩ := F.one F'
    subst r1 r2
    exact ⟨e.trans e'.symm, fun _ => ⟨x.trans x'.symm, y.trans y'.symm⟩⟩
  · exact (no2_fst N2' F).elim
  · exact (no2_fst N2' F).elim
  · exact (no2_fst N2' F).elim
  · exact (no2_fst N2 F').elim
  · obtain ⟨r1, r2, r3⟩ := F.one F'
    subst r1 r2 r3
    exact ⟨e.trans e'.symm, fun _ => ⟨x.trans x'.symm, y.trans y'.symm⟩⟩
  · exact (no3_fst N3' F).elim
  · exact (no3_fst N3' F).elim
  · exact (no2_fst N2 F').elim
  · exact (no3_fst N3 F').elim
  · obtain ⟨r1, r2, r3, r4⟩ := F.one F'
    subst r1 r2 r3 r4
    exact ⟨e.trans e'.symm, fun _ => ⟨x.trans x'.symm, y.trans y'.symm⟩⟩
  · exact (no4_fst N4' F).elim
  · exact (no2_fst N2 F').elim
  · exact (no3_fst N3 F').elim
  · exact (no4_fst N4 F').elim
  · exact ⟨e.trans e'.symm, fun z => absurd e z⟩
theorem Srch.k4 {h v m c ix a : Int → Int} {n : Int} {k : Nat} (S : Srch h v m c n k ix a) : k ≤ 4 := by
  rcases S with ⟨e, _⟩ | ⟨e, _⟩ | ⟨e, _⟩ | ⟨e, _⟩ <;> omega
theorem Srch.ix {h v m c ix a : Int → Int} {n : Int} {k : Nat} (S : Srch h v m c n k ix a) (t : Int) (t0 : 0 ≤ t) (t1 : t < k) : 0 ≤ ix t ∧ ix t < n := by
  rcases S with ⟨e, i, j, F, x, y⟩ | ⟨e, N2, i, j, l, F, x, y⟩ | ⟨e, N2, N3, i, j, l, q, F, x, y⟩ | ⟨e, N2, N3, N4⟩
  · obtain ⟨a1, a2, a3, _⟩ := F
    rw [x]; unfold ix2
    split <;> omega
  · obtain ⟨a1, a2, a3, a4, _⟩ := F
    rw [x]; unfold ix3
    split <;> (try split) <;> omega
  · obtain ⟨a1, a2, a3, a4, a5, _⟩ := F
    rw [x]; unfold ix4
    split <;> (try split) <;> (try split) <;> omega
  · omega
/-- the verdict's cells that tell of a never -/
def FY (V : Int) (μ μ' : m_M) : Prop := ∀ b j, (b < V ∨ V + 8 < b) → μ' b j = μ b j
theorem FY.rf {V : Int} {μ : m_M} : FY V μ μ := fun _ _ _ => rfl
theorem FY.trans {V : Int} {μ μ' μ'' : m_M} (h : FY V μ μ') (k : FY V μ' μ'') : FY V μ μ'' := fun b j h1 => (k b j h1).trans (h b j h1)
theorem sp_X8_beginNever {Q X : m_Po} {ε : m_E} {μ : m_M} {V a : Int} (L : LV ε V) (hk : kd ε a = 8) (ha : a < V ∨ V + 8 < a)
    (hh : ∀ μ', FY V μ μ' → μ' V 9 = 0 → μ' V 8 = 0 → μ' (V + 5) 0 = 0 → μ' (V + 5) 1 = 0 → μ' (V + 8) 0 = μ a 0 → μ' (V + 8) 1 = μ a 1 → Q 0 ε μ') : o_X8_beginNever [(2, V), (2, a)] ε μ Q X := by
  have n1 : ¬ a = V := by omega
  have n2 : ¬ a = V + 5 := by omega
  apply e_X8_beginNever
  simp only [L.k, L.f4.1, L.f4.2.1, L.f4.2.2, L.f7.1, L.f7.2.1, hk, forall_eq, eq_self, true_and, Int.reduceLT, st, n1, n2, false_and, if_false]
  refine fun _ => sp_X9_set L.f7.2.1 (fun μ5 f5 s0 s1 => ?_)
  apply g_X8_beginNever_39
  refine fun _ => hh μ5 (fun b j hb => ?_) ?_ ?_ ?_ ?_ s0 s1
  · rw [f5 _ _ (by omega), sx_oa (by omega), sx_oa (by omega), sx_oa (by omega), sx_oa (by omega)]
  · rw [f5 _ _ (by omega), sx_oi (by decide), sx_oa (by omega), sx_oa (by omega), sx_same]
  · rw [f5 _ _ (by omega), sx_same]
  · rw [f5 _ _ (by omega), sx_oa (by omega), sx_oi (by decide), sx_same]
  · rw [f5 _ _ (by omega), sx_oa (by omega), sx_same]
theorem sp_X8_keepNever {Q X : m_Po} {ε : m_E} {μ : m_M} {V code x n : Int} (L : LV ε V) (hn : μ V 8 = n) (n0 : 0 ≤ n) (n4 : n < 4)
    (hh : ∀ μ', (∀ b j, b ≠ V + 6 → b ≠ V + 7 → ¬ (b = V ∧ j = 8) → μ' b j = μ b j) → μ' V 8 = n + 1 → (∀ j, μ' (V + 6) j = if j = n then code else μ (V + 6) j) → (∀ j, μ' (V + 7) j = if j = n then x else μ (V + 7) j) → Q 0 ε μ') : o_X8_keepNever [(2, V), (0, code), (1, x)] ε μ Q X := by
  have nN : ¬ 4 ≤ n := by omega
  have c1 : ¬ V = V + 6 := by omega
  have c2 : ¬ V = V + 7 := by omega
  have ws : w32 (n + 1) = n + 1 := w32_id (by unfold i32; omega)
  apply e_X8_keepNever
  simp only [L.k, L.f5.1, L.f5.2.1, L.f5.2.2, L.f6.1, L.f6.2.1, L.f6.2.2, forall_eq, eq_self, true_and, st, c1, c2, false_and, if_false, hn, n0, n4, nN, false_implies, true_implies, ws]
  clear ws
  intro _ _ _
  refine hh _ (fun b j h1 h2 h3 => ?_) sx_same (fun j => ?_) (fun j => ?_)
  · unfold st
    rw [if_neg h3, if_neg (fun z => h2 z.1), if_neg (fun z => h1 z.1)]
  · rw [sx_oa (by omega), sx_oa (by omega)]
    unfold st
    by_cases q : j = n
    · rw [if_pos ⟨rfl, q⟩, if_pos q]
    · rw [if_neg (fun z => q z.2), if_neg q]
  · rw [sx_oa (by omega)]
    unfold st
    by_cases q : j = n
    · rw [if_pos ⟨rfl, q⟩, if_pos q]
    · rw [if_neg (fun z => q z.2), if_neg q, if_neg (fun z => by omega)]
/-- the verdict tells of the never that was found -/
def VNc (μ : m_M) (V : Int) (k : Nat) (ix a c code : Int → Int) : Prop := μ V 9 = 0 ∧ μ V 8 = k ∧ μ (V + 5) 0 = 0 ∧ μ (V + 5) 1 = 0 ∧ (k ≠ 0 → (∀ t : Int, 0 ≤ t → t < k → μ (V + 6) t = code (ix t) ∧ μ (V + 7) t = ((a t).natAbs : Int) / gd a k) ∧ W2 (μ (V + 8) 0) (μ (V + 8) 1) = sm (fun t => ((a t).natAbs : Int) / gd a k * c (ix t)) k)
theorem sp_X3_report {Q X : m_Po} {ε : m_E} {μ : m_M} {N B V : Int} {n k : Nat} {h v m c code ix a : Int → Int} (L : LN ε N) (LB' : LB ε B) (L' : LV ε V) (hN : N = B + 11) (hV : V = B + 16) (n48 : n ≤ 48) (W : RC μ B n h v m c) (hcode : ∀ q, μ (B + 5) q = code q) (S : Srch h v m c n k ix a) (e4 : μ N 4 = k) (nf : k ≠ 0 → NFc μ N k ix a c)
    (hh : ∀ μ', FY V μ μ' → VNc μ' V k ix a c code → Q 0 ε μ') : o_X3_report [(2, N), (2, B), (2, V)] ε μ Q X := by
  have k4 := S.k4
  have n48' : (n : Int) ≤ 48 := by omega
  apply e_X3_report
  rw [L.f3.1]
  refine fun _ => ⟨L.k, L'.k, sp_X8_beginNever L' L.f3.2.1 (by omega) (fun μ1 f1 g9 g8 g50 g51 s0 s1 => ?_)⟩
  have loop : ∀ (d t : Nat) (μ2 : m_M), t + d = k → FY V μ μ2 → μ2 V 9 = 0 → μ2 V 8 = t → μ2 (V + 5) 0 = 0 → μ2 (V + 5) 1 = 0 → μ2 (V + 8) 0 = μ (N + 4) 0 → μ2 (V + 8) 1 = μ (N + 4) 1 → (∀ r : Int, 0 ≤ r → r < t → μ2 (V + 6) r = code (ix r) ∧ μ2 (V + 7) r = ((a r).natAbs : Int) / gd a k) → G cd_X3_report Q X 10 [(0, (2, N)), (1, (2, B)), (2, (2, V)), (3, (0, t))] [] ε μ2 := by
    intro d
    induction d with
    | zero =>
      intro t μ2 hd f a1 a2 a3 a4 a5 a6 A
      have ht : t = k := by omega
      subst ht
      have tn : ¬ (t : Int) < t := by omega
      have e4' : μ2 N 4 = t := (f _ _ (by omega)).trans e4
      apply g_X3_report_10
      rw [e4']
      refine fun _ _ => ⟨L.k, fun _ => hh μ2 f ⟨a1, a2, a3, a4, fun z => ⟨A, ?_⟩⟩, fun z => absurd z tn⟩
      rw [a5, a6]
      exact (nf z).2
    | succ d ih =>
      intro t μ2 hd f a1 a2 a3 a4 a5 a6 A
      have t0 : (0 : Int) ≤ t := by omega
      have t1 : (t : Int) < k := by omega
      have t4 : (t : Int) < 4 := by omega
      have tN : ¬ (k : Int) ≤ t := by omega
      have t4' : ¬ (4 : Int) ≤ t := by omega
      have tm : t < 2147483647 := by omega
      have hd' : t + 1 + d = k := by omega
      have e4' : μ2 N 4 = k := (f _ _ (by omega)).trans e4
      have nf' := (nf (by omega)).1 t t0 t1
      have p1 : μ2 (N + 1) t = ix t := (f _ _ (by omega)).trans nf'.1
      have p2 : μ2 (N + 2) t = ((a t).natAbs : Int) / gd a k := (f _ _ (by omega)).trans nf'.2
      have ri := S.ix t t0 t1
      apply g_X3_report_10
      rw [e4', L.f0.1, p1]
      refine fun _ _ => ⟨L.k, fun z => absurd z tN, fun _ => ⟨fun z => absurd z t4', fun _ => ⟨L.f0.2.1, t0, by rw [L.f0.2.2]; exact t4, LB'.k, sp_X1_codeAt LB' (n := n) ((f _ _ (by omega)).trans W.1) ri.1 ri.2 n48' (c := code (ix t)) ((f _ _ (by omega)).trans (hcode _)) ?_⟩⟩⟩
      apply g_X3_report_34
      rw [L.f1.1, p2]
      refine fun _ _ _ => ⟨L.k, L.f1.2.1, t0, by rw [L.f1.2.2]; exact t4, L'.k, sp_X8_keepNever L' a2 t0 t4 (fun μ3 f3 b2 b6 b7 => ?_)⟩
      apply g_X3_report_43
      refine fun _ _ v3 e3 => ?_
      rw [w32_succ tm e3]
      clear e3
      refine ih (t + 1) μ3 hd' (f.trans (fun b j hb => f3 b j (by omega) (by omega) (by omega))) ((f3 _ _ (by omega) (by omega) (by omega)).trans a1) (by rw [b2]; omega) ((f3 _ _ (by omega) (by omega) (by omega)).trans a3) ((f3 _ _ (by omega) (by omega) (by omega)).trans a4) ((f3 _ _ (by omega) (by omega) (by omega)).trans a5) ((f3 _ _ (by omega) (by omega) (by omega)).trans a6) (fun r r0 r1 => ?_)
      rw [b6, b7]
      by_cases q : r = t
      · rw [q, if_pos rfl, if_pos rfl]; exact ⟨rfl, rfl⟩
      · rw [if_neg q, if_neg q]; exact A r r0 (by omega)
  apply g_X3_report_8
  refine fun _ v3 e3 => ?_
  rw [e3]
  exact loop k 0 μ1 (by omega) f1 g9 g8 g50 g51 s0 s1 (fun r r0 r1 => by omega)
