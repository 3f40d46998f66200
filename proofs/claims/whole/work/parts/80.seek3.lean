/-! ===== Corner: seeking ===== -/
theorem sk_loop {Q X : m_Po} {ε : m_E} {μ0 : m_M} {C B f : Int} {n : Nat} {h v m c : Int → Int} (L : LC ε C) (LB' : LB ε B) (hC : C = B + 6) (hn : n ≤ 48) (W0 : RC μ0 B n h v m c) (R : RB h v m c n)
    (h1 : ∀ (μ' : m_M) (i j k s : Int), FK C μ0 μ' → (0 ≤ i ∧ i < n) → (0 ≤ j ∧ j < n) → (0 ≤ k ∧ k < n) → CS μ' C h v m i j k s → Low h v m (gf f) i j k s → (∀ b : Int, 0 ≤ b → b < n → 0 ≤ wc h v m c i j k s b) → Q 1 ε μ')
    (h0 : ∀ μ', FK C μ0 μ' → ¬ Fe h v m c n → Q 0 ε μ') :
    ∀ (d : Nat) (T : List (Nat × Nat × Nat)) (i j k s : Int) (μ : m_M), T.length + d = 17297 → Hs h v m c (gf f) n T i j k s → FK C μ0 μ → CS μ C h v m i j k s → G cd_X2_seek Q X 66 [(0, (2, C)), (1, (2, B)), (2, (0, f)), (3, (0, T.length))] [] ε μ := by
  intro d
  induction d with
  | zero =>
    intro T i j k s μ hd H
    have := hs_len H
    omega
  | succ d ih =>
    intro T i j k s μ hd H F S
    have hl := hs_len H
    have H' := H
    obtain ⟨lo, hi, hj, hk, _⟩ := H'
    have tN : ¬ (20000 : Int) ≤ T.length := by omega
    have tm : T.length < 2147483647 := by omega
    have hd' : T.length + 1 + d = 17297 := by omega
    have W := W0.fk hC F
    apply g_X2_seek_66
    refine fun _ _ _ => ⟨fun z => absurd z tN, fun _ => ⟨L.k, sp_X2_firstBroken L LB' hC hn W R hi hj hk S (fun μ1 f1 ok => ?_) (fun μ1 b f1 b0 b1 hw P => ?_)⟩⟩
    · apply g_X2_seek_78
      refine fun _ _ _ _ v4 e4 => ⟨fun z => absurd e4 z, fun _ => ?_⟩
      exact h1 μ1 i j k s (F.trans (FK.of2 f1)) hi hj hk (S.fr (fun b t _ _ => f1 b t (by omega) (by omega))) lo ok
    · have F1 := F.trans (FK.of2 f1)
      have W1 := W0.fk hC F1
      obtain ⟨⟨e0, e1, e2⟩, _⟩ := S
      apply g_X2_seek_78
      refine fun _ _ _ _ v4 e4 => ⟨fun _ => ⟨L.k, ?_⟩, fun z => by omega⟩
      rw [e4]
      refine sp_X2_takeIn L LB' hC (by omega) W1 R hi hj hk ⟨b0, b1⟩ (by rw [f1 _ _ (by omega) (by omega)]; exact e0) (by rw [f1 _ _ (by omega) (by omega)]; exact e1) (by rw [f1 _ _ (by omega) (by omega)]; exact e2) P lo hw (fun μ2 i' j' k' f2 hi' hj' hk' S' lo' cl => ?_) (fun μ2 f2 p1 p2 p3 => ?_)
      · apply g_X2_seek_96
        refine fun _ _ _ _ => ⟨fun _ v3 e3 => ?_, fun z => absurd z (by decide)⟩
        rw [w32_succ tm e3]
        exact ih (srt i j k :: T) i' j' k' s μ2 (by rw [List.length_cons]; exact hd') (hs_next (by clear e3; omega) H lo' hi' hj' hk' cl) (F1.trans f2) S'
      · apply g_X2_seek_96
        refine fun _ _ _ _ => ⟨fun z => absurd rfl z, fun _ => h0 μ2 (F1.trans f2) ?_⟩
        rintro ⟨x, y, z, w, w0, K⟩
        exact low_none lo.2.1 w0 (K i hi.1 hi.2) (K j hj.1 hj.2) (K k hk.1 hk.2) (K b b0 b1) hw p1 p2 p3
theorem sk_w {n t : Int} (h6 : 6 ≤ n) (h48 : n ≤ 48) (t0 : 0 ≤ t) (t4 : t ≤ 4) : w32 (n - t) = n - t := w32_id (by unfold i32; omega)
theorem sp_X2_seek {Q X : m_Po} {ε : m_E} {μ : m_M} {C B f : Int} {n : Nat} {h v m c : Int → Int} (L : LC ε C) (LB' : LB ε B) (hC : C = B + 6) (hn : n ≤ 48) (W : RC μ B n h v m c) (R : RB h v m c n) (F : FW h v m n) (hf : f = 0 ∨ f = 1)
    (h1 : ∀ (μ' : m_M) (i j k s : Int), FK C μ μ' → (0 ≤ i ∧ i < n) → (0 ≤ j ∧ j < n) → (0 ≤ k ∧ k < n) → CS μ' C h v m i j k s → Low h v m (gf f) i j k s → (∀ b : Int, 0 ≤ b → b < n → 0 ≤ wc h v m c i j k s b) → Q 1 ε μ')
    (h0 : ∀ μ', FK C μ μ' → ¬ Fe h v m c n → Q 0 ε μ') : o_X2_seek [(2, C), (2, B), (0, f)] ε μ Q X := by
  have n6 : (6 : Int) ≤ n := F.1
  have n48 : (n : Int) ≤ 48 := by omega
  have nN : ¬ (48 : Int) < n := by omega
  have nn : ¬ B = C + 1 := by omega
  have hi : 0 ≤ (n : Int) - (if f = 0 then 4 else 3) ∧ (n : Int) - (if f = 0 then 4 else 3) < n := by split <;> omega
  have hj : 0 ≤ (n : Int) - 2 ∧ (n : Int) - 2 < n := by omega
  have hk : (0 : Int) ≤ 1 ∧ (1 : Int) < n := by omega
  have n66 : ¬ (n : Int) < 6 := by omega
  have t4 : 0 ≤ (if f = 0 then (4 : Int) else 3) ∧ (if f = 0 then (4 : Int) else 3) ≤ 4 := by split <;> omega
  have w1 := sk_w n6 n48 t4.1 t4.2
  have w2 := sk_w n6 n48 (t := 2) (by decide) (by decide)
  apply e_X2_seek
  simp only [L.k, L.f0.1, L.f0.2.1, L.f0.2.2, LB'.k, W.1, forall_eq, eq_self, true_and, and_true, Int.reduceLT, Int.le_refl, st, nn, false_and, if_false, w1, w2, n6, n48, nN, n66, false_implies, true_implies]
  clear w1 w2
  intro _ _
  have W3 : RC (st (st (st μ (C + 1) 0 (n - (if f = 0 then 4 else 3))) (C + 1) 1 (n - 2)) (C + 1) 2 1) B n h v m c := W.fr (fun b t _ _ => by rw [sx_oa (by omega), sx_oa (by omega), sx_oa (by omega)])
  have F3 : FK C μ (st (st (st μ (C + 1) 0 (n - (if f = 0 then 4 else 3))) (C + 1) 1 (n - 2)) (C + 1) 2 1) := ((FK.st (by omega)).trans (FK.st (by omega))).trans (FK.st (by omega))
  refine sp_X2_findEdges L LB' hC n48 W3 R hi hj hk (by rw [sx_oi (by decide), sx_oi (by decide), sx_same]) (by rw [sx_oi (by decide), sx_same]) sx_same (fun μ4 s f4 S => ?_)
  apply g_X2_seek_64
  intro _ _ v3 e3
  rw [e3]
  have lo := low_init F S.2.2.2.1 S.2.2.2.2
  exact sk_loop L LB' hC hn W R h1 h0 17297 [] _ _ _ s μ4 rfl (hs_nil lo hi hj hk) (F3.trans (FK.ofC f4)) S
