set_option maxHeartbeats 1000000
/-! ===== rows that a list tells; which rows of stones stand, grow; the order ===== -/
def lat (l : List Rw) (i : Int) : Rw := (l[i.toNat]?).getD (0, 0, 0, 0, 0)
theorem rlg_self (l : List Rw) : RLg l.length (fun i => (lat l i).1) (fun i => (lat l i).2.1) (fun i => (lat l i).2.2.1) (fun i => (lat l i).2.2.2.1) (fun i => (lat l i).2.2.2.2) l := by
  refine ⟨rfl, fun i x hx => ?_⟩
  have : lat l i = x := by unfold lat; rw [Int.toNat_natCast, hx]; rfl
  simp only [this]
  exact ⟨trivial, trivial, trivial, trivial, trivial⟩
def FeL (l : List Rw) : Prop := Fe (fun i => (lat l i).2.1) (fun i => (lat l i).2.2.1) (fun i => (lat l i).2.2.2.1) (fun i => (lat l i).2.2.2.2) l.length
theorem FeL.iff {n : Int} {cd h v m c : Int → Int} {l l' : List Rw} (D : L2 l l') (H : RLg n cd h v m c l') : Fe h v m c n ↔ FeL l := ((D.fe (rlg_self l) H)).symm
theorem L2.sym : ∀ {s t : List Rw}, s = t → L2 s t := fun e => by rw [e]; exact L2.rf
/-- the joints' numbers, as they should be -/
def JJ (σ : m_M) (a i : Int) : Int := match jo σ a (i / 4) with
  | some x => if i % 4 = 0 then x.1 else if i % 4 = 1 then x.2.1 else if i % 4 = 2 then x.2.2.1 else x.2.2.2
  | none => 0
theorem JJ_at {σ : m_M} {a k : Int} {x : Sp} (h : jo σ a k = some x) : JJ σ a (4 * k) = x.1 ∧ JJ σ a (4 * k + 1) = x.2.1 ∧ JJ σ a (4 * k + 2) = x.2.2.1 ∧ JJ σ a (4 * k + 3) = x.2.2.2 := by
  unfold JJ
  rw [show 4 * k / 4 = k by omega, show (4 * k + 1) / 4 = k by omega, show (4 * k + 2) / 4 = k by omega, show (4 * k + 3) / 4 = k by omega, h]
  simp only
  refine ⟨if_pos (by omega), ?_, ?_, ?_⟩
  · rw [if_neg (by omega), if_pos (by omega)]
  · rw [if_neg (by omega), if_neg (by omega), if_pos (by omega)]
  · rw [if_neg (by omega), if_neg (by omega), if_neg (by omega)]
theorem JJ_eq {σ : m_M} {a i : Int} {f : Int → Int} {x : Sp} (i0 : 0 ≤ i) (h : jo σ a (i / 4) = some x) (e : at4 f (4 * (i / 4)) x) : f i = JJ σ a i := by
  obtain ⟨j0, j1, j2, j3⟩ := JJ_at h
  obtain ⟨e0, e1, e2, e3⟩ := e
  have : i = 4 * (i / 4) ∨ i = 4 * (i / 4) + 1 ∨ i = 4 * (i / 4) + 2 ∨ i = 4 * (i / 4) + 3 := by omega
  rcases this with q | q | q | q
  · rw [q, e0, j0]
  · rw [q, e1, j1]
  · rw [q, e2, j2]
  · rw [q, e3, j3]
def skl (σ : m_M) (a i j : Int) : List Rw := gaR σ a (JJ σ a) i (j - i + 2).toNat
/-- the row of stones from i to j stands -/
def Stk (σ : m_M) (a i j : Int) : Prop := FeL (skl σ a i j ++ frm 0)
def grw (σ : m_M) (a : Int) : Nat → Int → Int → Prop
  | 0, i, j => Stk σ a i j
  | d + 1, i, j => Stk σ a i j ∧ ((0 < i ∧ grw σ a d (i - 1) j) ∨ (j < σ 15 a - 1 ∧ grw σ a d i (j + 1)))
/-- the row can grow to the whole -/
def Grw (σ : m_M) (a i j : Int) : Prop := grw σ a (σ 15 a - 1 - (j - i)).toNat i j
theorem Grw.step {σ : m_M} {a i j : Int} (i0 : 0 ≤ i) (ij : i ≤ j) (jn : j < σ 15 a) : Grw σ a i j ↔ Stk σ a i j ∧ ((i = 0 ∧ j = σ 15 a - 1) ∨ (0 < i ∧ Grw σ a (i - 1) j) ∨ (j < σ 15 a - 1 ∧ Grw σ a i (j + 1))) := by
  by_cases w : i = 0 ∧ j = σ 15 a - 1
  · unfold Grw
    rw [show (σ 15 a - 1 - (j - i)).toNat = 0 by omega]
    exact ⟨fun h => ⟨h, Or.inl w⟩, fun h => h.1⟩
  · unfold Grw
    obtain ⟨d, hd⟩ : ∃ d, (σ 15 a - 1 - (j - i)).toNat = d + 1 := ⟨(σ 15 a - 1 - (j - i)).toNat - 1, by omega⟩
    rw [hd, show (σ 15 a - 1 - (j - (i - 1))).toNat = d by omega, show (σ 15 a - 1 - (j + 1 - i)).toNat = d by omega]
    constructor
    · rintro ⟨h1, h2⟩
      exact ⟨h1, Or.inr h2⟩
    · rintro ⟨h1, h2 | h2⟩
      · exact absurd h2 w
      · exact ⟨h1, h2⟩
/-- the order in which the stones go, told by how the row that stands grows -/
def ODw (σ : m_M) (a : Int) (seq I J : Int → Int) (n : Int) : Prop := ∀ t, 1 ≤ t → t < n → ((0 < I (t - 1) ∧ Grw σ a (I (t - 1) - 1) (J (t - 1))) ∧ I t = I (t - 1) - 1 ∧ J t = J (t - 1) ∧ seq t = I t) ∨ (¬ (0 < I (t - 1) ∧ Grw σ a (I (t - 1) - 1) (J (t - 1))) ∧ I t = I (t - 1) ∧ J t = J (t - 1) + 1 ∧ seq t = J t)
def OD (σ : m_M) (a len : Int) (seq : Int → Int) : Prop := (len = 0 ∧ ∀ f, 0 ≤ f → f < σ 15 a → ¬ Grw σ a f f) ∨ (len = σ 15 a ∧ ∃ f I J, 0 ≤ f ∧ f < σ 15 a ∧ Grw σ a f f ∧ (∀ g, 0 ≤ g → g < f → ¬ Grw σ a g g) ∧ I 0 = f ∧ J 0 = f ∧ seq 0 = f ∧ ODw σ a seq I J (σ 15 a))
theorem OD.one {σ : m_M} {a len len' : Int} {seq seq' : Int → Int} (D : OD σ a len seq) (D' : OD σ a len' seq') (n1 : 1 ≤ σ 15 a) : len = len' ∧ ∀ t, 0 ≤ t → t < len → seq t = seq' t := by
  rcases D with ⟨e, no⟩ | ⟨e, f, I, J, f0, f1, g, mi, i0, j0, s0, w⟩ <;> rcases D' with ⟨e', no'⟩ | ⟨e', f', I', J', f0', f1', g', mi', i0', j0', s0', w'⟩
  · exact ⟨by omega, fun t t0 t1 => by omega⟩
  · exact absurd g' (no f' f0' f1')
  · exact absurd g (no' f f0 f1)
  · have ef : f = f' := by
      rcases Int.lt_trichotomy f f' with q | q | q
      · exact absurd g (mi' f f0 q)
      · exact q
      · exact absurd g' (mi f' f0' q)
    have al : ∀ t : Nat, (t : Int) < σ 15 a → I t = I' t ∧ J t = J' t ∧ seq t = seq' t := by
      intro t
      induction t with
      | zero =>
        intro _
        exact ⟨(i0.trans ef).trans i0'.symm, (j0.trans ef).trans j0'.symm, (s0.trans ef).trans s0'.symm⟩
      | succ t ih =>
        intro ht
        obtain ⟨a1, a2, _⟩ := ih (by omega)
        have w1 := w ((t + 1 : Nat) : Int) (by omega) ht
        have w2 := w' ((t + 1 : Nat) : Int) (by omega) ht
        rw [show ((t + 1 : Nat) : Int) - 1 = (t : Int) by omega] at w1 w2
        rw [a1, a2] at w1
        rcases w1 with ⟨c, d1, d2, d3⟩ | ⟨c, d1, d2, d3⟩ <;> rcases w2 with ⟨c', d1', d2', d3'⟩ | ⟨c', d1', d2', d3'⟩
        · exact ⟨d1.trans d1'.symm, d2.trans d2'.symm, by rw [d3, d3', d1, d1']⟩
        · exact absurd c c'
        · exact absurd c' c
        · exact ⟨d1.trans d1'.symm, d2.trans d2'.symm, by rw [d3, d3', d2, d2']⟩
    refine ⟨e.trans e'.symm, fun t t0 t1 => ?_⟩
    have := (al t.toNat (by omega)).2.2
    rw [show ((t.toNat : Nat) : Int) = t by omega] at this
    exact this
theorem ODw.congr {σ : m_M} {a n : Int} {seq seq' I J : Int → Int} (h : ODw σ a seq I J n) (e : ∀ t, 0 ≤ t → t < n → seq' t = seq t) : ODw σ a seq' I J n := fun t t0 t1 => by
  rw [e t (by omega) t1]
  exact h t t0 t1
theorem OD.congr {σ : m_M} {a len len' : Int} {seq seq' : Int → Int} (D : OD σ a len seq) (el : len' = len) (e : ∀ t, 0 ≤ t → t < σ 15 a → seq' t = seq t) (n1 : 1 ≤ σ 15 a) : OD σ a len' seq' := by
  rcases D with ⟨e0, no⟩ | ⟨e0, f, I, J, f0, f1, g, mi, i0, j0, s0, w⟩
  · exact Or.inl ⟨el.trans e0, no⟩
  · exact Or.inr ⟨el.trans e0, f, I, J, f0, f1, g, mi, i0, j0, (e 0 (by decide) (by omega)).trans s0, w.congr e⟩
/-! states that agree on an arch -/
def AGa (σ σ' : m_M) (a ns : Int) : Prop := σ' 15 a = σ 15 a ∧ (∀ p, 0 ≤ p → p < 10 → σ' 16 (10 * a + p) = σ 16 (10 * a + p)) ∧ σ' 17 (2 * a) = σ 17 (2 * a) ∧ σ' 17 (2 * a + 1) = σ 17 (2 * a + 1) ∧ (∀ i, 0 ≤ i → i < 8 → σ' 18 (8 * a + i) = σ 18 (8 * a + i)) ∧ σ' 23 a = σ 23 a ∧ σ' 24 a = σ 24 a ∧ (∀ s, 0 ≤ s → s < ns → σ' 4 s = σ 4 s ∧ σ' 5 s = σ 5 s ∧ σ' 9 s = σ 9 s ∧ σ' 10 s = σ 10 s ∧ ∀ i, 0 ≤ i → i < 12 → σ' 6 (12 * s + i) = σ 6 (12 * s + i) ∧ σ' 7 (12 * s + i) = σ 7 (12 * s + i)) ∧ 1 ≤ σ 15 a ∧ σ 15 a ≤ 10 ∧ (∀ p, 0 ≤ p → p < σ 15 a → σ 16 (10 * a + p) < ns) ∧ (∀ s, 0 ≤ s → s < ns → 3 ≤ σ 5 s ∧ σ 5 s ≤ 12)
theorem AGa.kA' {σ σ' : m_M} {a ns : Int} (A : AGa σ σ' a ns) (p : Int) : kA σ' a p = kA σ a p := by
  obtain ⟨a1, a2, a3, a4, a5, a6, a7, a8, n1, n2, lt, _⟩ := A
  unfold kA
  rw [a1]
  by_cases q : p < 0
  · rw [if_pos q, if_pos q]
  · rw [if_neg q, if_neg q]
    by_cases r : σ 15 a ≤ p
    · rw [if_pos r, if_pos r]
    · rw [if_neg r, if_neg r, a2 p (by omega) (by omega)]
      by_cases z : 0 ≤ σ 16 (10 * a + p)
      · rw [if_pos z, if_pos z, (a8 _ z (lt p (by omega) (by omega))).1]
      · rw [if_neg z, if_neg z]
theorem AGa.fl' {σ σ' : m_M} {a ns : Int} (A : AGa σ σ' a ns) (p : Int) : fl σ' a p = fl σ a p := by
  unfold fl
  rw [A.kA', A.kA']
theorem AGa.spr' {σ σ' : m_M} {a ns : Int} (A : AGa σ σ' a ns) (p : Int) : spr σ' a p = spr σ a p := by
  unfold spr
  rw [A.kA', A.kA', A.1]
theorem AGa.fcn' {σ σ' : m_M} {a ns : Int} (A : AGa σ σ' a ns) {p : Int} (p1 : p ≤ σ 15 a) : fcn σ' a p = fcn σ a p := by
  obtain ⟨a1, a2, a3, a4, a5, a6, a7, a8, n1, n2, lt, _⟩ := A
  unfold fcn
  rw [a1, a3, a4]
  by_cases q : p < 0
  · rw [if_pos q, if_pos q]
  · rw [if_neg q, if_neg q]
    by_cases r : p = σ 15 a
    · rw [if_pos r, if_pos r]
    · rw [if_neg r, if_neg r, a2 p (by omega) (by omega)]
      by_cases z : 0 ≤ σ 16 (10 * a + p)
      · rw [if_pos z, if_pos z, (a8 _ z (lt p (by omega) (by omega))).2.1]
      · rw [if_neg z, if_neg z]
theorem AGa.fA' {σ σ' : m_M} {a ns : Int} (A : AGa σ σ' a ns) {p i w : Int} (p1 : p ≤ σ 15 a) (i0 : 0 ≤ i) (i1 : i < fcn σ a p) (w0 : 0 ≤ w) (w1 : w < 4) : fA σ' a p i w = fA σ a p i w := by
  obtain ⟨a1, a2, a3, a4, a5, a6, a7, a8, n1, n2, lt, sz⟩ := A
  unfold fA
  unfold fcn at i1
  rw [a1]
  by_cases q : p < 0
  · rw [if_pos q, if_pos q, a5 w w0 (by omega)]
  · rw [if_neg q] at i1
    rw [if_neg q, if_neg q]
    by_cases r : p = σ 15 a
    · rw [if_pos r, if_pos r, show 8 * a + 4 + w = 8 * a + (4 + w) by omega, a5 (4 + w) (by omega) (by omega)]
    · rw [if_neg r] at i1
      rw [if_neg r, if_neg r, a2 p (by omega) (by omega)]
      by_cases z : 0 ≤ σ 16 (10 * a + p)
      · rw [if_pos z] at i1
        have l := lt p (by omega) (by omega)
        obtain ⟨_, b2, _, _, b5⟩ := a8 _ z l
        obtain ⟨s3, s12⟩ := sz _ z l
        rw [b2]
        have t0 : 0 ≤ (if 2 ≤ w then (i + 1) % σ 5 (σ 16 (10 * a + p)) else i) ∧ (if 2 ≤ w then (i + 1) % σ 5 (σ 16 (10 * a + p)) else i) < 12 := by
          split
          · have := Int.emod_nonneg (i + 1) (show σ 5 (σ 16 (10 * a + p)) ≠ 0 by omega)
            have := Int.emod_lt_of_pos (i + 1) (show 0 < σ 5 (σ 16 (10 * a + p)) by omega)
            omega
          · omega
        obtain ⟨c1, c2⟩ := b5 _ t0.1 t0.2
        rw [c1, c2]
      · rw [if_neg z] at i1; omega
theorem AGa.jo' {σ σ' : m_M} {a ns : Int} (A : AGa σ σ' a ns) {k : Int} (k0 : 0 ≤ k) (k1 : k ≤ σ 15 a) : jo σ' a k = jo σ a k := by
  unfold jo
  rw [A.fcn' k1, A.fcn' (show k - 1 ≤ σ 15 a by omega)]
  refine fs_congr _ _ (fun i i0 i1 => fs_congr _ _ (fun j j0 j1 => ?_))
  unfold jf
  have h1 : ∀ w, 0 ≤ w → w < 4 → fA σ' a (k - 1) i w = fA σ a (k - 1) i w := fun w w0 w1 => A.fA' (by omega) i0 (by omega) w0 w1
  have h2 : ∀ w, 0 ≤ w → w < 4 → fA σ' a k j w = fA σ a k j w := fun w w0 w1 => A.fA' k1 j0 (by omega) w0 w1
  rw [h1 0 (by decide) (by decide), h1 1 (by decide) (by decide), h1 2 (by decide) (by decide), h1 3 (by decide) (by decide), h2 0 (by decide) (by decide), h2 1 (by decide) (by decide), h2 2 (by decide) (by decide), h2 3 (by decide) (by decide)]
theorem gs_congr {ne fa J sl W T ne' fa' J' sl' W' T' : Int → Int} {p q i0 : Int} : ∀ t : Nat, (∀ d : Nat, d < t → ne' (i0 + d) = ne (i0 + d) ∧ fa' (i0 + d) = fa (i0 + d) ∧ sl' (i0 + d) = sl (i0 + d) ∧ W' (i0 + d) = W (i0 + d) ∧ T' (i0 + d) = T (i0 + d)) → (∀ i, 4 * i0 ≤ i → i < 4 * (i0 + t) → J' i = J i) → gs ne' fa' J' sl' W' T' p q i0 t = gs ne fa J sl W T p q i0 t := by
  intro t
  induction t with
  | zero => intro _ _; rfl
  | succ t ih =>
    intro h hJ
    show gs ne' fa' J' sl' W' T' p q i0 t ++ gj ne' fa' J' sl' W' T' p q (i0 + t) = gs ne fa J sl W T p q i0 t ++ gj ne fa J sl W T p q (i0 + t)
    rw [ih (fun d hd => h d (by omega)) (fun i i1 i2 => hJ i i1 (by omega))]
    obtain ⟨e1, e2, e3, e4, e5⟩ := h t (by omega)
    unfold gj
    rw [e1, e2, e3, e4, e5, hJ (4 * (i0 + t)) (by omega) (by omega), hJ (4 * (i0 + t) + 1) (by omega) (by omega), hJ (4 * (i0 + t) + 2) (by omega) (by omega), hJ (4 * (i0 + t) + 3) (by omega) (by omega)]
theorem wf0_congr {σ σ' : m_M} {a ns i0 k : Int} (A : AGa σ σ' a ns) (i00 : 0 ≤ i0) (hk : k ≤ σ 15 a) (hp : ∀ p, i0 ≤ p → p < k → 0 ≤ σ 16 (10 * a + p)) : Wf σ' a 0 i0 k = Wf σ a 0 i0 k ∧ Tf σ' a 0 i0 k = Tf σ a 0 i0 k := by
  obtain ⟨a1, a2, a3, a4, a5, a6, a7, a8, n1, n2, lt, _⟩ := A
  unfold Wf Tf cwt
  rw [if_pos rfl, if_pos rfl, if_pos rfl, if_pos rfl]
  constructor
  · rw [sm_congr (k - i0).toNat (g := fun d => σ 9 (σ 16 (10 * a + (i0 + d)))) (fun t t0 t1 => ?_)]
    have := a2 (i0 + t) (by omega) (by omega)
    simp only [this]
    exact (a8 _ (hp _ (by omega) (by omega)) (lt _ (by omega) (by omega))).2.2.1
  · rw [sm_congr (k - i0).toNat (g := fun d => σ 9 (σ 16 (10 * a + (i0 + d))) * σ 10 (σ 16 (10 * a + (i0 + d)))) (fun t t0 t1 => ?_)]
    have := a2 (i0 + t) (by omega) (by omega)
    simp only [this]
    obtain ⟨_, _, c1, c2, _⟩ := a8 _ (hp _ (by omega) (by omega)) (lt (i0 + t) (by omega) (by omega))
    rw [c1, c2]
theorem AGa.JJ' {σ σ' : m_M} {a ns : Int} (A : AGa σ σ' a ns) {i : Int} (i0 : 0 ≤ i) (i1 : i < 4 * (σ 15 a + 1)) : JJ σ' a i = JJ σ a i := by
  unfold JJ
  rw [A.jo' (by omega) (by omega)]
theorem AGa.skl' {σ σ' : m_M} {a ns : Int} (A : AGa σ σ' a ns) {i j : Int} (i0 : 0 ≤ i) (ij : i ≤ j) (jn : j < σ 15 a) (hp : ∀ p, 0 ≤ p → p < σ 15 a → 0 ≤ σ 16 (10 * a + p)) : skl σ' a i j = skl σ a i j := by
  unfold skl gaR
  rw [A.2.2.2.2.2.1, A.2.2.2.2.2.2.1]
  refine gs_congr _ (fun d hd => ?_) (fun t t0 t1 => A.JJ' (by omega) (by omega))
  have w := wf0_congr (i0 := i) (k := i + d) A i0 (by omega) (fun p p0 p1 => hp p (by omega) (by omega))
  refine ⟨?_, ?_, ?_, w.1, w.2⟩
  · unfold neR allR inR; rw [A.fl']
  · unfold inR; rw [A.fl']
  · unfold slR; rw [A.spr']
theorem AGa.stk' {σ σ' : m_M} {a ns : Int} (A : AGa σ σ' a ns) {i j : Int} (i0 : 0 ≤ i) (ij : i ≤ j) (jn : j < σ 15 a) (hp : ∀ p, 0 ≤ p → p < σ 15 a → 0 ≤ σ 16 (10 * a + p)) : Stk σ' a i j ↔ Stk σ a i j := by
  unfold Stk; rw [A.skl' i0 ij jn hp]
theorem AGa.grw' {σ σ' : m_M} {a ns : Int} (A : AGa σ σ' a ns) (hp : ∀ p, 0 ≤ p → p < σ 15 a → 0 ≤ σ 16 (10 * a + p)) : ∀ (d : Nat) (i j : Int), 0 ≤ i → i ≤ j → j < σ 15 a → (grw σ' a d i j ↔ grw σ a d i j) := by
  intro d
  induction d with
  | zero => intro i j i0 ij jn; exact A.stk' i0 ij jn hp
  | succ d ih =>
    intro i j i0 ij jn
    show (Stk σ' a i j ∧ _) ↔ (Stk σ a i j ∧ _)
    rw [A.stk' i0 ij jn hp, A.1]
    have h1 : (0 < i ∧ grw σ' a d (i - 1) j) ↔ (0 < i ∧ grw σ a d (i - 1) j) := ⟨fun h => ⟨h.1, (ih (i - 1) j (by omega) (by omega) jn).mp h.2⟩, fun h => ⟨h.1, (ih (i - 1) j (by omega) (by omega) jn).mpr h.2⟩⟩
    have h2 : (j < σ 15 a - 1 ∧ grw σ' a d i (j + 1)) ↔ (j < σ 15 a - 1 ∧ grw σ a d i (j + 1)) := ⟨fun h => ⟨h.1, (ih i (j + 1) i0 (by omega) (by omega)).mp h.2⟩, fun h => ⟨h.1, (ih i (j + 1) i0 (by omega) (by omega)).mpr h.2⟩⟩
    rw [h1, h2]
theorem AGa.Grw' {σ σ' : m_M} {a ns : Int} (A : AGa σ σ' a ns) (hp : ∀ p, 0 ≤ p → p < σ 15 a → 0 ≤ σ 16 (10 * a + p)) {i j : Int} (i0 : 0 ≤ i) (ij : i ≤ j) (jn : j < σ 15 a) : Grw σ' a i j ↔ Grw σ a i j := by
  unfold Grw
  rw [A.1]
  exact A.grw' hp _ i j i0 ij jn
