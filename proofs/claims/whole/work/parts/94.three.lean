/-! ===== the reference's pairs, whole; Never: threes ===== -/
theorem sp_X12_pairs {Q X : m_Po} {ε : m_E} {μ : m_M} {M : Int} {n : Nat} {h v m c code R : Int → Int} (n48 : n ≤ 48) (B : RB h v m c n) (nz : NZ h v m n) (H : RG ε μ M R) (W : RW μ M n h v m c) (hcode : ∀ q, μ (M + 30) q = code q)
    (h1 : ∀ (μ' : m_M) (R' : Int → Int) (i j : Int), RG ε μ' M R' → FNs M μ μ' → (∀ s, ¬ tme s → s < 92 → R' s = R s) → Fst2 (Pr2 h v m c) n i j → NMc μ' M R' 2 (ix2 i j) (a2 h v m i j) c code → Q 1 ε μ')
    (h0 : ∀ μ' R', RG ε μ' M R' → FNs M μ μ' → μ' M 59 = μ M 59 → (∀ s, ¬ tme s → R' s = R s) → No2 (Pr2 h v m c) n → Q 0 ε μ') : o_X12_pairs [(2, M)] ε μ Q X := by
  have loop : ∀ (d i : Nat) (μ1 : m_M) (R1 : Int → Int), i + d = n → RG ε μ1 M R1 → FNs M μ μ1 → μ1 M 59 = μ M 59 → (∀ s, ¬ tme s → R1 s = R s) → (∀ a b : Int, 0 ≤ a → a < b → b < n → a < i → ¬ Pr2 h v m c a b) → G cd_X12_pairs Q X 2 [(0, (2, M)), (1, (0, i))] [] ε μ1 := by
    intro d
    induction d with
    | zero =>
      intro i μ1 R1 hd H1 f f59 fr hb
      have e : i = n := by omega
      subst e
      have W1 := W.fns f
      have jn : ¬ (i : Int) < i := by omega
      apply g_X12_pairs_2
      rw [W1.1]
      exact fun _ _ => ⟨H1.1.k, fun _ => h0 μ1 R1 H1 f f59 fr (fun a b a0 ab' bn => hb a b a0 ab' bn (by omega)), fun z => absurd z jn⟩
    | succ d ih =>
      intro i μ1 R1 hd H1 f f59 fr hb
      have W1 := W.fns f
      have iN : ¬ (n : Int) ≤ i := by omega
      have im : i < 2147483647 := by omega
      have hd' : i + 1 + d = n := by omega
      have hi : i < n := by omega
      apply g_X12_pairs_2
      rw [W1.1]
      refine fun _ _ => ⟨H1.1.k, fun z => absurd z iN, fun _ v2 e2 => ?_⟩
      rw [w32_succ im e2]
      clear e2
      refine p2_in n48 B nz hi (μ0 := μ1) (R0 := R1) W1 (fun q => (f _ q (nbc (by decide)) (by omega) (by omega) (by omega) (by omega)).trans (hcode q)) hb (fun μ2 R2 H2 f2 g59 fr2 hk => ih (i + 1) μ2 R2 hd' H2 (f.trans f2) (g59.trans f59) (fun s s1 => (fr2 s s1).trans (fr s s1)) (fun a b a0 ab' bn q => ?_)) (fun μ2 R2 i' j' H2 f2 fr2 F nf => h1 μ2 R2 i' j' H2 (f.trans f2) (fun s s1 s2 => (fr2 s s1 s2).trans (fr s s1)) F nf) d (i + 1) μ1 R1 hd' (by omega) H1 FNs.rf rfl (fun _ _ => rfl) (fun b b0 b1 => by omega)
      by_cases q2 : a = i
      · rw [q2]; exact hk b (by omega) bn
      · exact hb a b a0 ab' bn (by omega)
  apply e_X12_pairs
  intro _ v1 e1
  rw [e1]
  exact loop n 0 μ R (by omega) H FNs.rf rfl (fun _ _ => rfl) (fun a b a0 _ _ q => by omega)
/-- one part of a cross, told by the first that is not 0 of i and j -/
def cx (h v m : Int → Int) (i j p q : Int) : Int := if crH v m i j = 0 then (if crV h m i j = 0 then crM h v p q else crV h m p q) else -(crH v m p q)
def ix3 (i j k : Int) : Int → Int := fun t => if t = 0 then i else if t = 1 then j else k
def a3 (h v m : Int → Int) (i j k : Int) : Int → Int := fun t => if t = 0 then cx h v m i j j k else if t = 1 then cx h v m i j k i else cx h v m i j i j
def Pr3 (h v m c : Int → Int) (i j k : Int) : Prop := ¬ par h v m i j ∧ dt3 h v m i j k = 0 ∧ OKc 3 (ix3 i j k) (a3 h v m i j k) c
theorem vol_dt (h v m : Int → Int) (i j k : Int) : crH v m i j * h k + crV h m i j * v k + crM h v i j * m k = dt3 h v m i j k := by
  rw [dt3_rot h v m k i j]
  unfold dt3
  grind
theorem cx_bd {h v m c : Int → Int} {n i j p q : Int} (R : RB h v m c n) (hp : 0 ≤ p ∧ p < n) (hq : 0 ≤ q ∧ q < n) : bd (cx h v m i j p q) 41 := by
  obtain ⟨a1, a2, a3, a4⟩ := R p hp.1 hp.2
  obtain ⟨b1, b2, b3, b4⟩ := R q hq.1 hq.2
  have x0 : bd (crH v m p q) 41 := cr_bd a2 b3 a3 b2
  have x1 : bd (crV h m p q) 41 := cr_bd a3 b1 a1 b3
  have x2 : bd (crM h v p q) 41 := cr_bd a1 b2 a2 b1
  unfold cx
  split
  · split <;> assumption
  · exact bd_neg x0
theorem sp_X3_pickThree {Q X : m_Po} {ε : m_E} {μ : m_M} {N B n i j k : Int} {h v m c : Int → Int} (L : LN ε N) (LB' : LB ε B) (hN : N = B + 11) (n48 : n ≤ 48) (W : RC μ B n h v m c) (R : RB h v m c n) (hi : 0 ≤ i ∧ i < n) (hj : 0 ≤ j ∧ j < n) (hk : 0 ≤ k ∧ k < n) (x5 : μ N 5 = crH v m i j) (x6 : μ N 6 = crV h m i j)
    (hh : ∀ μ', Ex2 (N + 1) (N + 2) μ μ' → (∀ t : Int, 0 ≤ t → t < 3 → μ' (N + 1) t = ix3 i j k t ∧ μ' (N + 2) t = a3 h v m i j k t) → Q 0 ε μ') : o_X3_pickThree [(2, N), (2, B), (0, i), (0, j), (0, k)] ε μ Q X := by
  obtain ⟨a1, a2, a3', a4⟩ := R i hi.1 hi.2
  obtain ⟨b1, b2, b3, b4⟩ := R j hj.1 hj.2
  obtain ⟨d1, d2, d3, d4⟩ := R k hk.1 hk.2
  have i1 : i < 48 := by omega
  have j1 : j < 48 := by omega
  have k1 : k < 48 := by omega
  have hi0 := hi.1
  have hj0 := hj.1
  have hk0 := hk.1
  -- the two rows that are taken
  have key : ∀ (one oth : Int) (f g : Int → Int), kd ε one = 101 → ln ε one = 48 → kd ε oth = 101 → ln ε oth = 48 → B + 1 ≤ one → one ≤ B + 3 → B + 1 ≤ oth → oth ≤ B + 3 → (∀ t, μ one t = f t) → (∀ t, μ oth t = g t) → (bd (f i) 20 ∧ bd (f j) 20 ∧ bd (f k) 20) → (bd (g i) 20 ∧ bd (g j) 20 ∧ bd (g k) 20) → (∀ p q, f p * g q - g p * f q = cx h v m i j p q) →
      (if μ N 5 = 0 then if μ N 6 = 0 then fn ε B 0 else fn ε B 2 else fn ε B 2) = one → (if μ N 5 = 0 then if μ N 6 = 0 then fn ε B 1 else fn ε B 0 else fn ε B 1) = oth → o_X3_pickThree [(2, N), (2, B), (0, i), (0, j), (0, k)] ε μ Q X := by
    intro one oth f g o1 o2 o3 o4 o5 o6 o7 o8 ef eg bf bg cxe e1 e2
    have s1 : w64 (w64 (f j * g k) - w64 (g j * f k)) = cx h v m i j j k := by rw [w64_sub (bd_mul bf.2.1 bg.2.2) (bd_mul bg.2.1 bf.2.2), cxe]
    have s2 : w64 (w64 (f k * g i) - w64 (g k * f i)) = cx h v m i j k i := by rw [w64_sub (bd_mul bf.2.2 bg.1) (bd_mul bg.2.2 bf.1), cxe]
    have s3 : w64 (w64 (f i * g j) - w64 (g i * f j)) = cx h v m i j i j := by rw [w64_sub (bd_mul bf.1 bg.2.1) (bd_mul bg.1 bf.2.1), cxe]
    apply e_X3_pickThree
    simp only [L.k, LB'.k, forall_eq, eq_self, true_and, and_true, and_self, implies_true, e1, e2, o1, o2, o3, o4, i1, j1, k1, hi0, hj0, hk0, ef, eg, s1]
    refine fun _ _ _ _ => sp_X3_pick L (by decide) (by decide) (fun μ1 f1 p1 q1 => ?_)
    have ef1 : ∀ t, μ1 one t = f t := fun t => (f1 _ _ (by clear s1 s2 s3; omega) (by clear s1 s2 s3; omega)).trans (ef t)
    have eg1 : ∀ t, μ1 oth t = g t := fun t => (f1 _ _ (by clear s1 s2 s3; omega) (by clear s1 s2 s3; omega)).trans (eg t)
    apply g_X3_pickThree_96
    simp only [L.k, eq_self, true_and, o1, o2, o3, o4, i1, j1, k1, hi0, hj0, hk0, ef1, eg1, s2]
    refine fun _ _ _ _ => sp_X3_pick L (by decide) (by decide) (fun μ2 f2 p2 q2 => ?_)
    have ef2 : ∀ t, μ2 one t = f t := fun t => (f2 _ _ (by clear s1 s2 s3; omega) (by clear s1 s2 s3; omega)).trans (ef1 t)
    have eg2 : ∀ t, μ2 oth t = g t := fun t => (f2 _ _ (by clear s1 s2 s3; omega) (by clear s1 s2 s3; omega)).trans (eg1 t)
    apply g_X3_pickThree_123
    simp only [L.k, eq_self, true_and, o1, o2, o3, o4, i1, j1, k1, hi0, hj0, hk0, ef2, eg2, s3]
    refine fun _ _ _ _ => sp_X3_pick L (by decide) (by decide) (fun μ3 f3 p3 q3 => ?_)
    apply g_X3_pickThree_149
    clear s1 s2 s3
    refine fun _ => hh μ3 ((f1.trans f2).trans f3) (fun t t0 t1 => ?_)
    have : t = 0 ∨ t = 1 ∨ t = 2 := by omega
    rcases this with rfl | rfl | rfl
    · rw [p3, q3, if_neg (by decide), if_neg (by decide), p2, q2, if_neg (by decide), if_neg (by decide), p1, q1, if_pos rfl, if_pos rfl]
      exact ⟨rfl, rfl⟩
    · rw [p3, q3, if_neg (by decide), if_neg (by decide), p2, q2, if_pos rfl, if_pos rfl]
      exact ⟨rfl, rfl⟩
    · rw [p3, q3, if_pos rfl, if_pos rfl]
      exact ⟨rfl, rfl⟩
  by_cases z5 : crH v m i j = 0
  · by_cases z6 : crV h m i j = 0
    · refine key (B + 1) (B + 2) h v LB'.f0.2.1 LB'.f0.2.2 LB'.f1.2.1 LB'.f1.2.2 (by omega) (by omega) (by omega) (by omega) W.2.1 W.2.2.1 ⟨a1, b1, d1⟩ ⟨a2, b2, d2⟩ (fun p q => ?_) (by rw [x5, x6, if_pos z5, if_pos z6, LB'.f0.1]) (by rw [x5, x6, if_pos z5, if_pos z6, LB'.f1.1])
      unfold cx
      rw [if_pos z5, if_pos z6]; rfl
    · refine key (B + 3) (B + 1) m h LB'.f2.2.1 LB'.f2.2.2 LB'.f0.2.1 LB'.f0.2.2 (by omega) (by omega) (by omega) (by omega) W.2.2.2.1 W.2.1 ⟨a3', b3, d3⟩ ⟨a1, b1, d1⟩ (fun p q => ?_) (by rw [x5, x6, if_pos z5, if_neg z6, LB'.f2.1]) (by rw [x5, x6, if_pos z5, if_neg z6, LB'.f0.1])
      unfold cx
      rw [if_pos z5, if_neg z6]; rfl
  · refine key (B + 3) (B + 2) m v LB'.f2.2.1 LB'.f2.2.2 LB'.f1.2.1 LB'.f1.2.2 (by omega) (by omega) (by omega) (by omega) W.2.2.2.1 W.2.2.1 ⟨a3', b3, d3⟩ ⟨a2, b2, d2⟩ (fun p q => ?_) (by rw [x5, if_neg z5, LB'.f2.1]) (by rw [x5, if_neg z5, LB'.f1.1])
    unfold cx
    rw [if_neg z5]
    unfold crH
    omega
