/-! ===== jumps, switches, returns ===== -/
section Tm
variable {l : Launch} {bs : Nat} {D : va_G} {Da : Nat → ClassId} {own : String} {cc : ByteArray} {nL : Nat} {rt : Option FieldType} {R : Room} {ex : List ExceptionTableEntry} {nm : String} {Q X : m_Po} {B : Nat × Nat} {pc : Nat} {K : m_K} {a : Nat}
theorem AW_bud {B' : Nat × Nat} {q : Nat} (h : B.1 ≤ B'.1 ∧ B.2 ≤ B'.2) {k : m_C} (hk : Le k (AW l bs D Da own cc nL rt R ex nm Q X B' q)) : Le k (AW l bs D Da own cc nL rt R ex nm Q X B q) :=
  fun ls st ε μ hh p e s m args below meth c H locs cells slots A F hS hc hs hl hst hA hR => hk ls st ε μ hh p e s m args below meth c H locs cells slots A F hS (Nat.le_trans hc h.1) (Nat.le_trans hs h.2) hl hst hA hR
/-- at a block's start only the live locals are kept -/
def m_lv (live : Nat → List Nat) (K : m_K) : m_K := fun q ls st ε μ => K q (m_keep (live q) ls) st ε μ
theorem AW_live {live : Nat → List Nat} {q : Nat} (hk : Le (K q) (AW l bs D Da own cc nL rt R ex nm Q X B q)) : Le (m_lv live K q) (AW l bs D Da own cc nL rt R ex nm Q X B q) :=
  fun ls st ε μ hh p e s m args below meth c H locs cells slots A F hS hc hs hl hst hA hR => hk _ st ε μ hh p e s m args below meth c H locs cells slots A F hS hc hs (fun z hz => hl z (m_keep_mem hz)) hst (m_sub hA (fun z hz => m_keep_mem hz)) hR
def j_go (K : m_K) (a : Nat) : m_C := K a
def j_if (p q : Int → Prop) (K : m_K) (a b : Nat) : m_C := fun ls st ε μ => match st with
  | (0, x) :: r => (p x → K a ls r ε μ) ∧ (q x → K b ls r ε μ)
  | _ => False
def j_cm (p q : Int → Int → Prop) (K : m_K) (a b : Nat) : m_C := fun ls st ε μ => match st with
  | (0, y) :: (0, x) :: r => (p x y → K a ls r ε μ) ∧ (q x y → K b ls r ε μ)
  | _ => False
def j_lc (p q : Int → Int → Prop) (K : m_K) (a b : Nat) : m_C := fun ls st ε μ => match st with
  | (1, y) :: (1, x) :: r => (p x y → K a ls r ε μ) ∧ (q x y → K b ls r ε μ)
  | _ => False
def j_nu (K : m_K) (a b : Nat) : m_C := fun ls st ε μ => match st with
  | (2, x) :: r => (x = 0 → K a ls r ε μ) ∧ (0 < x → K b ls r ε μ)
  | _ => False
def j_swl (K : m_K) (ls : m_L) (r : m_S) (ε : m_E) (μ : m_M) (x : Int) : Int → List Nat → Prop
  | _, [] => True
  | lo, a :: t => (x = lo → K a ls r ε μ) ∧ j_swl K ls r ε μ x (lo + 1) t
def j_sw (lo hi : Int) (ts : List Nat) (d : Nat) (K : m_K) : m_C := fun ls st ε μ => match st with
  | (0, x) :: r => j_swl K ls r ε μ x lo ts ∧ (x < lo ∨ hi < x → K d ls r ε μ)
  | _ => False
def j_rv (Q : m_Po) : m_C := fun _ _ ε μ => Q 0 ε μ
def j_r (t : Nat) (Q : m_Po) : m_C := fun _ st ε μ => match st with
  | [(u, x)] => cond (Nat.beq u t) (Q x ε μ) False
  | _ => False
def j_rz (Q : m_Po) : m_C := fun _ st ε μ => match st with
  | [(0, x)] => (x = 0 ∨ x = 1) ∧ Q x ε μ
  | _ => False
theorem ok_go {off : Int} (hd : decode cc pc = .ok (.goto off, 3)) (ht : (pc : Int) + off = (a : Int)) (h1 : Le (K a) (AW l bs D Da own cc nL rt R ex nm Q X B a)) : Le (j_go K a) (AW l bs D Da own cc nL rt R ex nm Q X B pc) := by
  intro ls st ε μ h p e s m args below meth c H locs cells slots A F hS hc hs hl hst hA hR
  refine lv_goto F.1 F.2.1 hd ht ?_
  exact h1 _ _ _ _ h p e s m args below meth c H locs cells slots A F hS hc hs hl hst hA hR
theorem v_lc (x y : Int) (hx : i64 x) (hy : i64 y) : lg_cmp (Int64.ofInt x) (Int64.ofInt y) = Int32.ofInt (if x < y then -1 else if x = y then 0 else 1) := by
  unfold lg_cmp
  have h1 := v_lt64 hy hx
  have h2 := v_eq64 hx hy
  by_cases a : y < x
  · rw [if_pos (h1.mpr a), if_neg (by omega), if_neg (by omega)]; rfl
  · rw [if_neg (fun z => a (h1.mp z))]
    by_cases b : x = y
    · rw [if_pos (h2.mpr b), if_neg (by omega), if_pos b]; rfl
    · rw [if_neg (fun z => b (h2.mp z)), if_pos (by omega)]; rfl
theorem ok_if_eq {off : Int} (hd : decode cc pc = .ok (.ifCond .eq off, 3)) (ht : (pc : Int) + off = (a : Int)) (h1 : Le (K a) (AW l bs D Da own cc nL rt R ex nm Q X B (a))) (h2 : Le (K (pc + 3)) (AW l bs D Da own cc nL rt R ex nm Q X B (pc + 3))) : Le (j_if (fun x => x = 0) (fun x => x ≠ 0) K a (pc + 3)) (AW l bs D Da own cc nL rt R ex nm Q X B (pc)) := by
  intro ls st ε μ h p e s m args below meth c H locs cells slots A F hS hc hs hl hst hA hR
  unfold j_if at h
  split at h
  · rename_i x r
    have hx : i32 x := m_a1 hst
    have h0 : i32 0 := by unfold i32; omega
    refine lv_if_eq (x := Int32.ofInt x) F.1 F.2.1 hd ht (fun z => ?_) (fun z => ?_)
    · exact h1 _ _ _ _ (h.1 ((v_eq32 hx h0).mp z)) p e s m args below meth c H locs cells slots A F hS hc hs hl (m_a2 hst) hA hR
    · exact h2 _ _ _ _ (h.2 (fun e => z ((v_eq32 hx h0).mpr e))) p e s m args below meth c H locs cells slots A F hS hc hs hl (m_a2 hst) hA hR
  · exact h.elim
theorem ok_if_ne {off : Int} (hd : decode cc pc = .ok (.ifCond .ne off, 3)) (ht : (pc : Int) + off = (a : Int)) (h1 : Le (K a) (AW l bs D Da own cc nL rt R ex nm Q X B (a))) (h2 : Le (K (pc + 3)) (AW l bs D Da own cc nL rt R ex nm Q X B (pc + 3))) : Le (j_if (fun x => x ≠ 0) (fun x => x = 0) K a (pc + 3)) (AW l bs D Da own cc nL rt R ex nm Q X B (pc)) := by
  intro ls st ε μ h p e s m args below meth c H locs cells slots A F hS hc hs hl hst hA hR
  unfold j_if at h
  split at h
  · rename_i x r
    have hx : i32 x := m_a1 hst
    have h0 : i32 0 := by unfold i32; omega
    refine lv_if_ne (x := Int32.ofInt x) F.1 F.2.1 hd ht (fun z => ?_) (fun z => ?_)
    · exact h1 _ _ _ _ (h.1 (fun e => z ((v_eq32 hx h0).mpr e))) p e s m args below meth c H locs cells slots A F hS hc hs hl (m_a2 hst) hA hR
    · exact h2 _ _ _ _ (h.2 ((v_eq32 hx h0).mp z)) p e s m args below meth c H locs cells slots A F hS hc hs hl (m_a2 hst) hA hR
  · exact h.elim
theorem ok_if_lt {off : Int} (hd : decode cc pc = .ok (.ifCond .lt off, 3)) (ht : (pc : Int) + off = (a : Int)) (h1 : Le (K a) (AW l bs D Da own cc nL rt R ex nm Q X B (a))) (h2 : Le (K (pc + 3)) (AW l bs D Da own cc nL rt R ex nm Q X B (pc + 3))) : Le (j_if (fun x => x < 0) (fun x => 0 ≤ x) K a (pc + 3)) (AW l bs D Da own cc nL rt R ex nm Q X B (pc)) := by
  intro ls st ε μ h p e s m args below meth c H locs cells slots A F hS hc hs hl hst hA hR
  unfold j_if at h
  split at h
  · rename_i x r
    have hx : i32 x := m_a1 hst
    have h0 : i32 0 := by unfold i32; omega
    refine lv_if_lt (x := Int32.ofInt x) F.1 F.2.1 hd ht (fun z => ?_) (fun z => ?_)
    · exact h1 _ _ _ _ (h.1 ((v_lt32 hx h0).mp z)) p e s m args below meth c H locs cells slots A F hS hc hs hl (m_a2 hst) hA hR
    · exact h2 _ _ _ _ (h.2 (Int.not_lt.mp (fun e => z ((v_lt32 hx h0).mpr e)))) p e s m args below meth c H locs cells slots A F hS hc hs hl (m_a2 hst) hA hR
  · exact h.elim
theorem ok_if_ge {off : Int} (hd : decode cc pc = .ok (.ifCond .ge off, 3)) (ht : (pc : Int) + off = (a : Int)) (h1 : Le (K a) (AW l bs D Da own cc nL rt R ex nm Q X B (a))) (h2 : Le (K (pc + 3)) (AW l bs D Da own cc nL rt R ex nm Q X B (pc + 3))) : Le (j_if (fun x => 0 ≤ x) (fun x => x < 0) K a (pc + 3)) (AW l bs D Da own cc nL rt R ex nm Q X B (pc)) := by
  intro ls st ε μ h p e s m args below meth c H locs cells slots A F hS hc hs hl hst hA hR
  unfold j_if at h
  split at h
  · rename_i x r
    have hx : i32 x := m_a1 hst
    have h0 : i32 0 := by unfold i32; omega
    refine lv_if_ge (x := Int32.ofInt x) F.1 F.2.1 hd ht (fun z => ?_) (fun z => ?_)
    · exact h1 _ _ _ _ (h.1 ((v_le32 h0 hx).mp z)) p e s m args below meth c H locs cells slots A F hS hc hs hl (m_a2 hst) hA hR
    · exact h2 _ _ _ _ (h.2 (Int.not_le.mp (fun e => z ((v_le32 h0 hx).mpr e)))) p e s m args below meth c H locs cells slots A F hS hc hs hl (m_a2 hst) hA hR
  · exact h.elim
theorem ok_if_gt {off : Int} (hd : decode cc pc = .ok (.ifCond .gt off, 3)) (ht : (pc : Int) + off = (a : Int)) (h1 : Le (K a) (AW l bs D Da own cc nL rt R ex nm Q X B (a))) (h2 : Le (K (pc + 3)) (AW l bs D Da own cc nL rt R ex nm Q X B (pc + 3))) : Le (j_if (fun x => 0 < x) (fun x => x ≤ 0) K a (pc + 3)) (AW l bs D Da own cc nL rt R ex nm Q X B (pc)) := by
  intro ls st ε μ h p e s m args below meth c H locs cells slots A F hS hc hs hl hst hA hR
  unfold j_if at h
  split at h
  · rename_i x r
    have hx : i32 x := m_a1 hst
    have h0 : i32 0 := by unfold i32; omega
    refine lv_if_gt (x := Int32.ofInt x) F.1 F.2.1 hd ht (fun z => ?_) (fun z => ?_)
    · exact h1 _ _ _ _ (h.1 ((v_lt32 h0 hx).mp z)) p e s m args below meth c H locs cells slots A F hS hc hs hl (m_a2 hst) hA hR
    · exact h2 _ _ _ _ (h.2 (Int.not_lt.mp (fun e => z ((v_lt32 h0 hx).mpr e)))) p e s m args below meth c H locs cells slots A F hS hc hs hl (m_a2 hst) hA hR
  · exact h.elim
theorem ok_if_le {off : Int} (hd : decode cc pc = .ok (.ifCond .le off, 3)) (ht : (pc : Int) + off = (a : Int)) (h1 : Le (K a) (AW l bs D Da own cc nL rt R ex nm Q X B (a))) (h2 : Le (K (pc + 3)) (AW l bs D Da own cc nL rt R ex nm Q X B (pc + 3))) : Le (j_if (fun x => x ≤ 0) (fun x => 0 < x) K a (pc + 3)) (AW l bs D Da own cc nL rt R ex nm Q X B (pc)) := by
  intro ls st ε μ h p e s m args below meth c H locs cells slots A F hS hc hs hl hst hA hR
  unfold j_if at h
  split at h
  · rename_i x r
    have hx : i32 x := m_a1 hst
    have h0 : i32 0 := by unfold i32; omega
    refine lv_if_le (x := Int32.ofInt x) F.1 F.2.1 hd ht (fun z => ?_) (fun z => ?_)
    · exact h1 _ _ _ _ (h.1 ((v_le32 hx h0).mp z)) p e s m args below meth c H locs cells slots A F hS hc hs hl (m_a2 hst) hA hR
    · exact h2 _ _ _ _ (h.2 (Int.not_le.mp (fun e => z ((v_le32 hx h0).mpr e)))) p e s m args below meth c H locs cells slots A F hS hc hs hl (m_a2 hst) hA hR
  · exact h.elim
theorem ok_cm_eq {off : Int} (hd : decode cc pc = .ok (.if_icmp .eq off, 3)) (ht : (pc : Int) + off = (a : Int)) (h1 : Le (K a) (AW l bs D Da own cc nL rt R ex nm Q X B (a))) (h2 : Le (K (pc + 3)) (AW l bs D Da own cc nL rt R ex nm Q X B (pc + 3))) : Le (j_cm (fun x y => x = y) (fun x y => x ≠ y) K a (pc + 3)) (AW l bs D Da own cc nL rt R ex nm Q X B (pc)) := by
  intro ls st ε μ h p e s m args below meth c H locs cells slots A F hS hc hs hl hst hA hR
  unfold j_cm at h
  split at h
  · rename_i y x r
    have hy : i32 y := m_a1 hst
    have hx : i32 x := m_a1 (m_a2 hst)
    refine lv_icmp_eq (x := Int32.ofInt x) (y := Int32.ofInt y) F.1 F.2.1 hd ht (fun z => ?_) (fun z => ?_)
    · exact h1 _ _ _ _ (h.1 ((v_eq32 hx hy).mp z)) p e s m args below meth c H locs cells slots A F hS hc hs hl (m_a2 (m_a2 hst)) hA hR
    · exact h2 _ _ _ _ (h.2 (fun e => z ((v_eq32 hx hy).mpr e))) p e s m args below meth c H locs cells slots A F hS hc hs hl (m_a2 (m_a2 hst)) hA hR
  · exact h.elim
theorem ok_lc_eq {off : Int} (hd : decode cc pc = .ok (.lcmp, 1)) (hd2 : decode cc (pc + 1) = .ok (.ifCond .eq off, 3)) (ht : ((pc + 1 : Nat) : Int) + off = (a : Int)) (h1 : Le (K a) (AW l bs D Da own cc nL rt R ex nm Q X B (a))) (h2 : Le (K (pc + 4)) (AW l bs D Da own cc nL rt R ex nm Q X B (pc + 4))) : Le (j_lc (fun x y => x = y) (fun x y => x ≠ y) K a (pc + 4)) (AW l bs D Da own cc nL rt R ex nm Q X B (pc)) := by
  intro ls st ε μ h p e s m args below meth c H locs cells slots A F hS hc hs hl hst hA hR
  unfold j_lc at h
  split at h
  · rename_i y x r
    have hy : i64 y := m_a1 hst
    have hx : i64 x := m_a1 (m_a2 hst)
    have h0 : i32 0 := by unfold i32; omega
    refine W.lcmp (x := Int64.ofInt x) (y := Int64.ofInt y) F.1 F.2.1 hd ?_
    rw [v_lc x y hx hy]
    obtain ⟨v, ev⟩ : ∃ v : Int, v = (if x < y then -1 else if x = y then 0 else 1) := ⟨_, rfl⟩
    rw [← ev]
    have ev' : (x < y ∧ v = -1) ∨ (x = y ∧ v = 0) ∨ (y < x ∧ v = 1) := by
      by_cases a1 : x < y
      · exact Or.inl ⟨a1, by rw [ev, if_pos a1]⟩
      · by_cases a2 : x = y
        · exact Or.inr (Or.inl ⟨a2, by rw [ev, if_neg a1, if_pos a2]⟩)
        · exact Or.inr (Or.inr ⟨by omega, by rw [ev, if_neg a1, if_neg a2]⟩)
    have hv : i32 v := by unfold i32; omega
    refine lv_if_eq (x := Int32.ofInt v) F.1 F.2.1 hd2 ht (fun z => ?_) (fun z => ?_)
    · have h9 : v = 0 := ((v_eq32 hv h0).mp z)
      exact h1 _ _ _ _ (h.1 (by omega)) p e s m args below meth c H locs cells slots A F hS hc hs hl (m_a2 (m_a2 hst)) hA hR
    · have h9 : v ≠ 0 := (fun e => z ((v_eq32 hv h0).mpr e))
      exact h2 _ _ _ _ (h.2 (by omega)) p e s m args below meth c H locs cells slots A F hS hc hs hl (m_a2 (m_a2 hst)) hA hR
  · exact h.elim
theorem ok_cm_ne {off : Int} (hd : decode cc pc = .ok (.if_icmp .ne off, 3)) (ht : (pc : Int) + off = (a : Int)) (h1 : Le (K a) (AW l bs D Da own cc nL rt R ex nm Q X B (a))) (h2 : Le (K (pc + 3)) (AW l bs D Da own cc nL rt R ex nm Q X B (pc + 3))) : Le (j_cm (fun x y => x ≠ y) (fun x y => x = y) K a (pc + 3)) (AW l bs D Da own cc nL rt R ex nm Q X B (pc)) := by
  intro ls st ε μ h p e s m args below meth c H locs cells slots A F hS hc hs hl hst hA hR
  unfold j_cm at h
  split at h
  · rename_i y x r
    have hy : i32 y := m_a1 hst
    have hx : i32 x := m_a1 (m_a2 hst)
    refine lv_icmp_ne (x := Int32.ofInt x) (y := Int32.ofInt y) F.1 F.2.1 hd ht (fun z => ?_) (fun z => ?_)
    · exact h1 _ _ _ _ (h.1 (fun e => z ((v_eq32 hx hy).mpr e))) p e s m args below meth c H locs cells slots A F hS hc hs hl (m_a2 (m_a2 hst)) hA hR
    · exact h2 _ _ _ _ (h.2 ((v_eq32 hx hy).mp z)) p e s m args below meth c H locs cells slots A F hS hc hs hl (m_a2 (m_a2 hst)) hA hR
  · exact h.elim
theorem ok_lc_ne {off : Int} (hd : decode cc pc = .ok (.lcmp, 1)) (hd2 : decode cc (pc + 1) = .ok (.ifCond .ne off, 3)) (ht : ((pc + 1 : Nat) : Int) + off = (a : Int)) (h1 : Le (K a) (AW l bs D Da own cc nL rt R ex nm Q X B (a))) (h2 : Le (K (pc + 4)) (AW l bs D Da own cc nL rt R ex nm Q X B (pc + 4))) : Le (j_lc (fun x y => x ≠ y) (fun x y => x = y) K a (pc + 4)) (AW l bs D Da own cc nL rt R ex nm Q X B (pc)) := by
  intro ls st ε μ h p e s m args below meth c H locs cells slots A F hS hc hs hl hst hA hR
  unfold j_lc at h
  split at h
  · rename_i y x r
    have hy : i64 y := m_a1 hst
    have hx : i64 x := m_a1 (m_a2 hst)
    have h0 : i32 0 := by unfold i32; omega
    refine W.lcmp (x := Int64.ofInt x) (y := Int64.ofInt y) F.1 F.2.1 hd ?_
    rw [v_lc x y hx hy]
    obtain ⟨v, ev⟩ : ∃ v : Int, v = (if x < y then -1 else if x = y then 0 else 1) := ⟨_, rfl⟩
    rw [← ev]
    have ev' : (x < y ∧ v = -1) ∨ (x = y ∧ v = 0) ∨ (y < x ∧ v = 1) := by
      by_cases a1 : x < y
      · exact Or.inl ⟨a1, by rw [ev, if_pos a1]⟩
      · by_cases a2 : x = y
        · exact Or.inr (Or.inl ⟨a2, by rw [ev, if_neg a1, if_pos a2]⟩)
        · exact Or.inr (Or.inr ⟨by omega, by rw [ev, if_neg a1, if_neg a2]⟩)
    have hv : i32 v := by unfold i32; omega
    refine lv_if_ne (x := Int32.ofInt v) F.1 F.2.1 hd2 ht (fun z => ?_) (fun z => ?_)
    · have h9 : v ≠ 0 := (fun e => z ((v_eq32 hv h0).mpr e))
      exact h1 _ _ _ _ (h.1 (by omega)) p e s m args below meth c H locs cells slots A F hS hc hs hl (m_a2 (m_a2 hst)) hA hR
    · have h9 : v = 0 := ((v_eq32 hv h0).mp z)
      exact h2 _ _ _ _ (h.2 (by omega)) p e s m args below meth c H locs cells slots A F hS hc hs hl (m_a2 (m_a2 hst)) hA hR
  · exact h.elim
theorem ok_cm_lt {off : Int} (hd : decode cc pc = .ok (.if_icmp .lt off, 3)) (ht : (pc : Int) + off = (a : Int)) (h1 : Le (K a) (AW l bs D Da own cc nL rt R ex nm Q X B (a))) (h2 : Le (K (pc + 3)) (AW l bs D Da own cc nL rt R ex nm Q X B (pc + 3))) : Le (j_cm (fun x y => x < y) (fun x y => y ≤ x) K a (pc + 3)) (AW l bs D Da own cc nL rt R ex nm Q X B (pc)) := by
  intro ls st ε μ h p e s m args below meth c H locs cells slots A F hS hc hs hl hst hA hR
  unfold j_cm at h
  split at h
  · rename_i y x r
    have hy : i32 y := m_a1 hst
    have hx : i32 x := m_a1 (m_a2 hst)
    refine lv_icmp_lt (x := Int32.ofInt x) (y := Int32.ofInt y) F.1 F.2.1 hd ht (fun z => ?_) (fun z => ?_)
    · exact h1 _ _ _ _ (h.1 ((v_lt32 hx hy).mp z)) p e s m args below meth c H locs cells slots A F hS hc hs hl (m_a2 (m_a2 hst)) hA hR
    · exact h2 _ _ _ _ (h.2 (Int.not_lt.mp (fun e => z ((v_lt32 hx hy).mpr e)))) p e s m args below meth c H locs cells slots A F hS hc hs hl (m_a2 (m_a2 hst)) hA hR
  · exact h.elim
theorem ok_lc_lt {off : Int} (hd : decode cc pc = .ok (.lcmp, 1)) (hd2 : decode cc (pc + 1) = .ok (.ifCond .lt off, 3)) (ht : ((pc + 1 : Nat) : Int) + off = (a : Int)) (h1 : Le (K a) (AW l bs D Da own cc nL rt R ex nm Q X B (a))) (h2 : Le (K (pc + 4)) (AW l bs D Da own cc nL rt R ex nm Q X B (pc + 4))) : Le (j_lc (fun x y => x < y) (fun x y => y ≤ x) K a (pc + 4)) (AW l bs D Da own cc nL rt R ex nm Q X B (pc)) := by
  intro ls st ε μ h p e s m args below meth c H locs cells slots A F hS hc hs hl hst hA hR
  unfold j_lc at h
  split at h
  · rename_i y x r
    have hy : i64 y := m_a1 hst
    have hx : i64 x := m_a1 (m_a2 hst)
    have h0 : i32 0 := by unfold i32; omega
    refine W.lcmp (x := Int64.ofInt x) (y := Int64.ofInt y) F.1 F.2.1 hd ?_
    rw [v_lc x y hx hy]
    obtain ⟨v, ev⟩ : ∃ v : Int, v = (if x < y then -1 else if x = y then 0 else 1) := ⟨_, rfl⟩
    rw [← ev]
    have ev' : (x < y ∧ v = -1) ∨ (x = y ∧ v = 0) ∨ (y < x ∧ v = 1) := by
      by_cases a1 : x < y
      · exact Or.inl ⟨a1, by rw [ev, if_pos a1]⟩
      · by_cases a2 : x = y
        · exact Or.inr (Or.inl ⟨a2, by rw [ev, if_neg a1, if_pos a2]⟩)
        · exact Or.inr (Or.inr ⟨by omega, by rw [ev, if_neg a1, if_neg a2]⟩)
    have hv : i32 v := by unfold i32; omega
    refine lv_if_lt (x := Int32.ofInt v) F.1 F.2.1 hd2 ht (fun z => ?_) (fun z => ?_)
    · have h9 : v < 0 := ((v_lt32 hv h0).mp z)
      exact h1 _ _ _ _ (h.1 (by omega)) p e s m args below meth c H locs cells slots A F hS hc hs hl (m_a2 (m_a2 hst)) hA hR
    · have h9 : 0 ≤ v := (Int.not_lt.mp (fun e => z ((v_lt32 hv h0).mpr e)))
      exact h2 _ _ _ _ (h.2 (by omega)) p e s m args below meth c H locs cells slots A F hS hc hs hl (m_a2 (m_a2 hst)) hA hR
  · exact h.elim
theorem ok_cm_ge {off : Int} (hd : decode cc pc = .ok (.if_icmp .ge off, 3)) (ht : (pc : Int) + off = (a : Int)) (h1 : Le (K a) (AW l bs D Da own cc nL rt R ex nm Q X B (a))) (h2 : Le (K (pc + 3)) (AW l bs D Da own cc nL rt R ex nm Q X B (pc + 3))) : Le (j_cm (fun x y => y ≤ x) (fun x y => x < y) K a (pc + 3)) (AW l bs D Da own cc nL rt R ex nm Q X B (pc)) := by
  intro ls st ε μ h p e s m args below meth c H locs cells slots A F hS hc hs hl hst hA hR
  unfold j_cm at h
  split at h
  · rename_i y x r
    have hy : i32 y := m_a1 hst
    have hx : i32 x := m_a1 (m_a2 hst)
    refine lv_icmp_ge (x := Int32.ofInt x) (y := Int32.ofInt y) F.1 F.2.1 hd ht (fun z => ?_) (fun z => ?_)
    · exact h1 _ _ _ _ (h.1 ((v_le32 hy hx).mp z)) p e s m args below meth c H locs cells slots A F hS hc hs hl (m_a2 (m_a2 hst)) hA hR
    · exact h2 _ _ _ _ (h.2 (Int.not_le.mp (fun e => z ((v_le32 hy hx).mpr e)))) p e s m args below meth c H locs cells slots A F hS hc hs hl (m_a2 (m_a2 hst)) hA hR
  · exact h.elim
theorem ok_lc_ge {off : Int} (hd : decode cc pc = .ok (.lcmp, 1)) (hd2 : decode cc (pc + 1) = .ok (.ifCond .ge off, 3)) (ht : ((pc + 1 : Nat) : Int) + off = (a : Int)) (h1 : Le (K a) (AW l bs D Da own cc nL rt R ex nm Q X B (a))) (h2 : Le (K (pc + 4)) (AW l bs D Da own cc nL rt R ex nm Q X B (pc + 4))) : Le (j_lc (fun x y => y ≤ x) (fun x y => x < y) K a (pc + 4)) (AW l bs D Da own cc nL rt R ex nm Q X B (pc)) := by
  intro ls st ε μ h p e s m args below meth c H locs cells slots A F hS hc hs hl hst hA hR
  unfold j_lc at h
  split at h
  · rename_i y x r
    have hy : i64 y := m_a1 hst
    have hx : i64 x := m_a1 (m_a2 hst)
    have h0 : i32 0 := by unfold i32; omega
    refine W.lcmp (x := Int64.ofInt x) (y := Int64.ofInt y) F.1 F.2.1 hd ?_
    rw [v_lc x y hx hy]
    obtain ⟨v, ev⟩ : ∃ v : Int, v = (if x < y then -1 else if x = y then 0 else 1) := ⟨_, rfl⟩
    rw [← ev]
    have ev' : (x < y ∧ v = -1) ∨ (x = y ∧ v = 0) ∨ (y < x ∧ v = 1) := by
      by_cases a1 : x < y
      · exact Or.inl ⟨a1, by rw [ev, if_pos a1]⟩
      · by_cases a2 : x = y
        · exact Or.inr (Or.inl ⟨a2, by rw [ev, if_neg a1, if_pos a2]⟩)
        · exact Or.inr (Or.inr ⟨by omega, by rw [ev, if_neg a1, if_neg a2]⟩)
    have hv : i32 v := by unfold i32; omega
    refine lv_if_ge (x := Int32.ofInt v) F.1 F.2.1 hd2 ht (fun z => ?_) (fun z => ?_)
    · have h9 : 0 ≤ v := ((v_le32 h0 hv).mp z)
      exact h1 _ _ _ _ (h.1 (by omega)) p e s m args below meth c H locs cells slots A F hS hc hs hl (m_a2 (m_a2 hst)) hA hR
    · have h9 : v < 0 := (Int.not_le.mp (fun e => z ((v_le32 h0 hv).mpr e)))
      exact h2 _ _ _ _ (h.2 (by omega)) p e s m args below meth c H locs cells slots A F hS hc hs hl (m_a2 (m_a2 hst)) hA hR
  · exact h.elim
theorem ok_cm_gt {off : Int} (hd : decode cc pc = .ok (.if_icmp .gt off, 3)) (ht : (pc : Int) + off = (a : Int)) (h1 : Le (K a) (AW l bs D Da own cc nL rt R ex nm Q X B (a))) (h2 : Le (K (pc + 3)) (AW l bs D Da own cc nL rt R ex nm Q X B (pc + 3))) : Le (j_cm (fun x y => y < x) (fun x y => x ≤ y) K a (pc + 3)) (AW l bs D Da own cc nL rt R ex nm Q X B (pc)) := by
  intro ls st ε μ h p e s m args below meth c H locs cells slots A F hS hc hs hl hst hA hR
  unfold j_cm at h
  split at h
  · rename_i y x r
    have hy : i32 y := m_a1 hst
    have hx : i32 x := m_a1 (m_a2 hst)
    refine lv_icmp_gt (x := Int32.ofInt x) (y := Int32.ofInt y) F.1 F.2.1 hd ht (fun z => ?_) (fun z => ?_)
    · exact h1 _ _ _ _ (h.1 ((v_lt32 hy hx).mp z)) p e s m args below meth c H locs cells slots A F hS hc hs hl (m_a2 (m_a2 hst)) hA hR
    · exact h2 _ _ _ _ (h.2 (Int.not_lt.mp (fun e => z ((v_lt32 hy hx).mpr e)))) p e s m args below meth c H locs cells slots A F hS hc hs hl (m_a2 (m_a2 hst)) hA hR
  · exact h.elim
theorem ok_lc_gt {off : Int} (hd : decode cc pc = .ok (.lcmp, 1)) (hd2 : decode cc (pc + 1) = .ok (.ifCond .gt off, 3)) (ht : ((pc + 1 : Nat) : Int) + off = (a : Int)) (h1 : Le (K a) (AW l bs D Da own cc nL rt R ex nm Q X B (a))) (h2 : Le (K (pc + 4)) (AW l bs D Da own cc nL rt R ex nm Q X B (pc + 4))) : Le (j_lc (fun x y => y < x) (fun x y => x ≤ y) K a (pc + 4)) (AW l bs D Da own cc nL rt R ex nm Q X B (pc)) := by
  intro ls st ε μ h p e s m args below meth c H locs cells slots A F hS hc hs hl hst hA hR
  unfold j_lc at h
  split at h
  · rename_i y x r
    have hy : i64 y := m_a1 hst
    have hx : i64 x := m_a1 (m_a2 hst)
    have h0 : i32 0 := by unfold i32; omega
    refine W.lcmp (x := Int64.ofInt x) (y := Int64.ofInt y) F.1 F.2.1 hd ?_
    rw [v_lc x y hx hy]
    obtain ⟨v, ev⟩ : ∃ v : Int, v = (if x < y then -1 else if x = y then 0 else 1) := ⟨_, rfl⟩
    rw [← ev]
    have ev' : (x < y ∧ v = -1) ∨ (x = y ∧ v = 0) ∨ (y < x ∧ v = 1) := by
      by_cases a1 : x < y
      · exact Or.inl ⟨a1, by rw [ev, if_pos a1]⟩
      · by_cases a2 : x = y
        · exact Or.inr (Or.inl ⟨a2, by rw [ev, if_neg a1, if_pos a2]⟩)
        · exact Or.inr (Or.inr ⟨by omega, by rw [ev, if_neg a1, if_neg a2]⟩)
    have hv : i32 v := by unfold i32; omega
    refine lv_if_gt (x := Int32.ofInt v) F.1 F.2.1 hd2 ht (fun z => ?_) (fun z => ?_)
    · have h9 : 0 < v := ((v_lt32 h0 hv).mp z)
      exact h1 _ _ _ _ (h.1 (by omega)) p e s m args below meth c H locs cells slots A F hS hc hs hl (m_a2 (m_a2 hst)) hA hR
    · have h9 : v ≤ 0 := (Int.not_lt.mp (fun e => z ((v_lt32 h0 hv).mpr e)))
      exact h2 _ _ _ _ (h.2 (by omega)) p e s m args below meth c H locs cells slots A F hS hc hs hl (m_a2 (m_a2 hst)) hA hR
  · exact h.elim
theorem ok_cm_le {off : Int} (hd : decode cc pc = .ok (.if_icmp .le off, 3)) (ht : (pc : Int) + off = (a : Int)) (h1 : Le (K a) (AW l bs D Da own cc nL rt R ex nm Q X B (a))) (h2 : Le (K (pc + 3)) (AW l bs D Da own cc nL rt R ex nm Q X B (pc + 3))) : Le (j_cm (fun x y => x ≤ y) (fun x y => y < x) K a (pc + 3)) (AW l bs D Da own cc nL rt R ex nm Q X B (pc)) := by
  intro ls st ε μ h p e s m args below meth c H locs cells slots A F hS hc hs hl hst hA hR
  unfold j_cm at h
  split at h
  · rename_i y x r
    have hy : i32 y := m_a1 hst
    have hx : i32 x := m_a1 (m_a2 hst)
    refine lv_icmp_le (x := Int32.ofInt x) (y := Int32.ofInt y) F.1 F.2.1 hd ht (fun z => ?_) (fun z => ?_)
    · exact h1 _ _ _ _ (h.1 ((v_le32 hx hy).mp z)) p e s m args below meth c H locs cells slots A F hS hc hs hl (m_a2 (m_a2 hst)) hA hR
    · exact h2 _ _ _ _ (h.2 (Int.not_le.mp (fun e => z ((v_le32 hx hy).mpr e)))) p e s m args below meth c H locs cells slots A F hS hc hs hl (m_a2 (m_a2 hst)) hA hR
  · exact h.elim
theorem ok_lc_le {off : Int} (hd : decode cc pc = .ok (.lcmp, 1)) (hd2 : decode cc (pc + 1) = .ok (.ifCond .le off, 3)) (ht : ((pc + 1 : Nat) : Int) + off = (a : Int)) (h1 : Le (K a) (AW l bs D Da own cc nL rt R ex nm Q X B (a))) (h2 : Le (K (pc + 4)) (AW l bs D Da own cc nL rt R ex nm Q X B (pc + 4))) : Le (j_lc (fun x y => x ≤ y) (fun x y => y < x) K a (pc + 4)) (AW l bs D Da own cc nL rt R ex nm Q X B (pc)) := by
  intro ls st ε μ h p e s m args below meth c H locs cells slots A F hS hc hs hl hst hA hR
  unfold j_lc at h
  split at h
  · rename_i y x r
    have hy : i64 y := m_a1 hst
    have hx : i64 x := m_a1 (m_a2 hst)
    have h0 : i32 0 := by unfold i32; omega
    refine W.lcmp (x := Int64.ofInt x) (y := Int64.ofInt y) F.1 F.2.1 hd ?_
    rw [v_lc x y hx hy]
    obtain ⟨v, ev⟩ : ∃ v : Int, v = (if x < y then -1 else if x = y then 0 else 1) := ⟨_, rfl⟩
    rw [← ev]
    have ev' : (x < y ∧ v = -1) ∨ (x = y ∧ v = 0) ∨ (y < x ∧ v = 1) := by
      by_cases a1 : x < y
      · exact Or.inl ⟨a1, by rw [ev, if_pos a1]⟩
      · by_cases a2 : x = y
        · exact Or.inr (Or.inl ⟨a2, by rw [ev, if_neg a1, if_pos a2]⟩)
        · exact Or.inr (Or.inr ⟨by omega, by rw [ev, if_neg a1, if_neg a2]⟩)
    have hv : i32 v := by unfold i32; omega
    refine lv_if_le (x := Int32.ofInt v) F.1 F.2.1 hd2 ht (fun z => ?_) (fun z => ?_)
    · have h9 : v ≤ 0 := ((v_le32 hv h0).mp z)
      exact h1 _ _ _ _ (h.1 (by omega)) p e s m args below meth c H locs cells slots A F hS hc hs hl (m_a2 (m_a2 hst)) hA hR
    · have h9 : 0 < v := (Int.not_le.mp (fun e => z ((v_le32 hv h0).mpr e)))
      exact h2 _ _ _ _ (h.2 (by omega)) p e s m args below meth c H locs cells slots A F hS hc hs hl (m_a2 (m_a2 hst)) hA hR
  · exact h.elim
theorem ok_ifnull {off : Int} (hd : decode cc pc = .ok (.ifnull off, 3)) (ht : (pc : Int) + off = (a : Int)) (h1 : Le (K a) (AW l bs D Da own cc nL rt R ex nm Q X B (a))) (h2 : Le (K (pc + 3)) (AW l bs D Da own cc nL rt R ex nm Q X B (pc + 3))) : Le (j_nu K (a) (pc + 3)) (AW l bs D Da own cc nL rt R ex nm Q X B (pc)) := by
  intro ls st ε μ h p e s m args below meth c H locs cells slots A F hS hc hs hl hst hA hR
  unfold j_nu at h
  split at h
  · rename_i x r
    have hx : 0 ≤ x := m_a1 hst
    rw [List.map_cons]
    by_cases hz : x ≤ 0
    · rw [show m_cv (2, x) = Value.null from if_pos hz]
      refine lv_ifnullN F.1 F.2.1 hd ht ?_
      exact h1 _ _ _ _ (h.1 (by omega)) p e s m args below meth c H locs cells slots A F hS hc hs hl (m_a2 hst) hA hR
    · rw [show m_cv (2, x) = Value.ref (x - 1).toNat from if_neg hz]
      refine lv_ifnull F.1 F.2.1 hd ?_
      exact h2 _ _ _ _ (h.2 (by omega)) p e s m args below meth c H locs cells slots A F hS hc hs hl (m_a2 hst) hA hR
  · exact h.elim
theorem ok_ifnonnull {off : Int} (hd : decode cc pc = .ok (.ifnonnull off, 3)) (ht : (pc : Int) + off = (a : Int)) (h1 : Le (K a) (AW l bs D Da own cc nL rt R ex nm Q X B (a))) (h2 : Le (K (pc + 3)) (AW l bs D Da own cc nL rt R ex nm Q X B (pc + 3))) : Le (j_nu K (pc + 3) (a)) (AW l bs D Da own cc nL rt R ex nm Q X B (pc)) := by
  intro ls st ε μ h p e s m args below meth c H locs cells slots A F hS hc hs hl hst hA hR
  unfold j_nu at h
  split at h
  · rename_i x r
    have hx : 0 ≤ x := m_a1 hst
    rw [List.map_cons]
    by_cases hz : x ≤ 0
    · rw [show m_cv (2, x) = Value.null from if_pos hz]
      refine lv_ifnonnullN F.1 F.2.1 hd ?_
      exact h2 _ _ _ _ (h.1 (by omega)) p e s m args below meth c H locs cells slots A F hS hc hs hl (m_a2 hst) hA hR
    · rw [show m_cv (2, x) = Value.ref (x - 1).toNat from if_neg hz]
      refine lv_ifnonnull F.1 F.2.1 hd ht ?_
      exact h1 _ _ _ _ (h.2 (by omega)) p e s m args below meth c H locs cells slots A F hS hc hs hl (m_a2 hst) hA hR
  · exact h.elim
theorem j_swl_at {K : m_K} {ls : m_L} {r : m_S} {ε : m_E} {μ : m_M} {x : Int} : ∀ {lo : Int} {ts : List Nat} (_ : j_swl K ls r ε μ x lo ts) {i : Nat} {a : Nat}, ts[i]? = some a → x = lo + i → K a ls r ε μ
  | _, [], _, _, _, h, _ => by simp at h
  | lo, b :: t, h, 0, a, hi, hx => by
    have e : b = a := by simpa using hi
    rw [← e]
    exact h.1 (by simpa using hx)
  | lo, b :: t, h, i + 1, a, hi, hx => j_swl_at h.2 (i := i) (by simpa using hi) (by rw [hx]; push_cast; omega)
theorem ok_sw {dflt lo hi : Int} {offs : Array Int} {len d : Nat} {ts : List Nat} (hd : decode cc pc = .ok (.tableswitch dflt lo hi offs, len)) (hdf : (pc : Int) + dflt = (d : Int)) (hts : offs.toList.map (fun z => (pc : Int) + z) = ts.map (fun z : Nat => (z : Int))) (hn : hi + 1 = lo + ts.length) (h1 : ∀ q ∈ d :: ts, Le (K q) (AW l bs D Da own cc nL rt R ex nm Q X B (q))) : Le (j_sw lo hi ts d K) (AW l bs D Da own cc nL rt R ex nm Q X B (pc)) := by
  intro ls st ε μ h p e s m args below meth c H locs cells slots A F hS hc hs hl hst hA hR
  unfold j_sw at h
  split at h
  · rename_i x r
    have hx : i32 x := m_a1 hst
    have e1 : (Int32.ofInt x).toInt = x := by rw [of32, w32_id hx]
    by_cases hz : x < lo ∨ hi < x
    · refine lv_tableOut (x := Int32.ofInt x) F.1 F.2.1 hd (by rw [e1]; exact hz) hdf ?_
      exact h1 d List.mem_cons_self _ _ _ _ (h.2 hz) p e s m args below meth c H locs cells slots A F hS hc hs hl (m_a2 hst) hA hR
    · have hlt : (x - lo).toNat < ts.length := by omega
      have hlen : offs.toList.length = ts.length := by have := congrArg List.length hts; simpa using this
      have ho : offs[(x - lo).toNat]? = some (offs.toList[(x - lo).toNat]'(by omega)) := by
        rw [← Array.getElem?_toList, List.getElem?_eq_getElem]
      have e2 : (pc : Int) + offs.toList[(x - lo).toNat]'(by omega) = ((ts[(x - lo).toNat]'hlt : Nat) : Int) := by
        have h5 : (offs.toList.map (fun z => (pc : Int) + z))[(x - lo).toNat]? = (ts.map (fun z : Nat => (z : Int)))[(x - lo).toNat]? := by rw [hts]
        rw [List.getElem?_map, List.getElem?_map, List.getElem?_eq_getElem (by omega), List.getElem?_eq_getElem hlt] at h5
        exact Option.some.inj h5
      refine lv_tableIn (x := Int32.ofInt x) F.1 F.2.1 hd (by rw [e1]; omega) (by rw [e1]; omega) (by rw [e1]; exact ho) e2 ?_
      exact h1 _ (List.mem_cons_of_mem _ (List.getElem_mem hlt)) _ _ _ _ (j_swl_at h.1 (i := (x - lo).toNat) (List.getElem?_eq_getElem hlt) (by omega)) p e s m args below meth c H locs cells slots A F hS hc hs hl (m_a2 hst) hA hR
  · exact h.elim
theorem ok_vret (hB : B.1 ≤ R.cells ∧ B.2 ≤ R.slots) (hrt : rt = none) (hd : decode cc pc = .ok (.return_, 1)) (hst0 : True) : Le (fun ls st ε μ => match st with
  | [] => j_rv Q ls st ε μ
  | _ => False) (AW l bs D Da own cc nL rt R ex nm Q X B (pc)) := by
  intro ls st ε μ h p e s m args below meth c H locs cells slots A F hS hc hs hl hst hA hR
  split at h
  · refine W.widen (k := R.cells) (n := R.slots) (Nat.le_trans hc hB.1) (Nat.le_trans hs hB.2) ?_
    subst hrt
    refine vx_ret (W.vret F.1 F.2.1 F.2.2.2.1 (fun t ht hW => ?_) hS.2.2 hd F.2.2.2.2.1)
    exact ⟨0, ε, μ, rfl, trivial, h, HR.moved hW.alike (by rw [ht]; exact hR), hS.F ht⟩
  · exact h.elim
theorem ok_iret (hB : B.1 ≤ R.cells ∧ B.2 ≤ R.slots) (hrt : rt = some .int) (hd : decode cc pc = .ok (.ireturn, 1)) : Le (j_r 0 Q) (AW l bs D Da own cc nL rt R ex nm Q X B (pc)) := by
  intro ls st ε μ h p e s m args below meth c H locs cells slots A F hS hc hs hl hst hA hR
  unfold j_r at h
  split at h
  · rename_i u x
    cases hb : Nat.beq u 0 with
    | false => simp only [hb, cond_false] at h
    | true =>
      simp only [hb, cond_true] at h
      have ht : u = 0 := Nat.eq_of_beq_eq_true hb
      subst ht
      refine W.widen (k := R.cells) (n := R.slots) (Nat.le_trans hc hB.1) (Nat.le_trans hs hB.2) ?_
      subst hrt
      refine vx_ret (W.iret F.1 F.2.1 F.2.2.2.1  (fun t ht hW => ?_) hS.2.2 hd F.2.2.2.2.1)
      exact ⟨x, ε, μ, rfl, m_a1 hst, h, HR.moved hW.alike (by rw [ht]; exact hR), hS.F ht⟩
  · exact h.elim
theorem ok_lret (hB : B.1 ≤ R.cells ∧ B.2 ≤ R.slots) (hrt : rt = some .long) (hd : decode cc pc = .ok (.lreturn, 1)) : Le (j_r 1 Q) (AW l bs D Da own cc nL rt R ex nm Q X B (pc)) := by
  intro ls st ε μ h p e s m args below meth c H locs cells slots A F hS hc hs hl hst hA hR
  unfold j_r at h
  split at h
  · rename_i u x
    cases hb : Nat.beq u 1 with
    | false => simp only [hb, cond_false] at h
    | true =>
      simp only [hb, cond_true] at h
      have ht : u = 1 := Nat.eq_of_beq_eq_true hb
      subst ht
      refine W.widen (k := R.cells) (n := R.slots) (Nat.le_trans hc hB.1) (Nat.le_trans hs hB.2) ?_
      subst hrt
      refine vx_ret (W.lret F.1 F.2.1 F.2.2.2.1  (fun t ht hW => ?_) hS.2.2 hd F.2.2.2.2.1)
      exact ⟨x, ε, μ, rfl, m_a1 hst, h, HR.moved hW.alike (by rw [ht]; exact hR), hS.F ht⟩
  · exact h.elim
theorem ok_fret (hB : B.1 ≤ R.cells ∧ B.2 ≤ R.slots) (hrt : rt = some .float) (hd : decode cc pc = .ok (.freturn, 1)) : Le (j_r 3 Q) (AW l bs D Da own cc nL rt R ex nm Q X B (pc)) := by
  intro ls st ε μ h p e s m args below meth c H locs cells slots A F hS hc hs hl hst hA hR
  unfold j_r at h
  split at h
  · rename_i u x
    cases hb : Nat.beq u 3 with
    | false => simp only [hb, cond_false] at h
    | true =>
      simp only [hb, cond_true] at h
      have ht : u = 3 := Nat.eq_of_beq_eq_true hb
      subst ht
      refine W.widen (k := R.cells) (n := R.slots) (Nat.le_trans hc hB.1) (Nat.le_trans hs hB.2) ?_
      subst hrt
      refine vx_ret (W.fret F.1 F.2.1 F.2.2.2.1  (fun t ht hW => ?_) hS.2.2 hd F.2.2.2.2.1)
      exact ⟨x, ε, μ, rfl, m_a1 hst, h, HR.moved hW.alike (by rw [ht]; exact hR), hS.F ht⟩
  · exact h.elim
theorem ok_zret (hB : B.1 ≤ R.cells ∧ B.2 ≤ R.slots) (hrt : rt = some .boolean) (hd : decode cc pc = .ok (.ireturn, 1)) : Le (j_rz Q) (AW l bs D Da own cc nL rt R ex nm Q X B (pc)) := by
  intro ls st ε μ h p e s m args below meth c H locs cells slots A F hS hc hs hl hst hA hR
  unfold j_rz at h
  split at h
  · rename_i x
    obtain ⟨hz, h⟩ := h
    refine W.widen (k := R.cells) (n := R.slots) (Nat.le_trans hc hB.1) (Nat.le_trans hs hB.2) ?_
    subst hrt
    refine vx_ret (W.zret F.1 F.2.1 F.2.2.2.1 (by rcases hz with rfl | rfl <;> decide) (fun t ht hW => ?_) hS.2.2 hd F.2.2.2.2.1)
    exact ⟨x, ε, μ, rfl, m_a1 hst, h, HR.moved hW.alike (by rw [ht]; exact hR), hS.F ht⟩
  · exact h.elim
theorem ok_aret {ty : FieldType} (hB : B.1 ≤ R.cells ∧ B.2 ≤ R.slots) (hrt : rt = some ty) (hty : (∃ n, ty = .object n) ∨ ∃ t, ty = .array t) (hd : decode cc pc = .ok (.areturn, 1)) : Le (j_r 2 Q) (AW l bs D Da own cc nL rt R ex nm Q X B (pc)) := by
  intro ls st ε μ h p e s m args below meth c H locs cells slots A F hS hc hs hl hst hA hR
  unfold j_r at h
  split at h
  · rename_i u x
    cases hb : Nat.beq u 2 with
    | false => simp only [hb, cond_false] at h
    | true =>
      simp only [hb, cond_true] at h
      have ht : u = 2 := Nat.eq_of_beq_eq_true hb
      subst ht
      refine W.widen (k := R.cells) (n := R.slots) (Nat.le_trans hc hB.1) (Nat.le_trans hs hB.2) ?_
      subst hrt
      have htg : m_tag ty = 2 := by rcases hty with ⟨n, rfl⟩ | ⟨t, rfl⟩ <;> rfl
      refine vx_ret (W.aret F.1 F.2.1 F.2.2.2.1 hty (by by_cases hz : x ≤ 0; exact Or.inl (if_pos hz); exact Or.inr ⟨_, if_neg hz⟩) (fun t ht hW => ?_) hS.2.2 hd F.2.2.2.2.1)
      exact ⟨x, ε, μ, by unfold m_rv; simp only [htg], by unfold m_okr; simp only [htg]; exact m_a1 hst, h, HR.moved hW.alike (by rw [ht]; exact hR), hS.F ht⟩
  · exact h.elim
end Tm
