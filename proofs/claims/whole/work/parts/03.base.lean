/-! ===== an abstract machine over whole numbers: values, memory, states ===== -/
abbrev m_V : Type := Nat × Int
abbrev m_M : Type := Int → Int → Int
abbrev m_E : Type := (Int → Int) × (Int → Int) × m_M × Int
/-- of the cell at an address: its kind, its length; its final fields; the next address -/
def kd (ε : m_E) (a : Int) : Int := ε.1 a
def ln (ε : m_E) (a : Int) : Int := ε.2.1 a
def fn (ε : m_E) : m_M := ε.2.2.1
def nx (ε : m_E) : Int := ε.2.2.2
abbrev m_L : Type := List (Nat × m_V)
abbrev m_S : Type := List m_V
abbrev m_C : Type := m_L → m_S → m_E → m_M → Prop
abbrev m_Po : Type := Int → m_E → m_M → Prop
abbrev m_K : Type := Nat → m_C
def w32 (z : Int) : Int := (z + 2147483648) % 4294967296 - 2147483648
def w64 (z : Int) : Int := (z + 9223372036854775808) % 18446744073709551616 - 9223372036854775808
theorem w32_bmod (z : Int) : w32 z = Int.bmod z 4294967296 := by
  unfold w32; rw [Int.bmod_def]; split <;> omega
theorem w64_bmod (z : Int) : w64 z = Int.bmod z 18446744073709551616 := by
  unfold w64; rw [Int.bmod_def]; split <;> omega
def i32 (z : Int) : Prop := -2147483648 ≤ z ∧ z < 2147483648
def i64 (z : Int) : Prop := -9223372036854775808 ≤ z ∧ z < 9223372036854775808
/-- the machine's value: a reference is its address and 1, null is 0 -/
def m_cv (v : m_V) : Value := match v with
  | (0, z) => .int (Int32.ofInt z)
  | (1, z) => .long (Int64.ofInt z)
  | (2, z) => if z ≤ 0 then .null else .ref (z - 1).toNat
  | (_, z) => .float (UInt32.ofNat z.toNat)
def m_ok (v : m_V) : Prop := match v with
  | (0, z) => i32 z
  | (1, z) => i64 z
  | (2, z) => 0 ≤ z
  | (_, z) => 0 ≤ z ∧ z < 4294967296
def m_cl (q : Nat × m_V) : Nat × Value := (q.1, m_cv q.2)
theorem w32_i32 (z : Int) : i32 (w32 z) := by
  unfold i32 w32; omega
theorem w64_i64 (z : Int) : i64 (w64 z) := by
  unfold i64 w64; omega
theorem w32_id {z : Int} (h : i32 z) : w32 z = z := by
  unfold i32 at h; unfold w32; omega
theorem w64_id {z : Int} (h : i64 z) : w64 z = z := by
  unfold i64 at h; unfold w64; omega
theorem toInt_i32 (x : Int32) : i32 x.toInt := ⟨by have := Int32.minValue_le_toInt x; simpa using this, by have := Int32.toInt_lt x; simpa using this⟩
theorem toInt_i64 (x : Int64) : i64 x.toInt := ⟨by have := Int64.minValue_le_toInt x; simpa using this, by have := Int64.toInt_lt x; simpa using this⟩
theorem of32 (z : Int) : (Int32.ofInt z).toInt = w32 z := by
  rw [Int32.toInt_ofInt, w32_bmod]
theorem of64 (z : Int) : (Int64.ofInt z).toInt = w64 z := by
  rw [Int64.toInt_ofInt, w64_bmod]
theorem to32 (x : Int32) : Int32.ofInt x.toInt = x := by simp
theorem to64 (x : Int64) : Int64.ofInt x.toInt = x := by simp
theorem eq32 {x : Int32} {z : Int} (h : x.toInt = z) : x = Int32.ofInt z := by rw [← h, to32]
theorem eq64 {x : Int64} {z : Int} (h : x.toInt = z) : x = Int64.ofInt z := by rw [← h, to64]
/-- storing and making -/
def st (μ : m_M) (a i v : Int) : m_M := fun b j => if b = a ∧ j = i then v else μ b j
def mnew (μ : m_M) (a : Int) : m_M := fun b j => if b = a then 0 else μ b j
def ealloc (ε : m_E) (k n : Int) : m_E := (fun a => if a = nx ε then k else kd ε a, fun a => if a = nx ε then n else ln ε a, mnew (fn ε) (nx ε), nx ε + 1)
def efin (ε : m_E) (a i v : Int) : m_E := (ε.1, ε.2.1, st (fn ε) a i v, ε.2.2.2)
/-- locals: a list by index, rising -/
def m_get : m_L → Nat → Option m_V
  | [], _ => none
  | q :: r, i => cond (Nat.beq q.1 i) (some q.2) (m_get r i)
def m_c2 (v : m_V) : Bool := Nat.beq v.1 1
def m_ins (i : Nat) (v : m_V) : m_L → m_L
  | [] => [(i, v)]
  | q :: r => cond (Nat.blt i q.1) ((i, v) :: q :: r) (q :: m_ins i v r)
def m_rm1 (i : Nat) : m_L → m_L
  | [] => []
  | q :: r => cond (Nat.beq q.1 i || (Nat.beq (q.1 + 1) i && m_c2 q.2)) (m_rm1 i r) (q :: m_rm1 i r)
def m_rm2 (i : Nat) : m_L → m_L
  | [] => []
  | q :: r => cond (Nat.beq q.1 i || (Nat.beq q.1 (i + 1) || (Nat.beq (q.1 + 1) i && m_c2 q.2))) (m_rm2 i r) (q :: m_rm2 i r)
def m_set1 (i : Nat) (v : m_V) (ls : m_L) : m_L := m_ins i v (m_rm1 i ls)
def m_set2 (i : Nat) (v : m_V) (ls : m_L) : m_L := m_ins i v (m_rm2 i ls)
def m_in : List Nat → Nat → Bool
  | [], _ => false
  | a :: r, i => cond (Nat.beq a i) true (m_in r i)
def m_keep (live : List Nat) : m_L → m_L
  | [] => []
  | q :: r => cond (m_in live q.1) (q :: m_keep live r) (m_keep live r)
theorem m_get_mem : ∀ {ls : m_L} {i : Nat} {v : m_V}, m_get ls i = some v → (i, v) ∈ ls
  | [], _, _, h => by simp [m_get] at h
  | q :: r, i, v, h => by
    unfold m_get at h
    cases hb : Nat.beq q.1 i with
    | true =>
      rw [hb] at h
      have e1 : q.1 = i := Nat.eq_of_beq_eq_true hb
      have e2 : q.2 = v := Option.some.inj h
      rw [← e1, ← e2]
      exact List.mem_cons_self
    | false => rw [hb] at h; exact List.mem_cons_of_mem _ (m_get_mem h)
theorem m_ins_mem : ∀ {ls : m_L} {i : Nat} {v : m_V} {q : Nat × m_V}, q ∈ m_ins i v ls → q = (i, v) ∨ q ∈ ls
  | [], _, _, _, h => by simp [m_ins] at h; exact Or.inl h
  | p :: r, i, v, q, h => by
    unfold m_ins at h
    cases hb : Nat.blt i p.1 with
    | true =>
      rw [hb] at h
      rcases List.mem_cons.mp h with h | h
      · exact Or.inl h
      · exact Or.inr h
    | false =>
      rw [hb] at h
      rcases List.mem_cons.mp h with h | h
      · exact Or.inr (by rw [h]; exact List.mem_cons_self)
      · rcases m_ins_mem h with h | h
        · exact Or.inl h
        · exact Or.inr (List.mem_cons_of_mem _ h)
theorem m_rm1_mem : ∀ {ls : m_L} {i : Nat} {q : Nat × m_V}, q ∈ m_rm1 i ls → q ∈ ls ∧ (Nat.beq q.1 i || (Nat.beq (q.1 + 1) i && m_c2 q.2)) = false
  | [], _, _, h => by simp [m_rm1] at h
  | p :: r, i, q, h => by
    unfold m_rm1 at h
    cases hb : (Nat.beq p.1 i || (Nat.beq (p.1 + 1) i && m_c2 p.2)) with
    | true =>
      rw [hb] at h
      obtain ⟨h1, h2⟩ := m_rm1_mem h
      exact ⟨List.mem_cons_of_mem _ h1, h2⟩
    | false =>
      rw [hb] at h
      rcases List.mem_cons.mp h with h | h
      · rw [h]; exact ⟨List.mem_cons_self, hb⟩
      · obtain ⟨h1, h2⟩ := m_rm1_mem h
        exact ⟨List.mem_cons_of_mem _ h1, h2⟩
theorem m_rm2_mem : ∀ {ls : m_L} {i : Nat} {q : Nat × m_V}, q ∈ m_rm2 i ls → q ∈ ls ∧ (Nat.beq q.1 i || (Nat.beq q.1 (i + 1) || (Nat.beq (q.1 + 1) i && m_c2 q.2))) = false
  | [], _, _, h => by simp [m_rm2] at h
  | p :: r, i, q, h => by
    unfold m_rm2 at h
    cases hb : (Nat.beq p.1 i || (Nat.beq p.1 (i + 1) || (Nat.beq (p.1 + 1) i && m_c2 p.2))) with
    | true =>
      rw [hb] at h
      obtain ⟨h1, h2⟩ := m_rm2_mem h
      exact ⟨List.mem_cons_of_mem _ h1, h2⟩
    | false =>
      rw [hb] at h
      rcases List.mem_cons.mp h with h | h
      · rw [h]; exact ⟨List.mem_cons_self, hb⟩
      · obtain ⟨h1, h2⟩ := m_rm2_mem h
        exact ⟨List.mem_cons_of_mem _ h1, h2⟩
theorem m_keep_mem {live : List Nat} : ∀ {ls : m_L} {q : Nat × m_V}, q ∈ m_keep live ls → q ∈ ls
  | [], _, h => by simp [m_keep] at h
  | p :: r, q, h => by
    unfold m_keep at h
    cases hb : m_in live p.1 with
    | true =>
      rw [hb] at h
      rcases List.mem_cons.mp h with h | h
      · rw [h]; exact List.mem_cons_self
      · exact List.mem_cons_of_mem _ (m_keep_mem h)
    | false => rw [hb] at h; exact List.mem_cons_of_mem _ (m_keep_mem h)
theorem m_cat (v : m_V) : (m_cv v).category = 2 ↔ m_c2 v = true := by
  obtain ⟨t, z⟩ := v
  match t with
  | 0 => simp [m_cv, m_c2, Value.category]
  | 1 => simp [m_cv, m_c2, Value.category]
  | 2 =>
    simp only [m_cv, m_c2]
    split <;> simp [Value.category]
  | t + 3 => simp [m_cv, m_c2, Value.category]
theorem m_cat1 (v : m_V) (h : m_c2 v = false) : (m_cv v).category = 1 := by
  rcases lv_cat (m_cv v) with q | q
  · exact q
  · rw [m_cat, h] at q; cases q
theorem m_sub {ls ls' : m_L} {A : Array Slot} {nL : Nat} (h : lv_has A nL (ls.map m_cl)) (hs : ∀ q, q ∈ ls' → q ∈ ls) : lv_has A nL (ls'.map m_cl) := by
  refine ⟨h.1, h.2.1, fun q hq => ?_⟩
  obtain ⟨x, hx, rfl⟩ := List.mem_map.mp hq
  exact h.2.2 _ (List.mem_map.mpr ⟨x, hs x hx, rfl⟩)
theorem m_at {ls : m_L} {A : Array Slot} {nL i : Nat} {v : m_V} (h : lv_has A nL (ls.map m_cl)) (hg : m_get ls i = some v) : A[i]? = some (.val (m_cv v)) :=
  h.2.2 (i, m_cv v) (List.mem_map.mpr ⟨(i, v), m_get_mem hg, rfl⟩)
theorem m_store1 {ls : m_L} {A : Array Slot} {nL i : Nat} {v : m_V} (h : lv_has A nL (ls.map m_cl)) (hi : i < nL) (hc : m_c2 v = false) : ∃ A', storeLocals A i (m_cv v) = some A' ∧ lv_has A' nL ((m_set1 i v ls).map m_cl) := by
  obtain ⟨A', h1, h2⟩ := lv_store1 (v := m_cv v) h hi (m_cat1 v hc)
  refine ⟨A', h1, h2.1, h2.2.1, fun q hq => ?_⟩
  obtain ⟨x, hx, rfl⟩ := List.mem_map.mp hq
  rcases m_ins_mem hx with rfl | hx
  · exact h2.2.2 _ List.mem_cons_self
  · obtain ⟨hm, hf⟩ := m_rm1_mem hx
    refine h2.2.2 _ (List.mem_cons_of_mem _ (List.mem_filter.mpr ⟨List.mem_map.mpr ⟨x, hm, rfl⟩, ?_⟩))
    simp only [Bool.or_eq_false_iff] at hf
    have n1 : ¬ x.1 = i := fun e => by rw [e] at hf; simp at hf
    simp only [m_cl, Bool.and_eq_true, Bool.not_eq_true', beq_eq_false_iff_ne, ne_eq]
    refine ⟨n1, ?_⟩
    by_cases n2 : x.1 + 1 = i
    · have : m_c2 x.2 = false := by
        have h3 := hf.2
        rw [n2] at h3
        simpa using h3
      have h4 : ¬ (m_cv x.2).category = 2 := by rw [m_cat, this]; simp
      simp [h4]
    · simp [n2]
theorem m_store2 {ls : m_L} {A : Array Slot} {nL i : Nat} {v : m_V} (h : lv_has A nL (ls.map m_cl)) (hi : i + 1 < nL) (hc : m_c2 v = true) : ∃ A', storeLocals A i (m_cv v) = some A' ∧ lv_has A' nL ((m_set2 i v ls).map m_cl) := by
  obtain ⟨A', h1, h2⟩ := lv_store2 (v := m_cv v) h hi ((m_cat v).mpr hc)
  refine ⟨A', h1, h2.1, h2.2.1, fun q hq => ?_⟩
  obtain ⟨x, hx, rfl⟩ := List.mem_map.mp hq
  rcases m_ins_mem hx with rfl | hx
  · exact h2.2.2 _ List.mem_cons_self
  · obtain ⟨hm, hf⟩ := m_rm2_mem hx
    refine h2.2.2 _ (List.mem_cons_of_mem _ (List.mem_filter.mpr ⟨List.mem_map.mpr ⟨x, hm, rfl⟩, ?_⟩))
    simp only [Bool.or_eq_false_iff] at hf
    have n1 : ¬ x.1 = i := fun e => by rw [e] at hf; simp at hf
    have n3 : ¬ x.1 = i + 1 := fun e => by rw [e] at hf; simp at hf
    simp only [m_cl, Bool.and_eq_true, Bool.not_eq_true', beq_eq_false_iff_ne, ne_eq]
    refine ⟨n1, n3, ?_⟩
    by_cases n2 : x.1 + 1 = i
    · have : m_c2 x.2 = false := by
        have h3 := hf.2.2
        rw [n2] at h3
        simpa using h3
      have h4 : ¬ (m_cv x.2).category = 2 := by rw [m_cat, this]; simp
      simp [h4]
    · simp [n2]
