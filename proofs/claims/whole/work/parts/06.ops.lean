/-! ===== steps on locals and the operand stack ===== -/
theorem m_a1 {v : m_V} {st : m_S} (h : ∀ x ∈ v :: st, m_ok x) : m_ok v := h v List.mem_cons_self
theorem m_a2 {v : m_V} {st : m_S} (h : ∀ x ∈ v :: st, m_ok x) : ∀ x ∈ st, m_ok x := fun x hx => h x (List.mem_cons_of_mem _ hx)
theorem m_ac {v : m_V} {st : m_S} (h : m_ok v) (t : ∀ x ∈ st, m_ok x) : ∀ x ∈ v :: st, m_ok x := fun x hx => (List.mem_cons.mp hx).elim (fun e => by rw [e]; exact h) (t x)
theorem m_conv1 {ls : m_L} {A : Array Slot} {nL i : Nat} {v : m_V} (h2 : lv_has A nL ((i, m_cv v) :: (ls.map m_cl).filter (fun q => !(q.1 == i) && !(q.1 + 1 == i && q.2.category == 2)))) : lv_has A nL ((m_set1 i v ls).map m_cl) := by
  refine ⟨h2.1, h2.2.1, fun q hq => ?_⟩
  obtain ⟨x, hx, rfl⟩ := List.mem_map.mp hq
  rcases m_ins_mem hx with rfl | hx
  · exact h2.2.2 _ List.mem_cons_self
  · obtain ⟨hm, hf⟩ := m_rm1_mem hx
    refine h2.2.2 _ (List.mem_cons_of_mem _ (List.mem_filter.mpr ⟨List.mem_map.mpr ⟨x, hm, rfl⟩, ?_⟩))
    simp only [Bool.or_eq_false_iff] at hf
    have n1 : ¬ x.1 = i := fun e => by rw [e] at hf; simp at hf
    simp only [m_cl, Bool.and_eq_true, Bool.not_eq_true', beq_eq_false_iff_ne, ne_eq]
    refine ⟨n1, ?_⟩
    by_cases n2 : x.1 + 1 = i
    · have : m_c2 x.2 = false := by
        have h3 := hf.2
        rw [n2] at h3
        simpa using h3
      have h4 : ¬ (m_cv x.2).category = 2 := by rw [m_cat, this]; simp
      simp [h4]
    · simp [n2]
theorem m_conv2 {ls : m_L} {A : Array Slot} {nL i : Nat} {v : m_V} (h2 : lv_has A nL ((i, m_cv v) :: (ls.map m_cl).filter (fun q => !(q.1 == i) && (!(q.1 == i + 1) && !(q.1 + 1 == i && q.2.category == 2))))) : lv_has A nL ((m_set2 i v ls).map m_cl) := by
  refine ⟨h2.1, h2.2.1, fun q hq => ?_⟩
  obtain ⟨x, hx, rfl⟩ := List.mem_map.mp hq
  rcases m_ins_mem hx with rfl | hx
  · exact h2.2.2 _ List.mem_cons_self
  · obtain ⟨hm, hf⟩ := m_rm2_mem hx
    refine h2.2.2 _ (List.mem_cons_of_mem _ (List.mem_filter.mpr ⟨List.mem_map.mpr ⟨x, hm, rfl⟩, ?_⟩))
    simp only [Bool.or_eq_false_iff] at hf
    have n1 : ¬ x.1 = i := fun e => by rw [e] at hf; simp at hf
    have n3 : ¬ x.1 = i + 1 := fun e => by rw [e] at hf; simp at hf
    simp only [m_cl, Bool.and_eq_true, Bool.not_eq_true', beq_eq_false_iff_ne, ne_eq]
    refine ⟨n1, n3, ?_⟩
    by_cases n2 : x.1 + 1 = i
    · have : m_c2 x.2 = false := by
        have h3 := hf.2.2
        rw [n2] at h3
        simpa using h3
      have h4 : ¬ (m_cv x.2).category = 2 := by rw [m_cat, this]; simp
      simp [h4]
    · simp [n2]
theorem m_okset1 {ls : m_L} {i : Nat} {v : m_V} (h : ∀ q ∈ ls, m_ok q.2) (hv : m_ok v) : ∀ q ∈ m_set1 i v ls, m_ok q.2 := fun q hq => (m_ins_mem hq).elim (fun e => by rw [e]; exact hv) (fun hq => h q (m_rm1_mem hq).1)
theorem m_okset2 {ls : m_L} {i : Nat} {v : m_V} (h : ∀ q ∈ ls, m_ok q.2) (hv : m_ok v) : ∀ q ∈ m_set2 i v ls, m_ok q.2 := fun q hq => (m_ins_mem hq).elim (fun e => by rw [e]; exact hv) (fun hq => h q (m_rm2_mem hq).1)
/-- numbers -/
def o_and32 (x y : Int) : Int := (Int32.ofInt x &&& Int32.ofInt y).toInt
def o_or32 (x y : Int) : Int := (Int32.ofInt x ||| Int32.ofInt y).toInt
def o_shl32 (x y : Int) : Int := (Int32.ofInt x <<< (Int32.ofInt y &&& 31)).toInt
def o_ushr32 (x y : Int) : Int := ((Int32.ofInt x).toUInt32 >>> ((Int32.ofInt y).toUInt32 &&& Int32.toUInt32 31)).toInt32.toInt
def o_and64 (x y : Int) : Int := (Int64.ofInt x &&& Int64.ofInt y).toInt
def o_or64 (x y : Int) : Int := (Int64.ofInt x ||| Int64.ofInt y).toInt
def o_xor64 (x y : Int) : Int := (Int64.ofInt x ^^^ Int64.ofInt y).toInt
def o_shl64 (x y : Int) : Int := (Int64.ofInt x <<< ((Int32.ofInt y).toInt64 &&& 63)).toInt
def o_shr64 (x y : Int) : Int := (Int64.ofInt x >>> ((Int32.ofInt y).toInt64 &&& 63)).toInt
def o_ushr64 (x y : Int) : Int := ((Int64.ofInt x).toUInt64 >>> ((Int32.ofInt y).toInt64.toUInt64 &&& Int64.toUInt64 63)).toInt64.toInt
def o_i2f (x : Int) : Int := ((FP.i2f (Int32.ofInt x)).toNat : Int)
def o_fmul (x y : Int) : Int := ((FP.fmul (UInt32.ofNat x.toNat) (UInt32.ofNat y.toNat)).toNat : Int)
def o_f2i (x : Int) : Int := (FP.f2i (UInt32.ofNat x.toNat)).toInt
def w8 (z : Int) : Int := (z + 128) % 256 - 128
def w16 (z : Int) : Int := (z + 32768) % 65536 - 32768
theorem v_add32 (x y : Int) : Int32.ofInt x + Int32.ofInt y = Int32.ofInt (w32 (x + y)) := by
  apply eq32; rw [Int32.toInt_add, of32, of32, w32_bmod, w32_bmod, w32_bmod]; simp
theorem v_sub32 (x y : Int) : Int32.ofInt x - Int32.ofInt y = Int32.ofInt (w32 (x - y)) := by
  apply eq32; rw [Int32.toInt_sub, of32, of32, w32_bmod, w32_bmod, w32_bmod]; simp
theorem v_mul32 (x y : Int) : Int32.ofInt x * Int32.ofInt y = Int32.ofInt (w32 (x * y)) := by
  apply eq32; rw [Int32.toInt_mul, of32, of32, w32_bmod, w32_bmod, w32_bmod]; simp
theorem v_neg32 (x : Int) : -Int32.ofInt x = Int32.ofInt (w32 (-x)) := by
  apply eq32; rw [Int32.toInt_neg, of32, w32_bmod, w32_bmod]; simp
theorem v_add64 (x y : Int) : Int64.ofInt x + Int64.ofInt y = Int64.ofInt (w64 (x + y)) := by
  apply eq64; rw [Int64.toInt_add, of64, of64, w64_bmod, w64_bmod, w64_bmod]; simp
theorem v_sub64 (x y : Int) : Int64.ofInt x - Int64.ofInt y = Int64.ofInt (w64 (x - y)) := by
  apply eq64; rw [Int64.toInt_sub, of64, of64, w64_bmod, w64_bmod, w64_bmod]; simp
theorem v_mul64 (x y : Int) : Int64.ofInt x * Int64.ofInt y = Int64.ofInt (w64 (x * y)) := by
  apply eq64; rw [Int64.toInt_mul, of64, of64, w64_bmod, w64_bmod, w64_bmod]; simp
theorem v_neg64 (x : Int) : -Int64.ofInt x = Int64.ofInt (w64 (-x)) := by
  apply eq64; rw [Int64.toInt_neg, of64, w64_bmod, w64_bmod]; simp
theorem v_div32 {x y : Int} (hx : i32 x) (hy : i32 y) : Int32.ofInt x / Int32.ofInt y = Int32.ofInt (w32 (Int.tdiv x y)) := by
  apply eq32; rw [Int32.toInt_div, of32, of32, w32_id hx, w32_id hy, w32_bmod]
theorem v_div64 {x y : Int} (hx : i64 x) (hy : i64 y) : Int64.ofInt x / Int64.ofInt y = Int64.ofInt (w64 (Int.tdiv x y)) := by
  apply eq64; rw [Int64.toInt_div, of64, of64, w64_id hx, w64_id hy, w64_bmod]
theorem tmod_i32 {x y : Int} (hx : i32 x) : i32 (Int.tmod x y) := by
  have h1 := Int.natAbs_tmod x y
  have h2 : (Int.tmod x y).natAbs ≤ x.natAbs := by rw [h1]; exact Nat.mod_le _ _
  unfold i32 at hx ⊢
  by_cases h : x = -2147483648
  · have h3 : Int.tmod x y ≤ 0 := by
      have := Int.tmod_nonneg y (show 0 ≤ -x by omega)
      rw [Int.neg_tmod] at this
      omega
    omega
  · omega
theorem tmod_i64 {x y : Int} (hx : i64 x) : i64 (Int.tmod x y) := by
  have h1 := Int.natAbs_tmod x y
  have h2 : (Int.tmod x y).natAbs ≤ x.natAbs := by rw [h1]; exact Nat.mod_le _ _
  unfold i64 at hx ⊢
  by_cases h : x = -9223372036854775808
  · have h3 : Int.tmod x y ≤ 0 := by
      have := Int.tmod_nonneg y (show 0 ≤ -x by omega)
      rw [Int.neg_tmod] at this
      omega
    omega
  · omega
theorem v_rem32 {x y : Int} (hx : i32 x) (hy : i32 y) : Int32.ofInt x - Int32.ofInt x / Int32.ofInt y * Int32.ofInt y = Int32.ofInt (Int.tmod x y) := by
  rw [v_div32 hx hy, v_mul32, v_sub32]
  apply eq32
  rw [of32, w32_id (w32_i32 _)]
  rw [← w32_id (tmod_i32 (y := y) hx)]
  have e : x - Int.tdiv x y * y = Int.tmod x y := by have := Int.tmod_add_mul_tdiv x y; rw [Int.mul_comm] at this; omega
  rw [← e, w32_bmod, w32_bmod, w32_bmod, w32_bmod]
  simp
theorem v_rem64 {x y : Int} (hx : i64 x) (hy : i64 y) : Int64.ofInt x - Int64.ofInt x / Int64.ofInt y * Int64.ofInt y = Int64.ofInt (Int.tmod x y) := by
  rw [v_div64 hx hy, v_mul64, v_sub64]
  apply eq64
  rw [of64, w64_id (w64_i64 _)]
  rw [← w64_id (tmod_i64 (y := y) hx)]
  have e : x - Int.tdiv x y * y = Int.tmod x y := by have := Int.tmod_add_mul_tdiv x y; rw [Int.mul_comm] at this; omega
  rw [← e, w64_bmod, w64_bmod, w64_bmod, w64_bmod]
  simp
theorem v_ne32 {y : Int} (hy : i32 y) (h : y ≠ 0) : ¬ Int32.ofInt y = 0 := fun e => h (by
  have := congrArg Int32.toInt e
  rw [of32, w32_id hy] at this
  simpa using this)
theorem v_ne64 {y : Int} (hy : i64 y) (h : y ≠ 0) : ¬ Int64.ofInt y = 0 := fun e => h (by
  have := congrArg Int64.toInt e
  rw [of64, w64_id hy] at this
  simpa using this)
theorem v_i2l {x : Int} (hx : i32 x) : (Int32.ofInt x).toInt64 = Int64.ofInt x := by
  apply eq64; rw [Int32.toInt_toInt64, of32, w32_id hx]
theorem v_l2i (x : Int) : (Int64.ofInt x).toInt32 = Int32.ofInt (w32 x) := by
  apply eq32; rw [Int64.toInt_toInt32, of64, w64_bmod, w32_bmod]
  rw [Int.bmod_bmod_of_dvd]; decide
theorem w8_bmod (z : Int) : w8 z = Int.bmod z 256 := by
  unfold w8; rw [Int.bmod_def]; split <;> omega
theorem w16_bmod (z : Int) : w16 z = Int.bmod z 65536 := by
  unfold w16; rw [Int.bmod_def]; split <;> omega
theorem v_i2b (x : Int) : (Int32.ofInt x).toInt8.toInt32 = Int32.ofInt (w8 x) := by
  apply eq32; rw [Int8.toInt_toInt32, Int32.toInt_toInt8, of32, w32_bmod, w8_bmod]
  rw [Int.bmod_bmod_of_dvd]; decide
theorem v_i2s (x : Int) : (Int32.ofInt x).toInt16.toInt32 = Int32.ofInt (w16 x) := by
  apply eq32; rw [Int16.toInt_toInt32, Int32.toInt_toInt16, of32, w32_bmod, w16_bmod]
  rw [Int.bmod_bmod_of_dvd]; decide
theorem w8_i32 (z : Int) : i32 (w8 z) := by unfold i32 w8; omega
theorem w16_i32 (z : Int) : i32 (w16 z) := by unfold i32 w16; omega
theorem v_lt32 {x y : Int} (hx : i32 x) (hy : i32 y) : Int32.ofInt x < Int32.ofInt y ↔ x < y := by rw [Int32.lt_iff_toInt_lt, of32, of32, w32_id hx, w32_id hy]
theorem v_le32 {x y : Int} (hx : i32 x) (hy : i32 y) : Int32.ofInt x ≤ Int32.ofInt y ↔ x ≤ y := by rw [Int32.le_iff_toInt_le, of32, of32, w32_id hx, w32_id hy]
theorem v_eq32 {x y : Int} (hx : i32 x) (hy : i32 y) : Int32.ofInt x = Int32.ofInt y ↔ x = y := by rw [← Int32.toInt_inj, of32, of32, w32_id hx, w32_id hy]
theorem v_lt64 {x y : Int} (hx : i64 x) (hy : i64 y) : Int64.ofInt x < Int64.ofInt y ↔ x < y := by rw [Int64.lt_iff_toInt_lt, of64, of64, w64_id hx, w64_id hy]
theorem v_eq64 {x y : Int} (hx : i64 x) (hy : i64 y) : Int64.ofInt x = Int64.ofInt y ↔ x = y := by rw [← Int64.toInt_inj, of64, of64, w64_id hx, w64_id hy]
theorem u32_of {z : Int} (h : 0 ≤ z ∧ z < 4294967296) (u : UInt32) (e : (u.toNat : Int) = z) : u = UInt32.ofNat z.toNat := by
  have h2 : z.toNat = u.toNat := by omega
  rw [h2]; simp
theorem u32_ok (u : UInt32) : 0 ≤ (u.toNat : Int) ∧ (u.toNat : Int) < 4294967296 := ⟨by omega, by have := u.toNat_lt; omega⟩
section Ok
variable {l : Launch} {bs : Nat} {D : va_G} {Da : Nat → ClassId} {own : String} {cc : ByteArray} {nL : Nat} {rt : Option FieldType} {R : Room} {ex : List ExceptionTableEntry} {nm : String} {Q X : m_Po} {B : Nat × Nat} {pc : Nat} {k : m_C}
def m_con (v : m_V) (k : m_C) : m_C := fun ls st ε μ => k ls (v :: st) ε μ
theorem ok_iconst {n : Int} (hn : i32 n) (hd : decode cc pc = .ok (.iconst n, 1)) (hk : Le k (AW l bs D Da own cc nL rt R ex nm Q X B (pc + 1))) : Le (m_con (0, n) k) (AW l bs D Da own cc nL rt R ex nm Q X B (pc)) := by
  intro ls st ε μ h p e s m args below meth c H locs cells slots A F hS hc hs hl hst hA hR
  refine lv_iconst F.1 F.2.1 hd rfl ?_
  exact hk _ _ _ _ h p e s m args below meth c H locs cells slots A F hS hc hs hl (m_ac hn hst) hA hR
theorem v_push8 {n : Int} (h : -128 ≤ n ∧ n < 128) : (Int8.ofInt n).toInt32 = Int32.ofInt n := by
  apply eq32; rw [Int8.toInt_toInt32, Int8.toInt_ofInt]
  rw [show Int.bmod n 256 = w8 n from (w8_bmod n).symm]; unfold w8; omega
theorem v_push16 {n : Int} (h : -32768 ≤ n ∧ n < 32768) : (Int16.ofInt n).toInt32 = Int32.ofInt n := by
  apply eq32; rw [Int16.toInt_toInt32, Int16.toInt_ofInt]
  rw [show Int.bmod n 65536 = w16 n from (w16_bmod n).symm]; unfold w16; omega
theorem ok_bipush {n : Int} (hn : -128 ≤ n ∧ n < 128) (hd : decode cc pc = .ok (.bipush n, 2)) (hk : Le k (AW l bs D Da own cc nL rt R ex nm Q X B (pc + 2))) : Le (m_con (0, n) k) (AW l bs D Da own cc nL rt R ex nm Q X B (pc)) := by
  intro ls st ε μ h p e s m args below meth c H locs cells slots A F hS hc hs hl hst hA hR
  refine lv_bipush F.1 F.2.1 hd (v_push8 hn) ?_
  exact hk _ _ _ _ h p e s m args below meth c H locs cells slots A F hS hc hs hl (m_ac (v := (0, n)) (show i32 n by unfold i32; omega) hst) hA hR
theorem ok_sipush {n : Int} (hn : -32768 ≤ n ∧ n < 32768) (hd : decode cc pc = .ok (.sipush n, 3)) (hk : Le k (AW l bs D Da own cc nL rt R ex nm Q X B (pc + 3))) : Le (m_con (0, n) k) (AW l bs D Da own cc nL rt R ex nm Q X B (pc)) := by
  intro ls st ε μ h p e s m args below meth c H locs cells slots A F hS hc hs hl hst hA hR
  refine lv_sipush F.1 F.2.1 hd (v_push16 hn) ?_
  exact hk _ _ _ _ h p e s m args below meth c H locs cells slots A F hS hc hs hl (m_ac (v := (0, n)) (show i32 n by unfold i32; omega) hst) hA hR
theorem ok_lconst {n : Fin 2} {z : Int} (hz : Int64.ofNat (n : Nat) = Int64.ofInt z) (hi : i64 z) (hd : decode cc pc = .ok (.lconst n, 1)) (hk : Le k (AW l bs D Da own cc nL rt R ex nm Q X B (pc + 1))) : Le (m_con (1, z) k) (AW l bs D Da own cc nL rt R ex nm Q X B (pc)) := by
  intro ls st ε μ h p e s m args below meth c H locs cells slots A F hS hc hs hl hst hA hR
  refine lv_lconst F.1 F.2.1 hd hz ?_
  exact hk _ _ _ _ h p e s m args below meth c H locs cells slots A F hS hc hs hl (m_ac hi hst) hA hR
theorem ok_null (hd : decode cc pc = .ok (.aconst_null, 1)) (hk : Le k (AW l bs D Da own cc nL rt R ex nm Q X B (pc + 1))) : Le (m_con (2, 0) k) (AW l bs D Da own cc nL rt R ex nm Q X B (pc)) := by
  intro ls st ε μ h p e s m args below meth c H locs cells slots A F hS hc hs hl hst hA hR
  refine lv_null F.1 F.2.1 hd ?_
  exact hk _ _ _ _ h p e s m args below meth c H locs cells slots A F hS hc hs hl (m_ac (v := (2, 0)) (Int.le_refl 0) hst) hA hR
theorem ok_ldc {index : Nat} {z : Int} {v : Int32} (hw : Cond.constant own index v ∈ lw_tbl) (hv : v = Int32.ofInt z) (hi : i32 z) (hd : decode cc pc = .ok (.ldc index, 2)) (hk : Le k (AW l bs D Da own cc nL rt R ex nm Q X B (pc + 2))) : Le (m_con (0, z) k) (AW l bs D Da own cc nL rt R ex nm Q X B (pc)) := by
  intro ls st ε μ h p e s m args below meth c H locs cells slots A F hS hc hs hl hst hA hR
  subst hv
  refine lv_ldc F.1 F.2.1 F.2.2.2.2.2.1 (F.2.2.2.2.2.2.2.2.2.1.w hw rfl) hd ?_
  exact hk _ _ _ _ h p e s m args below meth c H locs cells slots A F hS hc hs hl (m_ac (v := (0, z)) hi hst) hA hR
theorem ok_ldcw {index : Nat} {z : Int} {v : Int32} (hw : Cond.constant own index v ∈ lw_tbl) (hv : v = Int32.ofInt z) (hi : i32 z) (hd : decode cc pc = .ok (.ldc_w index, 3)) (hk : Le k (AW l bs D Da own cc nL rt R ex nm Q X B (pc + 3))) : Le (m_con (0, z) k) (AW l bs D Da own cc nL rt R ex nm Q X B (pc)) := by
  intro ls st ε μ h p e s m args below meth c H locs cells slots A F hS hc hs hl hst hA hR
  subst hv
  refine lv_ldcw F.1 F.2.1 F.2.2.2.2.2.1 (F.2.2.2.2.2.2.2.2.2.1.w hw rfl) hd ?_
  exact hk _ _ _ _ h p e s m args below meth c H locs cells slots A F hS hc hs hl (m_ac (v := (0, z)) hi hst) hA hR
theorem ok_ldcf {index : Nat} {z : Int} {v : UInt32} (hw : Cond.constantFloat own index v ∈ lw_tbl) (hv : v = UInt32.ofNat z.toNat) (hi : 0 ≤ z ∧ z < 4294967296) (hd : decode cc pc = .ok (.ldc index, 2)) (hk : Le k (AW l bs D Da own cc nL rt R ex nm Q X B (pc + 2))) : Le (m_con (3, z) k) (AW l bs D Da own cc nL rt R ex nm Q X B (pc)) := by
  intro ls st ε μ h p e s m args below meth c H locs cells slots A F hS hc hs hl hst hA hR
  subst hv
  refine lv_ldcf F.1 F.2.1 F.2.2.2.2.2.1 (F.2.2.2.2.2.2.2.2.2.1.w hw rfl) hd ?_
  exact hk _ _ _ _ h p e s m args below meth c H locs cells slots A F hS hc hs hl (m_ac (v := (3, z)) hi hst) hA hR
theorem ok_ldc2 {index : Nat} {z : Int} {v : Int64} (hw : Cond.constantLong own index v ∈ lw_tbl) (hv : v = Int64.ofInt z) (hi : i64 z) (hd : decode cc pc = .ok (.ldc2_w index, 3)) (hk : Le k (AW l bs D Da own cc nL rt R ex nm Q X B (pc + 3))) : Le (m_con (1, z) k) (AW l bs D Da own cc nL rt R ex nm Q X B (pc)) := by
  intro ls st ε μ h p e s m args below meth c H locs cells slots A F hS hc hs hl hst hA hR
  subst hv
  refine lv_ldc2 F.1 F.2.1 F.2.2.2.2.2.1 (F.2.2.2.2.2.2.2.2.2.1.w hw rfl) hd ?_
  exact hk _ _ _ _ h p e s m args below meth c H locs cells slots A F hS hc hs hl (m_ac (v := (1, z)) hi hst) hA hR
def m_lod (t i : Nat) (k : m_C) : m_C := fun ls st ε μ => match m_get ls i with
  | some v => cond (Nat.beq v.1 t) (k ls (v :: st) ε μ) False
  | none => False
theorem ok_iload_n {n : Fin 4} {i : Nat} (hi : (n : Nat) = i) (hd : decode cc pc = .ok (.iload_n n, 1)) (hk : Le k (AW l bs D Da own cc nL rt R ex nm Q X B (pc + 1))) : Le (m_lod 0 i k) (AW l bs D Da own cc nL rt R ex nm Q X B (pc)) := by
  intro ls st ε μ h p e s m args below meth c H locs cells slots A F hS hc hs hl hst hA hR
  unfold m_lod at h
  split at h
  · rename_i v hg
    obtain ⟨t, z⟩ := v
    cases hb : Nat.beq t 0 with
    | false => simp only [hb, cond_false] at h
    | true =>
      simp only [hb, cond_true] at h
      have ht : t = 0 := Nat.eq_of_beq_eq_true hb
      subst ht
      refine lv_iload_n F.1 F.2.1 hd hi (m_at hA hg) ?_
      exact hk _ _ _ _ h p e s m args below meth c H locs cells slots A F hS hc hs hl (m_ac (hl _ (m_get_mem hg)) hst) hA hR
  · exact h.elim
theorem ok_iload {i : Nat} (hd : decode cc pc = .ok (.iload i, 2)) (hk : Le k (AW l bs D Da own cc nL rt R ex nm Q X B (pc + 2))) : Le (m_lod 0 i k) (AW l bs D Da own cc nL rt R ex nm Q X B (pc)) := by
  intro ls st ε μ h p e s m args below meth c H locs cells slots A F hS hc hs hl hst hA hR
  unfold m_lod at h
  split at h
  · rename_i v hg
    obtain ⟨t, z⟩ := v
    cases hb : Nat.beq t 0 with
    | false => simp only [hb, cond_false] at h
    | true =>
      simp only [hb, cond_true] at h
      have ht : t = 0 := Nat.eq_of_beq_eq_true hb
      subst ht
      refine lv_iload F.1 F.2.1 hd  (m_at hA hg) ?_
      exact hk _ _ _ _ h p e s m args below meth c H locs cells slots A F hS hc hs hl (m_ac (hl _ (m_get_mem hg)) hst) hA hR
  · exact h.elim
theorem ok_lload_n {n : Fin 4} {i : Nat} (hi : (n : Nat) = i) (hd : decode cc pc = .ok (.lload_n n, 1)) (hk : Le k (AW l bs D Da own cc nL rt R ex nm Q X B (pc + 1))) : Le (m_lod 1 i k) (AW l bs D Da own cc nL rt R ex nm Q X B (pc)) := by
  intro ls st ε μ h p e s m args below meth c H locs cells slots A F hS hc hs hl hst hA hR
  unfold m_lod at h
  split at h
  · rename_i v hg
    obtain ⟨t, z⟩ := v
    cases hb : Nat.beq t 1 with
    | false => simp only [hb, cond_false] at h
    | true =>
      simp only [hb, cond_true] at h
      have ht : t = 1 := Nat.eq_of_beq_eq_true hb
      subst ht
      refine lv_lload_n F.1 F.2.1 hd hi (m_at hA hg) ?_
      exact hk _ _ _ _ h p e s m args below meth c H locs cells slots A F hS hc hs hl (m_ac (hl _ (m_get_mem hg)) hst) hA hR
  · exact h.elim
theorem ok_lload {i : Nat} (hd : decode cc pc = .ok (.lload i, 2)) (hk : Le k (AW l bs D Da own cc nL rt R ex nm Q X B (pc + 2))) : Le (m_lod 1 i k) (AW l bs D Da own cc nL rt R ex nm Q X B (pc)) := by
  intro ls st ε μ h p e s m args below meth c H locs cells slots A F hS hc hs hl hst hA hR
  unfold m_lod at h
  split at h
  · rename_i v hg
    obtain ⟨t, z⟩ := v
    cases hb : Nat.beq t 1 with
    | false => simp only [hb, cond_false] at h
    | true =>
      simp only [hb, cond_true] at h
      have ht : t = 1 := Nat.eq_of_beq_eq_true hb
      subst ht
      refine lv_lload F.1 F.2.1 hd  (m_at hA hg) ?_
      exact hk _ _ _ _ h p e s m args below meth c H locs cells slots A F hS hc hs hl (m_ac (hl _ (m_get_mem hg)) hst) hA hR
  · exact h.elim
theorem ok_fload_n {n : Fin 4} {i : Nat} (hi : (n : Nat) = i) (hd : decode cc pc = .ok (.fload_n n, 1)) (hk : Le k (AW l bs D Da own cc nL rt R ex nm Q X B (pc + 1))) : Le (m_lod 3 i k) (AW l bs D Da own cc nL rt R ex nm Q X B (pc)) := by
  intro ls st ε μ h p e s m args below meth c H locs cells slots A F hS hc hs hl hst hA hR
  unfold m_lod at h
  split at h
  · rename_i v hg
    obtain ⟨t, z⟩ := v
    cases hb : Nat.beq t 3 with
    | false => simp only [hb, cond_false] at h
    | true =>
      simp only [hb, cond_true] at h
      have ht : t = 3 := Nat.eq_of_beq_eq_true hb
      subst ht
      refine lv_fload_n F.1 F.2.1 hd hi (m_at hA hg) ?_
      exact hk _ _ _ _ h p e s m args below meth c H locs cells slots A F hS hc hs hl (m_ac (hl _ (m_get_mem hg)) hst) hA hR
  · exact h.elim
theorem ok_fload {i : Nat} (hd : decode cc pc = .ok (.fload i, 2)) (hk : Le k (AW l bs D Da own cc nL rt R ex nm Q X B (pc + 2))) : Le (m_lod 3 i k) (AW l bs D Da own cc nL rt R ex nm Q X B (pc)) := by
  intro ls st ε μ h p e s m args below meth c H locs cells slots A F hS hc hs hl hst hA hR
  unfold m_lod at h
  split at h
  · rename_i v hg
    obtain ⟨t, z⟩ := v
    cases hb : Nat.beq t 3 with
    | false => simp only [hb, cond_false] at h
    | true =>
      simp only [hb, cond_true] at h
      have ht : t = 3 := Nat.eq_of_beq_eq_true hb
      subst ht
      refine lv_fload F.1 F.2.1 hd  (m_at hA hg) ?_
      exact hk _ _ _ _ h p e s m args below meth c H locs cells slots A F hS hc hs hl (m_ac (hl _ (m_get_mem hg)) hst) hA hR
  · exact h.elim
theorem ok_aload_n {n : Fin 4} {i : Nat} (hi : (n : Nat) = i) (hd : decode cc pc = .ok (.aload_n n, 1)) (hk : Le k (AW l bs D Da own cc nL rt R ex nm Q X B (pc + 1))) : Le (m_lod 2 i k) (AW l bs D Da own cc nL rt R ex nm Q X B (pc)) := by
  intro ls st ε μ h p e s m args below meth c H locs cells slots A F hS hc hs hl hst hA hR
  unfold m_lod at h
  split at h
  · rename_i v hg
    obtain ⟨t, z⟩ := v
    cases hb : Nat.beq t 2 with
    | false => simp only [hb, cond_false] at h
    | true =>
      simp only [hb, cond_true] at h
      have ht : t = 2 := Nat.eq_of_beq_eq_true hb
      subst ht
      have k2 := hk _ _ _ _ h p e s m args below meth c H locs cells slots A F hS hc hs hl (m_ac (hl _ (m_get_mem hg)) hst) hA hR
      have h3 := m_at hA hg
      rw [List.map_cons] at k2
      by_cases hz : z ≤ 0
      · rw [show m_cv (2, z) = Value.null from if_pos hz] at h3 k2
        exact lv_aload_nN F.1 F.2.1 hd hi h3 k2
      · rw [show m_cv (2, z) = Value.ref (z - 1).toNat from if_neg hz] at h3 k2
        exact lv_aload_n F.1 F.2.1 hd hi h3 k2
  · exact h.elim
theorem ok_aload {i : Nat} (hd : decode cc pc = .ok (.aload i, 2)) (hk : Le k (AW l bs D Da own cc nL rt R ex nm Q X B (pc + 2))) : Le (m_lod 2 i k) (AW l bs D Da own cc nL rt R ex nm Q X B (pc)) := by
  intro ls st ε μ h p e s m args below meth c H locs cells slots A F hS hc hs hl hst hA hR
  unfold m_lod at h
  split at h
  · rename_i v hg
    obtain ⟨t, z⟩ := v
    cases hb : Nat.beq t 2 with
    | false => simp only [hb, cond_false] at h
    | true =>
      simp only [hb, cond_true] at h
      have ht : t = 2 := Nat.eq_of_beq_eq_true hb
      subst ht
      have k2 := hk _ _ _ _ h p e s m args below meth c H locs cells slots A F hS hc hs hl (m_ac (hl _ (m_get_mem hg)) hst) hA hR
      have h3 := m_at hA hg
      rw [List.map_cons] at k2
      by_cases hz : z ≤ 0
      · rw [show m_cv (2, z) = Value.null from if_pos hz] at h3 k2
        exact lv_aloadN F.1 F.2.1 hd  h3 k2
      · rw [show m_cv (2, z) = Value.ref (z - 1).toNat from if_neg hz] at h3 k2
        exact lv_aload F.1 F.2.1 hd  h3 k2
  · exact h.elim
def m_sto (t i : Nat) (k : m_C) : m_C := fun ls st ε μ => match st with
  | (u, z) :: r => cond (Nat.beq u t) (∀ w, w = z → k (cond (Nat.beq t 1) (m_set2 i (u, w) ls) (m_set1 i (u, w) ls)) r ε μ) False
  | [] => False
theorem ok_istore_n {n : Fin 4} {i : Nat} (hi : (n : Nat) = i) (hn : i < nL) (hd : decode cc pc = .ok (.istore_n n, 1)) (hk : Le k (AW l bs D Da own cc nL rt R ex nm Q X B (pc + 1))) : Le (m_sto 0 i k) (AW l bs D Da own cc nL rt R ex nm Q X B (pc)) := by
  intro ls st ε μ h p e s m args below meth c H locs cells slots A F hS hc hs hl hst hA hR
  unfold m_sto at h
  split at h
  · rename_i t z r
    cases hb : Nat.beq t 0 with
    | false => simp only [hb, cond_false] at h
    | true =>
      simp only [hb, cond_true] at h
      have ht : t = 0 := Nat.eq_of_beq_eq_true hb
      subst ht
      replace h := h z rfl
      refine lv_istore_n F.1 F.2.1 hd hi hA hn rfl (fun A' hA' => ?_)
      exact hk _ _ _ _ h p e s m args below meth c H locs cells slots A' F hS hc hs (m_okset1 hl (m_a1 hst)) (m_a2 hst) (m_conv1 (v := (0, z)) hA') hR
  · exact h.elim
theorem ok_istore {i : Nat} (hn : i < nL) (hd : decode cc pc = .ok (.istore i, 2)) (hk : Le k (AW l bs D Da own cc nL rt R ex nm Q X B (pc + 2))) : Le (m_sto 0 i k) (AW l bs D Da own cc nL rt R ex nm Q X B (pc)) := by
  intro ls st ε μ h p e s m args below meth c H locs cells slots A F hS hc hs hl hst hA hR
  unfold m_sto at h
  split at h
  · rename_i t z r
    cases hb : Nat.beq t 0 with
    | false => simp only [hb, cond_false] at h
    | true =>
      simp only [hb, cond_true] at h
      have ht : t = 0 := Nat.eq_of_beq_eq_true hb
      subst ht
      replace h := h z rfl
      refine lv_istore F.1 F.2.1 hd  hA hn rfl (fun A' hA' => ?_)
      exact hk _ _ _ _ h p e s m args below meth c H locs cells slots A' F hS hc hs (m_okset1 hl (m_a1 hst)) (m_a2 hst) (m_conv1 (v := (0, z)) hA') hR
  · exact h.elim
theorem ok_lstore_n {n : Fin 4} {i : Nat} (hi : (n : Nat) = i) (hn : i + 1 < nL) (hd : decode cc pc = .ok (.lstore_n n, 1)) (hk : Le k (AW l bs D Da own cc nL rt R ex nm Q X B (pc + 1))) : Le (m_sto 1 i k) (AW l bs D Da own cc nL rt R ex nm Q X B (pc)) := by
  intro ls st ε μ h p e s m args below meth c H locs cells slots A F hS hc hs hl hst hA hR
  unfold m_sto at h
  split at h
  · rename_i t z r
    cases hb : Nat.beq t 1 with
    | false => simp only [hb, cond_false] at h
    | true =>
      simp only [hb, cond_true] at h
      have ht : t = 1 := Nat.eq_of_beq_eq_true hb
      subst ht
      replace h := h z rfl
      refine lv_lstore_n F.1 F.2.1 hd hi hA hn rfl (fun A' hA' => ?_)
      exact hk _ _ _ _ h p e s m args below meth c H locs cells slots A' F hS hc hs (m_okset2 hl (m_a1 hst)) (m_a2 hst) (m_conv2 (v := (1, z)) hA') hR
  · exact h.elim
theorem ok_lstore {i : Nat} (hn : i + 1 < nL) (hd : decode cc pc = .ok (.lstore i, 2)) (hk : Le k (AW l bs D Da own cc nL rt R ex nm Q X B (pc + 2))) : Le (m_sto 1 i k) (AW l bs D Da own cc nL rt R ex nm Q X B (pc)) := by
  intro ls st ε μ h p e s m args below meth c H locs cells slots A F hS hc hs hl hst hA hR
  unfold m_sto at h
  split at h
  · rename_i t z r
    cases hb : Nat.beq t 1 with
    | false => simp only [hb, cond_false] at h
    | true =>
      simp only [hb, cond_true] at h
      have ht : t = 1 := Nat.eq_of_beq_eq_true hb
      subst ht
      replace h := h z rfl
      refine lv_lstore F.1 F.2.1 hd  hA hn rfl (fun A' hA' => ?_)
      exact hk _ _ _ _ h p e s m args below meth c H locs cells slots A' F hS hc hs (m_okset2 hl (m_a1 hst)) (m_a2 hst) (m_conv2 (v := (1, z)) hA') hR
  · exact h.elim
theorem ok_astore_n {n : Fin 4} {i : Nat} (hi : (n : Nat) = i) (hn : i < nL) (hd : decode cc pc = .ok (.astore_n n, 1)) (hk : Le k (AW l bs D Da own cc nL rt R ex nm Q X B (pc + 1))) : Le (m_sto 2 i k) (AW l bs D Da own cc nL rt R ex nm Q X B (pc)) := by
  intro ls st ε μ h p e s m args below meth c H locs cells slots A F hS hc hs hl hst hA hR
  unfold m_sto at h
  split at h
  · rename_i t z r
    cases hb : Nat.beq t 2 with
    | false => simp only [hb, cond_false] at h
    | true =>
      simp only [hb, cond_true] at h
      have ht : t = 2 := Nat.eq_of_beq_eq_true hb
      subst ht
      replace h := h z rfl
      have k2 : ∀ A' : Array Slot, lv_has A' nL ((i, m_cv (2, z)) :: (ls.map m_cl).filter (fun q => !(q.1 == i) && !(q.1 + 1 == i && q.2.category == 2))) → _ := fun A' hA' => hk _ _ _ _ h p e s m args below meth c H locs cells slots A' F hS hc hs (m_okset1 hl (m_a1 hst)) (m_a2 hst) (m_conv1 (v := (2, z)) hA') hR
      rw [List.map_cons]
      by_cases hz : z ≤ 0
      · rw [show m_cv (2, z) = Value.null from if_pos hz] at k2 ⊢
        exact lv_astore_nN F.1 F.2.1 hd hi hA hn rfl k2
      · rw [show m_cv (2, z) = Value.ref (z - 1).toNat from if_neg hz] at k2 ⊢
        exact lv_astore_n F.1 F.2.1 hd hi hA hn rfl k2
  · exact h.elim
theorem ok_astore {i : Nat} (hn : i < nL) (hd : decode cc pc = .ok (.astore i, 2)) (hk : Le k (AW l bs D Da own cc nL rt R ex nm Q X B (pc + 2))) : Le (m_sto 2 i k) (AW l bs D Da own cc nL rt R ex nm Q X B (pc)) := by
  intro ls st ε μ h p e s m args below meth c H locs cells slots A F hS hc hs hl hst hA hR
  unfold m_sto at h
  split at h
  · rename_i t z r
    cases hb : Nat.beq t 2 with
    | false => simp only [hb, cond_false] at h
    | true =>
      simp only [hb, cond_true] at h
      have ht : t = 2 := Nat.eq_of_beq_eq_true hb
      subst ht
      replace h := h z rfl
      have k2 : ∀ A' : Array Slot, lv_has A' nL ((i, m_cv (2, z)) :: (ls.map m_cl).filter (fun q => !(q.1 == i) && !(q.1 + 1 == i && q.2.category == 2))) → _ := fun A' hA' => hk _ _ _ _ h p e s m args below meth c H locs cells slots A' F hS hc hs (m_okset1 hl (m_a1 hst)) (m_a2 hst) (m_conv1 (v := (2, z)) hA') hR
      rw [List.map_cons]
      by_cases hz : z ≤ 0
      · rw [show m_cv (2, z) = Value.null from if_pos hz] at k2 ⊢
        exact lv_astoreN F.1 F.2.1 hd  hA hn rfl k2
      · rw [show m_cv (2, z) = Value.ref (z - 1).toNat from if_neg hz] at k2 ⊢
        exact lv_astore F.1 F.2.1 hd  hA hn rfl k2
  · exact h.elim
def m_inc (i : Nat) (n : Int) (k : m_C) : m_C := fun ls st ε μ => match m_get ls i with
  | some (0, z) => ∀ w, w = w32 (z + n) → k (m_set1 i (0, w) ls) st ε μ
  | _ => False
theorem ok_iinc {i : Nat} {n : Int} (hn : i < nL) (hd : decode cc pc = .ok (.iinc i n, 3)) (hk : Le k (AW l bs D Da own cc nL rt R ex nm Q X B (pc + 3))) : Le (m_inc i n k) (AW l bs D Da own cc nL rt R ex nm Q X B (pc)) := by
  intro ls st ε μ h p e s m args below meth c H locs cells slots A F hS hc hs hl hst hA hR
  unfold m_inc at h
  split at h
  · rename_i z hg
    obtain ⟨q, hq⟩ := List.getElem?_of_mem (List.mem_map.mpr ⟨(i, (0, z)), m_get_mem hg, rfl⟩ : (i, m_cv (0, z)) ∈ ls.map m_cl)
    refine lv_iinc (k := q) (x := Int32.ofInt z) (v := Int32.ofInt (w32 (z + n))) F.1 F.2.1 hd hA hq (v_add32 z n) hn rfl (fun A' hA' => ?_)
    exact hk _ _ _ _ (h _ rfl) p e s m args below meth c H locs cells slots A' F hS hc hs (m_okset1 hl (w32_i32 _)) hst (m_conv1 (v := (0, w32 (z + n))) hA') hR
  · exact h.elim
def m_b32 (f : Int → Int → Int) (k : m_C) : m_C := fun ls st ε μ => match st with
  | (0, y) :: (0, x) :: r => k ls ((0, f x y) :: r) ε μ
  | _ => False
def m_b64 (f : Int → Int → Int) (k : m_C) : m_C := fun ls st ε μ => match st with
  | (1, y) :: (1, x) :: r => k ls ((1, f x y) :: r) ε μ
  | _ => False
def m_s64 (f : Int → Int → Int) (k : m_C) : m_C := fun ls st ε μ => match st with
  | (0, y) :: (1, x) :: r => k ls ((1, f x y) :: r) ε μ
  | _ => False
def m_d32 (f : Int → Int → Int) (k : m_C) : m_C := fun ls st ε μ => match st with
  | (0, y) :: (0, x) :: r => y ≠ 0 ∧ k ls ((0, f x y) :: r) ε μ
  | _ => False
def m_d64 (f : Int → Int → Int) (k : m_C) : m_C := fun ls st ε μ => match st with
  | (1, y) :: (1, x) :: r => y ≠ 0 ∧ k ls ((1, f x y) :: r) ε μ
  | _ => False
def m_un (t t' : Nat) (f : Int → Int) (k : m_C) : m_C := fun ls st ε μ => match st with
  | (u, x) :: r => cond (Nat.beq u t) (k ls ((t', f x) :: r) ε μ) False
  | _ => False
theorem ok_iadd (hd : decode cc pc = .ok (.iadd, 1)) (hk : Le k (AW l bs D Da own cc nL rt R ex nm Q X B (pc + 1))) : Le (m_b32 (fun x y => w32 (x + y)) k) (AW l bs D Da own cc nL rt R ex nm Q X B (pc)) := by
  intro ls st ε μ h p e s m args below meth c H locs cells slots A F hS hc hs hl hst hA hR
  unfold m_b32 at h
  split at h
  · rename_i y x r
    have hy := m_a1 hst
    have hx := m_a1 (m_a2 hst)
    refine lv_iadd F.1 F.2.1 hd  ?_
    rw [show Int32.ofInt x + Int32.ofInt y = Int32.ofInt (w32 (x + y)) from v_add32 x y]
    exact hk _ _ _ _ h p e s m args below meth c H locs cells slots A F hS hc hs hl (m_ac (v := (0, _)) (w32_i32 _) (m_a2 (m_a2 hst))) hA hR
  · exact h.elim
theorem ok_isub (hd : decode cc pc = .ok (.isub, 1)) (hk : Le k (AW l bs D Da own cc nL rt R ex nm Q X B (pc + 1))) : Le (m_b32 (fun x y => w32 (x - y)) k) (AW l bs D Da own cc nL rt R ex nm Q X B (pc)) := by
  intro ls st ε μ h p e s m args below meth c H locs cells slots A F hS hc hs hl hst hA hR
  unfold m_b32 at h
  split at h
  · rename_i y x r
    have hy := m_a1 hst
    have hx := m_a1 (m_a2 hst)
    refine lv_isub F.1 F.2.1 hd  ?_
    rw [show Int32.ofInt x - Int32.ofInt y = Int32.ofInt (w32 (x - y)) from v_sub32 x y]
    exact hk _ _ _ _ h p e s m args below meth c H locs cells slots A F hS hc hs hl (m_ac (v := (0, _)) (w32_i32 _) (m_a2 (m_a2 hst))) hA hR
  · exact h.elim
theorem ok_imul (hd : decode cc pc = .ok (.imul, 1)) (hk : Le k (AW l bs D Da own cc nL rt R ex nm Q X B (pc + 1))) : Le (m_b32 (fun x y => w32 (x * y)) k) (AW l bs D Da own cc nL rt R ex nm Q X B (pc)) := by
  intro ls st ε μ h p e s m args below meth c H locs cells slots A F hS hc hs hl hst hA hR
  unfold m_b32 at h
  split at h
  · rename_i y x r
    have hy := m_a1 hst
    have hx := m_a1 (m_a2 hst)
    refine lv_imul F.1 F.2.1 hd  ?_
    rw [show Int32.ofInt x * Int32.ofInt y = Int32.ofInt (w32 (x * y)) from v_mul32 x y]
    exact hk _ _ _ _ h p e s m args below meth c H locs cells slots A F hS hc hs hl (m_ac (v := (0, _)) (w32_i32 _) (m_a2 (m_a2 hst))) hA hR
  · exact h.elim
theorem ok_ladd (hd : decode cc pc = .ok (.ladd, 1)) (hk : Le k (AW l bs D Da own cc nL rt R ex nm Q X B (pc + 1))) : Le (m_b64 (fun x y => w64 (x + y)) k) (AW l bs D Da own cc nL rt R ex nm Q X B (pc)) := by
  intro ls st ε μ h p e s m args below meth c H locs cells slots A F hS hc hs hl hst hA hR
  unfold m_b64 at h
  split at h
  · rename_i y x r
    have hy := m_a1 hst
    have hx := m_a1 (m_a2 hst)
    refine lv_ladd F.1 F.2.1 hd  ?_
    rw [show Int64.ofInt x + Int64.ofInt y = Int64.ofInt (w64 (x + y)) from v_add64 x y]
    exact hk _ _ _ _ h p e s m args below meth c H locs cells slots A F hS hc hs hl (m_ac (v := (1, _)) (w64_i64 _) (m_a2 (m_a2 hst))) hA hR
  · exact h.elim
theorem ok_lsub (hd : decode cc pc = .ok (.lsub, 1)) (hk : Le k (AW l bs D Da own cc nL rt R ex nm Q X B (pc + 1))) : Le (m_b64 (fun x y => w64 (x - y)) k) (AW l bs D Da own cc nL rt R ex nm Q X B (pc)) := by
  intro ls st ε μ h p e s m args below meth c H locs cells slots A F hS hc hs hl hst hA hR
  unfold m_b64 at h
  split at h
  · rename_i y x r
    have hy := m_a1 hst
    have hx := m_a1 (m_a2 hst)
    refine lv_lsub F.1 F.2.1 hd  ?_
    rw [show Int64.ofInt x - Int64.ofInt y = Int64.ofInt (w64 (x - y)) from v_sub64 x y]
    exact hk _ _ _ _ h p e s m args below meth c H locs cells slots A F hS hc hs hl (m_ac (v := (1, _)) (w64_i64 _) (m_a2 (m_a2 hst))) hA hR
  · exact h.elim
theorem ok_lmul (hd : decode cc pc = .ok (.lmul, 1)) (hk : Le k (AW l bs D Da own cc nL rt R ex nm Q X B (pc + 1))) : Le (m_b64 (fun x y => w64 (x * y)) k) (AW l bs D Da own cc nL rt R ex nm Q X B (pc)) := by
  intro ls st ε μ h p e s m args below meth c H locs cells slots A F hS hc hs hl hst hA hR
  unfold m_b64 at h
  split at h
  · rename_i y x r
    have hy := m_a1 hst
    have hx := m_a1 (m_a2 hst)
    refine lv_lmul F.1 F.2.1 hd  ?_
    rw [show Int64.ofInt x * Int64.ofInt y = Int64.ofInt (w64 (x * y)) from v_mul64 x y]
    exact hk _ _ _ _ h p e s m args below meth c H locs cells slots A F hS hc hs hl (m_ac (v := (1, _)) (w64_i64 _) (m_a2 (m_a2 hst))) hA hR
  · exact h.elim
theorem ok_iand (hd : decode cc pc = .ok (.iand, 1)) (hk : Le k (AW l bs D Da own cc nL rt R ex nm Q X B (pc + 1))) : Le (m_b32 (o_and32) k) (AW l bs D Da own cc nL rt R ex nm Q X B (pc)) := by
  intro ls st ε μ h p e s m args below meth c H locs cells slots A F hS hc hs hl hst hA hR
  unfold m_b32 at h
  split at h
  · rename_i y x r
    have hy := m_a1 hst
    have hx := m_a1 (m_a2 hst)
    refine lv_iand F.1 F.2.1 hd  ?_
    rw [show Int32.ofInt x &&& Int32.ofInt y = Int32.ofInt (o_and32 x y) from (to32 _).symm]
    exact hk _ _ _ _ h p e s m args below meth c H locs cells slots A F hS hc hs hl (m_ac (v := (0, _)) (toInt_i32 _) (m_a2 (m_a2 hst))) hA hR
  · exact h.elim
theorem ok_ior (hd : decode cc pc = .ok (.ior, 1)) (hk : Le k (AW l bs D Da own cc nL rt R ex nm Q X B (pc + 1))) : Le (m_b32 (o_or32) k) (AW l bs D Da own cc nL rt R ex nm Q X B (pc)) := by
  intro ls st ε μ h p e s m args below meth c H locs cells slots A F hS hc hs hl hst hA hR
  unfold m_b32 at h
  split at h
  · rename_i y x r
    have hy := m_a1 hst
    have hx := m_a1 (m_a2 hst)
    refine lv_ior F.1 F.2.1 hd  ?_
    rw [show Int32.ofInt x ||| Int32.ofInt y = Int32.ofInt (o_or32 x y) from (to32 _).symm]
    exact hk _ _ _ _ h p e s m args below meth c H locs cells slots A F hS hc hs hl (m_ac (v := (0, _)) (toInt_i32 _) (m_a2 (m_a2 hst))) hA hR
  · exact h.elim
theorem ok_land (hd : decode cc pc = .ok (.land, 1)) (hk : Le k (AW l bs D Da own cc nL rt R ex nm Q X B (pc + 1))) : Le (m_b64 (o_and64) k) (AW l bs D Da own cc nL rt R ex nm Q X B (pc)) := by
  intro ls st ε μ h p e s m args below meth c H locs cells slots A F hS hc hs hl hst hA hR
  unfold m_b64 at h
  split at h
  · rename_i y x r
    have hy := m_a1 hst
    have hx := m_a1 (m_a2 hst)
    refine lv_land F.1 F.2.1 hd  ?_
    rw [show Int64.ofInt x &&& Int64.ofInt y = Int64.ofInt (o_and64 x y) from (to64 _).symm]
    exact hk _ _ _ _ h p e s m args below meth c H locs cells slots A F hS hc hs hl (m_ac (v := (1, _)) (toInt_i64 _) (m_a2 (m_a2 hst))) hA hR
  · exact h.elim
theorem ok_lor (hd : decode cc pc = .ok (.lor, 1)) (hk : Le k (AW l bs D Da own cc nL rt R ex nm Q X B (pc + 1))) : Le (m_b64 (o_or64) k) (AW l bs D Da own cc nL rt R ex nm Q X B (pc)) := by
  intro ls st ε μ h p e s m args below meth c H locs cells slots A F hS hc hs hl hst hA hR
  unfold m_b64 at h
  split at h
  · rename_i y x r
    have hy := m_a1 hst
    have hx := m_a1 (m_a2 hst)
    refine lv_lor F.1 F.2.1 hd  ?_
    rw [show Int64.ofInt x ||| Int64.ofInt y = Int64.ofInt (o_or64 x y) from (to64 _).symm]
    exact hk _ _ _ _ h p e s m args below meth c H locs cells slots A F hS hc hs hl (m_ac (v := (1, _)) (toInt_i64 _) (m_a2 (m_a2 hst))) hA hR
  · exact h.elim
theorem ok_lxor (hd : decode cc pc = .ok (.lxor, 1)) (hk : Le k (AW l bs D Da own cc nL rt R ex nm Q X B (pc + 1))) : Le (m_b64 (o_xor64) k) (AW l bs D Da own cc nL rt R ex nm Q X B (pc)) := by
  intro ls st ε μ h p e s m args below meth c H locs cells slots A F hS hc hs hl hst hA hR
  unfold m_b64 at h
  split at h
  · rename_i y x r
    have hy := m_a1 hst
    have hx := m_a1 (m_a2 hst)
    refine lv_lxor F.1 F.2.1 hd  ?_
    rw [show Int64.ofInt x ^^^ Int64.ofInt y = Int64.ofInt (o_xor64 x y) from (to64 _).symm]
    exact hk _ _ _ _ h p e s m args below meth c H locs cells slots A F hS hc hs hl (m_ac (v := (1, _)) (toInt_i64 _) (m_a2 (m_a2 hst))) hA hR
  · exact h.elim
theorem ok_ishl (hd : decode cc pc = .ok (.ishl, 1)) (hk : Le k (AW l bs D Da own cc nL rt R ex nm Q X B (pc + 1))) : Le (m_b32 (o_shl32) k) (AW l bs D Da own cc nL rt R ex nm Q X B (pc)) := by
  intro ls st ε μ h p e s m args below meth c H locs cells slots A F hS hc hs hl hst hA hR
  unfold m_b32 at h
  split at h
  · rename_i y x r
    have hy := m_a1 hst
    have hx := m_a1 (m_a2 hst)
    refine lv_ishl F.1 F.2.1 hd  ?_
    rw [show Int32.ofInt x <<< (Int32.ofInt y &&& 31) = Int32.ofInt (o_shl32 x y) from (to32 _).symm]
    exact hk _ _ _ _ h p e s m args below meth c H locs cells slots A F hS hc hs hl (m_ac (v := (0, _)) (toInt_i32 _) (m_a2 (m_a2 hst))) hA hR
  · exact h.elim
theorem ok_iushr (hd : decode cc pc = .ok (.iushr, 1)) (hk : Le k (AW l bs D Da own cc nL rt R ex nm Q X B (pc + 1))) : Le (m_b32 (o_ushr32) k) (AW l bs D Da own cc nL rt R ex nm Q X B (pc)) := by
  intro ls st ε μ h p e s m args below meth c H locs cells slots A F hS hc hs hl hst hA hR
  unfold m_b32 at h
  split at h
  · rename_i y x r
    have hy := m_a1 hst
    have hx := m_a1 (m_a2 hst)
    refine lv_iushr F.1 F.2.1 hd (to32 _).symm ?_
    exact hk _ _ _ _ h p e s m args below meth c H locs cells slots A F hS hc hs hl (m_ac (v := (0, _)) (toInt_i32 _) (m_a2 (m_a2 hst))) hA hR
  · exact h.elim
theorem ok_lshl (hd : decode cc pc = .ok (.lshl, 1)) (hk : Le k (AW l bs D Da own cc nL rt R ex nm Q X B (pc + 1))) : Le (m_s64 (o_shl64) k) (AW l bs D Da own cc nL rt R ex nm Q X B (pc)) := by
  intro ls st ε μ h p e s m args below meth c H locs cells slots A F hS hc hs hl hst hA hR
  unfold m_s64 at h
  split at h
  · rename_i y x r
    have hy := m_a1 hst
    have hx := m_a1 (m_a2 hst)
    refine lv_lshl F.1 F.2.1 hd (to64 _).symm ?_
    exact hk _ _ _ _ h p e s m args below meth c H locs cells slots A F hS hc hs hl (m_ac (v := (1, _)) (toInt_i64 _) (m_a2 (m_a2 hst))) hA hR
  · exact h.elim
theorem ok_lshr (hd : decode cc pc = .ok (.lshr, 1)) (hk : Le k (AW l bs D Da own cc nL rt R ex nm Q X B (pc + 1))) : Le (m_s64 (o_shr64) k) (AW l bs D Da own cc nL rt R ex nm Q X B (pc)) := by
  intro ls st ε μ h p e s m args below meth c H locs cells slots A F hS hc hs hl hst hA hR
  unfold m_s64 at h
  split at h
  · rename_i y x r
    have hy := m_a1 hst
    have hx := m_a1 (m_a2 hst)
    refine lv_lshr F.1 F.2.1 hd (to64 _).symm ?_
    exact hk _ _ _ _ h p e s m args below meth c H locs cells slots A F hS hc hs hl (m_ac (v := (1, _)) (toInt_i64 _) (m_a2 (m_a2 hst))) hA hR
  · exact h.elim
theorem ok_lushr (hd : decode cc pc = .ok (.lushr, 1)) (hk : Le k (AW l bs D Da own cc nL rt R ex nm Q X B (pc + 1))) : Le (m_s64 (o_ushr64) k) (AW l bs D Da own cc nL rt R ex nm Q X B (pc)) := by
  intro ls st ε μ h p e s m args below meth c H locs cells slots A F hS hc hs hl hst hA hR
  unfold m_s64 at h
  split at h
  · rename_i y x r
    have hy := m_a1 hst
    have hx := m_a1 (m_a2 hst)
    refine lv_lushr F.1 F.2.1 hd (to64 _).symm ?_
    exact hk _ _ _ _ h p e s m args below meth c H locs cells slots A F hS hc hs hl (m_ac (v := (1, _)) (toInt_i64 _) (m_a2 (m_a2 hst))) hA hR
  · exact h.elim
theorem ok_idiv (hd : decode cc pc = .ok (.idiv, 1)) (hk : Le k (AW l bs D Da own cc nL rt R ex nm Q X B (pc + 1))) : Le (m_d32 (fun x y => w32 (Int.tdiv x y)) k) (AW l bs D Da own cc nL rt R ex nm Q X B (pc)) := by
  intro ls st ε μ h p e s m args below meth c H locs cells slots A F hS hc hs hl hst hA hR
  unfold m_d32 at h
  split at h
  · rename_i y x r
    have hy := m_a1 hst
    have hx := m_a1 (m_a2 hst)
    obtain ⟨hne, h⟩ := h
    refine lv_idiv F.1 F.2.1 hd (v_ne32 hy hne) ?_
    rw [show Int32.ofInt x / Int32.ofInt y = Int32.ofInt (w32 (Int.tdiv x y)) from v_div32 hx hy]
    exact hk _ _ _ _ h p e s m args below meth c H locs cells slots A F hS hc hs hl (m_ac (v := (0, _)) (w32_i32 _) (m_a2 (m_a2 hst))) hA hR
  · exact h.elim
theorem ok_irem (hd : decode cc pc = .ok (.irem, 1)) (hk : Le k (AW l bs D Da own cc nL rt R ex nm Q X B (pc + 1))) : Le (m_d32 (Int.tmod) k) (AW l bs D Da own cc nL rt R ex nm Q X B (pc)) := by
  intro ls st ε μ h p e s m args below meth c H locs cells slots A F hS hc hs hl hst hA hR
  unfold m_d32 at h
  split at h
  · rename_i y x r
    have hy := m_a1 hst
    have hx := m_a1 (m_a2 hst)
    obtain ⟨hne, h⟩ := h
    refine lv_irem F.1 F.2.1 hd (v_ne32 hy hne) ?_
    rw [show Int32.ofInt x - Int32.ofInt x / Int32.ofInt y * Int32.ofInt y = Int32.ofInt (Int.tmod x y) from v_rem32 hx hy]
    exact hk _ _ _ _ h p e s m args below meth c H locs cells slots A F hS hc hs hl (m_ac (v := (0, _)) (tmod_i32 hx) (m_a2 (m_a2 hst))) hA hR
  · exact h.elim
theorem ok_ldiv (hd : decode cc pc = .ok (.ldiv, 1)) (hk : Le k (AW l bs D Da own cc nL rt R ex nm Q X B (pc + 1))) : Le (m_d64 (fun x y => w64 (Int.tdiv x y)) k) (AW l bs D Da own cc nL rt R ex nm Q X B (pc)) := by
  intro ls st ε μ h p e s m args below meth c H locs cells slots A F hS hc hs hl hst hA hR
  unfold m_d64 at h
  split at h
  · rename_i y x r
    have hy := m_a1 hst
    have hx := m_a1 (m_a2 hst)
    obtain ⟨hne, h⟩ := h
    refine lv_ldiv F.1 F.2.1 hd (v_ne64 hy hne) ?_
    rw [show Int64.ofInt x / Int64.ofInt y = Int64.ofInt (w64 (Int.tdiv x y)) from v_div64 hx hy]
    exact hk _ _ _ _ h p e s m args below meth c H locs cells slots A F hS hc hs hl (m_ac (v := (1, _)) (w64_i64 _) (m_a2 (m_a2 hst))) hA hR
  · exact h.elim
theorem ok_lrem (hd : decode cc pc = .ok (.lrem, 1)) (hk : Le k (AW l bs D Da own cc nL rt R ex nm Q X B (pc + 1))) : Le (m_d64 (Int.tmod) k) (AW l bs D Da own cc nL rt R ex nm Q X B (pc)) := by
  intro ls st ε μ h p e s m args below meth c H locs cells slots A F hS hc hs hl hst hA hR
  unfold m_d64 at h
  split at h
  · rename_i y x r
    have hy := m_a1 hst
    have hx := m_a1 (m_a2 hst)
    obtain ⟨hne, h⟩ := h
    refine lv_lrem F.1 F.2.1 hd (v_ne64 hy hne) ?_
    rw [show Int64.ofInt x - Int64.ofInt x / Int64.ofInt y * Int64.ofInt y = Int64.ofInt (Int.tmod x y) from v_rem64 hx hy]
    exact hk _ _ _ _ h p e s m args below meth c H locs cells slots A F hS hc hs hl (m_ac (v := (1, _)) (tmod_i64 hx) (m_a2 (m_a2 hst))) hA hR
  · exact h.elim
theorem ok_ineg (hd : decode cc pc = .ok (.ineg, 1)) (hk : Le k (AW l bs D Da own cc nL rt R ex nm Q X B (pc + 1))) : Le (m_un 0 0 (fun x => w32 (-x)) k) (AW l bs D Da own cc nL rt R ex nm Q X B (pc)) := by
  intro ls st ε μ h p e s m args below meth c H locs cells slots A F hS hc hs hl hst hA hR
  unfold m_un at h
  split at h
  · rename_i t x r
    cases hb : Nat.beq t 0 with
    | false => simp only [hb, cond_false] at h
    | true =>
      simp only [hb, cond_true] at h
      have ht : t = 0 := Nat.eq_of_beq_eq_true hb
      subst ht
      have hx := m_a1 hst
      refine lv_ineg F.1 F.2.1 hd  ?_
      rw [show -Int32.ofInt x = Int32.ofInt (w32 (-x)) from v_neg32 x]
      exact hk _ _ _ _ h p e s m args below meth c H locs cells slots A F hS hc hs hl (m_ac (v := (0, _)) (w32_i32 _) (m_a2 hst)) hA hR
  · exact h.elim
theorem ok_lneg (hd : decode cc pc = .ok (.lneg, 1)) (hk : Le k (AW l bs D Da own cc nL rt R ex nm Q X B (pc + 1))) : Le (m_un 1 1 (fun x => w64 (-x)) k) (AW l bs D Da own cc nL rt R ex nm Q X B (pc)) := by
  intro ls st ε μ h p e s m args below meth c H locs cells slots A F hS hc hs hl hst hA hR
  unfold m_un at h
  split at h
  · rename_i t x r
    cases hb : Nat.beq t 1 with
    | false => simp only [hb, cond_false] at h
    | true =>
      simp only [hb, cond_true] at h
      have ht : t = 1 := Nat.eq_of_beq_eq_true hb
      subst ht
      have hx := m_a1 hst
      refine lv_lneg F.1 F.2.1 hd  ?_
      rw [show -Int64.ofInt x = Int64.ofInt (w64 (-x)) from v_neg64 x]
      exact hk _ _ _ _ h p e s m args below meth c H locs cells slots A F hS hc hs hl (m_ac (v := (1, _)) (w64_i64 _) (m_a2 hst)) hA hR
  · exact h.elim
theorem ok_i2l (hd : decode cc pc = .ok (.i2l, 1)) (hk : Le k (AW l bs D Da own cc nL rt R ex nm Q X B (pc + 1))) : Le (m_un 0 1 (fun x => x) k) (AW l bs D Da own cc nL rt R ex nm Q X B (pc)) := by
  intro ls st ε μ h p e s m args below meth c H locs cells slots A F hS hc hs hl hst hA hR
  unfold m_un at h
  split at h
  · rename_i t x r
    cases hb : Nat.beq t 0 with
    | false => simp only [hb, cond_false] at h
    | true =>
      simp only [hb, cond_true] at h
      have ht : t = 0 := Nat.eq_of_beq_eq_true hb
      subst ht
      have hx := m_a1 hst
      refine lv_i2l F.1 F.2.1 hd (v_i2l hx) ?_
      skip
      exact hk _ _ _ _ h p e s m args below meth c H locs cells slots A F hS hc hs hl (m_ac (v := (1, x)) (show i64 x by have h9 : i32 x := hx; unfold i32 at h9; unfold i64; omega) (m_a2 hst)) hA hR
  · exact h.elim
theorem ok_l2i (hd : decode cc pc = .ok (.l2i, 1)) (hk : Le k (AW l bs D Da own cc nL rt R ex nm Q X B (pc + 1))) : Le (m_un 1 0 (w32) k) (AW l bs D Da own cc nL rt R ex nm Q X B (pc)) := by
  intro ls st ε μ h p e s m args below meth c H locs cells slots A F hS hc hs hl hst hA hR
  unfold m_un at h
  split at h
  · rename_i t x r
    cases hb : Nat.beq t 1 with
    | false => simp only [hb, cond_false] at h
    | true =>
      simp only [hb, cond_true] at h
      have ht : t = 1 := Nat.eq_of_beq_eq_true hb
      subst ht
      have hx := m_a1 hst
      refine lv_l2i F.1 F.2.1 hd (v_l2i x) ?_
      skip
      exact hk _ _ _ _ h p e s m args below meth c H locs cells slots A F hS hc hs hl (m_ac (v := (0, _)) (w32_i32 _) (m_a2 hst)) hA hR
  · exact h.elim
theorem ok_i2b (hd : decode cc pc = .ok (.i2b, 1)) (hk : Le k (AW l bs D Da own cc nL rt R ex nm Q X B (pc + 1))) : Le (m_un 0 0 (w8) k) (AW l bs D Da own cc nL rt R ex nm Q X B (pc)) := by
  intro ls st ε μ h p e s m args below meth c H locs cells slots A F hS hc hs hl hst hA hR
  unfold m_un at h
  split at h
  · rename_i t x r
    cases hb : Nat.beq t 0 with
    | false => simp only [hb, cond_false] at h
    | true =>
      simp only [hb, cond_true] at h
      have ht : t = 0 := Nat.eq_of_beq_eq_true hb
      subst ht
      have hx := m_a1 hst
      refine lv_i2b F.1 F.2.1 hd (v_i2b x) ?_
      skip
      exact hk _ _ _ _ h p e s m args below meth c H locs cells slots A F hS hc hs hl (m_ac (v := (0, _)) (w8_i32 _) (m_a2 hst)) hA hR
  · exact h.elim
theorem ok_i2s (hd : decode cc pc = .ok (.i2s, 1)) (hk : Le k (AW l bs D Da own cc nL rt R ex nm Q X B (pc + 1))) : Le (m_un 0 0 (w16) k) (AW l bs D Da own cc nL rt R ex nm Q X B (pc)) := by
  intro ls st ε μ h p e s m args below meth c H locs cells slots A F hS hc hs hl hst hA hR
  unfold m_un at h
  split at h
  · rename_i t x r
    cases hb : Nat.beq t 0 with
    | false => simp only [hb, cond_false] at h
    | true =>
      simp only [hb, cond_true] at h
      have ht : t = 0 := Nat.eq_of_beq_eq_true hb
      subst ht
      have hx := m_a1 hst
      refine lv_i2s F.1 F.2.1 hd (v_i2s x) ?_
      skip
      exact hk _ _ _ _ h p e s m args below meth c H locs cells slots A F hS hc hs hl (m_ac (v := (0, _)) (w16_i32 _) (m_a2 hst)) hA hR
  · exact h.elim
theorem ok_i2f (hd : decode cc pc = .ok (.i2f, 1)) (hk : Le k (AW l bs D Da own cc nL rt R ex nm Q X B (pc + 1))) : Le (m_un 0 3 (o_i2f) k) (AW l bs D Da own cc nL rt R ex nm Q X B (pc)) := by
  intro ls st ε μ h p e s m args below meth c H locs cells slots A F hS hc hs hl hst hA hR
  unfold m_un at h
  split at h
  · rename_i t x r
    cases hb : Nat.beq t 0 with
    | false => simp only [hb, cond_false] at h
    | true =>
      simp only [hb, cond_true] at h
      have ht : t = 0 := Nat.eq_of_beq_eq_true hb
      subst ht
      have hx := m_a1 hst
      refine lv_i2f F.1 F.2.1 hd  ?_
      rw [show FP.i2f (Int32.ofInt x) = UInt32.ofNat (o_i2f x).toNat from u32_of (u32_ok _) _ rfl]
      exact hk _ _ _ _ h p e s m args below meth c H locs cells slots A F hS hc hs hl (m_ac (v := (3, _)) (u32_ok _) (m_a2 hst)) hA hR
  · exact h.elim
theorem ok_f2i (hd : decode cc pc = .ok (.f2i, 1)) (hk : Le k (AW l bs D Da own cc nL rt R ex nm Q X B (pc + 1))) : Le (m_un 3 0 (o_f2i) k) (AW l bs D Da own cc nL rt R ex nm Q X B (pc)) := by
  intro ls st ε μ h p e s m args below meth c H locs cells slots A F hS hc hs hl hst hA hR
  unfold m_un at h
  split at h
  · rename_i t x r
    cases hb : Nat.beq t 3 with
    | false => simp only [hb, cond_false] at h
    | true =>
      simp only [hb, cond_true] at h
      have ht : t = 3 := Nat.eq_of_beq_eq_true hb
      subst ht
      have hx := m_a1 hst
      refine lv_f2i F.1 F.2.1 hd  ?_
      rw [show FP.f2i (UInt32.ofNat x.toNat) = Int32.ofInt (o_f2i x) from (to32 _).symm]
      exact hk _ _ _ _ h p e s m args below meth c H locs cells slots A F hS hc hs hl (m_ac (v := (0, _)) (toInt_i32 _) (m_a2 hst)) hA hR
  · exact h.elim
def m_fm (k : m_C) : m_C := fun ls st ε μ => match st with
  | (3, y) :: (3, x) :: r => vf_n32 (FP.fmul (UInt32.ofNat x.toNat) (UInt32.ofNat y.toNat)) ∧ k ls ((3, o_fmul x y) :: r) ε μ
  | _ => False
theorem ok_fmul (hd : decode cc pc = .ok (.fmul, 1)) (hk : Le k (AW l bs D Da own cc nL rt R ex nm Q X B (pc + 1))) : Le (m_fm k) (AW l bs D Da own cc nL rt R ex nm Q X B (pc)) := by
  intro ls st ε μ h p e s m args below meth c H locs cells slots A F hS hc hs hl hst hA hR
  unfold m_fm at h
  split at h
  · rename_i y x r
    obtain ⟨hne, h⟩ := h
    refine lv_fmul F.1 F.2.1 hd hne ?_
    rw [show FP.fmul (UInt32.ofNat x.toNat) (UInt32.ofNat y.toNat) = UInt32.ofNat (o_fmul x y).toNat from u32_of (u32_ok _) _ rfl]
    exact hk _ _ _ _ h p e s m args below meth c H locs cells slots A F hS hc hs hl (m_ac (v := (3, _)) (u32_ok _) (m_a2 (m_a2 hst))) hA hR
  · exact h.elim
def m_dup (k : m_C) : m_C := fun ls st ε μ => match st with
  | v :: r => cond (m_c2 v) False (k ls (v :: v :: r) ε μ)
  | _ => False
def m_dup2 (k : m_C) : m_C := fun ls st ε μ => match st with
  | u :: v :: r => cond (m_c2 u) False (cond (m_c2 v) False (k ls (u :: v :: u :: v :: r) ε μ))
  | _ => False
def m_dupl (k : m_C) : m_C := fun ls st ε μ => match st with
  | v :: r => cond (m_c2 v) (k ls (v :: v :: r) ε μ) False
  | _ => False
def m_pop (k : m_C) : m_C := fun ls st ε μ => match st with
  | v :: r => cond (m_c2 v) False (k ls r ε μ)
  | _ => False
def m_pop2 (k : m_C) : m_C := fun ls st ε μ => match st with
  | v :: r => cond (m_c2 v) (k ls r ε μ) False
  | _ => False
theorem ok_dup (hd : decode cc pc = .ok (.dup, 1)) (hk : Le k (AW l bs D Da own cc nL rt R ex nm Q X B (pc + 1))) : Le (m_dup k) (AW l bs D Da own cc nL rt R ex nm Q X B (pc)) := by
  intro ls st ε μ h p e s m args below meth c H locs cells slots A F hS hc hs hl hst hA hR
  unfold m_dup at h
  split at h
  · rename_i v r
    cases hb : m_c2 v with
    | true => simp only [hb, cond_true, cond_false] at h
    | false =>
      simp only [hb, cond_true, cond_false] at h
      refine lv_dup F.1 F.2.1 hd (m_cat1 _ hb) ?_
      exact hk _ _ _ _ h p e s m args below meth c H locs cells slots A F hS hc hs hl (m_ac (m_a1 hst) hst) hA hR
  · exact h.elim
theorem ok_dupl (hd : decode cc pc = .ok (.dup2, 1)) (hk : Le k (AW l bs D Da own cc nL rt R ex nm Q X B (pc + 1))) : Le (m_dupl k) (AW l bs D Da own cc nL rt R ex nm Q X B (pc)) := by
  intro ls st ε μ h p e s m args below meth c H locs cells slots A F hS hc hs hl hst hA hR
  unfold m_dupl at h
  split at h
  · rename_i v r
    cases hb : m_c2 v with
    | false => simp only [hb, cond_true, cond_false] at h
    | true =>
      simp only [hb, cond_true, cond_false] at h
      refine lv_dup2_2 F.1 F.2.1 hd ((m_cat _).mpr hb) ?_
      exact hk _ _ _ _ h p e s m args below meth c H locs cells slots A F hS hc hs hl (m_ac (m_a1 hst) hst) hA hR
  · exact h.elim
theorem ok_pop (hd : decode cc pc = .ok (.pop, 1)) (hk : Le k (AW l bs D Da own cc nL rt R ex nm Q X B (pc + 1))) : Le (m_pop k) (AW l bs D Da own cc nL rt R ex nm Q X B (pc)) := by
  intro ls st ε μ h p e s m args below meth c H locs cells slots A F hS hc hs hl hst hA hR
  unfold m_pop at h
  split at h
  · rename_i v r
    cases hb : m_c2 v with
    | true => simp only [hb, cond_true, cond_false] at h
    | false =>
      simp only [hb, cond_true, cond_false] at h
      refine lv_pop F.1 F.2.1 hd (m_cat1 _ hb) ?_
      exact hk _ _ _ _ h p e s m args below meth c H locs cells slots A F hS hc hs hl (m_a2 hst) hA hR
  · exact h.elim
theorem ok_pop2 (hd : decode cc pc = .ok (.pop2, 1)) (hk : Le k (AW l bs D Da own cc nL rt R ex nm Q X B (pc + 1))) : Le (m_pop2 k) (AW l bs D Da own cc nL rt R ex nm Q X B (pc)) := by
  intro ls st ε μ h p e s m args below meth c H locs cells slots A F hS hc hs hl hst hA hR
  unfold m_pop2 at h
  split at h
  · rename_i v r
    cases hb : m_c2 v with
    | false => simp only [hb, cond_true, cond_false] at h
    | true =>
      simp only [hb, cond_true, cond_false] at h
      refine lv_pop2_2 F.1 F.2.1 hd ((m_cat _).mpr hb) ?_
      exact hk _ _ _ _ h p e s m args below meth c H locs cells slots A F hS hc hs hl (m_a2 hst) hA hR
  · exact h.elim
theorem ok_dup2 (hd : decode cc pc = .ok (.dup2, 1)) (hk : Le k (AW l bs D Da own cc nL rt R ex nm Q X B (pc + 1))) : Le (m_dup2 k) (AW l bs D Da own cc nL rt R ex nm Q X B (pc)) := by
  intro ls st ε μ h p e s m args below meth c H locs cells slots A F hS hc hs hl hst hA hR
  unfold m_dup2 at h
  split at h
  · rename_i u v r
    cases hb : m_c2 u with
    | true => simp only [hb, cond_true] at h
    | false =>
      cases hb2 : m_c2 v with
      | true => simp only [hb, hb2, cond_true, cond_false] at h
      | false =>
        simp only [hb, hb2, cond_false] at h
        refine lv_dup2_11 F.1 F.2.1 hd (m_cat1 _ hb) (m_cat1 _ hb2) ?_
        exact hk _ _ _ _ h p e s m args below meth c H locs cells slots A F hS hc hs hl (m_ac (m_a1 hst) (m_ac (m_a1 (m_a2 hst)) hst)) hA hR
  · exact h.elim
end Ok
