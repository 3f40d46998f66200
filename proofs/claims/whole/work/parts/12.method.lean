/-! ===== calls that may throw, throws, methods ===== -/
section Th
variable {l : Launch} {bs : Nat} {D : va_G} {Da : Nat → ClassId} {own : String} {cc : ByteArray} {nL : Nat} {rt : Option FieldType} {R : Room} {ex : List ExceptionTableEntry} {nm : String} {Q X : m_Po} {B : Nat × Nat} {pc : Nat} {k : m_C}
theorem m_goesX {p : Program} {e : Env} {s : State} {m : MethodId} {args : Array Value} {below : List Frame} {meth : Method} {c : Code} {H : Heap} {locs : List Loc} {cells slots mc ms : Nat} {A : Array Slot} {st0 rest : List Value} {rt' : Option FieldType} {Qc Xc : m_Po} {a : Array Value} {Qf : State → Prop}
    (hr : vx_Run p l e R s m args below meth c H locs cells slots mc ms (F0 m pc A st0) rest (m_Q bs D Da rt' Qc a) (m_X bs D Da Xc) (fun q => bs ≤ q)) (hS : va_S (fun q => bs ≤ q) s.heap H locs)
    (kx : ∀ (z : Int) (ε' : m_E) (μ' : m_M) (H1 : Heap) (locs1 : List Loc) (q : Addr) (ce : Cell), Xc z ε' μ' → HR bs D Da ε' μ' s H1 → va_S (fun q => bs ≤ q) s.heap H1 locs1 → H1[q]? = some ce → ce.vm = .none → s.vm.findClass (m_en z) = some ce.cls → vx_W p l e R s m args below meth c H1 locs1 (cells + mc) (slots + ms) Qf (F0 m pc A rest) q)
    (kk : ∀ (z : Int) (ε' : m_E) (μ' : m_M) (H1 : Heap) (locs1 : List Loc), m_okr rt' z → Qc z ε' μ' → HR bs D Da ε' μ' s H1 → va_S (fun q => bs ≤ q) s.heap H1 locs1 → W p l e R s m args below meth c H1 locs1 (cells + mc) (slots + ms) Qf (F0 m (pc + 3) A ((m_rv rt' z).toList ++ rest))) : W p l e R s m args below meth c H locs cells slots Qf (F0 m pc A st0) := by
  intro T hT X
  rcases hr T hT X with ⟨v, st₀, t, T', L, h0, X', hL, e1, e2, ⟨z, ε', μ', hv, hz, hq, hR', hF1, hF2⟩, st⟩ | ⟨q, st₀, t, T', L, E, ce, h0, X', hL, e1, e2, ⟨z, ε', μ', hE, hq, hR', hF1, hF2⟩, hce, hcv, hcl, st⟩
  · have hv' : v = m_rv rt' z := Outcome.returned.inj hv
    subst hv'
    rw [h0] at hF1 hF2
    have hal : s.vm.Alike t.vm := by rw [← e2]; exact X'.warmed.alike
    obtain ⟨t2, a1, b1⟩ := kk z ε' μ' T'.heap (locs ++ L) hz hq (by rw [e1]; exact HR.moved hal.symm hR') ⟨Nat.le_trans hS.1 (by rw [e1]; exact hF1), fun q h1 h2 => by rw [e1, hF2 q (Nat.lt_of_lt_of_le h1 hS.1) h2]; exact hS.2.1 q h1 h2, fun q hq => by
        rcases List.mem_append.mp hq with h | h
        · exact hS.2.2 q h
        · exact hL q h⟩ T' rfl X'
    exact ⟨t2, st t2 a1, b1⟩
  · subst hE
    rw [h0] at hF1 hF2
    have hal : s.vm.Alike t.vm := by rw [← e2]; exact X'.warmed.alike
    obtain ⟨t2, a1, b1⟩ := kx z ε' μ' T'.heap (locs ++ L) q ce hq (by rw [e1]; exact HR.moved hal.symm hR') ⟨Nat.le_trans hS.1 (by rw [e1]; exact hF1), fun q h1 h2 => by rw [e1, hF2 q (Nat.lt_of_lt_of_le h1 hS.1) h2]; exact hS.2.1 q h1 h2, fun q hq => by
        rcases List.mem_append.mp hq with h | h
        · exact hS.2.2 q h
        · exact hL q h⟩ (by rw [e1]; exact hce) hcv hcl T' rfl X'
    exact ⟨t2, st.trans a1, b1⟩
/-- an exception that isn't caught here goes on to the caller -/
theorem m_kx {p : Program} {e : Env} {s : State} {m : MethodId} {args : Array Value} {below : List Frame} {meth : Method} {c : Code} {cells slots mc ms : Nat} {A : Array Slot} {rest : List Value} (F : m_fix l bs D Da own cc nL rt [] nm p s m meth c) (h1 : cells + mc ≤ R.cells) (h2 : slots + ms ≤ R.slots) :
    ∀ (z : Int) (ε' : m_E) (μ' : m_M) (H1 : Heap) (locs1 : List Loc) (q : Addr) (ce : Cell), X z ε' μ' → HR bs D Da ε' μ' s H1 → va_S (fun q => bs ≤ q) s.heap H1 locs1 → H1[q]? = some ce → ce.vm = .none → s.vm.findClass (m_en z) = some ce.cls → vx_W p l e R s m args below meth c H1 locs1 (cells + mc) (slots + ms) (vx_MQ below (m_Q bs D Da rt Q) (m_X bs D Da X) args s R.cells R.slots (fun q => bs ≤ q)) (F0 m pc A rest) q := by
  intro z ε' μ' H1 locs1 q ce hx hR' hS' hce hcv hcl
  exact vx_out (fun x hx => by rw [F.fex] at hx; cases hx) F.2.2.2.2.1 hce hcv hcl (fun t ht hal => ⟨z, ε', μ', rfl, hx, HR.moved hal (by rw [ht]; exact hR'), hS'.F ht⟩) hS'.2.2 h1 h2
theorem ok_xV {kz : Int} {kk idx n maxL N : Nat} {C0 : String} {T : u_T} {y : MethodName} {bytes : ByteArray} {rt' : Option FieldType} {rm : Room} {C : m_O} (hkz : kz = kk) (h12 : kk < 12) (hcl : vwCl[kk]? = some (C0, T, N)) (hsnd : Snd l bs D Da y (.code y bytes maxL rt') rt' rm C) (hsite : m_site R B y bytes maxL rt' rm n) (hw1 : Cond.instanceMethod y ∈ lw_tbl)
    (hd : decode cc pc = .ok (.invokevirtual idx, 3)) (hsel : Cond.selects C0 y y ∈ lw_tbl) (hlk : Cond.methodLink own idx y ∈ lw_tbl)
    (hk : Le k (AW l bs D Da own cc nL rt R [] nm Q X (B.1 + rm.cells, B.2 + rm.slots) (pc + 3))) : Le (m_xV kz C (n + 1) (m_rt rt') X k) (AW l bs D Da own cc nL rt R [] nm Q X B pc) := by
  intro ls st ε μ h p e s m args below meth c H locs cells slots A F hS hc hs hl hst hA hR
  unfold m_xV at h
  cases hb : (Nat.ble (n + 1) st.length && Nat.ble (m_cs (st.drop (n + 1))) 8) with
  | false => simp only [hb, cond_false] at h
  | true =>
    simp only [hb, cond_true] at h
    rw [Bool.and_eq_true] at hb
    have hn : n + 1 ≤ st.length := Nat.le_of_ble_eq_true hb.1
    have h8 : m_cs (st.drop (n + 1)) ≤ 8 := Nat.le_of_ble_eq_true hb.2
    split at h
    · rename_i a as hta
      obtain ⟨hk1, h⟩ := h
      obtain ⟨b, rfl, hbs, hbb, r9, b2, ⟨cell, g1, g2, g3, g4⟩, b4⟩ := hR.obj (hk1.trans hkz) h12
      cases b2.symm.trans hcl
      obtain ⟨q1, q2, q3, q4, q5, q6⟩ := hsite
      have hlen : (as.map m_cv).length = n := by
        have := congrArg List.length hta
        simp at this
        simp; omega
      have hroom : 2 * (F0 m pc A (st.map m_cv)).monitorRoom + (((st.drop (n + 1)).map m_cv).map fun v => v.category).sum ≤ 8 := lv_room (by rw [m_cs_sum]; exact h8)
      have hM := hsnd _ _ _ _ _ h
      have hvs : (Value.ref b :: as.map m_cv).toArray = (((2, (b : Int) + 1) :: as).map m_cv).toArray := by rw [List.map_cons, m_ref]
      have hok9 : ∀ v ∈ (2, (b : Int) + 1) :: as, m_ok v := by rw [← hta]; exact m_argok hst
      have hpre := m_pre F hS hR hok9 hvs
      have hobj : ∃ cellB : Cell, H[b]? = some cellB ∧ cellB.vm.isStatics = false ∧ s.vm.findClass C0 = some cellB.cls := ⟨cell, g1, by rw [g3]; rfl, by rw [g2]; exact (F.ftf.2.2.2.2.1 _ _ hcl).2.1⟩
      refine m_goesX (vx_runV (Ts := []) (own := own) (C := C0) (b := b) (bytes := bytes) (maxL := maxL) (nL := nL) (n := n) (index := idx) (ret := rt') (As := as.map m_cv) (rest := (st.drop (n + 1)).map m_cv) ⟨F.1, F.2.1, F.2.2.1, F.fown, fun w hw => nomatch hw⟩ hM ⟨⟨rfl, rfl, q5.1, q5.2, m_ws F.ftf q1 rfl, List.mem_cons_self, F.ftf.w q1 rfl, F.ftf.w q2 rfl, q3, m_len1 q4, F.ftf.w hlk rfl⟩, F.ftf.w hw1 rfl, F.ftf.w hsel rfl⟩ ⟨m_blind, hobj, hpre⟩ rfl hlen hA.1 (m_splitv hn hta) hroom hd ⟨by omega, by omega⟩) hS (m_kx F (by omega) (by omega)) (fun z ε' μ' H1 locs1 hz hq hR' hS' => ?_)
      rw [← m_psh_rv]
      exact hk _ _ _ _ hq p e s m args below meth c H1 locs1 (cells + rm.cells) (slots + rm.slots) A F hS' (by show _ ≤ B.1 + rm.cells; omega) (by show _ ≤ B.2 + rm.slots; omega) hl (m_psh_ok hz (m_restok hst)) hA hR'
    · exact h.elim
theorem ok_xS {idx n maxL : Nat} {y : MethodName} {bytes : ByteArray} {rt' : Option FieldType} {rm : Room} {C : m_O} (hsnd : Snd l bs D Da y (.code y bytes maxL rt') rt' rm C) (hsite : m_site R B y bytes maxL rt' rm n) (hw1 : Cond.static y ∈ lw_tbl)
    (hd : decode cc pc = .ok (.invokestatic idx, 3)) (hlk : Cond.methodLink own idx y ∈ lw_tbl)
    (hk : Le k (AW l bs D Da own cc nL rt R [] nm Q X (B.1 + rm.cells, B.2 + rm.slots) (pc + 3))) : Le (m_xS C n (m_rt rt') X k) (AW l bs D Da own cc nL rt R [] nm Q X B pc) := by
  intro ls st ε μ h p e s m args below meth c H locs cells slots A F hS hc hs hl hst hA hR
  unfold m_xS at h
  cases hb : (Nat.ble n st.length && Nat.ble (m_cs (st.drop n)) 8) with
  | false => simp only [hb, cond_false] at h
  | true =>
    simp only [hb, cond_true] at h
    rw [Bool.and_eq_true] at hb
    have hn : n ≤ st.length := Nat.le_of_ble_eq_true hb.1
    have h8 : m_cs (st.drop n) ≤ 8 := Nat.le_of_ble_eq_true hb.2
    obtain ⟨q1, q2, q3, q4, q5, q6⟩ := hsite
    have hlen : (((st.take n).reverse).map m_cv).length = n := by simp; omega
    have hroom : 2 * (F0 m pc A (st.map m_cv)).monitorRoom + (((st.drop n).map m_cv).map fun v => v.category).sum ≤ 8 := lv_room (by rw [m_cs_sum]; exact h8)
    have hM := hsnd _ _ _ _ _ h
    have hpre : PreS s H (m_P bs D Da ((st.take n).reverse) ε μ) (((st.take n).reverse).map m_cv) := ⟨m_blind, m_pre F hS hR (m_argok hst) rfl⟩
    refine m_goesX (vx_runS (Ts := []) (own := own) (bytes := bytes) (maxL := maxL) (nL := nL) (n := n) (index := idx) (ret := rt') (As := ((st.take n).reverse).map m_cv) (rest := (st.drop n).map m_cv) ⟨F.1, F.2.1, F.2.2.1, F.fown, fun w hw => nomatch hw⟩ hM ⟨⟨rfl, rfl, q5.1, q5.2, m_ws F.ftf q1 rfl, List.mem_cons_self, F.ftf.w q1 rfl, F.ftf.w q2 rfl, q3, m_len1 q4, F.ftf.w hlk rfl⟩, F.ftf.w hw1 rfl⟩ hpre rfl hlen hA.1 (m_splits hn) hroom hd ⟨by omega, by omega⟩) hS (m_kx F (by omega) (by omega)) (fun z ε' μ' H1 locs1 hz hq hR' hS' => ?_)
    rw [← m_psh_rv]
    exact hk _ _ _ _ hq p e s m args below meth c H1 locs1 (cells + rm.cells) (slots + rm.slots) A F hS' (by show _ ≤ B.1 + rm.cells; omega) (by show _ ≤ B.2 + rm.slots; omega) hl (m_psh_ok hz (m_restok hst)) hA hR'
/-- a heap that has grown by what nothing speaks of -/
theorem HR.more {ε : m_E} {μ : m_M} {U : State} {H H' : Heap} (h : HR bs D Da ε μ U H) (hsz : H.size ≤ H'.size) (hoth : ∀ q, q < H.size → H'[q]? = H[q]?) : HR bs D Da (enx ε (H'.size + 1)) μ U H' := by
  obtain ⟨h1, h2, h3, h4, h5⟩ := h
  have hlt : ∀ {n : Nat} {z : Int}, kd ε (n + 1) = z → 0 ≤ z → n < H.size := fun {n z} e hz => by
    obtain ⟨n', e1, e2⟩ := h2 _ (by rw [e]; exact hz)
    omega
  refine ⟨rfl, fun a ha => ?_, fun n k hk hkk => ?_, fun n j hk hj => ?_, fun n hk => ?_⟩
  · obtain ⟨n, e1, e2⟩ := h2 a ha
    exact ⟨n, e1, by omega⟩
  · have hn := hlt hk (by omega)
    obtain ⟨b1, r, b2, b3, b4⟩ := h3 n k hk hkk
    exact ⟨b1, r, b2, b3.kept (hoth n hn), b4⟩
  · have hn := hlt hk (by omega)
    obtain ⟨b1, b2, b3, b4, b5⟩ := h4 n j hk hj
    exact ⟨b1, b2, b3, by rw [hoth n hn]; exact b4, b5⟩
  · have hn := hlt hk (by omega)
    obtain ⟨b1, b2, b3, b4, b5⟩ := h5 n hk
    exact ⟨b1, b2, b3, va_X.kept b4 (hoth n hn), b5⟩
def m_nms : List String := ["java/lang/RuntimeException", "java/lang/Exception"]
/-- the words of a throw -/
def m_thw (own : String) (ik ic : Nat) (cls : String) : Prop := Bundle.fit cls = true ∧ Cond.classLink own ik cls ∈ lw_tbl ∧ Cond.initialized cls ∈ lw_tbl ∧ (∀ w ∈ vx_atS own ic cls m_nms, w ∈ lw_tbl ∧ vx_ot w = true ∧ (goodWord w = true ∨ (m_nest w = true ∧ w.onTables = true)))
theorem m_hat {own cls : String} {ik ic : Nat} {s : State} {args : Array Value} (hT : TF D Da s) (h : m_thw own ik ic cls) : ∀ w ∈ vx_atS own ic cls m_nms, w.before args s = true := by
  intro w hw
  obtain ⟨h1, -, h2⟩ := h.2.2.2 w hw
  rcases h2 with h2 | h2
  · exact hT.w h1 h2
  · exact hT.n h1 h2.1 h2.2
theorem m_got {own cls : String} {ik ic : Nat} (h : m_thw own ik ic cls) : ∀ w ∈ Cond.classLink own ik cls :: Cond.initialized cls :: vx_atS own ic cls m_nms, vx_ot w = true := by
  intro w hw
  rcases List.mem_cons.mp hw with rfl | hw
  · rfl
  · rcases List.mem_cons.mp hw with rfl | hw
    · rfl
    · exact (h.2.2.2 w hw).2.1
theorem m_thx {s : State} {H : Heap} {locs : List Loc} {ε : m_E} {μ : m_M} {z : Int} {cls : String} (hz : m_en z = cls) (hS : va_S (fun q => bs ≤ q) s.heap H locs) (hR : HR bs D Da ε μ s H) (hx : ∀ n, nx ε ≤ n → X z (enx ε n) μ) : ∀ t : State, s.vm.Alike t.vm → H.size ≤ t.heap.size → (∀ q : Nat, q < H.size → t.heap[q]? = H[q]?) → m_X bs D Da X cls s t := by
  intro t hal h1 h2
  refine ⟨z, _, _, hz.symm, hx _ (by rw [hR.1]; omega), HR.moved hal (HR.more hR h1 h2), ?_, fun q h3 h4 => ?_⟩
  · have := hS.1
    omega
  · rw [h2 q (Nat.lt_of_lt_of_le h3 hS.1)]
    exact hS.2.1 q h3 h4
theorem ok_th {z : Int} {cls text : String} {ik is ic : Nat} (hz : m_en z = cls) (hw : m_thw own ik ic cls) (hs9 : Cond.stringRef own is text ∈ lw_tbl) (hRm : 6 ≤ R.frames ∧ 100 ≤ R.locals ∧ B.1 + 1 ≤ R.cells ∧ B.2 + 6 ≤ R.slots)
    (d0 : decode cc pc = .ok (.new ik, 3)) (d3 : decode cc (pc + 3) = .ok (.dup, 1)) (d4 : decode cc (pc + 4) = .ok (.ldc is, 2)) (d6 : decode cc (pc + 6) = .ok (.invokespecial ic, 3)) (d9 : decode cc (pc + 9) = .ok (.athrow, 1)) : Le (j_th z X) (AW l bs D Da own cc nL rt R [] nm Q X B pc) := by
  intro ls st ε μ h p e s m args below meth c H locs cells slots A F hS hc hs hl hst hA hR
  unfold j_th at h
  cases hb : Nat.ble (m_cs st) 8 with
  | false => simp only [hb, cond_false] at h
  | true =>
    simp only [hb, cond_true] at h
    have h8 : m_cs st ≤ 8 := Nat.le_of_ble_eq_true hb
    obtain ⟨sa, hsa⟩ := F.ftf.2.2.2.1 _ _ _ hs9
    exact vx_throwS (names := m_nms) (A := fun q => bs ≤ q) F.1 F.2.1 F.ftr F.fown hw.1 (by decide +kernel) (F.ftf.w hw.2.1 rfl) (F.ftf.w hw.2.2.1 rfl) hsa (m_hat F.ftf hw) (m_got hw) F.fsz.1 F.fsz.2 hS (by rw [hA.1, F.2.2.1]) d0 d3 d4 d6 d9 (fun x hx => by rw [F.fex] at hx; cases hx) (by show 2 + 3 < _; omega) (by rw [m_cs_sum]; show _ + (13 * (2 + 1) + 43) ≤ _; omega) (by omega) (by omega) F.2.2.2.2.1 (m_thx hz hS hR h) hS.2.2 (by omega) (by omega)
theorem ok_thw {z : Int} {cls text : String} {ik is ic : Nat} (hz : m_en z = cls) (hw : m_thw own ik ic cls) (hs9 : Cond.stringRef own is text ∈ lw_tbl) (hRm : 6 ≤ R.frames ∧ 100 ≤ R.locals ∧ B.1 + 1 ≤ R.cells ∧ B.2 + 6 ≤ R.slots)
    (d0 : decode cc pc = .ok (.new ik, 3)) (d3 : decode cc (pc + 3) = .ok (.dup, 1)) (d4 : decode cc (pc + 4) = .ok (.ldc_w is, 3)) (d7 : decode cc (pc + 7) = .ok (.invokespecial ic, 3)) (d10 : decode cc (pc + 10) = .ok (.athrow, 1)) : Le (j_th z X) (AW l bs D Da own cc nL rt R [] nm Q X B pc) := by
  intro ls st ε μ h p e s m args below meth c H locs cells slots A F hS hc hs hl hst hA hR
  unfold j_th at h
  cases hb : Nat.ble (m_cs st) 8 with
  | false => simp only [hb, cond_false] at h
  | true =>
    simp only [hb, cond_true] at h
    have h8 : m_cs st ≤ 8 := Nat.le_of_ble_eq_true hb
    obtain ⟨sa, hsa⟩ := F.ftf.2.2.2.1 _ _ _ hs9
    exact vx_throwSW (names := m_nms) (A := fun q => bs ≤ q) F.1 F.2.1 F.ftr F.fown hw.1 (by decide +kernel) (F.ftf.w hw.2.1 rfl) (F.ftf.w hw.2.2.1 rfl) hsa (m_hat F.ftf hw) (m_got hw) F.fsz.1 F.fsz.2 hS (by rw [hA.1, F.2.2.1]) d0 d3 d4 d7 d10 (fun x hx => by rw [F.fex] at hx; cases hx) (by show 2 + 3 < _; omega) (by rw [m_cs_sum]; show _ + (13 * (2 + 1) + 43) ≤ _; omega) (by omega) (by omega) F.2.2.2.2.1 (m_thx hz hS hR h) hS.2.2 (by omega) (by omega)
end Th
/-- a method's locals at its start -/
def m_args : Nat → List m_V → m_L
  | _, [] => []
  | i, v :: r => (i, v) :: m_args (cond (m_c2 v) (i + 2) (i + 1)) r
theorem m_args_lv : ∀ (as : List m_V) (i : Nat), lv_args i (as.map m_cv) = (m_args i as).map m_cl
  | [], _ => rfl
  | v :: r, i => by
    show (i, m_cv v) :: lv_args (if (m_cv v).category = 2 then i + 2 else i + 1) (r.map m_cv) = (i, m_cv v) :: (m_args (cond (m_c2 v) (i + 2) (i + 1)) r).map m_cl
    rw [← m_args_lv r]
    cases h : m_c2 v with
    | true => rw [if_pos ((m_cat v).mpr h)]; rfl
    | false => rw [if_neg (by rw [m_cat, h]; simp)]; rfl
theorem m_args_ok : ∀ {as : List m_V} {i : Nat}, (∀ v ∈ as, m_ok v) → ∀ q ∈ m_args i as, m_ok q.2
  | [], _, _, q, hq => by cases hq
  | v :: r, i, h, q, hq => by
    rcases List.mem_cons.mp hq with rfl | hq
    · exact h v List.mem_cons_self
    · exact m_args_ok (fun z hz => h z (List.mem_cons_of_mem _ hz)) q hq
theorem m_sl_len : ∀ as : List m_V, (lg_sl (as.map m_cv)).length = m_cs as
  | [] => rfl
  | v :: r => by
    have ih := m_sl_len r
    unfold lg_sl at ih ⊢
    simp only [List.map_cons, List.flatMap_cons, List.length_append, m_cs, ih]
    cases h : m_c2 v with
    | true => rw [if_pos ((m_cat v).mpr h)]; rfl
    | false => rw [if_neg (by rw [m_cat, h]; simp)]; rfl
def m_ent (cd : m_B) (nL : Nat) : m_O := fun args ε μ Q X => Nat.ble (m_cs args) nL = true ∧ G cd Q X 0 (m_args 0 args) [] ε μ
/-- all blocks of a method are sound -/
def OkM (l : Launch) (bs : Nat) (D : va_G) (Da : Nat → ClassId) (own : String) (cc : ByteArray) (nL : Nat) (rt : Option FieldType) (R : Room) (ex : List ExceptionTableEntry) (nm : String) (bud : Nat → Nat × Nat) (cd : m_B) : Prop :=
  ∀ (Q X : m_Po) (K : m_K), (∀ q, Le (K q) (AW l bs D Da own cc nL rt R ex nm Q X (bud q) q)) → ∀ q, Le (cd q K Q X) (AW l bs D Da own cc nL rt R ex nm Q X (bud q) q)
theorem G_AW {l : Launch} {bs : Nat} {D : va_G} {Da : Nat → ClassId} {own : String} {cc : ByteArray} {nL : Nat} {rt : Option FieldType} {R : Room} {ex : List ExceptionTableEntry} {nm : String} {bud : Nat → Nat × Nat} {cd : m_B} (h : OkM l bs D Da own cc nL rt R ex nm bud cd) (Q X : m_Po) (pc : Nat) : Le (G cd Q X pc) (AW l bs D Da own cc nL rt R ex nm Q X (bud pc) pc) :=
  fun ls st ε μ hG => hG (fun q => AW l bs D Da own cc nL rt R ex nm Q X (bud q) q) (fun q K hK => h Q X K hK q)
theorem m_method {l : Launch} {bs : Nat} {D : va_G} {Da : Nat → ClassId} {cc : ByteArray} {nL : Nat} {rt : Option FieldType} {R : Room} {bud : Nat → Nat × Nat} {cd : m_B} {y : MethodName} (htr : l.stackTraces = false) (hy : plainName y.cls = true) (h : OkM l bs D Da y.cls cc nL rt R [] y.name bud cd) : Snd l bs D Da y (.code y cc nL rt) rt R (m_ent cd nL) := by
  intro as ε μ Q X hC
  obtain ⟨hfit, hG⟩ := hC
  refine vx_ofW (cc := cc) (maxL := nL) (ret := rt) hy rfl ?_
  intro p e s m args below meth c s₁ B hml hex hv
  obtain ⟨rfl, hok, hT, hb, hZ, hR⟩ := hv
  have hl := lv_entry (as.map m_cv) (n := nL) (by rw [m_sl_len]; exact Nat.le_of_ble_eq_true hfit)
  rw [lg_entry_eq]
  generalize (lg_sl (as.map m_cv) ++ List.replicate (nL - (lg_sl (as.map m_cv)).length) Slot.unset).toArray = A at hl ⊢
  rw [m_args_lv] at hl
  have hexn : c.exceptionTable.toList = [] := List.eq_nil_iff_forall_not_mem.mpr (fun x hx => hex x hx)
  exact G_AW h Q X 0 _ _ _ _ hG p e s m _ below meth c s.heap [] 0 0 A ⟨B.exec, B.bytes, hml, B.returns, B.notSynchronized, findClass_of_methodNamed B.named, hexn, htr, (name_of_methodNamed B.named B.method).1, hT, hb, hZ⟩ va_S.rf (Nat.zero_le _) (Nat.zero_le _) (m_args_ok hok) (fun v hv => nomatch hv) hl hR
