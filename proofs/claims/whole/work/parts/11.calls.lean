/-! ===== calls, throws, a method out of its blocks ===== -/
abbrev m_O : Type := List m_V → m_E → m_M → m_Po → m_Po → Prop
def m_F : m_Po := fun _ _ _ => False
def m_psh (t : Option Nat) (z : Int) (r : m_S) : m_S := match t with
  | none => r
  | some t => (t, z) :: r
def m_rt (rt : Option FieldType) : Option Nat := match rt with
  | none => none
  | some ty => some (m_tag ty)
theorem m_psh_rv (rt : Option FieldType) (z : Int) (r : m_S) : (m_psh (m_rt rt) z r).map m_cv = (m_rv rt z).toList ++ r.map m_cv := by
  cases rt <;> rfl
theorem m_psh_ok {rt : Option FieldType} {z : Int} {r : m_S} (h : m_okr rt z) (hr : ∀ v ∈ r, m_ok v) : ∀ v ∈ m_psh (m_rt rt) z r, m_ok v := by
  cases rt with
  | none => exact hr
  | some ty => exact m_ac h hr
/-- a call of a method of the kind kk's class, of which nothing comes but a return -/
def m_cV (kk : Int) (C : m_O) (n : Nat) (t : Option Nat) (k : m_C) : m_C := fun ls st ε μ => cond (Nat.ble n st.length && Nat.ble (m_cs (st.drop n)) 8) (match (st.take n).reverse with
  | (2, a) :: as => kd ε a = kk ∧ C ((2, a) :: as) ε μ (fun z ε' μ' => k ls (m_psh t z (st.drop n)) ε' μ') m_F
  | _ => False) False
def m_cS (C : m_O) (n : Nat) (t : Option Nat) (k : m_C) : m_C := fun ls st ε μ => cond (Nat.ble n st.length && Nat.ble (m_cs (st.drop n)) 8) (C ((st.take n).reverse) ε μ (fun z ε' μ' => k ls (m_psh t z (st.drop n)) ε' μ') m_F) False
/-- .. a call that may throw -/
def m_xV (kk : Int) (C : m_O) (n : Nat) (t : Option Nat) (X : m_Po) (k : m_C) : m_C := fun ls st ε μ => cond (Nat.ble n st.length && Nat.ble (m_cs (st.drop n)) 8) (match (st.take n).reverse with
  | (2, a) :: as => kd ε a = kk ∧ C ((2, a) :: as) ε μ (fun z ε' μ' => k ls (m_psh t z (st.drop n)) ε' μ') X
  | _ => False) False
def m_xS (C : m_O) (n : Nat) (t : Option Nat) (X : m_Po) (k : m_C) : m_C := fun ls st ε μ => cond (Nat.ble n st.length && Nat.ble (m_cs (st.drop n)) 8) (C ((st.take n).reverse) ε μ (fun z ε' μ' => k ls (m_psh t z (st.drop n)) ε' μ') X) False
/-- a throw of a new exception of the kind z -/
def enx (ε : m_E) (n : Int) : m_E := (ε.1, ε.2.1, ε.2.2.1, n)
def j_th (z : Int) (X : m_Po) : m_C := fun _ st ε μ => cond (Nat.ble (m_cs st) 8) (∀ n, nx ε ≤ n → X z (enx ε n) μ) False
/-- the oracle C is right for the method y -/
def Snd (l : Launch) (bs : Nat) (D : va_G) (Da : Nat → ClassId) (y : MethodName) (hd : Cond) (rt : Option FieldType) (rm : Room) (C : m_O) : Prop := ∀ (args : List m_V) (ε : m_E) (μ : m_M) (Q X : m_Po), C args ε μ Q X → MC bs D Da l y hd rt rm args ε μ Q X
theorem MC.met {bs : Nat} {D : va_G} {Da : Nat → ClassId} {l : Launch} {y : MethodName} {hd : Cond} {rt : Option FieldType} {rm : Room} {args : List m_V} {ε : m_E} {μ : m_M} {Q : m_Po} (h : MC bs D Da l y hd rt rm args ε μ Q m_F) : Met l y [hd] rm (m_P bs D Da args ε μ) (m_Q bs D Da rt Q) rm.cells rm.slots (fun q => bs ≤ q) := by
  intro p e ha hc hk s m as below hf happ hP hK
  obtain ⟨n, o, h1, h2, h3, h4⟩ := h p e ha hc hk s m as below hf happ hP hK
  refine ⟨n, o, h1, h2, h3, ?_⟩
  rcases h4 with h4 | ⟨q, -, E, ce, L, ⟨k, ε', μ', -, hx, -⟩, -⟩
  · exact h4
  · exact hx.elim
theorem m_splits {n : Nat} {st : m_S} (h : n ≤ st.length) : st.map m_cv = (((st.take n).reverse).map m_cv).reverse ++ (st.drop n).map m_cv := by
  rw [← List.map_reverse, List.reverse_reverse, ← List.map_append, List.take_append_drop]
theorem m_splitv {n : Nat} {st : m_S} {a : Nat} {as : List m_V} (h : n ≤ st.length) (e : (st.take n).reverse = (2, (a : Int) + 1) :: as) : st.map m_cv = ((as.map m_cv).reverse) ++ .ref a :: (st.drop n).map m_cv := by
  rw [m_splits h, e, List.map_cons, List.reverse_cons, m_ref, List.append_assoc]
  rfl
theorem m_argok {n : Nat} {st : m_S} (h : ∀ v ∈ st, m_ok v) : ∀ v ∈ (st.take n).reverse, m_ok v := fun v hv => h v (List.mem_of_mem_take (List.mem_reverse.mp hv))
theorem m_restok {n : Nat} {st : m_S} (h : ∀ v ∈ st, m_ok v) : ∀ v ∈ st.drop n, m_ok v := fun v hv => h v (List.mem_of_mem_drop hv)
section Cl
variable {l : Launch} {bs : Nat} {D : va_G} {Da : Nat → ClassId} {own : String} {cc : ByteArray} {nL : Nat} {rt : Option FieldType} {R : Room} {ex : List ExceptionTableEntry} {nm : String} {Q X : m_Po} {B : Nat × Nat} {pc : Nat} {k : m_C}
/-- what a callee finds -/
theorem m_pre {p : Program} {s : State} {m : MethodId} {meth : Method} {c : Code} {H : Heap} {locs : List Loc} {ε : m_E} {μ : m_M} (F : m_fix l bs D Da own cc nL rt ex nm p s m meth c) (hS : va_S (fun q => bs ≤ q) s.heap H locs) (hR : HR bs D Da ε μ s H) {as : List m_V} (has : ∀ v ∈ as, m_ok v) {vs : Array Value} (hv : vs = (as.map m_cv).toArray) : ∀ U : State, U.heap = H → s.WarmedH U.vm → m_P bs D Da as ε μ vs U := by
  intro U hU hW
  refine ⟨hv, has, F.ftf.warm hW, ?_, ⟨?_, ?_⟩, ?_⟩
  · rw [hU]; exact Nat.le_trans F.fbs hS.1
  · rw [hU]; exact vx_Zq.moved hW.alike (F.fsz.1.kept hS.2.1)
  · rw [hU]; exact vx_Zq.moved hW.alike (F.fsz.2.kept hS.2.1)
  · rw [hU]; exact HR.moved hW.alike hR
/-- behind a call that returns -/
theorem m_goes {p : Program} {e : Env} {s : State} {m : MethodId} {args : Array Value} {below : List Frame} {meth : Method} {c : Code} {H : Heap} {locs : List Loc} {cells slots mc ms : Nat} {A : Array Slot} {st0 rest : List Value} {rt' : Option FieldType} {Qc : m_Po} {a : Array Value} {Qf : State → Prop}
    (hr : va_Run p l e R s m args below meth c H locs cells slots mc ms (F0 m pc A st0) rest (m_Q bs D Da rt' Qc a) (fun q => bs ≤ q)) (hS : va_S (fun q => bs ≤ q) s.heap H locs)
    (kk : ∀ (z : Int) (ε' : m_E) (μ' : m_M) (H1 : Heap) (locs1 : List Loc), m_okr rt' z → Qc z ε' μ' → HR bs D Da ε' μ' s H1 → va_S (fun q => bs ≤ q) s.heap H1 locs1 → W p l e R s m args below meth c H1 locs1 (cells + mc) (slots + ms) Qf (F0 m (pc + 3) A ((m_rv rt' z).toList ++ rest))) : W p l e R s m args below meth c H locs cells slots Qf (F0 m pc A st0) := by
  intro T hT X
  obtain ⟨v, st₀, t, T', L, h0, X', hL, e1, e2, ⟨z, ε', μ', hv, hz, hq, hR', hF1, hF2⟩, st⟩ := hr T hT X
  have hv' : v = m_rv rt' z := Outcome.returned.inj hv
  subst hv'
  rw [h0] at hF1 hF2
  have hal : s.vm.Alike t.vm := by rw [← e2]; exact X'.warmed.alike
  obtain ⟨t2, a1, b1⟩ := kk z ε' μ' T'.heap (locs ++ L) hz hq (by rw [e1]; exact HR.moved hal.symm hR') ⟨Nat.le_trans hS.1 (by rw [e1]; exact hF1), fun q h1 h2 => by rw [e1, hF2 q (Nat.lt_of_lt_of_le h1 hS.1) h2]; exact hS.2.1 q h1 h2, fun q hq => by
      rcases List.mem_append.mp hq with h | h
      · exact hS.2.2 q h
      · exact hL q h⟩ T' rfl X'
  exact ⟨t2, st t2 a1, b1⟩
theorem m_len1 {y : MethodName} {n : Nat} (h : (parseMethodDescriptor y.desc).map (fun d => d.parameters.length) = some n) : ∀ sig, parseMethodDescriptor y.desc = some sig → n = sig.parameters.length := by
  intro sig hs
  rw [hs] at h
  exact (Option.some.inj h).symm
theorem m_ws {s : State} {hd : Cond} (hT : TF D Da s) (hm : hd ∈ lw_tbl) (hg : goodWord hd = true) : ∀ w ∈ [hd], ∀ (a' : Array Value) (U : State), s.WarmedH U.vm → w.before a' U = true := by
  intro w hw a' U hW
  rw [List.mem_singleton.mp hw]
  exact word_at hW (good_of_word hg) (hT.w (args := a') hm hg)
/-- what a call site must show: its words, its room -/
def m_site (R : Room) (B : Nat × Nat) (y : MethodName) (bytes : ByteArray) (maxL : Nat) (rt' : Option FieldType) (rm : Room) (n : Nat) : Prop :=
  Cond.code y bytes maxL rt' ∈ lw_tbl ∧ Cond.initialized y.cls ∈ lw_tbl ∧ (y.cls ≠ "java/lang/invoke/MethodHandle" ∧ y.cls ≠ "java/lang/invoke/VarHandle") ∧ (parseMethodDescriptor y.desc).map (fun d => d.parameters.length) = some n ∧ (rm.frames + 1 ≤ R.frames ∧ 8 + (maxL + 11) + rm.locals ≤ R.locals) ∧ (B.1 + rm.cells ≤ R.cells ∧ B.2 + rm.slots ≤ R.slots)
theorem ok_cS {idx n maxL : Nat} {y : MethodName} {bytes : ByteArray} {rt' : Option FieldType} {rm : Room} {C : m_O} (hsnd : Snd l bs D Da y (.code y bytes maxL rt') rt' rm C) (hsite : m_site R B y bytes maxL rt' rm n) (hw1 : Cond.static y ∈ lw_tbl) (hlk : Cond.methodLink own idx y ∈ lw_tbl ∨ ∃ host, Cond.methodLinkNest own idx y host ∈ lw_tbl) (hd : decode cc pc = .ok (.invokestatic idx, 3)) (hk : Le k (AW l bs D Da own cc nL rt R ex nm Q X (B.1 + rm.cells, B.2 + rm.slots) (pc + 3))) : Le (m_cS C n (m_rt rt') k) (AW l bs D Da own cc nL rt R ex nm Q X B pc) := by
  intro ls st ε μ h p e s m args below meth c H locs cells slots A F hS hc hs hl hst hA hR
  unfold m_cS at h
  cases hb : (Nat.ble n st.length && Nat.ble (m_cs (st.drop n)) 8) with
  | false => simp only [hb, cond_false] at h
  | true =>
    simp only [hb, cond_true] at h
    rw [Bool.and_eq_true] at hb
    have hn : n ≤ st.length := Nat.le_of_ble_eq_true hb.1
    have h8 : m_cs (st.drop n) ≤ 8 := Nat.le_of_ble_eq_true hb.2
    obtain ⟨q1, q2, q3, q4, q5, q6⟩ := hsite
    have hlen : (((st.take n).reverse).map m_cv).length = n := by simp; omega
    have hroom : 2 * (F0 m pc A (st.map m_cv)).monitorRoom + (((st.drop n).map m_cv).map fun v => v.category).sum ≤ 8 := lv_room (by rw [m_cs_sum]; exact h8)
    have kk : ∀ (z : Int) (ε' : m_E) (μ' : m_M) (H1 : Heap) (locs1 : List Loc), m_okr rt' z → k ls (m_psh (m_rt rt') z (st.drop n)) ε' μ' → HR bs D Da ε' μ' s H1 → va_S (fun q => bs ≤ q) s.heap H1 locs1 → W p l e R s m args below meth c H1 locs1 (cells + rm.cells) (slots + rm.slots) (vx_MQ below (m_Q bs D Da rt Q) (m_X bs D Da X) args s R.cells R.slots (fun q => bs ≤ q)) (F0 m (pc + 3) A ((m_rv rt' z).toList ++ (st.drop n).map m_cv)) := by
      intro z ε' μ' H1 locs1 hz hq hR' hS'
      rw [← m_psh_rv]
      exact hk _ _ _ _ hq p e s m args below meth c H1 locs1 (cells + rm.cells) (slots + rm.slots) A F hS' (by show _ ≤ B.1 + rm.cells; omega) (by show _ ≤ B.2 + rm.slots; omega) hl (m_psh_ok hz (m_restok hst)) hA hR'
    have hM := (hsnd _ _ _ _ _ h).met
    have hpre : PreS s H (m_P bs D Da ((st.take n).reverse) ε μ) (((st.take n).reverse).map m_cv) := ⟨m_blind, m_pre F hS hR (m_argok hst) rfl⟩
    rcases hlk with hlk | ⟨host, hlk⟩
    · exact m_goes (va_runS (Ts := []) (own := own) (bytes := bytes) (maxL := maxL) (nL := nL) (n := n) (index := idx) (ret := rt') (As := ((st.take n).reverse).map m_cv) (rest := (st.drop n).map m_cv) ⟨F.1, F.2.1, F.2.2.1, F.fown, fun w hw => nomatch hw⟩ hM ⟨⟨rfl, rfl, q5.1, q5.2, m_ws F.ftf q1 rfl, List.mem_cons_self, F.ftf.w q1 rfl, F.ftf.w q2 rfl, q3, m_len1 q4, F.ftf.w hlk rfl⟩, F.ftf.w hw1 rfl⟩ hpre rfl hlen hA.1 (m_splits hn) hroom hd ⟨by omega, by omega⟩) hS kk
    · exact m_goes (va_runSN (Ts := []) (own := own) (bytes := bytes) (maxL := maxL) (nL := nL) (n := n) (index := idx) (ret := rt') (As := ((st.take n).reverse).map m_cv) (rest := (st.drop n).map m_cv) ⟨F.1, F.2.1, F.2.2.1, F.fown, fun w hw => nomatch hw⟩ hM ⟨⟨⟨rfl, rfl, q5.1, q5.2, m_ws F.ftf q1 rfl, List.mem_cons_self⟩, F.ftf.w q1 rfl, F.ftf.w q2 rfl, q3, m_len1 q4, F.ftf.n hlk rfl rfl⟩, F.ftf.w hw1 rfl, trivial⟩ hpre rfl hlen hA.1 (m_splits hn) hroom hd ⟨by omega, by omega⟩) hS kk
theorem ok_cV {kz : Int} {kk idx n maxL N : Nat} {C0 : String} {T : u_T} {y : MethodName} {bytes : ByteArray} {rt' : Option FieldType} {rm : Room} {C : m_O} (hkz : kz = kk) (h12 : kk < 12) (hcl : vwCl[kk]? = some (C0, T, N)) (hsnd : Snd l bs D Da y (.code y bytes maxL rt') rt' rm C) (hsite : m_site R B y bytes maxL rt' rm n) (hw1 : Cond.instanceMethod y ∈ lw_tbl)
    (hlk : (decode cc pc = .ok (.invokevirtual idx, 3) ∧ Cond.selects C0 y y ∈ lw_tbl ∧ (Cond.methodLink own idx y ∈ lw_tbl ∨ ∃ host, Cond.methodLinkNest own idx y host ∈ lw_tbl)) ∨ (decode cc pc = .ok (.invokespecial idx, 3) ∧ rt' = none ∧ y.name = "<init>" ∧ (Cond.methodLink own idx y ∈ lw_tbl ∨ ∃ host, Cond.methodLinkNest own idx y host ∈ lw_tbl)))
    (hk : Le k (AW l bs D Da own cc nL rt R ex nm Q X (B.1 + rm.cells, B.2 + rm.slots) (pc + 3))) : Le (m_cV kz C (n + 1) (m_rt rt') k) (AW l bs D Da own cc nL rt R ex nm Q X B pc) := by
  intro ls st ε μ h p e s m args below meth c H locs cells slots A F hS hc hs hl hst hA hR
  unfold m_cV at h
  cases hb : (Nat.ble (n + 1) st.length && Nat.ble (m_cs (st.drop (n + 1))) 8) with
  | false => simp only [hb, cond_false] at h
  | true =>
    simp only [hb, cond_true] at h
    rw [Bool.and_eq_true] at hb
    have hn : n + 1 ≤ st.length := Nat.le_of_ble_eq_true hb.1
    have h8 : m_cs (st.drop (n + 1)) ≤ 8 := Nat.le_of_ble_eq_true hb.2
    split at h
    · rename_i a as hta
      obtain ⟨hk1, h⟩ := h
      obtain ⟨b, rfl, hbs, hbb, r9, b2, ⟨cell, g1, g2, g3, g4⟩, b4⟩ := hR.obj (hk1.trans hkz) h12
      cases b2.symm.trans hcl
      obtain ⟨q1, q2, q3, q4, q5, q6⟩ := hsite
      have hlen : (as.map m_cv).length = n := by
        have := congrArg List.length hta
        simp at this
        simp; omega
      have hroom : 2 * (F0 m pc A (st.map m_cv)).monitorRoom + (((st.drop (n + 1)).map m_cv).map fun v => v.category).sum ≤ 8 := lv_room (by rw [m_cs_sum]; exact h8)
      have kk : ∀ (z : Int) (ε' : m_E) (μ' : m_M) (H1 : Heap) (locs1 : List Loc), m_okr rt' z → k ls (m_psh (m_rt rt') z (st.drop (n + 1))) ε' μ' → HR bs D Da ε' μ' s H1 → va_S (fun q => bs ≤ q) s.heap H1 locs1 → W p l e R s m args below meth c H1 locs1 (cells + rm.cells) (slots + rm.slots) (vx_MQ below (m_Q bs D Da rt Q) (m_X bs D Da X) args s R.cells R.slots (fun q => bs ≤ q)) (F0 m (pc + 3) A ((m_rv rt' z).toList ++ (st.drop (n + 1)).map m_cv)) := by
        intro z ε' μ' H1 locs1 hz hq hR' hS'
        rw [← m_psh_rv]
        exact hk _ _ _ _ hq p e s m args below meth c H1 locs1 (cells + rm.cells) (slots + rm.slots) A F hS' (by show _ ≤ B.1 + rm.cells; omega) (by show _ ≤ B.2 + rm.slots; omega) hl (m_psh_ok hz (m_restok hst)) hA hR'
      have hM := (hsnd _ _ _ _ _ h).met
      have hvs : (Value.ref b :: as.map m_cv).toArray = (((2, (b : Int) + 1) :: as).map m_cv).toArray := by rw [List.map_cons, m_ref]
      have hok9 : ∀ v ∈ (2, (b : Int) + 1) :: as, m_ok v := by rw [← hta]; exact m_argok hst
      have hpre := m_pre F hS hR hok9 hvs
      have hobj : ∃ cellB : Cell, H[b]? = some cellB ∧ cellB.vm.isStatics = false ∧ s.vm.findClass C0 = some cellB.cls := ⟨cell, g1, by rw [g3]; rfl, by rw [g2]; exact (F.ftf.2.2.2.2.1 _ _ hcl).2.1⟩
      rcases hlk with ⟨hd, hsel, hlk⟩ | ⟨hd, hrn, hin, hlk⟩
      · rcases hlk with hlk | ⟨host, hlk⟩
        · exact m_goes (va_runV (Ts := []) (own := own) (C := C0) (b := b) (bytes := bytes) (maxL := maxL) (nL := nL) (n := n) (index := idx) (ret := rt') (As := as.map m_cv) (rest := (st.drop (n + 1)).map m_cv) ⟨F.1, F.2.1, F.2.2.1, F.fown, fun w hw => nomatch hw⟩ hM ⟨⟨rfl, rfl, q5.1, q5.2, m_ws F.ftf q1 rfl, List.mem_cons_self, F.ftf.w q1 rfl, F.ftf.w q2 rfl, q3, m_len1 q4, F.ftf.w hlk rfl⟩, F.ftf.w hw1 rfl, F.ftf.w hsel rfl⟩ ⟨m_blind, hobj, hpre⟩ rfl hlen hA.1 (m_splitv hn hta) hroom hd ⟨by omega, by omega⟩) hS kk
        · exact m_goes (va_runVN (Ts := []) (own := own) (C := C0) (b := b) (bytes := bytes) (maxL := maxL) (nL := nL) (n := n) (index := idx) (ret := rt') (As := as.map m_cv) (rest := (st.drop (n + 1)).map m_cv) ⟨F.1, F.2.1, F.2.2.1, F.fown, fun w hw => nomatch hw⟩ hM ⟨⟨⟨rfl, rfl, q5.1, q5.2, m_ws F.ftf q1 rfl, List.mem_cons_self⟩, F.ftf.w q1 rfl, F.ftf.w q2 rfl, q3, m_len1 q4, F.ftf.n hlk rfl rfl⟩, F.ftf.w hw1 rfl, F.ftf.w hsel rfl⟩ ⟨m_blind, hobj, hpre⟩ rfl hlen hA.1 (m_splitv hn hta) hroom hd ⟨by omega, by omega⟩) hS kk
      · subst hrn
        rcases hlk with hlk | ⟨host, hlk⟩
        · exact m_goes (va_runI (Ts := []) (own := own) (b := b) (bytes := bytes) (maxL := maxL) (nL := nL) (n := n) (index := idx) (As := as.map m_cv) (rest := (st.drop (n + 1)).map m_cv) ⟨F.1, F.2.1, F.2.2.1, F.fown, fun w hw => nomatch hw⟩ hM ⟨⟨rfl, rfl, q5.1, q5.2, m_ws F.ftf q1 rfl, List.mem_cons_self, F.ftf.w q1 rfl, F.ftf.w q2 rfl, q3, m_len1 q4, F.ftf.w hlk rfl⟩, hin, F.ftf.w hw1 rfl⟩ ⟨m_blind, hpre⟩ rfl hlen hA.1 (m_splitv hn hta) hroom hd ⟨by omega, by omega⟩) hS kk
        · exact m_goes (va_runIN (Ts := []) (own := own) (b := b) (bytes := bytes) (maxL := maxL) (nL := nL) (n := n) (index := idx) (As := as.map m_cv) (rest := (st.drop (n + 1)).map m_cv) ⟨F.1, F.2.1, F.2.2.1, F.fown, fun w hw => nomatch hw⟩ hM ⟨⟨⟨rfl, rfl, q5.1, q5.2, m_ws F.ftf q1 rfl, List.mem_cons_self⟩, F.ftf.w q1 rfl, F.ftf.w q2 rfl, q3, m_len1 q4, F.ftf.n hlk rfl rfl⟩, hin, F.ftf.w hw1 rfl⟩ ⟨m_blind, hpre⟩ rfl hlen hA.1 (m_splitv hn hta) hroom hd ⟨by omega, by omega⟩) hS kk
    · exact h.elim
end Cl
