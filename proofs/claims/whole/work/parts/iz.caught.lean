set_option maxHeartbeats 1000000
/-! ===== an exception that comes out of a call is looked for in the table of the method that called (own rows: nothing of Shelf42 is used) ===== -/
section Cq
variable {e : Env} {f : JFrame} {a : Addr} {s : State}
/-- a link that stood at the start stands in the warmer tables U too, and may be noted there -/
theorem cq_link {U : State} {d i k : Nat} (hW : s.WarmedH U.vm) (h : s.vm.ClassLinks e.platform d i k) : U.vm.ClassLinks e.platform d i k ∧ (∃ j, U.vm.classes[k]? = some j) ∧ s.WarmedH (U.vm.noted d i (.cls k)) := by
  obtain ⟨_, _, _, j, hd, _, _, _, _, hj, _, ho⟩ := h.here
  obtain ⟨j', hj', -⟩ := hW.alike.2.2 _ _ hj
  exact ⟨hW.classLinks h, ⟨j', hj'⟩, hW.noted hd ho (State.rightAt_cls h)⟩
/-- one row that holds the pc and names a class: it takes the object, or the search goes on; the class is noted -/
theorem cq_row {U : State} {x : ExceptionTableEntry} {t : List ExceptionTableEntry} {k : ClassId} {ce : Cell} (hx : covers x f.pc = true) (h0 : x.catchType ≠ 0) (hl : U.vm.ClassLinks e.platform f.method.cls x.catchType k)
    (hc : U.heap[a]? = some ce) (ho : ∀ j, ce.vm ≠ .statics j) (h1 : ∃ j, U.vm.classes[ce.cls]? = some j) (h2 : ∃ j, U.vm.classes[k]? = some j) (Q : Handler → Pre) (E : CtlPost) (d : Bool) (acts : List Action) :
    wp (findHandler.go f a (x :: t)) Q E e d acts U ↔ if U.vm.assignable ce.cls k = true then Q (.found x.handlerPc) d acts (U.setVm (U.vm.noted f.method.cls x.catchType (.cls k)))
      else wp (findHandler.go f a t) Q E e d acts (U.setVm (U.vm.noted f.method.cls x.catchType (.cls k))) := by
  obtain ⟨g1, g2⟩ := (resolveClass_links e.toSetting hl).op (op := VmOp.resolveClass f.method.cls x.catchType) rfl
  have al : U.vm.Alike (U.vm.noted f.method.cls x.catchType (.cls k)) := (Vm.Alike.refl U.vm).noted _ _ _
  obtain ⟨j1, e1⟩ := h1
  obtain ⟨j2, e2⟩ := h2
  obtain ⟨i1, f1, -⟩ := al.2.2 _ _ e1
  obtain ⟨i2, f2, -⟩ := al.2.2 _ _ e2
  have as := al.assignable ce.cls k
  simp only [covers] at hx
  cases q : U.vm.assignable ce.cls k <;> rw [q] at as <;> simp [findHandler.go, hx, h0, g1, g2, hc, ho, f1, f2, as, VmOp.dirties, VmOp.acts]
/-- the search through the rows t ends at the handler k, with the tables v -/
def cq_S (e : Env) (f : JFrame) (a : Addr) (U : State) (t : List ExceptionTableEntry) (k : Nat) (v : Vm) : Prop :=
  ∀ (Q : Handler → Pre) (E : CtlPost) (d : Bool) (acts : List Action), wp (findHandler.go f a t) Q E e d acts U ↔ Q (.found k) d acts (U.setVm v)
theorem cq_find {ce : Cell} (ho : ∀ j, ce.vm ≠ .statics j) (hk : ∃ j, s.vm.classes[ce.cls]? = some j) {x : ExceptionTableEntry} {suf : List ExceptionTableEntry} (hx : covers x f.pc = true) (h0 : x.catchType ≠ 0)
    {k : ClassId} (hl : s.vm.ClassLinks e.platform f.method.cls x.catchType k) (hf : s.vm.assignable ce.cls k = true) :
    ∀ (pre : List ExceptionTableEntry) (U : State), s.WarmedH U.vm → U.heap[a]? = some ce →
      (∀ z ∈ pre, covers z f.pc = false ∨ (z.catchType ≠ 0 ∧ ∃ j, s.vm.ClassLinks e.platform f.method.cls z.catchType j ∧ s.vm.assignable ce.cls j = false)) → ∃ v, s.WarmedH v ∧ cq_S e f a U (pre ++ x :: suf) x.handlerPc v
  | [], U, hW, hc, _ => by
    obtain ⟨l1, l2, l3⟩ := cq_link hW hl
    obtain ⟨j, hj⟩ := hk
    obtain ⟨j', hj', -⟩ := hW.alike.2.2 _ _ hj
    refine ⟨_, l3, fun Q E d acts => ?_⟩
    rw [List.nil_append, cq_row hx h0 l1 hc ho ⟨j', hj'⟩ l2, hW.alike.assignable, if_pos hf]
  | z :: pre, U, hW, hc, hp => by
    have hp' := fun y hy => hp y (List.mem_cons_of_mem z hy)
    cases hz : covers z f.pc with
    | false =>
      obtain ⟨v, hv, h⟩ := cq_find ho hk hx h0 hl hf pre U hW hc hp'
      exact ⟨v, hv, fun Q E d acts => by rw [List.cons_append, Jvm.W.findHandler_go_skip hz]; exact h Q E d acts⟩
    | true =>
      rcases hp z (List.mem_cons_self ..) with h | ⟨hz0, i, hi, hn⟩
      · rw [hz] at h; cases h
      · obtain ⟨l1, l2, l3⟩ := cq_link hW hi
        obtain ⟨j, hj⟩ := id hk
        obtain ⟨j', hj', -⟩ := hW.alike.2.2 _ _ hj
        obtain ⟨v, hv, h⟩ := cq_find ho hk hx h0 hl hf pre (U.setVm (U.vm.noted f.method.cls z.catchType (.cls i))) l3 hc hp'
        refine ⟨v, hv, fun Q E d acts => ?_⟩
        rw [List.cons_append, cq_row hz hz0 l1 hc ho ⟨j', hj'⟩ l2, hW.alike.assignable, hn, if_neg (by decide)]
        exact h Q E d acts
/-- one step of the thread: the frame goes on at the handler -/
theorem cq_step {U : State} {r : List Frame} {k : Nat} {v : Vm} (h : ∀ (Q : Handler → Pre) (E : CtlPost) (d : Bool) (acts : List Action), wp (findHandler f a) Q E e d acts U ↔ Q (.found k) d acts (U.setVm v)) :
    (stepThrowing e U a (.java f :: r)).1 = (U.setVm v).setFrames (.java { f with pc := k, stack := [.ref a] } :: r) := by
  simp only [stepThrowing, searchFrame, vmDo]
  generalize hr : Sem.go _ e false [] U = res
  obtain ⟨_, rfl, _⟩ := Sem.eq_ok_of hr (a := Handler.found k) (s' := U.setVm v) (acts' := []) (by simp [h])
  rfl
end Cq
section Cr
variable {p : Program} {l : Launch} {e : Env} {R : Room} {s : State} {m : MethodId} {args : Array Value} {below : List Frame} {meth : Method} {c : Code} {T : State} {locs : List Loc} {cells slots : Nat}
/-- caught by the row x; the rows ahead don't hold the pc, or name classes that don't take the object -/
theorem cq_caught (X : Stand p l e R s m args below meth c T locs cells slots) (q : Addr) {g : JFrame} (hg : g.method = m) {ce : Cell} (hc : T.heap[q]? = some ce) (ho : ce.vm.isStatics = false) (hk : ∃ j, s.vm.classes[ce.cls]? = some j)
    (pre : List ExceptionTableEntry) (x : ExceptionTableEntry) (suf : List ExceptionTableEntry) (hs : c.exceptionTable.toList = pre ++ x :: suf)
    (hp : ∀ z ∈ pre, covers z g.pc = false ∨ (z.catchType ≠ 0 ∧ ∃ j, s.vm.ClassLinks e.platform m.cls z.catchType j ∧ s.vm.assignable ce.cls j = false))
    (hx : covers x g.pc = true) (h0 : x.catchType ≠ 0) {k : ClassId} (hl : s.vm.ClassLinks e.platform m.cls x.catchType k) (hf : s.vm.assignable ce.cls k = true) :
    ∃ v, Stand p l e R s m args below meth c (T.setVm v) locs cells slots ∧ Steps p.tables e below ((T.setTop g).pushFrame (.throwing q)) ((T.setVm v).setTop { g with pc := x.handlerPc, stack := [.ref q] }) := by
  subst hg
  obtain ⟨v, hv, h⟩ := cq_find (e := e) (f := g) (a := q) (s := s) (VmData.ne_statics_of ho) hk (suf := suf) hx h0 hl hf pre ((T.setTop g).pushFrame (.throwing q)) X.warmed hc hp
  have hall : ∀ (Q : Handler → Pre) (E : CtlPost) (d : Bool) (acts : List Action), wp (findHandler g q) Q E e d acts ((T.setTop g).pushFrame (.throwing q)) ↔ Q (.found x.handlerPc) d acts (((T.setTop g).pushFrame (.throwing q)).setVm v) := fun Q E d acts => by
    rw [Jvm.W.findHandler_eq (s := (T.setTop g).pushFrame (.throwing q)) X.method' X.code, hs]; exact h Q E d acts
  have here : At T g.method c below := X.here
  obtain ⟨hgo, hw⟩ := here.throwing q
  obtain ⟨g0, hr⟩ := X.frames_eq
  refine ⟨v, X.noted hv, Steps.head hgo hw ?_⟩
  rw [stepThread_throwing (frames_entered here.top _), cq_step hall]
  have hr' : (T.setVm v).frames = .java g0 :: below := hr
  have e1 : ((T.setTop g).pushFrame (.throwing q)).setVm v = ((T.setVm v).setTop g).pushFrame (.throwing q) := rfl
  rw [e1, State.pushFrame, State.setFrames_setFrames, State.setTop_of_frames _ hr', State.setTop_of_frames _ hr', State.setFrames_setFrames, hr, List.tail_cons]
  exact Steps.refl _
end Cr
