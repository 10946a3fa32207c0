/-! A callee throws, and the caller's handler takes it; the handlers' entries may be unresolved yet. -/
section PMG
variable {Q : Handler → Pre} {E : CtlPost} {e : Env} {d : Bool} {acts : List Action} {S : State} {f : JFrame} {a : Addr}
theorem pm_go1 {x : ExceptionTableEntry} {t : List ExceptionTableEntry} {c : ClassId} {cell : Cell} (hx : covers x f.pc = true) (h0 : x.catchType ≠ 0) (hl : S.vm.ClassLinks e.platform f.method.cls x.catchType c) (hcell : S.heap[a]? = some cell) (hobj : cell.vm.isStatics = false)
    (hk : ∃ k, S.vm.classes[cell.cls]? = some k) (hc : ∃ k, S.vm.classes[c]? = some k) :
    wp (findHandler.go f a (x :: t)) Q E e d acts S ↔ if S.vm.assignable cell.cls c = true then Q (.found x.handlerPc) d acts (S.setVm (S.vm.noted f.method.cls x.catchType (.cls c))) else wp (findHandler.go f a t) Q E e d acts (S.setVm (S.vm.noted f.method.cls x.catchType (.cls c))) := by
  simp only [covers] at hx
  obtain ⟨ha, ht⟩ := (resolveClass_links e.toSetting hl).op (op := VmOp.resolveClass f.method.cls x.catchType) rfl
  have hal : S.vm.Alike (S.vm.noted f.method.cls x.catchType (.cls c)) := (Vm.Alike.refl S.vm).noted _ _ _
  obtain ⟨k1, hk1⟩ := hk
  obtain ⟨k2, hk2⟩ := hc
  obtain ⟨k1', hk1', -⟩ := hal.2.2 _ _ hk1
  obtain ⟨k2', hk2', -⟩ := hal.2.2 _ _ hk2
  have hobj' := VmData.ne_statics_of hobj
  have hfe : (S.vm.noted f.method.cls x.catchType (.cls c)).assignable cell.cls c = S.vm.assignable cell.cls c := hal.assignable _ _
  cases hfit : S.vm.assignable cell.cls c with
  | true =>
    rw [hfit] at hfe
    simp [findHandler.go, hx, h0, ha, ht, hcell, hobj', hk1', hk2', hfe, VmOp.dirties, VmOp.acts]
  | false =>
    rw [hfit] at hfe
    simp [findHandler.go, hx, h0, ha, ht, hcell, hobj', hk1', hk2', hfe, VmOp.dirties, VmOp.acts]
end PMG
/-- an entry that covers the place and links to the class c -/
def pm_cv (s : State) (pl : Platform) (f : JFrame) (x : ExceptionTableEntry) (c : ClassId) : Prop := covers x f.pc = true ∧ x.catchType ≠ 0 ∧ s.vm.ClassLinks pl f.method.cls x.catchType c ∧ ∃ k, s.vm.classes[c]? = some k
section PMG2
variable {e : Env} {s : State} {f : JFrame} {a : Addr}
theorem pm_noted {pl : Platform} {S : State} (hW : s.WarmedH S.vm) {x : ExceptionTableEntry} {c : ClassId} (h : pm_cv s pl f x c) : s.WarmedH (S.vm.noted f.method.cls x.catchType (.cls c)) := by
  obtain ⟨dk, _, _, _, hd, _, _, _, _, _, _, hres⟩ := h.2.2.1.here
  exact hW.noted hd hres (State.rightAt_cls h.2.2.1)
theorem pm_go {cell : Cell} (hobj : cell.vm.isStatics = false) (hk : ∃ k, s.vm.classes[cell.cls]? = some k) {x : ExceptionTableEntry} {rest : List ExceptionTableEntry} {c : ClassId} (hx : pm_cv s e.platform f x c) (hyes : s.vm.assignable cell.cls c = true) :
    ∀ (pre : List ExceptionTableEntry) (S : State), s.WarmedH S.vm → S.heap[a]? = some cell → (∀ y ∈ pre, ∃ b, pm_cv s e.platform f y b ∧ s.vm.assignable cell.cls b = false) →
      ∃ vm', s.WarmedH vm' ∧ ∀ (Q : Handler → Pre) (E : CtlPost) (d : Bool) (acts : List Action), wp (findHandler.go f a (pre ++ x :: rest)) Q E e d acts S ↔ Q (.found x.handlerPc) d acts (S.setVm vm') := by
  have up : ∀ {S : State} {b : ClassId}, s.WarmedH S.vm → (∃ k, s.vm.classes[b]? = some k) → ∃ k, S.vm.classes[b]? = some k := by
    intro S b hW hb
    obtain ⟨k1, hk1⟩ := hb
    obtain ⟨k2, hk2, -⟩ := hW.alike.2.2 _ _ hk1
    exact ⟨k2, hk2⟩
  intro pre
  induction pre with
  | nil =>
    intro S hW hcell _
    refine ⟨_, pm_noted hW hx, fun Q E d acts => ?_⟩
    rw [List.nil_append, pm_go1 hx.1 hx.2.1 (hW.classLinks hx.2.2.1) hcell hobj (up hW hk) (up hW hx.2.2.2), if_pos (by rw [hW.alike.assignable]; exact hyes)]
  | cons y t ih =>
    intro S hW hcell hpre
    obtain ⟨b, hb, hno⟩ := hpre y List.mem_cons_self
    have hW1 := pm_noted hW hb
    obtain ⟨vm', hW2, hq⟩ := ih (S.setVm (S.vm.noted f.method.cls y.catchType (.cls b))) hW1 hcell (fun z hz => hpre z (List.mem_cons_of_mem _ hz))
    refine ⟨vm', hW2, fun Q E d acts => ?_⟩
    rw [List.cons_append, pm_go1 hb.1 hb.2.1 (hW.classLinks hb.2.2.1) hcell hobj (up hW hk) (up hW hb.2.2.2), if_neg (by rw [hW.alike.assignable, hno]; decide), hq]
    rfl
/-- the search ends at a handler, and leaves the tables vm' -/
theorem pm_catch {S : State} {r : List Frame} {pc : Nat} {vm' : Vm} (hfind : ∀ (Q : Handler → Pre) (E : CtlPost) (d : Bool) (acts : List Action), wp (findHandler f a) Q E e d acts S ↔ Q (.found pc) d acts (S.setVm vm')) :
    (stepThrowing e S a (.java f :: r)).1 = (S.setVm vm').setFrames (.java { f with pc := pc, stack := [.ref a] } :: r) := by
  simp only [stepThrowing, searchFrame, vmDo]
  generalize hr : Sem.go _ e false [] S = res
  obtain ⟨as, rfl, ha⟩ := Sem.eq_ok_of hr (a := Handler.found pc) (s' := S.setVm vm') (acts' := []) (by simp [hfind _ _ _ _])
  rfl
end PMG2
section PMG3
variable {p : Program} {l : Launch} {e : Env} {R : Room} {s : State} {m : MethodId} {args : Array Value} {below : List Frame} {meth : Method} {c : Code} {T : State} {locs : List Loc} {cells slots : Nat}
theorem pm_caught (X : Stand p l e R s m args below meth c T locs cells slots) {a : Addr} {g : JFrame} (hg : g.method = m) {cell : Cell} (hcell : T.heap[a]? = some cell) (hobj : cell.vm.isStatics = false) (hk : ∃ k, s.vm.classes[cell.cls]? = some k)
    {pre rest : List ExceptionTableEntry} {x : ExceptionTableEntry} {b : ClassId} (htab : c.exceptionTable.toList = pre ++ x :: rest) (hx : pm_cv s e.platform g x b) (hyes : s.vm.assignable cell.cls b = true) (hpre : ∀ y ∈ pre, ∃ b, pm_cv s e.platform g y b ∧ s.vm.assignable cell.cls b = false) :
    ∃ vm', Stand p l e R s m args below meth c (T.setVm vm') locs cells slots ∧ ∀ target, Steps p.tables e below ((T.setVm vm').setTop { g with pc := x.handlerPc, stack := [.ref a] }) target → Steps p.tables e below ((T.setTop g).pushFrame (.throwing a)) target := by
  have h : At T g.method c below := by rw [hg]; exact X.here
  have hv : ((T.setTop g).pushFrame (.throwing a)).vm = T.vm := Stand.throwing_vm T g a
  have hh : ((T.setTop g).pushFrame (.throwing a)).heap = T.heap := Stand.throwing_heap T g a
  obtain ⟨vm', hW', hq⟩ := pm_go (e := e) (f := g) (a := a) (rest := rest) hobj hk hx hyes pre ((T.setTop g).pushFrame (.throwing a)) (by rw [hv]; exact X.warmed) (by rw [hh]; exact hcell) hpre
  refine ⟨vm', X.noted hW', fun target hrest => ?_⟩
  have hm' : ((T.setTop g).pushFrame (.throwing a)).vm.method? g.method = some meth := by
    rw [hv, hg]
    exact X.method'
  have hfind : ∀ (Q : Handler → Pre) (E : CtlPost) (d : Bool) (acts : List Action), wp (findHandler g a) Q E e d acts ((T.setTop g).pushFrame (.throwing a)) ↔ Q (.found x.handlerPc) d acts (((T.setTop g).pushFrame (.throwing a)).setVm vm') := by
    intro Q E d acts
    rw [W.findHandler_eq hm' X.code, htab]
    exact hq Q E d acts
  obtain ⟨hgo, hw⟩ := h.throwing a
  refine Steps.head hgo hw ?_
  rw [stepThread_throwing (frames_entered h.top _), pm_catch (S := (T.setTop g).pushFrame (.throwing a)) hfind]
  obtain ⟨g₀, hg0⟩ := Option.isSome_iff_exists.mp h.top
  obtain ⟨r, hr⟩ := State.topJava?_eq_some.mp hg0
  have hr' : (T.setVm vm').frames = .java g₀ :: r := hr
  rw [State.setTop_of_frames _ hr'] at hrest
  have e1 : (((T.setTop g).pushFrame (.throwing a)).setVm vm').setFrames (.java { g with pc := x.handlerPc, stack := [.ref a] } :: T.frames.tail) = (T.setVm vm').setFrames (.java { g with pc := x.handlerPc, stack := [.ref a] } :: r) := by
    rw [State.pushFrame, State.setTop_of_frames _ hr, State.setFrames_setFrames, hr]
    show ((T.setFrames _).setVm vm').setFrames _ = _
    have h1 : ∀ F, (T.setFrames F).setVm vm' = (T.setVm vm').setFrames F := fun F => rfl
    rw [h1, State.setFrames_setFrames]
    rfl
  rw [e1]
  exact hrest
end PMG3
