/-! A call whose callee throws. -/
section PMR
variable {D : va_G} {tC : Nat → ClassId} {G : pm_G} {H0 : Heap}
variable {p : Program} {l : Launch} {e : Env} {R : Room} {s : State} {m : MethodId} {args : Array Value} {below : List Frame} {meth : Method} {c : Code} {H : Heap} {locs : List Loc} {cells slots : Nat} {Q : State → Prop}
variable {y pc d z k : Nat} {la : Array Slot} {st : List Value} {h h1 : pm_S} {as r : List Value}
theorem pm_threw {U : State} (X : Stand p l e R s m args below meth c U locs cells slots) (hM : pm_Met l D tC G H0 d z as h (.inr k) h1) (hz : z < 140) (hw0 : pm_hw z = []) (hK : pm_Kn D tC G H0 s) (hH : pm_H D tC H0 s h U.heap)
    {g : JFrame} {ig : Instr} {mk : MethodId} (hg : g.method = m) (hsize : g.locals.size = c.maxLocals) (hdg : decode c.code g.pc = .ok (ig, 3)) (hW : 2 * g.monitorRoom + (g.stack.map fun v => v.category).sum ≤ 8) (hn : U.methodNamed? (pm_nm z) = some mk)
    (hRf : d + 9 ≤ R.frames) (hRl : 64 * d + 264 ≤ R.locals) (hcap : cells + (h1.2.1 - h.2.1) ≤ R.cells ∧ slots + (h1.2.2 - h.2.2) ≤ R.slots) :
    ∃ (T' : State) (L : List Loc), Stand p l e R s m args below meth c T' (locs ++ L) (cells + (h1.2.1 - h.2.1)) (slots + (h1.2.2 - h.2.2)) ∧ (∀ q ∈ L, H0.size ≤ q.base) ∧ pm_H D tC H0 s h1 T'.heap ∧
      (∃ cell : Cell, T'.heap[h1.2.1 - 1]? = some cell ∧ cell.vm.isStatics = false ∧ s.vm.findClass (pm_xn k) = some cell.cls) ∧
      Steps p.tables e below (doInvoke e (U.setTop g) [] mk as.toArray).1 ((T'.setTop g).pushFrame (.throwing (h1.2.1 - 1))) := by
  have hKU : pm_Kn D tC G H0 U := hK.warm X.warmed
  have hHU : pm_H D tC H0 U h U.heap := hH.moved X.warmed.alike
  have hcode := hKU.word (pm_g1 z hz) (pm_cw_mv z) as.toArray
  have hcode' := hcode
  rw [pm_cw_code hw0] at hcode'
  obtain ⟨methY, cY, hmY, hcY, -, hlY, -⟩ := Cond.code_spec hn hcode'
  obtain ⟨kY, hkY, -⟩ := className_of_methodNamed hn
  have hinitY : kY.init = .initialized := Cond.initialized_spec (findClass_of_methodNamed hn) hkY (hKU.word (pm_g2 z hz) rfl as.toArray)
  have hmx := (pm_g4 z (by omega)).2.2
  have ha : At U g.method c below := by rw [hg]; exact X.here
  have hpre : (headSpec [pm_cw z] (pm_rm d (h1.2.1 - h.2.1) (h1.2.2 - h.2.2))).pre.before as.toArray U = true := atoms_intro fun w hw => by
    rw [List.mem_singleton.mp hw]
    exact hcode
  have happ : (headSpec [pm_cw z] (pm_rm d (h1.2.1 - h.2.1) (h1.2.2 - h.2.2))).appliesLoose (pm_nm z) e.platform (U.calling g mk as.toArray) = true :=
    Spec.appliesLoose_calling (g := g) ha hdg hn hkY hinitY
      (X.room_calling (g := g) (R' := pm_rm d (h1.2.1 - h.2.1) (h1.2.2 - h.2.2)) hsize hmY hcY hRf (by
        rw [hlY]
        show 2 * g.monitorRoom + (g.stack.map fun v => v.category).sum + (pm_mx z + 11) + (64 * d + 200) ≤ R.locals
        omega) hcap.1 hcap.2) hpre
  obtain ⟨mid, hmid⟩ := ha.above
  have hfr : (U.setTop g).frames = (.java g :: mid) ++ below := by rw [State.frames_setTop' g ha.top, hmid]; rfl
  obtain ⟨o, s₂, hsteps, -, hend, hq⟩ := Steps.callFree hM p X.admits X.cas X.clock (acts := []) hfr happ (pm_blind as.toArray U g mk ⟨rfl, hKU, hHU⟩) trivial
  rw [State.frames_setTop' g ha.top] at hend
  replace hq : pm_Qc D tC G H0 (.inr k) h1 as.toArray (U.calling g mk as.toArray) o s₂ ∧ ∃ L, pm_FE (U.calling g mk as.toArray) s₂ L (h1.2.1 - h.2.1) (h1.2.2 - h.2.2) ∧ ∀ q ∈ L, H0.size ≤ q.base := hq
  obtain ⟨⟨⟨ho, cell, hc1, hc2, hc3⟩, hKt, hHt⟩, L, ⟨hW₂, e2, q2, q3, q4, q5, q6⟩, hL⟩ := hq
  subst ho
  have hf₂ : s₂.frames = .throwing (h1.2.1 - 1) :: .java g :: U.frames.tail := hend
  have hW' : U.WarmedH s₂.vm := hW₂
  have e3 : s₂ = ({ (U.calling g mk as.toArray).setFrames s₂.frames with heap := s₂.heap, slotsUsed := s₂.slotsUsed } : State).setVm s₂.vm := by
    have : s₂ = ({ s₂ with vm := (U.calling g mk as.toArray).vm } : State).setVm s₂.vm := rfl
    rw [e2] at this
    exact this
  obtain ⟨g₀, hg0⟩ := Option.isSome_iff_exists.mp ha.top
  obtain ⟨rr, hr⟩ := State.topJava?_eq_some.mp hg0
  have hs₂ : s₂ = ((({ U with heap := s₂.heap, slotsUsed := s₂.slotsUsed } : State).setVm s₂.vm).setTop g).pushFrame (.throwing (h1.2.1 - 1)) := by
    have hr' : (({ U with heap := s₂.heap, slotsUsed := s₂.slotsUsed } : State).setVm s₂.vm).frames = .java g₀ :: rr := hr
    refine e3.trans ?_
    rw [hf₂, State.calling_eq ha.top, State.setFrames_setFrames, State.pushFrame, State.frames_setTop _ hr', State.setTop_of_frames _ hr', State.setFrames_setFrames, hr]
    rfl
  have hsame : U.sameButNew ({ U with heap := s₂.heap, slotsUsed := s₂.slotsUsed } : State) L (h1.2.1 - h.2.1) (h1.2.2 - h.2.2) := by
    refine ⟨?_, q2, q3, q4, q5, q6⟩
    obtain ⟨t, ht, -⟩ := State.frames_cons hr
    show ({ U with heap := s₂.heap, slotsUsed := s₂.slotsUsed } : State) = { U.setFrames U.frames with heap := s₂.heap, slotsUsed := s₂.slotsUsed }
    rw [State.setFrames_self ht]
  have hWs : s.WarmedH s₂.vm := State.WarmedH.trans X.warmed hW'
  subst hg
  refine ⟨(({ U with heap := s₂.heap, slotsUsed := s₂.slotsUsed } : State).setVm s₂.vm), L,
    ⟨X.admits, X.cas, X.clock, X.frames, X.room, X.hears, X.method, X.code, (X.here.setHeapUsed s₂.heap s₂.slotsUsed).setVm hW'.alike, X.tail, hWs, X.limits, X.bytes, X.same.trans (hsame.setVm s.vm)⟩, hL, hHt.moved hWs.alike.symm, ⟨cell, hc1, hc2, ?_⟩, ?_⟩
  · rw [← hWs.alike.findClass]
    exact hc3
  · rw [← hs₂]
    exact hsteps
theorem pm_hnd_spec {y pc k hp : Nat} (h : pm_hnd y pc k = some hp) : ∃ pre x rest, pm_hs y = pre ++ x :: rest ∧ x.1 ≤ pc ∧ pc < x.2.1 ∧ x.2.2.2 = k ∧ x.2.2.1 = hp ∧ ∀ q ∈ pre, ¬ (q.1 ≤ pc ∧ pc < q.2.1 ∧ q.2.2.2 = k) := by
  unfold pm_hnd at h
  cases hf : (pm_hs y).find? (fun q => decide (q.1 ≤ pc) && (decide (pc < q.2.1) && decide (q.2.2.2 = k))) with
  | none => rw [hf] at h; cases h
  | some x =>
    rw [hf] at h
    have hx : x.2.2.1 = hp := Option.some.inj h
    obtain ⟨h1, pre, rest, h2, h3⟩ := List.find?_eq_some_iff_append.mp hf
    simp only [Bool.and_eq_true, decide_eq_true_eq] at h1
    refine ⟨pre, x, rest, h2, h1.1, h1.2.1, h1.2.2, hx, fun q hq hc => ?_⟩
    have := h3 q hq
    simp [hc.1, hc.2.1, hc.2.2] at this
end PMR
