def pm_hci (k : Nat) : Nat := ([280, 281, 662] : List Nat).getD k 0
theorem pm_h1 : ∀ y, y < 141 → (pm_hs y).length = (pm_hw y).length ∧ ∀ i, i < (pm_hs y).length → ((pm_hs y).getD i (0, 0, 0, 0)).1 = ((pm_hw y).getD i (0, 0, 0, 0)).1 ∧ ((pm_hs y).getD i (0, 0, 0, 0)).2.1 = ((pm_hw y).getD i (0, 0, 0, 0)).2.1 ∧ ((pm_hs y).getD i (0, 0, 0, 0)).2.2.1 = ((pm_hw y).getD i (0, 0, 0, 0)).2.2.1 ∧ ((pm_hw y).getD i (0, 0, 0, 0)).2.2.2 ≠ 0 ∧ ((pm_hs y).getD i (0, 0, 0, 0)).2.2.2 < 3 ∧ lw_tbl[pm_hci ((pm_hs y).getD i (0, 0, 0, 0)).2.2.2]? = some (.classLink (pm_on (pm_own y)) ((pm_hw y).getD i (0, 0, 0, 0)).2.2.2 (pm_xn ((pm_hs y).getD i (0, 0, 0, 0)).2.2.2)) := by decide +kernel
theorem pm_h2 : ∀ y, y < 141 → ∀ q ∈ pm_hs y, ∀ r ∈ pm_hs y, q.1 = r.1 ∧ q.2.1 = r.2.1 := by decide +kernel
/-! A virtual call that throws into a handler of the caller's. -/
section PMV
variable {D : va_G} {tC : Nat → ClassId} {G : pm_G} {H0 : Heap}
variable {p : Program} {l : Launch} {e : Env} {R : Room} {s : State} {m : MethodId} {args : Array Value} {below : List Frame} {meth : Method} {c : Code} {H : Heap} {locs : List Loc} {cells slots : Nat} {Q : State → Prop}
variable {y pc d z k : Nat} {la : Array Slot} {st : List Value} {h h1 : pm_S} {as r : List Value}
/-- the caller's table, split at the handler that takes the exception -/
theorem pm_split {e : Env} (hK : pm_Kn D tC G H0 s) (hpl : e.platform.magicAccessors = ({} : Platform).magicAccessors) (hown : s.vm.findClass (pm_on (pm_own y)) = some m.cls) (hy : y < 141) (hex : c.exceptionTable.toList.map (fun x => (x.startPc, x.endPc, x.handlerPc, x.catchType)) = pm_hw y) {hp : Nat} (hhd : pm_hnd y pc k = some hp) {g : JFrame} (hg : g.method = m) (hgp : g.pc = pc) {cell : Cell} (hcl : s.vm.findClass (pm_xn k) = some cell.cls) (hk3 : k < 3) :
    ∃ pre x rest b, c.exceptionTable.toList = pre ++ x :: rest ∧ pm_cv s e.platform g x b ∧ s.vm.assignable cell.cls b = true ∧ x.handlerPc = hp ∧ ∀ q ∈ pre, ∃ b, pm_cv s e.platform g q b ∧ s.vm.assignable cell.cls b = false := by
  obtain ⟨pr, x0, re, h1, h2, h3, h4, h5, h6⟩ := pm_hnd_spec hhd
  obtain ⟨f1, f2⟩ := pm_h1 y hy
  generalize hL : c.exceptionTable.toList = L at hex ⊢
  have hlen : L.length = (pm_hs y).length := by
    rw [f1, ← hex, List.length_map]
  have hat : ∀ i (hi : i < L.length), ((pm_hw y).getD i (0, 0, 0, 0)) = (L[i].startPc, L[i].endPc, L[i].handlerPc, L[i].catchType) := by
    intro i hi
    rw [← hex, List.getD_eq_getElem?_getD, List.getElem?_map, List.getElem?_eq_getElem hi]
    rfl
  have hcv : ∀ i (hi : i < L.length), pm_cv s e.platform g L[i] ((s.vm.findClass (pm_xn ((pm_hs y).getD i (0, 0, 0, 0)).2.2.2)).getD 0) ∧ s.vm.findClass (pm_xn ((pm_hs y).getD i (0, 0, 0, 0)).2.2.2) = some ((s.vm.findClass (pm_xn ((pm_hs y).getD i (0, 0, 0, 0)).2.2.2)).getD 0) := by
    intro i hi
    have hi' : i < (pm_hs y).length := by omega
    obtain ⟨a1, a2, a3, a4, a5, a6⟩ := f2 i hi'
    rw [hat i hi] at a1 a2 a3 a4 a6
    dsimp only at a1 a2 a3 a4 a6
    have hm : (pm_hs y).getD i (0, 0, 0, 0) ∈ pm_hs y := by
      rw [List.getD_eq_getElem?_getD, List.getElem?_eq_getElem hi']
      exact List.getElem_mem _
    have hx0 : x0 ∈ pm_hs y := by rw [h1]; exact List.mem_append_right _ List.mem_cons_self
    obtain ⟨b1, b2⟩ := pm_h2 y hy _ hm _ hx0
    obtain ⟨c', hc', hcl'⟩ := Cond.classLink_spec hown (hK.word a6 rfl #[]) e.platform hpl
    obtain ⟨_, _, _, kt, _, _, _, _, _, hkt, _, _⟩ := hcl'.here
    rw [hc']
    refine ⟨⟨?_, a4, ?_, ⟨kt, hkt⟩⟩, rfl⟩
    · unfold covers
      rw [hgp, ← a1, ← a2, b1, b2]
      simp [h2, h3]
    · rw [hg]
      exact hcl'
  have hn : pr.length < L.length := by
    rw [hlen, h1]
    simp
  have hx0 : (pm_hs y).getD pr.length (0, 0, 0, 0) = x0 := by
    rw [h1, List.getD_eq_getElem?_getD, List.getElem?_append_right (Nat.le_refl _), Nat.sub_self]
    rfl
  obtain ⟨v1, v2⟩ := hcv pr.length hn
  rw [hx0, h4] at v1 v2
  rw [hcl] at v1 v2
  refine ⟨L.take pr.length, L[pr.length], L.drop (pr.length + 1), _, ?_, v1, ?_, ?_, fun q hq => ?_⟩
  · rw [← List.drop_eq_getElem_cons hn, List.take_append_drop]
  · exact va_asg _ _
  · have a3 := (f2 pr.length (by omega)).2.2.1
    rw [hat _ hn, hx0] at a3
    dsimp only at a3
    rw [← a3, h5]
  · obtain ⟨i, hi, hqi⟩ := List.getElem_of_mem hq
    have hi2 : i < pr.length := by
      have := hi
      rw [List.length_take] at this
      omega
    have hiL : i < L.length := by omega
    have hqe : q = L[i] := by
      rw [← hqi, List.getElem_take]
    obtain ⟨u1, u2⟩ := hcv i hiL
    refine ⟨_, by rw [hqe]; exact u1, ?_⟩
    have hpi : (pm_hs y).getD i (0, 0, 0, 0) ∈ pr := by
      rw [h1, List.getD_eq_getElem?_getD, List.getElem?_append_left hi2, List.getElem?_eq_getElem hi2]
      exact List.getElem_mem _
    have hm0 : (pm_hs y).getD i (0, 0, 0, 0) ∈ pm_hs y := by
      have hpi2 := List.mem_append_left (x0 :: re) hpi
      rw [← h1] at hpi2
      exact hpi2
    have hx0' : x0 ∈ pm_hs y := by rw [h1]; exact List.mem_append_right _ List.mem_cons_self
    obtain ⟨b1, b2⟩ := pm_h2 y hy _ hm0 _ hx0'
    have hne : k ≠ ((pm_hs y).getD i (0, 0, 0, 0)).2.2.2 := fun z => h6 _ hpi ⟨by rw [b1]; exact h2, by rw [b2]; exact h3, z.symm⟩
    obtain ⟨c0, t0, w1, w2, w3⟩ := hK.2.2.2.2.2.2.2.2 k _ hk3 (f2 i (by omega)).2.2.2.2.1 hne
    cases hcl.symm.trans w1
    rw [w2]
    exact w3
set_option maxHeartbeats 1000000 in
theorem pm_s_virtualT (hx : p.tables.exec = Jvm.exec) (hb : c.code = pm_byt y) (hml : c.maxLocals = la.size) (hown : s.vm.findClass (pm_on (pm_own y)) = some m.cls) (hK : pm_Kn D tC G H0 s) (hy : y < 141) (hex : c.exceptionTable.toList.map (fun x => (x.startPc, x.endPc, x.handlerPc, x.catchType)) = pm_hw y) (hh : pm_H D tC H0 s h H) (hl : ∀ q ∈ locs, H0.size ≤ q.base) {idx b x ci : Nat} {fs : List Value} (hd : decode (pm_byt y) pc = .ok (.invokevirtual idx, 3)) (hm : pm_mv (pm_own y) idx = some x) (hbo : h.1 b = some (pm_o ci fs)) (hsel : pm_sel ci x = some z)
    (hM : pm_Met l D tC G H0 d z (.ref b :: as) h (.inr k) h1) (hk3 : k < 3) {hp : Nat} (hhd : pm_hnd y pc k = some hp) (hRf : d + 9 ≤ R.frames) (hRl : 64 * d + 264 ≤ R.locals) (hst : st = as.reverse ++ .ref b :: r) (hna : as.length = pm_na x) (hwd : pm_wid r ≤ 8) (hcap : cells + (h1.2.1 - h.2.1) ≤ R.cells ∧ slots + (h1.2.2 - h.2.2) ≤ R.slots)
    (kk : ∀ (H' : Heap) (locs' : List Loc), pm_H D tC H0 s h1 H' → (∀ q ∈ locs', H0.size ≤ q.base) → W p l e R s m args below meth c H' locs' (cells + (h1.2.1 - h.2.1)) (slots + (h1.2.2 - h.2.2)) Q (F0 m hp la [.ref (h1.2.1 - 1)])) : W p l e R s m args below meth c H locs cells slots Q (F0 m pc la st) := by
  obtain ⟨en, g1, g2, g3⟩ := pm_row hm
  obtain ⟨hx2, w1⟩ := pm_g7 _ g3 _ g1
  have g2' : en.1 = x := g2
  dsimp only at hx2 w1
  rw [g2'] at hx2 w1
  unfold pm_sel at hsel
  cases hs : pm_selL.lookup (ci, x) with
  | none => rw [hs] at hsel; cases hsel
  | some q =>
    rw [hs] at hsel
    have hq : q.1 = z := Option.some.inj hsel
    obtain ⟨hci, hz, hw0, hnn, w2, w3, w4⟩ := pm_g8 _ (pm_lk2 hs)
    dsimp only at hci hz hw0 hnn w2 w3 w4
    rw [hq] at hz hw0 hnn w2 w3 w4
    obtain ⟨-, cellB, hcB, hoB, hclB⟩ := pm_recv hK hh hbo
    subst hst
    intro T hT X
    -- the method that is named and the one that is run
    obtain ⟨mk, methM, hnamed, hmethM, -, habM⟩ := Cond.instanceMethod_spec (hK.word w3 rfl args)
    obtain ⟨r0, rm0, hn0, hrm0, hst0, hsig0⟩ : va_Decl s (pm_nm x) := by
      rcases w4 with w4 | ⟨w4, -⟩
      · subst w4
        have hc := hK.word (pm_g1 _ hz) (pm_cw_mv _) args
        rw [pm_cw_code hw0] at hc
        obtain ⟨me, ce, q1, q2, q3, q4, q5, q6, q7, q8⟩ := Cond.code_spec hnamed hc
        obtain ⟨mk2, me2, z1, z2, z3, z4⟩ := Cond.instanceMethod_spec (hK.word w3 rfl args)
        cases hnamed.symm.trans z1
        cases q1.symm.trans z2
        exact ⟨mk, me, hnamed, q1, z3, q8⟩
      · exact va_Decl.abs (hK.word w4 rfl #[])
    obtain ⟨c2, r2, m2, q1, q2, q3, q4, kP, hkP, hkPi⟩ := Cond.selects_spec (hK.word w2 rfl args)
    cases hclB.symm.trans q1
    cases (State.methodFound?_of_named hn0 (pm_g4 x hx2).2.1).symm.trans q2
    cases hnamed.symm.trans q3
    have hselP : selectMethod e.platform s.vm cellB.cls r0 = .method mk := by rw [Launch.admits_selectMethod X.admits]; exact q4
    obtain ⟨kr, hkr, hni⟩ : ∃ kr, s.vm.classes[r0.cls]? = some kr ∧ kr.isInterface = false := by
      rcases w4 with w4 | ⟨-, w5⟩
      · subst w4
        exact notFace_of_selects (hK.word w2 rfl args) r0 hn0
      · obtain ⟨cn, ck, r1, hcn, hck, hni, hf, hn1⟩ := Cond.sameMethod_found (hK.word w5 rfl args)
        have hr0 : r0.cls = cn := Option.some.inj ((findClass_of_methodNamed hn0).symm.trans hcn)
        exact ⟨ck, by rw [hr0]; exact hck, hni⟩
    obtain ⟨vm₁, X₁, hstep₁⟩ := X.invokevirtual hx hown (hK.word w1 rfl args) hn0 hrm0 hst0 hkr hni (pm_g4 x hx2).2.1 (a := b) (cell := cellB) (by rw [hT]; exact hcB)
      (VmData.ne_statics_of hoB) hselP hmethM habM hkP hkPi (g := F0 m pc la (as.reverse ++ .ref b :: r)) rfl (argsL := as) (rest := r) (hna.trans (pm_nsig hx2 _ hsig0)) rfl (by rw [hb]; exact hd)
    obtain ⟨T', L, X', hL, hH', ⟨cell, hc1, hc2, hc3⟩, hsteps⟩ := pm_threw X₁ hM hz hw0 hK (by show pm_H D tC H0 s h T.heap; rw [hT]; exact hh) (g := { F0 m pc la (as.reverse ++ .ref b :: r) with stack := r }) (ig := .invokevirtual idx) (mk := mk) rfl hml.symm (by rw [hb]; exact hd) (lv_room (rest := r) hwd) (X₁.named hnamed) hRf hRl hcap
    have hpl : e.platform.magicAccessors = ({} : Platform).magicAccessors := by rw [X.admits.platform]
    obtain ⟨pre, xx, rest, bb, s1, s2, s3, s4, s5⟩ := pm_split (e := e) (g := { F0 m pc la (as.reverse ++ .ref b :: r) with stack := r }) hK hpl hown hy hex hhd rfl rfl hc3 hk3
    obtain ⟨vm₂, X₂, hcatch⟩ := pm_caught X' (g := { F0 m pc la (as.reverse ++ .ref b :: r) with stack := r }) rfl hc1 hc2 (by obtain ⟨kk1, hkk1, -⟩ := Vm.findClass_spec hc3; exact ⟨kk1, hkk1⟩) s1 s2 s3 s5
    obtain ⟨t2, a1, b1⟩ := kk T'.heap (locs ++ L) hH' (fun q hq => by
      rcases List.mem_append.mp hq with z | z
      · exact hl q z
      · exact hL q z) (T'.setVm vm₂) rfl X₂
    refine ⟨t2, hstep₁ _ (fun acts => ?_), b1⟩
    rw [doInvoke_state]
    refine hsteps.trans (hcatch t2 ?_)
    rw [s4]
    exact a1
end PMV
