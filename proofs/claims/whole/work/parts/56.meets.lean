/-! Every call of the small machine is a call of the machine. -/
theorem pm_code_at {z : Nat} (hz : z < 140) {args : Array Value} {s : State} {mm : MethodId} (h : (pm_cw z).before args s = true) (hn : s.methodNamed? (pm_nm z) = some mm) :
    ∃ meth c, s.vm.method? mm = some meth ∧ meth.code = some c ∧ c.code = pm_byt z ∧ c.maxLocals = pm_mx z ∧ meth.sig.returnType = pm_ret z ∧ meth.locks = false ∧ c.exceptionTable.toList.map (fun x => (x.startPc, x.endPc, x.handlerPc, x.catchType)) = pm_hw z := by
  by_cases hw0 : pm_hw z = []
  · rw [pm_cw_code hw0] at h
    obtain ⟨meth, c, h1, h2, h3, h4, h5, h6, h7, -⟩ := Cond.code_spec hn h
    refine ⟨meth, c, h1, h2, h3, h4, h5, h6, ?_⟩
    rw [hw0]
    have : c.exceptionTable = #[] := Array.isEmpty_iff.mp h7
    rw [this]
    rfl
  · rw [pm_cw_with hw0] at h
    obtain ⟨m9, meth, c, hn9, h1, h2, h3, h4, h5, h6, h7, -⟩ := Cond.codeWith_spec h
    cases hn.symm.trans hn9
    exact ⟨meth, c, h1, h2, h3, h4, h6, h7, h5⟩
section PMY
variable {D : va_G} {tC : Nat → ClassId} {G : pm_G} {H0 : Heap} {l : Launch}
theorem pm_sim (hfl : l.flags = pinnedFlags ++ [noTraceFlag]) (hG : G.1 = H0.size) : ∀ d z as h w0 h0, z < 140 → (∀ v ∈ as, v.category = 1) → pm_call G d z as h (pm_pt w0 h0) → pm_Met l D tC G H0 d z as h w0 h0 := by
  intro d
  induction d with
  | zero => intro z as h w0 h0 _ _ hr; exact hr.elim
  | succ d IH =>
    intro z as h w0 h0 hz has hr
    have hle := pm_call_le (d + 1) _ _ _ _ _ hr
    obtain ⟨hlen, n, hn⟩ := hr
    refine MetFree.of_bodySF (code := pm_byt z) (maxLocals := pm_mx z) (ret := pm_ret z) (pm_g3 z hz) ?_ ?_
    · intro args s mm hpre hnm
      obtain ⟨meth, c, h1, h2, h3, h4, h5, h6, -⟩ := pm_code_at hz (atoms_spec (ws := [pm_cw z]) hpre _ List.mem_cons_self) hnm
      exact ⟨meth, c, h1, h2, h3, h4, h5, h6⟩
    · intro p e s mm args below meth c s₁ B hml hP _
      obtain ⟨rfl, hK, hH⟩ := hP
      obtain ⟨meth', c', h1, h2, h3, h4, h5, h6, h7⟩ := pm_code_at hz (atoms_spec (ws := [pm_cw z]) B.pre _ List.mem_cons_self) B.named
      have X := Stand.of_body B
      cases h1.symm.trans X.method
      cases h2.symm.trans X.code
      obtain ⟨la, hE, hlv⟩ := pm_lv_entry has hlen mm
      have hh0 : s₁.heap = s.heap := by rw [B.state]; rfl
      have hpl : (pm_ent z as).length = pm_mx z := by
        unfold pm_ent
        rw [List.length_append, List.length_map, List.length_replicate]
        omega
      have K := pm_sim_run (sl0 := h.2.2) (mc := h0.2.1 - h.2.1) (ms := h0.2.2 - h.2.2) (below := below) (args := as.toArray) (Launch.traces_off hfl X.admits) B.exec h3 h4 (by rw [pm_g4o z (by omega)]; exact findClass_of_methodNamed B.named) (name_of_methodNamed B.named B.method).1 hK hG h5 h6 (by omega) h7 IH (by rw [hH.1]; have := hle.1; omega) (by have := hle.2; omega)
        n 0 (pm_ent z as) [] h hn s.heap [] la 0 0 hlv hpl hH (fun q hq => by cases hq) hH.1 rfl
      obtain ⟨t, a1, o, b1, b2, b3, b4⟩ := K s₁ hh0 X
      exact ⟨t, o, by rw [hE]; exact a1, b1, b2, b3, b4⟩
end PMY
