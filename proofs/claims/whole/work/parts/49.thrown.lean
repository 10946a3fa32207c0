/-! Where a method throws. -/
theorem pm_thr_at {y pc idx len k : Nat} (hy : y < 141) (hcat : pm_cat y pc = some (.new idx, len)) (hxl : pm_xl (pm_own y) idx = some k) :
    ∃ j, pm_cat y (pc + 3) = some (.dup, 1) ∧ pm_cat y (pc + 4) = some (.ldc j, 2) ∧ pm_cat y (pc + 6) = some (.invokespecial (pm_ic k), 3) ∧ pm_cat y (pc + 9) = some (.athrow, 1) ∧ (∃ tx, (j, tx) ∈ pm_strL) ∧ pm_on (pm_own y) = "PostingShelf" := by
  have h := List.all_eq_true.mp (pm_t1 y hy) _ (pm_lk hcat)
  unfold pm_thr at h
  dsimp only at h
  rw [hxl] at h
  dsimp only at h
  split at h
  · rename_i j ic h1 h2 h3 h4
    simp only [Bool.and_eq_true, beq_iff_eq] at h
    obtain ⟨g1, g2, g3, -⟩ := h
    obtain ⟨tx, htx⟩ := Option.isSome_iff_exists.mp g1
    rw [g2] at h3
    exact ⟨j, h1, h2, h3, h4, ⟨tx, pm_lk htx⟩, g3⟩
  · cases h
theorem pm_dec {y pc : Nat} {i : Instr} {len : Nat} (hy : y < 141) (hcat : pm_cat y pc = some (i, len)) : decode (pm_byt y) pc = .ok (i, len) ∧ ∀ k, pm_len i = some k → len = k := by
  have hm : pm_q y ∈ pm_M := by
    unfold pm_q
    rw [List.getD_eq_getElem?_getD, List.getElem?_eq_getElem (show y < pm_M.length from hy)]
    exact List.getElem_mem _
  obtain ⟨h1, h2⟩ := pm_dall _ hm _ (pm_lk hcat)
  refine ⟨h1, fun k hk => ?_⟩
  dsimp only at h2
  rw [hk] at h2
  exact h2.symm
section PMTH
variable {D : va_G} {tC : Nat → ClassId} {G : pm_G} {H0 : Heap}
variable {p : Program} {l : Launch} {e : Env} {R : Room} {s : State} {m : MethodId} {args : Array Value} {below : List Frame} {meth : Method} {c : Code} {H : Heap} {locs : List Loc} {cells slots : Nat} {Q : State → Prop}
variable {y pc len : Nat} {la : Array Slot} {h : pm_S}
theorem pm_atoms (hK : pm_Kn D tC G H0 s) (hq : ∀ q : Nat, q < H0.size → s.heap[q]? = H0[q]?) {k : Nat} (hk : k < 3) : ∀ w ∈ pm_at0 "PostingShelf" (pm_ic k) (pm_xn k) (pm_xi k) (pm_xb k) "java/lang/RuntimeException" ["java/lang/Exception"], w.before args s = true := by
  intro w hw
  rcases pm_t2 k hk w hw with ⟨h1, h2⟩ | rfl | rfl | rfl | rfl
  · exact hK.1 w h1 h2 args
  · exact hK.2.2.2.2.2.2.1.ref hq args
  · exact hK.2.2.2.2.2.2.2.1.ref hq args
  · exact hK.2.2.2.2.2.2.1.lays hq args
  · exact hK.2.2.2.2.2.2.2.1.lays hq args
set_option maxHeartbeats 4000000 in
theorem pm_s_throw (hx : p.tables.exec = Jvm.exec) (hb : c.code = pm_byt y) (hml : c.maxLocals = la.size) (hown : s.vm.findClass (pm_on (pm_own y)) = some m.cls) (hK : pm_Kn D tC G H0 s) (htr : e.platform.stackTraces = false) (hlocks : meth.locks = false) (hex : c.exceptionTable.toList = []) (hy : y < 141)
    {idx k : Nat} (hcat : pm_cat y pc = some (.new idx, len)) (hxl : pm_xl (pm_own y) idx = some k) (hh : pm_H D tC H0 s h H) (hRf : 6 ≤ R.frames) (hRl : 200 ≤ R.locals) (hc1 : cells + 1 ≤ R.cells) (hs1 : slots + 6 ≤ R.slots)
    (kk : ∀ t : State, t.status = .running → Ended t below (.threw h.2.1) → s.WarmedH t.vm → s.sameButNew ({ t with vm := s.vm } : State) locs (cells + 1) (slots + 6) → pm_H D tC H0 s (pm_gap h 6) t.heap → (∃ ce : Cell, t.heap[h.2.1]? = some ce ∧ ce.vm.isStatics = false ∧ s.vm.findClass (pm_xn k) = some ce.cls) → Q t) :
    W p l e R s m args below meth c H locs cells slots Q (F0 m pc la []) := by
  obtain ⟨j, k1, k2, k3, k4, ⟨tx, htx⟩, hPS⟩ := pm_thr_at hy hcat hxl
  have e0 := (pm_dec hy hcat).1
  have hlen3 : len = 3 := (pm_dec hy hcat).2 3 rfl
  subst hlen3
  have e1 := (pm_dec hy k1).1
  have e2 := (pm_dec hy k2).1
  have e3 := (pm_dec hy k3).1
  have e4 := (pm_dec hy k4).1
  obtain ⟨en, g1, g2, g3⟩ := pm_row hxl
  obtain ⟨hk3, w1⟩ := pm_f11 _ g3 _ g1
  have g2' : en.1 = k := g2
  dsimp only at hk3 w1
  rw [g2'] at hk3 w1
  obtain ⟨t3a, t3b, t3c, t3d, t3e⟩ := pm_t3 k hk3
  obtain ⟨t4a, t4b⟩ := pm_t4 k hk3
  intro T hT X
  have Y := pm_rebase X (R' := { frames := R.frames, cells := 1, slots := 6, locals := R.locals }) (Nat.le_refl _) (Nat.le_refl _) hc1 hs1
  generalize hS : T.setFrames (.invoking m args :: below) = s' at Y
  have hvm : s'.vm = T.vm := by rw [← hS]; rfl
  have hhp : s'.heap = H := by rw [← hS]; exact hT
  have hWs : s.WarmedH s'.vm := by rw [hvm]; exact X.warmed
  have hK' : pm_Kn D tC G H0 s' := hK.warm hWs
  have hown' : s'.vm.findClass (pm_on (pm_own y)) = some m.cls := by rw [hWs.alike.findClass]; exact hown
  have hz := hh.1
  obtain ⟨cX, kX, hfX, hkX, -⟩ := Cond.instantiable_spec (hK'.word t4a rfl args)
  obtain ⟨qs, hqs⟩ := hK'.2.2.2.2.2.1 _ htx
  have key : W p l e { frames := R.frames, cells := 1, slots := 6, locals := R.locals } s' m args below meth c H [] 0 0 (fun t => t.status = .running ∧ Ended t below (.threw h.2.1) ∧ s'.WarmedH t.vm ∧ s'.sameButNew ({ t with vm := s'.vm } : State) [] 1 6 ∧ ∃ ce : Cell, t.heap[h.2.1]? = some ce ∧ ce.vm.isStatics = false ∧ s'.vm.findClass (pm_xn k) = some ce.cls) (F0 m pc la []) := by
    refine W.newcK (C := pm_xn k) (n := 6) (h := h.2.1) hx hb hown' (hK'.word w1 rfl args) (hK'.word t4a rfl args) (hK'.word t4b rfl args) rfl e0 (Nat.le_refl _) (Nat.le_refl _) hfX hz fun H1 kC hkC b1 b2 b3 => ?_
    refine lv_dup hx hb e1 rfl ?_
    refine va_ldcS hx hb hown' (by rw [hPS]; exact hqs) e2 ?_
    intro T2 hT2 X2
    cases hkX.symm.trans hkC
    obtain ⟨U, a1, a2, a3, a4, a5, a6⟩ := pm_ctorThrow X2 hx htr (own := "PostingShelf") (cls := pm_xn k) (sup := "java/lang/RuntimeException") (names := ["java/lang/Exception"]) (ic := pm_ic k) (ix := pm_xi k) (rx := pm_xb k) (by rw [← hPS]; exact hown') t3a (by decide +kernel) (by decide +kernel) t3b t3c t3d t3e
      (pm_atoms hK' (fun q hq => by rw [hhp]; exact hh.2.2.1 q hq) hk3) (a := h.2.1) hfX hkX (by rw [hT2]; exact b1) (by rw [hhp, hz]; exact Nat.le_refl _) (msg := .ref qs) rfl
      (g := F0 m (pc + 6) la [.ref qs, .ref h.2.1, .ref h.2.1]) rfl hml.symm rfl rfl (rest := []) rfl (by rw [hb]; exact e3) (by rw [hb]; exact e4) (by rw [hex]; exact fun x z => by cases z) (by show 1 + 4 < R.frames; omega) (by show 2 * 0 + 1 + (13 * 3 + 42) ≤ R.locals; omega) hlocks
    exact ⟨U, a1, a2, a3, a4, a5, a6⟩
  obtain ⟨t, st1, a2, a3, a4, a5, ce, a6, a7, a8⟩ := key T hT Y
  have hsz : t.heap.size = h.2.1 + 1 := by
    have z1 := a5.2.2.1
    have z2 : h.2.1 < t.heap.size := (Array.getElem?_eq_some_iff.mp a6).1
    have z3 : ({ t with vm := s'.vm } : State).heap.size = t.heap.size := rfl
    rw [z3, hhp, hz] at z1
    omega
  have hold : ∀ q : Nat, q < h.2.1 → t.heap[q]? = H[q]? := by
    intro q hq
    have hq' : q < H.size := by omega
    obtain ⟨c', z1, z2, z3, z4⟩ := a5.2.2.2.2.2 q H[q] (by rw [hhp]; exact Array.getElem?_eq_getElem hq')
    have z1' : t.heap[q]? = some c' := z1
    rw [z1', Array.getElem?_eq_getElem hq']
    congr 1
    rw [z2]
    have : c'.slots = (H[q]).slots := Array.ext_getElem? (fun i => z4 i List.not_mem_nil)
    rw [this]
  refine ⟨t, st1, kk t a2 a3 ?_ ?_ (hh.gap hsz hold) ⟨ce, a6, a7, ?_⟩⟩
  · refine State.WarmedH.trans X.warmed ?_
    rw [← hS] at a4
    exact a4
  · have hsame : T.sameButNew ({ t with vm := T.vm } : State) [] 1 6 := by
      obtain ⟨q1, q2⟩ := a5
      rw [← hS] at q1 q2
      rw [State.setFrames_setFrames] at q1
      exact ⟨q1, q2⟩
    have := X.same.trans (hsame.setVm s.vm)
    rw [List.append_nil] at this
    exact this
  · rw [← hWs.alike.findClass]
    exact a8
end PMTH
