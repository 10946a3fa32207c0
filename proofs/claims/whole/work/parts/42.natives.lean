theorem pm_n_smax : lw_tbl[151]? = some (.static Lib.Math.max.name) := by decide +kernel
theorem pm_n_cmax : lw_tbl[152]? = some (.code Lib.Math.max.name Lib.Math.max.code 2 (some .int)) := by decide +kernel
theorem pm_n_smin : lw_tbl[148]? = some (.static Lib.Math.min.name) := by decide +kernel
theorem pm_n_cmin : lw_tbl[149]? = some (.code Lib.Math.min.name Lib.Math.min.code 2 (some .int)) := by decide +kernel
theorem pm_n_imath : lw_tbl[42]? = some (.initialized "java/lang/Math") := by decide +kernel
theorem pm_n_ioi : lw_tbl[67]? = some (.instanceMethod Lib.objectInit) := by decide +kernel
theorem pm_n_coi : lw_tbl[68]? = some (.code Lib.objectInit ⟨#[0xb1]⟩ 1 none) := by decide +kernel
theorem pm_n_nac : lw_tbl[217]? = some (.native arraycopyName) := by decide +kernel
theorem pm_n_sac : lw_tbl[216]? = some (.static arraycopyName) := by decide +kernel
theorem pm_n_isys : lw_tbl[54]? = some (.initialized "java/lang/System") := by decide +kernel
theorem pm_n_smc : lw_tbl[405]? = some (.sameMethod "[I" "java/lang/Object" "clone" "()Ljava/lang/Object;") := by decide +kernel
theorem pm_n_nc : lw_tbl[406]? = some (.native ⟨"java/lang/Object", "clone", "()Ljava/lang/Object;"⟩) := by decide +kernel
theorem pm_n_imc : lw_tbl[407]? = some (.instanceMethod ⟨"java/lang/Object", "clone", "()Ljava/lang/Object;"⟩) := by decide +kernel
theorem pm_n_selc : lw_tbl[408]? = some (.selects "[I" ⟨"[I", "clone", "()Ljava/lang/Object;"⟩ ⟨"java/lang/Object", "clone", "()Ljava/lang/Object;"⟩) := by decide +kernel
theorem pm_n_cac : lw_tbl[409]? = some (.castable "[I" "java/lang/Cloneable") := by decide +kernel
theorem pm_n_dgc : lw_tbl[1027]? = some (.declares ⟨"java/lang/Object", "getClass", "()Ljava/lang/Class;"⟩) := by decide +kernel
theorem pm_n_selg : lw_tbl[1026]? = some (.selects "[Ljava/lang/Object;" ⟨"java/lang/Object", "getClass", "()Ljava/lang/Class;"⟩ ⟨"java/lang/Object", "getClass", "()Ljava/lang/Class;"⟩) := by decide +kernel
theorem pm_n_img : lw_tbl[466]? = some (.instanceMethod ⟨"java/lang/Object", "getClass", "()Ljava/lang/Class;"⟩) := by decide +kernel
theorem pm_n_ng : lw_tbl[481]? = some (.native ⟨"java/lang/Object", "getClass", "()Ljava/lang/Class;"⟩) := by decide +kernel
/-! Members of the library that are no code here. -/
section PMS5
variable {D : va_G} {tC : Nat → ClassId} {G : pm_G} {H0 : Heap}
variable {p : Program} {l : Launch} {e : Env} {R : Room} {s : State} {m : MethodId} {args : Array Value} {below : List Frame} {meth : Method} {c : Code} {H : Heap} {locs : List Loc} {cells slots : Nat} {Q : State → Prop}
variable {y pc len : Nat} {i : Instr} {la : Array Slot} {st st' : List Value} {h h' : pm_S}
theorem pm_nlink (hK : pm_Kn D tC G H0 s) {o idx k : Nat} (hn : pm_ns o idx = some k) : (Cond.methodLink (pm_on o) idx (pm_nnL.getD k objectInit)).before args s = true := by
  obtain ⟨en, g1, g2, g3⟩ := pm_row hn
  obtain ⟨-, w⟩ := pm_f12 _ g3 _ g1
  have g2' : en.1 = k := g2
  dsimp only at w
  rw [g2'] at w
  exact hK.word w rfl args
theorem pm_s_clone (hx : p.tables.exec = Jvm.exec) (hb : c.code = pm_byt y) (hml : c.maxLocals = la.size) (hown : s.vm.findClass (pm_on (pm_own y)) = some m.cls) (hK : pm_Kn D tC G H0 s) {idx : Nat} (hn : pm_ns (pm_own y) idx = some 4) (hd : decode (pm_byt y) pc = .ok (.invokevirtual idx, 3)) (hh : pm_H D tC H0 s h H) (hRf : 1 ≤ R.frames) (hRl : 64 ≤ R.locals)
    {a n : Nat} {f : Nat → Int32} {r : List Value} (ha : h.1 a = some (pm_a 0 n f)) (hba : H0.size ≤ a) (hw : pm_wid r ≤ 8) (hc1 : cells + 1 ≤ R.cells) (hs1 : slots + n ≤ R.slots)
    (kk : ∀ (H' : Heap), pm_H D tC H0 s (pm_add h (pm_a 0 n f) n) H' → W p l e R s m args below meth c H' locs (cells + 1) (slots + n) Q (F0 m (pc + 3) la (.ref h.2.1 :: r))) : W p l e R s m args below meth c H locs cells slots Q (F0 m pc la (.ref a :: r)) := by
  have hcell : H[a]? = some (vp_cell (tC 0) (n, .inl f)) := hh.own hba ha
  have hnm : s.vm.findClass "[I" = some (tC 0) := (hK.2.1.2 0 (tC 0, .int) rfl).2
  have hsz : (vp_cell (tC 0) (n, .inl f)).slots.size = n := arrV_size _ _ _
  obtain ⟨c0, t0, f1, f2, f3⟩ := Cond.castable_spec (hK.word pm_n_cac rfl args)
  cases hnm.symm.trans f1
  intro T hT X
  obtain ⟨-, kA, hkA, comp, hkind⟩ := State.isArrayOf_alike X.warmed.alike ((hK.2.1.2 0 (tC 0, .int) rfl).1 0 (fun _ => .null))
  obtain ⟨-, kS, hkS, compS, hkindS⟩ := (hK.2.1.2 0 (tC 0, .int) rfl).1 0 (fun _ => .null)
  have hl : (Cond.methodLink (pm_on (pm_own y)) idx ⟨"[I", "clone", "()Ljava/lang/Object;"⟩).before args s = true := pm_nlink hK hn
  have hw' : (r.map fun v => v.category).sum ≤ 8 := hw
  obtain ⟨vm', X', stp⟩ := X.cloneArray hx hown hl (hK.word pm_n_smc rfl args) (hK.word pm_n_nc rfl args) (hK.word pm_n_imc rfl args) (hK.word pm_n_selc rfl args) (a := a) (cell := vp_cell (tC 0) (n, .inl f)) (by rw [hT]; exact hcell) (fun k z => by cases z) (fun z => by cases z) hnm f2 f3
    (fun i v hv => by
      have hk' : T.vm.classes[tC 0]? = some kA := hkA
      have hfit : fits .int v = true := va_fit (cA := tC 0) (n := n) (F := fun j => .int (f j)) (fun _ _ => rfl) i v hv
      simpa [State.fitsSlot, State.slotType?, hk', hkind, vp_cell_i, arrV] using hfit)
    (g := F0 m pc la (.ref a :: r)) rfl (by rw [hml]) rfl (by rw [hb]; exact hd) hRf (by show 2 * 0 + _ + 14 ≤ _; omega) hc1 (by rw [hsz]; exact hs1) (hloader := Vm.clonesLoader_of_array hkS hkindS)
  have hcellE : ({ cls := (vp_cell (tC 0) (n, .inl f)).cls, slots := (vp_cell (tC 0) (n, .inl f)).slots } : Cell) = vp_cell (tC 0) (n, .inl f) := rfl
  rw [hcellE, hsz] at X'
  have hz := hh.1
  obtain ⟨t, b1, b2⟩ := kk (H.push (vp_cell (tC 0) (n, .inl f))) (hh.add (by rw [Array.size_push, hz]) (fun q hq => by rw [Array.getElem?_push, if_neg (by omega)]) (by
      show (H.push _)[h.2.1]? = some (vp_cell (tC 0) (n, .inl f))
      rw [← hz, Array.getElem?_push_size])) ((T.setVm vm').pushCell (vp_cell (tC 0) (n, .inl f))) (by rw [← hT]; rfl) X'
  refine ⟨t, stp t ?_, b2⟩
  rw [hcellE, hT, hz]
  exact b1
set_option maxHeartbeats 4000000 in
theorem pm_sim_nat (hx : p.tables.exec = Jvm.exec) (hb : c.code = pm_byt y) (hml : c.maxLocals = la.size) (hown : s.vm.findClass (pm_on (pm_own y)) = some m.cls) (hK : pm_Kn D tC G H0 s) (hG : G.1 = H0.size)
    (hd : decode (pm_byt y) pc = .ok (i, len)) (hlen : ∀ k, pm_len i = some k → len = k) (hh : pm_H D tC H0 s h H) (hc : s.heap.size + cells = h.2.1) (hl : ∀ q ∈ locs, H0.size ≤ q.base) (hRf : 1 ≤ R.frames) (hRl : 64 ≤ R.locals)
    {k : Nat} (hn : pm_nid y i = some k) (hp : pm_nat G k st h = some (st', h')) (hC1 : cells ≤ R.cells) (hC2 : slots ≤ R.slots) (hR1 : cells + (h'.2.1 - h.2.1) ≤ R.cells) (hR2 : slots + (h'.2.2 - h.2.2) ≤ R.slots)
    (kk : ∀ (H' : Heap) (locs' : List Loc), pm_H D tC H0 s h' H' → (∀ q ∈ locs', H0.size ≤ q.base) → W p l e R s m args below meth c H' locs' (cells + (h'.2.1 - h.2.1)) (slots + (h'.2.2 - h.2.2)) Q (F0 m (pc + len) la st')) : W p l e R s m args below meth c H locs cells slots Q (F0 m pc la st) := by
  have hac : nativeFrameWords "java/lang/System" "arraycopy" 5 + 11 ≤ 50 := by decide +kernel
  unfold pm_nid at hn
  split at hn
  · rename_i idx
    cases hlen _ rfl
    split at hn
    · rename_i h0
      cases hn
      replace hp : pm_nat0 st h = some (st', h') := hp
      unfold pm_nat0 at hp
      split at hp
      · split at hp
        · rename_i r hw
          have hw' : (r.map fun v => v.category).sum ≤ 8 := hw
          cases hp
          exact va_mmax hx hb hml hown (pm_nlink hK h0) (hK.word pm_n_smax rfl args) (hK.word pm_n_imath rfl args) (hK.word pm_n_cmax rfl args) hRf (by omega) hC1 hC2 hd (pm_cs0 h (kk H locs hh hl))
        · cases hp
      · cases hp
    · rename_i h0
      cases hn
      replace hp : pm_nat1 st h = some (st', h') := hp
      unfold pm_nat1 at hp
      split at hp
      · split at hp
        · rename_i r hw
          have hw' : (r.map fun v => v.category).sum ≤ 8 := hw
          cases hp
          exact va_mmin hx hb hml hown (pm_nlink hK h0) (hK.word pm_n_smin rfl args) (hK.word pm_n_imath rfl args) (hK.word pm_n_cmin rfl args) hRf (by omega) hC1 hC2 hd (pm_cs0 h (kk H locs hh hl))
        · cases hp
      · cases hp
    · rename_i h0
      cases hn
      replace hp : pm_nat3 G st h = some (st', h') := hp
      unfold pm_nat3 at hp
      split at hp
      · rename_i n dp a sp b r
        split at hp
        · rename_i hcd
          obtain ⟨hw, hn0, hdp, hsp, hba, hbb⟩ := hcd
          have hw' : (r.map fun v => v.category).sum ≤ 8 := hw
          rw [hG] at hba hbb
          obtain ⟨hP, hD⟩ := pm_full hh
          split at hp
          · rename_i hb0
            split at hp
            · rename_i ha0
              split at hp
              · rename_i hle
                cases hp
                obtain ⟨q0, hq0⟩ := pm_ix_of hh hbb hb0
                obtain ⟨q1, hq1⟩ := pm_ix_of hh hba ha0
                exact va_copyi (tys := pm_tys tC) (ty := .int) hx hb hml hown (pm_nlink hK h0) (hK.word pm_n_nac rfl args) (hK.word pm_n_sac rfl args) (hK.word pm_n_isys rfl args) hK.2.1 hP hD (pm_S.rf hl) q0 q1 0 0 hq0 hq1 rfl rfl rfl hsp hdp hn0 hle.1 hle.2 (fun _ _ => rfl) hRf (by omega) hd (fun H1 locs1 hP1 hD1 hS1 => pm_upd (x := pm_a 0 _ _) hh hc hba ha0 hq1 hP1 hS1 (fun H' locs' a1 a2 => pm_cs0 h (kk H' locs' a1 a2)))
              · cases hp
            · cases hp
          · rename_i hb0
            split at hp
            · rename_i ha0
              split at hp
              · rename_i hle
                cases hp
                obtain ⟨q0, hq0⟩ := pm_ix_of hh hbb hb0
                obtain ⟨q1, hq1⟩ := pm_ix_of hh hba ha0
                exact va_copyM (tys := pm_tys tC) hx hb hml hown (pm_nlink hK h0) (hK.word pm_n_nac rfl args) (hK.word pm_n_sac rfl args) (hK.word pm_n_isys rfl args) hK.2.1 hP hD (pm_S.rf hl) q0 q1 3 3 hq0 hq1 rfl rfl hsp hdp hn0 hle.1 hle.2.1 (fun j hj v hv => by
                  have hal := List.all_eq_true.mp hle.2.2 j (List.mem_range.mpr hj)
                  rw [hv] at hal
                  dsimp only at hal
                  split at hal
                  · rename_i hob
                    exact pm_any hK hh hob hal
                  · cases hal) hRf (by omega) hd (fun H1 locs1 hP1 hD1 hS1 => pm_upd (x := pm_r _ _) hh hc hba ha0 hq1 hP1 hS1 (fun H' locs' a1 a2 => pm_cs0 h (kk H' locs' a1 a2)))
              · cases hp
            · cases hp
          · cases hp
        · cases hp
      · cases hp
    · cases hn
  · rename_i idx
    cases hlen _ rfl
    split at hn
    · rename_i h0
      cases hn
      replace hp : pm_nat2 st h = some (st', h') := hp
      unfold pm_nat2 at hp
      split at hp
      · split at hp
        · rename_i r hw
          have hw' : (r.map fun v => v.category).sum ≤ 8 := hw
          cases hp
          exact W.objInit hx hb hown (pm_nlink hK h0) (hK.word pm_n_ioi rfl args) (hK.word pm_n_coi rfl args) rfl (by rw [hml]) rfl hd hRf (by show 2 * 0 + _ + 12 ≤ _; omega) (pm_cs0 h (kk H locs hh hl))
        · cases hp
      · cases hp
    · cases hn
  · rename_i idx
    cases hlen _ rfl
    split at hn
    · rename_i h0
      cases hn
      replace hp : pm_nat4 G st h = some (st', h') := hp
      unfold pm_nat4 at hp
      split at hp
      · split at hp
        · rename_i hw
          rw [hG] at hw
          split at hp
          · rename_i ha
            cases hp
            rw [pm_ad1] at hR1 kk
            rw [pm_ad2] at hR2 kk
            exact pm_s_clone hx hb hml hown hK h0 hd hh hRf hRl ha hw.2 hw.1 hR1 hR2 (fun H' a1 => kk H' locs a1 hl)
          · cases hp
        · cases hp
      · cases hp
    · rename_i h0
      cases hn
      replace hp : pm_nat5 G st h = some (st', h') := hp
      unfold pm_nat5 at hp
      split at hp
      · split at hp
        · rename_i r hw
          rw [hG] at hw
          have hw' : (r.map fun v => v.category).sum ≤ 8 := hw.1
          split at hp
          · rename_i ha
            cases hp
            have hat := hh.own hw.2 ha
            exact va_getC hx hb hml hown (pm_nlink hK h0) (hK.word pm_n_dgc rfl args) (hK.word pm_n_selg rfl args) (hK.word pm_n_img rfl args) (hK.word pm_n_ng rfl args) hK.2.2.2.1 ⟨_, hat, rfl, va_nmO ((hK.2.1.2 3 (tC 3, .object pm_obj) rfl).2) (by decide +kernel)⟩ hRf (by omega) hd (pm_cs0 h (kk H locs hh hl))
          · cases hp
        · cases hp
      · cases hp
    · cases hn
  · cases hn
end PMS5
