theorem pm_fa_int : lw_tbl[85]? = some (.arrayClass .int) := by decide +kernel
theorem pm_fa_boolean : lw_tbl[852]? = some (.arrayClass .boolean) := by decide +kernel
theorem pm_fa_long : lw_tbl[1019]? = some (.arrayClass .long) := by decide +kernel
/-! Writes and makings. -/
section PMS3
variable {D : va_G} {tC : Nat → ClassId} {G : pm_G} {H0 : Heap}
variable {p : Program} {l : Launch} {e : Env} {R : Room} {s : State} {m : MethodId} {args : Array Value} {below : List Frame} {meth : Method} {c : Code} {H : Heap} {locs : List Loc} {cells slots : Nat} {Q : State → Prop}
variable {y pc len : Nat} {i : Instr} {la : Array Slot} {st st' : List Value} {h h' : pm_S}
set_option maxHeartbeats 2000000 in
theorem pm_s_put (hx : p.tables.exec = Jvm.exec) (hb : c.code = pm_byt y) (hown : s.vm.findClass (pm_on (pm_own y)) = some m.cls) (hnm : meth.name = (pm_nm y).name) (hK : pm_Kn D tC G H0 s) {idx : Nat} (hd : decode (pm_byt y) pc = .ok (.putfield idx, 3)) (hh : pm_H D tC H0 s h H) (hc : s.heap.size + cells = h.2.1) (hl : ∀ q ∈ locs, H0.size ≤ q.base) {a ci fid k : Nat} {fs r : List Value} {v : Value}
    (ha : h.1 a = some (pm_o ci fs)) (hba : H0.size ≤ a) (hf : pm_fl (pm_own y) idx = some fid) (hk : pm_ix fid (pm_cfs ci) = some k) (hfit : pm_fit (pm_fty fid) v = true) (hmay : pm_may y fid = true) (hkl : k < fs.length)
    (kk : ∀ (H' : Heap) (locs' : List Loc), pm_H D tC H0 s (pm_put h a (pm_o ci (fs.set k v))) H' → (∀ q ∈ locs', H0.size ≤ q.base) → W p l e R s m args below meth c H' locs' cells slots Q (F0 m (pc + 3) la r)) : W p l e R s m args below meth c H locs cells slots Q (F0 m pc la (v :: .ref a :: r)) := by
  obtain ⟨rr, q1, -⟩ := hh.own hba ha
  obtain ⟨hci, rfl⟩ := pm_cls_of q1
  obtain ⟨hk1, hk2⟩ := pm_ix_spec hk
  obtain ⟨en, g1, g2, g3⟩ := pm_row hf
  obtain ⟨w1, w2⟩ := pm_f4 _ g3 _ g1
  have hT : pm_T ci k = pm_fd fid := by
    show pm_fd ((pm_cfs ci).getD k 0) = _
    rw [hk2]
  have g2' : en.1 = fid := g2
  dsimp only at w1 w2
  rw [g2'] at w1 w2
  obtain ⟨hP, hD⟩ := pm_full hh
  obtain ⟨q0, hq0⟩ := pm_ix_of hh hba ha
  have hts : ∀ w ∈ lw_tbl.filter pm_mv0, w.before args s = true := fun w hw => hK.1 w (List.mem_filter.mp hw).1 (List.mem_filter.mp hw).2 args
  have hin : ∀ w ∈ u_ws (pm_cn ci) (pm_T ci) (pm_cfs ci).length, w ∈ lw_tbl.filter pm_mv0 := by
    intro w hw
    refine List.mem_filter.mpr ⟨pm_lays hci w hw, ?_⟩
    obtain ⟨j, -, rfl⟩ := List.mem_map.mp hw
    unfold u_lay
    split <;> rfl
  have hlink : (Cond.fieldLink (pm_on (pm_own y)) idx en.2.1 (pm_T ci k).2.1 (pm_T ci k).2.2.1).before args s = true := by
    rw [hT]
    exact hK.word w1 rfl args
  have hsame : ∀ x, s.fieldFound? (pm_T ci k).1 (pm_T ci k).2.1 (pm_T ci k).2.2.1 = some x → s.fieldFound? en.2.1 (pm_T ci k).2.1 (pm_T ci k).2.2.1 = some x := by
    rw [hT]
    rcases w2 with w2 | w2
    · intro x hx
      rw [w2]
      exact hx
    · exact fun x hx => u_same (hK.word w2 rfl args) x hx
  have hdesc : parseFieldDescriptor (pm_T ci k).2.2.1 = some (pm_fty fid) := by
    have := pm_f2 ci hci k hk1
    rw [hk2] at this
    exact this
  obtain ⟨hn, hfi⟩ := pm_fit_ok hfit
  cases hfin : (pm_T ci k).2.2.2 with
  | false => exact va_put (D := D) (tys := pm_tys tC) hx hb hts hin (fun k => pm_fty ((pm_cfs ci).getD k 0)) (pm_f2 ci hci) (pm_f3 ci hci) hown hK.2.1 hP hD (pm_S.rf hl) q0 hq0 (pm_cls_at hci) k hk1 hlink hsame hfin hdesc hn hfi hkl hd (fun H1 locs1 hP1 hD1 hS1 => pm_upd (x := pm_o ci (fs.set k v)) hh hc hba ha hq0 hP1 hS1 kk)
  | true =>
    have hm : (pm_nm y).name = "<init>" ∧ (pm_fd fid).1 = pm_on (pm_own y) := by
      unfold pm_may at hmay
      rw [← hT, hfin] at hmay
      simp only [Bool.not_true, Bool.false_or, Bool.and_eq_true, beq_iff_eq] at hmay
      rw [hT] at hmay
      exact hmay
    exact va_putF (D := D) (tys := pm_tys tC) hx hb hts hin (fun k => pm_fty ((pm_cfs ci).getD k 0)) (pm_f2 ci hci) (pm_f3 ci hci) hown hK.2.1 hP hD (pm_S.rf hl) q0 hq0 (pm_cls_at hci) k hk1 hlink hsame hfin (hnm.trans hm.1) (by rw [hT]; exact hm.2) hdesc hn hfi hkl hd (fun H1 locs1 hP1 hD1 hS1 => pm_upd (x := pm_o ci (fs.set k v)) hh hc hba ha hq0 hP1 hS1 kk)
theorem pm_any (hK : pm_Kn D tC G H0 s) (hh : pm_H D tC H0 s h H) {v ci : Nat} {fs : List Value} (hv : h.1 v = some (pm_o ci fs)) (ho : pm_ob ci = true) : va_Any pm_obj s H v := by
  rcases pm_rd hh hv with ⟨h1, h2⟩ | h1
  · obtain ⟨rr, q1, cell, g1, g2, g3, -⟩ := h2
    obtain ⟨hci, rfl⟩ := pm_cls_of q1
    obtain ⟨-, hfc, kC, hkC, -⟩ := hK.2.1.1 ci _ q1
    refine ⟨cell, g1, by rw [g3]; rfl, ⟨kC, by rw [g2]; exact hkC⟩, fun comp hcomp => ?_⟩
    obtain ⟨c0, t0, f1, f2, f3⟩ := Cond.castable_spec (hK.word (pm_f13 ci hci ho) rfl #[])
    cases hfc.symm.trans f1
    cases hcomp.symm.trans f2
    rw [g2]
    exact f3
  · exact h1.elim
theorem pm_recv (hK : pm_Kn D tC G H0 s) (hh : pm_H D tC H0 s h H) {v ci : Nat} {fs : List Value} (hv : h.1 v = some (pm_o ci fs)) : ci < 10 ∧ ∃ cell : Cell, H[v]? = some cell ∧ cell.vm.isStatics = false ∧ s.vm.findClass (pm_cn ci) = some cell.cls := by
  rcases pm_rd hh hv with ⟨h1, h2⟩ | h1
  · obtain ⟨rr, q1, cell, g1, g2, g3, -⟩ := h2
    obtain ⟨hci, rfl⟩ := pm_cls_of q1
    obtain ⟨-, hfc, -⟩ := hK.2.1.1 ci _ q1
    exact ⟨hci, cell, g1, by rw [g3]; rfl, by rw [g2]; exact hfc⟩
  · exact h1.elim
theorem pm_mkarr (hx : p.tables.exec = Jvm.exec) (hb : c.code = pm_byt y) (hK : pm_Kn D tC G H0 s) {t : ArrayType} {q : Nat} {ty : FieldType} (hty : newarray.typeOf t = ty) (htc : (pm_tys tC)[q]? = some (tC q, ty)) (hne : ∀ C, ty ≠ .object C) (harr : (Cond.arrayClass ty).before args s = true) (hbs : componentBytes ty ≤ 8) (hd : decode (pm_byt y) pc = .ok (.newarray t, 2)) (hh : pm_H D tC H0 s h H) {n : Int32} {r : List Value} (hn : ¬ n < 0) (hn2 : ¬ 65536 < n.toNatClampNeg) {x : pm_C} {w : (Nat → Int32) ⊕ (Nat → Int64) ⊕ (Nat → UInt32) ⊕ (Nat → UInt64) ⊕ (Nat → Option Nat)} (hxc : pm_e tC x = .inl (tC q, n.toNatClampNeg, w)) (hxe : vp_cell (tC q) (n.toNatClampNeg, w) = arrV (tC q) n.toNatClampNeg (fun _ => defaultValue ty))
    (hc1 : cells + 1 ≤ R.cells) (hs1 : slots + n.toNatClampNeg ≤ R.slots)
    (kk : ∀ (H' : Heap), pm_H D tC H0 s (pm_add h x n.toNatClampNeg) H' → W p l e R s m args below meth c H' locs (cells + 1) (slots + n.toNatClampNeg) Q (F0 m (pc + 2) la (.ref h.2.1 :: r))) : W p l e R s m args below meth c H locs cells slots Q (F0 m pc la (.int n :: r)) := by
  subst hty
  refine va_newaK hx hb harr rfl hd rfl hn rfl (by have : n.toNatClampNeg * componentBytes (newarray.typeOf t) ≤ 65536 * 8 := Nat.mul_le_mul (by omega) hbs; omega) hc1 hs1 hh.1 fun H1 cA e1 z1 o1 hAr hNm => ?_
  refine kk H1 (hh.add z1 (fun q hq => o1 q hq) ?_)
  have hcA : cA = tC q := by
    have h2 := (hK.2.1.2 q _ htc).2
    unfold va_RA at h2
    split at h2
    · rename_i C hC
      exact absurd hC (hne C)
    · exact Option.some.inj (hNm.symm.trans h2)
  rw [hxc]
  show H1[h.2.1]? = some (vp_cell (tC q) (n.toNatClampNeg, w))
  rw [e1, hxe, hcA]
theorem pm_mkref (hx : p.tables.exec = Jvm.exec) (hb : c.code = pm_byt y) (hown : s.vm.findClass (pm_on (pm_own y)) = some m.cls) (hK : pm_Kn D tC G H0 s) {idx : Nat} (hal : pm_al (pm_own y) idx = true) (hd : decode (pm_byt y) pc = .ok (.anewarray idx, 3)) (hh : pm_H D tC H0 s h H) {n : Int32} {r : List Value} (hn : ¬ n < 0) (hn2 : ¬ 65536 < n.toNatClampNeg)
    (hc1 : cells + 1 ≤ R.cells) (hs1 : slots + n.toNatClampNeg ≤ R.slots)
    (kk : ∀ (H' : Heap), pm_H D tC H0 s (pm_add h (pm_r n.toNatClampNeg (fun _ => none)) n.toNatClampNeg) H' → W p l e R s m args below meth c H' locs (cells + 1) (slots + n.toNatClampNeg) Q (F0 m (pc + 3) la (.ref h.2.1 :: r))) : W p l e R s m args below meth c H locs cells slots Q (F0 m pc la (.int n :: r)) := by
  obtain ⟨en, g1, g3⟩ := pm_rowS hal
  have w1 := pm_f6 _ g3 _ g1
  refine W.anew hx hb hown (hK.word w1 rfl args) (va_AO.use hK.2.2.1) rfl hd rfl hn (by omega) hc1 hs1 fun cA kA comp f1 f2 f3 f4 => ?_
  have hz := hh.1
  rw [hz]
  refine kk _ (hh.add ?_ (fun q hq => ?_) ?_)
  · rw [Array.size_push, hz]
  · rw [Array.getElem?_push, if_neg (by omega)]
  · show (H.push _)[h.2.1]? = some (vp_cell (tC 3) _)
    rw [← hz, Array.getElem?_push_size, vp_cell_q, ← arrV_new]
    have hcA : cA = tC 3 := by
      obtain ⟨-, -, -, -, -, h4⟩ := (hK.2.1.2 3 (tC 3, .object pm_obj) rfl).2
      exact Option.some.inj (f1.symm.trans h4)
    rw [hcA]
    rfl
theorem pm_mkobj (hx : p.tables.exec = Jvm.exec) (hb : c.code = pm_byt y) (hown : s.vm.findClass (pm_on (pm_own y)) = some m.cls) (hK : pm_Kn D tC G H0 s) {idx ci : Nat} (hcl : pm_cl (pm_own y) idx = some ci) (hd : decode (pm_byt y) pc = .ok (.new idx, 3)) (hh : pm_H D tC H0 s h H)
    (hc1 : cells + 1 ≤ R.cells) (hs1 : slots + (pm_zero ci).length ≤ R.slots)
    (kk : ∀ (H' : Heap), pm_H D tC H0 s (pm_add h (pm_o ci (pm_zero ci)) (pm_zero ci).length) H' → W p l e R s m args below meth c H' locs (cells + 1) (slots + (pm_zero ci).length) Q (F0 m (pc + 3) la (.ref h.2.1 :: st))) : W p l e R s m args below meth c H locs cells slots Q (F0 m pc la st) := by
  obtain ⟨en, g1, g2, g3⟩ := pm_row hcl
  obtain ⟨hci, w1, w2, w3⟩ := pm_f5 _ g3 _ g1
  have g2' : en.1 = ci := g2
  dsimp only at hci w1 w2 w3
  rw [g2'] at hci w1 w2 w3
  have hlen : (pm_zero ci).length = (pm_cfs ci).length := by simp [pm_zero]
  have hKn := hK.2.1.1 ci _ (pm_cls_at hci)
  have hts : ∀ w ∈ lw_tbl.filter pm_mv0, w.before args s = true := fun w hw => hK.1 w (List.mem_filter.mp hw).1 (List.mem_filter.mp hw).2 args
  have hin : ∀ w ∈ u_ws (pm_cn ci) (pm_T ci) (pm_cfs ci).length, w ∈ lw_tbl.filter pm_mv0 := by
    intro w hw
    refine List.mem_filter.mpr ⟨pm_lays hci w hw, ?_⟩
    obtain ⟨j, -, rfl⟩ := List.mem_map.mp hw
    unfold u_lay
    split <;> rfl
  rw [hlen] at hs1 kk
  refine W.newcK hx hb hown (hK.word w1 rfl args) (hK.word w2 rfl args) (hK.word w3 rfl args) rfl hd hc1 hs1 hKn.2.1 hh.1 fun H1 kC hkC e1 z1 o1 => ?_
  refine kk H1 (hh.add z1 (fun q hq => o1 q hq) ⟨_, pm_cls_at hci, (u_born (fun k => pm_fty ((pm_cfs ci).getD k 0)) hts hin hKn hkC e1 (pm_f2 ci hci)).to (fun k hk => ?_)⟩)
  show defaultValue (pm_fty ((pm_cfs ci).getD k 0)) = (pm_zero ci).getD k .null
  unfold pm_zero
  rw [List.getD_eq_getElem?_getD, List.getD_eq_getElem?_getD, List.getElem?_map, List.getElem?_eq_getElem hk]
  rfl
end PMS3
