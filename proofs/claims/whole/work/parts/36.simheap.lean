/-! Reads, writes and makings of the small machine are the machine's. -/
theorem pm_P1 {D : va_G} {cl : List vw_C} {q : Nat × va_E} {H : Heap} (h : va_at D cl q H) : va_P D cl [q] H := by
  intro k r hk
  have hz : k < 1 := (List.getElem?_eq_some_iff.mp hk).1
  rw [show k = 0 by omega] at hk
  cases hk
  exact h
theorem pm_fit_ok {ty : FieldType} {v : Value} (h : pm_fit ty v = true) : narrow ty v = v ∧ fits ty v = true := by
  unfold pm_fit at h
  split at h
  · split at h
    · exact ⟨rfl, rfl⟩
    · cases h
  · split at h
    · rename_i x
      rcases Bool.or_eq_true_iff.mp h with h1 | h1
      · rw [beq_iff_eq.mp h1]
        exact ⟨by decide +kernel, by decide +kernel⟩
      · rw [beq_iff_eq.mp h1]
        exact ⟨by decide +kernel, by decide +kernel⟩
    · cases h
  · split at h
    · exact ⟨rfl, rfl⟩
    · exact ⟨rfl, rfl⟩
    · cases h
  · split at h
    · exact ⟨rfl, rfl⟩
    · exact ⟨rfl, rfl⟩
    · cases h
  · cases h
section PMS2
variable {D : va_G} {tC : Nat → ClassId} {G : pm_G} {H0 : Heap}
variable {p : Program} {l : Launch} {e : Env} {R : Room} {s : State} {m : MethodId} {args : Array Value} {below : List Frame} {meth : Method} {c : Code} {H : Heap} {locs : List Loc} {cells slots : Nat} {Q : State → Prop}
variable {y pc len : Nat} {i : Instr} {la : Array Slot} {st st' : List Value} {h h' : pm_S}
theorem pm_cs0 {g : JFrame} (h : pm_S) (k : W p l e R s m args below meth c H locs (cells + (h.2.1 - h.2.1)) (slots + (h.2.2 - h.2.2)) Q g) : W p l e R s m args below meth c H locs cells slots Q g := W.cs (by omega) (by omega) k
theorem pm_rd (hh : pm_H D tC H0 s h H) {a : Nat} {x : pm_C} (hx : h.1 a = some x) : (H0.size ≤ a ∧ va_at D pm_cls (a, pm_e tC x) H) ∨ pm_ro H0.size s H a x := hh.2.2.2 a x hx
theorem pm_s_alen (hx : p.tables.exec = Jvm.exec) (hb : c.code = pm_byt y) (hK : pm_Kn D tC G H0 s) (hd : decode (pm_byt y) pc = .ok (.arraylength, 1)) (hh : pm_H D tC H0 s h H) {a n : Nat} {r : List Value} {x : pm_C} (ha : h.1 a = some x) (hn : (∃ f, x = pm_a 0 n f) ∨ ∃ f, x = pm_r n f)
    (kk : W p l e R s m args below meth c H locs cells slots Q (F0 m (pc + 1) la (.int (Int32.ofNat n) :: r))) : W p l e R s m args below meth c H locs cells slots Q (F0 m pc la (.ref a :: r)) := by
  rcases pm_rd hh ha with ⟨h1, h2⟩ | h1
  · rcases hn with ⟨f, rfl⟩ | ⟨f, rfl⟩
    · exact va_alen (tys := pm_tys tC) hx hb hK.2.1 (pm_P1 h2) 0 0 rfl rfl rfl hd kk
    · exact va_alen (tys := pm_tys tC) hx hb hK.2.1 (pm_P1 h2) 0 3 rfl rfl rfl hd kk
  · rcases hn with ⟨f, rfl⟩ | ⟨f, rfl⟩
    · obtain ⟨cell, g1, g2, g3, g4, g5, g6, g7⟩ := h1
      exact W.alen (n := Int32.ofNat n) hx hb g1 g2 g5 rfl rfl hd kk
    · obtain ⟨cell, g1, g2, g3, g4, g5, g6, g7⟩ := h1
      exact W.alen (n := Int32.ofNat n) hx hb g1 g2 g5 rfl rfl hd kk
theorem pm_s_iald (hx : p.tables.exec = Jvm.exec) (hb : c.code = pm_byt y) (hK : pm_Kn D tC G H0 s) (hd : decode (pm_byt y) pc = .ok (.iaload, 1)) (hh : pm_H D tC H0 s h H) {a n : Nat} {f : Nat → Int32} {j : Int32} {r : List Value} (ha : h.1 a = some (pm_a 0 n f)) (hn : ¬ (j < 0 ∨ n ≤ j.toNatClampNeg))
    (kk : W p l e R s m args below meth c H locs cells slots Q (F0 m (pc + 1) la (.int (f j.toNatClampNeg) :: r))) : W p l e R s m args below meth c H locs cells slots Q (F0 m pc la (.int j :: .ref a :: r)) := by
  rcases pm_rd hh ha with ⟨h1, h2⟩ | h1
  · exact va_iald (tys := pm_tys tC) hx hb hK.2.1 (pm_P1 h2) 0 0 rfl rfl hn hd kk
  · obtain ⟨cell, g1, g2, g3, g4, g5, g6, g7⟩ := h1
    have hlt : j.toNatClampNeg < n := Nat.not_le.mp fun q => hn (Or.inr q)
    exact W.iald (v := .int (f j.toNatClampNeg)) hx hb g1 g2 g3 (fun q => hn (q.elim Or.inl (fun z => absurd z (by omega)))) (g6 _ hlt) rfl rfl hd kk
theorem pm_s_get (hx : p.tables.exec = Jvm.exec) (hb : c.code = pm_byt y) (hown : s.vm.findClass (pm_on (pm_own y)) = some m.cls) (hK : pm_Kn D tC G H0 s) {idx : Nat} (hd : decode (pm_byt y) pc = .ok (.getfield idx, 3)) (hh : pm_H D tC H0 s h H) {a ci fid k : Nat} {fs r : List Value} {v : Value}
    (ha : h.1 a = some (pm_o ci fs)) (hf : pm_fl (pm_own y) idx = some fid) (hk : pm_ix fid (pm_cfs ci) = some k) (hv : fs[k]? = some v)
    (kk : W p l e R s m args below meth c H locs cells slots Q (F0 m (pc + 3) la (v :: r))) : W p l e R s m args below meth c H locs cells slots Q (F0 m pc la (.ref a :: r)) := by
  rcases pm_rd hh ha with ⟨h1, h2⟩ | h1
  · obtain ⟨rr, q1, -⟩ := id h2
    obtain ⟨hci, rfl⟩ := pm_cls_of q1
    obtain ⟨hk1, hk2⟩ := pm_ix_spec hk
    obtain ⟨en, g1, g2, g3⟩ := pm_row hf
    obtain ⟨w1, w2⟩ := pm_f4 _ g3 _ g1
    have hT : pm_T ci k = pm_fd en.1 := by
      show pm_fd ((pm_cfs ci).getD k 0) = _
      rw [hk2, ← g2]
    refine va_get (ref := en.2.1) (D := D) (tys := pm_tys tC) (Ts := lw_tbl.filter pm_mv0) hx hb (fun w hw => hK.1 w (List.mem_filter.mp hw).1 (List.mem_filter.mp hw).2 args) (fun w hw => List.mem_filter.mpr ⟨pm_lays hci w hw, ?_⟩) hown hK.2.1 (pm_P1 h2) 0 rfl (pm_cls_at hci) k hk1 ?_ ?_ hv hd kk
    · obtain ⟨j, -, rfl⟩ := List.mem_map.mp hw
      unfold u_lay
      split <;> rfl
    · rw [hT]
      exact hK.word w1 rfl args
    · rw [hT]
      rcases w2 with w2 | w2
      · intro x hx
        rw [show en.2.1 = (pm_fd en.1).1 from w2]
        exact hx
      · exact fun x hx => u_same (hK.word w2 rfl args) x hx
  · exact h1.elim
end PMS2
