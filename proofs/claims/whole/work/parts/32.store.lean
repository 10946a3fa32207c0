/-! The small machine's store beside the heap; its reads, writes and makings are the machine's. -/
def pm_e (tC : Nat → ClassId) (x : pm_C) : va_E := match x with
  | .inl o => .inr o
  | .inr (.inl (k, n, f)) => .inl (tC k, n, .inl f)
  | .inr (.inr (.inl (n, f))) => .inl (tC 2, n, .inr (.inl f))
  | .inr (.inr (.inr (n, f))) => .inl (tC 3, n, .inr (.inr (.inr (.inr f))))
abbrev pm_obj : String := "java/lang/Object"
def pm_tys (tC : Nat → ClassId) : List (ClassId × FieldType) := [(tC 0, .int), (tC 1, .boolean), (tC 2, .long), (tC 3, .object pm_obj)]
/-- a cell that lay there before the law began: read only -/
def pm_ro (base : Nat) (U : State) (H : Heap) (a : Nat) (x : pm_C) : Prop := match x with
  | .inr (.inl (0, n, f)) => va_T .int a n (fun j => .int (f j)) (fun q => base ≤ q) U H
  | .inr (.inr (.inr (n, f))) => va_T (.object pm_obj) a n (fun j => va_rf (f j)) (fun q => base ≤ q) U H
  | _ => False
def pm_ok (D : va_G) (tC : Nat → ClassId) (base : Nat) (U : State) (H : Heap) (a : Nat) (x : pm_C) : Prop := (base ≤ a ∧ va_at D pm_cls (a, pm_e tC x) H) ∨ pm_ro base U H a x
/-- the heap holds the store: H0 is the heap as the law began -/
def pm_H (D : va_G) (tC : Nat → ClassId) (H0 : Heap) (U : State) (h : pm_S) (H : Heap) : Prop := H.size = h.2.1 ∧ H0.size ≤ h.2.1 ∧ (∀ q : Nat, q < H0.size → H[q]? = H0[q]?) ∧ ∀ (a : Nat) (x : pm_C), h.1 a = some x → pm_ok D tC H0.size U H a x
section PMH
variable {D : va_G} {tC : Nat → ClassId} {H0 : Heap}
theorem pm_ro.lt {base : Nat} {U : State} {H : Heap} {a : Nat} {x : pm_C} (h : pm_ro base U H a x) : a < base := by
  unfold pm_ro at h
  split at h
  · obtain ⟨cell, h1, h2, h3, h4, h5, h6, h7⟩ := h
    exact Nat.lt_of_not_le h7
  · obtain ⟨cell, h1, h2, h3, h4, h5, h6, h7⟩ := h
    exact Nat.lt_of_not_le h7
  · exact h.elim
theorem pm_ro.kept {base : Nat} {U : State} {H H1 : Heap} {a : Nat} {x : pm_C} (h : pm_ro base U H a x) (hq : ∀ q : Nat, q < base → H1[q]? = H[q]?) : pm_ro base U H1 a x := by
  have ha := h.lt
  unfold pm_ro at h ⊢
  split at h
  · obtain ⟨cell, h1, h2⟩ := h
    exact ⟨cell, by rw [hq a ha]; exact h1, h2⟩
  · obtain ⟨cell, h1, h2⟩ := h
    exact ⟨cell, by rw [hq a ha]; exact h1, h2⟩
  · exact h.elim
theorem pm_ro.moved {base : Nat} {u U : State} {H : Heap} {a : Nat} {x : pm_C} (hvm : u.vm.Alike U.vm) (h : pm_ro base u H a x) : pm_ro base U H a x := by
  unfold pm_ro at h ⊢
  split at h
  · exact va_T.moved hvm h
  · exact va_T.moved hvm h
  · exact h.elim
theorem pm_H.moved {u U : State} {h : pm_S} {H : Heap} (hvm : u.vm.Alike U.vm) (hh : pm_H D tC H0 u h H) : pm_H D tC H0 U h H := by
  refine ⟨hh.1, hh.2.1, hh.2.2.1, fun a x hx => ?_⟩
  rcases hh.2.2.2 a x hx with h1 | h1
  · exact Or.inl h1
  · exact Or.inr (h1.moved hvm)
theorem pm_ok.lt {base : Nat} {U : State} {H : Heap} {a : Nat} {x : pm_C} (hb : base ≤ H.size) (h : pm_ok D tC base U H a x) : a < H.size := by
  rcases h with ⟨-, h⟩ | h
  · exact h.lt
  · exact Nat.lt_of_lt_of_le h.lt hb
/-- a cell that may be written -/
theorem pm_H.own {U : State} {h : pm_S} {H : Heap} (hh : pm_H D tC H0 U h H) {a : Nat} {x : pm_C} (ha : H0.size ≤ a) (hx : h.1 a = some x) : va_at D pm_cls (a, pm_e tC x) H := by
  rcases hh.2.2.2 a x hx with h1 | h1
  · exact h1.2
  · exact absurd h1.lt (by omega)
theorem pm_H.put {U : State} {h : pm_S} {H H1 : Heap} (hh : pm_H D tC H0 U h H) {a : Nat} {x : pm_C} (ha : H0.size ≤ a) (hz : H1.size = H.size) (ho : ∀ q : Nat, q ≠ a → H1[q]? = H[q]?) (hx : va_at D pm_cls (a, pm_e tC x) H1) : pm_H D tC H0 U (pm_put h a x) H1 := by
  refine ⟨hz.trans hh.1, hh.2.1, fun q hq => (ho q (by omega)).trans (hh.2.2.1 q hq), fun b w hw => ?_⟩
  by_cases e : b = a
  · subst e
    have : w = x := by
      simp [pm_put, va_up] at hw
      exact hw.symm
    subst this
    exact Or.inl ⟨ha, hx⟩
  · have hw' : h.1 b = some w := by
      simp [pm_put, va_up, e] at hw
      exact hw
    rcases hh.2.2.2 b w hw' with ⟨h1, h2⟩ | h1
    · exact Or.inl ⟨h1, h2.kept (ho b e)⟩
    · exact Or.inr (h1.kept (fun q hq => ho q (by omega)))
theorem pm_H.add {U : State} {h : pm_S} {H H1 : Heap} (hh : pm_H D tC H0 U h H) {x : pm_C} {n : Nat} (hz : H1.size = h.2.1 + 1) (ho : ∀ q : Nat, q < h.2.1 → H1[q]? = H[q]?) (hx : va_at D pm_cls (h.2.1, pm_e tC x) H1) : pm_H D tC H0 U (pm_add h x n) H1 := by
  have hb := hh.2.1
  refine ⟨hz, Nat.le_succ_of_le hb, fun q hq => (ho q (by omega)).trans (hh.2.2.1 q hq), fun b w hw => ?_⟩
  by_cases e : b = h.2.1
  · subst e
    have : w = x := by
      simp [pm_add, va_up] at hw
      exact hw.symm
    subst this
    exact Or.inl ⟨hb, hx⟩
  · have hw' : h.1 b = some w := by
      simp [pm_add, va_up, e] at hw
      exact hw
    have hlt : b < h.2.1 := by
      have := (hh.2.2.2 b w hw').lt (by rw [hh.1]; exact hb)
      rw [hh.1] at this
      exact this
    rcases hh.2.2.2 b w hw' with ⟨h1, h2⟩ | h1
    · exact Or.inl ⟨h1, h2.kept (ho b hlt)⟩
    · exact Or.inr (h1.kept (fun q hq => ho q (by omega)))
theorem pm_H.gap {U : State} {h : pm_S} {H H1 : Heap} (hh : pm_H D tC H0 U h H) {n : Nat} (hz : H1.size = h.2.1 + 1) (ho : ∀ q : Nat, q < h.2.1 → H1[q]? = H[q]?) : pm_H D tC H0 U (pm_gap h n) H1 := by
  have hb := hh.2.1
  refine ⟨hz, Nat.le_succ_of_le hb, fun q hq => (ho q (by omega)).trans (hh.2.2.1 q hq), fun b w hw => ?_⟩
  have hw' : h.1 b = some w := hw
  have hlt : b < h.2.1 := by
    have := (hh.2.2.2 b w hw').lt (by rw [hh.1]; exact hb)
    rw [hh.1] at this
    exact this
  rcases hh.2.2.2 b w hw' with ⟨h1, h2⟩ | h1
  · exact Or.inl ⟨h1, h2.kept (ho b hlt)⟩
  · exact Or.inr (h1.kept (fun q hq => ho q (by omega)))
/-- all cells that may be written, as one world of the kit's -/
def pm_ws (tC : Nat → ClassId) (base : Nat) (h : pm_S) : va_W := (List.range h.2.1).filterMap (fun a => if base ≤ a then (h.1 a).map (fun x => (a, pm_e tC x)) else none)
theorem pm_ws_mem {base : Nat} {h : pm_S} {q : Nat × va_E} : q ∈ pm_ws tC base h ↔ ∃ x, q.1 < h.2.1 ∧ base ≤ q.1 ∧ h.1 q.1 = some x ∧ q.2 = pm_e tC x := by
  unfold pm_ws
  rw [List.mem_filterMap]
  constructor
  · rintro ⟨a, ha, hq⟩
    by_cases hb : base ≤ a
    · rw [if_pos hb] at hq
      cases hx : h.1 a with
      | none => rw [hx] at hq; cases hq
      | some x =>
        rw [hx] at hq
        cases hq
        exact ⟨x, List.mem_range.mp ha, hb, hx, rfl⟩
    · rw [if_neg hb] at hq
      cases hq
  · rintro ⟨x, h1, h2, h3, h4⟩
    refine ⟨q.1, List.mem_range.mpr h1, ?_⟩
    rw [if_pos h2, h3]
    obtain ⟨a, b⟩ := q
    cases h4
    rfl
theorem pm_inj {α : Type} {f : Nat → Option (Nat × α)} (hf : ∀ a q, f a = some q → q.1 = a) : ∀ (L : List Nat), L.Nodup → ∀ (i j : Nat) (u v : Nat × α), (L.filterMap f)[i]? = some u → (L.filterMap f)[j]? = some v → u.1 = v.1 → i = j := by
  intro L
  induction L with
  | nil => intro _ i j u v hi; simp at hi
  | cons a t ih =>
    intro hn i j u v hi hj he
    obtain ⟨hna, hnt⟩ := List.nodup_cons.mp hn
    cases hfa : f a with
    | none =>
      rw [List.filterMap_cons_none hfa] at hi hj
      exact ih hnt i j u v hi hj he
    | some w =>
      rw [List.filterMap_cons_some hfa] at hi hj
      have hw : w.1 = a := hf a w hfa
      have out : ∀ (k : Nat) (z : Nat × α), (t.filterMap f)[k]? = some z → z.1 ≠ a := by
        intro k z hz e
        obtain ⟨b, hb, hfb⟩ := List.mem_filterMap.mp (List.mem_of_getElem? hz)
        have := hf b z hfb
        rw [e] at this
        exact hna (this ▸ hb)
      cases i with
      | zero =>
        cases j with
        | zero => rfl
        | succ j =>
          simp at hi hj
          subst hi
          exact absurd (he.symm.trans hw) (out j v hj)
      | succ i =>
        cases j with
        | zero =>
          simp at hi hj
          subst hj
          exact absurd (he.trans hw) (out i u hi)
        | succ j =>
          simp at hi hj
          rw [ih hnt i j u v hi hj he]
theorem pm_full {U : State} {h : pm_S} {H : Heap} (hh : pm_H D tC H0 U h H) : va_P D pm_cls (pm_ws tC H0.size h) H ∧ va_D (fun q => H0.size ≤ q) (pm_ws tC H0.size h) := by
  refine ⟨fun k q hk => ?_, fun i j u v hi hj he => ?_, fun k q hk => ?_⟩
  · obtain ⟨x, h1, h2, h3, h4⟩ := pm_ws_mem.mp (List.mem_of_getElem? hk)
    obtain ⟨a, b⟩ := q
    cases h4
    exact hh.own h2 h3
  · refine pm_inj (fun a q hq => ?_) _ (List.nodup_range) i j u v hi hj he
    split at hq
    · cases hx : h.1 a with
      | none => rw [hx] at hq; cases hq
      | some x => rw [hx] at hq; cases hq; rfl
    · cases hq
  · obtain ⟨x, h1, h2, h3, h4⟩ := pm_ws_mem.mp (List.mem_of_getElem? hk)
    exact h2
theorem pm_ix_of {U : State} {h : pm_S} {H : Heap} (hh : pm_H D tC H0 U h H) {a : Nat} {x : pm_C} (ha : H0.size ≤ a) (hx : h.1 a = some x) : ∃ q0 : Nat, (pm_ws tC H0.size h)[q0]? = some (a, pm_e tC x) := by
  have hlt : a < h.2.1 := by
    have := (hh.own ha hx).lt
    rw [hh.1] at this
    exact this
  exact List.mem_iff_getElem?.mp (pm_ws_mem.mpr ⟨x, hlt, ha, hx, rfl⟩)
end PMH
section PMU
variable {D : va_G} {tC : Nat → ClassId} {H0 : Heap}
variable {p : Program} {l : Launch} {e : Env} {R : Room} {s : State} {m : MethodId} {args : Array Value} {below : List Frame} {meth : Method} {c : Code} {H : Heap} {locs : List Loc} {cells slots : Nat} {Q : State → Prop}
theorem pm_S.rf (hl : ∀ q ∈ locs, H0.size ≤ q.base) : va_S (fun q => H0.size ≤ q) H H locs := ⟨Nat.le_refl _, fun _ _ _ => rfl, hl⟩
/-- behind a write by one of the kit's rows: the store with the cell written -/
theorem pm_upd {h : pm_S} {H1 : Heap} {locs1 : List Loc} {g : JFrame} (hh : pm_H D tC H0 s h H) (hc : s.heap.size + cells = h.2.1) {a q0 : Nat} {x x0 : pm_C} (ha : H0.size ≤ a) (hx : h.1 a = some x0) (hq : (pm_ws tC H0.size h)[q0]? = some (a, pm_e tC x0))
    (hP : va_P D pm_cls ((pm_ws tC H0.size h).set q0 (a, pm_e tC x)) H1) (hS : va_S (fun q => H0.size ≤ q) H H1 locs1)
    (kk : ∀ (H' : Heap) (locs' : List Loc), pm_H D tC H0 s (pm_put h a x) H' → (∀ q ∈ locs', H0.size ≤ q.base) → W p l e R s m args below meth c H' locs' cells slots Q g) : W p l e R s m args below meth c H1 locs1 cells slots Q g := by
  intro T hT X
  have z1 : H1.size = H.size := by
    have h1 := X.heapSize
    rw [hT, hc] at h1
    have h2 := hS.1
    have h3 := hh.1
    omega
  have hlq : q0 < (pm_ws tC H0.size h).length := (List.getElem?_eq_some_iff.mp hq).1
  refine kk H1 locs1 ⟨z1.trans hh.1, hh.2.1, fun q hq => ?_, fun b w hw => ?_⟩ hS.2.2 T hT X
  · rw [hS.2.1 q (by rw [hh.1]; have := hh.2.1; omega) (by omega)]
    exact hh.2.2.1 q hq
  · by_cases e : b = a
    · subst e
      have : w = x := by
        simp [pm_put, va_up] at hw
        exact hw.symm
      subst this
      exact Or.inl ⟨ha, hP q0 (b, pm_e tC w) (by rw [List.getElem?_set_self hlq])⟩
    · have hw' : h.1 b = some w := by
        simp [pm_put, va_up, e] at hw
        exact hw
      rcases hh.2.2.2 b w hw' with ⟨h1, h2⟩ | h1
      · obtain ⟨j, hj⟩ := pm_ix_of hh h1 hw'
        have hne : q0 ≠ j := by
          intro z
          subst z
          rw [hq] at hj
          exact e (congrArg Prod.fst (Option.some.inj hj)).symm
        exact Or.inl ⟨h1, hP j (b, pm_e tC w) (by rw [List.getElem?_set_ne hne]; exact hj)⟩
      · refine Or.inr (h1.kept (fun q hq => ?_))
        rw [hS.2.1 q (by rw [hh.1]; have := hh.2.1; omega) (by omega)]
end PMU
