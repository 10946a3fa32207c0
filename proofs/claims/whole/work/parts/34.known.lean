/-! What is known of the tables at every state of the run. -/
def pm_mv0 (w : Cond) : Bool := goodWord w || (match w with
  | .declares _ => true
  | .castable _ _ => true
  | .methodLinkNest _ _ _ _ => true
  | _ => false)
abbrev pm_AL : String := "java/util/ArrayList"
abbrev pm_de : String := "DEFAULTCAPACITY_EMPTY_ELEMENTDATA"
abbrev pm_oa : String := "[Ljava/lang/Object;"
def pm_strL : List (Nat × String) := [(74, "no term"), (84, "the draft is full"), (94, "the key does not rise"), (99, "the draft is empty or the buffer is full"), (156, "no room, or too many segments"), (165, "not a run of segments"), (171, "no room"), (173, "the pile is full"), (178, "no way to combine"), (182, "fewer than two queries"), (190, "too many leaves"), (201, "no query"), (217, "no query or no such document")]
/-- a static of the library that holds a reference or null, as it was when the law began -/
def pm_sw0 (C n d : String) (H0 : Heap) (U : State) : Prop := ∃ (c : ClassId) (k : Class) (i : Nat) (f : Field) (a : Nat) (cell : Cell) (v : Value), U.vm.findClass C = some c ∧ U.fieldFound? C n d = some (c, k, i, f) ∧ f.isStatic = true ∧ k.statics = some a ∧ H0[a]? = some cell ∧ cell.vm.isStatics = true ∧ cell.cls = c ∧ f.slot < cell.slots.size ∧ k.staticTypes[f.slot]? = some f.type ∧ cell.slots[f.slot]? = some v ∧ v.isRef = true
theorem pm_sw0.moved {C n d : String} {H0 : Heap} {u U : State} (hvm : u.vm.Alike U.vm) (h : pm_sw0 C n d H0 u) : pm_sw0 C n d H0 U := by
  obtain ⟨c, k, i, f, a, cell, v, h1, h2, h3, h4, h5, h6, h7, h8, h9, h10⟩ := h
  obtain ⟨k', hi', he⟩ := State.fieldFound?_setVm hvm h2
  exact ⟨c, k', i, f, a, cell, v, by rw [hvm.findClass]; exact h1, hi', h3, by rw [he]; exact h4, h5, h6, h7, h8, by rw [he]; exact h9, h10⟩
/-- what throwing leans on -/
def pm_Kx (H0 : Heap) (U : State) : Prop := (∀ e ∈ pm_strL, ∃ q : Nat, vk_R "PostingShelf" e.1 e.2 q U) ∧ pm_sw0 Bundle.tN "UNASSIGNED_STACK" Bundle.steD H0 U ∧ pm_sw0 Bundle.tN "SUPPRESSED_SENTINEL" Bundle.listD H0 U ∧ ∀ i j : Nat, i < 3 → j < 3 → i ≠ j → va_Nc (pm_xn i) (pm_xn j) U
/-- the words, the kinds of objects and arrays, the mirror of Object[], the shared empty array -/
def pm_Kn (D : va_G) (tC : Nat → ClassId) (G : pm_G) (H0 : Heap) (U : State) : Prop :=
  (∀ w ∈ lw_tbl, pm_mv0 w = true → ∀ a : Array Value, w.before a U = true) ∧ va_K D pm_cls (pm_tys tC) U ∧ va_AO pm_obj U ∧ va_Mi pm_oa G.2.1 U ∧ va_Z pm_AL pm_de pm_oa (.ref G.2.2) (fun q => H0.size ≤ q) U H0 ∧ pm_Kx H0 U
theorem pm_warm {w : Cond} (hw : pm_mv0 w = true) {s U : State} (hW : s.WarmedH U.vm) (h : ∀ a : Array Value, w.before a s = true) (a : Array Value) : w.before a U = true := by
  unfold pm_mv0 at hw
  rcases Bool.or_eq_true_iff.mp hw with hg | hg
  · exact word_at hW (good_of_word hg) (h #[])
  · split at hg
    · exact va_Nw.use rfl (va_Nw.warmD hW (h #[]))
    · exact va_Nw.use rfl (va_Nw.warmC hW (h #[]))
    · exact va_Nw.use rfl (va_Nw.warmM hW (h #[]))
    · cases hg
section PMK
variable {D : va_G} {tC : Nat → ClassId} {G : pm_G} {H0 : Heap} {s U : State}
theorem pm_Kn.warm (hK : pm_Kn D tC G H0 s) (hW : s.WarmedH U.vm) : pm_Kn D tC G H0 U :=
  ⟨fun w hw hm a => pm_warm hm hW (hK.1 w hw hm) a, va_K.moved hW.alike hK.2.1, va_AO.moved hW.alike hK.2.2.1, va_Mi.moved hW.alike hK.2.2.2.1, va_Z.moved hW.alike hK.2.2.2.2.1, fun e he => (hK.2.2.2.2.2.1 e he).imp fun q hq => hq.warm hW, hK.2.2.2.2.2.2.1.moved hW.alike, hK.2.2.2.2.2.2.2.1.moved hW.alike, fun i j hi hj hij => va_Nc.moved hW.alike (hK.2.2.2.2.2.2.2.2 i j hi hj hij)⟩
theorem pm_Kn.same (hK : pm_Kn D tC G H0 s) (hv : s.vm = U.vm) : pm_Kn D tC G H0 U := by
  have hW : s.WarmedH U.vm := by rw [← hv]; exact State.WarmedH.refl s
  exact hK.warm hW
theorem pm_Kn.word (hK : pm_Kn D tC G H0 s) {i : Nat} {w : Cond} (hi : lw_tbl[i]? = some w) (hm : pm_mv0 w = true) (a : Array Value) : w.before a s = true := hK.1 w (pm_in hi) hm a
end PMK
theorem pm_lk {α : Type} {L : List (Nat × α)} {i : Nat} {e : α} (h : L.lookup i = some e) : (i, e) ∈ L := by
  induction L with
  | nil => cases h
  | cons q t ih =>
    obtain ⟨j, x⟩ := q
    rw [List.lookup_cons] at h
    cases hij : i == j with
    | true =>
      rw [hij] at h
      have e1 : i = j := beq_iff_eq.mp hij
      cases h
      rw [e1]
      exact List.mem_cons_self
    | false =>
      rw [hij] at h
      exact List.mem_cons_of_mem _ (ih h)
theorem pm_lk2 {α : Type} {L : List ((Nat × Nat) × α)} {i : Nat × Nat} {e : α} (h : L.lookup i = some e) : (i, e) ∈ L := by
  induction L with
  | nil => cases h
  | cons q t ih =>
    obtain ⟨j, x⟩ := q
    rw [List.lookup_cons] at h
    cases hij : i == j with
    | true =>
      rw [hij] at h
      have e1 : i = j := beq_iff_eq.mp hij
      cases h
      rw [e1]
      exact List.mem_cons_self
    | false =>
      rw [hij] at h
      exact List.mem_cons_of_mem _ (ih h)
/-- a row of a table by its place and its entry -/
theorem pm_row {α β : Type} {T : List (List (Nat × α))} {o i : Nat} {f : α → β} {v : β} (h : ((T.getD o []).lookup i).map f = some v) : ∃ e, (i, e) ∈ T.getD o [] ∧ f e = v ∧ o < T.length := by
  cases hx : (T.getD o []).lookup i with
  | none => rw [hx] at h; cases h
  | some e =>
    rw [hx] at h
    cases h
    refine ⟨e, pm_lk hx, rfl, ?_⟩
    apply Classical.byContradiction
    intro hc
    have : T.getD o [] = [] := by
      rw [List.getD_eq_getElem?_getD, List.getElem?_eq_none (Nat.le_of_not_lt hc)]
      rfl
    rw [this] at hx
    cases hx
theorem pm_rowS {α : Type} {T : List (List (Nat × α))} {o i : Nat} (h : ((T.getD o []).lookup i).isSome = true) : ∃ e, (i, e) ∈ T.getD o [] ∧ o < T.length := by
  obtain ⟨e, he⟩ := Option.isSome_iff_exists.mp h
  obtain ⟨e', h1, -, h3⟩ := pm_row (f := id) (v := e) (by rw [he]; rfl)
  exact ⟨e', h1, h3⟩
theorem pm_cls_at {c : Nat} (h : c < 10) : pm_cls[c]? = some (pm_cn c, pm_T c, (pm_cfs c).length) := by
  unfold pm_cls
  rw [List.getElem?_map, List.getElem?_range h]
  rfl
theorem pm_cls_of {c : Nat} {r : vw_C} (h : pm_cls[c]? = some r) : c < 10 ∧ r = (pm_cn c, pm_T c, (pm_cfs c).length) := by
  have hc : c < 10 := by
    have := (List.getElem?_eq_some_iff.mp h).1
    simpa [pm_cls] using this
  exact ⟨hc, Option.some.inj (h.symm.trans (pm_cls_at hc))⟩
theorem pm_lays {c : Nat} (hc : c < 10) : ∀ w ∈ u_ws (pm_cn c) (pm_T c) (pm_cfs c).length, w ∈ lw_tbl := by
  intro w hw
  obtain ⟨k, hk, rfl⟩ := List.mem_map.mp hw
  exact pm_in (pm_f1 c hc k (List.mem_range.mp hk))
theorem pm_ix_spec {x : Nat} : ∀ {L : List Nat} {k : Nat}, pm_ix x L = some k → k < L.length ∧ L.getD k 0 = x := by
  intro L
  induction L with
  | nil => intro k h; cases h
  | cons y r ih =>
    intro k h
    unfold pm_ix at h
    split at h
    · rename_i e
      cases h
      exact ⟨Nat.zero_lt_succ _, e.symm⟩
    · cases hx : pm_ix x r with
      | none => rw [hx] at h; cases h
      | some j =>
        rw [hx] at h
        cases h
        obtain ⟨h1, h2⟩ := ih hx
        exact ⟨Nat.succ_lt_succ h1, by simpa using h2⟩
