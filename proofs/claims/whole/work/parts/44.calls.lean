/-! A run makes cells and never takes one back; what a step is; what a method's contract is. -/
def pm_le (h h' : pm_S) : Prop := h.2.1 ≤ h'.2.1 ∧ h.2.2 ≤ h'.2.2
theorem pm_le.rf (h : pm_S) : pm_le h h := ⟨Nat.le_refl _, Nat.le_refl _⟩
theorem pm_le.tr {a b d : pm_S} (h : pm_le a b) (h' : pm_le b d) : pm_le a d := ⟨Nat.le_trans h.1 h'.1, Nat.le_trans h.2 h'.2⟩
theorem pm_le.add (h : pm_S) (x : pm_C) (n : Nat) : pm_le h (pm_add h x n) := ⟨Nat.le_succ _, Nat.le_add_right _ _⟩
theorem pm_le.put (h : pm_S) (a : Nat) (x : pm_C) : pm_le h (pm_put h a x) := ⟨Nat.le_refl _, Nat.le_refl _⟩
theorem pm_le.gap (h : pm_S) (n : Nat) : pm_le h (pm_gap h n) := ⟨Nat.le_succ _, Nat.le_add_right _ _⟩
set_option maxHeartbeats 4000000 in
theorem pm_heap_le {G : pm_G} {y : Nat} {i : Instr} {st st' : List Value} {h h' : pm_S} (hp : pm_heap G y i st h = some (st', h')) : pm_le h h' := by
  unfold pm_heap at hp
  repeat' split at hp
  all_goals first
    | (cases hp; exact pm_le.rf _)
    | (cases hp; exact pm_le.put _ _ _)
    | (cases hp; exact pm_le.add _ _ _)
    | cases hp
set_option maxHeartbeats 4000000 in
theorem pm_nat_le {G : pm_G} {k : Nat} {st st' : List Value} {h h' : pm_S} (hp : pm_nat G k st h = some (st', h')) : pm_le h h' := by
  unfold pm_nat pm_nat0 pm_nat1 pm_nat2 pm_nat3 pm_nat4 pm_nat5 at hp
  repeat' split at hp
  all_goals first
    | (cases hp; exact pm_le.rf _)
    | (cases hp; exact pm_le.put _ _ _)
    | (cases hp; exact pm_le.add _ _ _)
    | cases hp
theorem pm_end_le {y : Nat} {i : Instr} {st : List Value} {h : pm_S} {q : pm_R × pm_S} (hp : pm_end y i st h = some q) : pm_le h q.2 := by
  unfold pm_end at hp
  repeat' split at hp
  all_goals first
    | (cases hp; exact pm_le.rf _)
    | (cases hp; exact pm_le.gap _ _)
    | cases hp
/-- which of its parts a step is -/
theorem pm_next_inv {G : pm_G} {y pc : Nat} {ls : pm_V} {st : List Value} {h : pm_S} {q : pm_N} (hn : pm_next G y pc ls st h = some q) : ∃ i len, pm_cat y pc = some (i, len) ∧
    ((∃ ls' st', pm_pure i ls st = some (ls', st') ∧ q = .inl (pc + len, ls', st', h)) ∨
     (∃ b o r, pm_jmp i st = some (b, o, r) ∧ 0 ≤ (pc : Int) + o ∧ q = .inl (if b then ((pc : Int) + o).toNat else pc + len, ls, r, h)) ∨
     (∃ st' h', pm_heap G y i st h = some (st', h') ∧ q = .inl (pc + len, ls, st', h')) ∨
     (∃ k st' h', pm_nid y i = some k ∧ pm_nat G k st h = some (st', h') ∧ q = .inl (pc + len, ls, st', h')) ∨
     (∃ z as r, pm_inv y i st h = some (z, as, r) ∧ q = .inr (.inl (z, as, pc + len, ls, r))) ∨
     (∃ w h', pm_end y i st h = some (w, h') ∧ q = .inr (.inr (w, h')))) := by
  unfold pm_next at hn
  split at hn
  · cases hn
  · rename_i i len hcat
    refine ⟨i, len, hcat, ?_⟩
    split at hn
    · rename_i h1
      cases hn
      exact Or.inl ⟨_, _, h1, rfl⟩
    · split at hn
      · rename_i h1
        split at hn
        · rename_i h2
          cases hn
          exact Or.inr (Or.inl ⟨_, _, _, h1, h2, rfl⟩)
        · cases hn
      · split at hn
        · rename_i h1
          cases hn
          exact Or.inr (Or.inr (Or.inl ⟨_, _, h1, rfl⟩))
        · split at hn
          · rename_i h1
            split at hn
            · rename_i h2
              cases hn
              exact Or.inr (Or.inr (Or.inr (Or.inl ⟨_, _, _, h1, h2, rfl⟩)))
            · cases hn
          · split at hn
            · rename_i h1
              cases hn
              exact Or.inr (Or.inr (Or.inr (Or.inr (Or.inl ⟨_, _, _, h1, rfl⟩))))
            · split at hn
              · rename_i q' h1
                cases hn
                exact Or.inr (Or.inr (Or.inr (Or.inr (Or.inr ⟨_, _, h1, rfl⟩))))
              · cases hn
theorem pm_run_le {G : pm_G} {call : pm_K} {y : Nat} (hp : ∀ z as h (Q : pm_Q), call z as h Q → ∃ w0 h0, Q w0 h0 ∧ call z as h (pm_pt w0 h0)) (hc : ∀ z as h w0 h0, call z as h (pm_pt w0 h0) → pm_le h h0) :
    ∀ n pc ls st h w0 h0, pm_run G call y n pc ls st h (pm_pt w0 h0) → pm_le h h0 := by
  intro n
  induction n with
  | zero => intro pc ls st h w0 h0 hr; exact hr.elim
  | succ n ih =>
    intro pc ls st h w0 h0 hr
    unfold pm_run at hr
    cases hx : pm_next G y pc ls st h with
    | none => rw [hx] at hr; exact hr.elim
    | some q =>
      rw [hx] at hr
      obtain ⟨i, len, hcat, hq⟩ := pm_next_inv hx
      rcases hq with ⟨ls', st', h1, rfl⟩ | ⟨b, o, r, h1, h2, rfl⟩ | ⟨st', h', h1, rfl⟩ | ⟨k, st', h', h1, h2, rfl⟩ | ⟨z, as, r, h1, rfl⟩ | ⟨w, h', h1, rfl⟩
      · exact ih _ _ _ _ _ _ hr
      · exact ih _ _ _ _ _ _ hr
      · exact (pm_heap_le h1).tr (ih _ _ _ _ _ _ hr)
      · exact (pm_nat_le h2).tr (ih _ _ _ _ _ _ hr)
      · obtain ⟨w1, h3, hw, hcl⟩ := hp _ _ _ _ hr
        refine (hc _ _ _ _ _ hcl).tr ?_
        cases w1 with
        | inl v => exact ih _ _ _ _ _ _ hw
        | inr k =>
          dsimp only at hw
          cases hpp : pm_hnd y pc k with
          | none => rw [hpp] at hw; exact hw.elim
          | some p => rw [hpp] at hw; exact ih _ _ _ _ _ _ hw
      · obtain ⟨-, rfl⟩ := hr
        exact pm_end_le h1
theorem pm_call_le {G : pm_G} : ∀ d z as h w0 h0, pm_call G d z as h (pm_pt w0 h0) → pm_le h h0 := by
  intro d
  induction d with
  | zero => intro z as h w0 h0 hr; exact hr.elim
  | succ d ih =>
    intro z as h w0 h0 hr
    obtain ⟨-, n, hn⟩ := hr
    exact pm_run_le (pm_call_pt d) ih _ _ _ _ _ _ _ hn
def pm_rm (d mc ms : Nat) : Room := { frames := d + 8, cells := mc, slots := ms, locals := 64 * d + 200 }
/-- how a call ended: with a value, or with an exception of the k-th kind, which lies at the last address -/
def pm_oc (w : pm_R) (o : Outcome) (t : State) (h : pm_S) : Prop := match w with
  | .inl v => o = .returned v
  | .inr k => o = .threw (h.2.1 - 1) ∧ ∃ cell : Cell, t.heap[h.2.1 - 1]? = some cell ∧ cell.vm.isStatics = false ∧ t.vm.findClass (pm_xn k) = some cell.cls
def pm_Pc (D : va_G) (tC : Nat → ClassId) (G : pm_G) (H0 : Heap) (as : List Value) (h : pm_S) : Array Value → State → Prop := fun a U => a = as.toArray ∧ pm_Kn D tC G H0 U ∧ pm_H D tC H0 U h U.heap
def pm_Qc (D : va_G) (tC : Nat → ClassId) (G : pm_G) (H0 : Heap) (w0 : pm_R) (h0 : pm_S) : Array Value → State → Outcome → State → Prop := fun _ _ o t => pm_oc w0 o t h0 ∧ pm_Kn D tC G H0 t ∧ pm_H D tC H0 t h0 t.heap
def pm_FE (st t : State) (L : List Loc) (k n : Nat) : Prop := st.WarmedH t.vm ∧ st.sameButNew ({ t with vm := st.vm } : State) L k n
/-- a method's contract: from the store h with the arguments as it comes to w0 and the store h0 -/
def pm_Met (l : Launch) (D : va_G) (tC : Nat → ClassId) (G : pm_G) (H0 : Heap) (d y : Nat) (as : List Value) (h : pm_S) (w0 : pm_R) (h0 : pm_S) : Prop :=
  MetFree l (pm_nm y) (headSpec [pm_cw y] (pm_rm d (h0.2.1 - h.2.1) (h0.2.2 - h.2.2))) (pm_Pc D tC G H0 as h) (fun _ _ _ _ _ => True)
    (fun a st o t => pm_Qc D tC G H0 w0 h0 a st o t ∧ ∃ L, pm_FE st t L (h0.2.1 - h.2.1) (h0.2.2 - h.2.2) ∧ ∀ q ∈ L, H0.size ≤ q.base)
section PMC
variable {D : va_G} {tC : Nat → ClassId} {G : pm_G} {H0 : Heap}
variable {p : Program} {l : Launch} {e : Env} {R : Room} {s : State} {m : MethodId} {args : Array Value} {below : List Frame} {meth : Method} {c : Code} {H : Heap} {locs : List Loc} {cells slots : Nat} {Q : State → Prop}
variable {y pc len : Nat} {i : Instr} {la : Array Slot} {st st' : List Value} {h h' : pm_S}
theorem pm_Met.ret {d z : Nat} {as : List Value} {v : Option Value} {h0 : pm_S} (hM : pm_Met l D tC G H0 d z as h (.inl v) h0) :
    Met l (pm_nm z) [pm_cw z] (pm_rm d (h0.2.1 - h.2.1) (h0.2.2 - h.2.2)) (pm_Pc D tC G H0 as h) (pm_Qc D tC G H0 (.inl v) h0) (h0.2.1 - h.2.1) (h0.2.2 - h.2.2) (fun q => H0.size ≤ q) := by
  intro p e ha hc hk s m args below hf happ hP hK
  obtain ⟨n, o, h1, h2, h3, h4, L, h5, h6⟩ := hM p e ha hc hk s m args below hf happ hP hK
  exact ⟨n, o, h1, h2, h3, h4, L, ⟨⟨v, h4.1⟩, h5⟩, h6⟩
theorem pm_blind {as : List Value} : FrameBlind (pm_Pc D tC G H0 as h) := by
  intro a U g mk hq
  obtain ⟨h1, h2, h3⟩ := hq
  have hv : U.vm = (U.calling g mk a).vm := rfl
  exact ⟨h1, h2.same hv, h3.moved (by rw [← hv]; exact Vm.Alike.refl _)⟩
/-- behind a call that returned -/
theorem pm_cont {h1 : pm_S} {v : Option Value} {a : Array Value} {mc ms : Nat} {rest st0 : List Value} (hr : va_Run p l e R s m args below meth c H locs cells slots mc ms (F0 m pc la st0) rest (pm_Qc D tC G H0 (.inl v) h1 a) (fun q => H0.size ≤ q)) (hl : ∀ q ∈ locs, H0.size ≤ q.base)
    (kk : ∀ (H' : Heap) (locs' : List Loc), pm_H D tC H0 s h1 H' → (∀ q ∈ locs', H0.size ≤ q.base) → W p l e R s m args below meth c H' locs' (cells + mc) (slots + ms) Q (F0 m (pc + 3) la (v.toList ++ rest))) : W p l e R s m args below meth c H locs cells slots Q (F0 m pc la st0) := by
  intro T hT X
  obtain ⟨v', st₀, t, T', L, e1, X', hL, e2, e3, ⟨hoc, hKt, hHt⟩, go⟩ := hr T hT X
  have hv : v' = v := Outcome.returned.inj hoc
  subst hv
  have hal : t.vm.Alike s.vm := by
    rw [← e3]
    exact X'.warmed.alike.symm
  have hH' : pm_H D tC H0 s h1 T'.heap := by
    rw [e2]
    exact hHt.moved hal
  obtain ⟨t2, a1, b1⟩ := kk T'.heap (locs ++ L) hH' (fun q hq => by
    rcases List.mem_append.mp hq with z | z
    · exact hl q z
    · exact hL q z) T' rfl X'
  exact ⟨t2, go t2 a1, b1⟩
end PMC
