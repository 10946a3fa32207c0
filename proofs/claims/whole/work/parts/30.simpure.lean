/-! The small machine's places beside the machine's; its pure steps and jumps are the machine's. -/
def pm_as (ls : pm_V) : List (Nat × Value) := (List.range ls.length).filterMap (fun i => match ls[i]? with
  | some (some v) => some (i, v)
  | _ => none)
theorem pm_as_mem {ls : pm_V} {i : Nat} {v : Value} : (i, v) ∈ pm_as ls ↔ ls[i]? = some (some v) := by
  unfold pm_as
  rw [List.mem_filterMap]
  constructor
  · rintro ⟨j, -, h⟩
    split at h
    · rename_i w hw
      cases h
      exact hw
    · cases h
  · intro h
    have hi : i < ls.length := (List.getElem?_eq_some_iff.mp h).1
    exact ⟨i, List.mem_range.mpr hi, by rw [h]⟩
/-- the places: every value of one slot -/
def pm_lv (ls : pm_V) (la : Array Slot) : Prop := lv_has la ls.length (pm_as ls) ∧ ∀ (i : Nat) (v : Value), ls[i]? = some (some v) → v.category = 1
theorem pm_lv.at {ls : pm_V} {la : Array Slot} (h : pm_lv ls la) {i : Nat} {v : Value} (hi : ls[i]? = some (some v)) : la[i]? = some (.val v) := h.1.2.2 (i, v) (pm_as_mem.mpr hi)
theorem pm_lv.size {ls : pm_V} {la : Array Slot} (h : pm_lv ls la) : la.size = ls.length := h.1.1
theorem pm_lv.set {ls : pm_V} {la la' : Array Slot} (h : pm_lv ls la) {i : Nat} {v : Value} (hc : v.category = 1) (h' : lv_has la' ls.length ((i, v) :: (pm_as ls).filter (fun q => !(q.1 == i) && !(q.1 + 1 == i && q.2.category == 2)))) : pm_lv (ls.set i (some v)) la' := by
  obtain ⟨h1, h2, h3⟩ := h'
  have key : ∀ (j : Nat) (w : Value), (ls.set i (some v))[j]? = some (some w) → (j = i ∧ w = v) ∨ (j ≠ i ∧ ls[j]? = some (some w)) := by
    intro j w hj
    rw [List.getElem?_set] at hj
    by_cases e : i = j
    · rw [if_pos e] at hj
      split at hj
      · cases hj
        exact Or.inl ⟨e.symm, rfl⟩
      · cases hj
    · rw [if_neg e] at hj
      exact Or.inr ⟨fun z => e z.symm, hj⟩
  refine ⟨⟨by simpa using h1, h2, fun q hq => ?_⟩, fun j w hj => ?_⟩
  · obtain ⟨j, w⟩ := q
    rcases key j w (pm_as_mem.mp hq) with ⟨rfl, rfl⟩ | ⟨hne, hj⟩
    · exact h3 (_, _) List.mem_cons_self
    · refine h3 (j, w) (List.mem_cons_of_mem _ (List.mem_filter.mpr ⟨pm_as_mem.mpr hj, ?_⟩))
      have hw : w.category = 1 := h.2 j w hj
      simp [hne, hw]
  · rcases key j w hj with ⟨rfl, rfl⟩ | ⟨-, hj⟩
    · exact hc
    · exact h.2 j w hj
theorem pm_lv_entry {y : Nat} {as : List Value} (h : ∀ v ∈ as, v.category = 1) (hn : as.length ≤ pm_mx y) (m : MethodId) : ∃ la, entryFrame m as.toArray (pm_mx y) = F0 m 0 la [] ∧ pm_lv (pm_ent y as) la := by
  have e : lg_sl as = as.map Slot.val := by
    clear hn
    induction as with
    | nil => rfl
    | cons v t ih =>
      have hv : v.category = 1 := h v List.mem_cons_self
      have ht := ih (fun w hw => h w (List.mem_cons_of_mem _ hw))
      simp only [lg_sl] at ht ⊢
      rw [List.flatMap_cons, ht]
      simp [hv]
  have hlen : (lg_sl as).length ≤ pm_mx y := by rw [e]; simpa using hn
  have hE := lv_entry as hlen
  refine ⟨_, lg_entry_eq m as (pm_mx y), ⟨?_, hE.2.1, fun q hq => ?_⟩, fun i v hi => ?_⟩
  · rw [hE.1]
    simp [pm_ent]
    omega
  · obtain ⟨i, v⟩ := q
    have hi := pm_as_mem.mp hq
    rw [e]
    unfold pm_ent at hi
    have hi2 : i < as.length := by
      apply Classical.byContradiction
      intro hc
      rw [List.getElem?_append_right (by simpa using hc)] at hi
      rw [List.getElem?_replicate] at hi
      split at hi <;> cases hi
    rw [List.getElem?_append_left (by simpa using hi2), List.getElem?_map] at hi
    simp only [List.getElem?_toArray]
    rw [List.getElem?_append_left (by simpa using hi2), List.getElem?_map]
    cases hz : as[i]? with
    | none => rw [hz] at hi; cases hi
    | some w => rw [hz] at hi; cases hi; rfl
  · unfold pm_ent at hi
    have hi2 : i < as.length := by
      apply Classical.byContradiction
      intro hc
      rw [List.getElem?_append_right (by simpa using hc)] at hi
      rw [List.getElem?_replicate] at hi
      split at hi <;> cases hi
    rw [List.getElem?_append_left (by simpa using hi2), List.getElem?_map] at hi
    cases hz : as[i]? with
    | none => rw [hz] at hi; cases hi
    | some w =>
      rw [hz] at hi
      cases hi
      exact h _ (List.mem_of_getElem? hz)
theorem pm_one_cat {v : Value} (h : pm_one v = true) : v.category = 1 := by
  cases v <;> first | rfl | cases h
section PMS
variable {p : Program} {l : Launch} {e : Env} {R : Room} {s : State} {m : MethodId} {args : Array Value} {below : List Frame} {meth : Method} {c : Code} {H : Heap} {locs : List Loc} {cells slots : Nat} {Q : State → Prop}
variable {cc : ByteArray} {pc len : Nat} {i : Instr} {ls ls' : pm_V} {la : Array Slot} {st st' : List Value}
theorem pm_s_ldi {k : Nat} (hp : pm_ldi ls k st = some (ls', st')) : ∃ x, ls[k]? = some (some (.int x)) ∧ ls' = ls ∧ st' = .int x :: st := by
  unfold pm_ldi at hp
  split at hp
  · rename_i x hx
    cases hp
    exact ⟨x, hx, rfl, rfl⟩
  · cases hp
theorem pm_s_lda {k : Nat} (hp : pm_lda ls k st = some (ls', st')) : ls' = ls ∧ ((∃ x, ls[k]? = some (some (.ref x)) ∧ st' = .ref x :: st) ∨ (ls[k]? = some (some .null) ∧ st' = .null :: st)) := by
  unfold pm_lda at hp
  split at hp
  · rename_i x hx
    cases hp
    exact ⟨rfl, Or.inl ⟨x, hx, rfl⟩⟩
  · rename_i hx
    cases hp
    exact ⟨rfl, Or.inr ⟨hx, rfl⟩⟩
  · cases hp
theorem pm_s_sti {k : Nat} (hp : pm_sti ls k st = some (ls', st')) : ∃ x, st = .int x :: st' ∧ k < ls.length ∧ ls' = ls.set k (some (.int x)) := by
  unfold pm_sti at hp
  split at hp
  · split at hp
    · rename_i hk
      cases hp
      exact ⟨_, rfl, hk, rfl⟩
    · cases hp
  · cases hp
theorem pm_s_sta {k : Nat} (hp : pm_sta ls k st = some (ls', st')) : k < ls.length ∧ ((∃ x, st = .ref x :: st' ∧ ls' = ls.set k (some (.ref x))) ∨ (st = .null :: st' ∧ ls' = ls.set k (some .null))) := by
  unfold pm_sta at hp
  split at hp
  · split at hp
    · rename_i hk
      cases hp
      exact ⟨hk, Or.inl ⟨_, rfl, rfl⟩⟩
    · cases hp
  · split at hp
    · rename_i hk
      cases hp
      exact ⟨hk, Or.inr ⟨rfl, rfl⟩⟩
    · cases hp
  · cases hp
theorem pm_s_2 {f : Int32 → Int32 → Int32} (hp : pm_2 ls st f = some (ls', st')) : ∃ x y r, st = .int y :: .int x :: r ∧ ls' = ls ∧ st' = .int (f x y) :: r := by
  unfold pm_2 at hp
  split at hp
  · cases hp
    exact ⟨_, _, _, rfl, rfl, rfl⟩
  · cases hp
set_option maxHeartbeats 4000000 in
theorem pm_sim_pure (hx : p.tables.exec = Jvm.exec) (hb : c.code = cc) (hd : decode cc pc = .ok (i, len)) (hlen : ∀ k, pm_len i = some k → len = k) (hp : pm_pure i ls st = some (ls', st')) (hl : pm_lv ls la)
    (kk : ∀ la', pm_lv ls' la' → W p l e R s m args below meth c H locs cells slots Q (F0 m (pc + len) la' st')) : W p l e R s m args below meth c H locs cells slots Q (F0 m pc la st) := by
  unfold pm_pure at hp
  split at hp
  · cases hlen _ rfl; cases hp
    exact lv_null hx hb hd (kk la hl)
  · cases hlen _ rfl; cases hp
    exact lv_iconst hx hb hd rfl (kk la hl)
  · cases hlen _ rfl; cases hp
    exact lv_bipush hx hb hd rfl (kk la hl)
  · cases hlen _ rfl; cases hp
    exact lv_sipush hx hb hd rfl (kk la hl)
  · cases hlen _ rfl
    obtain ⟨x, h1, rfl, rfl⟩ := pm_s_ldi hp
    exact lv_iload_n hx hb hd rfl (hl.at h1) (kk la hl)
  · cases hlen _ rfl
    obtain ⟨x, h1, rfl, rfl⟩ := pm_s_ldi hp
    exact lv_iload hx hb hd (hl.at h1) (kk la hl)
  · cases hlen _ rfl
    obtain ⟨rfl, ⟨x, h1, rfl⟩ | ⟨h1, rfl⟩⟩ := pm_s_lda hp
    · exact lv_aload_n hx hb hd rfl (hl.at h1) (kk la hl)
    · exact lv_aload_nN hx hb hd rfl (hl.at h1) (kk la hl)
  · cases hlen _ rfl
    obtain ⟨rfl, ⟨x, h1, rfl⟩ | ⟨h1, rfl⟩⟩ := pm_s_lda hp
    · exact lv_aload hx hb hd (hl.at h1) (kk la hl)
    · exact lv_aloadN hx hb hd (hl.at h1) (kk la hl)
  · cases hlen _ rfl
    obtain ⟨x, rfl, h2, rfl⟩ := pm_s_sti hp
    exact lv_istore_n hx hb hd rfl hl.1 h2 rfl (fun la' h' => kk la' (hl.set rfl h'))
  · cases hlen _ rfl
    obtain ⟨x, rfl, h2, rfl⟩ := pm_s_sti hp
    exact lv_istore hx hb hd hl.1 h2 rfl (fun la' h' => kk la' (hl.set rfl h'))
  · cases hlen _ rfl
    obtain ⟨h2, ⟨x, rfl, rfl⟩ | ⟨rfl, rfl⟩⟩ := pm_s_sta hp
    · exact lv_astore_n hx hb hd rfl hl.1 h2 rfl (fun la' h' => kk la' (hl.set rfl h'))
    · exact lv_astore_nN hx hb hd rfl hl.1 h2 rfl (fun la' h' => kk la' (hl.set rfl h'))
  · cases hlen _ rfl
    obtain ⟨h2, ⟨x, rfl, rfl⟩ | ⟨rfl, rfl⟩⟩ := pm_s_sta hp
    · exact lv_astore hx hb hd hl.1 h2 rfl (fun la' h' => kk la' (hl.set rfl h'))
    · exact lv_astoreN hx hb hd hl.1 h2 rfl (fun la' h' => kk la' (hl.set rfl h'))
  · cases hlen _ rfl
    split at hp
    · rename_i k n x hk
      cases hp
      have hm := pm_as_mem.mpr hk
      obtain ⟨q, hq⟩ := List.mem_iff_getElem?.mp hm
      exact lv_iinc hx hb hd hl.1 hq rfl (List.getElem?_eq_some_iff.mp hk).1 rfl (fun la' h' => kk la' (hl.set rfl h'))
    · cases hp
  · cases hlen _ rfl
    obtain ⟨x, y, r, rfl, rfl, rfl⟩ := pm_s_2 hp
    exact lv_iadd hx hb hd (kk la hl)
  · cases hlen _ rfl
    obtain ⟨x, y, r, rfl, rfl, rfl⟩ := pm_s_2 hp
    exact lv_isub hx hb hd (kk la hl)
  · cases hlen _ rfl
    obtain ⟨x, y, r, rfl, rfl, rfl⟩ := pm_s_2 hp
    exact lv_imul hx hb hd (kk la hl)
  · cases hlen _ rfl
    obtain ⟨x, y, r, rfl, rfl, rfl⟩ := pm_s_2 hp
    exact lv_iand hx hb hd (kk la hl)
  · cases hlen _ rfl
    obtain ⟨x, y, r, rfl, rfl, rfl⟩ := pm_s_2 hp
    exact lv_ior hx hb hd (kk la hl)
  · cases hlen _ rfl
    obtain ⟨x, y, r, rfl, rfl, rfl⟩ := pm_s_2 hp
    exact lv_ixor hx hb hd (kk la hl)
  · cases hlen _ rfl
    obtain ⟨x, y, r, rfl, rfl, rfl⟩ := pm_s_2 hp
    exact lv_ishl hx hb hd (kk la hl)
  · cases hlen _ rfl
    obtain ⟨x, y, r, rfl, rfl, rfl⟩ := pm_s_2 hp
    exact lv_ishr hx hb hd (kk la hl)
  · cases hlen _ rfl
    obtain ⟨x, y, r, rfl, rfl, rfl⟩ := pm_s_2 hp
    exact lv_iushr hx hb hd rfl (kk la hl)
  · cases hlen _ rfl
    split at hp
    · split at hp
      · cases hp
      · rename_i hy
        cases hp
        exact lv_idiv hx hb hd hy (kk la hl)
    · cases hp
  · cases hlen _ rfl
    split at hp
    · split at hp
      · cases hp
      · rename_i hy
        cases hp
        exact lv_irem hx hb hd hy (kk la hl)
    · cases hp
  · cases hlen _ rfl
    split at hp
    · cases hp
      exact lv_ineg hx hb hd (kk la hl)
    · cases hp
  · cases hlen _ rfl
    split at hp
    · cases hp
      exact lv_i2l hx hb hd rfl (kk la hl)
    · cases hp
  · cases hlen _ rfl
    split at hp
    · cases hp
      exact W.lcmp hx hb hd (kk la hl)
    · cases hp
  · cases hlen _ rfl
    split at hp
    · split at hp
      · rename_i h1
        cases hp
        exact lv_dup hx hb hd (pm_one_cat h1) (kk la hl)
      · cases hp
    · cases hp
  · cases hlen _ rfl
    split at hp
    · split at hp
      · rename_i h1
        cases hp
        exact lv_pop hx hb hd (pm_one_cat h1) (kk la hl)
      · cases hp
    · cases hp
  · cases hlen _ rfl
    split at hp
    · split at hp
      · rename_i h1
        simp only [Bool.and_eq_true] at h1
        cases hp
        exact lv_dup_x1 hx hb hd (pm_one_cat h1.1) (pm_one_cat h1.2) (kk la hl)
      · cases hp
    · cases hp
  · cases hlen _ rfl
    split at hp
    · split at hp
      · rename_i h1
        simp only [Bool.and_eq_true] at h1
        cases hp
        exact lv_dup_x2 hx hb hd (pm_one_cat h1.1) (pm_one_cat h1.2.1) (pm_one_cat h1.2.2) (kk la hl)
      · cases hp
    · cases hp
  · cases hlen _ rfl
    split at hp
    · split at hp
      · rename_i h1
        simp only [Bool.and_eq_true] at h1
        cases hp
        exact lv_dup2_11 hx hb hd (pm_one_cat h1.1) (pm_one_cat h1.2) (kk la hl)
      · cases hp
    · cases hp
  · cases hp
theorem pm_tgt {pc : Nat} {o : Int} (h : 0 ≤ (pc : Int) + o) : (pc : Int) + o = ((((pc : Int) + o).toNat : Nat) : Int) := (Int.toNat_of_nonneg h).symm
theorem pm_w2 {P : Prop} {dP : Decidable P} {b : Bool} {t f : Nat} (hb : b = @decide P dP) (kk : W p l e R s m args below meth c H locs cells slots Q (F0 m (if b then t else f) la st)) :
    (P → W p l e R s m args below meth c H locs cells slots Q (F0 m t la st)) ∧ (¬ P → W p l e R s m args below meth c H locs cells slots Q (F0 m f la st)) := by
  subst hb
  refine ⟨fun h => ?_, fun h => ?_⟩
  · rw [if_pos (decide_eq_true h)] at kk
    exact kk
  · rw [if_neg (by rw [decide_eq_false h]; exact Bool.false_ne_true)] at kk
    exact kk
set_option maxHeartbeats 4000000 in
theorem pm_sim_jmp (hx : p.tables.exec = Jvm.exec) (hb : c.code = cc) (hd : decode cc pc = .ok (i, len)) (hlen : ∀ k, pm_len i = some k → len = k) {b : Bool} {o : Int} (hp : pm_jmp i st = some (b, o, st')) (h0 : 0 ≤ (pc : Int) + o)
    (kk : W p l e R s m args below meth c H locs cells slots Q (F0 m (if b then ((pc : Int) + o).toNat else pc + len) la st')) : W p l e R s m args below meth c H locs cells slots Q (F0 m pc la st) := by
  unfold pm_jmp at hp
  split at hp
  · cases hlen _ rfl; cases hp
    exact lv_goto hx hb hd (pm_tgt h0) kk
  · rename_i cd o
    cases hlen _ rfl
    split at hp
    · cases hp
      cases cd
      · exact lv_if_eq hx hb hd (pm_tgt h0) (pm_w2 rfl kk).1 (pm_w2 rfl kk).2
      · exact lv_if_ne hx hb hd (pm_tgt h0) (pm_w2 rfl kk).1 (fun z => (pm_w2 rfl kk).2 (fun n => n z))
      · exact lv_if_lt hx hb hd (pm_tgt h0) (pm_w2 rfl kk).1 (pm_w2 rfl kk).2
      · exact lv_if_ge hx hb hd (pm_tgt h0) (pm_w2 rfl kk).1 (pm_w2 rfl kk).2
      · exact lv_if_gt hx hb hd (pm_tgt h0) (pm_w2 rfl kk).1 (pm_w2 rfl kk).2
      · exact lv_if_le hx hb hd (pm_tgt h0) (pm_w2 rfl kk).1 (pm_w2 rfl kk).2
    · cases hp
  · rename_i cd o
    cases hlen _ rfl
    split at hp
    · cases hp
      cases cd
      · exact lv_icmp_eq hx hb hd (pm_tgt h0) (pm_w2 rfl kk).1 (pm_w2 rfl kk).2
      · exact lv_icmp_ne hx hb hd (pm_tgt h0) (pm_w2 rfl kk).1 (fun z => (pm_w2 rfl kk).2 (fun n => n z))
      · exact lv_icmp_lt hx hb hd (pm_tgt h0) (pm_w2 rfl kk).1 (pm_w2 rfl kk).2
      · exact lv_icmp_ge hx hb hd (pm_tgt h0) (pm_w2 rfl kk).1 (pm_w2 rfl kk).2
      · exact lv_icmp_gt hx hb hd (pm_tgt h0) (pm_w2 rfl kk).1 (pm_w2 rfl kk).2
      · exact lv_icmp_le hx hb hd (pm_tgt h0) (pm_w2 rfl kk).1 (pm_w2 rfl kk).2
    · cases hp
  · cases hlen _ rfl
    split at hp
    · cases hp
      exact lv_ifnullN hx hb hd (pm_tgt h0) kk
    · cases hp
      exact lv_ifnull hx hb hd kk
    · cases hp
  · cases hlen _ rfl
    split at hp
    · cases hp
      exact lv_ifnonnullN hx hb hd kk
    · cases hp
      exact lv_ifnonnull hx hb hd (pm_tgt h0) kk
    · cases hp
  · rename_i cd o
    cases hlen _ rfl
    split at hp
    · rename_i y x r
      cases hp
      cases cd
      · exact lv_acmp_eq (rx := some x) (ry := some y) hx hb hd (pm_tgt h0) (fun z => (pm_w2 rfl kk).1 (Option.some.inj z)) (fun z => (pm_w2 rfl kk).2 (fun q => z (congrArg some q)))
      · exact lv_acmp_ne (rx := some x) (ry := some y) hx hb hd (pm_tgt h0) (fun z => (pm_w2 rfl kk).1 (fun q => z (congrArg some q))) (fun z => (pm_w2 rfl kk).2 (fun n => n (Option.some.inj z)))
    · cases hp
  · split at hp
    · split at hp
      · rename_i hh
        cases hp
        exact lv_tableOut hx hb hd hh (pm_tgt h0) kk
      · rename_i hh
        split at hp
        · rename_i ho
          cases hp
          exact lv_tableIn hx hb hd (fun z => hh (Or.inl z)) (fun z => hh (Or.inr z)) ho (pm_tgt h0) kk
        · cases hp
    · cases hp
  · split at hp
    · split at hp
      · rename_i hh
        cases hp
        exact lv_lookup hx hb hd hh rfl (pm_tgt h0) kk
      · cases hp
    · cases hp
  · cases hp
end PMS
