/-! The small machine's runs are the machine's. -/
theorem pm_pure_len {i : Instr} {ls ls' : pm_V} {st st' : List Value} (hp : pm_pure i ls st = some (ls', st')) : ls'.length = ls.length := by
  unfold pm_pure pm_ldi pm_lda pm_sti pm_sta pm_2 at hp
  repeat' split at hp
  all_goals first
    | (cases hp; rfl)
    | (cases hp; exact List.length_set)
    | cases hp
theorem pm_h3 : ∀ y, y < 141 → (pm_hs y).isEmpty = false → (pm_cod y).all (fun q => match q.2.1 with
  | .invokestatic _ => false
  | .invokespecial _ => false
  | _ => true) = true := by decide +kernel
def pm_MQ (D : va_G) (tC : Nat → ClassId) (G : pm_G) (H0 : Heap) (below : List Frame) (w0 : pm_R) (h0 : pm_S) (args : Array Value) (s : State) (mc ms : Nat) : State → Prop := fun t =>
  ∃ o, t.status = .running ∧ Ended t below o ∧ pm_Qc D tC G H0 w0 h0 args s o t ∧ ∃ L, pm_FE s t L mc ms ∧ ∀ q ∈ L, H0.size ≤ q.base
theorem pm_take {st : List Value} {n : Nat} : st = ((st.take n).reverse).reverse ++ st.drop n := by rw [List.reverse_reverse, List.take_append_drop]
theorem pm_ones {L : List Value} (h : L.all pm_one = true) : ∀ v ∈ L.reverse, v.category = 1 := fun v hv => pm_one_cat (List.all_eq_true.mp h v (List.mem_reverse.mp hv))
section PMZ
variable {D : va_G} {tC : Nat → ClassId} {G : pm_G} {H0 : Heap}
variable {p : Program} {l : Launch} {e : Env} {s : State} {m : MethodId} {args : Array Value} {below : List Frame} {meth : Method} {c : Code}
theorem pm_mono {R : Room} {H : Heap} {locs : List Loc} {cells slots : Nat} {Q Q' : State → Prop} {g : JFrame} (k : W p l e R s m args below meth c H locs cells slots Q g) (hq : ∀ t, Q t → Q' t) : W p l e R s m args below meth c H locs cells slots Q' g := by
  intro T hT X
  obtain ⟨t, a, b⟩ := k T hT X
  exact ⟨t, a, hq t b⟩
theorem pm_fin {v : Option Value} {h0 : pm_S} {mc ms : Nat} (t : State) (h : MQ below (pm_Qc D tC G H0 (.inl v) h0) args s mc ms (fun q => H0.size ≤ q) t) : pm_MQ D tC G H0 below (.inl v) h0 args s mc ms t := by
  obtain ⟨o, h1, h2, h3, L, h4, h5⟩ := h
  exact ⟨o, h1, h2, h3, L, h4.2, h5⟩
theorem pm_endQ (hK : pm_Kn D tC G H0 s) {H : Heap} {h : pm_S} (hh : pm_H D tC H0 s h H) (v : Option Value) : ∀ t : State, t.heap = H → s.WarmedH t.vm → pm_Qc D tC G H0 (.inl v) h args s (.returned v) t :=
  fun t ht hW => ⟨rfl, hK.warm hW, by rw [ht]; exact hh.moved hW.alike⟩
set_option maxHeartbeats 4000000 in
theorem pm_sim_run {d y : Nat} (htr : e.platform.stackTraces = false) (hx : p.tables.exec = Jvm.exec) (hb : c.code = pm_byt y) (hmx : c.maxLocals = pm_mx y) (hown : s.vm.findClass (pm_on (pm_own y)) = some m.cls) (hnm : meth.name = (pm_nm y).name) (hK : pm_Kn D tC G H0 s) (hG : G.1 = H0.size) (hret : meth.sig.returnType = pm_ret y) (hlocks : meth.locks = false) (hy : y < 141)
    (hex : c.exceptionTable.toList.map (fun x => (x.startPc, x.endPc, x.handlerPc, x.catchType)) = pm_hw y)
    (IH : ∀ z as h w0 h0, z < 140 → (∀ v ∈ as, v.category = 1) → pm_call G d z as h (pm_pt w0 h0) → pm_Met l D tC G H0 d z as h w0 h0)
    {w0 : pm_R} {h0 : pm_S} {mc ms sl0 : Nat} (hmc : s.heap.size + mc = h0.2.1) (hms : sl0 + ms = h0.2.2) :
    ∀ n pc ls st h, pm_run G (pm_call G d) y n pc ls st h (pm_pt w0 h0) → ∀ (H : Heap) (locs : List Loc) (la : Array Slot) (cells slots : Nat), pm_lv ls la → ls.length = pm_mx y → pm_H D tC H0 s h H → (∀ q ∈ locs, H0.size ≤ q.base) → s.heap.size + cells = h.2.1 → sl0 + slots = h.2.2 →
      W p l e (pm_rm (d + 1) mc ms) s m args below meth c H locs cells slots (pm_MQ D tC G H0 below w0 h0 args s mc ms) (F0 m pc la st) := by
  intro n
  induction n with
  | zero => intro pc ls st h hr; exact hr.elim
  | succ n ih =>
    intro pc ls st h hr H locs la cells slots hlv hln hh hl hce hsl
    have hml : c.maxLocals = la.size := by rw [hmx, hlv.size, hln]
    have hRf : d + 9 ≤ (pm_rm (d + 1) mc ms).frames := by show d + 9 ≤ d + 1 + 8; omega
    have hRl : 64 * d + 264 ≤ (pm_rm (d + 1) mc ms).locals := by show 64 * d + 264 ≤ 64 * (d + 1) + 200; omega
    have hRc : (pm_rm (d + 1) mc ms).cells = mc := rfl
    have hRs : (pm_rm (d + 1) mc ms).slots = ms := rfl
    have hleAll := pm_run_le (pm_call_pt d) (pm_call_le d) _ _ _ _ _ _ _ hr
    unfold pm_run at hr
    cases hxn : pm_next G y pc ls st h with
    | none => rw [hxn] at hr; exact hr.elim
    | some q =>
      rw [hxn] at hr
      obtain ⟨i, len, hcat, hq⟩ := pm_next_inv hxn
      obtain ⟨hd, hlen⟩ := pm_dec hy hcat
      rcases hq with ⟨ls', st', h1, rfl⟩ | ⟨b, o, r, h1, h2, rfl⟩ | ⟨st', h', h1, rfl⟩ | ⟨k, st', h', h1, h2, rfl⟩ | ⟨z, as, r, h1, rfl⟩ | ⟨w, h', h1, rfl⟩
      · exact pm_sim_pure hx hb hd hlen h1 hlv (fun la' hla' => ih _ _ _ _ hr H locs la' cells slots hla' ((pm_pure_len h1).trans hln) hh hl hce hsl)
      · exact pm_sim_jmp hx hb hd hlen h1 h2 (ih _ _ _ _ hr H locs la cells slots hlv hln hh hl hce hsl)
      · have hle := pm_heap_le h1
        have hle2 := pm_run_le (pm_call_pt d) (pm_call_le d) _ _ _ _ _ _ _ hr
        refine pm_sim_heap hx hb hown hnm hK hG hd hlen hh hce hl h1 ?_ ?_ (fun H' locs' a1 a2 => ih _ _ _ _ hr H' locs' la _ _ hlv hln a1 a2 ?_ ?_)
        · rw [hRc]; have := hle.1; have := hle2.1; omega
        · rw [hRs]; have := hle.2; have := hle2.2; omega
        · have := hle.1; omega
        · have := hle.2; omega
      · have hle := pm_nat_le h2
        have hle2 := pm_run_le (pm_call_pt d) (pm_call_le d) _ _ _ _ _ _ _ hr
        refine pm_sim_nat hx hb hml hown hK hG hd hlen hh hce hl (by omega) (by omega) h1 h2 ?_ ?_ ?_ ?_ (fun H' locs' a1 a2 => ih _ _ _ _ hr H' locs' la _ _ hlv hln a1 a2 ?_ ?_)
        · rw [hRc]; have := hleAll.1; omega
        · rw [hRs]; have := hleAll.2; omega
        · rw [hRc]; have := hle.1; have := hle2.1; omega
        · rw [hRs]; have := hle.2; have := hle2.2; omega
        · have := hle.1; omega
        · have := hle.2; omega
      · obtain ⟨w1, h2, hw, hcl⟩ := pm_call_pt d _ _ _ _ hr
        have hle := pm_call_le d _ _ _ _ _ hcl
        cases w1 with
        | inl v =>
          have hle2 := pm_run_le (pm_call_pt d) (pm_call_le d) _ _ _ _ _ _ _ hw
          have hcap : cells + (h2.2.1 - h.2.1) ≤ (pm_rm (d + 1) mc ms).cells ∧ slots + (h2.2.2 - h.2.2) ≤ (pm_rm (d + 1) mc ms).slots := by
            rw [hRc, hRs]
            have := hle.1; have := hle.2; have := hle2.1; have := hle2.2
            exact ⟨by omega, by omega⟩
          have kk : ∀ (H' : Heap) (locs' : List Loc), pm_H D tC H0 s h2 H' → (∀ q ∈ locs', H0.size ≤ q.base) → W p l e (pm_rm (d + 1) mc ms) s m args below meth c H' locs' (cells + (h2.2.1 - h.2.1)) (slots + (h2.2.2 - h.2.2)) (pm_MQ D tC G H0 below w0 h0 args s mc ms) (F0 m (pc + len) la (v.toList ++ r)) := by
            intro H' locs' a1 a2
            refine ih _ _ _ _ hw H' locs' la _ _ hlv hln a1 a2 ?_ ?_
            · have := hle.1; omega
            · have := hle.2; omega
          unfold pm_inv at h1
          split at h1
          · cases hlen _ rfl
            split at h1
            · rename_i z0 hm
              split at h1
              · rename_i hcd
                cases h1
                obtain ⟨en, g1, g2, g3⟩ := pm_row hm
                have hz : z < 140 := by
                  have := (pm_g5 _ g3 _ g1).1
                  have g2' : en.1 = z := g2
                  dsimp only at this
                  rw [g2'] at this
                  exact this
                have hMz := IH _ _ _ _ _ hz (pm_ones hcd.2.2) hcl
                by_cases hw0 : pm_hw z = []
                · exact pm_s_static hx hb hml hown hK hh hl hd hm hw0 hMz hRf hRl pm_take (by rw [List.length_reverse, List.length_take]; omega) hcd.2.1 hcap kk
                · exact pm_s_staticW hx hb hml hown hK hh hl hd hm hw0 hMz hRf hRl pm_take (by rw [List.length_reverse, List.length_take]; omega) hcd.2.1 hcap kk
              · cases h1
            · cases h1
          · cases hlen _ rfl
            split at h1
            · rename_i z0 hm
              split at h1
              · rename_i b r0 hdr
                split at h1
                · rename_i hcd
                  cases h1
                  obtain ⟨en, g1, g2, g3⟩ := pm_row hm
                  have hz : z < 140 := by
                    have := (pm_g6 _ g3 _ g1).1
                    have g2' : en.1 = z := g2
                    dsimp only at this
                    rw [g2'] at this
                    exact this
                  have hna : ((st.take (pm_na z)).reverse).length = pm_na z := by
                    rw [List.length_reverse, List.length_take]
                    have : (st.drop (pm_na z)).length ≠ 0 := by rw [hdr]; simp
                    rw [List.length_drop] at this
                    omega
                  have hMz := IH _ _ _ _ _ hz (fun v hv => by
                    rcases List.mem_cons.mp hv with rfl | hv
                    · rfl
                    · exact pm_ones hcd.2 v hv) hcl
                  exact pm_s_special hx hb hml hown hK hh hl hd hm hMz hRf hRl (by rw [← hdr]; exact pm_take) hna hcd.1 hcap kk
                · cases h1
              · cases h1
            · cases h1
          · cases hlen _ rfl
            split at h1
            · rename_i x0 hm
              split at h1
              · rename_i b r0 hdr
                split at h1
                · rename_i ci fs hbo
                  split at h1
                  · rename_i z0 hsel
                    split at h1
                    · rename_i hcd
                      cases h1
                      have hz : z < 140 := by
                        unfold pm_sel at hsel
                        cases hs : pm_selL.lookup (ci, x0) with
                        | none => rw [hs] at hsel; cases hsel
                        | some q =>
                          rw [hs] at hsel
                          have hq : q.1 = z := Option.some.inj hsel
                          have := (pm_g8 _ (pm_lk2 hs)).2.1
                          dsimp only at this
                          rw [hq] at this
                          exact this
                      have hna : ((st.take (pm_na x0)).reverse).length = pm_na x0 := by
                        rw [List.length_reverse, List.length_take]
                        have : (st.drop (pm_na x0)).length ≠ 0 := by rw [hdr]; simp
                        rw [List.length_drop] at this
                        omega
                      have hMz := IH _ _ _ _ _ hz (fun v hv => by
                        rcases List.mem_cons.mp hv with rfl | hv
                        · rfl
                        · exact pm_ones hcd.2 v hv) hcl
                      exact pm_s_virtual hx hb hml hown hK hh hl hd hm hbo hsel hMz hRf hRl (by rw [← hdr]; exact pm_take) hna hcd.1 hcap kk
                    · cases h1
                  · cases h1
                · cases h1
              · cases h1
            · cases h1
          · cases h1
        | inr k =>
          dsimp only at hw
          cases hpp : pm_hnd y pc k with
          | none => rw [hpp] at hw; exact hw.elim
          | some hp =>
            rw [hpp] at hw
            dsimp only at hw
            have hle2 := pm_run_le (pm_call_pt d) (pm_call_le d) _ _ _ _ _ _ _ hw
            have hcap : cells + (h2.2.1 - h.2.1) ≤ (pm_rm (d + 1) mc ms).cells ∧ slots + (h2.2.2 - h.2.2) ≤ (pm_rm (d + 1) mc ms).slots := by
              rw [hRc, hRs]
              have := hle.1; have := hle.2; have := hle2.1; have := hle2.2
              exact ⟨by omega, by omega⟩
            obtain ⟨pr, x1, re, k1, k2, k3, k4, k5, k6⟩ := pm_hnd_spec hpp
            have hne : (pm_hs y).isEmpty = false := by rw [k1]; cases pr <;> rfl
            have hk3 : k < 3 := by
              have hlt : pr.length < (pm_hs y).length := by rw [k1]; simp
              have h3 := ((pm_h1 y hy).2 pr.length hlt).2.2.2.2.1
              have : (pm_hs y).getD pr.length (0, 0, 0, 0) = x1 := by
                rw [k1, List.getD_eq_getElem?_getD, List.getElem?_append_right (Nat.le_refl _), Nat.sub_self]
                rfl
              rw [this, k4] at h3
              exact h3
            have hal := List.all_eq_true.mp (pm_h3 y hy hne) _ (pm_lk hcat)
            have kk : ∀ (H' : Heap) (locs' : List Loc), pm_H D tC H0 s h2 H' → (∀ q ∈ locs', H0.size ≤ q.base) → W p l e (pm_rm (d + 1) mc ms) s m args below meth c H' locs' (cells + (h2.2.1 - h.2.1)) (slots + (h2.2.2 - h.2.2)) (pm_MQ D tC G H0 below w0 h0 args s mc ms) (F0 m hp la [.ref (h2.2.1 - 1)]) := by
              intro H' locs' a1 a2
              refine ih _ _ _ _ hw H' locs' la _ _ hlv hln a1 a2 ?_ ?_
              · have := hle.1; omega
              · have := hle.2; omega
            unfold pm_inv at h1
            split at h1
            · cases hal
            · cases hal
            · cases hlen _ rfl
              split at h1
              · rename_i x0 hm
                split at h1
                · rename_i b r0 hdr
                  split at h1
                  · rename_i ci fs hbo
                    split at h1
                    · rename_i z0 hsel
                      split at h1
                      · rename_i hcd
                        cases h1
                        have hz : z < 140 := by
                          unfold pm_sel at hsel
                          cases hs : pm_selL.lookup (ci, x0) with
                          | none => rw [hs] at hsel; cases hsel
                          | some q =>
                            rw [hs] at hsel
                            have hq : q.1 = z := Option.some.inj hsel
                            have := (pm_g8 _ (pm_lk2 hs)).2.1
                            dsimp only at this
                            rw [hq] at this
                            exact this
                        have hna : ((st.take (pm_na x0)).reverse).length = pm_na x0 := by
                          rw [List.length_reverse, List.length_take]
                          have : (st.drop (pm_na x0)).length ≠ 0 := by rw [hdr]; simp
                          rw [List.length_drop] at this
                          omega
                        have hMz := IH _ _ _ _ _ hz (fun v hv => by
                          rcases List.mem_cons.mp hv with rfl | hv
                          · rfl
                          · exact pm_ones hcd.2 v hv) hcl
                        exact pm_s_virtualT hx hb hml hown hK hy hex hh hl hd hm hbo hsel hMz hk3 hpp hRf hRl (by rw [← hdr]; exact pm_take) hna hcd.1 hcap kk
                      · cases h1
                    · cases h1
                  · cases h1
                · cases h1
              · cases h1
            · cases h1
      · obtain ⟨e1, e2⟩ := hr
        have hcm : h0 = h → cells = mc ∧ slots = ms := by
          intro z
          rw [z] at hmc hms
          exact ⟨by omega, by omega⟩
        unfold pm_end at h1
        split at h1
        · cases hlen _ rfl
          split at h1
          · split at h1
            · rename_i hr0
              cases h1
              subst e1; subst e2
              obtain ⟨rfl, rfl⟩ := hcm rfl
              exact pm_mono (W.vret hx hb (hret.trans hr0) (pm_endQ hK hh none) hl hd hlocks) pm_fin
            · cases h1
          · cases h1
        · cases hlen _ rfl
          split at h1
          · rename_i x
            split at h1
            · rename_i hr0
              cases h1
              subst e1; subst e2
              obtain ⟨rfl, rfl⟩ := hcm rfl
              exact pm_mono (W.iret hx hb (hret.trans hr0) (pm_endQ hK hh (some (.int x))) hl hd hlocks) pm_fin
            · rename_i hr0
              split at h1
              · rename_i hx01
                cases h1
                subst e1; subst e2
                obtain ⟨rfl, rfl⟩ := hcm rfl
                exact pm_mono (W.zret hx hb (hret.trans hr0) (by rcases hx01 with rfl | rfl <;> decide +kernel) (pm_endQ hK hh (some (.int x))) hl hd hlocks) pm_fin
              · cases h1
            · cases h1
          · cases h1
        · cases hlen _ rfl
          split at h1
          · rename_i x
            split at h1
            · rename_i hr0
              cases h1
              subst e1; subst e2
              obtain ⟨rfl, rfl⟩ := hcm rfl
              exact pm_mono (W.aret hx hb (hret.trans hr0) (Or.inl ⟨_, rfl⟩) (Or.inr ⟨_, rfl⟩) (pm_endQ hK hh (some (.ref x))) hl hd hlocks) pm_fin
            · rename_i hr0
              cases h1
              subst e1; subst e2
              obtain ⟨rfl, rfl⟩ := hcm rfl
              exact pm_mono (W.aret hx hb (hret.trans hr0) (Or.inr ⟨_, rfl⟩) (Or.inr ⟨_, rfl⟩) (pm_endQ hK hh (some (.ref x))) hl hd hlocks) pm_fin
            · cases h1
          · split at h1
            · rename_i hr0
              cases h1
              subst e1; subst e2
              obtain ⟨rfl, rfl⟩ := hcm rfl
              exact pm_mono (W.aret hx hb (hret.trans hr0) (Or.inl ⟨_, rfl⟩) (Or.inl rfl) (pm_endQ hK hh (some .null)) hl hd hlocks) pm_fin
            · rename_i hr0
              cases h1
              subst e1; subst e2
              obtain ⟨rfl, rfl⟩ := hcm rfl
              exact pm_mono (W.aret hx hb (hret.trans hr0) (Or.inr ⟨_, rfl⟩) (Or.inl rfl) (pm_endQ hK hh (some .null)) hl hd hlocks) pm_fin
            · cases h1
          · cases h1
        · split at h1
          · split at h1
            · rename_i idx k hxl
              cases h1
              subst e1; subst e2
              obtain ⟨j, -, -, -, -, -, -⟩ := pm_thr_at hy hcat hxl
              have hmt : pm_hw y = [] := by
                have h := List.all_eq_true.mp (pm_t1 y hy) _ (pm_lk hcat)
                unfold pm_thr at h
                dsimp only at h
                rw [hxl] at h
                dsimp only at h
                split at h
                · simp only [Bool.and_eq_true] at h
                  have he := h.2.2.2
                  have hl0 : (pm_hs y).length = 0 := by
                    cases hh9 : pm_hs y with
                    | nil => rfl
                    | cons a b => rw [hh9] at he; cases he
                  have := (pm_h1 y hy).1
                  rw [hl0] at this
                  exact List.eq_nil_of_length_eq_zero this.symm
                · cases h
              have hex0 : c.exceptionTable.toList = [] := by
                rw [hmt] at hex
                exact List.map_eq_nil_iff.mp hex
              have z1 : (pm_gap h 6).2.1 = h.2.1 + 1 := rfl
              have z2 : (pm_gap h 6).2.2 = h.2.2 + 6 := rfl
              rw [z1] at hmc
              rw [z2] at hms
              have hmcE : mc = cells + 1 := by omega
              have hmsE : ms = slots + 6 := by omega
              subst hmcE; subst hmsE
              refine pm_s_throw hx hb hml hown hK htr hlocks hex0 hy hcat hxl hh (by omega) (by omega) (Nat.le_refl _) (Nat.le_refl _) (fun t b1 b2 b3 b4 b5 b6 => ?_)
              obtain ⟨ce, c1, c2, c3⟩ := b6
              exact ⟨.threw h.2.1, b1, b2, ⟨⟨rfl, ce, c1, c2, by rw [b3.alike.findClass]; exact c3⟩, hK.warm b3, b5.moved b3.alike⟩, locs, ⟨b3, b4⟩, hl⟩
            · cases h1
          · cases h1
        · cases h1
end PMZ
