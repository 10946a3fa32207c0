/-! One step on the heap. -/
theorem pm_nI {x : Int32} (h : x = 0 ∨ x = 1) : vp_nar .boolean x = x := by
  rcases h with rfl | rfl <;> decide +kernel
theorem pm_ad1 (h : pm_S) (x : pm_C) (n : Nat) : (pm_add h x n).2.1 - h.2.1 = 1 := Nat.add_sub_cancel_left _ _
theorem pm_ad2 (h : pm_S) (x : pm_C) (n : Nat) : (pm_add h x n).2.2 - h.2.2 = n := Nat.add_sub_cancel_left _ _
section PMS4
variable {D : va_G} {tC : Nat → ClassId} {G : pm_G} {H0 : Heap}
variable {p : Program} {l : Launch} {e : Env} {R : Room} {s : State} {m : MethodId} {args : Array Value} {below : List Frame} {meth : Method} {c : Code} {H : Heap} {locs : List Loc} {cells slots : Nat} {Q : State → Prop}
variable {y pc len : Nat} {i : Instr} {la : Array Slot} {st st' : List Value} {h h' : pm_S}
set_option maxHeartbeats 4000000 in
theorem pm_sim_heap (hx : p.tables.exec = Jvm.exec) (hb : c.code = pm_byt y) (hown : s.vm.findClass (pm_on (pm_own y)) = some m.cls) (hnm : meth.name = (pm_nm y).name) (hK : pm_Kn D tC G H0 s) (hG : G.1 = H0.size)
    (hd : decode (pm_byt y) pc = .ok (i, len)) (hlen : ∀ k, pm_len i = some k → len = k) (hh : pm_H D tC H0 s h H) (hc : s.heap.size + cells = h.2.1) (hl : ∀ q ∈ locs, H0.size ≤ q.base)
    (hp : pm_heap G y i st h = some (st', h')) (hR1 : cells + (h'.2.1 - h.2.1) ≤ R.cells) (hR2 : slots + (h'.2.2 - h.2.2) ≤ R.slots)
    (kk : ∀ (H' : Heap) (locs' : List Loc), pm_H D tC H0 s h' H' → (∀ q ∈ locs', H0.size ≤ q.base) → W p l e R s m args below meth c H' locs' (cells + (h'.2.1 - h.2.1)) (slots + (h'.2.2 - h.2.2)) Q (F0 m (pc + len) la st')) : W p l e R s m args below meth c H locs cells slots Q (F0 m pc la st) := by
  unfold pm_heap at hp
  split at hp
  · cases hlen _ rfl
    split at hp
    · split at hp
      · rename_i h0
        cases hp
        exact pm_s_alen hx hb hK hd hh h0 (Or.inl ⟨_, rfl⟩) (pm_cs0 h (kk H locs hh hl))
      · rename_i h0
        cases hp
        exact pm_s_alen hx hb hK hd hh h0 (Or.inr ⟨_, rfl⟩) (pm_cs0 h (kk H locs hh hl))
      · cases hp
    · cases hp
  · cases hlen _ rfl
    split at hp
    · split at hp
      · rename_i h0
        split at hp
        · rename_i h1
          split at hp
          · rename_i h2
            split at hp
            · rename_i h3
              cases hp
              exact pm_s_get hx hb hown hK hd hh h0 h1 h2 h3 (pm_cs0 h (kk H locs hh hl))
            · cases hp
          · cases hp
        · cases hp
      · cases hp
    · cases hp
  · cases hlen _ rfl
    split at hp
    · split at hp
      · rename_i h0
        split at hp
        · rename_i h1
          split at hp
          · rename_i h2
            split at hp
            · rename_i h3
              cases hp
              exact pm_s_put hx hb hown hnm hK hd hh hc hl h0 (hG ▸ h3.1) h1 h2 h3.2.1 h3.2.2.1 h3.2.2.2 (fun H' locs' a1 a2 => pm_cs0 h (kk H' locs' a1 a2))
            · cases hp
          · cases hp
        · cases hp
      · cases hp
    · cases hp
  · cases hlen _ rfl
    split at hp
    · split at hp
      · rename_i h0
        split at hp
        · cases hp
        · rename_i h1
          cases hp
          exact pm_s_iald hx hb hK hd hh h0 h1 (pm_cs0 h (kk H locs hh hl))
      · cases hp
    · cases hp
  · cases hlen _ rfl
    split at hp
    · split at hp
      · rename_i h0
        split at hp
        · cases hp
        · rename_i h1
          cases hp
          rw [hG] at h1
          exact va_zald (tys := pm_tys tC) hx hb hK.2.1 (pm_P1 (hh.own (Nat.le_of_not_lt (fun q => h1 (Or.inr q))) h0)) 0 1 rfl rfl (fun q => h1 (Or.inl q)) hd (pm_cs0 h (kk H locs hh hl))
      · cases hp
    · cases hp
  · cases hlen _ rfl
    split at hp
    · split at hp
      · rename_i h0
        split at hp
        · cases hp
        · rename_i h1
          cases hp
          rw [hG] at h1
          exact va_lald (tys := pm_tys tC) hx hb hK.2.1 (pm_P1 (hh.own (Nat.le_of_not_lt (fun q => h1 (Or.inr q))) h0)) 0 2 rfl rfl (fun q => h1 (Or.inl q)) hd (pm_cs0 h (kk H locs hh hl))
      · cases hp
    · cases hp
  · cases hlen _ rfl
    split at hp
    · split at hp
      · rename_i h0
        split at hp
        · cases hp
        · rename_i h1
          cases hp
          rw [hG] at h1
          exact va_aldq (tys := pm_tys tC) hx hb hK.2.1 (pm_P1 (hh.own (Nat.le_of_not_lt (fun q => h1 (Or.inr q))) h0)) 0 3 rfl rfl (fun q => h1 (Or.inl q)) hd (pm_cs0 h (kk H locs hh hl))
      · cases hp
    · cases hp
  · cases hlen _ rfl
    split at hp
    · split at hp
      · rename_i h0
        split at hp
        · cases hp
        · rename_i h1
          cases hp
          rw [hG] at h1
          have hba : H0.size ≤ _ := Nat.le_of_not_lt (fun q => h1 (Or.inr q))
          obtain ⟨hP, hD⟩ := pm_full hh
          obtain ⟨q0, hq0⟩ := pm_ix_of hh hba h0
          exact va_iast (tys := pm_tys tC) hx hb hK.2.1 hP hD (pm_S.rf hl) q0 0 hq0 rfl (fun q => h1 (Or.inl q)) hd (fun H1 locs1 hP1 hD1 hS1 => pm_upd (x := pm_a 0 _ _) hh hc hba h0 hq0 hP1 hS1 (fun H' locs' a1 a2 => pm_cs0 h (kk H' locs' a1 a2)))
      · cases hp
    · cases hp
  · cases hlen _ rfl
    split at hp
    · split at hp
      · rename_i h0
        split at hp
        · cases hp
        · rename_i h1
          cases hp
          rw [hG] at h1
          have hba : H0.size ≤ _ := Nat.le_of_not_lt (fun q => h1 (Or.inr (Or.inl q)))
          have hbo := Classical.byContradiction (fun q => h1 (Or.inr (Or.inr q)))
          obtain ⟨hP, hD⟩ := pm_full hh
          obtain ⟨q0, hq0⟩ := pm_ix_of hh hba h0
          exact va_zast (tys := pm_tys tC) hx hb hK.2.1 hP hD (pm_S.rf hl) q0 1 hq0 rfl (fun q => h1 (Or.inl q)) hd (fun H1 locs1 hP1 hD1 hS1 => pm_upd (x := pm_a 1 _ _) hh hc hba h0 hq0 (by rw [pm_nI hbo] at hP1; exact hP1) hS1 (fun H' locs' a1 a2 => pm_cs0 h (kk H' locs' a1 a2)))
      · cases hp
    · cases hp
  · cases hlen _ rfl
    split at hp
    · split at hp
      · rename_i h0
        split at hp
        · cases hp
        · rename_i h1
          cases hp
          rw [hG] at h1
          have hba : H0.size ≤ _ := Nat.le_of_not_lt (fun q => h1 (Or.inr q))
          obtain ⟨hP, hD⟩ := pm_full hh
          obtain ⟨q0, hq0⟩ := pm_ix_of hh hba h0
          exact va_last (tys := pm_tys tC) hx hb hK.2.1 hP hD (pm_S.rf hl) q0 2 hq0 rfl (fun q => h1 (Or.inl q)) hd (fun H1 locs1 hP1 hD1 hS1 => pm_upd (x := pm_l _ _) hh hc hba h0 hq0 hP1 hS1 (fun H' locs' a1 a2 => pm_cs0 h (kk H' locs' a1 a2)))
      · cases hp
    · cases hp
  · cases hlen _ rfl
    split at hp
    · split at hp
      · rename_i h0
        split at hp
        · cases hp
        · rename_i h1
          cases hp
          rw [hG] at h1
          have hba : H0.size ≤ _ := Nat.le_of_not_lt (fun q => h1 (Or.inr q))
          obtain ⟨hP, hD⟩ := pm_full hh
          obtain ⟨q0, hq0⟩ := pm_ix_of hh hba h0
          exact va_astqN (tys := pm_tys tC) hx hb hK.2.1 hP hD (pm_S.rf hl) q0 3 hq0 rfl (fun q => h1 (Or.inl q)) hd (fun H1 locs1 hP1 hD1 hS1 => pm_upd (x := pm_r _ _) hh hc hba h0 hq0 hP1 hS1 (fun H' locs' a1 a2 => pm_cs0 h (kk H' locs' a1 a2)))
      · cases hp
    · split at hp
      · rename_i hv
        split at hp
        · rename_i h0
          split at hp
          · cases hp
          · rename_i h1
            cases hp
            rw [hG] at h1
            have hba : H0.size ≤ _ := Nat.le_of_not_lt (fun q => h1 (Or.inr (Or.inl q)))
            have hob := eq_true_of_ne_false (fun q => h1 (Or.inr (Or.inr q)))
            obtain ⟨hP, hD⟩ := pm_full hh
            obtain ⟨q0, hq0⟩ := pm_ix_of hh hba h0
            exact va_astqM (tys := pm_tys tC) hx hb hK.2.1 hP hD (pm_S.rf hl) q0 3 hq0 rfl (pm_any hK hh hv hob) (fun q => h1 (Or.inl q)) hd (fun H1 locs1 hP1 hD1 hS1 => pm_upd (x := pm_r _ _) hh hc hba h0 hq0 hP1 hS1 (fun H' locs' a1 a2 => pm_cs0 h (kk H' locs' a1 a2)))
        · cases hp
      · cases hp
    · cases hp
  · cases hlen _ rfl
    split at hp
    · split at hp
      · cases hp
      · rename_i h1
        have g1 := fun q => h1 (Or.inl q)
        have g2 := fun q => h1 (Or.inr q)
        split at hp
        · cases hp
          rw [pm_ad1] at hR1 kk
          rw [pm_ad2] at hR2 kk
          have ha : (Cond.arrayClass .int).before args s = true := hK.word pm_fa_int rfl args
          exact pm_mkarr (t := .int) (ty := .int) (q := 0) (w := .inl fun _ => 0) hx hb hK rfl rfl (fun C z => by cases z) ha (by decide) hd hh g1 g2 rfl rfl hR1 hR2 (fun H' a1 => kk H' locs a1 hl)
        · cases hp
          rw [pm_ad1] at hR1 kk
          rw [pm_ad2] at hR2 kk
          have ha : (Cond.arrayClass .boolean).before args s = true := hK.word pm_fa_boolean rfl args
          exact pm_mkarr (t := .boolean) (ty := .boolean) (q := 1) (w := .inl fun _ => 0) hx hb hK rfl rfl (fun C z => by cases z) ha (by decide) hd hh g1 g2 rfl rfl hR1 hR2 (fun H' a1 => kk H' locs a1 hl)
        · cases hp
          rw [pm_ad1] at hR1 kk
          rw [pm_ad2] at hR2 kk
          have ha : (Cond.arrayClass .long).before args s = true := hK.word pm_fa_long rfl args
          exact pm_mkarr (t := .long) (ty := .long) (q := 2) (w := .inr (.inl fun _ => 0)) hx hb hK rfl rfl (fun C z => by cases z) ha (by decide) hd hh g1 g2 rfl rfl hR1 hR2 (fun H' a1 => kk H' locs a1 hl)
        · cases hp
    · cases hp
  · cases hlen _ rfl
    split at hp
    · split at hp
      · cases hp
      · rename_i h1
        cases hp
        rw [pm_ad1] at hR1 kk
        rw [pm_ad2] at hR2 kk
        exact pm_mkref hx hb hown hK (eq_true_of_ne_false (fun q => h1 (Or.inr (Or.inr q)))) hd hh (fun q => h1 (Or.inl q)) (fun q => h1 (Or.inr (Or.inl q))) hR1 hR2 (fun H' a1 => kk H' locs a1 hl)
    · cases hp
  · cases hlen _ rfl
    split at hp
    · rename_i ci h0
      cases hp
      rw [pm_ad1] at hR1 kk
      rw [pm_ad2] at hR2 kk
      exact pm_mkobj hx hb hown hK h0 hd hh hR1 hR2 (fun H' a1 => kk H' locs a1 hl)
    · cases hp
  · cases hlen _ rfl
    split at hp
    · rename_i h0
      cases hp
      obtain ⟨en, g1, g3⟩ := pm_rowS h0
      have w1 := pm_f7 _ g3 _ g1
      obtain ⟨cf, kf, fi, f, a, cell, f1, f2, f3, f4, f5, f6, f7, f8⟩ := hK.2.2.2.2.1
      exact W.gets hx hb hown (hK.word w1 rfl args) f1 f2 f3 f4 (by rw [hh.2.2.1 a (by omega)]; exact f5) (fun z => by rw [z] at f6; cases f6) f7 rfl hd (pm_cs0 h (kk H locs hh hl))
    · cases hp
  · cases hlen _ rfl
    split at hp
    · rename_i h0
      cases hp
      obtain ⟨en, g1, g2, g3⟩ := pm_row h0
      have w1 := pm_f9 _ g3 _ g1
      have g2' : en.1 = _ := g2
      dsimp only at w1
      rw [g2'] at w1
      exact W.ldc hx hb hown (hK.word w1 rfl args) rfl hd (pm_cs0 h (kk H locs hh hl))
    · split at hp
      · rename_i h0
        cases hp
        obtain ⟨en, g1, g3⟩ := pm_rowS h0
        have w1 := pm_f8 _ g3 _ g1
        exact va_ldcM hx hb hown (hK.word w1 rfl args) hK.2.2.2.1 hd (pm_cs0 h (kk H locs hh hl))
      · cases hp
  · cases hlen _ rfl
    split at hp
    · rename_i h0
      cases hp
      obtain ⟨en, g1, g2, g3⟩ := pm_row h0
      have w1 := pm_f9 _ g3 _ g1
      have g2' : en.1 = _ := g2
      dsimp only at w1
      rw [g2'] at w1
      exact lv_ldcw hx hb hown (hK.word w1 rfl args) hd (pm_cs0 h (kk H locs hh hl))
    · cases hp
  · cases hlen _ rfl
    split at hp
    · cases hp
      exact lv_castN hx hb hd (pm_cs0 h (kk H locs hh hl))
    · split at hp
      · rename_i ci fs h0
        split at hp
        · rename_i h1
          cases hp
          unfold pm_kc at h1
          split at h1
          · rename_i q hq
            obtain ⟨wi, hwi⟩ := Option.isSome_iff_exists.mp h1
            obtain ⟨en, g1, g2, g3⟩ := pm_row (f := id) (v := q) (by rw [hq]; rfl)
            cases g2
            obtain ⟨w1, w2⟩ := pm_f10 _ g3 _ g1
            obtain ⟨w3, w4⟩ := w2 _ (pm_lk hwi)
            obtain ⟨-, hr⟩ := pm_recv hK hh h0
            exact va_castY hx hb hown (hK.word w1 rfl args) (hK.word w4 rfl #[]) hr hd (pm_cs0 h (kk H locs hh hl))
          · cases h1
        · cases hp
      · rename_i h0
        split at hp
        · rename_i h1
          cases hp
          obtain ⟨h1, h2⟩ := h1
          rw [hG] at h2
          unfold pm_ka at h1
          split at h1
          · rename_i q hq
            obtain ⟨en, g1, g2, g3⟩ := pm_row (f := id) (v := q) (by rw [hq]; rfl)
            cases g2
            obtain ⟨w1, w2⟩ := pm_f10 _ g3 _ g1
            have hn : en.1 = "[I" := beq_iff_eq.mp h1
            have w1' := hK.word w1 rfl args
            dsimp only at w1'
            rw [hn] at w1'
            exact va_castA (D := D) hx hb hown w1' (pm_P1 (hh.own h2 h0)) 0 rfl ((hK.2.1.2 0 (tC 0, .int) rfl).2) hd (pm_cs0 h (kk H locs hh hl))
          · cases h1
        · cases hp
      · rename_i h0
        split at hp
        · rename_i h1
          cases hp
          obtain ⟨h1, h2⟩ := h1
          rw [hG] at h2
          unfold pm_ka at h1
          split at h1
          · rename_i q hq
            obtain ⟨en, g1, g2, g3⟩ := pm_row (f := id) (v := q) (by rw [hq]; rfl)
            cases g2
            obtain ⟨w1, w2⟩ := pm_f10 _ g3 _ g1
            have hn : en.1 = "[Ljava/lang/Object;" := beq_iff_eq.mp h1
            have w1' := hK.word w1 rfl args
            dsimp only at w1'
            rw [hn] at w1'
            exact va_castA (D := D) hx hb hown w1' (pm_P1 (hh.own h2 h0)) 0 rfl (va_nmO ((hK.2.1.2 3 (tC 3, .object pm_obj) rfl).2) (by decide +kernel)) hd (pm_cs0 h (kk H locs hh hl))
          · cases h1
        · cases hp
      · cases hp
    · cases hp
  · cases hp
end PMS4
