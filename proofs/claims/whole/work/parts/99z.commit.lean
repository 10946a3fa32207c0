/-! The law's case: commit. -/
theorem nd_keys {G : pm_G} {o : Nat → Nat} {h : pm_S} : ∀ l : List (Nat × pD), (∀ p ∈ l, cDC G o h p.1 p.2) → l.Pairwise (fun y z => y.2.1.1 < z.2.1.1) → l.Pairwise (fun p q => p.1 ≠ q.1) := by
  intro l
  induction l with
  | nil => intro _ _; exact List.Pairwise.nil
  | cons a r ih =>
    intro hd hp
    obtain ⟨p1, p2⟩ := List.pairwise_cons.mp hp
    refine List.pairwise_cons.mpr ⟨fun z hz e => ?_, ih (fun p hp => hd p (List.mem_cons_of_mem _ hp)) p2⟩
    obtain ⟨_, _, a1, _, _, _, _, a7, _⟩ := hd a (List.mem_cons_self ..)
    obtain ⟨_, _, z1, _, _, _, _, z7, _⟩ := hd z (List.mem_cons_of_mem _ hz)
    rw [e, z1] at a1
    have e3 : iN z.2.1.1 = iN a.2.1.1 := by
      have := congrArg (fun c : Option pm_C => match c with
        | some (.inl (_, v :: _)) => v
        | _ => .null) a1
      exact this
    have := ps_ofNat_inj z7 a7 (Value.int.inj e3)
    have := p1 z hz
    omega
section CXP
variable {G : pm_G} {o : Nat → Nat} {h : pm_S} {x dr pi pg ba kD lD rD kP lP rP room nn : Nat} {pw : Option Nat} {ts : List Nat} {ps : List (Nat × List Nat)} {bx : List (Nat × pD)} {Ss : List cS} {Lb : List Nat} {Q : pm_Q}
theorem cx_nd {li : Nat} (X : (cX G o h x dr pi pg ba kD lD rD kP lP rP room nn pw ts ps bx Ss Lb)) (I : inv li room (Ss.map gS) (bx.map (·.2))) : (Ss.flatMap dS ++ bx).Pairwise (fun p q => p.1 ≠ q.1) := by
  obtain ⟨_, _, _, _, _, ⟨_, B2, _⟩, ⟨_, _, SS, _, _⟩, _⟩ := X
  refine nd_keys (G := G) (o := o) (h := h) _ (fun p hp => ?_) ?_
  · rcases List.mem_append.mp hp with hp | hp
    · obtain ⟨S, hS, hp⟩ := List.mem_flatMap.mp hp
      exact (SS S hS).2.2.1.2.1 p hp
    · exact B2 p hp
  · have := I.2.2.1
    rw [← fl_gS, ← List.map_append, List.pairwise_map] at this
    exact this
end CXP
/-- after a cut: what both hold -/
theorem rel_cut {k room nn dc li sz sz' : Nat} {pw : Option Nat} {ts : List Nat} {ps : List (Nat × List Nat)} {bx : List (Nat × pD)} {Ss : List cS} {Lb : List Nat} {aD aK aL aT aS aX aM aC aN aO aQ aB aV aH aC' aO' : Nat → Nat} (E : (rel k room nn pw ts ps bx Ss Lb dc li sz aD aK aL aT aS aX aM aC aN aO aQ aB aV aH)) (hC : ∀ j, aC' j ≤ 1) (hs : sz' ≤ 1400) : (rel (k + 1) room nn none ([]) ps ([]) (Ss.map (mpS spD)) Lb dc li sz' aD aK aL aT aS aX (fun j => if j < dc then 0 else aM j) aC' aN aO' aQ aB aV aH) := by
  obtain ⟨⟨E1, E2, E3⟩, E4, ⟨E5, E6, E7⟩, E8, ⟨E13, E14⟩, E15, I⟩ := E
  have hX := E13.1.2.2.2.2.1
  have hM := E13.1.2.2.2.2.2
  refine ⟨⟨Nat.le_succ_of_le E1, hs, hC⟩, (fun p hp => by cases hp), ⟨Nat.zero_le _, rfl, E7⟩, E8, ⟨?_, rfl, rfl⟩, ?_, ?_⟩
  · rw [gS_mpS, List.length_map]
    refine rS_mu E13 hX (fun j => ?_) (fun _ => rfl) (fun j hj => ?_)
    · split
      · exact Nat.zero_le _
      · exact hM j
    · show (docOf aK aL aT j, aX j, 0) = (docOf aK aL aT j, aX j, if j < dc then 0 else aM j)
      rw [if_pos hj]
  · rw [gS_mpS, lG_mu (a := 0) (fun D hD => by rw [gnD0, gnD0]; rfl)]
    exact E15
  · rw [gS_mpS]
    refine inv_mu (inv_nb I) (fun _ => rfl) (fun _ _ => rfl) (fun D hD => ?_)
    rcases I.2.2.2.2.2.1 D hD with q | q
    · exact .inl ⟨q.1, Nat.zero_le _⟩
    · have q1 : D.2.1 = 1 := congrArg Prod.fst q
      exact .inr (Prod.ext q1 rfl)
theorem lc_commit {i d k b nb x m ou : Nat} {xs : Nat → Int32} {G : pm_G} {h : pm_S} {Q : pm_Q} {u5 u6 : Option Value} (J : lJ G b nb xs x m ou k h) (hd : 30 ≤ d) (hi : i + 2 < nb) (hnb : nb ≤ 1537) (hk : k < 512) (K : ∀ u5 u6 h', lJ G b nb xs x m ou (k + 1) h' → ps_X G d 140 836 [some (.ref b), some (.ref x), some (.ref m), some (.ref ou), some (iN i), u5, u6] [] h' Q) : ps_X G d 140 273 [some (.ref b), some (.ref x), some (.ref m), some (.ref ou), some (iN i), u5, u6] [] h Q := by
  obtain ⟨o, dr, pi, pg, ba, kD, lD, rD, kP, lP, rP, room, nn, pw, ts, ps, bx, Ss, Lb, tw, dc, li, sz, aD, aK, aL, aT, aS, aX, aM, aC, aN, aO, aQ, aB, aV, aH, X, S, E, n1, n2⟩ := J
  have X' := X
  obtain ⟨X0, ⟨pf, bf', x1, _⟩, _⟩ := X'
  obtain ⟨fm, m1⟩ := ls_mo S
  have E' := E
  obtain ⟨⟨E1, E2, E3⟩, E4, ⟨E5, E6, E7⟩, ⟨E8, E9, E10, E11, E12⟩, ⟨E13, E14⟩, E15, I⟩ := E'
  have hb1 := S.2.2.2.2.2.1
  have hgm := S.2.2.2.1
  have hgo := S.2.2.2.2.1.2.2
  obtain ⟨f1, f2, f3⟩ := inv_facts I E13 E14
  have hz0 := I.2.1
  have hdc := rS_dc E13
  have hu := used_eq E15
  have hui := I.2.2.2.2.2.2.1
  have hr8 := I.2.2.2.2.2.2.2.2.2
  have hli := I.2.2.2.2.2.2.2.2.1
  have hseg := inv_seg I
  have hl0 := rS_l0 I E13
  have hbuf := inv_buf I
  have hmm : (bx.map (·.2)).map (·.1) = bx.map (·.2.1) := by rw [List.map_map]; rfl
  rw [hmm] at hbuf
  have hpl := plC_eq (nn := nn) (Ss := Ss) hz0
  have hcm := cmC_eq (nn := nn) (Ss := Ss) hz0
  have hhd := hdC_dmS I.2.2.2.2.2.1
  have hnd := cx_nd X I
  have hl1 : (lG 1 (kpS (Ss.map gS) ++ nwS (nn + 1) (bx.map (·.2.1)))).length ≤ 1400 := by
    refine lG_up 1 _ ?_ (fun g hg => ?_) ?_
    · rw [List.length_append]
      have h1 : (kpS (Ss.map gS)).length ≤ (Ss.map gS).length := List.length_filter_le _ _
      rw [List.length_map] at h1
      have h2 : (nwS (nn + 1) (bx.map (·.2.1))).length ≤ 1 := by unfold nwS; split <;> simp
      omega
    · rcases List.mem_append.mp hg with hg | hg
      · have := rS_num E13 g (List.mem_filter.mp hg).1
        omega
      · unfold nwS at hg
        split at hg
        · cases hg
        · rw [List.mem_singleton.mp hg]
          show nn + 1 < _
          omega
    · rw [List.flatMap_append, List.length_append]
      have h1 := (fl_sub (fun g : pG => neS g.2) (·.2) (Ss.map gS)).length_le
      have h2 : ((nwS (nn + 1) (bx.map (·.2.1))).flatMap (·.2)).length ≤ 12 := by
        unfold nwS
        split
        · exact Nat.zero_le _
        · simp only [List.flatMap_cons, List.flatMap_nil, List.append_nil, List.length_map]
          exact f1
      have h3 : ((kpS (Ss.map gS)).flatMap (·.2)).length ≤ ((Ss.map gS).flatMap (·.2)).length := h1
      rw [← hdc] at h3
      omega
  have hgs14 : ∀ g ∈ Ss.map gS, srt 0 (g.2.map (·.1)) ∧ (bG g).length ≤ 1400 := fun g hg => ⟨(hseg g hg).1, by have := (hseg g hg).2; omega⟩
  have hbn : bx.map (·.2.1) = [] ↔ bx = [] := bx_nil
  refine ps_s_al p140_273 rfl ?_
  refine ps_s_al p140_274 rfl ?_
  refine ps_s_vS [_, _] _ p140_275 rfl rfl rfl rfl (hl_48 (R1 := fun c h' => c = 1 ∧ ¬ (bx = [] ∧ hdC Ss = false) ∧ (room - (Lb.length + (Ss.map (fun S => (bG (gS S)).length)).sum) < cmC nn Ss bx ∨ 10 < (plC nn Ss bx).length) ∧ ∃ (h1 : pm_S) (o' : Nat → Nat) (c s : Nat), h' = pm_gap h1 6 ∧ cF G (cU h) h o h1 o' c s ∧ c ≤ 40 ∧ s ≤ 3000 ∧ (cX G (o') (h1) x dr pi pg ba kD lD rD kP lP rP room nn pw ts ps bx Ss Lb)) (R2 := fun v h' => (v = Int32.ofNat 0 ∧ h' = h ∧ bx = [] ∧ hdC Ss = false) ∨ (¬ (bx = [] ∧ hdC Ss = false) ∧ ¬ (room - (Lb.length + (Ss.map (fun S => (bG (gS S)).length)).sum) < cmC nn Ss bx ∨ 10 < (plC nn Ss bx).length) ∧ ∃ (o' : Nat → Nat) (c s : Nat), cF G (cU h) h o h' o' c s ∧ c ≤ 40 ∧ s ≤ 3000 ∧ ((v = -1 ∧ cutB pw (cmC nn Ss bx) = true ∧ (cX G (o') (h') x dr pi pg ba kD lD rD kP lP rP room nn (none) ([]) ps ([]) (Ss.map (mpS spD)) Lb)) ∨ (v = Int32.ofNat (cmC nn Ss bx) ∧ cutB pw (cmC nn Ss bx) = false ∧ ∃ (nb : Nat) (Zs : List cS), Zs.map gS = plC nn Ss bx ∧ cX G o' h' x dr pi pg nb kP lP rP kD lD rD room (if sbC bx = 0 then nn else nn + 1) (pw.map (· - cmC nn Ss bx)) ts ps [] (Zs.map (mpS stD)) (lG 1 (plC nn Ss bx)))))) x1 (fun c h' r => r.1) (fun Q' T V => x_commit X f1 f2 (by omega) hr8 (by omega) (fun S' hS' => by have := (hseg (gS S') (List.mem_map.mpr ⟨S', hS', rfl⟩)).2; omega) (by omega) hbuf.1 hbuf.2 (by rw [hpl]; exact hl1) hnd (fun q1 q2 => V _ _ (.inl ⟨rfl, rfl, q1, q2⟩)) (fun q1 q2 h1 o' c s F hc hs X' => T 1 _ ⟨rfl, q1, q2, h1, o', c, s, rfl, F, hc, hs, X'⟩) (fun q1 q2 q3 h1 o' c s F hc hs X' => V _ _ (.inr ⟨q1, q2, o', c, s, F, hc, hs, .inl ⟨rfl, q3, X'⟩⟩)) (fun q1 q2 q3 h1 o' c s nb' Zs F hc hs hZ X' => V _ _ (.inr ⟨q1, q2, o', c, s, F, hc, hs, .inr ⟨rfl, q3, nb', Zs, hZ, X'⟩⟩))) hgo (fun v h' r => by
      rcases r with ⟨_, rfl, _⟩ | ⟨_, _, o', c, s, F, _⟩
      · exact ls_oe S
      · exact ls_oe (ls_U S F)) (fun h' r => ps_bki ?_) (fun v h' g r e => ps_bki ?_) d (by omega))
  · obtain ⟨_, r1, r2, h1, o', c, s, rfl, F, hc, hs, X1⟩ := r
    obtain ⟨X2, S2⟩ := lg_thr (e := 6) X1 (ls_U S F)
    obtain ⟨fm1, m2⟩ := ls_mo S2
    have hF := F.2.2
    have r1' : ¬ (bx.map (·.2.1) = [] ∧ dmS (Ss.map gS) = false) := fun q => r1 ⟨hbn.mp q.1, by rw [hhd]; exact q.2⟩
    rw [hu, hcm, hpl] at r2
    refine ps_s_is5 p140_278 ?_
    first | refine ps_s_al p140_280 rfl ?_ | refine ps_s_aln p140_280 rfl ?_
    refine ps_s_vV [] _ p140_281 rfl m2 rfl rfl rfl (ls_Mr S2 (rf_commit hgm E13 E14 (by omega) (by omega) (by omega) hli E3 hr8 rfl E4 hl0 hl1 hgs14 hbuf.1 hbuf.2 hui (fun q1 q2 => absurd ⟨q1, q2⟩ r1') (fun _ _ aC aO sz hC hsz => ps_bki ?_) (fun _ q => absurd r2 q) (fun _ q => absurd r2 q)) d (by omega))
    refine ps_s_is6 p140_284 ?_
    exact tl_286 (by omega) rfl (by omega) hgo (fun e => absurd e (by decide)) (K _ _ _ (lj_ref X2 S2 ⟨⟨Nat.le_succ_of_le E1, hsz, hC⟩, E.2⟩ (by show h1.2.1 + 1 ≤ _; omega) (by show h1.2.2 + 6 ≤ _; omega)))
  · rcases r with ⟨rfl, rfl, r1, r2⟩ | ⟨r1, r2, o', c, s, F, hc, hs, r3⟩
    · obtain ⟨X2, S2⟩ := lg_ok (g' := vp_updL g 0 (Int32.ofNat 0).toInt64) X S e
      obtain ⟨fm1, m2⟩ := ls_mo S2
      have r12 : bx.map (·.2.1) = [] ∧ dmS (Ss.map gS) = false := ⟨hbn.mpr r1, by rw [← hhd]; exact r2⟩
      refine ps_s_is5 p140_278 ?_
      first | refine ps_s_al p140_280 rfl ?_ | refine ps_s_aln p140_280 rfl ?_
      refine ps_s_vV [] _ p140_281 rfl m2 rfl rfl rfl (ls_Mr S2 (rf_commit hgm E13 E14 (by omega) (by omega) (by omega) hli E3 hr8 rfl E4 hl0 hl1 hgs14 hbuf.1 hbuf.2 hui (fun _ _ => ps_bki ?_) (fun q => absurd r12 q) (fun q => absurd r12 q) (fun q => absurd r12 q)) d (by omega))
      refine ps_s_is6 p140_284 ?_
      exact tl_286 (by omega) rfl (by omega) hgo (fun _ => ⟨_, rf_out X2.1.1 S2 (rL_kd ..) pp_eq, out0 _ _⟩) (K _ _ _ (lj_ref X2 S2 (rel_k E (Nat.le_succ _)) (by show h'.2.1 ≤ _; omega) (by show h'.2.2 ≤ _; omega)))
    · have hF := F.2.2
      have r1' : ¬ (bx.map (·.2.1) = [] ∧ dmS (Ss.map gS) = false) := fun q => r1 ⟨hbn.mp q.1, by rw [hhd]; exact q.2⟩
      rw [hu, hcm, hpl] at r2
      rw [hcm] at r3
      rcases r3 with ⟨rfl, r4, X1⟩ | ⟨rfl, r4, nb', Zs, hZ, X1⟩
      · obtain ⟨X2, S2⟩ := lg_ok (g' := vp_updL g 0 (-1 : Int32).toInt64) X1 (ls_U S F) e
        obtain ⟨fm1, m2⟩ := ls_mo S2
        refine ps_s_is5 p140_278 ?_
        first | refine ps_s_al p140_280 rfl ?_ | refine ps_s_aln p140_280 rfl ?_
        refine ps_s_vV [] _ p140_281 rfl m2 rfl rfl rfl (ls_Mr S2 (rf_commit hgm E13 E14 (by omega) (by omega) (by omega) hli E3 hr8 rfl E4 hl0 hl1 hgs14 hbuf.1 hbuf.2 hui (fun q1 q2 => absurd ⟨q1, q2⟩ r1') (fun _ q => absurd q r2) (fun _ _ _ aC aO sz hC hsz => ps_bki ?_) (fun _ _ q => by rw [r4] at q; cases q)) d (by omega))
        have hlS : (Ss.map (mpS spD)).length = Ss.length := List.length_map _
        have J' := lj_ref (tw := 0) X2 S2 (rel_cut (aO' := aO) E hC hsz) (by show h'.2.1 ≤ _; omega) (by show h'.2.2 ≤ _; omega)
        rw [hlS] at J'
        refine ps_s_is6 p140_284 ?_
        exact tl_286 (by omega) rfl (by omega) hgo (fun _ => ⟨_, rf_out X2.1.1 S2 (rL_kd ..) pp_eq, out0 _ _⟩) (K _ _ _ J')
      · obtain ⟨X2, S2⟩ := lg_ok (g' := vp_updL g 0 (Int32.ofNat (cmB (nn + 1) (Ss.map gS) (bx.map (·.2.1)))).toInt64) X1 (ls_U S F) e
        obtain ⟨fm1, m2⟩ := ls_mo S2
        refine ps_s_is5 p140_278 ?_
        first | refine ps_s_al p140_280 rfl ?_ | refine ps_s_aln p140_280 rfl ?_
        refine ps_s_vV [] _ p140_281 rfl m2 rfl rfl rfl (ls_Mr S2 (rf_commit hgm E13 E14 (by omega) (by omega) (by omega) hli E3 hr8 rfl E4 hl0 hl1 hgs14 hbuf.1 hbuf.2 hui (fun q1 q2 => absurd ⟨q1, q2⟩ r1') (fun _ q => absurd q r2) (fun _ _ q => by rw [r4] at q; cases q) (fun _ _ _ aC aO sz hC hsz aK' aL' aT' aS' aX' aM' aN' dc' cn' hS' hdc' => ps_bki ?_)) d (by omega))
        have hsg : (Zs.map (mpS stD)).map gS = (kpS (Ss.map gS) ++ nwS (nn + 1) (bx.map (·.2.1))).map (mu stD) := by rw [gS_mpS, hZ, hpl]
        have hsg2 : (kpS (Ss.map gS)).map (fun g => (g.1, g.2.map stD)) ++ nwS (nn + 1) (bx.map (·.2.1)) = (Zs.map (mpS stD)).map gS := by rw [hsg, List.map_append, nw_st]; rfl
        rw [hsg2] at hS'
        have hcn : cn' = (Zs.map (mpS stD)).length := by have := hS'.2.2.2.1; rw [List.length_map] at this; exact this
        have hI : inv li room (Ss.map gS) ((bx.map (·.2.1)).map (fun x => ((x, 0, 0) : pD))) := by rw [← bx_eq hz0]; exact I
        have I' : inv 1 room ((Zs.map (mpS stD)).map gS) (([] : List (Nat × pD)).map (·.2)) := by rw [hsg]; exact inv_cm hI r2
        have hnn2 : (if sbC bx = 0 then nn else nn + 1) + 1 = (if bx.map (·.2.1) = [] then nn + 1 else nn + 1 + 1) := by
          by_cases q : bx = []
          · have : sbC bx = 0 := by unfold sbC; rw [if_pos q]
            rw [if_pos this, if_pos (hbn.mpr q)]
          · have : ¬ sbC bx = 0 := by
              unfold sbC
              rw [if_neg q, sB_len]
              have := vl_pos (bx.map (·.2.1)).length
              omega
            rw [if_neg this, if_neg (fun e => q (hbn.mp e))]
        have hLb : lG 1 (plC nn Ss bx) = if 1 = 1 then lG 0 ((Zs.map (mpS stD)).map gS) else [] := by
          rw [if_pos rfl, hsg, lG_mu (a := 1) (fun D _ => gn_st D), hpl]
        have E' : (rel (k + 1) room (if sbC bx = 0 then nn else nn + 1) (pw.map (· - cmB (nn + 1) (Ss.map gS) (bx.map (·.2.1)))) ts ps ([]) (Zs.map (mpS stD)) (lG 1 (plC nn Ss bx)) dc' 1 sz aD aK' aL' aT' aS' aX' aM' aC aN' aO aQ aB aV aH) := by
          refine ⟨⟨by split <;> omega, hsz, hC⟩, fun p hp => ?_, ⟨E5, E6, E7⟩, E.2.2.2.1, ⟨by rw [← hcn]; exact hS', rfl, rfl⟩, hLb, I'⟩
          cases hpw : pw with
          | none => rw [hpw] at hp; cases hp
          | some p0 =>
            rw [hpw] at hp
            have := E4 p0 hpw
            have hp' : p0 - _ = p := Option.some.inj hp
            omega
        have J' := lj_ref (tw := 0) X2 S2 E' (by show h'.2.1 ≤ _; omega) (by show h'.2.2 ≤ _; omega)
        rw [← hcn, hnn2] at J'
        refine ps_s_is6 p140_284 ?_
        exact tl_286 (by omega) rfl (by omega) hgo (fun _ => ⟨_, rf_out X2.1.1 S2 (rL_kd ..) pp_eq, out0 _ _⟩) (K _ _ _ J')
