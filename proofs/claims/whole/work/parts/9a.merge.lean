/-! The law's case: merge. -/
theorem mr_nil {SM : List cS} : mrg (SM.map gS) = [] ↔ mrS SM = [] := by
  rw [← mrS_mrg]
  exact List.map_eq_nil_iff
theorem mr_docs (SM : List cS) : (mrS SM).map (·.2.1) = (mrg (SM.map gS)).map (·.1) := by
  rw [← mrS_mrg, List.map_map]
  rfl
theorem plM_eq (nn : Nat) (SL SM SR : List cS) : plM nn SL SM SR = SL.map gS ++ (mgN (nn + 1) (SM.map gS) ++ SR.map gS) := by
  unfold plM nwM mgN
  congr 2
  by_cases q : mrS SM = []
  · rw [if_pos q, if_pos (mr_nil.mpr q)]
  · rw [if_neg q, if_neg (fun e => q (mr_nil.mp e)), mrS_mrg]
theorem mgC_eq (nn : Nat) (SL SM SR : List cS) : mgC nn SL SM SR = mgB (nn + 1) (SL.map gS) (SM.map gS) (SR.map gS) := by
  unfold mgC mgB sbM
  rw [plM_eq, mr_docs]
  congr 1
  by_cases q : mrS SM = []
  · rw [if_pos q, if_pos (mr_nil.mpr q)]
  · rw [if_neg q, if_neg (fun e => q (mr_nil.mp e))]
theorem mg_flat (nn : Nat) (M : List pG) : (mgN nn M).flatMap (·.2) = mrg M := by
  unfold mgN
  split
  · next q => rw [q]; rfl
  · simp
theorem mg_len (nn : Nat) (M : List pG) : (mgN nn M).length ≤ 1 := by
  unfold mgN
  split <;> simp
theorem inv_mg {li room nn : Nat} {L M R : List pG} {bq : List pD} (I : inv li room (L ++ (M ++ R)) bq) (hM : 1 ≤ M.length) (hok : ¬ room - uG li (L ++ (M ++ R)) < mgB nn L M R) : inv 1 room (L ++ (mgN nn M ++ R)) bq := by
  obtain ⟨⟨i1, i2⟩, i3, i4, i5, i6, i7, i8, i9, i10, i11⟩ := I
  have hfl : (L ++ (mgN nn M ++ R)).flatMap (·.2) = L.flatMap (·.2) ++ (mrg M ++ R.flatMap (·.2)) := by rw [List.flatMap_append, List.flatMap_append, mg_flat]
  have hsub : ((L ++ (mgN nn M ++ R)).flatMap (·.2)).Sublist ((L ++ (M ++ R)).flatMap (·.2)) := by
    rw [hfl, List.flatMap_append, List.flatMap_append]
    exact List.Sublist.append (List.Sublist.refl _) (List.Sublist.append List.filter_sublist (List.Sublist.refl _))
  have hml := mg_len nn M
  refine ⟨⟨i1, ?_⟩, i3, i4.sublist (List.Sublist.append hsub (List.Sublist.refl _)), fun y hy => i5 y ?_, fun g hg => ?_, fun y hy => i7 y (hsub.subset hy), ?_, fun q => by omega, Nat.le_refl _, i11⟩
  · rw [List.length_append, List.length_append] at i2 ⊢
    omega
  · rcases List.mem_append.mp hy with hy | hy
    · exact List.mem_append_left _ (hsub.subset hy)
    · exact List.mem_append_right _ hy
  · rcases List.mem_append.mp hg with hg | hg
    · exact i6 g (List.mem_append_left _ hg)
    · rcases List.mem_append.mp hg with hg | hg
      · unfold mgN at hg
        split at hg
        · cases hg
        · next q =>
          rw [List.mem_singleton.mp hg]
          cases hb : mrg M with
          | nil => exact absurd hb q
          | cons y r =>
            have hy : y ∈ mrg M := by rw [hb]; exact List.mem_cons_self ..
            refine ⟨y, List.mem_cons_self .., ?_⟩
            unfold mrg at hy
            obtain ⟨h1, h2⟩ := List.mem_filter.mp hy
            have h3 := i7 y (by rw [List.flatMap_append, List.flatMap_append]; exact List.mem_append_right _ (List.mem_append_left _ h1))
            rcases h3 with h3 | h3
            · exact h3.1
            · rw [h3] at h2; exact absurd h2 (by decide)
      · exact i6 g (List.mem_append_right _ (List.mem_append_right _ hg))
  · have hcm : mgB nn L M R ≤ room - uG li (L ++ (M ++ R)) := by omega
    unfold mgB at hcm
    unfold uG at hcm i8 ⊢
    rw [if_pos rfl, List.map_append, List.map_append, List.sum_append, List.sum_append]
    rw [List.map_append, List.map_append, List.sum_append, List.sum_append] at hcm i8
    have h2 : ((mgN nn M).map (fun g => (bG g).length)).sum = if mrg M = [] then 0 else (sB ((mrg M).map (·.1))).length := by
      unfold mgN
      split
      · rfl
      · show (bG (nn, mrg M)).length + 0 = _
        exact Nat.add_zero _
    rw [h2]
    omega
theorem take3 {α : Type} (l : List α) (i j : Nat) (h1 : i < j) (h2 : j < l.length) : ∃ A B C, l = A ++ (B ++ C) ∧ i = A.length ∧ j + 1 = A.length + B.length := by
  refine ⟨l.take i, (l.drop i).take (j + 1 - i), (l.drop i).drop (j + 1 - i), ?_, ?_, ?_⟩
  · rw [List.take_append_drop, List.take_append_drop]
  · rw [List.length_take]; omega
  · rw [List.length_take, List.length_take, List.length_drop]; omega
theorem lc_merge {i d k b nb x m ou : Nat} {xs : Nat → Int32} {G : pm_G} {h : pm_S} {Q : pm_Q} {u5 u6 : Option Value} (J : lJ G b nb xs x m ou k h) (hd : 30 ≤ d) (hi : i + 2 < nb) (hnb : nb ≤ 1537) (hk : k < 512) (K : ∀ u5 u6 h', lJ G b nb xs x m ou (k + 1) h' → ps_X G d 140 836 [some (.ref b), some (.ref x), some (.ref m), some (.ref ou), some (iN i), u5, u6] [] h' Q) : ps_X G d 140 317 [some (.ref b), some (.ref x), some (.ref m), some (.ref ou), some (iN i), u5, u6] [] h Q := by
  obtain ⟨o, dr, pi, pg, ba, kD, lD, rD, kP, lP, rP, room, nn, pw, ts, ps, bx, Ss, Lb, tw, dc, li, sz, aD, aK, aL, aT, aS, aX, aM, aC, aN, aO, aQ, aB, aV, aH, X, S, E, n1, n2⟩ := J
  have X' := X
  obtain ⟨X0, ⟨pf, bf', x1, _⟩, _⟩ := X'
  obtain ⟨fm, m1⟩ := ls_mo S
  have E' := E
  obtain ⟨⟨E1, E2, E3⟩, E4, ⟨E5, E6, E7⟩, ⟨E8, E9, E10, E11, E12⟩, ⟨E13, E14⟩, E15, I⟩ := E'
  have hb1 := S.2.2.2.2.2.1
  have hgm := S.2.2.2.1
  have hgo := S.2.2.2.2.1.2.2
  obtain ⟨f1, f2, f3⟩ := inv_facts I E13 E14
  have hz0 := I.2.1
  have hdc := rS_dc E13
  have hu := used_eq E15
  have hui := I.2.2.2.2.2.2.1
  have hr8 := I.2.2.2.2.2.2.2.2.2
  have hli := I.2.2.2.2.2.2.2.2.1
  have hseg := inv_seg I
  have hl0 := rS_l0 I E13
  have hgs14 : ∀ g ∈ Ss.map gS, srt 0 (g.2.map (·.1)) ∧ (bG g).length ≤ 1400 := fun g hg => ⟨(hseg g hg).1, by have := (hseg g hg).2; omega⟩
  first | refine ps_s_al p140_317 rfl ?_ | refine ps_s_aln p140_317 rfl ?_
  first | refine ps_s_al p140_318 rfl ?_ | refine ps_s_aln p140_318 rfl ?_
  refine ps_s_il p140_319 rfl ?_
  refine ps_s_k p140_321 ?_
  first | refine ps_s_add p140_322 ?_ | refine ps_s_2 p140_322 ?_
  refine ps_s_iav p140_323 hb1 rfl (by omega) (by omega) ?_
  first | refine ps_s_al p140_324 rfl ?_ | refine ps_s_aln p140_324 rfl ?_
  refine ps_s_il p140_325 rfl ?_
  refine ps_s_k p140_327 ?_
  first | refine ps_s_add p140_328 ?_ | refine ps_s_2 p140_328 ?_
  refine ps_s_iav p140_329 hb1 rfl (by omega) (by omega) ?_
  refine ps_s_al p140_330 rfl ?_
  by_cases hgood : ∃ i0 j0 : Nat, xs (i + 1) = Int32.ofNat i0 ∧ xs (i + 2) = Int32.ofNat j0 ∧ i0 < j0 ∧ j0 < Ss.length
  · obtain ⟨i0, j0, e1, e2, hij, hj⟩ := hgood
    obtain ⟨SL, SM, SR, hS, hi0, hj0⟩ := take3 Ss i0 j0 hij hj
    have hndS := (List.pairwise_append.mp (cx_nd X I)).1
    have hsg : Ss.map gS = SL.map gS ++ (SM.map gS ++ SR.map gS) := by rw [hS, List.map_append, List.map_append]
    have hmr := inv_mrg I hsg
    have hdl : (SM.flatMap dS).length ≤ 1000 := by
      have := congrArg List.length (fl_gS SM)
      rw [List.length_map] at this
      omega
    have hkp : ∀ S' ∈ Ss, kpF 0 S' = true := by
      intro S' hS'
      unfold kpF
      rw [kc_any]
      obtain ⟨y, hy, e⟩ := I.2.2.2.2.1 (gS S') (List.mem_map.mpr ⟨S', hS', rfl⟩)
      refine List.any_eq_true.mpr ⟨y, hy, ?_⟩
      rw [gnD0, e]
      rfl
    have hSMl : SM.length = j0 + 1 - i0 := by omega
    obtain ⟨S0, SM', hSM⟩ : ∃ S0 SM', SM = S0 :: SM' := by
      cases hq : SM with
      | nil => rw [hq] at hSMl; exact absurd hSMl (by show ¬ (0 = _); omega)
      | cons a l => exact ⟨a, l, rfl⟩
    have hll : (lG 0 (SL.map gS ++ (mgN (nn + 1) (SM.map gS) ++ SR.map gS))).length ≤ 1400 := by
      refine lG_up 0 _ ?_ (fun g hg => ?_) ?_
      · rw [List.length_append, List.length_append, List.length_map, List.length_map]
        have := mg_len (nn + 1) (SM.map gS)
        have hSl : Ss.length = SL.length + (SM.length + SR.length) := by rw [hS, List.length_append, List.length_append]
        omega
      · have hnum := rS_num E13
        rw [hsg] at hnum
        rcases List.mem_append.mp hg with hg | hg
        · have := hnum g (List.mem_append_left _ hg); omega
        · rcases List.mem_append.mp hg with hg | hg
          · unfold mgN at hg
            split at hg
            · cases hg
            · rw [List.mem_singleton.mp hg]
              show nn + 1 < _
              omega
          · have := hnum g (List.mem_append_right _ (List.mem_append_right _ hg)); omega
      · rw [List.flatMap_append, List.flatMap_append, mg_flat, List.length_append, List.length_append]
        have h1 : (mrg (SM.map gS)).length ≤ ((SM.map gS).flatMap (·.2)).length := List.length_filter_le _ _
        rw [hsg, List.flatMap_append, List.flatMap_append, List.length_append, List.length_append] at hdc
        omega
    have hc1 : SM.map gS = gS S0 :: SM'.map gS := by rw [hSM]; rfl
    have hplM := plM_eq nn SL SM SR
    have hmgC := mgC_eq nn SL SM SR
    have E13r : rS (SL.map gS ++ ((gS S0 :: SM'.map gS) ++ SR.map gS)) dc Ss.length aK aL aT aS aX aM aN := by rw [← hc1, ← hsg]; exact E13
    have hMl : i0 + (gS S0 :: SM'.map gS).length = j0 + 1 := by rw [← hc1, List.length_map]; omega
    have hl0r : (lG 0 (SL.map gS ++ ((gS S0 :: SM'.map gS) ++ SR.map gS))).length ≤ 1400 := by rw [← hc1, ← hsg]; exact hl0
    have hllr : (lG 0 (SL.map gS ++ (mgN (nn + 1) (gS S0 :: SM'.map gS) ++ SR.map gS))).length ≤ 1400 := by rw [← hc1]; exact hll
    have hgsr : ∀ g ∈ SL.map gS ++ ((gS S0 :: SM'.map gS) ++ SR.map gS), srt 0 (g.2.map (·.1)) ∧ (bG g).length ≤ 1400 := by rw [← hc1, ← hsg]; exact hgs14
    have hbsr : srt 0 ((mrg (gS S0 :: SM'.map gS)).map (·.1)) := by rw [← hc1]; exact hmr.1
    have hblr : (sB ((mrg (gS S0 :: SM'.map gS)).map (·.1))).length ≤ 1400 := by rw [← hc1]; exact hmr.2.1
    have hur : uG li (SL.map gS ++ ((gS S0 :: SM'.map gS) ++ SR.map gS)) ≤ room := by rw [← hc1, ← hsg]; exact hui
    rw [e1, e2]
    refine ps_s_vS [_, _, _, _] _ p140_331 rfl rfl rfl rfl (hl_71 (R1 := fun c h' => c = 1 ∧ room - (Lb.length + (Ss.map (fun S => (bG (gS S)).length)).sum) < mgC nn SL SM SR ∧ ∃ (h1 : pm_S) (o' : Nat → Nat) (c s : Nat), h' = pm_gap h1 6 ∧ cF G (cU h) h o h1 o' c s ∧ c ≤ 1100 ∧ s ≤ 12000 ∧ (cX G (o') (h1) x dr pi pg ba kD lD rD kP lP rP room nn pw ts ps bx Ss Lb)) (R2 := fun v h' => ¬ room - (Lb.length + (Ss.map (fun S => (bG (gS S)).length)).sum) < mgC nn SL SM SR ∧ ∃ (o' : Nat → Nat) (c s : Nat), cF G (cU h) h o h' o' c s ∧ c ≤ 1100 ∧ s ≤ 12000 ∧ ((v = -1 ∧ cutB pw (mgC nn SL SM SR) = true ∧ (cX G (o') (h') x dr pi pg ba kD lD rD kP lP rP room nn (none) ([]) ps ([]) (Ss.map (mpS spD)) Lb)) ∨ (v = Int32.ofNat (mgC nn SL SM SR) ∧ cutB pw (mgC nn SL SM SR) = false ∧ ∃ (Zs : List cS), Zs.map gS = plM nn SL SM SR ∧ cX G o' h' x dr pi pg ba kP lP rP kD lD rD room (if sbM SM = 0 then nn else nn + 1) (pw.map (· - mgC nn SL SM SR)) ts ps bx Zs (lG 0 (plM nn SL SM SR))))) x1 (fun c h' r => .inr r.1) (fun Q' T V => x_merge X hS hi0 hj0 hij f2 (by omega) hr8 (by omega) (fun S' hS' => by have := (hseg (gS S') (List.mem_map.mpr ⟨S', hS', rfl⟩)).2; omega) (by omega) hkp hdl (by rw [mr_docs]; exact hmr.1) (by rw [mr_docs]; exact hmr.2.1) (by rw [hplM]; exact hll) hndS (fun q h1 o' c s F hc hs X' => T 1 _ ⟨rfl, q, h1, o', c, s, rfl, F, hc, hs, X'⟩) (fun q1 q2 h1 o' c s F hc hs X' => V _ _ ⟨q1, o', c, s, F, hc, hs, .inl ⟨rfl, q2, X'⟩⟩) (fun q1 q2 h1 o' c s Zs F hc hs hZ X' => V _ _ ⟨q1, o', c, s, F, hc, hs, .inr ⟨rfl, q2, Zs, hZ, X'⟩⟩)) hgo (fun v h' r => by obtain ⟨_, o', c, s, F, _⟩ := r; exact ls_oe (ls_U S F)) (fun h' r => absurd r.1 (by decide)) (fun h' r => ps_bki ?_) (fun v h' g r e => ps_bki ?_) d (by omega))
    · obtain ⟨_, r2, h1, o', c, s, rfl, F, hc, hs, X1⟩ := r
      obtain ⟨X2, S2⟩ := lg_thr (e := 6) X1 (ls_U S F)
      obtain ⟨fm1, m2⟩ := ls_mo S2
      have hF := F.2.2
      rw [hu, hmgC, hsg, hc1] at r2
      refine ps_s_is5 p140_334 ?_
      first | refine ps_s_al p140_336 rfl ?_ | refine ps_s_aln p140_336 rfl ?_
      first | refine ps_s_al p140_337 rfl ?_ | refine ps_s_aln p140_337 rfl ?_
      refine ps_s_il p140_338 rfl ?_
      refine ps_s_k p140_340 ?_
      first | refine ps_s_add p140_341 ?_ | refine ps_s_2 p140_341 ?_
      refine ps_s_iav p140_342 S2.2.2.2.2.2.1 rfl (by omega) (by omega) ?_
      first | refine ps_s_al p140_343 rfl ?_ | refine ps_s_aln p140_343 rfl ?_
      refine ps_s_il p140_344 rfl ?_
      refine ps_s_k p140_346 ?_
      first | refine ps_s_add p140_347 ?_ | refine ps_s_2 p140_347 ?_
      refine ps_s_iav p140_348 S2.2.2.2.2.2.1 rfl (by omega) (by omega) ?_
      rw [e1, e2]
      refine ps_s_vV [_, _] _ p140_349 rfl m2 rfl rfl rfl (ls_Mr S2 (rf_merge hgm E13r (by rw [List.length_map]; exact hi0.symm) hMl hij hj (by omega) (by omega) (by omega) hli E3 hr8 rfl E4 hl0r hllr hgsr hbsr hblr hur (fun _ aC aO sz hC hsz => ps_bki ?_) (fun q => absurd r2 q) (fun q => absurd r2 q)) d (by omega))
      refine ps_s_is6 p140_352 ?_
      exact tl_354 (by omega) rfl (by omega) hgo (fun e => absurd e (by decide)) (K _ _ _ (lj_ref X2 S2 ⟨⟨Nat.le_succ_of_le E1, hsz, hC⟩, E.2⟩ (by show h1.2.1 + 1 ≤ _; omega) (by show h1.2.2 + 6 ≤ _; omega)))
    · obtain ⟨r2, o', c, s, F, hc, hs, r3⟩ := r
      have hF := F.2.2
      have r2c := r2
      rw [hu, hmgC] at r2c
      rw [hu, hmgC, hsg, hc1] at r2
      rcases r3 with ⟨rfl, r4, X1⟩ | ⟨rfl, r4, Zs, hZ, X1⟩
      · obtain ⟨X2, S2⟩ := lg_ok (g' := vp_updL g 0 (-1 : Int32).toInt64) X1 (ls_U S F) e
        obtain ⟨fm1, m2⟩ := ls_mo S2
        rw [hmgC, hc1] at r4
        refine ps_s_is5 p140_334 ?_
        first | refine ps_s_al p140_336 rfl ?_ | refine ps_s_aln p140_336 rfl ?_
        first | refine ps_s_al p140_337 rfl ?_ | refine ps_s_aln p140_337 rfl ?_
        refine ps_s_il p140_338 rfl ?_
        refine ps_s_k p140_340 ?_
        first | refine ps_s_add p140_341 ?_ | refine ps_s_2 p140_341 ?_
        refine ps_s_iav p140_342 S2.2.2.2.2.2.1 rfl (by omega) (by omega) ?_
        first | refine ps_s_al p140_343 rfl ?_ | refine ps_s_aln p140_343 rfl ?_
        refine ps_s_il p140_344 rfl ?_
        refine ps_s_k p140_346 ?_
        first | refine ps_s_add p140_347 ?_ | refine ps_s_2 p140_347 ?_
        refine ps_s_iav p140_348 S2.2.2.2.2.2.1 rfl (by omega) (by omega) ?_
        rw [e1, e2]
        refine ps_s_vV [_, _] _ p140_349 rfl m2 rfl rfl rfl (ls_Mr S2 (rf_merge hgm E13r (by rw [List.length_map]; exact hi0.symm) hMl hij hj (by omega) (by omega) (by omega) hli E3 hr8 rfl E4 hl0r hllr hgsr hbsr hblr hur (fun q => absurd q r2) (fun _ _ aC aO sz hC hsz => ps_bki ?_) (fun _ q => by rw [r4] at q; cases q)) d (by omega))
        have hlS : (Ss.map (mpS spD)).length = Ss.length := List.length_map _
        have J' := lj_ref (tw := 0) X2 S2 (rel_cut (aO' := aO) E hC hsz) (by show h'.2.1 ≤ _; omega) (by show h'.2.2 ≤ _; omega)
        rw [hlS] at J'
        refine ps_s_is6 p140_352 ?_
        exact tl_354 (by omega) rfl (by omega) hgo (fun _ => ⟨_, rf_out X2.1.1 S2 (rL_kd ..) pp_eq, out0 _ _⟩) (K _ _ _ J')
      · obtain ⟨X2, S2⟩ := lg_ok (g' := vp_updL g 0 (Int32.ofNat (mgC nn SL SM SR)).toInt64) X1 (ls_U S F) e
        obtain ⟨fm1, m2⟩ := ls_mo S2
        have hmgr : mgB (nn + 1) (SL.map gS) (gS S0 :: SM'.map gS) (SR.map gS) = mgC nn SL SM SR := by rw [hmgC, hc1]
        rw [← hmgr] at r4
        refine ps_s_is5 p140_334 ?_
        first | refine ps_s_al p140_336 rfl ?_ | refine ps_s_aln p140_336 rfl ?_
        first | refine ps_s_al p140_337 rfl ?_ | refine ps_s_aln p140_337 rfl ?_
        refine ps_s_il p140_338 rfl ?_
        refine ps_s_k p140_340 ?_
        first | refine ps_s_add p140_341 ?_ | refine ps_s_2 p140_341 ?_
        refine ps_s_iav p140_342 S2.2.2.2.2.2.1 rfl (by omega) (by omega) ?_
        first | refine ps_s_al p140_343 rfl ?_ | refine ps_s_aln p140_343 rfl ?_
        refine ps_s_il p140_344 rfl ?_
        refine ps_s_k p140_346 ?_
        first | refine ps_s_add p140_347 ?_ | refine ps_s_2 p140_347 ?_
        refine ps_s_iav p140_348 S2.2.2.2.2.2.1 rfl (by omega) (by omega) ?_
        rw [e1, e2]
        refine ps_s_vV [_, _] _ p140_349 rfl m2 rfl rfl rfl (ls_Mr S2 (rf_merge hgm E13r (by rw [List.length_map]; exact hi0.symm) hMl hij hj (by omega) (by omega) (by omega) hli E3 hr8 rfl E4 hl0r hllr hgsr hbsr hblr hur (fun q => absurd q r2) (fun _ q => by rw [r4] at q; cases q) (fun _ _ aC aO sz hC hsz aK' aL' aT' aS' aX' aM' aN' dc' cn' hS' hrw hdc' => ps_bki ?_)) d (by omega))
        rw [← hc1] at hS'
        have hZg : Zs.map gS = SL.map gS ++ (mgN (nn + 1) (SM.map gS) ++ SR.map gS) := by rw [hZ, hplM]
        rw [← hZg] at hS'
        have hcn : cn' = Zs.length := by have := hS'.2.2.2.1; rw [List.length_map] at this; exact this
        have I' : inv 1 room (Zs.map gS) (bx.map (·.2)) := by
          rw [hZg]
          have hI := I
          rw [hsg] at hI r2c
          exact inv_mg hI (by rw [List.length_map]; omega) r2c
        have hnn2 : (if sbM SM = 0 then nn else nn + 1) + 1 = (if mrg (gS S0 :: SM'.map gS) = [] then nn + 1 else nn + 1 + 1) := by
          rw [← hc1]
          by_cases q : mrS SM = []
          · have : sbM SM = 0 := by unfold sbM; rw [if_pos q]
            rw [if_pos this, if_pos (mr_nil.mpr q)]
          · have : ¬ sbM SM = 0 := by
              unfold sbM
              rw [if_neg q, sB_len]
              have := vl_pos ((mrS SM).map (·.2.1)).length
              omega
            rw [if_neg this, if_neg (fun e => q (mr_nil.mp e))]
        have hLb : lG 0 (plM nn SL SM SR) = if 1 = 1 then lG 0 (Zs.map gS) else [] := by rw [if_pos rfl, hZ]
        have hB' : rB (bx.map (·.2.1)) dc' bx.length aK' aL' aT' aS' aX' aM' := ⟨E14.1, by rw [hrw]; exact E14.2⟩
        have E' : (rel (k + 1) room (if sbM SM = 0 then nn else nn + 1) (pw.map (· - mgC nn SL SM SR)) ts ps bx Zs (lG 0 (plM nn SL SM SR)) dc' 1 sz aD aK' aL' aT' aS' aX' aM' aC aN' aO aQ aB aV aH) := by
          refine ⟨⟨by split <;> omega, hsz, hC⟩, fun p hp => ?_, ⟨E5, E6, E7⟩, E.2.2.2.1, ⟨by rw [← hcn]; exact hS', hB'⟩, hLb, I'⟩
          cases hpw : pw with
          | none => rw [hpw] at hp; cases hp
          | some p0 =>
            rw [hpw] at hp
            have := E4 p0 hpw
            have hp' : p0 - _ = p := Option.some.inj hp
            omega
        have J' := lj_ref (tw := 0) X2 S2 E' (by show h'.2.1 ≤ _; omega) (by show h'.2.2 ≤ _; omega)
        rw [← hcn, hnn2] at J'
        rw [hmgr]
        refine ps_s_is6 p140_352 ?_
        exact tl_354 (by omega) rfl (by omega) hgo (fun _ => ⟨_, rf_out X2.1.1 S2 (rL_kd ..) pp_eq, out0 _ _⟩) (K _ _ _ J')
  · refine ps_s_vS [_, _, _, _] _ p140_331 rfl rfl rfl rfl (hl_71 (R1 := fun c h' => c = 0 ∧ h' = pm_gap h 6) (R2 := fun _ _ => False) x1 (fun c h' r => .inl r.1) (fun Q' T V => x_merge_bad X f2 hgood (T 0 _ ⟨rfl, rfl⟩)) hgo (fun v h' r => r.elim) (fun h' r => ps_bki ?_) (fun h' r => absurd r.1 (by decide)) (fun v h' g r => r.elim) d (by omega))
    obtain ⟨_, rfl⟩ := r
    obtain ⟨X1, S1⟩ := lg_thr (e := 6) X S
    obtain ⟨fm1, m2⟩ := ls_mo S1
    refine ps_s_is5 p140_334 ?_
    first | refine ps_s_al p140_336 rfl ?_ | refine ps_s_aln p140_336 rfl ?_
    first | refine ps_s_al p140_337 rfl ?_ | refine ps_s_aln p140_337 rfl ?_
    refine ps_s_il p140_338 rfl ?_
    refine ps_s_k p140_340 ?_
    first | refine ps_s_add p140_341 ?_ | refine ps_s_2 p140_341 ?_
    refine ps_s_iav p140_342 S1.2.2.2.2.2.1 rfl (by omega) (by omega) ?_
    first | refine ps_s_al p140_343 rfl ?_ | refine ps_s_aln p140_343 rfl ?_
    refine ps_s_il p140_344 rfl ?_
    refine ps_s_k p140_346 ?_
    first | refine ps_s_add p140_347 ?_ | refine ps_s_2 p140_347 ?_
    refine ps_s_iav p140_348 S1.2.2.2.2.2.1 rfl (by omega) (by omega) ?_
    refine ps_s_vV [_, _] _ p140_349 rfl m2 rfl rfl rfl (ls_Mr S1 (rf_merge_bad hgm (by omega) hgood (ps_bki ?_)) d (by omega))
    refine ps_s_is6 p140_352 ?_
    exact tl_354 (by omega) rfl (by omega) hgo (fun e => absurd e (by decide)) (K _ _ _ (lj_ref X1 S1 (rel_k E (Nat.le_succ _)) (by show h.2.1 + 1 ≤ _; omega) (by show h.2.2 + 6 ≤ _; omega)))
