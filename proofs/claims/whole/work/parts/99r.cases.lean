/-! The law's cases: at, free, fail, type. -/
theorem sl_mem (f : Nat → Nat) : ∀ n d z, z ∈ sl f d n → ∃ j, f j = z := by
  intro n
  induction n with
  | zero => intro d z h; cases h
  | succ n ih =>
    intro d z h
    rcases List.mem_cons.mp h with rfl | h
    · exact ⟨d, rfl⟩
    · exact ih _ _ h
theorem rS_num {sg : List pG} {dc cn : Nat} {aK aL aT aS aX aM aN : Nat → Nat} (h : rS sg dc cn aK aL aT aS aX aM aN) : ∀ g ∈ sg, g.1 < 1000 := by
  intro g hg
  have hm : g.1 ∈ sg.map (·.1) := List.mem_map.mpr ⟨g, hg, rfl⟩
  rw [← h.2.2.2.2] at hm
  obtain ⟨j, hj⟩ := sl_mem _ _ _ _ hm
  have := h.2.1 j
  omega
theorem rS_l0 {li room : Nat} {sg : List pG} {bq : List pD} {dc cn : Nat} {aK aL aT aS aX aM aN : Nat → Nat} (I : inv li room sg bq) (h : rS sg dc cn aK aL aT aS aX aM aN) : (lG 0 sg).length ≤ 1400 := by
  have h1 := inv_docs I
  obtain ⟨⟨_, h3⟩, _, _, _, _, _, _, _, _, h4⟩ := I
  exact lG_up 0 sg (by omega) (fun g hg => by have := rS_num h g hg; omega) (by omega)
theorem used_eq {li : Nat} {Lb : List Nat} {Ss : List cS} (h : Lb = if li = 1 then lG 0 (Ss.map gS) else []) : Lb.length + (Ss.map (fun S => (bG (gS S)).length)).sum = uG li (Ss.map gS) := by
  unfold uG
  rw [h, List.map_map]
  split
  · rfl
  · rfl
theorem sl_snoc (f : Nat → Nat) (v : Nat) : ∀ n, sl (va_up f n v) 0 (n + 1) = sl f 0 n ++ [v] := by
  intro n
  rw [sl_app]
  congr 1
  · refine sl_congr n 0 (fun j _ hj => ?_)
    show (if j = n then v else f j) = f j
    rw [if_neg (by omega)]
  · show [if 0 + n = n then v else f (0 + n)] = [v]
    rw [if_pos (by omega)]
theorem lc_at {i d k b nb x m ou : Nat} {xs : Nat → Int32} {G : pm_G} {h : pm_S} {Q : pm_Q} {u5 u6 : Option Value} (J : lJ G b nb xs x m ou k h) (hd : 30 ≤ d) (hi : i + 2 < nb) (hnb : nb ≤ 1537) (hk : k < 512) (K : ∀ u5 u6 h', lJ G b nb xs x m ou (k + 1) h' → ps_X G d 140 836 [some (.ref b), some (.ref x), some (.ref m), some (.ref ou), some (iN i), u5, u6] [] h' Q) : ps_X G d 140 786 [some (.ref b), some (.ref x), some (.ref m), some (.ref ou), some (iN i), u5, u6] [] h Q := by
  obtain ⟨o, dr, pi, pg, ba, kD, lD, rD, kP, lP, rP, room, nn, pw, ts, ps, bx, Ss, Lb, tw, dc, li, sz, aD, aK, aL, aT, aS, aX, aM, aC, aN, aO, aQ, aB, aV, aH, X, S, E, n1, n2⟩ := J
  have X' := X
  obtain ⟨X0, ⟨pf, bf', x1, _⟩, _⟩ := X'
  obtain ⟨fm, m1⟩ := ls_mo S
  have E' := E
  obtain ⟨⟨E1, E2, E3⟩, E4, ⟨E5, E6, E7⟩, ⟨E8, E9, E10, E11, E12⟩, ⟨E13, E14⟩, E15, I⟩ := E'
  have hb1 := S.2.2.2.2.2.1
  have hgm := S.2.2.2.1
  have hgo := S.2.2.2.2.1.2.2
  obtain ⟨f1, f2, f3⟩ := inv_facts I E13 E14
  have hsel := sel_eq E15 (xs (i + 1))
  have hseg := inv_seg I
  have hl0 := rS_l0 I E13
  have hLb : Lb.length ≤ 800 := by
    have h1 := used_eq E15
    have h2 := I.2.2.2.2.2.2.1
    have h3 := I.2.2.2.2.2.2.2.2.2
    omega
  have go : ∀ v : Int32, v = (match selB li (Ss.map gS) (xs (i + 1)) with
      | none => -2
      | some B => if xs (i + 2) < 0 ∨ B.length ≤ (xs (i + 2)).toNatClampNeg then -2 else Int32.ofNat (B.getD (xs (i + 2)).toNatClampNeg 0)) → ps_X G d 140 802 [some (.ref b), some (.ref x), some (.ref m), some (.ref ou), some (iN i), u5, u6] [.int v] h Q := by
    intro v hv
    first | refine ps_s_al p140_802 rfl ?_ | refine ps_s_aln p140_802 rfl ?_
    first | refine ps_s_al p140_803 rfl ?_ | refine ps_s_aln p140_803 rfl ?_
    refine ps_s_il p140_804 rfl ?_
    refine ps_s_k p140_806 ?_
    first | refine ps_s_add p140_807 ?_ | refine ps_s_2 p140_807 ?_
    refine ps_s_iav p140_808 hb1 rfl (by omega) (by omega) ?_
    first | refine ps_s_al p140_809 rfl ?_ | refine ps_s_aln p140_809 rfl ?_
    refine ps_s_il p140_810 rfl ?_
    refine ps_s_k p140_812 ?_
    first | refine ps_s_add p140_813 ?_ | refine ps_s_2 p140_813 ?_
    refine ps_s_iav p140_814 hb1 rfl (by omega) (by omega) ?_
    refine ps_s_vV [_, _] _ p140_815 rfl m1 rfl rfl rfl (ls_Mr S (rf_at hgm E13 (by omega) (by omega) I.2.2.2.2.2.2.2.2.1 E3 hl0 (fun g hg => ⟨(hseg g hg).1, by have := (hseg g hg).2; omega⟩) E2 (fun aC aO sz hC hs => ps_bki ?_)) d (by omega))
    refine ps_s_j p140_818 (fun _ => ?_) (fun c => absurd hv (of_decide_eq_false c))
    exact K _ _ _ (lj_ref X S ⟨⟨Nat.le_succ_of_le E1, hs, hC⟩, E.2⟩ (by omega) (by omega))
  first | refine ps_s_al p140_786 rfl ?_ | refine ps_s_aln p140_786 rfl ?_
  first | refine ps_s_al p140_787 rfl ?_ | refine ps_s_aln p140_787 rfl ?_
  refine ps_s_il p140_788 rfl ?_
  refine ps_s_k p140_790 ?_
  first | refine ps_s_add p140_791 ?_ | refine ps_s_2 p140_791 ?_
  refine ps_s_iav p140_792 hb1 rfl (by omega) (by omega) ?_
  first | refine ps_s_al p140_793 rfl ?_ | refine ps_s_aln p140_793 rfl ?_
  refine ps_s_il p140_794 rfl ?_
  refine ps_s_k p140_796 ?_
  first | refine ps_s_add p140_797 ?_ | refine ps_s_2 p140_797 ?_
  refine ps_s_iav p140_798 hb1 rfl (by omega) (by omega) ?_
  refine ps_s_vV [_, _] _ p140_799 rfl x1 rfl rfl rfl (x_at X (by omega) hLb (fun S' hS' => by have := (hseg (gS S') (List.mem_map.mpr ⟨S', hS', rfl⟩)).2; omega) (fun q => ps_bki ?_) (fun l n q1 q2 q3 => ps_bki ?_) d (by omega))
  · refine go _ ?_
    rw [hsel] at q
    cases hs : selB li (Ss.map gS) (xs (i + 1)) with
    | none => rfl
    | some B =>
      dsimp only
      rw [if_pos]
      rcases q with q | q
      · rw [hs] at q; cases q
      · exact q B hs
  · refine go _ ?_
    rw [← hsel, q1]
    have hl8 : l.length ≤ 800 := by
      unfold selC at q1
      split at q1
      · cases q1; exact hLb
      · split at q1
        · cases q1
        · cases hg : Ss[(xs (i + 1)).toNatClampNeg]? with
          | none => rw [hg] at q1; cases q1
          | some S' =>
            rw [hg] at q1
            cases q1
            exact (hseg (gS S') (List.mem_map.mpr ⟨S', List.mem_of_getElem? hg, rfl⟩)).2
    dsimp only
    rw [q2, i_cl (by omega), if_neg (fun e => e.elim (i_ge0 (by omega)) (by omega))]
theorem lc_free {i d k b nb x m ou : Nat} {xs : Nat → Int32} {G : pm_G} {h : pm_S} {Q : pm_Q} {u5 u6 : Option Value} (J : lJ G b nb xs x m ou k h) (hd : 30 ≤ d) (hi : i + 2 < nb) (hnb : nb ≤ 1537) (hk : k < 512) (K : ∀ u5 u6 h', lJ G b nb xs x m ou (k + 1) h' → ps_X G d 140 836 [some (.ref b), some (.ref x), some (.ref m), some (.ref ou), some (iN i), u5, u6] [] h' Q) : ps_X G d 140 823 [some (.ref b), some (.ref x), some (.ref m), some (.ref ou), some (iN i), u5, u6] [] h Q := by
  obtain ⟨o, dr, pi, pg, ba, kD, lD, rD, kP, lP, rP, room, nn, pw, ts, ps, bx, Ss, Lb, tw, dc, li, sz, aD, aK, aL, aT, aS, aX, aM, aC, aN, aO, aQ, aB, aV, aH, X, S, E, n1, n2⟩ := J
  have X' := X
  obtain ⟨X0, ⟨pf, bf', x1, _⟩, _⟩ := X'
  obtain ⟨fm, m1⟩ := ls_mo S
  have E' := E
  obtain ⟨⟨E1, E2, E3⟩, E4, ⟨E5, E6, E7⟩, ⟨E8, E9, E10, E11, E12⟩, ⟨E13, E14⟩, E15, I⟩ := E'
  have hb1 := S.2.2.2.2.2.1
  have hgm := S.2.2.2.1
  have hgo := S.2.2.2.2.1.2.2
  obtain ⟨f1, f2, f3⟩ := inv_facts I E13 E14
  have hseg := inv_seg I
  have hu := used_eq E15
  have hui := I.2.2.2.2.2.2.1
  have hr8 := I.2.2.2.2.2.2.2.2.2
  have hli := I.2.2.2.2.2.2.2.2.1
  have hl0 := rS_l0 I E13
  have hus := rS_us (li := li) E13
  have E13' := E13
  obtain ⟨⟨bK, bL, bT, bS, bX, bM⟩, hN, _⟩ := E13'
  have hlB := rS_lB (li := li) E13
  have hsg : ∀ s, s < Ss.length → srt 0 (sdo aK aL aT aS s 0 dc) ∧ (sB (sdo aK aL aT aS s 0 dc)).length ≤ 1400 := by
    intro s hs
    have e : sdo aK aL aT aS s 0 dc = (((Ss.map gS).map (·.2)).getD s []).map (·.1) := sdo_flat E13.2.2.1 (by rw [List.length_map, List.length_map]; exact hs)
    have e2 : ((Ss.map gS).map (·.2)).getD s [] = ((Ss.map gS)[s]'(by rw [List.length_map]; exact hs)).2 := by
      rw [List.getD_eq_getElem?_getD, List.getElem?_map, List.getElem?_eq_getElem (by rw [List.length_map]; exact hs)]
      rfl
    have h3 := hseg ((Ss.map gS)[s]'(by rw [List.length_map]; exact hs)) (List.getElem_mem _)
    rw [e, e2]
    exact ⟨h3.1, by have := h3.2; unfold bG at this; omega⟩
  refine ps_s_al p140_823 rfl ?_
  refine ps_s_vV [] _ p140_824 rfl x1 rfl rfl rfl (x_free X (by omega) (by omega) (fun S' hS' => by have := (hseg (gS S') (List.mem_map.mpr ⟨S', hS', rfl⟩)).2; omega) (by omega) (ps_bki ?_) d (by omega))
  refine ps_s_al p140_827 rfl ?_
  refine ps_s_vV [] _ p140_828 rfl m1 rfl rfl rfl (ls_Mr S (rf_free hgm (by omega) hli (by omega) bK bL bT bS bX bM E3 hN (by rw [hlB]; split <;> (try omega); exact Nat.zero_le _) hsg (by omega) (fun aC aO sz hC hs => ps_bki ?_)) d (by omega))
  rw [hu, hus]
  refine ps_s_eq p140_831 (by omega) (by omega) (fun c831 => ?_) (fun c831 => ?_)
  · exact K _ _ _ (lj_ref X S ⟨⟨Nat.le_succ_of_le E1, hs, hC⟩, E.2⟩ (by omega) (by omega))
  · exact absurd rfl c831
theorem lc_fail {i d k b nb x m ou : Nat} {xs : Nat → Int32} {G : pm_G} {h : pm_S} {Q : pm_Q} {u5 u6 : Option Value} (J : lJ G b nb xs x m ou k h) (hd : 30 ≤ d) (hi : i + 2 < nb) (hnb : nb ≤ 1537) (hk : k < 512) (K : ∀ u5 u6 h', lJ G b nb xs x m ou (k + 1) h' → ps_X G d 140 836 [some (.ref b), some (.ref x), some (.ref m), some (.ref ou), some (iN i), u5, u6] [] h' Q) : ps_X G d 140 385 [some (.ref b), some (.ref x), some (.ref m), some (.ref ou), some (iN i), u5, u6] [] h Q := by
  obtain ⟨o, dr, pi, pg, ba, kD, lD, rD, kP, lP, rP, room, nn, pw, ts, ps, bx, Ss, Lb, tw, dc, li, sz, aD, aK, aL, aT, aS, aX, aM, aC, aN, aO, aQ, aB, aV, aH, X, S, E, n1, n2⟩ := J
  have X' := X
  obtain ⟨X0, ⟨pf, bf', x1, _⟩, _⟩ := X'
  obtain ⟨fm, m1⟩ := ls_mo S
  have E' := E
  obtain ⟨⟨E1, E2, E3⟩, E4, ⟨E5, E6, E7⟩, ⟨E8, E9, E10, E11, E12⟩, ⟨E13, E14⟩, E15, I⟩ := E'
  have hb1 := S.2.2.2.2.2.1
  have hgm := S.2.2.2.1
  have hgo := S.2.2.2.2.1.2.2
  obtain ⟨f1, f2, f3⟩ := inv_facts I E13 E14
  first | refine ps_s_al p140_385 rfl ?_ | refine ps_s_aln p140_385 rfl ?_
  first | refine ps_s_al p140_386 rfl ?_ | refine ps_s_aln p140_386 rfl ?_
  refine ps_s_il p140_387 rfl ?_
  refine ps_s_k p140_389 ?_
  first | refine ps_s_add p140_390 ?_ | refine ps_s_2 p140_390 ?_
  refine ps_s_iav p140_391 hb1 rfl (by omega) (by omega) ?_
  refine ps_s_vV [_] _ p140_392 rfl x1 rfl rfl rfl (x_fail X (fun q => ps_bki ?_) (fun p hp q h1 F X1 => ps_bki ?_) d (by omega))
  · first | refine ps_s_al p140_395 rfl ?_ | refine ps_s_aln p140_395 rfl ?_
    first | refine ps_s_al p140_396 rfl ?_ | refine ps_s_aln p140_396 rfl ?_
    refine ps_s_il p140_397 rfl ?_
    refine ps_s_k p140_399 ?_
    first | refine ps_s_add p140_400 ?_ | refine ps_s_2 p140_400 ?_
    refine ps_s_iav p140_401 hb1 rfl (by omega) (by omega) ?_
    refine ps_s_vV [_] _ p140_402 rfl m1 rfl rfl rfl (ls_Mr S (rf_fail hgm (fun _ => ps_bki ?_) (fun q2 => absurd q q2)) d (by omega))
    refine ps_s_eq p140_405 (by omega) (by omega) (fun c405 => ?_) (fun c405 => ?_)
    · exact K _ _ _ (lj_ref X S (rel_k E (Nat.le_succ _)) (by omega) (by omega))
    · exact absurd rfl c405
  · have S1 := ls_U S F
    obtain ⟨fm1, m2⟩ := ls_mo S1
    have hb2 := S1.2.2.2.2.2.1
    have hF := F.2.2
    first | refine ps_s_al p140_395 rfl ?_ | refine ps_s_aln p140_395 rfl ?_
    first | refine ps_s_al p140_396 rfl ?_ | refine ps_s_aln p140_396 rfl ?_
    refine ps_s_il p140_397 rfl ?_
    refine ps_s_k p140_399 ?_
    first | refine ps_s_add p140_400 ?_ | refine ps_s_2 p140_400 ?_
    refine ps_s_iav p140_401 hb2 rfl (by omega) (by omega) ?_
    rw [q]
    refine ps_s_vV [_] _ p140_402 rfl m2 rfl rfl rfl (ls_Mr S1 (rf_fail hgm (fun q2 => absurd q2 (i_ge0 hp)) (fun _ => ps_bki ?_)) d (by omega))
    refine ps_s_eq p140_405 (by omega) (by omega) (fun c405 => ?_) (fun c405 => ?_)
    · exact K _ _ _ (lj_ref (pw := some p) X1 S1 ⟨⟨Nat.le_succ_of_le E1, E.1.2⟩, fun p' hp' => by cases hp'; exact hp, E.2.2⟩ (by omega) (by omega))
    · exact absurd rfl c405
