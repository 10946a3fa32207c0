/-! The law's cases: count, match, places. -/
theorem rws_get (f : Nat → pRow) : ∀ n d x, x < n → (rws f d n)[x]? = some (f (d + x)) := by
  intro n
  induction n with
  | zero => intro d x h; omega
  | succ n ih =>
    intro d x h
    rw [rws_s]
    cases x with
    | zero => rfl
    | succ x => rw [List.getElem?_cons_succ, ih _ _ (by omega), show d + 1 + x = d + (x + 1) by omega]
theorem rS_ix {sg : List pG} {dc cn : Nat} {aK aL aT aS aX aM aN : Nat → Nat} (h : rS sg dc cn aK aL aT aS aX aM aN) (x : Nat) (hx : x < dc) : (sg.flatMap (·.2))[x]? = some (untag (rowOf aK aL aT aS aX aM x)) := by
  have e := flat_un (fun _ => true) (sg.map (·.2)) 0
  rw [List.filter_eq_self.mpr (fun _ _ => rfl), List.filter_eq_self.mpr (fun _ _ => rfl), fm_flat, ← h.2.2.1] at e
  rw [← e, List.getElem?_map, rws_get _ _ _ _ hx, Nat.zero_add]
  rfl
theorem pw_key {l : List pD} (hp : l.Pairwise (fun y z => y.1.1 < z.1.1)) : ∀ y ∈ l, ∀ z ∈ l, y.1.1 = z.1.1 → y = z := by
  induction l with
  | nil => intro y h; cases h
  | cons a r ih =>
    obtain ⟨p1, p2⟩ := List.pairwise_cons.mp hp
    intro y h1 z h2 e
    rcases List.mem_cons.mp h1 with q1 | q1
    · rcases List.mem_cons.mp h2 with q2 | q2
      · exact q1.trans q2.symm
      · have := p1 z q2; rw [← q1, e] at this; omega
    · rcases List.mem_cons.mp h2 with q2 | q2
      · have := p1 y q1; rw [← q2, e] at this; omega
      · exact ih p2 y q1 z q2 e
theorem top_ex {α : Type} {l : List α} (h : ¬ l = []) : ∃ p, l[l.length - 1]? = some p := by
  obtain ⟨P, p, hP⟩ := snoc_ex l h
  exact ⟨p, last_get hP⟩
theorem cl_flt (Ss : List cS) (q : pD → Bool) : ((Ss.flatMap dS).filter (fun y => q y.2)).map (·.2) = ((Ss.map gS).flatMap (·.2)).filter q := by
  rw [← fl_gS, List.filter_map]
  rfl
theorem lc_count {i d k b nb x m ou : Nat} {xs : Nat → Int32} {G : pm_G} {h : pm_S} {Q : pm_Q} {u5 u6 : Option Value} (J : lJ G b nb xs x m ou k h) (hd : 30 ≤ d) (hi : i + 2 < nb) (hnb : nb ≤ 1537) (hk : k < 512) (K : ∀ u5 u6 h', lJ G b nb xs x m ou (k + 1) h' → ps_X G d 140 836 [some (.ref b), some (.ref x), some (.ref m), some (.ref ou), some (iN i), u5, u6] [] h' Q) : ps_X G d 140 566 [some (.ref b), some (.ref x), some (.ref m), some (.ref ou), some (iN i), u5, u6] [] h Q := by
  obtain ⟨o, dr, pi, pg, ba, kD, lD, rD, kP, lP, rP, room, nn, pw, ts, ps, bx, Ss, Lb, tw, dc, li, sz, aD, aK, aL, aT, aS, aX, aM, aC, aN, aO, aQ, aB, aV, aH, X, S, E, n1, n2⟩ := J
  have X' := X
  obtain ⟨X0, ⟨pf, bf', x1, _⟩, _⟩ := X'
  obtain ⟨fm, m1⟩ := ls_mo S
  have E' := E
  obtain ⟨⟨E1, E2, E3⟩, E4, ⟨E5, E6, E7⟩, ⟨E8, E9, E10, E11, E12⟩, ⟨E13, E14⟩, E15, I⟩ := E'
  have hb1 := S.2.2.2.2.2.1
  have hgm := S.2.2.2.1
  have hgo := S.2.2.2.2.1.2.2
  obtain ⟨f1, f2, f3⟩ := inv_facts I E13 E14
  obtain ⟨⟨bK, bL, bT, bS, bX, bM⟩, _⟩ := E13
  refine ps_s_al p140_566 rfl ?_
  refine ps_s_al p140_567 rfl ?_
  refine ps_s_vS [_, _] _ p140_568 rfl rfl rfl rfl (hl_84 (R1 := fun c h' => h' = pm_gap h 6 ∧ c = 2 ∧ ps = []) (R2 := fun v h' => h' = h ∧ ∃ p, ps[ps.length - 1]? = some p ∧ v = Int32.ofNat (Ss.map (fun S => (((dS S).map (·.2)).filter (mtD p.2)).length)).sum) x1 (fun c h' r => r.2.1) (fun Q' T V => x_count X E8 (by omega) (fun q => T 2 _ ⟨rfl, rfl, q⟩) (fun p q => V _ _ ⟨rfl, p, q, rfl⟩)) hgo (fun v h' r => by rw [r.1]; exact ls_oe S) (fun h' r => ps_bki ?_) (fun v h' g r e => ps_bki ?_) d (by omega))
  · obtain ⟨rfl, _, r⟩ := r
    obtain ⟨X1, S1⟩ := lg_thr (e := 6) X S
    obtain ⟨fm1, m2⟩ := ls_mo S1
    have hl0 : ps.length = 0 := by rw [r]; rfl
    refine ps_s_is5 p140_571 ?_
    first | refine ps_s_al p140_573 rfl ?_ | refine ps_s_aln p140_573 rfl ?_
    refine ps_s_vV [] _ p140_574 rfl m2 rfl rfl rfl (ls_Mr S1 (rf_count (mk := []) hgm (by omega) bX bL bT E8 (fun q => by omega) (fun _ => ps_bki ?_) (fun q => by omega)) d (by omega))
    refine ps_s_is6 p140_577 ?_
    exact tl_579 (by omega) rfl (by omega) hgo (fun e => absurd e (by decide)) (K _ _ _ (lj_ref X1 S1 (rel_k E (Nat.le_succ _)) (by show h.2.1 + 1 ≤ _; omega) (by show h.2.2 + 6 ≤ _; omega)))
  · obtain ⟨rfl, p, hp, rfl⟩ := r
    have hpl : 0 < ps.length := by have := (List.getElem?_eq_some_iff.mp hp).1; omega
    obtain ⟨r1, r2, r3, r4⟩ := E12 _ p hp
    have hv : (Ss.map (fun S => (((dS S).map (·.2)).filter (mtD p.2)).length)).sum = (fl (mtB aL aT aX p.2) 0 dc).length := by
      rw [sum_flt]
      have := congrArg List.length (rS_fl E.2.2.2.2.1.1 (mtD p.2))
      rw [List.length_map] at this
      exact this.symm
    obtain ⟨X2, S2⟩ := lg_ok (g' := vp_updL g 0 (Int32.ofNat (Ss.map (fun S => (((dS S).map (·.2)).filter (mtD p.2)).length)).sum).toInt64) X S e
    obtain ⟨fm1, m2⟩ := ls_mo S2
    refine ps_s_is5 p140_571 ?_
    first | refine ps_s_al p140_573 rfl ?_ | refine ps_s_aln p140_573 rfl ?_
    refine ps_s_vV [] _ p140_574 rfl m2 rfl rfl rfl (ls_Mr S2 (rf_count (mk := p.2) hgm (by omega) bX bL bT E8 (fun _ => ⟨r1, E9 _, r4⟩) (fun q => by omega) (fun _ aH => ps_bki ?_)) d (by omega))
    refine ps_s_is6 p140_577 ?_
    refine tl_579 (by omega) rfl (by omega) hgo (fun _ => ⟨_, rf_out X2.1.1 S2 (rL_kd ..) pp_eq, ?_⟩) (K _ _ _ (lj_ref X2 S2 (rel_k E (Nat.le_succ _)) (by show h'.2.1 ≤ _; omega) (by show h'.2.2 ≤ _; omega)))
    rw [← hv]
    exact out0 _ _
theorem lc_match {i d k b nb x m ou : Nat} {xs : Nat → Int32} {G : pm_G} {h : pm_S} {Q : pm_Q} {u5 u6 : Option Value} (J : lJ G b nb xs x m ou k h) (hd : 30 ≤ d) (hi : i + 2 < nb) (hnb : nb ≤ 1537) (hk : k < 512) (K : ∀ u5 u6 h', lJ G b nb xs x m ou (k + 1) h' → ps_X G d 140 836 [some (.ref b), some (.ref x), some (.ref m), some (.ref ou), some (iN i), u5, u6] [] h' Q) : ps_X G d 140 610 [some (.ref b), some (.ref x), some (.ref m), some (.ref ou), some (iN i), u5, u6] [] h Q := by
  obtain ⟨o, dr, pi, pg, ba, kD, lD, rD, kP, lP, rP, room, nn, pw, ts, ps, bx, Ss, Lb, tw, dc, li, sz, aD, aK, aL, aT, aS, aX, aM, aC, aN, aO, aQ, aB, aV, aH, X, S, E, n1, n2⟩ := J
  have X' := X
  obtain ⟨X0, ⟨pf, bf', x1, _⟩, _⟩ := X'
  obtain ⟨fm, m1⟩ := ls_mo S
  have E' := E
  obtain ⟨⟨E1, E2, E3⟩, E4, ⟨E5, E6, E7⟩, ⟨E8, E9, E10, E11, E12⟩, ⟨E13, E14⟩, E15, I⟩ := E'
  have hb1 := S.2.2.2.2.2.1
  have hgm := S.2.2.2.1
  have hgo := S.2.2.2.2.1.2.2
  obtain ⟨f1, f2, f3⟩ := inv_facts I E13 E14
  obtain ⟨⟨bK, bL, bT, bS, bX, bM⟩, _⟩ := E13
  have hlen : ∀ mk, ((Ss.flatMap dS).filter (fun y => mtD mk y.2)).length = (fl (mtB aL aT aX mk) 0 dc).length := by
    intro mk
    have h1 := congrArg List.length (rS_fl E.2.2.2.2.1.1 (mtD mk))
    have h2 := congrArg List.length (cl_flt Ss (mtD mk))
    rw [List.length_map] at h1 h2
    exact h2.trans h1.symm
  first | refine ps_s_al p140_610 rfl ?_ | refine ps_s_aln p140_610 rfl ?_
  first | refine ps_s_al p140_611 rfl ?_ | refine ps_s_aln p140_611 rfl ?_
  refine ps_s_il p140_612 rfl ?_
  refine ps_s_k p140_614 ?_
  first | refine ps_s_add p140_615 ?_ | refine ps_s_2 p140_615 ?_
  refine ps_s_iav p140_616 hb1 rfl (by omega) (by omega) ?_
  refine ps_s_al p140_617 rfl ?_
  refine ps_s_vS [_, _, _] _ p140_618 rfl rfl rfl rfl (hl_92 (R1 := fun c h' => h' = pm_gap h 6 ∧ c = 2 ∧ (ps = [] ∨ ∀ p, ps[ps.length - 1]? = some p → xs (i + 1) < 0 ∨ ((Ss.flatMap dS).filter (fun y => mtD p.2 y.2)).length ≤ (xs (i + 1)).toNatClampNeg)) (R2 := fun v h' => h' = h ∧ ∃ p y, ps[ps.length - 1]? = some p ∧ ¬ xs (i + 1) < 0 ∧ ((Ss.flatMap dS).filter (fun y => mtD p.2 y.2))[(xs (i + 1)).toNatClampNeg]? = some y ∧ v = Int32.ofNat y.2.1.1) x1 (fun c h' r => r.2.1) (fun Q' T V => x_match X E8 (by omega) (fun q => T 2 _ ⟨rfl, rfl, q⟩) (fun p y q1 q2 q3 => V _ _ ⟨rfl, p, y, q1, q2, q3, rfl⟩)) hgo (fun v h' r => by rw [r.1]; exact ls_oe S) (fun h' r => ps_bki ?_) (fun v h' g r e => ps_bki ?_) d (by omega))
  · obtain ⟨rfl, _, r⟩ := r
    obtain ⟨X1, S1⟩ := lg_thr (e := 6) X S
    obtain ⟨fm1, m2⟩ := ls_mo S1
    refine ps_s_is5 p140_621 ?_
    first | refine ps_s_al p140_623 rfl ?_ | refine ps_s_aln p140_623 rfl ?_
    first | refine ps_s_al p140_624 rfl ?_ | refine ps_s_aln p140_624 rfl ?_
    refine ps_s_il p140_625 rfl ?_
    refine ps_s_k p140_627 ?_
    first | refine ps_s_add p140_628 ?_ | refine ps_s_2 p140_628 ?_
    refine ps_s_iav p140_629 S1.2.2.2.2.2.1 rfl (by omega) (by omega) ?_
    by_cases hp0 : ps = []
    · have hl0 : ps.length = 0 := by rw [hp0]; rfl
      refine ps_s_vV [_] _ p140_630 rfl m2 rfl rfl rfl (ls_Mr S1 (rf_match (mk := []) hgm (by omega) bX bL bT E8 (fun q => by omega) (fun _ aH => ps_bki ?_) (fun q => by omega)) d (by omega))
      refine ps_s_is6 p140_633 ?_
      exact tl_635 (by omega) rfl (by omega) hgo (fun e => absurd e (by decide)) (K _ _ _ (lj_ref X1 S1 (rel_k E (Nat.le_succ _)) (by show h.2.1 + 1 ≤ _; omega) (by show h.2.2 + 6 ≤ _; omega)))
    · obtain ⟨p, hp⟩ := top_ex hp0
      obtain ⟨r1, r2, r3, r4⟩ := E12 _ p hp
      have hr : xs (i + 1) < 0 ∨ ((Ss.flatMap dS).filter (fun y => mtD p.2 y.2)).length ≤ (xs (i + 1)).toNatClampNeg := by
        rcases r with r | r
        · exact absurd r hp0
        · exact r p hp
      refine ps_s_vV [_] _ p140_630 rfl m2 rfl rfl rfl (ls_Mr S1 (rf_match (mk := p.2) hgm (by omega) bX bL bT E8 (fun _ => ⟨r1, E9 _, r4⟩) (fun _ aH => ps_bki ?_) (fun q1 n z hn en hz => ?_)) d (by omega))
      · refine ps_s_is6 p140_633 ?_
        exact tl_635 (by omega) rfl (by omega) hgo (fun e => absurd e (by decide)) (K _ _ _ (lj_ref X1 S1 (rel_k E (Nat.le_succ _)) (by show h.2.1 + 1 ≤ _; omega) (by show h.2.2 + 6 ≤ _; omega)))
      · exfalso
        have hlt := (List.getElem?_eq_some_iff.mp hz).1
        rw [← hlen] at hlt
        rcases hr with hr | hr
        · rw [en] at hr; exact i_ge0 hn hr
        · rw [en, i_cl hn] at hr; omega
  · obtain ⟨rfl, p, y, hp, hge, hy, rfl⟩ := r
    have hpl : 0 < ps.length := by have := (List.getElem?_eq_some_iff.mp hp).1; omega
    obtain ⟨r1, r2, r3, r4⟩ := E12 _ p hp
    obtain ⟨X2, S2⟩ := lg_ok (g' := vp_updL g 0 (Int32.ofNat y.2.1.1).toInt64) X S e
    obtain ⟨fm1, m2⟩ := ls_mo S2
    have hylt := (List.getElem?_eq_some_iff.mp hy).1
    refine ps_s_is5 p140_621 ?_
    first | refine ps_s_al p140_623 rfl ?_ | refine ps_s_aln p140_623 rfl ?_
    first | refine ps_s_al p140_624 rfl ?_ | refine ps_s_aln p140_624 rfl ?_
    refine ps_s_il p140_625 rfl ?_
    refine ps_s_k p140_627 ?_
    first | refine ps_s_add p140_628 ?_ | refine ps_s_2 p140_628 ?_
    refine ps_s_iav p140_629 S2.2.2.2.2.2.1 rfl (by omega) (by omega) ?_
    refine ps_s_vV [_] _ p140_630 rfl m2 rfl rfl rfl (ls_Mr S2 (rf_match (mk := p.2) hgm (by omega) bX bL bT E8 (fun _ => ⟨r1, E9 _, r4⟩) (fun q => ?_) (fun q1 n z hn en hz aH => ps_bki ?_)) d (by omega))
    · exfalso
      rcases i_cases (xs (i + 1)) with q1 | ⟨n, hn, en⟩
      · exact hge q1
      · rw [en, i_cl hn, hlen] at hylt
        rcases q with q | q
        · omega
        · have := q n hn en; omega
    · have hk : y.2.1.1 = aK z := by
        have h1 := congrArg (fun l => l[n]?) (rS_fl E.2.2.2.2.1.1 (mtD p.2))
        have h2 := congrArg (fun l => l[n]?) (cl_flt Ss (mtD p.2))
        rw [en, i_cl hn] at hy
        rw [List.getElem?_map, hy] at h2
        have hz' : (fl (fun x => mtD p.2 (untag (rowOf aK aL aT aS aX aM x))) 0 dc)[n]? = some z := hz
        rw [List.getElem?_map, hz'] at h1
        have h3 := h2.trans h1.symm
        exact congrArg (fun y : pD => y.1.1) (Option.some.inj h3)
      refine ps_s_is6 p140_633 ?_
      refine tl_635 (by omega) rfl (by omega) hgo (fun _ => ⟨_, rf_out X2.1.1 S2 (rL_kd ..) pp_eq, ?_⟩) (K _ _ _ (lj_ref X2 S2 (rel_k E (Nat.le_succ _)) (by show h'.2.1 ≤ _; omega) (by show h'.2.2 ≤ _; omega)))
      rw [← hk]
      exact out0 _ _
theorem lc_places {i d k b nb x m ou : Nat} {xs : Nat → Int32} {G : pm_G} {h : pm_S} {Q : pm_Q} {u5 u6 : Option Value} (J : lJ G b nb xs x m ou k h) (hd : 30 ≤ d) (hi : i + 2 < nb) (hnb : nb ≤ 1537) (hk : k < 512) (K : ∀ u5 u6 h', lJ G b nb xs x m ou (k + 1) h' → ps_X G d 140 836 [some (.ref b), some (.ref x), some (.ref m), some (.ref ou), some (iN i), u5, u6] [] h' Q) : ps_X G d 140 666 [some (.ref b), some (.ref x), some (.ref m), some (.ref ou), some (iN i), u5, u6] [] h Q := by
  obtain ⟨o, dr, pi, pg, ba, kD, lD, rD, kP, lP, rP, room, nn, pw, ts, ps, bx, Ss, Lb, tw, dc, li, sz, aD, aK, aL, aT, aS, aX, aM, aC, aN, aO, aQ, aB, aV, aH, X, S, E, n1, n2⟩ := J
  have X' := X
  obtain ⟨X0, ⟨pf, bf', x1, _⟩, _⟩ := X'
  obtain ⟨fm, m1⟩ := ls_mo S
  have E' := E
  obtain ⟨⟨E1, E2, E3⟩, E4, ⟨E5, E6, E7⟩, ⟨E8, E9, E10, E11, E12⟩, ⟨E13, E14⟩, E15, I⟩ := E'
  have hb1 := S.2.2.2.2.2.1
  have hgm := S.2.2.2.1
  have hgo := S.2.2.2.2.1.2.2
  obtain ⟨f1, f2, f3⟩ := inv_facts I E13 E14
  obtain ⟨⟨bK, bL, bT, bS, bX, bM⟩, _⟩ := E13
  have hR := E.2.2.2.2.1.1
  have hdc := rS_dc hR
  have hmem : ∀ y : pD, y ∈ (Ss.map gS).flatMap (·.2) ↔ ∃ S ∈ Ss, ∃ z ∈ dS S, z.2 = y := by
    intro y
    rw [← fl_gS, List.mem_map]
    constructor
    · rintro ⟨z, hz, rfl⟩
      obtain ⟨S', hS', hz'⟩ := List.mem_flatMap.mp hz
      exact ⟨S', hS', z, hz', rfl⟩
    · rintro ⟨S', hS', z, hz, rfl⟩
      exact ⟨z, List.mem_flatMap.mpr ⟨S', hS', hz⟩, rfl⟩
  have hpw := (List.pairwise_append.mp I.2.2.1).1
  first | refine ps_s_al p140_666 rfl ?_ | refine ps_s_aln p140_666 rfl ?_
  first | refine ps_s_al p140_667 rfl ?_ | refine ps_s_aln p140_667 rfl ?_
  refine ps_s_il p140_668 rfl ?_
  refine ps_s_k p140_670 ?_
  first | refine ps_s_add p140_671 ?_ | refine ps_s_2 p140_671 ?_
  refine ps_s_iav p140_672 hb1 rfl (by omega) (by omega) ?_
  refine ps_s_al p140_673 rfl ?_
  refine ps_s_vS [_, _, _] _ p140_674 rfl rfl rfl rfl (hl_95 (R1 := fun c h' => h' = pm_gap h 6 ∧ c = 2 ∧ ps = []) (R2 := fun v h' => h' = h ∧ ∃ p, ps[ps.length - 1]? = some p ∧ (((∀ S ∈ Ss, ∀ y ∈ dS S, Int32.ofNat y.2.1.1 = xs (i + 1) → ¬ y.2.2.1 = 0) ∧ v = -2) ∨ ∃ S ∈ Ss, ∃ y ∈ dS S, Int32.ofNat y.2.1.1 = xs (i + 1) ∧ y.2.2.1 = 0 ∧ v = Int32.ofNat (whM p.2 y.2.1.2))) x1 (fun c h' r => r.2.1) (fun Q' T V => x_places X E8 (by omega) (fun q => T 2 _ ⟨rfl, rfl, q⟩) (fun p q1 q2 => V _ _ ⟨rfl, p, q1, .inl ⟨q2, rfl⟩⟩) (fun p q1 S' hS' y hy e1 e2 => V _ _ ⟨rfl, p, q1, .inr ⟨S', hS', y, hy, e1, e2, rfl⟩⟩)) hgo (fun v h' r => by rw [r.1]; exact ls_oe S) (fun h' r => ps_bki ?_) (fun v h' g r e => ps_bki ?_) d (by omega))
  · obtain ⟨rfl, _, r⟩ := r
    obtain ⟨X1, S1⟩ := lg_thr (e := 6) X S
    obtain ⟨fm1, m2⟩ := ls_mo S1
    have hl0 : ps.length = 0 := by rw [r]; rfl
    refine ps_s_is5 p140_677 ?_
    first | refine ps_s_al p140_679 rfl ?_ | refine ps_s_aln p140_679 rfl ?_
    first | refine ps_s_al p140_680 rfl ?_ | refine ps_s_aln p140_680 rfl ?_
    refine ps_s_il p140_681 rfl ?_
    refine ps_s_k p140_683 ?_
    first | refine ps_s_add p140_684 ?_ | refine ps_s_2 p140_684 ?_
    refine ps_s_iav p140_685 S1.2.2.2.2.2.1 rfl (by omega) (by omega) ?_
    refine ps_s_vV [_] _ p140_686 rfl m2 rfl rfl rfl (ls_Mr S1 (rf_places (mk := []) hgm (by omega) bX bL bT E8 (fun q => by omega) (fun _ => ps_bki ?_) (fun q => by omega) (fun q => by omega)) d (by omega))
    refine ps_s_is6 p140_689 ?_
    exact tl_691 (by omega) rfl (by omega) hgo (fun e => absurd e (by decide)) (K _ _ _ (lj_ref X1 S1 (rel_k E (Nat.le_succ _)) (by show h.2.1 + 1 ≤ _; omega) (by show h.2.2 + 6 ≤ _; omega)))
  · obtain ⟨rfl, p, hp, r⟩ := r
    have hpl : 0 < ps.length := by have := (List.getElem?_eq_some_iff.mp hp).1; omega
    obtain ⟨r1, r2, r3, r4⟩ := E12 _ p hp
    obtain ⟨X2, S2⟩ := lg_ok (g' := vp_updL g 0 v.toInt64) X S e
    obtain ⟨fm1, m2⟩ := ls_mo S2
    refine ps_s_is5 p140_677 ?_
    first | refine ps_s_al p140_679 rfl ?_ | refine ps_s_aln p140_679 rfl ?_
    first | refine ps_s_al p140_680 rfl ?_ | refine ps_s_aln p140_680 rfl ?_
    refine ps_s_il p140_681 rfl ?_
    refine ps_s_k p140_683 ?_
    first | refine ps_s_add p140_684 ?_ | refine ps_s_2 p140_684 ?_
    refine ps_s_iav p140_685 S2.2.2.2.2.2.1 rfl (by omega) (by omega) ?_
    refine ps_s_vV [_] _ p140_686 rfl m2 rfl rfl rfl (ls_Mr S2 (rf_places (mk := p.2) hgm (by omega) bX bL bT E8 (fun _ => ⟨r1, E9 _, r4⟩) (fun q => by omega) (fun _ z hz ek ex _ aH => ps_bki ?_) (fun _ hno => ps_bki ?_)) d (by omega))
    · have hzm : untag (rowOf aK aL aT aS aX aM z) ∈ (Ss.map gS).flatMap (·.2) := List.mem_of_getElem? (rS_ix hR z hz)
      have hv : v = Int32.ofNat (whM p.2 (tsO aL aT z)) := by
        rcases r with ⟨r, _⟩ | ⟨S', hS', y, hy, e1, e2, rfl⟩
        · exfalso
          obtain ⟨S', hS', y, hy, e1⟩ := (hmem _).mp hzm
          refine r S' hS' y hy ?_ ?_
          · rw [e1]; exact ek
          · rw [e1]; exact ex
        · have hym : y.2 ∈ (Ss.map gS).flatMap (·.2) := (hmem _).mpr ⟨S', hS', y, hy, rfl⟩
          have hk1 := (I.2.2.2.1 y.2 (List.mem_append_left _ hym)).1
          have hk : y.2.1.1 = aK z := ps_ofNat_inj hk1 (bK z) (e1.trans ek.symm)
          have := pw_key hpw y.2 hym _ hzm hk
          rw [this]
          rfl
      refine ps_s_is6 p140_689 ?_
      refine tl_691 (by omega) rfl (by omega) hgo (fun _ => ⟨_, rf_out X2.1.1 S2 (rL_kd ..) pp_eq, ?_⟩) (K _ _ _ (lj_ref X2 S2 (rel_k E (Nat.le_succ _)) (by show h'.2.1 ≤ _; omega) (by show h'.2.2 ≤ _; omega)))
      rw [← hv]
      exact out0 _ _
    · have hv : v = -2 := by
        rcases r with ⟨_, r⟩ | ⟨S', hS', y, hy, e1, e2, rfl⟩
        · exact r
        · exfalso
          have hym : y.2 ∈ (Ss.map gS).flatMap (·.2) := (hmem _).mpr ⟨S', hS', y, hy, rfl⟩
          obtain ⟨z, hz⟩ := List.mem_iff_getElem?.mp hym
          have hzl := (List.getElem?_eq_some_iff.mp hz).1
          rw [← hdc] at hzl
          rw [rS_ix hR z hzl] at hz
          have e3 := Option.some.inj hz
          refine hno z hzl ⟨?_, ?_⟩
          · rw [← e1, ← e3]; rfl
          · rw [← e2, ← e3]; rfl
      refine ps_s_is6 p140_689 ?_
      refine tl_691 (by omega) rfl (by omega) hgo (fun _ => ⟨_, rf_out X2.1.1 S2 (rL_kd ..) pp_eq, ?_⟩) (K _ _ _ (lj_ref X2 S2 (rel_k E (Nat.le_succ _)) (by show h'.2.1 ≤ _; omega) (by show h'.2.2 ≤ _; omega)))
      rw [← hv]
      exact out0 _ _
