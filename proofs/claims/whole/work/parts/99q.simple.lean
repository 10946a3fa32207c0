/-! The law's cases that only read: facts that bind both sides, then the cases. -/
abbrev untag (r : pRow) : pD := (r.1, r.2.2)
theorem fl_map (f : Nat → pRow) (q : pRow → Bool) : ∀ n d, (fl (fun x => q (f x)) d n).map f = (rws f d n).filter q := by
  intro n
  induction n with
  | zero => intro d; rfl
  | succ n ih =>
    intro d
    rw [fl_s, rws_s, List.filter_cons]
    split
    · rw [List.map_cons, ih]
    · rw [ih]
theorem flat_un (q : pD → Bool) : ∀ (r : List (List pD)) (k : Nat), ((flat k r).filter (fun y => q (untag y))).map untag = r.flatten.filter q := by
  intro r
  induction r with
  | nil => intro k; rfl
  | cons g r ih =>
    intro k
    rw [flat_c, List.filter_append, List.map_append, ih, List.flatten_cons, List.filter_append]
    congr 1
    rw [List.filter_map, List.map_map]
    have e1 : ((fun y => q (untag y)) ∘ tag k) = q := rfl
    have e2 : (untag ∘ tag k) = id := rfl
    rw [e1, e2, List.map_id]
theorem fl_gS (Ss : List cS) : (Ss.flatMap dS).map (·.2) = (Ss.map gS).flatMap (·.2) := by
  induction Ss with
  | nil => rfl
  | cons S Ss ih => rw [List.flatMap_cons, List.map_append, ih, List.map_cons, List.flatMap_cons]; rfl
theorem fm_flat (sg : List pG) : (sg.map (·.2)).flatten = sg.flatMap (·.2) := rfl
section QFA
variable {sg : List pG} {dc cn bf : Nat} {aK aL aT aS aX aM aN : Nat → Nat} {Ss : List cS} {bu : List pDoc}
theorem rS_fl (h : rS sg dc cn aK aL aT aS aX aM aN) (q : pD → Bool) : (fl (fun x => q (untag (rowOf aK aL aT aS aX aM x))) 0 dc).map (fun x => untag (rowOf aK aL aT aS aX aM x)) = (sg.flatMap (·.2)).filter q := by
  have e := fl_map (rowOf aK aL aT aS aX aM) (fun r => q (untag r)) dc 0
  rw [h.2.2.1] at e
  have e2 := congrArg (List.map untag) e
  rw [flat_un, fm_flat, List.map_map] at e2
  exact e2
theorem rS_dc (h : rS sg dc cn aK aL aT aS aX aM aN) : dc = (sg.flatMap (·.2)).length := by
  have e := rS_fl h (fun _ => true)
  rw [List.filter_eq_self.mpr (fun _ _ => rfl)] at e
  have e2 := congrArg List.length e
  rw [List.length_map] at e2
  rw [← e2]
  have : ∀ n d, (fl (fun _ => true) d n).length = n := by
    intro n
    induction n with
    | zero => intro d; rfl
    | succ n ih => intro d; rw [fl_s, if_pos rfl, List.length_cons, ih]
  exact (this dc 0).symm
theorem inv_facts {li room : Nat} {bx : List (Nat × pD)} (I : inv li room (Ss.map gS) (bx.map (·.2))) (h : rS (Ss.map gS) dc cn aK aL aT aS aX aM aN) (hb : rB bu dc bf aK aL aT aS aX aM) : bx.length ≤ 12 ∧ Ss.length ≤ 10 ∧ dc ≤ 160 := by
  have h1 := inv_docs I
  rw [← rS_dc h] at h1
  obtain ⟨⟨h2, h3⟩, _, _, _, _, _, _, _, _, h4⟩ := I
  rw [List.length_map] at h2 h3
  exact ⟨h2, h3, by omega⟩
theorem sum_flt (q : pD → Bool) : ∀ Ss : List cS, (Ss.map (fun S => (((dS S).map (·.2)).filter q).length)).sum = (((Ss.map gS).flatMap (·.2)).filter q).length := by
  intro Ss
  induction Ss with
  | nil => rfl
  | cons S Ss ih => rw [List.map_cons, List.sum_cons, List.map_cons, List.flatMap_cons, List.filter_append, List.length_append, ih]; rfl
theorem kc_flt : ∀ l : List pD, (∀ y ∈ l, y.2.1 ≤ 1) → kc 0 l = (l.filter (fun y => decide (y.2.1 = 0))).length := by
  intro l
  induction l with
  | nil => intro _; rfl
  | cons y l ih =>
    intro h
    have h1 := h y (List.mem_cons_self ..)
    rw [kc_c, ih (fun z hz => h z (List.mem_cons_of_mem _ hz)), List.filter_cons]
    have hg : gnD 0 y = decide (y.2.1 = 1) := by
      unfold gnD
      rw [decide_eq_false (by decide : ¬ (0 : Nat) = 1), Bool.false_and, Bool.or_false]
    rw [hg]
    by_cases q : y.2.1 = 0
    · rw [if_neg (fun e => by have := of_decide_eq_true e; omega), if_pos (decide_eq_true q), List.length_cons]
      omega
    · rw [if_pos (decide_eq_true (by omega)), if_neg (fun e => q (of_decide_eq_true e))]
      omega
theorem sel_eq {li : Nat} {Lb : List Nat} (h : Lb = if li = 1 then lG 0 (Ss.map gS) else []) (a : Int32) : selC Lb Ss a = selB li (Ss.map gS) a := by
  unfold selC selB
  rw [← h]
  split
  · rfl
  · split
    · rfl
    · rw [List.getElem?_map, Option.map_map]
      rfl
end QFA
section LJR
variable {G : pm_G} {o : Nat → Nat} {h : pm_S} {x dr pi pg ba kD lD rD kP lP rP room nn : Nat} {pw : Option Nat} {ts : List Nat} {ps : List (Nat × List Nat)} {bx : List (Nat × pD)} {Ss : List cS} {Lb : List Nat} {Q : pm_Q}
variable {m tw dc li sz k ou b nb : Nat} {xs : Nat → Int32} {aD aK aL aT aS aX aM aC aN aO aQ aB aV aH : Nat → Nat}
theorem ls_Mr {r0 df bf cn nR pl z n : Nat} {P : Int32} {as : List Value} (S : lS G o h m ou b nb xs (rL m r0 tw df dc bf cn nR li P sz pl aD aK aL aT aS aX aM aC aN aO aQ aB aV aH)) (K : ps_M G n z as (rf h m r0 tw df dc bf cn nR li P sz pl aD aK aL aT aS aX aM aC aN aO aQ aB aV aH) Q) : ps_M G n z as h Q := ls_M S K
/-- the reference has moved: the turn is done -/
theorem lj_ref {L : List pm_C} (X : (cX G o h x dr pi pg ba kD lD rD kP lP rP room nn pw ts ps bx Ss Lb)) (S : lS G o h m ou b nb xs L) (E : (rel k room nn pw ts ps bx Ss Lb dc li sz aD aK aL aT aS aX aM aC aN aO aQ aB aV aH)) (h1 : h.2.1 ≤ G.1 + 100 + 1160 * k) (h2 : h.2.2 ≤ 10000 + 14200 * k) : lJ G b nb xs x m ou k (rf h m room tw ts.length dc bx.length Ss.length (nn + 1) li (pwI pw) sz ps.length aD aK aL aT aS aX aM aC aN aO aQ aB aV aH) := by
  obtain ⟨S', F⟩ := ls_r X.1.1 S (rL_kd m room tw ts.length dc bx.length Ss.length (nn + 1) li (pwI pw) sz ps.length aD aK aL aT aS aX aM aC aN aO aQ aB aV aH)
  exact lj_mk (cx_r X S F) S' E h1 h2
end LJR
theorem lc_buffered {i d k b nb x m ou : Nat} {xs : Nat → Int32} {G : pm_G} {h : pm_S} {Q : pm_Q} {u5 u6 : Option Value} (J : lJ G b nb xs x m ou k h) (hd : 30 ≤ d) (hi : i + 2 < nb) (hnb : nb ≤ 1537) (hk : k < 512) (K : ∀ u5 u6 h', lJ G b nb xs x m ou (k + 1) h' → ps_X G d 140 836 [some (.ref b), some (.ref x), some (.ref m), some (.ref ou), some (iN i), u5, u6] [] h' Q) : ps_X G d 140 735 [some (.ref b), some (.ref x), some (.ref m), some (.ref ou), some (iN i), u5, u6] [] h Q := by
  obtain ⟨o, dr, pi, pg, ba, kD, lD, rD, kP, lP, rP, room, nn, pw, ts, ps, bx, Ss, Lb, tw, dc, li, sz, aD, aK, aL, aT, aS, aX, aM, aC, aN, aO, aQ, aB, aV, aH, X, S, E, n1, n2⟩ := J
  have X' := X
  obtain ⟨X0, ⟨pf, bf', x1, _⟩, _⟩ := X'
  obtain ⟨fm, m1⟩ := ls_mo S
  have E' := E
  obtain ⟨⟨E1, E2, E3⟩, E4, ⟨E5, E6, E7⟩, ⟨E8, E9, E10, E11, E12⟩, ⟨E13, E14⟩, E15, I⟩ := E'
  have hb1 := S.2.2.2.2.2.1
  have hgm := S.2.2.2.1
  have hgo := S.2.2.2.2.1.2.2
  obtain ⟨f1, f2, f3⟩ := inv_facts I E13 E14
  refine ps_s_al p140_735 rfl ?_
  refine ps_s_vV [] _ p140_736 rfl x1 rfl rfl rfl (x_buffered X (ps_bki ?_) d (by omega))
  refine ps_s_al p140_739 rfl ?_
  refine ps_s_vV [] _ p140_740 rfl m1 rfl rfl rfl (ls_Mr S (rf_buffered hgm (ps_bki ?_)) d (by omega))
  refine ps_s_eq p140_743 (by omega) (by omega) (fun c743 => ?_) (fun c743 => ?_)
  · exact K _ _ _ (lj_ref X S (rel_k E (Nat.le_succ _)) (by omega) (by omega))
  · exact absurd rfl c743
theorem lc_segments {i d k b nb x m ou : Nat} {xs : Nat → Int32} {G : pm_G} {h : pm_S} {Q : pm_Q} {u5 u6 : Option Value} (J : lJ G b nb xs x m ou k h) (hd : 30 ≤ d) (hi : i + 2 < nb) (hnb : nb ≤ 1537) (hk : k < 512) (K : ∀ u5 u6 h', lJ G b nb xs x m ou (k + 1) h' → ps_X G d 140 836 [some (.ref b), some (.ref x), some (.ref m), some (.ref ou), some (iN i), u5, u6] [] h' Q) : ps_X G d 140 748 [some (.ref b), some (.ref x), some (.ref m), some (.ref ou), some (iN i), u5, u6] [] h Q := by
  obtain ⟨o, dr, pi, pg, ba, kD, lD, rD, kP, lP, rP, room, nn, pw, ts, ps, bx, Ss, Lb, tw, dc, li, sz, aD, aK, aL, aT, aS, aX, aM, aC, aN, aO, aQ, aB, aV, aH, X, S, E, n1, n2⟩ := J
  have X' := X
  obtain ⟨X0, ⟨pf, bf', x1, _⟩, _⟩ := X'
  obtain ⟨fm, m1⟩ := ls_mo S
  have E' := E
  obtain ⟨⟨E1, E2, E3⟩, E4, ⟨E5, E6, E7⟩, ⟨E8, E9, E10, E11, E12⟩, ⟨E13, E14⟩, E15, I⟩ := E'
  have hb1 := S.2.2.2.2.2.1
  have hgm := S.2.2.2.1
  have hgo := S.2.2.2.2.1.2.2
  obtain ⟨f1, f2, f3⟩ := inv_facts I E13 E14
  refine ps_s_al p140_748 rfl ?_
  refine ps_s_vV [] _ p140_749 rfl x1 rfl rfl rfl (x_segments X (ps_bki ?_) d (by omega))
  refine ps_s_al p140_752 rfl ?_
  refine ps_s_vV [] _ p140_753 rfl m1 rfl rfl rfl (ls_Mr S (rf_segments hgm (ps_bki ?_)) d (by omega))
  refine ps_s_eq p140_756 (by omega) (by omega) (fun c756 => ?_) (fun c756 => ?_)
  · exact K _ _ _ (lj_ref X S (rel_k E (Nat.le_succ _)) (by omega) (by omega))
  · exact absurd rfl c756
theorem lc_documents {i d k b nb x m ou : Nat} {xs : Nat → Int32} {G : pm_G} {h : pm_S} {Q : pm_Q} {u5 u6 : Option Value} (J : lJ G b nb xs x m ou k h) (hd : 30 ≤ d) (hi : i + 2 < nb) (hnb : nb ≤ 1537) (hk : k < 512) (K : ∀ u5 u6 h', lJ G b nb xs x m ou (k + 1) h' → ps_X G d 140 836 [some (.ref b), some (.ref x), some (.ref m), some (.ref ou), some (iN i), u5, u6] [] h' Q) : ps_X G d 140 722 [some (.ref b), some (.ref x), some (.ref m), some (.ref ou), some (iN i), u5, u6] [] h Q := by
  obtain ⟨o, dr, pi, pg, ba, kD, lD, rD, kP, lP, rP, room, nn, pw, ts, ps, bx, Ss, Lb, tw, dc, li, sz, aD, aK, aL, aT, aS, aX, aM, aC, aN, aO, aQ, aB, aV, aH, X, S, E, n1, n2⟩ := J
  have X' := X
  obtain ⟨X0, ⟨pf, bf', x1, _⟩, _⟩ := X'
  obtain ⟨fm, m1⟩ := ls_mo S
  have E' := E
  obtain ⟨⟨E1, E2, E3⟩, E4, ⟨E5, E6, E7⟩, ⟨E8, E9, E10, E11, E12⟩, ⟨E13, E14⟩, E15, I⟩ := E'
  have hb1 := S.2.2.2.2.2.1
  have hgm := S.2.2.2.1
  have hgo := S.2.2.2.2.1.2.2
  obtain ⟨f1, f2, f3⟩ := inv_facts I E13 E14
  have hbd := E13.1
  have e1 : (Ss.map (fun S => kc 0 ((dS S).map (·.2)))).sum = (fl (fun x => decide (aX x = 0)) 0 dc).length := by
    have hk : Ss.map (fun S => kc 0 ((dS S).map (·.2))) = Ss.map (fun S => (((dS S).map (·.2)).filter (fun y => decide (y.2.1 = 0))).length) := by
      apply List.map_congr_left
      intro S hS
      refine kc_flt _ (fun y hy => ?_)
      have := I.2.2.2.2.2.1 y (List.mem_flatMap.mpr ⟨gS S, List.mem_map.mpr ⟨S, hS, rfl⟩, hy⟩)
      rcases this with ⟨q, _⟩ | q
      · omega
      · rw [q]; exact Nat.le_refl _
    rw [hk, sum_flt]
    have := congrArg List.length (rS_fl E13 (fun y => decide (y.2.1 = 0)))
    rw [List.length_map] at this
    exact this.symm
  refine ps_s_al p140_722 rfl ?_
  refine ps_s_vV [] _ p140_723 rfl x1 rfl rfl rfl (x_documents X (by omega) (ps_bki ?_) d (by omega))
  refine ps_s_al p140_726 rfl ?_
  refine ps_s_vV [] _ p140_727 rfl m1 rfl rfl rfl (ls_Mr S (rf_documents hgm (by omega) hbd.2.2.2.2.1 (ps_bki ?_)) d (by omega))
  have hle : (fl (fun x => decide (aX x = 0)) 0 dc).length ≤ dc := by
    have : ∀ n d, (fl (fun x => decide (aX x = 0)) d n).length ≤ n := by
      intro n
      induction n with
      | zero => intro d; exact Nat.le_refl _
      | succ n ih =>
        intro d
        rw [fl_s]
        have := ih (d + 1)
        split
        · rw [List.length_cons]; omega
        · omega
    exact this dc 0
  rw [e1]
  refine ps_s_eq p140_730 (by omega) (by omega) (fun c730 => ?_) (fun c730 => ?_)
  · exact K _ _ _ (lj_ref X S (rel_k E (Nat.le_succ _)) (by omega) (by omega))
  · exact absurd rfl c730
theorem lc_size {i d k b nb x m ou : Nat} {xs : Nat → Int32} {G : pm_G} {h : pm_S} {Q : pm_Q} {u5 u6 : Option Value} (J : lJ G b nb xs x m ou k h) (hd : 30 ≤ d) (hi : i + 2 < nb) (hnb : nb ≤ 1537) (hk : k < 512) (K : ∀ u5 u6 h', lJ G b nb xs x m ou (k + 1) h' → ps_X G d 140 836 [some (.ref b), some (.ref x), some (.ref m), some (.ref ou), some (iN i), u5, u6] [] h' Q) : ps_X G d 140 761 [some (.ref b), some (.ref x), some (.ref m), some (.ref ou), some (iN i), u5, u6] [] h Q := by
  obtain ⟨o, dr, pi, pg, ba, kD, lD, rD, kP, lP, rP, room, nn, pw, ts, ps, bx, Ss, Lb, tw, dc, li, sz, aD, aK, aL, aT, aS, aX, aM, aC, aN, aO, aQ, aB, aV, aH, X, S, E, n1, n2⟩ := J
  have X' := X
  obtain ⟨X0, ⟨pf, bf', x1, _⟩, _⟩ := X'
  obtain ⟨fm, m1⟩ := ls_mo S
  have E' := E
  obtain ⟨⟨E1, E2, E3⟩, E4, ⟨E5, E6, E7⟩, ⟨E8, E9, E10, E11, E12⟩, ⟨E13, E14⟩, E15, I⟩ := E'
  have hb1 := S.2.2.2.2.2.1
  have hgm := S.2.2.2.1
  have hgo := S.2.2.2.2.1.2.2
  obtain ⟨f1, f2, f3⟩ := inv_facts I E13 E14
  have hsel := sel_eq E15 (xs (i + 1))
  obtain ⟨hbd, hN, _⟩ := E13
  have hseg := inv_seg I
  have hl0 : (lG 0 (Ss.map gS)).length ≤ 1400 := by
    refine lG_up 0 _ (by rw [List.length_map]; omega) (fun g hg => ?_) (by rw [← rS_dc E.2.2.2.2.1.1]; omega)
    obtain ⟨j, hj⟩ := List.mem_iff_getElem?.mp hg
    have := E.2.2.2.2.1.1.2.2.2.2
    have hm : g.1 ∈ (Ss.map gS).map (·.1) := List.mem_map.mpr ⟨g, hg, rfl⟩
    rw [← this] at hm
    have hsl : ∀ n d z, z ∈ sl aN d n → ∃ j, aN j = z := by
      intro n
      induction n with
      | zero => intro d z h; cases h
      | succ n ih =>
        intro d z h
        rcases List.mem_cons.mp h with rfl | h
        · exact ⟨d, rfl⟩
        · exact ih _ _ h
    obtain ⟨j', hj'⟩ := hsl _ _ _ hm
    have := hN j'
    omega
  have go : ∀ v : Int32, v = (match selB li (Ss.map gS) (xs (i + 1)) with
      | none => -2
      | some B => Int32.ofNat B.length) → ps_X G d 140 771 [some (.ref b), some (.ref x), some (.ref m), some (.ref ou), some (iN i), u5, u6] [.int v] h Q := by
    intro v hv
    first | refine ps_s_al p140_771 rfl ?_ | refine ps_s_aln p140_771 rfl ?_
    first | refine ps_s_al p140_772 rfl ?_ | refine ps_s_aln p140_772 rfl ?_
    refine ps_s_il p140_773 rfl ?_
    refine ps_s_k p140_775 ?_
    first | refine ps_s_add p140_776 ?_ | refine ps_s_2 p140_776 ?_
    refine ps_s_iav p140_777 hb1 rfl (by omega) (by omega) ?_
    refine ps_s_vV [_] _ p140_778 rfl m1 rfl rfl rfl (ls_Mr S (rf_size hgm E.2.2.2.2.1.1 (by omega) (by omega) I.2.2.2.2.2.2.2.2.1 E3 hl0 (fun g hg => ⟨(hseg g hg).1, by have := (hseg g hg).2; omega⟩) E2 (fun aC aO sz hC hs => ps_bki ?_)) d (by omega))
    refine ps_s_j p140_781 (fun _ => ?_) (fun c => absurd hv (of_decide_eq_false c))
    exact K _ _ _ (lj_ref X S ⟨⟨Nat.le_succ_of_le E1, hs, hC⟩, E.2⟩ (by omega) (by omega))
  first | refine ps_s_al p140_761 rfl ?_ | refine ps_s_aln p140_761 rfl ?_
  first | refine ps_s_al p140_762 rfl ?_ | refine ps_s_aln p140_762 rfl ?_
  refine ps_s_il p140_763 rfl ?_
  refine ps_s_k p140_765 ?_
  first | refine ps_s_add p140_766 ?_ | refine ps_s_2 p140_766 ?_
  refine ps_s_iav p140_767 hb1 rfl (by omega) (by omega) ?_
  refine ps_s_vV [_] _ p140_768 rfl x1 rfl rfl rfl (x_size X (by omega) (fun q => ps_bki ?_) (fun l q => ps_bki ?_) d (by omega))
  · exact go _ (by rw [← hsel, q])
  · exact go _ (by rw [← hsel, q])
