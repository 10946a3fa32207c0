/-! The law's cases: discard, want, combine. -/
theorem cq_wf {G : pm_G} {o : Nat → Nat} {h : pm_S} : ∀ n q mk, cQ G o h n q mk → ∀ k rest, k + lv mk ≤ 8 → wfM (k + 1) rest → wfM k (mk ++ rest) := by
  intro n
  induction n with
  | zero => intro q mk hq; exact hq.elim
  | succ n ih =>
    intro q mk hq k rest hk hr
    rcases hq with ⟨t, h1, rfl, h3, h4, h5⟩ | ⟨w, b, p, m1, m2, h1, rfl, h3, h4, h5, h6⟩
    · have e : lv [t] = 1 := by show (if t < 16 then 1 else 0) + 0 = 1; rw [if_pos h1]
      rw [e] at hk
      show if t < 16 then k < 8 ∧ wfM (k + 1) rest else _
      rw [if_pos h1]
      exact ⟨by omega, hr⟩
    · rw [lv_app, lv_app, show lv [16 + w] = 0 by show (if 16 + w < 16 then 1 else 0) + 0 = 0; rw [if_neg (by omega)]] at hk
      have l1 := cq_lv _ _ _ h5
      rw [List.append_assoc, List.append_assoc]
      refine ih _ _ h5 k _ (by omega) (ih _ _ h6 (k + 1) _ (by omega) ?_)
      show if 16 + w < 16 then _ else 2 ≤ k + 1 + 1 ∧ 16 + w < 27 ∧ wfM (k + 1 + 1 - 1) rest
      rw [if_neg (by omega)]
      exact ⟨by omega, by omega, hr⟩
theorem cq_wf0 {G : pm_G} {o : Nat → Nat} {h : pm_S} {n q : Nat} {mk : List Nat} (hq : cQ G o h n q mk) (hl : lv mk ≤ 8) : wfM 0 mk := by
  have := cq_wf n q mk hq 0 [] (by omega) rfl
  rw [List.append_nil] at this
  exact this
theorem er_last {α : Type} {l : List α} {j : Nat} {p : α} (h : (l.eraseIdx (l.length - 1))[j]? = some p) : l[j]? = some p := by
  rw [List.getElem?_eraseIdx] at h
  split at h
  · exact h
  · rw [List.getElem?_eq_none (by omega)] at h
    cases h
theorem lc_discard {i d k b nb x m ou : Nat} {xs : Nat → Int32} {G : pm_G} {h : pm_S} {Q : pm_Q} {u5 u6 : Option Value} (J : lJ G b nb xs x m ou k h) (hd : 30 ≤ d) (hi : i + 2 < nb) (hnb : nb ≤ 1537) (hk : k < 512) (K : ∀ u5 u6 h', lJ G b nb xs x m ou (k + 1) h' → ps_X G d 140 836 [some (.ref b), some (.ref x), some (.ref m), some (.ref ou), some (iN i), u5, u6] [] h' Q) : ps_X G d 140 522 [some (.ref b), some (.ref x), some (.ref m), some (.ref ou), some (iN i), u5, u6] [] h Q := by
  obtain ⟨o, dr, pi, pg, ba, kD, lD, rD, kP, lP, rP, room, nn, pw, ts, ps, bx, Ss, Lb, tw, dc, li, sz, aD, aK, aL, aT, aS, aX, aM, aC, aN, aO, aQ, aB, aV, aH, X, S, E, n1, n2⟩ := J
  have X' := X
  obtain ⟨X0, ⟨pf, bf', x1, _⟩, _⟩ := X'
  obtain ⟨fm, m1⟩ := ls_mo S
  have E' := E
  obtain ⟨⟨E1, E2, E3⟩, E4, ⟨E5, E6, E7⟩, ⟨E8, E9, E10, E11, E12⟩, ⟨E13, E14⟩, E15, I⟩ := E'
  have hb1 := S.2.2.2.2.2.1
  have hgm := S.2.2.2.1
  have hgo := S.2.2.2.2.1.2.2
  obtain ⟨f1, f2, f3⟩ := inv_facts I E13 E14
  refine ps_s_al p140_522 rfl ?_
  refine ps_s_al p140_523 rfl ?_
  refine ps_s_vS [_, _] _ p140_524 rfl rfl rfl rfl (hl_82 (R1 := fun c h' => h' = pm_gap h 6 ∧ c = 2 ∧ ps = []) (R2 := fun v h' => 0 < ps.length ∧ v = Int32.ofNat (ps.length - 1) ∧ cF G (cU h) h o h' o 0 0 ∧ (cX G o (h') x dr pi pg ba kD lD rD kP lP rP room nn pw ts (ps.eraseIdx (ps.length - 1)) bx Ss Lb)) x1 (fun c h' r => r.2.1) (fun Q' T V => x_discard X E8 (fun q => T 2 _ ⟨rfl, rfl, q⟩) (fun q h' F X' => V _ _ ⟨q, rfl, F, X'⟩)) hgo (fun v h' r => ls_oe (ls_U S r.2.2.1)) (fun h' r => ps_bki ?_) (fun v h' g r e => ps_bki ?_) d (by omega))
  · obtain ⟨rfl, _, r⟩ := r
    obtain ⟨X1, S1⟩ := lg_thr (e := 6) X S
    obtain ⟨fm1, m2⟩ := ls_mo S1
    have hl0 : ps.length = 0 := by rw [r]; rfl
    refine ps_s_is5 p140_527 ?_
    first | refine ps_s_al p140_529 rfl ?_ | refine ps_s_aln p140_529 rfl ?_
    refine ps_s_vV [] _ p140_530 rfl m2 rfl rfl rfl (ls_Mr S1 (rf_discard hgm E8 (fun _ => ps_bki ?_) (fun q => by omega)) d (by omega))
    refine ps_s_is6 p140_533 ?_
    exact tl_535 (by omega) rfl (by omega) hgo (fun e => absurd e (by decide)) (K _ _ _ (lj_ref X1 S1 (rel_k E (Nat.le_succ _)) (by show h.2.1 + 1 ≤ _; omega) (by show h.2.2 + 6 ≤ _; omega)))
  · obtain ⟨hp, rfl, F, X1⟩ := r
    obtain ⟨X2, S2⟩ := lg_ok (g' := vp_updL g 0 (Int32.ofNat (ps.length - 1)).toInt64) X1 (ls_U S F) e
    obtain ⟨fm1, m2⟩ := ls_mo S2
    have hF := F.2.2
    refine ps_s_is5 p140_527 ?_
    first | refine ps_s_al p140_529 rfl ?_ | refine ps_s_aln p140_529 rfl ?_
    refine ps_s_vV [] _ p140_530 rfl m2 rfl rfl rfl (ls_Mr S2 (rf_discard hgm E8 (fun q => by omega) (fun _ => ps_bki ?_)) d (by omega))
    have hlen : (ps.eraseIdx (ps.length - 1)).length = ps.length - 1 := List.length_eraseIdx_of_lt (by omega)
    have E' : (rel (k + 1) room nn pw ts (ps.eraseIdx (ps.length - 1)) bx Ss Lb dc li sz aD aK aL aT aS aX aM aC aN aO aQ aB aV aH) := ⟨⟨Nat.le_succ_of_le E1, E.1.2⟩, E.2.1, E.2.2.1, ⟨by rw [hlen]; omega, E9, E10, E11, fun j p hj => E12 j p (er_last hj)⟩, E.2.2.2.2⟩
    have J' := lj_ref (tw := 0) X2 S2 E' (by show h'.2.1 ≤ _; omega) (by show h'.2.2 ≤ _; omega)
    rw [hlen] at J'
    refine ps_s_is6 p140_533 ?_
    exact tl_535 (by omega) rfl (by omega) hgo (fun _ => ⟨_, rf_out X2.1.1 S2 (rL_kd ..) pp_eq, out0 _ _⟩) (K _ _ _ J')
theorem lc_want {i d k b nb x m ou : Nat} {xs : Nat → Int32} {G : pm_G} {h : pm_S} {Q : pm_Q} {u5 u6 : Option Value} (J : lJ G b nb xs x m ou k h) (hd : 30 ≤ d) (hi : i + 2 < nb) (hnb : nb ≤ 1537) (hk : k < 512) (K : ∀ u5 u6 h', lJ G b nb xs x m ou (k + 1) h' → ps_X G d 140 836 [some (.ref b), some (.ref x), some (.ref m), some (.ref ou), some (iN i), u5, u6] [] h' Q) : ps_X G d 140 410 [some (.ref b), some (.ref x), some (.ref m), some (.ref ou), some (iN i), u5, u6] [] h Q := by
  obtain ⟨o, dr, pi, pg, ba, kD, lD, rD, kP, lP, rP, room, nn, pw, ts, ps, bx, Ss, Lb, tw, dc, li, sz, aD, aK, aL, aT, aS, aX, aM, aC, aN, aO, aQ, aB, aV, aH, X, S, E, n1, n2⟩ := J
  have X' := X
  obtain ⟨X0, ⟨pf, bf', x1, _⟩, _⟩ := X'
  obtain ⟨fm, m1⟩ := ls_mo S
  have E' := E
  obtain ⟨⟨E1, E2, E3⟩, E4, ⟨E5, E6, E7⟩, ⟨E8, E9, E10, E11, E12⟩, ⟨E13, E14⟩, E15, I⟩ := E'
  have hb1 := S.2.2.2.2.2.1
  have hgm := S.2.2.2.1
  have hgo := S.2.2.2.2.1.2.2
  obtain ⟨f1, f2, f3⟩ := inv_facts I E13 E14
  first | refine ps_s_al p140_410 rfl ?_ | refine ps_s_aln p140_410 rfl ?_
  first | refine ps_s_al p140_411 rfl ?_ | refine ps_s_aln p140_411 rfl ?_
  refine ps_s_il p140_412 rfl ?_
  refine ps_s_k p140_414 ?_
  first | refine ps_s_add p140_415 ?_ | refine ps_s_2 p140_415 ?_
  refine ps_s_iav p140_416 hb1 rfl (by omega) (by omega) ?_
  refine ps_s_al p140_417 rfl ?_
  refine ps_s_vS [_, _, _] _ p140_418 rfl rfl rfl rfl (hl_74 (R1 := fun c h' => h' = pm_gap h 6 ∧ ((c = 0 ∧ ¬ ∃ n : Nat, n < 16 ∧ xs (i + 1) = Int32.ofNat n) ∨ (c = 1 ∧ (∃ n : Nat, n < 16 ∧ xs (i + 1) = Int32.ofNat n) ∧ ps.length = 8))) (R2 := fun v h' => ∃ (n : Nat) (o' : Nat → Nat) (q c s : Nat), n < 16 ∧ xs (i + 1) = Int32.ofNat n ∧ ps.length < 8 ∧ v = Int32.ofNat (ps.length + 1) ∧ cF G (cU h) h o h' o' c s ∧ c ≤ 3 ∧ s ≤ 100 ∧ (cX G (o') (h') x dr pi pg ba kD lD rD kP lP rP room nn pw ts (ps ++ [(q, [n])]) bx Ss Lb)) x1 (fun c h' r => r.2.elim (fun q => .inl q.1) (fun q => .inr q.1)) (fun Q' T V => x_want X E8 (fun q => T 0 _ ⟨rfl, .inl ⟨rfl, q⟩⟩) (fun q1 q2 => T 1 _ ⟨rfl, .inr ⟨rfl, q1, q2⟩⟩) (fun n hn e hl h' o' q c s F hc hs X' => V _ _ ⟨n, o', q, c, s, hn, e, hl, rfl, F, hc, hs, X'⟩)) hgo (fun v h' r => by obtain ⟨_, _, _, _, _, _, _, _, _, F, _⟩ := r; exact ls_oe (ls_U S F)) (fun h' r => ps_bki ?_) (fun h' r => ps_bki ?_) (fun v h' g r e => ps_bki ?_) d (by omega))
  · obtain ⟨rfl, r⟩ := r
    have hno : ¬ ∃ n : Nat, n < 16 ∧ xs (i + 1) = Int32.ofNat n := by
      rcases r with r | r
      · exact r.2
      · exact absurd r.1 (by decide)
    obtain ⟨X1, S1⟩ := lg_thr (e := 6) X S
    obtain ⟨fm1, m2⟩ := ls_mo S1
    refine ps_s_is5 p140_421 ?_
    first | refine ps_s_al p140_423 rfl ?_ | refine ps_s_aln p140_423 rfl ?_
    first | refine ps_s_al p140_424 rfl ?_ | refine ps_s_aln p140_424 rfl ?_
    refine ps_s_il p140_425 rfl ?_
    refine ps_s_k p140_427 ?_
    first | refine ps_s_add p140_428 ?_ | refine ps_s_2 p140_428 ?_
    refine ps_s_iav p140_429 S1.2.2.2.2.2.1 rfl (by omega) (by omega) ?_
    refine ps_s_vV [_] _ p140_430 rfl m2 rfl rfl rfl (ls_Mr S1 (rf_want hgm E8 (fun _ => ps_bki ?_) (fun q _ => absurd q hno) (fun n hn e _ => absurd ⟨n, hn, e⟩ hno)) d (by omega))
    refine ps_s_is6 p140_433 ?_
    exact tl_435 (by omega) rfl (by omega) hgo (fun e => absurd e (by decide)) (K _ _ _ (lj_ref X1 S1 (rel_k E (Nat.le_succ _)) (by show h.2.1 + 1 ≤ _; omega) (by show h.2.2 + 6 ≤ _; omega)))
  · obtain ⟨rfl, r⟩ := r
    have hyes : (∃ n : Nat, n < 16 ∧ xs (i + 1) = Int32.ofNat n) ∧ ps.length = 8 := by
      rcases r with r | r
      · exact absurd r.1 (by decide)
      · exact r.2
    obtain ⟨X1, S1⟩ := lg_thr (e := 6) X S
    obtain ⟨fm1, m2⟩ := ls_mo S1
    refine ps_s_is5 p140_421 ?_
    first | refine ps_s_al p140_423 rfl ?_ | refine ps_s_aln p140_423 rfl ?_
    first | refine ps_s_al p140_424 rfl ?_ | refine ps_s_aln p140_424 rfl ?_
    refine ps_s_il p140_425 rfl ?_
    refine ps_s_k p140_427 ?_
    first | refine ps_s_add p140_428 ?_ | refine ps_s_2 p140_428 ?_
    refine ps_s_iav p140_429 S1.2.2.2.2.2.1 rfl (by omega) (by omega) ?_
    refine ps_s_vV [_] _ p140_430 rfl m2 rfl rfl rfl (ls_Mr S1 (rf_want hgm E8 (fun q => absurd hyes.1 q) (fun _ _ => ps_bki ?_) (fun n hn e hl => by omega)) d (by omega))
    refine ps_s_is6 p140_433 ?_
    exact tl_435 (by omega) rfl (by omega) hgo (fun e => absurd e (by decide)) (K _ _ _ (lj_ref X1 S1 (rel_k E (Nat.le_succ _)) (by show h.2.1 + 1 ≤ _; omega) (by show h.2.2 + 6 ≤ _; omega)))
  · obtain ⟨n, o', q, c, s, hn, en, hl, rfl, F, hc, hs, X1⟩ := r
    obtain ⟨X2, S2⟩ := lg_ok (g' := vp_updL g 0 (Int32.ofNat (ps.length + 1)).toInt64) X1 (ls_U S F) e
    obtain ⟨fm1, m2⟩ := ls_mo S2
    have hF := F.2.2
    refine ps_s_is5 p140_421 ?_
    first | refine ps_s_al p140_423 rfl ?_ | refine ps_s_aln p140_423 rfl ?_
    first | refine ps_s_al p140_424 rfl ?_ | refine ps_s_aln p140_424 rfl ?_
    refine ps_s_il p140_425 rfl ?_
    refine ps_s_k p140_427 ?_
    first | refine ps_s_add p140_428 ?_ | refine ps_s_2 p140_428 ?_
    refine ps_s_iav p140_429 S2.2.2.2.2.2.1 rfl (by omega) (by omega) ?_
    refine ps_s_vV [_] _ p140_430 rfl m2 rfl rfl rfl (ls_Mr S2 (rf_want hgm E8 (fun q => absurd ⟨n, hn, en⟩ q) (fun _ q => by omega) (fun n' hn' en' _ => ps_bki ?_)) d (by omega))
    have hnn : n' = n := ps_ofNat_inj (by omega) (by omega) (en'.symm.trans en)
    subst hnn
    have hlen : (ps ++ [(q, [n'])]).length = ps.length + 1 := by rw [List.length_append]; rfl
    have E' : (rel (k + 1) room nn pw ts (ps ++ [(q, [n'])]) bx Ss Lb dc li sz aD aK aL aT aS aX aM aC aN aO (va_up aQ (15 * ps.length) n') (va_up aB ps.length 1) (va_up aV ps.length 1) aH) := by
      refine ⟨⟨Nat.le_succ_of_le E1, E.1.2⟩, E.2.1, E.2.2.1, ⟨by rw [hlen]; omega, fun j => ?_, fun j => ?_, fun j => ?_, fun j p hj => ?_⟩, E.2.2.2.2⟩
      · unfold va_up; split
        · omega
        · exact E9 j
      · unfold va_up; split
        · omega
        · exact E10 j
      · unfold va_up; split
        · omega
        · exact E11 j
      · by_cases hjl : j < ps.length
        · rw [List.getElem?_append_left hjl] at hj
          obtain ⟨r1, r2, r3, r4⟩ := E12 j p hj
          have e1 : va_up aB ps.length 1 j = aB j := if_neg (by omega)
          have e2 : va_up aV ps.length 1 j = aV j := if_neg (by omega)
          rw [e1, e2]
          refine ⟨?_, r2, r3, r4⟩
          rw [← r1]
          refine sl_congr _ _ (fun z _ hz => ?_)
          have := E9 j
          show (if 15 * j + z = 15 * ps.length then n' else aQ (15 * j + z)) = _
          rw [if_neg (by omega)]
        · have hjl2 : j = ps.length := by
            have := (List.getElem?_eq_some_iff.mp hj).1
            rw [hlen] at this
            omega
          subst hjl2
          rw [get_pre] at hj
          cases hj
          have e1 : va_up aB ps.length 1 ps.length = 1 := if_pos rfl
          have e2 : va_up aV ps.length 1 ps.length = 1 := if_pos rfl
          rw [e1, e2]
          refine ⟨?_, rfl, ?_, ?_⟩
          · show [if 15 * ps.length + 0 = 15 * ps.length then n' else _] = [n']
            rw [if_pos (Nat.add_zero _)]
          · show 1 = (if n' < 16 then 1 else 0) + 0
            rw [if_pos hn]
          · show if n' < 16 then 0 < 8 ∧ 0 + 1 = 1 else _
            rw [if_pos hn]
            exact ⟨by omega, rfl⟩
    have J' := lj_ref (tw := 0) X2 S2 E' (by show h'.2.1 ≤ _; omega) (by show h'.2.2 ≤ _; omega)
    rw [hlen] at J'
    refine ps_s_is6 p140_433 ?_
    exact tl_435 (by omega) rfl (by omega) hgo (fun _ => ⟨_, rf_out X2.1.1 S2 (rL_kd ..) pp_eq, out0 _ _⟩) (K _ _ _ J')
