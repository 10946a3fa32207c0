/-! The law's case: combine. -/
theorem sl_len2 {f : Nat → Nat} {n : Nat} {l : List Nat} (h : sl f 0 n = l) : n = l.length := by rw [← h, sl_len]
theorem sl_shift (f g : Nat → Nat) (a b : Nat) : ∀ n, (∀ j, j < n → f (a + j) = g (b + j)) → sl f a n = sl g b n := by
  intro n
  induction n generalizing a b with
  | zero => intro _; rfl
  | succ n ih =>
    intro h
    rw [sl_s, sl_s]
    have h0 := h 0 (by omega)
    rw [Nat.add_zero, Nat.add_zero] at h0
    rw [h0, ih (a + 1) (b + 1) (fun j hj => by have := h (j + 1) (by omega); rw [show a + 1 + j = a + (j + 1) by omega, show b + 1 + j = b + (j + 1) by omega]; exact this)]
theorem lc_combine {i d k b nb x m ou : Nat} {xs : Nat → Int32} {G : pm_G} {h : pm_S} {Q : pm_Q} {u5 u6 : Option Value} (J : lJ G b nb xs x m ou k h) (hd : 30 ≤ d) (hi : i + 2 < nb) (hnb : nb ≤ 1537) (hk : k < 512) (K : ∀ u5 u6 h', lJ G b nb xs x m ou (k + 1) h' → ps_X G d 140 836 [some (.ref b), some (.ref x), some (.ref m), some (.ref ou), some (iN i), u5, u6] [] h' Q) : ps_X G d 140 466 [some (.ref b), some (.ref x), some (.ref m), some (.ref ou), some (iN i), u5, u6] [] h Q := by
  obtain ⟨o, dr, pi, pg, ba, kD, lD, rD, kP, lP, rP, room, nn, pw, ts, ps, bx, Ss, Lb, tw, dc, li, sz, aD, aK, aL, aT, aS, aX, aM, aC, aN, aO, aQ, aB, aV, aH, X, S, E, n1, n2⟩ := J
  have X' := X
  obtain ⟨X0, ⟨pf, bf', x1, _⟩, _⟩ := X'
  obtain ⟨fm, m1⟩ := ls_mo S
  have E' := E
  obtain ⟨⟨E1, E2, E3⟩, E4, ⟨E5, E6, E7⟩, ⟨E8, E9, E10, E11, E12⟩, ⟨E13, E14⟩, E15, I⟩ := E'
  have hb1 := S.2.2.2.2.2.1
  have hgm := S.2.2.2.1
  have hgo := S.2.2.2.2.1.2.2
  obtain ⟨f1, f2, f3⟩ := inv_facts I E13 E14
  have hBV : ∀ j, j < ps.length → aB j + 1 = 2 * aV j := fun j hj => (E12 j _ (List.getElem?_eq_getElem hj)).2.1
  first | refine ps_s_al p140_466 rfl ?_ | refine ps_s_aln p140_466 rfl ?_
  first | refine ps_s_al p140_467 rfl ?_ | refine ps_s_aln p140_467 rfl ?_
  refine ps_s_il p140_468 rfl ?_
  refine ps_s_k p140_470 ?_
  first | refine ps_s_add p140_471 ?_ | refine ps_s_2 p140_471 ?_
  refine ps_s_iav p140_472 hb1 rfl (by omega) (by omega) ?_
  refine ps_s_al p140_473 rfl ?_
  refine ps_s_vS [_, _, _] _ p140_474 rfl rfl rfl rfl (hl_78 (R1 := fun c h' => h' = pm_gap h 6 ∧ ((c = 0 ∧ ¬ ∃ n : Nat, n < 11 ∧ xs (i + 1) = Int32.ofNat n) ∨ (c = 2 ∧ (∃ n : Nat, n < 11 ∧ xs (i + 1) = Int32.ofNat n) ∧ ps.length < 2) ∨ (c = 1 ∧ (∃ n : Nat, n < 11 ∧ xs (i + 1) = Int32.ofNat n) ∧ ∃ P b t, ps = P ++ [b, t] ∧ 8 < lv b.2 + lv t.2))) (R2 := fun v h' => ∃ (n : Nat) (P : List (Nat × List Nat)) (b t : Nat × List Nat) (o' : Nat → Nat) (q c s : Nat), n < 11 ∧ xs (i + 1) = Int32.ofNat n ∧ ps = P ++ [b, t] ∧ lv b.2 + lv t.2 ≤ 8 ∧ v = Int32.ofNat (P.length + 1) ∧ cF G (cU h) h o h' o' c s ∧ c ≤ 3 ∧ s ≤ 100 ∧ (cX G (o') (h') x dr pi pg ba kD lD rD kP lP rP room nn pw ts (P ++ [(q, b.2 ++ (t.2 ++ [16 + n]))]) bx Ss Lb)) x1 (fun c h' r => r.2.elim (fun q => .inl q.1) (fun q => .inr (q.elim (fun q => .inl q.1) (fun q => .inr q.1)))) (fun Q' T V => x_combine X E8 (fun q => T 0 _ ⟨rfl, .inl ⟨rfl, q⟩⟩) (fun q1 q2 => T 2 _ ⟨rfl, .inr (.inl ⟨rfl, q1, q2⟩)⟩) (fun q1 P b t q2 q3 => T 1 _ ⟨rfl, .inr (.inr ⟨rfl, q1, P, b, t, q2, q3⟩)⟩) (fun n hn e P b t hP hl h' o' q c s F hc hs X' => V _ _ ⟨n, P, b, t, o', q, c, s, hn, e, hP, hl, rfl, F, hc, hs, X'⟩)) hgo (fun v h' r => by obtain ⟨_, _, _, _, _, _, _, _, _, _, _, _, _, F, _⟩ := r; exact ls_oe (ls_U S F)) (fun h' r => ps_bki ?_) (fun h' r => ps_bki ?_) (fun h' r => ps_bki ?_) (fun v h' g r e => ps_bki ?_) d (by omega))
  · obtain ⟨rfl, r⟩ := r
    have hno : ¬ ∃ n : Nat, n < 11 ∧ xs (i + 1) = Int32.ofNat n := by
      rcases r with r | r | r
      · exact r.2
      · exact absurd r.1 (by decide)
      · exact absurd r.1 (by decide)
    obtain ⟨X1, S1⟩ := lg_thr (e := 6) X S
    obtain ⟨fm1, m2⟩ := ls_mo S1
    refine ps_s_is5 p140_477 ?_
    first | refine ps_s_al p140_479 rfl ?_ | refine ps_s_aln p140_479 rfl ?_
    first | refine ps_s_al p140_480 rfl ?_ | refine ps_s_aln p140_480 rfl ?_
    refine ps_s_il p140_481 rfl ?_
    refine ps_s_k p140_483 ?_
    first | refine ps_s_add p140_484 ?_ | refine ps_s_2 p140_484 ?_
    refine ps_s_iav p140_485 S1.2.2.2.2.2.1 rfl (by omega) (by omega) ?_
    refine ps_s_vV [_] _ p140_486 rfl m2 rfl rfl rfl (ls_Mr S1 (rf_combine hgm E8 E9 E10 hBV E11 (fun _ => ps_bki ?_) (fun q _ => absurd q hno) (fun q _ _ => absurd q hno) (fun n hn e _ _ => absurd ⟨n, hn, e⟩ hno)) d (by omega))
    refine ps_s_is6 p140_489 ?_
    exact tl_491 (by omega) rfl (by omega) hgo (fun e => absurd e (by decide)) (K _ _ _ (lj_ref X1 S1 (rel_k E (Nat.le_succ _)) (by show h.2.1 + 1 ≤ _; omega) (by show h.2.2 + 6 ≤ _; omega)))
  · obtain ⟨rfl, r⟩ := r
    have hyes : (∃ n : Nat, n < 11 ∧ xs (i + 1) = Int32.ofNat n) ∧ ps.length < 2 := by
      rcases r with r | r | r
      · exact absurd r.1 (by decide)
      · exact r.2
      · exact absurd r.1 (by decide)
    obtain ⟨X1, S1⟩ := lg_thr (e := 6) X S
    obtain ⟨fm1, m2⟩ := ls_mo S1
    refine ps_s_is5 p140_477 ?_
    first | refine ps_s_al p140_479 rfl ?_ | refine ps_s_aln p140_479 rfl ?_
    first | refine ps_s_al p140_480 rfl ?_ | refine ps_s_aln p140_480 rfl ?_
    refine ps_s_il p140_481 rfl ?_
    refine ps_s_k p140_483 ?_
    first | refine ps_s_add p140_484 ?_ | refine ps_s_2 p140_484 ?_
    refine ps_s_iav p140_485 S1.2.2.2.2.2.1 rfl (by omega) (by omega) ?_
    refine ps_s_vV [_] _ p140_486 rfl m2 rfl rfl rfl (ls_Mr S1 (rf_combine hgm E8 E9 E10 hBV E11 (fun q => absurd hyes.1 q) (fun _ _ => ps_bki ?_) (fun _ q _ => by omega) (fun n hn e q _ => by omega)) d (by omega))
    refine ps_s_is6 p140_489 ?_
    exact tl_491 (by omega) rfl (by omega) hgo (fun e => absurd e (by decide)) (K _ _ _ (lj_ref X1 S1 (rel_k E (Nat.le_succ _)) (by show h.2.1 + 1 ≤ _; omega) (by show h.2.2 + 6 ≤ _; omega)))
  · obtain ⟨rfl, r⟩ := r
    have hyes : (∃ n : Nat, n < 11 ∧ xs (i + 1) = Int32.ofNat n) ∧ ∃ P b t, ps = P ++ [b, t] ∧ 8 < lv b.2 + lv t.2 := by
      rcases r with r | r | r
      · exact absurd r.1 (by decide)
      · exact absurd r.1 (by decide)
      · exact r.2
    obtain ⟨hy1, P, bb, tt, hP, hl⟩ := hyes
    have hpl : ps.length = P.length + 2 := by rw [hP, List.length_append]; rfl
    have g1 : aV P.length = lv bb.2 := (E12 P.length bb (by rw [hP, get_pre])).2.2.1
    have g2 : aV (P.length + 1) = lv tt.2 := (E12 (P.length + 1) tt (by rw [hP, show P ++ [bb, tt] = (P ++ [bb]) ++ [tt] by simp, show P.length + 1 = (P ++ [bb]).length by rw [List.length_append]; rfl, get_pre])).2.2.1
    obtain ⟨X1, S1⟩ := lg_thr (e := 6) X S
    obtain ⟨fm1, m2⟩ := ls_mo S1
    have hsub : ps.length - 2 = P.length := by omega
    refine ps_s_is5 p140_477 ?_
    first | refine ps_s_al p140_479 rfl ?_ | refine ps_s_aln p140_479 rfl ?_
    first | refine ps_s_al p140_480 rfl ?_ | refine ps_s_aln p140_480 rfl ?_
    refine ps_s_il p140_481 rfl ?_
    refine ps_s_k p140_483 ?_
    first | refine ps_s_add p140_484 ?_ | refine ps_s_2 p140_484 ?_
    refine ps_s_iav p140_485 S1.2.2.2.2.2.1 rfl (by omega) (by omega) ?_
    refine ps_s_vV [_] _ p140_486 rfl m2 rfl rfl rfl (ls_Mr S1 (rf_combine hgm E8 E9 E10 hBV E11 (fun q => absurd hy1 q) (fun _ q => by omega) (fun _ _ _ => ps_bki ?_) (fun n hn e q1 q2 => by rw [hsub] at q2; omega)) d (by omega))
    refine ps_s_is6 p140_489 ?_
    exact tl_491 (by omega) rfl (by omega) hgo (fun e => absurd e (by decide)) (K _ _ _ (lj_ref X1 S1 (rel_k E (Nat.le_succ _)) (by show h.2.1 + 1 ≤ _; omega) (by show h.2.2 + 6 ≤ _; omega)))
  · obtain ⟨n, P, bb, tt, o', q, c, s, hn, en, hP, hl, rfl, F, hc, hs, X1⟩ := r
    obtain ⟨X2, S2⟩ := lg_ok (g' := vp_updL g 0 (Int32.ofNat (P.length + 1)).toInt64) X1 (ls_U S F) e
    obtain ⟨fm1, m2⟩ := ls_mo S2
    have hF := F.2.2
    have hpl : ps.length = P.length + 2 := by rw [hP, List.length_append]; rfl
    obtain ⟨b1, b2, b3, b4⟩ := E12 P.length bb (by rw [hP, get_pre])
    obtain ⟨t1, t2, t3, t4⟩ := E12 (P.length + 1) tt (by rw [hP, show P ++ [bb, tt] = (P ++ [bb]) ++ [tt] by simp, show P.length + 1 = (P ++ [bb]).length by rw [List.length_append]; rfl, get_pre])
    have hsub : ps.length - 2 = P.length := by omega
    have lb := sl_len2 b1
    have lt := sl_len2 t1
    refine ps_s_is5 p140_477 ?_
    first | refine ps_s_al p140_479 rfl ?_ | refine ps_s_aln p140_479 rfl ?_
    first | refine ps_s_al p140_480 rfl ?_ | refine ps_s_aln p140_480 rfl ?_
    refine ps_s_il p140_481 rfl ?_
    refine ps_s_k p140_483 ?_
    first | refine ps_s_add p140_484 ?_ | refine ps_s_2 p140_484 ?_
    refine ps_s_iav p140_485 S2.2.2.2.2.2.1 rfl (by omega) (by omega) ?_
    refine ps_s_vV [_] _ p140_486 rfl m2 rfl rfl rfl (ls_Mr S2 (rf_combine hgm E8 E9 E10 hBV E11 (fun q => absurd ⟨n, hn, en⟩ q) (fun _ q => by omega) (fun _ _ q => by rw [hsub] at q; omega) (fun n' hn' en' _ _ => ps_bki ?_)) d (by omega))
    have hnn : n' = n := ps_ofNat_inj (by omega) (by omega) (en'.symm.trans en)
    subst hnn
    rw [hsub]
    have hlen : (P ++ [(q, bb.2 ++ (tt.2 ++ [16 + n']))]).length = ps.length - 1 := by rw [List.length_append]; show P.length + 1 = _; omega
    have hv : Int32.ofNat (P.length + 1) = Int32.ofNat (ps.length - 1) := by rw [show P.length + 1 = ps.length - 1 by omega]
    have E' : (rel (k + 1) room nn pw ts (P ++ [(q, bb.2 ++ (tt.2 ++ [16 + n']))]) bx Ss Lb dc li sz aD aK aL aT aS aX aM aC aN aO (va_up (cpM aQ (15 * P.length + aB P.length) (15 * P.length + 15) (aB (P.length + 1))) (15 * P.length + (aB P.length + aB (P.length + 1) + 1) - 1) (16 + n')) (va_up aB P.length (aB P.length + aB (P.length + 1) + 1)) (va_up aV P.length (aV P.length + aV (P.length + 1))) aH) := by
      have X2' := X2
      obtain ⟨_, _, _, ⟨_, CQ⟩, _⟩ := X2'
      refine ⟨⟨Nat.le_succ_of_le E1, E.1.2⟩, E.2.1, E.2.2.1, ⟨by rw [hlen]; omega, fun j => ?_, fun j => ?_, fun j => ?_, fun j p hj => ?_⟩, E.2.2.2.2⟩
      · unfold va_up; split
        · omega
        · exact E9 j
      · unfold va_up; split
        · omega
        · exact E10 j
      · unfold va_up; split
        · omega
        · unfold cpM; split
          · exact E11 _
          · exact E11 _
      · by_cases hjl : j < P.length
        · rw [List.getElem?_append_left hjl] at hj
          obtain ⟨r1, r2, r3, r4⟩ := E12 j p (by rw [hP, List.getElem?_append_left hjl]; exact hj)
          have e1 : va_up aB P.length (aB P.length + aB (P.length + 1) + 1) j = aB j := if_neg (by omega)
          have e2 : va_up aV P.length (aV P.length + aV (P.length + 1)) j = aV j := if_neg (by omega)
          rw [e1, e2]
          refine ⟨?_, r2, r3, r4⟩
          rw [← r1]
          refine sl_congr _ _ (fun z _ hz => ?_)
          have := E9 j
          unfold va_up cpM
          rw [if_neg (by omega), if_neg (by omega)]
        · have hjl2 : j = P.length := by
            have := (List.getElem?_eq_some_iff.mp hj).1
            rw [hlen] at this
            omega
          subst hjl2
          rw [get_pre] at hj
          cases hj
          have e1 : va_up aB P.length (aB P.length + aB (P.length + 1) + 1) P.length = aB P.length + (aB (P.length + 1) + 1) := (if_pos rfl).trans (by omega)
          have e2 : va_up aV P.length (aV P.length + aV (P.length + 1)) P.length = aV P.length + aV (P.length + 1) := if_pos rfl
          have elv : lv (bb.2 ++ (tt.2 ++ [16 + n'])) = lv bb.2 + lv tt.2 := by
            rw [lv_app, lv_app, show lv [16 + n'] = 0 by show (if 16 + n' < 16 then 1 else 0) + 0 = 0; rw [if_neg (by omega)], Nat.add_zero]
          have cqn := CQ (q, bb.2 ++ (tt.2 ++ [16 + n'])) (List.mem_append_right _ (List.mem_singleton.mpr rfl))
          rw [e1, e2]
          refine ⟨?_, by omega, by rw [elv]; omega, cq_wf0 cqn.1 cqn.2⟩
          rw [sl_app, sl_app]
          congr 1
          · rw [← b1]
            refine sl_congr _ _ (fun z _ hz => ?_)
            unfold va_up cpM
            rw [if_neg (by omega), if_neg (by omega)]
          · congr 1
            · rw [← t1]
              refine sl_shift _ _ _ _ _ (fun z hz => ?_)
              unfold va_up cpM
              rw [if_neg (by omega), if_pos ⟨by omega, by omega⟩]
              congr 1
              omega
            · show [va_up (cpM aQ (15 * P.length + aB P.length) (15 * P.length + 15) (aB (P.length + 1))) (15 * P.length + (aB P.length + aB (P.length + 1) + 1) - 1) (16 + n') (15 * P.length + (0 + aB P.length + aB (P.length + 1)))] = [16 + n']
              congr 1
              unfold va_up
              rw [if_pos (by omega)]
    have J' := lj_ref (tw := 0) X2 S2 E' (by show h'.2.1 ≤ _; omega) (by show h'.2.2 ≤ _; omega)
    rw [hlen] at J'
    refine ps_s_is6 p140_489 ?_
    refine tl_491 (by omega) rfl (by omega) hgo (fun _ => ⟨_, rf_out X2.1.1 S2 (rL_kd ..) pp_eq, ?_⟩) (K _ _ _ J')
    rw [← hv]
    exact out0 _ _
