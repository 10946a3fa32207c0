/-! The law: its loop, its start; what was owed. -/
theorem and31 (a : Int32) : ∃ n : Nat, n < 32 ∧ a &&& Int32.ofNat 31 = Int32.ofNat n := by
  refine ⟨(a.toBitVec &&& 31#32).toNat, ?_, ?_⟩
  · rw [BitVec.toNat_and]
    exact Nat.lt_of_le_of_lt Nat.and_le_right (by decide)
  · apply Int32.toBitVec_inj.mp
    rw [Int32.toBitVec_and]
    show a.toBitVec &&& 31#32 = BitVec.ofNat 32 (a.toBitVec &&& 31#32).toNat
    rw [BitVec.ofNat_toNat, BitVec.setWidth_eq]
theorem lj_le {G : pm_G} {b nb x m ou k : Nat} {xs : Nat → Int32} {h : pm_S} (J : lJ G b nb xs x m ou k h) : lJ G b nb xs x m ou (k + 1) h := by
  obtain ⟨o, dr, pi, pg, ba, kD, lD, rD, kP, lP, rP, room, nn, pw, ts, ps, bx, Ss, Lb, tw, dc, li, sz, aD, aK, aL, aT, aS, aX, aM, aC, aN, aO, aQ, aB, aV, aH, X, S, E, n1, n2⟩ := J
  exact lj_mk X S (rel_k E (Nat.le_succ _)) (by omega) (by omega)
theorem neg3 : ∀ n, n < 3 → Int32.ofNat n - Int32.ofNat 3 < 0 := by decide
theorem law_loop {G : pm_G} {b nb x m ou d : Nat} {xs : Nat → Int32} {Q : pm_Q} (hd : 30 ≤ d) (hnb : nb ≤ 1537) (hQ : ∀ k h, k ≤ 512 → lJ G b nb xs x m ou k h → Q (.inl (some (iN 1))) h) : ∀ n k i u5 u6 h, i = 1 + 3 * k → nb ≤ i + 2 + 3 * n → k ≤ 512 → lJ G b nb xs x m ou k h → ps_X G d 140 33 [some (.ref b), some (.ref x), some (.ref m), some (.ref ou), some (iN i), u5, u6] [] h Q := by
  intro n
  induction n with
  | zero =>
    intro k i u5 u6 h hi hn hk J
    have J' := J
    obtain ⟨o, _, _, _, _, _, _, _, _, _, _, _, _, _, _, _, _, _, _, _, _, _, _, _, _, _, _, _, _, _, _, _, _, _, _, _, _, X, S, E, n1, n2⟩ := J'
    have hb1 := S.2.2.2.2.2.1
    have out : ps_X G d 140 842 [some (.ref b), some (.ref x), some (.ref m), some (.ref ou), some (iN i), u5, u6] [] h Q := by
      refine ps_s_k p140_842 ?_
      refine ps_s_rz p140_843 t140 (by first | exact .inl rfl | exact .inr rfl | exact bN_01 _) ?_
      exact hQ k h hk J
    refine ps_s_il p140_33 rfl ?_
    refine ps_s_al p140_35 rfl ?_
    refine ps_s_al0 p140_36 hb1 ?_
    refine ps_s_k p140_37 ?_
    by_cases h3 : nb < 3
    · refine ps_s_2 p140_38 ?_
      refine ps_s_j p140_39 (fun _ => out) (fun c => absurd ?_ (of_decide_eq_false c))
      exact Int32.lt_of_lt_of_le (neg3 nb h3) (Int32.not_lt.mp (i_ge0 (by omega)))
    · refine ps_s_sub p140_38 (by omega) ?_
      refine ps_s_gt p140_39 (by omega) (by omega) (fun c39 => ?_) (fun c39 => ?_)
      · exact out
      · omega
  | succ n ih =>
    intro k i u5 u6 h hi hn hk J
    have J' := J
    obtain ⟨o, _, _, _, _, _, _, _, _, _, _, _, _, _, _, _, _, _, _, _, _, _, _, _, _, _, _, _, _, _, _, _, _, _, _, _, _, X, S, E, n1, n2⟩ := J'
    have hb1 := S.2.2.2.2.2.1
    have out : ps_X G d 140 842 [some (.ref b), some (.ref x), some (.ref m), some (.ref ou), some (iN i), u5, u6] [] h Q := by
      refine ps_s_k p140_842 ?_
      refine ps_s_rz p140_843 t140 (by first | exact .inl rfl | exact .inr rfl | exact bN_01 _) ?_
      exact hQ k h hk J
    refine ps_s_il p140_33 rfl ?_
    refine ps_s_al p140_35 rfl ?_
    refine ps_s_al0 p140_36 hb1 ?_
    refine ps_s_k p140_37 ?_
    by_cases h3 : nb < 3
    · refine ps_s_2 p140_38 ?_
      refine ps_s_j p140_39 (fun _ => out) (fun c => absurd ?_ (of_decide_eq_false c))
      exact Int32.lt_of_lt_of_le (neg3 nb h3) (Int32.not_lt.mp (i_ge0 (by omega)))
    · refine ps_s_sub p140_38 (by omega) ?_
      refine ps_s_gt p140_39 (by omega) (by omega) (fun c39 => ?_) (fun c39 => ?_)
      · exact out
      · have K : ∀ u5 u6 h', lJ G b nb xs x m ou (k + 1) h' → ps_X G d 140 836 [some (.ref b), some (.ref x), some (.ref m), some (.ref ou), some (iN i), u5, u6] [] h' Q := by
          intro u5 u6 h' J1
          refine ps_s_in4 p140_836 ?_
          refine ps_s_go p140_839 ?_
          exact ih (k + 1) (i + 3) u5 u6 h' (by omega) (by omega) (by omega) J1
        first | refine ps_s_al p140_42 rfl ?_ | refine ps_s_aln p140_42 rfl ?_
        refine ps_s_il p140_43 rfl ?_
        refine ps_s_iav p140_45 hb1 rfl (by omega) (by omega) ?_
        refine ps_s_k p140_46 ?_
        obtain ⟨w, hw, ew⟩ := and31 (xs i)
        refine ps_s_2e p140_48 ew ?_
        by_cases w0 : w = 0
        · subst w0
          refine ps_s_ts (t := 136) (o := 87) p140_49 rfl rfl (by decide) rfl ?_
          exact lc_type J hd (by omega) hnb (by omega) K
        by_cases w1 : w = 1
        · subst w1
          refine ps_s_ts (t := 192) (o := 143) p140_49 rfl rfl (by decide) rfl ?_
          exact lc_add J hd (by omega) hnb (by omega) K
        by_cases w2 : w = 2
        · subst w2
          refine ps_s_ts (t := 248) (o := 199) p140_49 rfl rfl (by decide) rfl ?_
          exact lc_delete J hd (by omega) hnb (by omega) K
        by_cases w3 : w = 3
        · subst w3
          refine ps_s_ts (t := 273) (o := 224) p140_49 rfl rfl (by decide) rfl ?_
          exact lc_commit J hd (by omega) hnb (by omega) K
        by_cases w4 : w = 4
        · subst w4
          refine ps_s_ts (t := 317) (o := 268) p140_49 rfl rfl (by decide) rfl ?_
          exact lc_merge J hd (by omega) hnb (by omega) K
        by_cases w5 : w = 5
        · subst w5
          refine ps_s_ts (t := 385) (o := 336) p140_49 rfl rfl (by decide) rfl ?_
          exact lc_fail J hd (by omega) hnb (by omega) K
        by_cases w6 : w = 6
        · subst w6
          refine ps_s_ts (t := 410) (o := 361) p140_49 rfl rfl (by decide) rfl ?_
          exact lc_want J hd (by omega) hnb (by omega) K
        by_cases w7 : w = 7
        · subst w7
          refine ps_s_ts (t := 466) (o := 417) p140_49 rfl rfl (by decide) rfl ?_
          exact lc_combine J hd (by omega) hnb (by omega) K
        by_cases w8 : w = 8
        · subst w8
          refine ps_s_ts (t := 522) (o := 473) p140_49 rfl rfl (by decide) rfl ?_
          exact lc_discard J hd (by omega) hnb (by omega) K
        by_cases w9 : w = 9
        · subst w9
          refine ps_s_ts (t := 566) (o := 517) p140_49 rfl rfl (by decide) rfl ?_
          exact lc_count J hd (by omega) hnb (by omega) K
        by_cases w10 : w = 10
        · subst w10
          refine ps_s_ts (t := 610) (o := 561) p140_49 rfl rfl (by decide) rfl ?_
          exact lc_match J hd (by omega) hnb (by omega) K
        by_cases w11 : w = 11
        · subst w11
          refine ps_s_ts (t := 666) (o := 617) p140_49 rfl rfl (by decide) rfl ?_
          exact lc_places J hd (by omega) hnb (by omega) K
        by_cases w12 : w = 12
        · subst w12
          refine ps_s_ts (t := 722) (o := 673) p140_49 rfl rfl (by decide) rfl ?_
          exact lc_documents J hd (by omega) hnb (by omega) K
        by_cases w13 : w = 13
        · subst w13
          refine ps_s_ts (t := 735) (o := 686) p140_49 rfl rfl (by decide) rfl ?_
          exact lc_buffered J hd (by omega) hnb (by omega) K
        by_cases w14 : w = 14
        · subst w14
          refine ps_s_ts (t := 748) (o := 699) p140_49 rfl rfl (by decide) rfl ?_
          exact lc_segments J hd (by omega) hnb (by omega) K
        by_cases w15 : w = 15
        · subst w15
          refine ps_s_ts (t := 761) (o := 712) p140_49 rfl rfl (by decide) rfl ?_
          exact lc_size J hd (by omega) hnb (by omega) K
        by_cases w16 : w = 16
        · subst w16
          refine ps_s_ts (t := 786) (o := 737) p140_49 rfl rfl (by decide) rfl ?_
          exact lc_at J hd (by omega) hnb (by omega) K
        by_cases w17 : w = 17
        · subst w17
          refine ps_s_ts (t := 823) (o := 774) p140_49 rfl rfl (by decide) rfl ?_
          exact lc_free J hd (by omega) hnb (by omega) K
        · have hti : (Int32.ofNat w).toInt = (w : Int) := Int32.toInt_ofNat_of_lt (by simp; omega)
          refine ps_s_ts (t := 836) (o := 787) p140_49 rfl ?_ (by decide) rfl ?_
          · unfold pm_jmp
            dsimp only
            rw [if_pos (by rw [hti]; omega)]
          · exact K _ _ _ (lj_le J)
