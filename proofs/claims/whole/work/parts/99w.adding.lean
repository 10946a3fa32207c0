/-! The law's case: add. -/
theorem bx_eq {bx : List (Nat × pD)} (h : ∀ y ∈ bx.map (·.2), y.2 = (0, 0)) : bx.map (·.2) = (bx.map (·.2.1)).map (fun x => ((x, 0, 0) : pD)) := by
  rw [List.map_map]
  apply List.map_congr_left
  intro y hy
  have := h y.2 (List.mem_map.mpr ⟨y, hy, rfl⟩)
  show y.2 = (y.2.1, 0, 0)
  exact Prod.ext rfl this
section AIX
variable {sg : List pG} {dc cn : Nat} {aK aL aT aS aX aM aN : Nat → Nat} {bx : List (Nat × pD)}
theorem rB_ix (h : rB (bx.map (·.2.1)) dc bx.length aK aL aT aS aX aM) (hz : ∀ y ∈ bx.map (·.2), y.2 = (0, 0)) (j : Nat) (hj : j < bx.length) : (bx.map (·.2))[j]? = some (untag (rowOf aK aL aT aS aX aM (dc + j))) := by
  have e := h.2
  rw [← bx_eq hz] at e
  rw [← e, List.getElem?_map, rws_get _ _ _ _ hj]
  rfl
theorem all_ix (hS : rS sg dc cn aK aL aT aS aX aM aN) (hB : rB (bx.map (·.2.1)) dc bx.length aK aL aT aS aX aM) (hz : ∀ y ∈ bx.map (·.2), y.2 = (0, 0)) (j : Nat) (hj : j < dc + bx.length) : (sg.flatMap (·.2) ++ bx.map (·.2))[j]? = some (untag (rowOf aK aL aT aS aX aM j)) := by
  have hd := rS_dc hS
  by_cases q : j < dc
  · rw [List.getElem?_append_left (by omega), rS_ix hS j q]
  · rw [List.getElem?_append_right (by omega), ← hd, rB_ix hB hz (j - dc) (by omega), show dc + (j - dc) = j by omega]
end AIX
theorem lc_add {i d k b nb x m ou : Nat} {xs : Nat → Int32} {G : pm_G} {h : pm_S} {Q : pm_Q} {u5 u6 : Option Value} (J : lJ G b nb xs x m ou k h) (hd : 30 ≤ d) (hi : i + 2 < nb) (hnb : nb ≤ 1537) (hk : k < 512) (K : ∀ u5 u6 h', lJ G b nb xs x m ou (k + 1) h' → ps_X G d 140 836 [some (.ref b), some (.ref x), some (.ref m), some (.ref ou), some (iN i), u5, u6] [] h' Q) : ps_X G d 140 192 [some (.ref b), some (.ref x), some (.ref m), some (.ref ou), some (iN i), u5, u6] [] h Q := by
  obtain ⟨o, dr, pi, pg, ba, kD, lD, rD, kP, lP, rP, room, nn, pw, ts, ps, bx, Ss, Lb, tw, dc, li, sz, aD, aK, aL, aT, aS, aX, aM, aC, aN, aO, aQ, aB, aV, aH, X, S, E, n1, n2⟩ := J
  have X' := X
  obtain ⟨X0, ⟨pf, bf', x1, _⟩, _⟩ := X'
  obtain ⟨fm, m1⟩ := ls_mo S
  have E' := E
  obtain ⟨⟨E1, E2, E3⟩, E4, ⟨E5, E6, E7⟩, ⟨E8, E9, E10, E11, E12⟩, ⟨E13, E14⟩, E15, I⟩ := E'
  have hb1 := S.2.2.2.2.2.1
  have hgm := S.2.2.2.1
  have hgo := S.2.2.2.2.1.2.2
  obtain ⟨f1, f2, f3⟩ := inv_facts I E13 E14
  have hz0 := I.2.1
  have hdc := rS_dc E13
  have hall : ∀ j, j < dc + bx.length → ((Ss.map gS).flatMap (·.2) ++ bx.map (·.2))[j]? = some (untag (rowOf aK aL aT aS aX aM j)) := all_ix E13 E14 hz0
  have hmapA : (Ss.flatMap dS ++ bx).map (·.2) = (Ss.map gS).flatMap (·.2) ++ bx.map (·.2) := by rw [List.map_append, fl_gS]
  have hlenA : (Ss.flatMap dS ++ bx).length = dc + bx.length := by
    have := congrArg List.length hmapA
    rw [List.length_map, List.length_append, List.length_append, List.length_map, ← hdc] at this
    rw [List.length_append]
    exact this
  have hcond : (xs (i + 1) < 0 ∨ ∃ P p, Ss.flatMap dS ++ bx = P ++ [p] ∧ xs (i + 1) ≤ Int32.ofNat p.2.1.1) ↔ (xs (i + 1) < 0 ∨ (0 < dc + bx.length ∧ xs (i + 1) ≤ Int32.ofNat (aK (dc + bx.length - 1)))) := by
    have key : ∀ P p, Ss.flatMap dS ++ bx = P ++ [p] → 0 < dc + bx.length ∧ p.2.1.1 = aK (dc + bx.length - 1) := by
      intro P p hP
      have hl : dc + bx.length = P.length + 1 := by rw [← hlenA, hP, List.length_append]; rfl
      refine ⟨by omega, ?_⟩
      have h1 := hall (dc + bx.length - 1) (by omega)
      rw [← hmapA, List.getElem?_map, ← hlenA, last_get hP] at h1
      have := congrArg (fun y : pD => y.1.1) (Option.some.inj h1)
      rw [hlenA] at this
      exact this
    constructor
    · rintro (q | ⟨P, p, hP, q⟩)
      · exact .inl q
      · obtain ⟨k1, k2⟩ := key P p hP
        exact .inr ⟨k1, by rw [← k2]; exact q⟩
    · rintro (q | ⟨q1, q2⟩)
      · exact .inl q
      · have hne : Ss.flatMap dS ++ bx ≠ [] := fun e => by rw [e] at hlenA; rw [← hlenA] at q1; exact absurd q1 (by decide)
        obtain ⟨P, p, hP⟩ := snoc_ex _ hne
        exact .inr ⟨P, p, hP, by rw [(key P p hP).2]; exact q2⟩
  have hneS : ∀ S ∈ Ss, dS S ≠ [] := by
    intro S' hS' e
    obtain ⟨y, hy, _⟩ := I.2.2.2.2.1 (gS S') (List.mem_map.mpr ⟨S', hS', rfl⟩)
    have : y ∈ (dS S').map (·.2) := hy
    rw [e] at this
    cases this
  first | refine ps_s_al p140_192 rfl ?_ | refine ps_s_aln p140_192 rfl ?_
  first | refine ps_s_al p140_193 rfl ?_ | refine ps_s_aln p140_193 rfl ?_
  refine ps_s_il p140_194 rfl ?_
  refine ps_s_k p140_196 ?_
  first | refine ps_s_add p140_197 ?_ | refine ps_s_2 p140_197 ?_
  refine ps_s_iav p140_198 hb1 rfl (by omega) (by omega) ?_
  refine ps_s_al p140_199 rfl ?_
  refine ps_s_vS [_, _, _] _ p140_200 rfl rfl rfl rfl (hl_32 (R1 := fun c h' => h' = pm_gap h 6 ∧ ((c = 0 ∧ (xs (i + 1) < 0 ∨ (0 < dc + bx.length ∧ xs (i + 1) ≤ Int32.ofNat (aK (dc + bx.length - 1))))) ∨ (c = 1 ∧ ¬ (xs (i + 1) < 0 ∨ (0 < dc + bx.length ∧ xs (i + 1) ≤ Int32.ofNat (aK (dc + bx.length - 1)))) ∧ (ts.length = 0 ∨ bx.length = 12)))) (R2 := fun v h' => ¬ (xs (i + 1) < 0 ∨ (0 < dc + bx.length ∧ xs (i + 1) ≤ Int32.ofNat (aK (dc + bx.length - 1)))) ∧ ¬ (ts.length = 0 ∨ bx.length = 12) ∧ v = Int32.ofNat (bx.length + 1) ∧ ∃ (n : Nat) (o' : Nat → Nat) (q c s : Nat), n < 2147483648 ∧ xs (i + 1) = Int32.ofNat n ∧ cF G (cU h) h o h' o' c s ∧ c ≤ 5 ∧ s ≤ 200 ∧ (cX G (o') (h') x dr pi pg ba kD lD rD kP lP rP room nn pw ([]) ps (bx ++ [(q, ((n, ts), 0, 0))]) Ss Lb)) x1 (fun c h' r => r.2.elim (fun q => .inl q.1) (fun q => .inr q.1)) (fun Q' T V => x_add X f1 (by omega) hneS (fun q => T 0 _ ⟨rfl, .inl ⟨rfl, hcond.mp q⟩⟩) (fun q1 q2 => T 1 _ ⟨rfl, .inr ⟨rfl, fun q => q1 (hcond.mpr q), q2⟩⟩) (fun q1 q2 n hn e h' o' q c s F hc hs X' => V _ _ ⟨fun q => q1 (hcond.mpr q), q2, rfl, n, o', q, c, s, hn, e, F, hc, hs, X'⟩)) hgo (fun v h' r => by obtain ⟨_, _, _, n, o', q, c, s, _, _, F, _⟩ := r; exact ls_oe (ls_U S F)) (fun h' r => ps_bki ?_) (fun h' r => ps_bki ?_) (fun v h' g r e => ps_bki ?_) d (by omega))
  · obtain ⟨rfl, r⟩ := r
    have hc0 : xs (i + 1) < 0 ∨ (0 < dc + bx.length ∧ xs (i + 1) ≤ Int32.ofNat (aK (dc + bx.length - 1))) := by
      rcases r with r | r
      · exact r.2
      · exact absurd r.1 (by decide)
    obtain ⟨X1, S1⟩ := lg_thr (e := 6) X S
    obtain ⟨fm1, m2⟩ := ls_mo S1
    refine ps_s_is5 p140_203 ?_
    first | refine ps_s_al p140_205 rfl ?_ | refine ps_s_aln p140_205 rfl ?_
    first | refine ps_s_al p140_206 rfl ?_ | refine ps_s_aln p140_206 rfl ?_
    refine ps_s_il p140_207 rfl ?_
    refine ps_s_k p140_209 ?_
    first | refine ps_s_add p140_210 ?_ | refine ps_s_2 p140_210 ?_
    refine ps_s_iav p140_211 S1.2.2.2.2.2.1 rfl (by omega) (by omega) ?_
    refine ps_s_vV [_] _ p140_212 rfl m2 rfl rfl rfl (ls_Mr S1 (rf_add hgm E5 f1 (by omega) E13.1 E7 (fun _ => ps_bki ?_) (fun q _ => absurd hc0 q) (fun q => absurd hc0 q)) d (by omega))
    refine ps_s_is6 p140_215 ?_
    exact tl_217 (by omega) rfl (by omega) hgo (fun e => absurd e (by decide)) (K _ _ _ (lj_ref X1 S1 (rel_k E (Nat.le_succ _)) (by show h.2.1 + 1 ≤ _; omega) (by show h.2.2 + 6 ≤ _; omega)))
  · obtain ⟨rfl, r⟩ := r
    have hyes : ¬ (xs (i + 1) < 0 ∨ (0 < dc + bx.length ∧ xs (i + 1) ≤ Int32.ofNat (aK (dc + bx.length - 1)))) ∧ (ts.length = 0 ∨ bx.length = 12) := by
      rcases r with r | r
      · exact absurd r.1 (by decide)
      · exact r.2
    obtain ⟨X1, S1⟩ := lg_thr (e := 6) X S
    obtain ⟨fm1, m2⟩ := ls_mo S1
    refine ps_s_is5 p140_203 ?_
    first | refine ps_s_al p140_205 rfl ?_ | refine ps_s_aln p140_205 rfl ?_
    first | refine ps_s_al p140_206 rfl ?_ | refine ps_s_aln p140_206 rfl ?_
    refine ps_s_il p140_207 rfl ?_
    refine ps_s_k p140_209 ?_
    first | refine ps_s_add p140_210 ?_ | refine ps_s_2 p140_210 ?_
    refine ps_s_iav p140_211 S1.2.2.2.2.2.1 rfl (by omega) (by omega) ?_
    refine ps_s_vV [_] _ p140_212 rfl m2 rfl rfl rfl (ls_Mr S1 (rf_add hgm E5 f1 (by omega) E13.1 E7 (fun q => absurd q hyes.1) (fun _ _ => ps_bki ?_) (fun _ q => absurd hyes.2 q)) d (by omega))
    refine ps_s_is6 p140_215 ?_
    exact tl_217 (by omega) rfl (by omega) hgo (fun e => absurd e (by decide)) (K _ _ _ (lj_ref X1 S1 (rel_k E (Nat.le_succ _)) (by show h.2.1 + 1 ≤ _; omega) (by show h.2.2 + 6 ≤ _; omega)))
  · obtain ⟨hc0, hc1, rfl, n, o', q, c, s, hn, en, F, hc, hs, X1⟩ := r
    obtain ⟨X2, S2⟩ := lg_ok (g' := vp_updL g 0 (Int32.ofNat (bx.length + 1)).toInt64) X1 (ls_U S F) e
    obtain ⟨fm1, m2⟩ := ls_mo S2
    have hF := F.2.2
    refine ps_s_is5 p140_203 ?_
    first | refine ps_s_al p140_205 rfl ?_ | refine ps_s_aln p140_205 rfl ?_
    first | refine ps_s_al p140_206 rfl ?_ | refine ps_s_aln p140_206 rfl ?_
    refine ps_s_il p140_207 rfl ?_
    refine ps_s_k p140_209 ?_
    first | refine ps_s_add p140_210 ?_ | refine ps_s_2 p140_210 ?_
    refine ps_s_iav p140_211 S2.2.2.2.2.2.1 rfl (by omega) (by omega) ?_
    refine ps_s_vV [_] _ p140_212 rfl m2 rfl rfl rfl (ls_Mr S2 (rf_add hgm E5 f1 (by omega) E13.1 E7 (fun q => absurd q hc0) (fun _ q => absurd q hc1) (fun _ _ n' hn' en' aK' aL' aT' aX' aM' hbd' hrow => ps_bki ?_)) d (by omega))
    have hnn : n' = n := ps_ofNat_inj (by omega) (by omega) (en'.symm.trans en)
    subst hnn
    rw [E6] at hrow
    have hlen : (bx ++ [(q, ((n', ts), 0, 0))]).length = bx.length + 1 := by rw [List.length_append]; rfl
    have hlt : ∀ y ∈ (Ss.map gS).flatMap (·.2) ++ bx.map (·.2), y.1.1 < n' := by
      intro y hy
      obtain ⟨j, hj⟩ := List.mem_iff_getElem?.mp hy
      have hjl := (List.getElem?_eq_some_iff.mp hj).1
      rw [List.length_append, List.length_map, ← hdc] at hjl
      have hlast := hall (dc + bx.length - 1) (by omega)
      have hkl : aK (dc + bx.length - 1) < n' := by
        rw [en] at hc0
        apply Nat.lt_of_not_le
        intro hle
        exact hc0 (.inr ⟨by omega, (ps_le_iff hn' (E13.1.1 _)).mpr hle⟩)
      by_cases hjj : j = dc + bx.length - 1
      · rw [hjj, hlast] at hj
        have := Option.some.inj hj
        rw [← this]
        exact hkl
      · have hp := List.pairwise_iff_getElem.mp I.2.2.1 j (dc + bx.length - 1) (by rw [List.length_append, List.length_map, ← hdc]; omega) (by rw [List.length_append, List.length_map, ← hdc]; omega) (by omega)
        have e1 : ((Ss.map gS).flatMap (·.2) ++ bx.map (·.2))[j]'(by rw [List.length_append, List.length_map, ← hdc]; omega) = y := (List.getElem?_eq_some_iff.mp hj).2
        have e2 : ((Ss.map gS).flatMap (·.2) ++ bx.map (·.2))[dc + bx.length - 1]'(by rw [List.length_append, List.length_map, ← hdc]; omega) = untag (rowOf aK aL aT aS aX aM (dc + bx.length - 1)) := (List.getElem?_eq_some_iff.mp hlast).2
        rw [e1, e2] at hp
        exact Nat.lt_trans hp hkl
    have hts16 : ∀ t ∈ ts, t < 16 := by
      intro t ht
      rw [← E6] at ht
      obtain ⟨j, hj⟩ := sl_mem _ _ _ _ ht
      rw [← hj]
      exact E7 j
    have hmapB : List.map (fun y : Nat × pD => y.2) (bx ++ [(q, ((n', ts), 0, 0))]) = bx.map (·.2) ++ [((n', ts), 0, 0)] := by rw [List.map_append]; rfl
    have I' : inv li room (Ss.map gS) (List.map (fun y : Nat × pD => y.2) (bx ++ [(q, ((n', ts), 0, 0))])) := by
      obtain ⟨⟨i1, i2⟩, i3, i4, i5, i6, i7, i8⟩ := I
      rw [hmapB]
      rw [List.length_map] at i1
      refine ⟨⟨by rw [List.length_append, List.length_map]; show bx.length + 1 ≤ 12; omega, i2⟩, fun y hy => ?_, ?_, fun y hy => ?_, i6, i7, i8⟩
      · rcases List.mem_append.mp hy with hy | hy
        · exact i3 y hy
        · rw [List.mem_singleton.mp hy]
      · rw [← List.append_assoc]
        refine List.pairwise_append.mpr ⟨i4, List.pairwise_singleton _ _, fun y hy z hz => ?_⟩
        rw [List.mem_singleton.mp hz]
        exact hlt y hy
      · rw [← List.append_assoc] at hy
        rcases List.mem_append.mp hy with hy | hy
        · exact i5 y hy
        · rw [List.mem_singleton.mp hy]
          exact ⟨hn', by show 1 ≤ ts.length; omega, E5, hts16⟩
    have hS' : rS (Ss.map gS) dc Ss.length aK' aL' aT' aS aX' aM' aN := by
      obtain ⟨_, s2, s3, s4⟩ := E13
      refine ⟨hbd', s2, ?_, s4⟩
      rw [hrow, ← s3]
      refine rws_congr _ _ (fun j _ hj => ?_)
      show (if j = dc + bx.length then _ else _) = _
      rw [if_neg (by omega)]
    have hB' : rB ((List.map (fun y : Nat × pD => y.2.1) (bx ++ [(q, ((n', ts), 0, 0))]))) dc (bx.length + 1) aK' aL' aT' aS aX' aM' := by
      obtain ⟨s1, s2⟩ := E14
      refine ⟨by rw [List.length_map, hlen], ?_⟩
      rw [hrow, rws_app, List.map_append, List.map_append, List.map_append]
      congr 1
      · rw [← s2]
        congr 1
        refine rws_congr _ _ (fun j _ hj => ?_)
        show (if j = dc + bx.length then _ else _) = _
        rw [if_neg (by omega)]
      · show [untag (if dc + bx.length = dc + bx.length then _ else _)] = _
        rw [if_pos rfl]
        rfl
    have E' : (rel (k + 1) room nn pw ([]) ps (bx ++ [(q, ((n', ts), 0, 0))]) Ss Lb dc li sz aD aK' aL' aT' aS aX' aM' aC aN aO aQ aB aV aH) := ⟨⟨Nat.le_succ_of_le E1, E.1.2⟩, E.2.1, ⟨Nat.zero_le _, rfl, E7⟩, E.2.2.2.1, ⟨hS', by rw [hlen]; exact hB'⟩, E15, I'⟩
    have J' := lj_ref (tw := 0) X2 S2 E' (by show h'.2.1 ≤ _; omega) (by show h'.2.2 ≤ _; omega)
    rw [hlen] at J'
    refine ps_s_is6 p140_215 ?_
    exact tl_217 (by omega) rfl (by omega) hgo (fun _ => ⟨_, rf_out X2.1.1 S2 (rL_kd ..) pp_eq, out0 _ _⟩) (K _ _ _ J')
