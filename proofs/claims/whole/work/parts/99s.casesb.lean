/-! The law's cases: type, discard, count, match. -/
section LGT
variable {G : pm_G} {o : Nat → Nat} {h : pm_S} {x dr pi pg ba kD lD rD kP lP rP room nn : Nat} {pw : Option Nat} {ts : List Nat} {ps : List (Nat × List Nat)} {bx : List (Nat × pD)} {Ss : List cS} {Lb : List Nat} {Q : pm_Q}
variable {m tw dc li sz k ou b nb : Nat} {xs : Nat → Int32} {aD aK aL aT aS aX aM aC aN aO aQ aB aV aH : Nat → Nat}
variable {h1 : pm_S} {L L' : List pm_C}
theorem lg_thr {e : Nat} (X : (cX G o h x dr pi pg ba kD lD rD kP lP rP room nn pw ts ps bx Ss Lb)) (S : lS G o h m ou b nb xs L) : (cX G o (pm_gap h e) x dr pi pg ba kD lD rD kP lP rP room nn pw ts ps bx Ss Lb) ∧ lS G o (pm_gap h e) m ou b nb xs L := by
  have F : cF G (fun _ => False) h o (pm_gap h e) o 1 e := cf_gap X.1.1
  exact ⟨cx_nil X F (fun _ q => q), ls_cu S F (fun q => q) (fun q => q)⟩
theorem lg_ok {g g' : Nat → Int64} (X : (cX G o h x dr pi pg ba kD lD rD kP lP rP room nn pw ts ps bx Ss Lb)) (S : lS G o h m ou b nb xs L) (e : h.1 ou = some (pm_l 1 g)) : (cX G o (pm_put h ou (pm_l 1 g')) x dr pi pg ba kD lD rD kP lP rP room nn pw ts ps bx Ss Lb) ∧ lS G o (pm_put h ou (pm_l 1 g')) m ou b nb xs L := by
  obtain ⟨S2, F2⟩ := ls_o (g' := g') X.1.1 S e
  exact ⟨cx_o X e F2, S2⟩
theorem rf_out {g : Nat → Int64} (w : cW h o) (S : lS G o h m ou b nb xs L) (hk : L'.map kd = rKs) (e : h.1 ou = some (pm_l 1 g)) : (rf_k h m L').1 ou = some (pm_l 1 g) := by
  obtain ⟨_, F⟩ := ls_r w S hk
  refine cf_get F e (fun q => ?_)
  obtain ⟨v', e4, e5⟩ := ls_m S
  obtain ⟨_, _, _, _, ⟨_, a6, _⟩, _⟩ := S
  rw [a6] at q
  rw [← q, e] at e4
  cases e4
  exact absurd e5 (by show ¬ (0 = 10); omega)
theorem out0 (g : Nat → Int64) (v : Int64) : vp_updL g 0 v 0 = v := if_pos rfl
theorem ls_oe (S : lS G o h m ou b nb xs L) : ∃ g, h.1 ou = some (pm_l 1 g) := S.2.2.2.2.1.1
end LGT
theorem lc_type {i d k b nb x m ou : Nat} {xs : Nat → Int32} {G : pm_G} {h : pm_S} {Q : pm_Q} {u5 u6 : Option Value} (J : lJ G b nb xs x m ou k h) (hd : 30 ≤ d) (hi : i + 2 < nb) (hnb : nb ≤ 1537) (hk : k < 512) (K : ∀ u5 u6 h', lJ G b nb xs x m ou (k + 1) h' → ps_X G d 140 836 [some (.ref b), some (.ref x), some (.ref m), some (.ref ou), some (iN i), u5, u6] [] h' Q) : ps_X G d 140 136 [some (.ref b), some (.ref x), some (.ref m), some (.ref ou), some (iN i), u5, u6] [] h Q := by
  obtain ⟨o, dr, pi, pg, ba, kD, lD, rD, kP, lP, rP, room, nn, pw, ts, ps, bx, Ss, Lb, tw, dc, li, sz, aD, aK, aL, aT, aS, aX, aM, aC, aN, aO, aQ, aB, aV, aH, X, S, E, n1, n2⟩ := J
  have X' := X
  obtain ⟨X0, ⟨pf, bf', x1, _⟩, _⟩ := X'
  obtain ⟨fm, m1⟩ := ls_mo S
  have E' := E
  obtain ⟨⟨E1, E2, E3⟩, E4, ⟨E5, E6, E7⟩, ⟨E8, E9, E10, E11, E12⟩, ⟨E13, E14⟩, E15, I⟩ := E'
  have hb1 := S.2.2.2.2.2.1
  have hgm := S.2.2.2.1
  have hgo := S.2.2.2.2.1.2.2
  obtain ⟨f1, f2, f3⟩ := inv_facts I E13 E14
  first | refine ps_s_al p140_136 rfl ?_ | refine ps_s_aln p140_136 rfl ?_
  first | refine ps_s_al p140_137 rfl ?_ | refine ps_s_aln p140_137 rfl ?_
  refine ps_s_il p140_138 rfl ?_
  refine ps_s_k p140_140 ?_
  first | refine ps_s_add p140_141 ?_ | refine ps_s_2 p140_141 ?_
  refine ps_s_iav p140_142 hb1 rfl (by omega) (by omega) ?_
  refine ps_s_al p140_143 rfl ?_
  refine ps_s_vS [_, _, _] _ p140_144 rfl rfl rfl rfl (hl_28 (R1 := fun c h' => h' = pm_gap h 6 ∧ ((c = 0 ∧ ¬ ∃ n : Nat, n < 16 ∧ xs (i + 1) = Int32.ofNat n) ∨ (c = 1 ∧ (∃ n : Nat, n < 16 ∧ xs (i + 1) = Int32.ofNat n) ∧ ts.length = 8))) (R2 := fun v h' => ∃ n : Nat, n < 16 ∧ xs (i + 1) = Int32.ofNat n ∧ ts.length < 8 ∧ v = Int32.ofNat (ts.length + 1) ∧ cF G (cU h) h o h' o 0 0 ∧ (cX G o (h') x dr pi pg ba kD lD rD kP lP rP room nn pw (ts ++ [n]) ps bx Ss Lb)) x1 (fun c h' r => r.2.elim (fun q => .inl q.1) (fun q => .inr q.1)) (fun Q' T V => x_type X (fun q => T 0 _ ⟨rfl, .inl ⟨rfl, q⟩⟩) (fun q1 q2 => T 1 _ ⟨rfl, .inr ⟨rfl, q1, q2⟩⟩) (fun n hn e hl h' F X' => V _ _ ⟨n, hn, e, hl, rfl, F, X'⟩)) hgo (fun v h' r => ls_oe (ls_U S r.choose_spec.2.2.2.2.1)) (fun h' r => ps_bki ?_) (fun h' r => ps_bki ?_) (fun v h' g r e => ps_bki ?_) d (by omega))
  · obtain ⟨rfl, r⟩ := r
    have hno : ¬ ∃ n : Nat, n < 16 ∧ xs (i + 1) = Int32.ofNat n := by
      rcases r with r | r
      · exact r.2
      · exact absurd r.1 (by decide)
    obtain ⟨X1, S1⟩ := lg_thr (e := 6) X S
    obtain ⟨fm1, m2⟩ := ls_mo S1
    refine ps_s_is5 p140_147 ?_
    first | refine ps_s_al p140_149 rfl ?_ | refine ps_s_aln p140_149 rfl ?_
    first | refine ps_s_al p140_150 rfl ?_ | refine ps_s_aln p140_150 rfl ?_
    refine ps_s_il p140_151 rfl ?_
    refine ps_s_k p140_153 ?_
    first | refine ps_s_add p140_154 ?_ | refine ps_s_2 p140_154 ?_
    refine ps_s_iav p140_155 S1.2.2.2.2.2.1 rfl (by omega) (by omega) ?_
    refine ps_s_vV [_] _ p140_156 rfl m2 rfl rfl rfl (ls_Mr S1 (rf_type hgm E5 (fun _ => ps_bki ?_) (fun q _ => absurd q hno) (fun n hn e _ => absurd ⟨n, hn, e⟩ hno)) d (by omega))
    refine ps_s_is6 p140_159 ?_
    exact tl_161 (by omega) rfl (by omega) hgo (fun e => absurd e (by decide)) (K _ _ _ (lj_ref X1 S1 (rel_k E (Nat.le_succ _)) (by show h.2.1 + 1 ≤ _; omega) (by show h.2.2 + 6 ≤ _; omega)))
  · obtain ⟨rfl, r⟩ := r
    have hyes : (∃ n : Nat, n < 16 ∧ xs (i + 1) = Int32.ofNat n) ∧ ts.length = 8 := by
      rcases r with r | r
      · exact absurd r.1 (by decide)
      · exact r.2
    obtain ⟨X1, S1⟩ := lg_thr (e := 6) X S
    obtain ⟨fm1, m2⟩ := ls_mo S1
    refine ps_s_is5 p140_147 ?_
    first | refine ps_s_al p140_149 rfl ?_ | refine ps_s_aln p140_149 rfl ?_
    first | refine ps_s_al p140_150 rfl ?_ | refine ps_s_aln p140_150 rfl ?_
    refine ps_s_il p140_151 rfl ?_
    refine ps_s_k p140_153 ?_
    first | refine ps_s_add p140_154 ?_ | refine ps_s_2 p140_154 ?_
    refine ps_s_iav p140_155 S1.2.2.2.2.2.1 rfl (by omega) (by omega) ?_
    refine ps_s_vV [_] _ p140_156 rfl m2 rfl rfl rfl (ls_Mr S1 (rf_type hgm E5 (fun q => absurd hyes.1 q) (fun _ _ => ps_bki ?_) (fun n hn e hl => by omega)) d (by omega))
    refine ps_s_is6 p140_159 ?_
    exact tl_161 (by omega) rfl (by omega) hgo (fun e => absurd e (by decide)) (K _ _ _ (lj_ref X1 S1 (rel_k E (Nat.le_succ _)) (by show h.2.1 + 1 ≤ _; omega) (by show h.2.2 + 6 ≤ _; omega)))
  · obtain ⟨n, hn, en, hl, rfl, F, X1⟩ := r
    obtain ⟨X2, S2⟩ := lg_ok (g' := vp_updL g 0 (Int32.ofNat (ts.length + 1)).toInt64) X1 (ls_U S F) e
    obtain ⟨fm1, m2⟩ := ls_mo S2
    have hF := F.2.2
    refine ps_s_is5 p140_147 ?_
    first | refine ps_s_al p140_149 rfl ?_ | refine ps_s_aln p140_149 rfl ?_
    first | refine ps_s_al p140_150 rfl ?_ | refine ps_s_aln p140_150 rfl ?_
    refine ps_s_il p140_151 rfl ?_
    refine ps_s_k p140_153 ?_
    first | refine ps_s_add p140_154 ?_ | refine ps_s_2 p140_154 ?_
    refine ps_s_iav p140_155 S2.2.2.2.2.2.1 rfl (by omega) (by omega) ?_
    refine ps_s_vV [_] _ p140_156 rfl m2 rfl rfl rfl (ls_Mr S2 (rf_type hgm E5 (fun q => absurd ⟨n, hn, en⟩ q) (fun _ q => by omega) (fun n' hn' en' _ => ps_bki ?_)) d (by omega))
    have hnn : n' = n := ps_ofNat_inj (by omega) (by omega) (en'.symm.trans en)
    subst hnn
    have hlen : (ts ++ [n']).length = ts.length + 1 := by rw [List.length_append]; rfl
    have E' : (rel (k + 1) room nn pw (ts ++ [n']) ps bx Ss Lb dc li sz (va_up aD ts.length n') aK aL aT aS aX aM aC aN aO aQ aB aV aH) := ⟨⟨Nat.le_succ_of_le E1, E.1.2⟩, E.2.1, ⟨by rw [hlen]; omega, by rw [hlen, sl_snoc, E6], fun j => by unfold va_up; split <;> (try exact hn); exact E7 j⟩, E.2.2.2⟩
    have J' := lj_ref (tw := 0) X2 S2 E' (by show h'.2.1 ≤ _; omega) (by show h'.2.2 ≤ _; omega)
    rw [hlen] at J'
    refine ps_s_is6 p140_159 ?_
    exact tl_161 (by omega) rfl (by omega) hgo (fun _ => ⟨_, rf_out X2.1.1 S2 (rL_kd ..) pp_eq, out0 _ _⟩) (K _ _ _ J')
