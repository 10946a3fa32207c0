/-! The law's case: delete. -/
def dmU (k : Nat) (D : pD) : pD := if D.1.1 = k then (D.1, D.2.1, 1) else D
def mu (u : pD → pD) (g : pG) : pG := (g.1, g.2.map u)
theorem sg_fm (u : pD → pD) : ∀ sg : List pG, (sg.map (mu u)).flatMap (·.2) = (sg.flatMap (·.2)).map u := by
  intro sg
  induction sg with
  | nil => rfl
  | cons g sg ih => rw [List.map_cons, List.flatMap_cons, List.flatMap_cons, List.map_append, ih]; rfl
theorem bG_mu {u : pD → pD} (hu : ∀ D, (u D).1 = D.1) (g : pG) : bG (mu u g) = bG g := by
  unfold bG mu
  congr 1
  show (g.2.map u).map (·.1) = g.2.map (·.1)
  rw [List.map_map]
  exact List.map_congr_left (fun D _ => hu D)
theorem sum_mu {u : pD → pD} (hu : ∀ D, (u D).1 = D.1) (sg : List pG) : ((sg.map (mu u)).map (fun g => (bG g).length)).sum = (sg.map (fun g => (bG g).length)).sum := by
  rw [List.map_map]
  congr 1
  apply List.map_congr_left
  intro g _
  show (bG (mu u g)).length = _
  rw [bG_mu hu]
theorem lG_mu {u : pD → pD} {a a' : Nat} {sg : List pG} (hd : ∀ D ∈ sg.flatMap (·.2), gnD a' (u D) = gnD a D) : lG a' (sg.map (mu u)) = lG a sg := by
  unfold lG
  rw [List.length_map]
  congr 1
  rw [List.flatMap_map]
  have key : ∀ E : List pG, (∀ D ∈ E.flatMap (·.2), gnD a' (u D) = gnD a D) → E.flatMap (fun g => eG a' (mu u g)) = E.flatMap (eG a) := by
    intro E
    induction E with
    | nil => intro _; rfl
    | cons g E ih =>
      intro h
      rw [List.flatMap_cons, List.flatMap_cons, ih (fun D hD => h D (by rw [List.flatMap_cons]; exact List.mem_append_right _ hD))]
      congr 1
      unfold eG mu
      show eB g.1 ((g.2.map u).map (gnD a')) = eB g.1 (g.2.map (gnD a))
      rw [List.map_map]
      congr 1
      exact List.map_congr_left (fun D hD => h D (by rw [List.flatMap_cons]; exact List.mem_append_left _ hD))
  exact key sg hd
theorem gnD0 (D : pD) : gnD 0 D = decide (D.2.1 = 1) := by
  unfold gnD
  rw [decide_eq_false (by decide : ¬ (0 : Nat) = 1), Bool.false_and, Bool.or_false]
theorem inv_mu {li room : Nat} {sg : List pG} {bq : List pD} {u : pD → pD} (I : inv li room sg bq) (hu : ∀ D, (u D).1 = D.1) (hd : ∀ D ∈ sg.flatMap (·.2), (u D).2.1 = D.2.1) (hf : ∀ D ∈ sg.flatMap (·.2), ((u D).2.1 = 0 ∧ (u D).2.2 ≤ 1) ∨ (u D).2 = (1, 0)) : inv li room (sg.map (mu u)) bq := by
  obtain ⟨⟨i1, i2⟩, i3, i4, i5, i6, i7, i8, i9, i10⟩ := I
  refine ⟨⟨i1, by rw [List.length_map]; exact i2⟩, i3, ?_, fun y hy => ?_, fun g hg => ?_, fun y hy => ?_, ?_, fun q => by rw [i9 q]; rfl, i10⟩
  · rw [sg_fm]
    obtain ⟨p1, p2, p3⟩ := List.pairwise_append.mp i4
    refine List.pairwise_append.mpr ⟨List.pairwise_map.mpr (p1.imp (fun {y z} h => by rw [hu, hu]; exact h)), p2, fun y hy z hz => ?_⟩
    obtain ⟨y0, hy0, rfl⟩ := List.mem_map.mp hy
    rw [hu]
    exact p3 y0 hy0 z hz
  · rw [sg_fm] at hy
    rcases List.mem_append.mp hy with hy | hy
    · obtain ⟨y0, hy0, rfl⟩ := List.mem_map.mp hy
      rw [hu]
      exact i5 y0 (List.mem_append_left _ hy0)
    · exact i5 y (List.mem_append_right _ hy)
  · obtain ⟨g0, hg0, rfl⟩ := List.mem_map.mp hg
    obtain ⟨y, hy, e⟩ := i6 g0 hg0
    exact ⟨u y, List.mem_map.mpr ⟨y, hy, rfl⟩, by rw [hd y (List.mem_flatMap.mpr ⟨g0, hg0, hy⟩)]; exact e⟩
  · rw [sg_fm] at hy
    obtain ⟨y0, hy0, rfl⟩ := List.mem_map.mp hy
    exact hf y0 hy0
  · unfold uG at i8 ⊢
    rw [sum_mu hu, lG_mu (a := 0) (fun D hD => by rw [gnD0, gnD0, hd D hD])]
    exact i8
theorem rws_map (f : Nat → pRow) (v : pRow → pRow) : ∀ n d, (rws f d n).map v = rws (fun j => v (f j)) d n := by
  intro n
  induction n with
  | zero => intro d; rfl
  | succ n ih => intro d; rw [rws_s, rws_s, List.map_cons, ih]
theorem rS_mu {sg : List pG} {dc cn : Nat} {aK aL aT aS aX aM aN aX' aM' : Nat → Nat} {u : pD → pD} (h : rS sg dc cn aK aL aT aS aX aM aN) (hX : ∀ j, aX' j ≤ 1) (hM : ∀ j, aM' j ≤ 1) (hu : ∀ D, (u D).1 = D.1) (hr : ∀ j, j < dc → u (untag (rowOf aK aL aT aS aX aM j)) = (docOf aK aL aT j, aX' j, aM' j)) : rS (sg.map (mu u)) dc cn aK aL aT aS aX' aM' aN := by
  obtain ⟨⟨b1, b2, b3, b4, _, _⟩, h2, h3, h4, h5⟩ := h
  refine ⟨⟨b1, b2, b3, b4, hX, hM⟩, h2, ?_, by rw [List.length_map]; exact h4, ?_⟩
  · have e : (sg.map (mu u)).map (·.2) = (sg.map (·.2)).map (·.map u) := by rw [List.map_map, List.map_map]; rfl
    rw [e, ← flat_map u _ 0 (fun r => ((u (untag r)).1, r.2.1, (u (untag r)).2)) (fun k x => rfl), ← h3, rws_map]
    refine rws_congr _ _ (fun j _ hj => ?_)
    have := hr j (by omega)
    show (docOf aK aL aT j, aS j, aX' j, aM' j) = ((u (untag (rowOf aK aL aT aS aX aM j))).1, aS j, (u (untag (rowOf aK aL aT aS aX aM j))).2)
    rw [this]
  · rw [h5, List.map_map]
    rfl
theorem gS_mpA (q : Nat) (u : pD → pD) (Ss : List cS) (h : ∀ S ∈ Ss, ∀ y ∈ dS S, (dmA q y).2 = u y.2) : (Ss.map (mpA q)).map gS = (Ss.map gS).map (mu u) := by
  rw [List.map_map, List.map_map]
  apply List.map_congr_left
  intro S hS
  show (S.2.1, ((dS S).map (dmA q)).map (·.2)) = (S.2.1, ((dS S).map (·.2)).map u)
  rw [List.map_map, List.map_map]
  congr 1
  exact List.map_congr_left (fun y hy => h S hS y hy)
theorem lc_delete {i d k b nb x m ou : Nat} {xs : Nat → Int32} {G : pm_G} {h : pm_S} {Q : pm_Q} {u5 u6 : Option Value} (J : lJ G b nb xs x m ou k h) (hd : 30 ≤ d) (hi : i + 2 < nb) (hnb : nb ≤ 1537) (hk : k < 512) (K : ∀ u5 u6 h', lJ G b nb xs x m ou (k + 1) h' → ps_X G d 140 836 [some (.ref b), some (.ref x), some (.ref m), some (.ref ou), some (iN i), u5, u6] [] h' Q) : ps_X G d 140 248 [some (.ref b), some (.ref x), some (.ref m), some (.ref ou), some (iN i), u5, u6] [] h Q := by
  obtain ⟨o, dr, pi, pg, ba, kD, lD, rD, kP, lP, rP, room, nn, pw, ts, ps, bx, Ss, Lb, tw, dc, li, sz, aD, aK, aL, aT, aS, aX, aM, aC, aN, aO, aQ, aB, aV, aH, X, S, E, n1, n2⟩ := J
  have X' := X
  obtain ⟨X0, ⟨pf, bf', x1, _⟩, _⟩ := X'
  obtain ⟨fm, m1⟩ := ls_mo S
  have E' := E
  obtain ⟨⟨E1, E2, E3⟩, E4, ⟨E5, E6, E7⟩, ⟨E8, E9, E10, E11, E12⟩, ⟨E13, E14⟩, E15, I⟩ := E'
  have hb1 := S.2.2.2.2.2.1
  have hgm := S.2.2.2.1
  have hgo := S.2.2.2.2.1.2.2
  obtain ⟨f1, f2, f3⟩ := inv_facts I E13 E14
  have hz0 := I.2.1
  have hdc := rS_dc E13
  have hbK := E13.1.1
  have hbX := E13.1.2.2.2.2.1
  have hbM := E13.1.2.2.2.2.2
  have hall : ∀ j, j < dc + bx.length → ((Ss.map gS).flatMap (·.2) ++ bx.map (·.2))[j]? = some (untag (rowOf aK aL aT aS aX aM j)) := all_ix E13 E14 hz0
  have hlenA : ((Ss.map gS).flatMap (·.2) ++ bx.map (·.2)).length = dc + bx.length := by rw [List.length_append, List.length_map, ← hdc]
  have kix : ∀ j j', j < dc + bx.length → j' < dc + bx.length → aK j = aK j' → j = j' := by
    have lt : ∀ j j', j < j' → j' < dc + bx.length → aK j < aK j' := by
      intro j j' h1 h2
      have hp := List.pairwise_iff_getElem.mp I.2.2.1 j j' (by omega) (by omega) h1
      have e1 := (List.getElem?_eq_some_iff.mp (hall j (by omega))).2
      have e2 := (List.getElem?_eq_some_iff.mp (hall j' h2)).2
      rw [e1, e2] at hp
      exact hp
    intro j j' h1 h2 e
    rcases Nat.lt_trichotomy j j' with q | q | q
    · have := lt j j' q h2; omega
    · exact q
    · have := lt j' j q h1; omega
  have hmem : ∀ y : pD, y ∈ (Ss.map gS).flatMap (·.2) ↔ ∃ S ∈ Ss, ∃ z ∈ dS S, z.2 = y := by
    intro y
    rw [← fl_gS, List.mem_map]
    constructor
    · rintro ⟨z, hz, rfl⟩
      obtain ⟨S', hS', hz'⟩ := List.mem_flatMap.mp hz
      exact ⟨S', hS', z, hz', rfl⟩
    · rintro ⟨S', hS', z, hz, rfl⟩
      exact ⟨z, List.mem_flatMap.mpr ⟨S', hS', hz⟩, rfl⟩
  have hrow : ∀ z, z < dc → untag (rowOf aK aL aT aS aX aM z) ∈ (Ss.map gS).flatMap (·.2) := fun z hz => List.mem_of_getElem? (rS_ix E13 z hz)
  have hix : ∀ y ∈ (Ss.map gS).flatMap (·.2), ∃ z, z < dc ∧ untag (rowOf aK aL aT aS aX aM z) = y := by
    intro y hy
    obtain ⟨z, hz⟩ := List.mem_iff_getElem?.mp hy
    have hzl := (List.getElem?_eq_some_iff.mp hz).1
    rw [← hdc] at hzl
    rw [rS_ix E13 z hzl] at hz
    exact ⟨z, hzl, Option.some.inj hz⟩
  have hbufk : (∀ y ∈ bx, ¬ Int32.ofNat y.2.1.1 = xs (i + 1)) → ∀ z, dc ≤ z → z < dc + bx.length → Int32.ofNat (aK z) = xs (i + 1) → False := by
    intro hno z h1 h2 h3
    have e := rB_ix E14 hz0 (z - dc) (by omega)
    rw [show dc + (z - dc) = z by omega, List.getElem?_map] at e
    cases hb : bx[z - dc]? with
    | none => rw [hb] at e; cases e
    | some y =>
      rw [hb] at e
      have e2 : y.2 = untag (rowOf aK aL aT aS aX aM z) := Option.some.inj e
      exact hno y (List.mem_of_getElem? hb) (by rw [e2]; exact h3)
  have hflag : ∀ z, z < dc → (aX z = 0 ∧ aM z ≤ 1) ∨ (aX z = 1 ∧ aM z = 0) := by
    intro z hz
    rcases I.2.2.2.2.2.1 _ (hrow z hz) with q | q
    · exact .inl q
    · exact .inr ⟨congrArg Prod.fst q, congrArg Prod.snd q⟩
  first | refine ps_s_al p140_248 rfl ?_ | refine ps_s_aln p140_248 rfl ?_
  first | refine ps_s_al p140_249 rfl ?_ | refine ps_s_aln p140_249 rfl ?_
  refine ps_s_il p140_250 rfl ?_
  refine ps_s_k p140_252 ?_
  first | refine ps_s_add p140_253 ?_ | refine ps_s_2 p140_253 ?_
  refine ps_s_iav p140_254 hb1 rfl (by omega) (by omega) ?_
  refine ps_s_vV [_] _ p140_255 rfl x1 rfl rfl rfl (x_delete X f1 (by omega) (fun M p R hM hk hno h1 F X1 => ps_bki ?_) (fun hno hno2 => ps_bki ?_) (fun hno S' hS' p hp hk hx hm => ps_bki ?_) (fun hno S' hS' p hp hk hx hm h1 F X1 => ps_bki ?_) d (by omega))
  · have S1 := ls_U S F
    obtain ⟨fm1, m2⟩ := ls_mo S1
    have hF := F.2.2
    have hbl : bx.length = M.length + (R.length + 1) := by rw [hM, List.length_append, List.length_cons]
    have hpz : untag (rowOf aK aL aT aS aX aM (dc + M.length)) = p.2 := by
      have e := rB_ix E14 hz0 M.length (by omega)
      rw [List.getElem?_map, hM, get_pre] at e
      exact (Option.some.inj e).symm
    have hpk : aK (dc + M.length) = p.2.1.1 := congrArg (fun y : pD => y.1.1) hpz
    have hka : Int32.ofNat (aK (dc + M.length)) = xs (i + 1) := by rw [hpk]; exact hk
    first | refine ps_s_al p140_258 rfl ?_ | refine ps_s_aln p140_258 rfl ?_
    first | refine ps_s_al p140_259 rfl ?_ | refine ps_s_aln p140_259 rfl ?_
    refine ps_s_il p140_260 rfl ?_
    refine ps_s_k p140_262 ?_
    first | refine ps_s_add p140_263 ?_ | refine ps_s_2 p140_263 ?_
    refine ps_s_iav p140_264 S1.2.2.2.2.2.1 rfl (by omega) (by omega) ?_
    refine ps_s_vV [_] _ p140_265 rfl m2 rfl rfl rfl (ls_Mr S1 (rf_delete hgm (by omega) E13.1 (fun q => absurd hka (q _ (by omega))) (fun z hz ek _ => ?_) (fun z hz1 hz2 ek _ aK' aL' aT' aS' aX' aM' hbd' hrw => ps_bki ?_)) d (by omega))
    · exfalso
      have := kix z (dc + M.length) (by omega) (by omega) (ps_ofNat_inj (hbK _) (hbK _) (ek.trans hka.symm))
      omega
    · have hzz : z = dc + M.length := kix z (dc + M.length) hz2 (by omega) (ps_ofNat_inj (hbK _) (hbK _) (ek.trans hka.symm))
      have hlen : (M ++ R).length = bx.length - 1 := by rw [List.length_append]; omega
      have hmapB : (M ++ R).map (·.2) = (bx.map (·.2)).eraseIdx M.length := by
        rw [hM, ← map_er, List.eraseIdx_append_of_length_le (Nat.le_refl _), Nat.sub_self]
        rfl
      have hmapB1 : (M ++ R).map (·.2.1) = (bx.map (·.2.1)).eraseIdx M.length := by
        rw [hM, ← map_er, List.eraseIdx_append_of_length_le (Nat.le_refl _), Nat.sub_self]
        rfl
      have I' : inv li room (Ss.map gS) ((M ++ R).map (·.2)) := by
        obtain ⟨⟨i1, i2⟩, i3, i4, i5, i6⟩ := I
        have hsub : ((M ++ R).map (·.2)).Sublist (bx.map (·.2)) := by rw [hmapB]; exact List.eraseIdx_sublist _ _
        refine ⟨⟨Nat.le_trans hsub.length_le i1, i2⟩, fun y hy => i3 y (hsub.subset hy), i4.sublist (List.Sublist.append (List.Sublist.refl _) hsub), fun y hy => i5 y ?_, i6⟩
        rcases List.mem_append.mp hy with hy | hy
        · exact List.mem_append_left _ hy
        · exact List.mem_append_right _ (hsub.subset hy)
      have hS' : rS (Ss.map gS) dc Ss.length aK' aL' aT' aS' aX' aM' aN := by
        obtain ⟨_, s2, s3, s4⟩ := E13
        refine ⟨hbd', s2, ?_, s4⟩
        rw [hrw, ← s3]
        refine rws_congr _ _ (fun j _ hj => ?_)
        unfold shR
        rw [if_neg (by omega)]
      have hB' : rB ((M ++ R).map (·.2.1)) dc (bx.length - 1) aK' aL' aT' aS' aX' aM' := by
        obtain ⟨s1, s2⟩ := E14
        refine ⟨by rw [List.length_map, hlen], ?_⟩
        have e1 := rws_sh (rowOf aK aL aT aS aX aM) dc z (bx.length - 1) hz1 (by omega)
        rw [hrw, e1, show bx.length - 1 + 1 = bx.length by omega, map_er, s2, hmapB1, map_er, show z - dc = M.length by omega]
      have E' : (rel (k + 1) room nn pw ts ps (M ++ R) Ss Lb dc li sz aD aK' aL' aT' aS' aX' aM' aC aN aO aQ aB aV aH) := ⟨⟨Nat.le_succ_of_le E1, E.1.2⟩, E.2.1, E.2.2.1, E.2.2.2.1, ⟨hS', by rw [hlen]; exact hB'⟩, E15, I'⟩
      have J' := lj_ref (tw := 0) X1 S1 E' (by omega) (by omega)
      rw [hlen] at J'
      refine ps_s_eq p140_268 (by omega) (by omega) (fun c268 => ?_) (fun c268 => ?_)
      · exact K _ _ _ J'
      · exact absurd rfl c268
  · first | refine ps_s_al p140_258 rfl ?_ | refine ps_s_aln p140_258 rfl ?_
    first | refine ps_s_al p140_259 rfl ?_ | refine ps_s_aln p140_259 rfl ?_
    refine ps_s_il p140_260 rfl ?_
    refine ps_s_k p140_262 ?_
    first | refine ps_s_add p140_263 ?_ | refine ps_s_2 p140_263 ?_
    refine ps_s_iav p140_264 hb1 rfl (by omega) (by omega) ?_
    refine ps_s_vV [_] _ p140_265 rfl m1 rfl rfl rfl (ls_Mr S (rf_delete hgm (by omega) E13.1 (fun q => ps_bki ?_) (fun z hz ek _ => ps_bki ?_) (fun z hz1 hz2 ek _ => (hbufk hno z hz1 hz2 ek).elim)) d (by omega))
    · refine ps_s_eq p140_268 (by omega) (by omega) (fun c268 => ?_) (fun c268 => ?_)
      · exact K _ _ _ (lj_ref X S (rel_k E (Nat.le_succ _)) (by omega) (by omega))
      · exact absurd rfl c268
    · have hx1 : aX z = 1 ∧ aM z = 0 := by
        rcases hflag z hz with q | q
        · exfalso
          obtain ⟨S', hS', y, hy, e1⟩ := (hmem _).mp (hrow z hz)
          exact hno2 S' hS' y hy (by rw [e1]; exact ek) (by rw [e1]; exact q.1)
        · exact q
      have e1 : bN (decide (aX z = 0) && decide (aM z = 0)) = 0 := by rw [decide_eq_false (by omega)]; rfl
      have e2 : va_up aM z (bN (decide (aX z = 0))) = aM := by
        funext j
        unfold va_up
        split
        · next q => rw [q, decide_eq_false (by omega), hx1.2]; rfl
        · rfl
      rw [e1, e2]
      refine ps_s_eq p140_268 (by omega) (by omega) (fun c268 => ?_) (fun c268 => ?_)
      · exact K _ _ _ (lj_ref X S (rel_k E (Nat.le_succ _)) (by omega) (by omega))
      · exact absurd rfl c268
  · have hym : p.2 ∈ (Ss.map gS).flatMap (·.2) := (hmem _).mpr ⟨S', hS', p, hp, rfl⟩
    obtain ⟨z0, hz0l, hz0e⟩ := hix _ hym
    have hk0 : aK z0 = p.2.1.1 := congrArg (fun y : pD => y.1.1) hz0e
    have hx0 : aX z0 = 0 := (congrArg (fun y : pD => y.2.1) hz0e).trans hx
    have hm0 : aM z0 = 1 := (congrArg (fun y : pD => y.2.2) hz0e).trans hm
    have hka : Int32.ofNat (aK z0) = xs (i + 1) := by rw [hk0]; exact hk
    first | refine ps_s_al p140_258 rfl ?_ | refine ps_s_aln p140_258 rfl ?_
    first | refine ps_s_al p140_259 rfl ?_ | refine ps_s_aln p140_259 rfl ?_
    refine ps_s_il p140_260 rfl ?_
    refine ps_s_k p140_262 ?_
    first | refine ps_s_add p140_263 ?_ | refine ps_s_2 p140_263 ?_
    refine ps_s_iav p140_264 hb1 rfl (by omega) (by omega) ?_
    refine ps_s_vV [_] _ p140_265 rfl m1 rfl rfl rfl (ls_Mr S (rf_delete hgm (by omega) E13.1 (fun q => absurd hka (q _ (by omega))) (fun z hz ek _ => ps_bki ?_) (fun z hz1 hz2 ek _ => (hbufk hno z hz1 hz2 ek).elim)) d (by omega))
    have hzz : z = z0 := kix z z0 (by omega) (by omega) (ps_ofNat_inj (hbK _) (hbK _) (ek.trans hka.symm))
    subst hzz
    have e1 : bN (decide (aX z = 0) && decide (aM z = 0)) = 0 := by rw [decide_eq_true hx0, decide_eq_false (by omega)]; rfl
    have e2 : va_up aM z (bN (decide (aX z = 0))) = aM := by
      funext j
      unfold va_up
      split
      · next q => rw [q, decide_eq_true hx0, hm0]; rfl
      · rfl
    rw [e1, e2]
    refine ps_s_eq p140_268 (by omega) (by omega) (fun c268 => ?_) (fun c268 => ?_)
    · exact K _ _ _ (lj_ref X S (rel_k E (Nat.le_succ _)) (by omega) (by omega))
    · exact absurd rfl c268
  · have S1 := ls_U S F
    obtain ⟨fm1, m2⟩ := ls_mo S1
    have hF := F.2.2
    have hym : p.2 ∈ (Ss.map gS).flatMap (·.2) := (hmem _).mpr ⟨S', hS', p, hp, rfl⟩
    obtain ⟨z0, hz0l, hz0e⟩ := hix _ hym
    have hk0 : aK z0 = p.2.1.1 := congrArg (fun y : pD => y.1.1) hz0e
    have hx0 : aX z0 = 0 := (congrArg (fun y : pD => y.2.1) hz0e).trans hx
    have hm0 : aM z0 = 0 := (congrArg (fun y : pD => y.2.2) hz0e).trans hm
    have hka : Int32.ofNat (aK z0) = xs (i + 1) := by rw [hk0]; exact hk
    first | refine ps_s_al p140_258 rfl ?_ | refine ps_s_aln p140_258 rfl ?_
    first | refine ps_s_al p140_259 rfl ?_ | refine ps_s_aln p140_259 rfl ?_
    refine ps_s_il p140_260 rfl ?_
    refine ps_s_k p140_262 ?_
    first | refine ps_s_add p140_263 ?_ | refine ps_s_2 p140_263 ?_
    refine ps_s_iav p140_264 S1.2.2.2.2.2.1 rfl (by omega) (by omega) ?_
    have S1' : lS G o h1 m ou b nb xs (rL m room tw ts.length dc bx.length Ss.length (nn + 1) li (pwI pw) sz ps.length aD aK aL aT aS aX aM aC aN aO aQ aB aV aH) := by
      have := S1
      exact this
    refine ps_s_vV [_] _ p140_265 rfl m2 rfl rfl rfl (ls_Mr S1' (rf_delete hgm (by omega) E13.1 (fun q => absurd hka (q _ (by omega))) (fun z hz ek _ => ps_bki ?_) (fun z hz1 hz2 ek _ => (hbufk hno z hz1 hz2 ek).elim)) d (by omega))
    have hzz : z = z0 := kix z z0 (by omega) (by omega) (ps_ofNat_inj (hbK _) (hbK _) (ek.trans hka.symm))
    subst hzz
    have e1 : bN (decide (aX z = 0) && decide (aM z = 0)) = 1 := by rw [decide_eq_true hx0, decide_eq_true hm0]; rfl
    have e2 : bN (decide (aX z = 0)) = 1 := by rw [decide_eq_true hx0]; rfl
    have X' := X
    obtain ⟨_, _, _, _, _, _, ⟨_, _, SS, _, _⟩, _⟩ := X'
    have hpairs : (Ss.flatMap dS).Pairwise (fun y z => y.2.1.1 < z.2.1.1) := by
      have := (List.pairwise_append.mp I.2.2.1).1
      rw [← fl_gS] at this
      rw [List.pairwise_map] at this
      exact this
    have hpk : ∀ l : List (Nat × pD), l.Pairwise (fun y z => y.2.1.1 < z.2.1.1) → ∀ y ∈ l, ∀ z ∈ l, y.2.1.1 = z.2.1.1 → y = z := by
      intro l
      induction l with
      | nil => intro _ y h; cases h
      | cons a r ih =>
        intro hpw y h1 z h2 e
        obtain ⟨p1, p2⟩ := List.pairwise_cons.mp hpw
        rcases List.mem_cons.mp h1 with q1 | q1
        · rcases List.mem_cons.mp h2 with q2 | q2
          · exact q1.trans q2.symm
          · have := p1 z q2; rw [← q1, e] at this; omega
        · rcases List.mem_cons.mp h2 with q2 | q2
          · have := p1 y q1; rw [← q2, e] at this; omega
          · exact ih p2 y q1 z q2 e
    have hdm : ∀ S'' ∈ Ss, ∀ y ∈ dS S'', (dmA p.1 y).2 = (dmU p.2.1.1) y.2 := by
      intro S'' hS'' y hy
      have ym : y ∈ Ss.flatMap dS := List.mem_flatMap.mpr ⟨S'', hS'', hy⟩
      have pm : p ∈ Ss.flatMap dS := List.mem_flatMap.mpr ⟨S', hS', hp⟩
      unfold dmA
      by_cases q : y.2.1.1 = p.2.1.1
      · have := hpk _ hpairs y ym p pm q
        subst this
        rw [if_pos rfl]
        show _ = if y.2.1.1 = y.2.1.1 then _ else _
        rw [if_pos rfl]
      · have hne : ¬ y.1 = p.1 := fun e => by
          obtain ⟨_, _, y1, _, _, _, _, y7, _⟩ := (SS S'' hS'').2.2.1.2.1 y hy
          obtain ⟨_, _, p1, _, _, _, _, p7, _⟩ := (SS S' hS').2.2.1.2.1 p hp
          rw [e, p1] at y1
          have e3 : iN p.2.1.1 = iN y.2.1.1 := by
            have := congrArg (fun c : Option pm_C => match c with
              | some (.inl (_, v :: _)) => v
              | _ => .null) y1
            exact this
          exact q (ps_ofNat_inj y7 p7 (Value.int.inj e3).symm)
        rw [if_neg hne]
        show _ = if y.2.1.1 = p.2.1.1 then _ else _
        rw [if_neg q]
    have hgs := gS_mpA p.1 (dmU p.2.1.1) Ss hdm
    have hu1 : ∀ D : pD, ((dmU p.2.1.1) D).1 = D.1 := fun D => by
      show (if D.1.1 = p.2.1.1 then ((D.1, D.2.1, 1) : pD) else D).1 = D.1
      split <;> rfl
    have hud : ∀ D ∈ (Ss.map gS).flatMap (·.2), ((dmU p.2.1.1) D).2.1 = D.2.1 := fun D _ => by
      show (if D.1.1 = p.2.1.1 then ((D.1, D.2.1, 1) : pD) else D).2.1 = D.2.1
      split <;> rfl
    have I' : inv li room ((Ss.map (mpA p.1)).map gS) (bx.map (·.2)) := by
      rw [hgs]
      refine inv_mu I hu1 hud (fun D hD => ?_)
      by_cases q : D.1.1 = p.2.1.1
      · have := pw_key (List.pairwise_append.mp I.2.2.1).1 D hD p.2 hym q
        subst this
        have eu : dmU p.2.1.1 p.2 = (p.2.1, p.2.2.1, 1) := if_pos rfl
        rw [eu]
        exact .inl ⟨hx, Nat.le_refl _⟩
      · show ((if D.1.1 = p.2.1.1 then ((D.1, D.2.1, 1) : pD) else D).2.1 = 0 ∧ (if D.1.1 = p.2.1.1 then ((D.1, D.2.1, 1) : pD) else D).2.2 ≤ 1) ∨ (if D.1.1 = p.2.1.1 then ((D.1, D.2.1, 1) : pD) else D).2 = (1, 0)
        rw [if_neg q]
        exact I.2.2.2.2.2.1 D hD
    have hlS : (Ss.map (mpA p.1)).length = Ss.length := List.length_map _
    have hM' : ∀ j, va_up aM z 1 j ≤ 1 := fun j => by
      unfold va_up
      split
      · exact Nat.le_refl _
      · exact hbM j
    have hS2 : rS ((Ss.map (mpA p.1)).map gS) dc Ss.length aK aL aT aS aX (va_up aM z 1) aN := by
      rw [hgs]
      refine rS_mu E13 hbX hM' hu1 (fun j hj => ?_)
      show (if (aK j) = p.2.1.1 then ((docOf aK aL aT j, aX j, 1) : pD) else (docOf aK aL aT j, aX j, aM j)) = (docOf aK aL aT j, aX j, va_up aM z 1 j)
      unfold va_up
      by_cases q : j = z
      · rw [if_pos q, if_pos (by rw [q]; exact hk0)]
      · rw [if_neg q, if_neg (fun e => q (kix j z (by omega) (by omega) (e.trans hk0.symm)))]
    have hB2 : rB (bx.map (·.2.1)) dc bx.length aK aL aT aS aX (va_up aM z 1) := by
      refine ⟨E14.1, ?_⟩
      rw [← E14.2]
      congr 1
      refine rws_congr _ _ (fun j hj1 hj2 => ?_)
      unfold rowOf va_up
      rw [if_neg (by omega)]
    have hL2 : Lb = if li = 1 then lG 0 ((Ss.map (mpA p.1)).map gS) else [] := by
      rw [hgs, lG_mu (a := 0) (fun D hD => by rw [gnD0, gnD0, hud D hD])]
      exact E15
    have E' : (rel (k + 1) room nn pw ts ps bx (Ss.map (mpA p.1)) Lb dc li sz aD aK aL aT aS aX (va_up aM z 1) aC aN aO aQ aB aV aH) := ⟨⟨Nat.le_succ_of_le E1, E.1.2⟩, E.2.1, E.2.2.1, E.2.2.2.1, ⟨by rw [hlS]; exact hS2, hB2⟩, hL2, I'⟩
    have J' := lj_ref (tw := 0) X1 S1 E' (by omega) (by omega)
    rw [hlS] at J'
    rw [e1, e2]
    refine ps_s_eq p140_268 (by omega) (by omega) (fun c268 => ?_) (fun c268 => ?_)
    · exact K _ _ _ J'
    · exact absurd rfl c268
