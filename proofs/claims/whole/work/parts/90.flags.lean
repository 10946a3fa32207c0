/-! The flags of all documents, and the row of the kept ones. -/
abbrev dS (S : cS) : List (Nat × pD) := S.2.2.2.2
def mpS (u : pD → pD) (S : cS) : cS := (S.1, S.2.1, S.2.2.1, S.2.2.2.1, (dS S).map (fun p => (p.1, u p.2)))
def spD (x : pD) : pD := (x.1, x.2.1, 0)
def cPD (Ss : List cS) : Nat → Prop := fun u => ∃ S ∈ Ss, ∃ p ∈ dS S, p.1 = u
def mrS (M : List cS) : List (Nat × pD) := (M.flatMap dS).filter (fun p => !decide (p.2.2.1 = 1))
section CFL
variable {G : pm_G} {P : Nat → Prop} {h h1 : pm_S} {o o1 : Nat → Nat} {c s r cap cap2 a d al t k la ra : Nat} {S : cS} {Ss : List cS} {D : pD} {Q : pm_Q}
theorem dc_put {e x y : Nat} (A : h.1 d = some (pm_o 5 [iN D.1.1, iN D.1.2.length, .ref e, iN D.2.2, iN D.2.1])) (B : cDC G o h d D) (a1 : h1.1 d = some (pm_o 5 [iN D.1.1, iN D.1.2.length, .ref e, iN y, iN x])) (hf : ∀ z, z ≠ d → h1.1 z = h.1 z) (hx : x ≤ 1) (hy : y ≤ 1) : cDC G o h1 d (D.1, x, y) := by
  obtain ⟨e', f, b1, b2, b3, b4, b5, b6, b7, b8⟩ := B
  rw [A] at b1
  have he : e = e' := by cases b1; rfl
  subst he
  have hne : e ≠ d := fun q => by rw [q, A] at b2; cases b2
  exact ⟨e, f, a1, (hf e hne).trans b2, b3, b4, b5, b6, b7, hx, hy⟩
theorem sg_map {u : pD → pD} (A : cSG G o h S) (F : cF G P h o h1 o1 c s) (hk : ∀ u x, P u → h.1 u = some x → kd x = 6) (hd : ∀ p ∈ dS S, cDC G o1 h1 p.1 (u p.2)) : cSG G o1 h1 (mpS u S) := by
  obtain ⟨a1, ⟨a2, a3⟩, ⟨⟨cap, a4⟩, a5, a6⟩, a7⟩ := A
  refine ⟨cf_get F a1 (fun q => ?_), ⟨a2, by rw [show (mpS u S).1 = S.1 from rfl, cf_own F a1]; exact a3⟩, ⟨⟨cap, ?_⟩, ?_, ?_⟩, a7⟩
  · have q : P (o S.1) := q
    rw [a3] at q
    have := hk _ _ q a1
    exact absurd this (by show ¬ (6 + 1 = 6); decide)
  · have e1 : (mpS u S).2.2.2.2.map (·.1) = S.2.2.2.2.map (·.1) := by
      show ((dS S).map (fun p => (p.1, u p.2))).map (·.1) = _
      rw [List.map_map]
      rfl
    rw [e1]
    exact al_frk a4 F (fun u x q e => by rw [hk u x q e]; decide)
  · intro p hp
    obtain ⟨q, hq, rfl⟩ := List.mem_map.mp hp
    exact hd q hq
  · show ((dS S).map (fun p => (p.1, u p.2))).length ≤ 2000
    rw [List.length_map]
    exact a6
theorem pd_k (SS : ∀ S ∈ Ss, cSG G o h S) : ∀ u x, cPD Ss u → h.1 u = some x → kd x = 6 := by
  rintro u x ⟨S, hS, p, hp, rfl⟩ hx
  obtain ⟨_, _, gs, c1⟩ := dc_obj ((SS S hS).2.2.1.2.1 p hp)
  rw [c1] at hx
  cases hx
  rfl
theorem ct_settle (w : cW h o) (T : cCT G o h k la ra) (A : cAL G o h la cap (Ss.map (·.1))) (SS : ∀ S ∈ Ss, cSG G o h S) (hn : Ss.length ≤ 1000) (hnd : (Ss.flatMap dS).Pairwise (fun p q => p.1 ≠ q.1)) (K : ∀ h', cF G (cPD Ss) h o h' o 0 0 → (∀ S ∈ Ss, ∀ p ∈ dS S, cDC G o h' p.1 (stD p.2)) → Q (.inl none) h') : ps_M G 4 70 [.ref k] h Q := by
  have pk := pd_k SS
  have loop : ∀ d', 3 ≤ d' → ∀ (R M : List cS) (h1 : pm_S) (u2 u3 u4 : Option Value), M ++ R = Ss → cF G (cPD Ss) h o h1 o 0 0 → (∀ p ∈ M.flatMap dS, cDC G o h1 p.1 (stD p.2)) → (∀ p ∈ R.flatMap dS, cDC G o h1 p.1 p.2) → ps_X G d' 70 2 [some (.ref k), some (iN M.length), u2, u3, u4] [] h1 Q := by
    intro d hd R
    induction R with
    | nil =>
      intro M h1 u2 u3 u4 hM F I1 I2
      have A1 := al_frk A F (fun u x q e => by rw [pk u x q e]; decide)
      have T1 := ct_frk T F (fun u x q e => by rw [pk u x q e]; decide)
      obtain ⟨_, _, fs, a1⟩ := al_own A1
      rw [List.append_nil] at hM
      subst hM
      refine ps_s_il p70_2 rfl ?_
      first | refine ps_s_al p70_3 rfl ?_ | refine ps_s_aln p70_3 rfl ?_
      refine ps_s_gf p70_4 T1.1 rfl ?_
      refine ps_s_vV [] _ p70_7 rfl a1 rfl rfl rfl (al_sizem A1 (ps_bki ?_) d (by omega))
      refine ps_s_ge p70_10 (by omega) (by omega) (fun c10 => ?_) (fun c10 => ?_)
      · refine ps_s_rv p70_77 t70 ?_
        exact K _ F (fun S hS p hp => I1 p (List.mem_flatMap.mpr ⟨S, hS, hp⟩))
      · omega
    | cons S R ih =>
      intro M h1 u2 u3 u4 hM F I1 I2
      have A1 := al_frk A F (fun u x q e => by rw [pk u x q e]; decide)
      have T1 := ct_frk T F (fun u x q e => by rw [pk u x q e]; decide)
      obtain ⟨_, _, fs, a1⟩ := al_own A1
      have hlen : M.length + (R.length + 1) = Ss.length := by rw [← hM, List.length_append, List.length_cons]
      have hm : S ∈ Ss := by rw [← hM]; exact List.mem_append_right _ (List.mem_cons_self ..)
      have hg : (Ss.map (·.1))[M.length]? = some S.1 := by rw [List.getElem?_map, ← hM, get_pre]; rfl
      have s1 : h1.1 S.1 = some (pm_o 6 [iN S.2.1, .ref S.2.2.1, .ref S.2.2.2.1]) := cf_get F (SS S hm).1 (fun q => by
        rw [(SS S hm).2.1.2] at q
        exact absurd (pk _ _ q (SS S hm).1) (by show ¬ (6 + 1 = 6); decide))
      have nx := fun h1 u2 u3 u4 => ih (M ++ [S]) h1 u2 u3 u4 (by rw [List.append_assoc]; exact hM)
      rw [List.length_append, List.flatMap_append, show [S].flatMap dS = dS S by simp] at nx
      rw [← hM, List.flatMap_append, List.flatMap_cons] at hnd
      have inner : ∀ (U V : List (Nat × pD)) (h1 : pm_S) (u4 : Option Value), V ++ U = dS S → cF G (cPD Ss) h o h1 o 0 0 → (∀ p ∈ M.flatMap dS ++ V, cDC G o h1 p.1 (stD p.2)) → (∀ p ∈ U ++ R.flatMap dS, cDC G o h1 p.1 p.2) → ps_X G d 70 30 [some (.ref k), some (iN M.length), some (.ref S.2.2.1), some (iN V.length), u4] [] h1 Q := by
        intro U
        induction U with
        | nil =>
          intro V h1 u4 hV F I1 I2
          rw [List.append_nil] at hV
          subst hV
          obtain ⟨capS, A2⟩ := (SS S hm).2.2.1.1
          have A3 : cAL G o h1 S.2.2.1 capS ((dS S).map (·.1)) := al_frk A2 F (fun u x q e => by rw [pk u x q e]; decide)
          obtain ⟨_, _, gs, b1⟩ := al_own A3
          have hxs : (dS S).length ≤ 2000 := (SS S hm).2.2.1.2.2
          refine ps_s_il p70_30 rfl ?_
          first | refine ps_s_al p70_31 rfl ?_ | refine ps_s_aln p70_31 rfl ?_
          refine ps_s_vV [] _ p70_32 rfl b1 rfl rfl rfl (al_sizem A3 (ps_bki ?_) d (by omega))
          refine ps_s_ge p70_35 (by omega) (by omega) (fun c35 => ?_) (fun c35 => ?_)
          · refine ps_s_in1 p70_71 ?_
            refine ps_s_go p70_74 ?_
            exact nx _ _ _ _ F I1 I2
          · exact absurd (Nat.le_refl _) c35
        | cons p U ih2 =>
          intro V h1 u4 hV F I1 I2
          obtain ⟨capS, A2⟩ := (SS S hm).2.2.1.1
          have A3 : cAL G o h1 S.2.2.1 capS ((dS S).map (·.1)) := al_frk A2 F (fun u x q e => by rw [pk u x q e]; decide)
          obtain ⟨_, _, gs, b1⟩ := al_own A3
          have hxs : (dS S).length ≤ 2000 := (SS S hm).2.2.1.2.2
          have hlen2 : V.length + (U.length + 1) = (dS S).length := by rw [← hV, List.length_append, List.length_cons]
          have hpm : p ∈ dS S := by rw [← hV]; exact List.mem_append_right _ (List.mem_cons_self ..)
          have hg2 : ((dS S).map (·.1))[V.length]? = some p.1 := by rw [List.getElem?_map, ← hV, get_pre]; rfl
          have nx2 := fun h1 u4 => ih2 (V ++ [p]) h1 u4 (by rw [List.append_assoc]; exact hV)
          rw [List.length_append, ← List.append_assoc] at nx2
          have hdc := I2 p (List.mem_append_left _ (List.mem_cons_self ..))
          have hdc' := hdc
          obtain ⟨e, f, p1, p2, ⟨p3, p4⟩, p5, p6, p7⟩ := hdc'
          have hnd2 : ((M.flatMap dS ++ V) ++ p :: (U ++ R.flatMap dS)).Pairwise (fun p q => p.1 ≠ q.1) := by
            rw [← hV] at hnd
            have e2 : M.flatMap dS ++ ((V ++ p :: U) ++ R.flatMap dS) = (M.flatMap dS ++ V) ++ p :: (U ++ R.flatMap dS) := by simp only [List.append_assoc, List.cons_append]
            rw [← e2]
            exact hnd
          obtain ⟨_, n2, n3⟩ := List.pairwise_append.mp hnd2
          obtain ⟨n4, _⟩ := List.pairwise_cons.mp n2
          have f1 := cf_put2 (a := p.1) (x := pm_o 5 [iN p.2.1.1, iN p.2.1.2.length, .ref e, iN p.2.2.2, iN (bN (gnD 1 p.2))]) w F p1 (by omega) (.inl (by rw [p4]; exact ⟨S, hm, p, hpm, rfl⟩)) rfl
          have f2 := cf_put2 (a := p.1) (x := pm_o 5 [iN p.2.1.1, iN p.2.1.2.length, .ref e, iN 0, iN (bN (gnD 1 p.2))]) w f1 pp_eq (by omega) (.inl (by rw [p4]; exact ⟨S, hm, p, hpm, rfl⟩)) rfl
          have g1 : cF G (· = p.1) h1 o (pm_put h1 p.1 (pm_o 5 [iN p.2.1.1, iN p.2.1.2.length, .ref e, iN p.2.2.2, iN (bN (gnD 1 p.2))])) o 0 0 := cf_put F.1 p1 (by omega) p4 rfl
          have g2 := cf_put2 (a := p.1) (x := pm_o 5 [iN p.2.1.1, iN p.2.1.2.length, .ref e, iN 0, iN (bN (gnD 1 p.2))]) F.1 g1 pp_eq (by omega) (.inl p4) rfl
          have hnew := dc_put (x := bN (gnD 1 p.2)) (y := 0) (h1 := pm_put (pm_put h1 p.1 (pm_o 5 [iN p.2.1.1, iN p.2.1.2.length, .ref e, iN p.2.2.2, iN (bN (gnD 1 p.2))])) p.1 (pm_o 5 [iN p.2.1.1, iN p.2.1.2.length, .ref e, iN 0, iN (bN (gnD 1 p.2))])) p1 hdc pp_eq (fun z hz => (pp_ne hz).trans (pp_ne hz)) (bN_le _) (Nat.zero_le _)
          have est : ((p.2.1, bN (gnD 1 p.2), 0) : pD) = stD p.2 := by
            unfold stD gnD
            rw [decide_eq_true (rfl : 1 = 1), Bool.true_and]
          rw [est] at hnew
          refine ps_s_il p70_30 rfl ?_
          first | refine ps_s_al p70_31 rfl ?_ | refine ps_s_aln p70_31 rfl ?_
          refine ps_s_vV [] _ p70_32 rfl b1 rfl rfl rfl (al_sizem A3 (ps_bki ?_) d (by omega))
          refine ps_s_ge p70_35 (by omega) (by omega) (fun c35 => ?_) (fun c35 => ?_)
          · omega
          · first | refine ps_s_al p70_38 rfl ?_ | refine ps_s_aln p70_38 rfl ?_
            refine ps_s_il p70_39 rfl ?_
            refine ps_s_vV [_] _ p70_40 rfl b1 rfl rfl rfl (al_get A3 hg2 (ps_bki ?_) d (by omega))
            refine ps_s_ck p70_43 p1 ?_
            first | refine ps_s_as4 p70_46 ?_ | refine ps_s_asn4 p70_46 ?_
            first | refine ps_s_al p70_48 rfl ?_ | refine ps_s_aln p70_48 rfl ?_
            first | refine ps_s_al p70_50 rfl ?_ | refine ps_s_aln p70_50 rfl ?_
            refine ps_s_k p70_52 ?_
            refine ps_s_vV [_] _ p70_53 rfl p1 rfl rfl rfl (dc_gone hdc (by omega) (ps_bki ?_) d (by omega))
            refine ps_s_pf p70_56 p1 (by omega) (bN_fit _) (ps_blt rfl) ?_
            first | refine ps_s_al p70_59 rfl ?_ | refine ps_s_aln p70_59 rfl ?_
            refine ps_s_k p70_61 ?_
            refine ps_s_pf p70_62 pp_eq (by omega) rfl (ps_blt rfl) ?_
            refine ps_s_in3 p70_65 ?_
            refine ps_s_go p70_68 ?_
            refine nx2 _ _ f2 (fun q hq => ?_) (fun q hq => ?_)
            · rcases List.mem_append.mp hq with hq | hq
              · exact dc_fr (I1 q hq) g2 (n3 q hq p (List.mem_cons_self ..))
              · have := List.mem_singleton.mp hq
                subst this
                exact hnew
            · exact dc_fr (I2 q (List.mem_cons_of_mem _ hq)) g2 (fun e2 => n4 q hq e2.symm)
      refine ps_s_il p70_2 rfl ?_
      first | refine ps_s_al p70_3 rfl ?_ | refine ps_s_aln p70_3 rfl ?_
      refine ps_s_gf p70_4 T1.1 rfl ?_
      refine ps_s_vV [] _ p70_7 rfl a1 rfl rfl rfl (al_sizem A1 (ps_bki ?_) d (by omega))
      refine ps_s_ge p70_10 (by omega) (by omega) (fun c10 => ?_) (fun c10 => ?_)
      · omega
      · first | refine ps_s_al p70_13 rfl ?_ | refine ps_s_aln p70_13 rfl ?_
        refine ps_s_gf p70_14 T1.1 rfl ?_
        refine ps_s_il p70_17 rfl ?_
        refine ps_s_vV [_] _ p70_18 rfl a1 rfl rfl rfl (al_get A1 hg (ps_bki ?_) d (by omega))
        refine ps_s_ck p70_21 s1 ?_
        refine ps_s_gf p70_24 s1 rfl ?_
        first | refine ps_s_as2 p70_27 ?_ | refine ps_s_asn2 p70_27 ?_
        refine ps_s_k p70_28 ?_
        refine ps_s_is3 p70_29 ?_
        exact inner (dS S) [] _ _ rfl F (by rw [List.append_nil]; exact I1) I2
  refine ps_M_in (e70 _) l70 (fun d hd => ?_)
  refine ps_s_k p70_0 ?_
  refine ps_s_is1 p70_1 ?_
  exact loop d hd Ss [] h _ _ _ rfl (cf_refl w) (fun p hp => absurd hp List.not_mem_nil) (fun p hp => by
    obtain ⟨S, hS, hp⟩ := List.mem_flatMap.mp hp
    exact (SS S hS).2.2.1.2.1 p hp)
theorem ct_spare (w : cW h o) (T : cCT G o h k la ra) (A : cAL G o h la cap (Ss.map (·.1))) (SS : ∀ S ∈ Ss, cSG G o h S) (hn : Ss.length ≤ 1000) (hnd : (Ss.flatMap dS).Pairwise (fun p q => p.1 ≠ q.1)) (K : ∀ h', cF G (cPD Ss) h o h' o 0 0 → (∀ S ∈ Ss, ∀ p ∈ dS S, cDC G o h' p.1 (spD p.2)) → Q (.inl none) h') : ps_M G 4 69 [.ref k] h Q := by
  have pk := pd_k SS
  have loop : ∀ d', 3 ≤ d' → ∀ (R M : List cS) (h1 : pm_S) (u2 u3 : Option Value), M ++ R = Ss → cF G (cPD Ss) h o h1 o 0 0 → (∀ p ∈ M.flatMap dS, cDC G o h1 p.1 (spD p.2)) → (∀ p ∈ R.flatMap dS, cDC G o h1 p.1 p.2) → ps_X G d' 69 2 [some (.ref k), some (iN M.length), u2, u3] [] h1 Q := by
    intro d hd R
    induction R with
    | nil =>
      intro M h1 u2 u3 hM F I1 I2
      have A1 := al_frk A F (fun u x q e => by rw [pk u x q e]; decide)
      have T1 := ct_frk T F (fun u x q e => by rw [pk u x q e]; decide)
      obtain ⟨_, _, fs, a1⟩ := al_own A1
      rw [List.append_nil] at hM
      subst hM
      refine ps_s_il p69_2 rfl ?_
      first | refine ps_s_al p69_3 rfl ?_ | refine ps_s_aln p69_3 rfl ?_
      refine ps_s_gf p69_4 T1.1 rfl ?_
      refine ps_s_vV [] _ p69_7 rfl a1 rfl rfl rfl (al_sizem A1 (ps_bki ?_) d (by omega))
      refine ps_s_ge p69_10 (by omega) (by omega) (fun c10 => ?_) (fun c10 => ?_)
      · refine ps_s_rv p69_62 t69 ?_
        exact K _ F (fun S hS p hp => I1 p (List.mem_flatMap.mpr ⟨S, hS, hp⟩))
      · omega
    | cons S R ih =>
      intro M h1 u2 u3 hM F I1 I2
      have A1 := al_frk A F (fun u x q e => by rw [pk u x q e]; decide)
      have T1 := ct_frk T F (fun u x q e => by rw [pk u x q e]; decide)
      obtain ⟨_, _, fs, a1⟩ := al_own A1
      have hlen : M.length + (R.length + 1) = Ss.length := by rw [← hM, List.length_append, List.length_cons]
      have hm : S ∈ Ss := by rw [← hM]; exact List.mem_append_right _ (List.mem_cons_self ..)
      have hg : (Ss.map (·.1))[M.length]? = some S.1 := by rw [List.getElem?_map, ← hM, get_pre]; rfl
      have s1 : h1.1 S.1 = some (pm_o 6 [iN S.2.1, .ref S.2.2.1, .ref S.2.2.2.1]) := cf_get F (SS S hm).1 (fun q => by
        rw [(SS S hm).2.1.2] at q
        exact absurd (pk _ _ q (SS S hm).1) (by show ¬ (6 + 1 = 6); decide))
      have nx := fun h1 u2 u3 => ih (M ++ [S]) h1 u2 u3 (by rw [List.append_assoc]; exact hM)
      rw [List.length_append, List.flatMap_append, show [S].flatMap dS = dS S by simp] at nx
      rw [← hM, List.flatMap_append, List.flatMap_cons] at hnd
      have inner : ∀ (U V : List (Nat × pD)) (h1 : pm_S), V ++ U = dS S → cF G (cPD Ss) h o h1 o 0 0 → (∀ p ∈ M.flatMap dS ++ V, cDC G o h1 p.1 (spD p.2)) → (∀ p ∈ U ++ R.flatMap dS, cDC G o h1 p.1 p.2) → ps_X G d 69 30 [some (.ref k), some (iN M.length), some (.ref S.2.2.1), some (iN V.length)] [] h1 Q := by
        intro U
        induction U with
        | nil =>
          intro V h1 hV F I1 I2
          rw [List.append_nil] at hV
          subst hV
          obtain ⟨capS, A2⟩ := (SS S hm).2.2.1.1
          have A3 : cAL G o h1 S.2.2.1 capS ((dS S).map (·.1)) := al_frk A2 F (fun u x q e => by rw [pk u x q e]; decide)
          obtain ⟨_, _, gs, b1⟩ := al_own A3
          have hxs : (dS S).length ≤ 2000 := (SS S hm).2.2.1.2.2
          refine ps_s_il p69_30 rfl ?_
          first | refine ps_s_al p69_31 rfl ?_ | refine ps_s_aln p69_31 rfl ?_
          refine ps_s_vV [] _ p69_32 rfl b1 rfl rfl rfl (al_sizem A3 (ps_bki ?_) d (by omega))
          refine ps_s_ge p69_35 (by omega) (by omega) (fun c35 => ?_) (fun c35 => ?_)
          · refine ps_s_in1 p69_56 ?_
            refine ps_s_go p69_59 ?_
            exact nx _ _ _ F I1 I2
          · exact absurd (Nat.le_refl _) c35
        | cons p U ih2 =>
          intro V h1 hV F I1 I2
          obtain ⟨capS, A2⟩ := (SS S hm).2.2.1.1
          have A3 : cAL G o h1 S.2.2.1 capS ((dS S).map (·.1)) := al_frk A2 F (fun u x q e => by rw [pk u x q e]; decide)
          obtain ⟨_, _, gs, b1⟩ := al_own A3
          have hxs : (dS S).length ≤ 2000 := (SS S hm).2.2.1.2.2
          have hlen2 : V.length + (U.length + 1) = (dS S).length := by rw [← hV, List.length_append, List.length_cons]
          have hpm : p ∈ dS S := by rw [← hV]; exact List.mem_append_right _ (List.mem_cons_self ..)
          have hg2 : ((dS S).map (·.1))[V.length]? = some p.1 := by rw [List.getElem?_map, ← hV, get_pre]; rfl
          have nx2 := fun h1 => ih2 (V ++ [p]) h1 (by rw [List.append_assoc]; exact hV)
          rw [List.length_append, ← List.append_assoc] at nx2
          have hdc := I2 p (List.mem_append_left _ (List.mem_cons_self ..))
          have hdc' := hdc
          obtain ⟨e, f, p1, p2, ⟨p3, p4⟩, p5, p6, p7, p8, p9, p10⟩ := hdc'
          have hnd2 : ((M.flatMap dS ++ V) ++ p :: (U ++ R.flatMap dS)).Pairwise (fun p q => p.1 ≠ q.1) := by
            rw [← hV] at hnd
            have e2 : M.flatMap dS ++ ((V ++ p :: U) ++ R.flatMap dS) = (M.flatMap dS ++ V) ++ p :: (U ++ R.flatMap dS) := by simp only [List.append_assoc, List.cons_append]
            rw [← e2]
            exact hnd
          obtain ⟨_, n2, n3⟩ := List.pairwise_append.mp hnd2
          obtain ⟨n4, _⟩ := List.pairwise_cons.mp n2
          have f1 := cf_put2 (a := p.1) (x := pm_o 5 [iN p.2.1.1, iN p.2.1.2.length, .ref e, iN 0, iN p.2.2.1]) w F p1 (by omega) (.inl (by rw [p4]; exact ⟨S, hm, p, hpm, rfl⟩)) rfl
          have g1 : cF G (· = p.1) h1 o (pm_put h1 p.1 (pm_o 5 [iN p.2.1.1, iN p.2.1.2.length, .ref e, iN 0, iN p.2.2.1])) o 0 0 := cf_put F.1 p1 (by omega) p4 rfl
          have hnew := dc_put (x := p.2.2.1) (y := 0) (h1 := pm_put h1 p.1 (pm_o 5 [iN p.2.1.1, iN p.2.1.2.length, .ref e, iN 0, iN p.2.2.1])) p1 hdc pp_eq (fun z hz => pp_ne hz) p9 (Nat.zero_le _)
          refine ps_s_il p69_30 rfl ?_
          first | refine ps_s_al p69_31 rfl ?_ | refine ps_s_aln p69_31 rfl ?_
          refine ps_s_vV [] _ p69_32 rfl b1 rfl rfl rfl (al_sizem A3 (ps_bki ?_) d (by omega))
          refine ps_s_ge p69_35 (by omega) (by omega) (fun c35 => ?_) (fun c35 => ?_)
          · omega
          · first | refine ps_s_al p69_38 rfl ?_ | refine ps_s_aln p69_38 rfl ?_
            refine ps_s_il p69_39 rfl ?_
            refine ps_s_vV [_] _ p69_40 rfl b1 rfl rfl rfl (al_get A3 hg2 (ps_bki ?_) d (by omega))
            refine ps_s_ck p69_43 p1 ?_
            refine ps_s_k p69_46 ?_
            refine ps_s_pf p69_47 p1 (by omega) rfl (ps_blt rfl) ?_
            refine ps_s_in3 p69_50 ?_
            refine ps_s_go p69_53 ?_
            refine nx2 _ f1 (fun q hq => ?_) (fun q hq => ?_)
            · rcases List.mem_append.mp hq with hq | hq
              · exact dc_fr (I1 q hq) g1 (n3 q hq p (List.mem_cons_self ..))
              · have := List.mem_singleton.mp hq
                subst this
                exact hnew
            · exact dc_fr (I2 q (List.mem_cons_of_mem _ hq)) g1 (fun e2 => n4 q hq e2.symm)
      refine ps_s_il p69_2 rfl ?_
      first | refine ps_s_al p69_3 rfl ?_ | refine ps_s_aln p69_3 rfl ?_
      refine ps_s_gf p69_4 T1.1 rfl ?_
      refine ps_s_vV [] _ p69_7 rfl a1 rfl rfl rfl (al_sizem A1 (ps_bki ?_) d (by omega))
      refine ps_s_ge p69_10 (by omega) (by omega) (fun c10 => ?_) (fun c10 => ?_)
      · omega
      · first | refine ps_s_al p69_13 rfl ?_ | refine ps_s_aln p69_13 rfl ?_
        refine ps_s_gf p69_14 T1.1 rfl ?_
        refine ps_s_il p69_17 rfl ?_
        refine ps_s_vV [_] _ p69_18 rfl a1 rfl rfl rfl (al_get A1 hg (ps_bki ?_) d (by omega))
        refine ps_s_ck p69_21 s1 ?_
        refine ps_s_gf p69_24 s1 rfl ?_
        first | refine ps_s_as2 p69_27 ?_ | refine ps_s_asn2 p69_27 ?_
        refine ps_s_k p69_28 ?_
        refine ps_s_is3 p69_29 ?_
        exact inner (dS S) [] _ rfl F (by rw [List.append_nil]; exact I1) I2
  refine ps_M_in (e69 _) l69 (fun d hd => ?_)
  refine ps_s_k p69_0 ?_
  refine ps_s_is1 p69_1 ?_
  exact loop d hd Ss [] h _ _ rfl (cf_refl w) (fun p hp => absurd hp List.not_mem_nil) (fun p hp => by
    obtain ⟨S, hS, hp⟩ := List.mem_flatMap.mp hp
    exact (SS S hS).2.2.1.2.1 p hp)
end CFL
