/-! The shelf: what its queries answer, and the greatest key. -/
section XQR
variable {G : pm_G} {o : Nat → Nat} {h : pm_S} {x dr pi pg ba kD lD rD kP lP rP room nn : Nat} {pw : Option Nat} {ts : List Nat} {ps : List (Nat × List Nat)} {bx : List (Nat × pD)} {Ss : List cS} {Lb : List Nat} {Q : pm_Q}
theorem x_topQuery (X : (cX G o h x dr pi pg ba kD lD rD kP lP rP room nn pw ts ps bx Ss Lb)) (hp : ps.length ≤ 8) (K1 : ps = [] → Q (.inl (some .null)) h) (K2 : ∀ p, ps[ps.length - 1]? = some p → Q (.inl (some (.ref p.1))) h) : ps_M G 4 86 [.ref x] h Q := by
  obtain ⟨X0, ⟨pf, bf, x1, _⟩, X3, ⟨⟨cap, A⟩, A2⟩, X5, X6, X7, X8, X9⟩ := X
  obtain ⟨_, _, fs, a1⟩ := al_own A
  refine ps_M_in (e86 _) l86 (fun d hd => ?_)
  refine ps_s_al p86_0 rfl ?_
  refine ps_s_gf p86_1 x1 rfl ?_
  refine ps_s_vV [] _ p86_4 rfl a1 rfl rfl rfl (al_isEmpty A (fun q => ps_bki ?_) (fun q => ps_bki ?_) d (by omega))
  · refine ps_s_eq0 p86_7 (by omega) (fun c7 => ?_) (fun c7 => ?_)
    · exact absurd c7 (by decide)
    · refine ps_s_p p86_10 rfl ?_
      refine ps_s_go p86_11 ?_
      first | refine ps_s_ra p86_33 t86 ?_ | refine ps_s_rn p86_33 t86 ?_
      exact K1 (List.map_eq_nil_iff.mp q)
  · have hpos : 0 < ps.length := by
      rcases Nat.eq_zero_or_pos ps.length with e | e
      · exact absurd (by rw [List.eq_nil_of_length_eq_zero e]; rfl) q
      · exact e
    have hS : ps[ps.length - 1]? = some ps[ps.length - 1] := List.getElem?_eq_getElem (by omega)
    have hg : (ps.map (·.1))[ps.length - 1]? = some (ps[ps.length - 1]).1 := by rw [List.getElem?_map, hS]; rfl
    have hk := (A2 ps[ps.length - 1] (List.getElem_mem (by omega))).1
    refine ps_s_eq0 p86_7 (by omega) (fun c7 => ?_) (fun c7 => ?_)
    · first | refine ps_s_al p86_14 rfl ?_ | refine ps_s_aln p86_14 rfl ?_
      refine ps_s_gf p86_15 x1 rfl ?_
      first | refine ps_s_al p86_18 rfl ?_ | refine ps_s_aln p86_18 rfl ?_
      refine ps_s_gf p86_19 x1 rfl ?_
      refine ps_s_vV [] _ p86_22 rfl a1 rfl rfl rfl (al_sizem A (ps_bki ?_) d (by omega))
      refine ps_s_k p86_25 ?_
      first | refine ps_s_sub p86_26 (by omega) ?_ | refine ps_s_2 p86_26 ?_
      refine ps_s_vV [_] _ p86_27 rfl a1 rfl rfl rfl (al_get A hg (ps_bki ?_) d (by omega))
      rcases cq_kind _ _ _ hk with ⟨gq, q1⟩ | ⟨gq, q1⟩
      · refine ps_s_ck p86_30 q1 ?_
        first | refine ps_s_ra p86_33 t86 ?_ | refine ps_s_rn p86_33 t86 ?_
        exact K2 _ hS
      · refine ps_s_ck p86_30b q1 ?_
        first | refine ps_s_ra p86_33 t86 ?_ | refine ps_s_rn p86_33 t86 ?_
        exact K2 _ hS
    · exact absurd rfl c7
theorem x_count (X : (cX G o h x dr pi pg ba kD lD rD kP lP rP room nn pw ts ps bx Ss Lb)) (hp : ps.length ≤ 8) (hn : Ss.length ≤ 1000) (K1 : ps = [] → Q (.inr 2) (pm_gap h 6)) (K2 : ∀ p, ps[ps.length - 1]? = some p → Q (.inl (some (iN (Ss.map (fun S => (((dS S).map (·.2)).filter (mtD p.2)).length)).sum))) h) : ps_M G 12 85 [.ref x] h Q := by
  have X' := X
  obtain ⟨X0, ⟨pf, bf, x1, _⟩, X3, ⟨⟨cap, A⟩, A2⟩, X5, X6, ⟨T, ⟨capD, A4⟩, SS, RR, B⟩, X8, X9⟩ := X'
  obtain ⟨_, _, fs, a1⟩ := al_own A4
  have loop : ∀ p, ps[ps.length - 1]? = some p → ∀ d', 11 ≤ d' → ∀ (R M : List cS), M ++ R = Ss → ps_X G d' 85 23 [some (.ref x), some (.ref p.1), some (iN (M.map (fun S => (((dS S).map (·.2)).filter (mtD p.2)).length)).sum), some (iN M.length)] [] h Q := by
    intro p hps d hd R
    obtain ⟨q1, q2⟩ := A2 p (List.mem_of_getElem? hps)
    induction R with
    | nil =>
      intro M hM
      rw [List.append_nil] at hM
      subst hM
      refine ps_s_il p85_23 rfl ?_
      first | refine ps_s_al p85_24 rfl ?_ | refine ps_s_aln p85_24 rfl ?_
      refine ps_s_gf p85_25 x1 rfl ?_
      refine ps_s_gf p85_28 T.1 rfl ?_
      refine ps_s_vV [] _ p85_31 rfl a1 rfl rfl rfl (al_sizem A4 (ps_bki ?_) d (by omega))
      refine ps_s_ge p85_34 (by omega) (by omega) (fun c34 => ?_) (fun c34 => ?_)
      · refine ps_s_il p85_64 rfl ?_
        refine ps_s_ri p85_65 t85 ?_
        exact K2 p hps
      · omega
    | cons S R ih =>
      intro M hM
      have hlen : M.length + (R.length + 1) = Ss.length := by rw [← hM, List.length_append, List.length_cons]
      have hm : S ∈ Ss := by rw [← hM]; exact List.mem_append_right _ (List.mem_cons_self ..)
      obtain ⟨s1, _, s4, _⟩ := SS S hm
      have hg : (Ss.map (·.1))[M.length]? = some S.1 := by rw [List.getElem?_map, ← hM, get_pre]; rfl
      have nx := ih (M ++ [S]) (by rw [List.append_assoc]; exact hM)
      rw [List.length_append, List.map_append, List.sum_append, show ([S].map (fun S => (((dS S).map (·.2)).filter (mtD p.2)).length)).sum = (((dS S).map (·.2)).filter (mtD p.2)).length by simp] at nx
      refine ps_s_il p85_23 rfl ?_
      first | refine ps_s_al p85_24 rfl ?_ | refine ps_s_aln p85_24 rfl ?_
      refine ps_s_gf p85_25 x1 rfl ?_
      refine ps_s_gf p85_28 T.1 rfl ?_
      refine ps_s_vV [] _ p85_31 rfl a1 rfl rfl rfl (al_sizem A4 (ps_bki ?_) d (by omega))
      refine ps_s_ge p85_34 (by omega) (by omega) (fun c34 => ?_) (fun c34 => ?_)
      · omega
      · refine ps_s_il p85_37 rfl ?_
        first | refine ps_s_al p85_38 rfl ?_ | refine ps_s_aln p85_38 rfl ?_
        refine ps_s_gf p85_39 x1 rfl ?_
        refine ps_s_gf p85_42 T.1 rfl ?_
        refine ps_s_il p85_45 rfl ?_
        refine ps_s_vV [_] _ p85_46 rfl a1 rfl rfl rfl (al_get A4 hg (ps_bki ?_) d (by omega))
        refine ps_s_ck p85_49 s1 ?_
        first | refine ps_s_al p85_52 rfl ?_ | refine ps_s_aln p85_52 rfl ?_
        refine ps_s_vV [_] _ p85_53 rfl s1 rfl rfl rfl (sg_matches s1 s4 q1 q2 (ps_bki ?_) d (by omega))
        first | refine ps_s_add p85_56 ?_ | refine ps_s_2 p85_56 ?_
        refine ps_s_is2 p85_57 ?_
        refine ps_s_in3 p85_58 ?_
        refine ps_s_go p85_61 ?_
        exact nx
  refine ps_M_in (e85 _) l85 (fun d hd => ?_)
  refine ps_s_al p85_0 rfl ?_
  refine ps_s_vV [] _ p85_1 rfl x1 rfl rfl rfl (x_topQuery X hp (fun q => ps_bki ?_) (fun p q => ps_bki ?_) d (by omega))
  · first | refine ps_s_as1 p85_4 ?_ | refine ps_s_asn1 p85_4 ?_
    first | refine ps_s_al p85_5 rfl ?_ | refine ps_s_aln p85_5 rfl ?_
    refine ps_s_jnn p85_6 ?_
    show ps_X _ _ 85 9 _ _ _ _
    refine ps_s_th p85_9 ?_
    exact K1 q
  · first | refine ps_s_as1 p85_4 ?_ | refine ps_s_asn1 p85_4 ?_
    first | refine ps_s_al p85_5 rfl ?_ | refine ps_s_aln p85_5 rfl ?_
    refine ps_s_jnr p85_6 ?_
    show ps_X _ _ 85 19 _ _ _ _
    refine ps_s_k p85_19 ?_
    refine ps_s_is2 p85_20 ?_
    refine ps_s_k p85_21 ?_
    refine ps_s_is3 p85_22 ?_
    exact loop p q d hd Ss [] rfl
theorem x_match {a : Int32} (X : (cX G o h x dr pi pg ba kD lD rD kP lP rP room nn pw ts ps bx Ss Lb)) (hp : ps.length ≤ 8) (hn : Ss.length ≤ 1000) (K1 : (ps = [] ∨ ∀ p, ps[ps.length - 1]? = some p → a < 0 ∨ ((Ss.flatMap dS).filter (fun y => mtD p.2 y.2)).length ≤ a.toNatClampNeg) → Q (.inr 2) (pm_gap h 6)) (K2 : ∀ p y, ps[ps.length - 1]? = some p → ¬ a < 0 → ((Ss.flatMap dS).filter (fun y => mtD p.2 y.2))[a.toNatClampNeg]? = some y → Q (.inl (some (iN y.2.1.1))) h) : ps_M G 12 93 [.ref x, .int a] h Q := by
  have X' := X
  obtain ⟨X0, ⟨pf, bf, x1, _⟩, X3, ⟨⟨cap, A⟩, A2⟩, X5, X6, ⟨T, ⟨capD, A4⟩, SS, RR, B⟩, X8, X9⟩ := X'
  obtain ⟨_, _, fs, a1⟩ := al_own A4
  have bad : ∀ d' u2, (ps = [] ∨ ∀ p, ps[ps.length - 1]? = some p → a < 0 ∨ ((Ss.flatMap dS).filter (fun y => mtD p.2 y.2)).length ≤ a.toNatClampNeg) → ps_X G d' 93 26 [some (.ref x), some (.int a), u2, none] [.null] h Q := by
    intro d' u2 q
    first | refine ps_s_as3 p93_26 ?_ | refine ps_s_asn3 p93_26 ?_
    first | refine ps_s_al p93_27 rfl ?_ | refine ps_s_aln p93_27 rfl ?_
    refine ps_s_jnn p93_28 ?_
    show ps_X _ _ 93 31 _ _ _ _
    refine ps_s_th p93_31 ?_
    exact K1 q
  refine ps_M_in (e93 _ _) l93 (fun d hd => ?_)
  refine ps_s_al p93_0 rfl ?_
  refine ps_s_vV [] _ p93_1 rfl x1 rfl rfl rfl (x_topQuery X hp (fun q => ps_bki ?_) (fun p q => ps_bki ?_) d (by omega))
  · first | refine ps_s_as2 p93_4 ?_ | refine ps_s_asn2 p93_4 ?_
    first | refine ps_s_al p93_5 rfl ?_ | refine ps_s_aln p93_5 rfl ?_
    refine ps_s_jnn p93_6 ?_
    show ps_X _ _ 93 13 _ _ _ _
    refine ps_s_p p93_13 rfl ?_
    refine ps_s_go p93_14 ?_
    exact bad _ _ (.inl q)
  · first | refine ps_s_as2 p93_4 ?_ | refine ps_s_asn2 p93_4 ?_
    first | refine ps_s_al p93_5 rfl ?_ | refine ps_s_aln p93_5 rfl ?_
    refine ps_s_jnr p93_6 ?_
    show ps_X _ _ 93 9 _ _ _ _
    refine ps_s_il p93_9 rfl ?_
    obtain ⟨q1, q2⟩ := A2 p (List.mem_of_getElem? q)
    refine ps_s_j0 p93_10 (fun c => ?_) (fun c => ?_)
    · have hge : ¬ a < 0 := Int32.not_lt.mpr (of_decide_eq_true c)
      rcases i_cases a with e | ⟨v, hv, rfl⟩
      · exact absurd e hge
      · rw [i_cl hv] at K1 K2 bad
        refine ps_s_al p93_17 rfl ?_
        refine ps_s_gf p93_18 x1 rfl ?_
        refine ps_s_al p93_21 rfl ?_
        refine ps_s_il p93_22 rfl ?_
        refine ps_s_vV [_, _] _ p93_23 rfl T.1 rfl rfl rfl (ct_match T A4 SS hn q1 q2 hv (fun e => ps_bki ?_) (fun y e1 e2 => ps_bki ?_) d (by omega))
        · refine bad _ _ (.inr (fun p' hp' => ?_))
          rw [q] at hp'
          cases hp'
          exact .inr e
        · obtain ⟨S, hS, hy⟩ := List.mem_flatMap.mp e2
          obtain ⟨e, f, y1, _⟩ := (SS S hS).2.2.1.2.1 y hy
          first | refine ps_s_as3 p93_26 ?_ | refine ps_s_asn3 p93_26 ?_
          first | refine ps_s_al p93_27 rfl ?_ | refine ps_s_aln p93_27 rfl ?_
          refine ps_s_jnr p93_28 ?_
          show ps_X _ _ 93 41 _ _ _ _
          first | refine ps_s_al p93_41 rfl ?_ | refine ps_s_aln p93_41 rfl ?_
          refine ps_s_gf p93_42 y1 rfl ?_
          refine ps_s_ri p93_45 t93 ?_
          exact K2 p y q hge e1
    · have hlt : a < 0 := Int32.not_le.mp (of_decide_eq_false c)
      refine ps_s_p p93_13 rfl ?_
      refine ps_s_go p93_14 ?_
      exact bad _ _ (.inr (fun p' hp' => .inl hlt))
theorem x_places {a : Int32} (X : (cX G o h x dr pi pg ba kD lD rD kP lP rP room nn pw ts ps bx Ss Lb)) (hp : ps.length ≤ 8) (hn : Ss.length ≤ 1000) (K1 : ps = [] → Q (.inr 2) (pm_gap h 6)) (K2 : ∀ p, ps[ps.length - 1]? = some p → (∀ S ∈ Ss, ∀ y ∈ dS S, Int32.ofNat y.2.1.1 = a → ¬ y.2.2.1 = 0) → Q (.inl (some (.int (-2)))) h) (K3 : ∀ p, ps[ps.length - 1]? = some p → ∀ S ∈ Ss, ∀ y ∈ dS S, Int32.ofNat y.2.1.1 = a → y.2.2.1 = 0 → Q (.inl (some (iN (whM p.2 y.2.1.2)))) h) : ps_M G 12 96 [.ref x, .int a] h Q := by
  have X' := X
  obtain ⟨X0, ⟨pf, bf, x1, _⟩, X3, ⟨⟨cap, A⟩, A2⟩, X5, X6, ⟨T, ⟨capD, A4⟩, SS, RR, B⟩, X8, X9⟩ := X'
  refine ps_M_in (e96 _ _) l96 (fun d hd => ?_)
  refine ps_s_al p96_0 rfl ?_
  refine ps_s_vV [] _ p96_1 rfl x1 rfl rfl rfl (x_topQuery X hp (fun q => ps_bki ?_) (fun p q => ps_bki ?_) d (by omega))
  · first | refine ps_s_as2 p96_4 ?_ | refine ps_s_asn2 p96_4 ?_
    first | refine ps_s_al p96_5 rfl ?_ | refine ps_s_aln p96_5 rfl ?_
    refine ps_s_jnn p96_6 ?_
    show ps_X _ _ 96 9 _ _ _ _
    refine ps_s_th p96_9 ?_
    exact K1 q
  · first | refine ps_s_as2 p96_4 ?_ | refine ps_s_asn2 p96_4 ?_
    first | refine ps_s_al p96_5 rfl ?_ | refine ps_s_aln p96_5 rfl ?_
    refine ps_s_jnr p96_6 ?_
    show ps_X _ _ 96 19 _ _ _ _
    first | refine ps_s_al p96_19 rfl ?_ | refine ps_s_aln p96_19 rfl ?_
    refine ps_s_gf p96_20 x1 rfl ?_
    refine ps_s_il p96_23 rfl ?_
    obtain ⟨q1, q2⟩ := A2 p (List.mem_of_getElem? q)
    refine ps_s_vV [_] _ p96_24 rfl T.1 rfl rfl rfl (ct_find T A4 SS hn (fun e => ps_bki ?_) (fun S hS y hy e1 e2 => ps_bki ?_) d (by omega))
    · first | refine ps_s_as3 p96_27 ?_ | refine ps_s_asn3 p96_27 ?_
      first | refine ps_s_al p96_28 rfl ?_ | refine ps_s_aln p96_28 rfl ?_
      refine ps_s_jnn p96_29 ?_
      show ps_X _ _ 96 32 _ _ _ _
      refine ps_s_k p96_32 ?_
      refine ps_s_go p96_34 ?_
      refine ps_s_ri p96_42 t96 ?_
      exact K2 p q e
    · first | refine ps_s_as3 p96_27 ?_ | refine ps_s_asn3 p96_27 ?_
      first | refine ps_s_al p96_28 rfl ?_ | refine ps_s_aln p96_28 rfl ?_
      refine ps_s_jnr p96_29 ?_
      show ps_X _ _ 96 37 _ _ _ _
      first | refine ps_s_al p96_37 rfl ?_ | refine ps_s_aln p96_37 rfl ?_
      first | refine ps_s_al p96_38 rfl ?_ | refine ps_s_aln p96_38 rfl ?_
      obtain ⟨w1, w2⟩ := q_wh ((SS S hS).2.2.1.2.1 y hy) q1
      rcases w2 with ⟨gs, g1, g2⟩ | ⟨gs, g1, g2⟩
      · refine ps_s_vV [_] _ p96_39 rfl g1 rfl rfl rfl (g2 _ (ps_bki ?_) d (by omega))
        refine ps_s_ri p96_42 t96 ?_
        exact K3 p q S hS y hy e1 e2
      · refine ps_s_vV [_] _ p96_39b rfl g1 rfl rfl rfl (g2 _ (ps_bki ?_) d (by omega))
        refine ps_s_ri p96_42 t96 ?_
        exact K3 p q S hS y hy e1 e2
end XQR
