/-! Segments and catalogs. -/
abbrev cS : Type := Nat × Nat × Nat × Nat × List (Nat × pD)
def gS (S : cS) : pG := (S.2.1, S.2.2.2.2.map (·.2))
def cSG (G : pm_G) (o : Nat → Nat) (h : pm_S) (S : cS) : Prop := h.1 S.1 = some (pm_o 6 [iN S.2.1, .ref S.2.2.1, .ref S.2.2.2.1]) ∧ (G.1 ≤ S.1 ∧ o S.1 = S.1) ∧ cLD G o h S.2.2.1 S.2.2.2.2 ∧ S.2.1 < 2147483648
def cRS (G : pm_G) (o : Nat → Nat) (h : pm_S) (S : cS) : Prop := cRW G o h S.2.2.2.1 (bG (gS S)).length (bG (gS S))
def cCT (G : pm_G) (o : Nat → Nat) (h : pm_S) (k la ra : Nat) : Prop := h.1 k = some (pm_o 4 [.ref la, .ref ra]) ∧ G.1 ≤ k ∧ o k = k
section CCT
variable {G : pm_G} {P : Nat → Prop} {h h1 : pm_S} {o o1 : Nat → Nat} {c s r cap cap2 a d al t k la ra : Nat} {L L0 Lb : List Nat} {S : cS} {Ss : List cS} {xs : List (Nat × pD)} {Q : pm_Q}
/-- units of other kinds change: a list of documents stays -/
theorem ld_frk (A : cLD G o h a xs) (f : cF G P h o h1 o1 c s) (hk : ∀ u x, P u → h.1 u = some x → kd x ≠ 3 ∧ kd x ≠ 6) : cLD G o1 h1 a xs := by
  refine ld_fr A f (fun q => ?_) (fun p hp q => ?_)
  · obtain ⟨cap', A'⟩ := A.1
    obtain ⟨_, _, gs, c1⟩ := al_own A'
    exact (hk _ _ q c1).1 rfl
  · obtain ⟨_, _, gs, c1⟩ := dc_obj (A.2.1 p hp)
    exact (hk _ _ q c1).2 rfl
theorem sg_frk (A : cSG G o h S) (f : cF G P h o h1 o1 c s) (hk : ∀ u x, P u → h.1 u = some x → kd x ≠ 3 ∧ kd x ≠ 6 ∧ kd x ≠ 7) : cSG G o1 h1 S := by
  obtain ⟨a1, ⟨a2, a3⟩, a4, a5⟩ := A
  refine ⟨cf_get f a1 (fun q => ?_), ⟨a2, by rw [cf_own f a1]; exact a3⟩, ld_frk a4 f (fun u x h1 h2 => ⟨(hk u x h1 h2).1, (hk u x h1 h2).2.1⟩), a5⟩
  rw [a3] at q
  exact (hk _ _ q a1).2.2 rfl
theorem rw_frk (A : cRW G o h r cap L) (f : cF G P h o h1 o1 c s) (hk : ∀ u x, P u → h.1 u = some x → kd x ≠ 4) : cRW G o1 h1 r cap L := by
  refine rw_fr A f (fun q => ?_)
  obtain ⟨_, _, gs, c1⟩ := rw_own A
  exact hk _ _ q c1 rfl
theorem al_frk {xs : List Nat} (A : cAL G o h a cap xs) (f : cF G P h o h1 o1 c s) (hk : ∀ u x, P u → h.1 u = some x → kd x ≠ 3) : cAL G o1 h1 a cap xs := by
  refine al_fr A f (fun q => ?_)
  obtain ⟨_, _, gs, c1⟩ := al_own A
  exact hk _ _ q c1 rfl
theorem ct_frk (A : cCT G o h k la ra) (f : cF G P h o h1 o1 c s) (hk : ∀ u x, P u → h.1 u = some x → kd x ≠ 5) : cCT G o1 h1 k la ra := by
  obtain ⟨a1, a2, a3⟩ := A
  refine ⟨cf_get f a1 (fun q => ?_), a2, by rw [cf_own f a1]; exact a3⟩
  rw [a3] at q
  exact hk _ _ q a1 rfl
/-- what a row is not -/
theorem row_k (B : cRW G o h r cap L) : ∀ u x, u = r → h.1 u = some x → kd x = 4 := by
  intro u x hu hx
  subst hu
  obtain ⟨_, _, gs, c1⟩ := rw_own B
  rw [c1] at hx
  cases hx
  rfl
theorem list_k {xs : List Nat} (B : cAL G o h a cap xs) : ∀ u x, u = a → h.1 u = some x → kd x = 3 := by
  intro u x hu hx
  subst hu
  obtain ⟨_, _, gs, c1⟩ := al_own B
  rw [c1] at hx
  cases hx
  rfl
theorem ct_write (w : cW h o) (T : cCT G o h k la ra) (A : cAL G o h la cap (Ss.map (·.1))) (SS : ∀ S ∈ Ss, cSG G o h S) (B : cRW G o h ra cap2 L0) (hal : al ≤ 1) (hn : Ss.length ≤ 1000) (hl : (lG al (Ss.map gS)).length < 900000) (K : ∀ h', cF G (· = ra) h o h' o 0 0 → cRW G o h' ra cap2 (lG al (Ss.map gS)) → Q (.inl none) h') : ps_M G 6 64 [.ref k, iN al] h Q := by
  have rk := row_k B
  have loop : ∀ d', 5 ≤ d' → ∀ (R M : List cS) (h1 : pm_S) (L1 : List Nat), M ++ R = Ss → cF G (· = ra) h o h1 o 0 0 → cRW G o h1 ra cap2 L1 → L1 ++ (R.map gS).flatMap (eG al) = lG al (Ss.map gS) → ps_X G d' 64 23 [some (.ref k), some (iN al), some (iN M.length)] [] h1 Q := by
    intro d hd R
    induction R with
    | nil =>
      intro M h1 L1 hM F B1 hB
      have A1 := al_frk A F (fun u x q e => by rw [rk u x q e]; decide)
      have T1 := ct_frk T F (fun u x q e => by rw [rk u x q e]; decide)
      obtain ⟨_, _, fs, a1⟩ := al_own A1
      rw [List.append_nil] at hM
      subst hM
      refine ps_s_il p64_23 rfl ?_
      first | refine ps_s_al p64_24 rfl ?_ | refine ps_s_aln p64_24 rfl ?_
      refine ps_s_gf p64_25 T1.1 rfl ?_
      refine ps_s_vV [] _ p64_28 rfl a1 rfl rfl rfl (al_sizem A1 (ps_bki ?_) d (by omega))
      refine ps_s_ge p64_31 (by omega) (by omega) (fun c31 => ?_) (fun c31 => ?_)
      · refine ps_s_rv p64_59 t64 ?_
        rw [show (([] : List cS).map gS).flatMap (eG al) = [] from rfl, List.append_nil] at hB
        rw [hB] at B1
        exact K _ F B1
      · omega
    | cons S R ih =>
      intro M h1 L1 hM F B1 hB
      have A1 := al_frk A F (fun u x q e => by rw [rk u x q e]; decide)
      have T1 := ct_frk T F (fun u x q e => by rw [rk u x q e]; decide)
      obtain ⟨_, _, fs, a1⟩ := al_own A1
      obtain ⟨_, _, fs2, b1⟩ := rw_own B1
      have hlen : M.length + (R.length + 1) = Ss.length := by rw [← hM, List.length_append, List.length_cons]
      have hm : S ∈ Ss := by rw [← hM]; exact List.mem_append_right _ (List.mem_cons_self ..)
      obtain ⟨s1, ⟨s2, s3⟩, s4, s5⟩ := sg_frk (SS S hm) F (fun u x q e => by rw [rk u x q e]; decide)
      have hg : (Ss.map (·.1))[M.length]? = some S.1 := by rw [List.getElem?_map, ← hM, get_pre]; rfl
      have nx := fun h1 L1 => ih (M ++ [S]) h1 L1 (by rw [List.append_assoc]; exact hM)
      rw [List.length_append] at nx
      rw [List.map_cons, List.flatMap_cons] at hB
      have e1 : eG al (gS S) = eB S.2.1 (S.2.2.2.2.map (fun p => gnD al p.2)) := by
        unfold eG gS
        rw [List.map_map]
        rfl
      rw [e1] at hB
      have hL1 := len_of_app2 hB
      refine ps_s_il p64_23 rfl ?_
      first | refine ps_s_al p64_24 rfl ?_ | refine ps_s_aln p64_24 rfl ?_
      refine ps_s_gf p64_25 T1.1 rfl ?_
      refine ps_s_vV [] _ p64_28 rfl a1 rfl rfl rfl (al_sizem A1 (ps_bki ?_) d (by omega))
      refine ps_s_ge p64_31 (by omega) (by omega) (fun c31 => ?_) (fun c31 => ?_)
      · omega
      · first | refine ps_s_al p64_34 rfl ?_ | refine ps_s_aln p64_34 rfl ?_
        refine ps_s_gf p64_35 T1.1 rfl ?_
        first | refine ps_s_al p64_38 rfl ?_ | refine ps_s_aln p64_38 rfl ?_
        refine ps_s_gf p64_39 T1.1 rfl ?_
        refine ps_s_il p64_42 rfl ?_
        refine ps_s_vV [_] _ p64_43 rfl a1 rfl rfl rfl (al_get A1 hg (ps_bki ?_) d (by omega))
        refine ps_s_ck p64_46 s1 ?_
        refine ps_s_il p64_49 rfl ?_
        refine ps_s_vV [_, _] _ p64_50 rfl b1 rfl rfl rfl (pk_entry F.1 B1 s1 s3 s4 hal s5 (by omega) (fun h2 k1 k2 => ps_bkv ?_) d (by omega))
        refine ps_s_in2 p64_53 ?_
        refine ps_s_go p64_56 ?_
        have F2 := cf_trans w F k1 (fun u _ hu => .inl hu)
        exact nx _ _ F2 k2 (by rw [List.append_assoc]; exact hB)
  obtain ⟨_, _, fs2, b1⟩ := rw_own B
  have hl2 := hl
  unfold lG at hl2
  rw [List.length_append] at hl2
  refine ps_M_in (e64 _ _) l64 (fun d hd => ?_)
  first | refine ps_s_al p64_0 rfl ?_ | refine ps_s_aln p64_0 rfl ?_
  refine ps_s_gf p64_1 T.1 rfl ?_
  refine ps_s_vV [] _ p64_4 rfl b1 rfl rfl rfl (rw_clear w B (fun h2 k1 k2 => ps_bkv ?_) d (by omega))
  have A1 := al_frk A k1 (fun u x q e => by rw [rk u x q e]; decide)
  have T1 := ct_frk T k1 (fun u x q e => by rw [rk u x q e]; decide)
  obtain ⟨_, _, fs3, a2⟩ := al_own A1
  obtain ⟨_, _, fs4, b2⟩ := rw_own k2
  first | refine ps_s_al p64_7 rfl ?_ | refine ps_s_aln p64_7 rfl ?_
  refine ps_s_gf p64_8 T1.1 rfl ?_
  first | refine ps_s_al p64_11 rfl ?_ | refine ps_s_aln p64_11 rfl ?_
  refine ps_s_gf p64_12 T1.1 rfl ?_
  refine ps_s_vV [] _ p64_15 rfl a2 rfl rfl rfl (al_sizem A1 (ps_bki ?_) d (by omega))
  refine ps_s_vV [_] _ p64_18 rfl b2 rfl rfl rfl (rw_num k1.1 k2 (by omega) (by show 0 < _; omega) (fun h3 k3 k4 => ps_bkv ?_) d (by omega))
  refine ps_s_k p64_21 ?_
  refine ps_s_is2 p64_22 ?_
  have F2 := cf_trans w k1 k3 (fun u _ hu => .inl hu)
  exact loop d hd Ss [] _ _ rfl F2 k4 (by unfold lG; rw [List.length_map]; rfl)
theorem ct_bytes (T : cCT G o h k la ra) (A : cAL G o h la cap (Ss.map (·.1))) (SS : ∀ S ∈ Ss, cSG G o h S) (RR : ∀ S ∈ Ss, cRS G o h S) (B : cRW G o h ra cap2 Lb) (hn : Ss.length ≤ 1000) (hlb : Lb.length ≤ 2000) (hb : ∀ S ∈ Ss, (bG (gS S)).length ≤ 2000) (K : Q (.inl (some (iN (Lb.length + (Ss.map (fun S => (bG (gS S)).length)).sum)))) h) : ps_M G 4 26 [.ref k] h Q := by
  obtain ⟨_, _, fs, a1⟩ := al_own A
  have loop : ∀ d', 3 ≤ d' → ∀ (R M : List cS), M ++ R = Ss → (M.map (fun S => (bG (gS S)).length)).sum ≤ 2000 * M.length → ps_X G d' 26 10 [some (.ref k), some (iN (Lb.length + (M.map (fun S => (bG (gS S)).length)).sum)), some (iN M.length)] [] h Q := by
    intro d hd R
    induction R with
    | nil =>
      intro M hM hsum
      rw [List.append_nil] at hM
      subst hM
      refine ps_s_il p26_10 rfl ?_
      first | refine ps_s_al p26_11 rfl ?_ | refine ps_s_aln p26_11 rfl ?_
      refine ps_s_gf p26_12 T.1 rfl ?_
      refine ps_s_vV [] _ p26_15 rfl a1 rfl rfl rfl (al_sizem A (ps_bki ?_) d (by omega))
      refine ps_s_ge p26_18 (by omega) (by omega) (fun c18 => ?_) (fun c18 => ?_)
      · refine ps_s_il p26_47 rfl ?_
        refine ps_s_ri p26_48 t26 ?_
        exact K
      · omega
    | cons S R ih =>
      intro M hM hsum
      have hlen : M.length + (R.length + 1) = Ss.length := by rw [← hM, List.length_append, List.length_cons]
      have hm : S ∈ Ss := by rw [← hM]; exact List.mem_append_right _ (List.mem_cons_self ..)
      obtain ⟨s1, _⟩ := SS S hm
      obtain ⟨rb, rf', r1, _⟩ := RR S hm
      have hbs := hb S hm
      have hg : (Ss.map (·.1))[M.length]? = some S.1 := by rw [List.getElem?_map, ← hM, get_pre]; rfl
      have nx := ih (M ++ [S]) (by rw [List.append_assoc]; exact hM)
      rw [List.length_append, List.map_append, List.sum_append] at nx
      have e1 : ([S].map (fun S => (bG (gS S)).length)).sum = (bG (gS S)).length := by simp
      rw [e1, ← Nat.add_assoc] at nx
      refine ps_s_il p26_10 rfl ?_
      first | refine ps_s_al p26_11 rfl ?_ | refine ps_s_aln p26_11 rfl ?_
      refine ps_s_gf p26_12 T.1 rfl ?_
      refine ps_s_vV [] _ p26_15 rfl a1 rfl rfl rfl (al_sizem A (ps_bki ?_) d (by omega))
      refine ps_s_ge p26_18 (by omega) (by omega) (fun c18 => ?_) (fun c18 => ?_)
      · omega
      · refine ps_s_il p26_21 rfl ?_
        first | refine ps_s_al p26_22 rfl ?_ | refine ps_s_aln p26_22 rfl ?_
        refine ps_s_gf p26_23 T.1 rfl ?_
        refine ps_s_il p26_26 rfl ?_
        refine ps_s_vV [_] _ p26_27 rfl a1 rfl rfl rfl (al_get A hg (ps_bki ?_) d (by omega))
        refine ps_s_ck p26_30 s1 ?_
        refine ps_s_gf p26_33 s1 rfl ?_
        refine ps_s_gf p26_36 r1 rfl ?_
        first | refine ps_s_add p26_39 ?_ | refine ps_s_2 p26_39 ?_
        refine ps_s_is1 p26_40 ?_
        refine ps_s_in2 p26_41 ?_
        refine ps_s_go p26_44 ?_
        exact nx (by show _ ≤ 2000 * (M.length + 1); omega)
  obtain ⟨lb, lf, l1, _⟩ := B
  refine ps_M_in (e26 _) l26 (fun d hd => ?_)
  first | refine ps_s_al p26_0 rfl ?_ | refine ps_s_aln p26_0 rfl ?_
  refine ps_s_gf p26_1 T.1 rfl ?_
  refine ps_s_gf p26_4 l1 rfl ?_
  refine ps_s_is1 p26_7 ?_
  refine ps_s_k p26_8 ?_
  refine ps_s_is2 p26_9 ?_
  exact loop d hd Ss [] rfl (Nat.le_refl _)
theorem ct_find {x : Int32} (T : cCT G o h k la ra) (A : cAL G o h la cap (Ss.map (·.1))) (SS : ∀ S ∈ Ss, cSG G o h S) (hn : Ss.length ≤ 1000) (K1 : (∀ S ∈ Ss, ∀ p ∈ S.2.2.2.2, Int32.ofNat p.2.1.1 = x → ¬ p.2.2.1 = 0) → Q (.inl (some .null)) h) (K2 : ∀ S ∈ Ss, ∀ p ∈ S.2.2.2.2, Int32.ofNat p.2.1.1 = x → p.2.2.1 = 0 → Q (.inl (some (.ref p.1))) h) : ps_M G 4 15 [.ref k, .int x] h Q := by
  obtain ⟨_, _, fs, a1⟩ := al_own A
  have loop : ∀ d', 3 ≤ d' → ∀ (R M : List cS) (u3 u4 u5 : Option Value), M ++ R = Ss → (∀ S ∈ M, ∀ p ∈ S.2.2.2.2, Int32.ofNat p.2.1.1 = x → ¬ p.2.2.1 = 0) → ps_X G d' 15 2 [some (.ref k), some (.int x), some (iN M.length), u3, u4, u5] [] h Q := by
    intro d hd R
    induction R with
    | nil =>
      intro M u3 u4 u5 hM hno
      rw [List.append_nil] at hM
      subst hM
      refine ps_s_il p15_2 rfl ?_
      first | refine ps_s_al p15_3 rfl ?_ | refine ps_s_aln p15_3 rfl ?_
      refine ps_s_gf p15_4 T.1 rfl ?_
      refine ps_s_vV [] _ p15_7 rfl a1 rfl rfl rfl (al_sizem A (ps_bki ?_) d (by omega))
      refine ps_s_ge p15_10 (by omega) (by omega) (fun c10 => ?_) (fun c10 => ?_)
      · refine ps_s_p p15_83 rfl ?_
        first | refine ps_s_ra p15_84 t15 ?_ | refine ps_s_rn p15_84 t15 ?_
        exact K1 hno
      · omega
    | cons S R ih =>
      intro M u3 u4 u5 hM hno
      have hlen : M.length + (R.length + 1) = Ss.length := by rw [← hM, List.length_append, List.length_cons]
      have hm : S ∈ Ss := by rw [← hM]; exact List.mem_append_right _ (List.mem_cons_self ..)
      obtain ⟨s1, _, ⟨⟨capS, A1⟩, A2, A3⟩, _⟩ := SS S hm
      obtain ⟨_, _, gs, b1⟩ := al_own A1
      have hg : (Ss.map (·.1))[M.length]? = some S.1 := by rw [List.getElem?_map, ← hM, get_pre]; rfl
      have nx := fun u3 u4 u5 => ih (M ++ [S]) u3 u4 u5 (by rw [List.append_assoc]; exact hM)
      rw [List.length_append] at nx
      have inner : ∀ (U V : List (Nat × pD)) (u5 : Option Value), V ++ U = S.2.2.2.2 → (∀ p ∈ V, Int32.ofNat p.2.1.1 = x → ¬ p.2.2.1 = 0) → ps_X G d 15 31 [some (.ref k), some (.int x), some (iN M.length), some (.ref S.2.2.1), some (iN V.length), u5] [] h Q := by
        intro U
        induction U with
        | nil =>
          intro V u5 hV hno2
          rw [List.append_nil] at hV
          have hvl : V.length = S.2.2.2.2.length := by rw [hV]
          refine ps_s_il p15_31 rfl ?_
          first | refine ps_s_al p15_33 rfl ?_ | refine ps_s_aln p15_33 rfl ?_
          refine ps_s_vV [] _ p15_34 rfl b1 rfl rfl rfl (al_sizem A1 (ps_bki ?_) d (by omega))
          refine ps_s_ge p15_37 (by omega) (by omega) (fun c37 => ?_) (fun c37 => ?_)
          · refine ps_s_in2 p15_77 ?_
            refine ps_s_go p15_80 ?_
            refine nx _ _ _ (fun S' hS' => ?_)
            rcases List.mem_append.mp hS' with q | q
            · exact hno S' q
            · have := List.mem_singleton.mp q
              subst this
              rw [← hV]
              exact hno2
          · omega
        | cons p U ih2 =>
          intro V u5 hV hno2
          have hlen2 : V.length + (U.length + 1) = S.2.2.2.2.length := by rw [← hV, List.length_append, List.length_cons]
          have hpm : p ∈ S.2.2.2.2 := by rw [← hV]; exact List.mem_append_right _ (List.mem_cons_self ..)
          obtain ⟨e, f, p1, p2, p3, p4, p5, p6, p7, p8, p9⟩ := A2 p hpm
          have hg2 : (S.2.2.2.2.map (·.1))[V.length]? = some p.1 := by rw [List.getElem?_map, ← hV, get_pre]; rfl
          have nx2 := fun u5 => ih2 (V ++ [p]) u5 (by rw [List.append_assoc]; exact hV)
          rw [List.length_append] at nx2
          have nomatch2 : (Int32.ofNat p.2.1.1 = x → ¬ p.2.2.1 = 0) → ∀ u5, ps_X G d 15 71 [some (.ref k), some (.int x), some (iN M.length), some (.ref S.2.2.1), some (iN V.length), u5] [] h Q := by
            intro hno3 u5
            refine ps_s_in4 p15_71 ?_
            refine ps_s_go p15_74 ?_
            refine nx2 _ (fun p' hp' => ?_)
            rcases List.mem_append.mp hp' with q | q
            · exact hno2 p' q
            · have := List.mem_singleton.mp q
              subst this
              exact hno3
          refine ps_s_il p15_31 rfl ?_
          first | refine ps_s_al p15_33 rfl ?_ | refine ps_s_aln p15_33 rfl ?_
          refine ps_s_vV [] _ p15_34 rfl b1 rfl rfl rfl (al_sizem A1 (ps_bki ?_) d (by omega))
          refine ps_s_ge p15_37 (by omega) (by omega) (fun c37 => ?_) (fun c37 => ?_)
          · omega
          · first | refine ps_s_al p15_40 rfl ?_ | refine ps_s_aln p15_40 rfl ?_
            refine ps_s_il p15_41 rfl ?_
            refine ps_s_vV [_] _ p15_43 rfl b1 rfl rfl rfl (al_get A1 hg2 (ps_bki ?_) d (by omega))
            refine ps_s_ck p15_46 p1 ?_
            first | refine ps_s_as5 p15_49 ?_ | refine ps_s_asn5 p15_49 ?_
            first | refine ps_s_al p15_51 rfl ?_ | refine ps_s_aln p15_51 rfl ?_
            refine ps_s_gf p15_53 p1 rfl ?_
            refine ps_s_il p15_56 rfl ?_
            refine ps_s_j p15_57 (fun c => ?_) (fun c => ?_)
            · exact nomatch2 (fun q => absurd q (of_decide_eq_true c)) _
            · have hkx : Int32.ofNat p.2.1.1 = x := Decidable.not_not.mp (of_decide_eq_false c)
              first | refine ps_s_al p15_60 rfl ?_ | refine ps_s_aln p15_60 rfl ?_
              refine ps_s_gf p15_62 p1 rfl ?_
              refine ps_s_ne0 p15_65 (by omega) (fun c65 => ?_) (fun c65 => ?_)
              · exact nomatch2 (fun _ => c65) _
              · first | refine ps_s_al p15_68 rfl ?_ | refine ps_s_aln p15_68 rfl ?_
                first | refine ps_s_ra p15_70 t15 ?_ | refine ps_s_rn p15_70 t15 ?_
                exact K2 S hm p hpm hkx (by omega)
      refine ps_s_il p15_2 rfl ?_
      first | refine ps_s_al p15_3 rfl ?_ | refine ps_s_aln p15_3 rfl ?_
      refine ps_s_gf p15_4 T.1 rfl ?_
      refine ps_s_vV [] _ p15_7 rfl a1 rfl rfl rfl (al_sizem A (ps_bki ?_) d (by omega))
      refine ps_s_ge p15_10 (by omega) (by omega) (fun c10 => ?_) (fun c10 => ?_)
      · omega
      · first | refine ps_s_al p15_13 rfl ?_ | refine ps_s_aln p15_13 rfl ?_
        refine ps_s_gf p15_14 T.1 rfl ?_
        refine ps_s_il p15_17 rfl ?_
        refine ps_s_vV [_] _ p15_18 rfl a1 rfl rfl rfl (al_get A hg (ps_bki ?_) d (by omega))
        refine ps_s_ck p15_21 s1 ?_
        refine ps_s_gf p15_24 s1 rfl ?_
        first | refine ps_s_as3 p15_27 ?_ | refine ps_s_asn3 p15_27 ?_
        refine ps_s_k p15_28 ?_
        refine ps_s_is4 p15_29 ?_
        exact inner S.2.2.2.2 [] _ rfl (fun p hp => absurd hp List.not_mem_nil)
  refine ps_M_in (e15 _ _) l15 (fun d hd => ?_)
  refine ps_s_k p15_0 ?_
  refine ps_s_is2 p15_1 ?_
  exact loop d hd Ss [] _ _ _ rfl (fun S hS => absurd hS List.not_mem_nil)
theorem ct_doomed (T : cCT G o h k la ra) (A : cAL G o h la cap (Ss.map (·.1))) (SS : ∀ S ∈ Ss, cSG G o h S) (hn : Ss.length ≤ 1000) (K : Q (.inl (some (iN (bN (Ss.any (fun S => decide (kc 1 (S.2.2.2.2.map (·.2)) < kc 0 (S.2.2.2.2.map (·.2))))))))) h) : ps_M G 5 50 [.ref k] h Q := by
  obtain ⟨_, _, fs, a1⟩ := al_own A
  have loop : ∀ d', 4 ≤ d' → ∀ (R M : List cS), M ++ R = Ss → (M.any (fun S => decide (kc 1 (S.2.2.2.2.map (·.2)) < kc 0 (S.2.2.2.2.map (·.2))))) = false → ps_X G d' 50 2 [some (.ref k), some (iN M.length)] [] h Q := by
    intro d hd R
    induction R with
    | nil =>
      intro M hM hno
      rw [List.append_nil] at hM
      subst hM
      rw [hno] at K
      refine ps_s_il p50_2 rfl ?_
      first | refine ps_s_al p50_3 rfl ?_ | refine ps_s_aln p50_3 rfl ?_
      refine ps_s_gf p50_4 T.1 rfl ?_
      refine ps_s_vV [] _ p50_7 rfl a1 rfl rfl rfl (al_sizem A (ps_bki ?_) d (by omega))
      refine ps_s_ge p50_10 (by omega) (by omega) (fun c10 => ?_) (fun c10 => ?_)
      · refine ps_s_k p50_54 ?_
        refine ps_s_rz p50_55 t50 (by first | exact .inl rfl | exact .inr rfl | exact bN_01 _) ?_
        exact K
      · omega
    | cons S R ih =>
      intro M hM hno
      have hlen : M.length + (R.length + 1) = Ss.length := by rw [← hM, List.length_append, List.length_cons]
      have hm : S ∈ Ss := by rw [← hM]; exact List.mem_append_right _ (List.mem_cons_self ..)
      obtain ⟨s1, _, A1, _⟩ := SS S hm
      have hg : (Ss.map (·.1))[M.length]? = some S.1 := by rw [List.getElem?_map, ← hM, get_pre]; rfl
      have nx := ih (M ++ [S]) (by rw [List.append_assoc]; exact hM)
      rw [List.length_append, List.any_append, hno] at nx
      have k0 := kc_gc 0 (S.2.2.2.2.map (·.2))
      have k1 := kc_gc 1 (S.2.2.2.2.map (·.2))
      rw [List.length_map] at k0 k1
      have k2 := A1.2.2
      refine ps_s_il p50_2 rfl ?_
      first | refine ps_s_al p50_3 rfl ?_ | refine ps_s_aln p50_3 rfl ?_
      refine ps_s_gf p50_4 T.1 rfl ?_
      refine ps_s_vV [] _ p50_7 rfl a1 rfl rfl rfl (al_sizem A (ps_bki ?_) d (by omega))
      refine ps_s_ge p50_10 (by omega) (by omega) (fun c10 => ?_) (fun c10 => ?_)
      · omega
      · first | refine ps_s_al p50_13 rfl ?_ | refine ps_s_aln p50_13 rfl ?_
        refine ps_s_gf p50_14 T.1 rfl ?_
        refine ps_s_il p50_17 rfl ?_
        refine ps_s_vV [_] _ p50_18 rfl a1 rfl rfl rfl (al_get A hg (ps_bki ?_) d (by omega))
        refine ps_s_ck p50_21 s1 ?_
        refine ps_s_k p50_24 ?_
        refine ps_s_vV [_] _ p50_25 rfl s1 rfl rfl rfl (sg_kept s1 A1 (by omega) (ps_bki ?_) d (by omega))
        first | refine ps_s_al p50_28 rfl ?_ | refine ps_s_aln p50_28 rfl ?_
        refine ps_s_gf p50_29 T.1 rfl ?_
        refine ps_s_il p50_32 rfl ?_
        refine ps_s_vV [_] _ p50_33 rfl a1 rfl rfl rfl (al_get A hg (ps_bki ?_) d (by omega))
        refine ps_s_ck p50_36 s1 ?_
        refine ps_s_k p50_39 ?_
        refine ps_s_vV [_] _ p50_40 rfl s1 rfl rfl rfl (sg_kept s1 A1 (by omega) (ps_bki ?_) d (by omega))
        refine ps_s_ge p50_43 (by omega) (by omega) (fun c43 => ?_) (fun c43 => ?_)
        · refine ps_s_in1 p50_48 ?_
          refine ps_s_go p50_51 ?_
          refine nx ?_
          show (false || (decide _ || false)) = false
          rw [decide_eq_false (by omega)]
          rfl
        · refine ps_s_k p50_46 ?_
          refine ps_s_rz p50_47 t50 (by first | exact .inl rfl | exact .inr rfl | exact bN_01 _) ?_
          have e1 : (Ss.any (fun S => decide (kc 1 (S.2.2.2.2.map (·.2)) < kc 0 (S.2.2.2.2.map (·.2))))) = true := List.any_eq_true.mpr ⟨S, hm, decide_eq_true (by omega)⟩
          rw [e1] at K
          exact K
  refine ps_M_in (e50 _) l50 (fun d hd => ?_)
  refine ps_s_k p50_0 ?_
  refine ps_s_is1 p50_1 ?_
  exact loop d hd Ss [] rfl rfl
end CCT
