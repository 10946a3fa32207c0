/-! A new row of the kept documents. -/
theorem mrS_app (A B : List cS) : mrS (A ++ B) = mrS A ++ mrS B := by
  unfold mrS
  rw [List.flatMap_append, List.filter_append]
theorem mrS_mrg (M : List cS) : (mrS M).map (·.2) = mrg (M.map gS) := by
  unfold mrS mrg
  rw [List.flatMap_map]
  induction M with
  | nil => rfl
  | cons S M ih =>
    rw [List.flatMap_cons, List.flatMap_cons, List.filter_append, List.filter_append, List.map_append, ih]
    congr 1
    show ((dS S).filter (fun p => !decide (p.2.2.1 = 1))).map (·.2) = ((dS S).map (·.2)).filter (fun x => !decide (x.2.1 = 1))
    rw [List.filter_map]
    rfl
theorem gr_4 {n : Nat} (h : n = 0 ∨ 10 ≤ n) : 10 ≤ gr n ∧ gr n ≤ 10 + 2 * n ∧ 4 * n + gr n ≤ 4 * gr n := by
  unfold gr
  split
  · omega
  · omega
section CKP
variable {G : pm_G} {P : Nat → Prop} {h h1 : pm_S} {o o1 : Nat → Nat} {c s r cap cap2 a d al t k la ra i j : Nat} {SL SM SR : List cS} {Q : pm_Q}
/-- a list that grows: what it cost -/
def cGr (G : pm_G) (o : Nat → Nat) (h : pm_S) (a : Nat) (ys : List (Nat × pD)) (c s c0 s0 : Nat) : Prop := ∃ cap, cAL G o h a cap (ys.map (·.1)) ∧ (cap = 0 ∨ 10 ≤ cap) ∧ cap ≤ 10 + 2 * ys.length ∧ c ≤ c0 + ys.length ∧ s ≤ s0 + 4 * cap
theorem ct_kept {fe : Nat → Option Nat} (w : cW h o) (hG : G.1 ≤ h.2.1) (hem : h.1 G.2.2 = some (pm_r 0 fe)) (hoe : o G.2.2 < G.1) (T : cCT G o h k la ra) (A : cAL G o h la cap ((SL ++ (SM ++ SR)).map (·.1))) (SS : ∀ S ∈ SL ++ (SM ++ SR), cSG G o h S) (hn : (SL ++ (SM ++ SR)).length ≤ 1000) (hi : i = SL.length) (hj : j + 1 = SL.length + SM.length) (hdl : (SM.flatMap dS).length ≤ 1000)
    (K : ∀ h' o' c s, cF G (fun _ => False) h o h' o' c s → cLD G o' h' h.2.1 (mrS SM) → o' h.2.1 = h.2.1 → c ≤ 1001 → s ≤ 9000 → Q (.inl (some (.ref h.2.1))) h') : ps_M G 7 73 [.ref k, iN i, iN j] h Q := by
  subst hi
  have nof : ∀ u (x : pm_C), (fun _ : Nat => False) u → h.1 u = some x → False := fun _ _ q _ => q
  have loop : ∀ d', 6 ≤ d' → ∀ (R M : List cS) (h1 : pm_S) (o1 : Nat → Nat) (c s : Nat) (u5 u6 : Option Value), M ++ R = SM → cF G (fun _ => False) h o h1 o1 c s → cGr G o1 h1 h.2.1 (mrS M) c s 1 3 → ps_X G d' 73 11 [some (.ref k), some (iN SL.length), some (iN j), some (.ref h.2.1), some (iN (SL.length + M.length)), u5, u6] [] h1 Q := by
    intro d hd R
    induction R with
    | nil =>
      intro M h1 o1 c s u5 u6 hM F Y
      rw [List.append_nil] at hM
      subst hM
      have hn2 := hn
      rw [List.length_append, List.length_append] at hn2
      refine ps_s_il p73_11 rfl ?_
      refine ps_s_il p73_13 rfl ?_
      refine ps_s_gt p73_14 (by omega) (by omega) (fun c14 => ?_) (fun c14 => ?_)
      · obtain ⟨cy, y1, y2, y3, y4, y5⟩ := Y
        have hlm : (mrS M).length ≤ 1000 := Nat.le_trans (List.length_filter_le _ _) hdl
        first | refine ps_s_al p73_102 rfl ?_ | refine ps_s_aln p73_102 rfl ?_
        first | refine ps_s_ra p73_103 t73 ?_ | refine ps_s_rn p73_103 t73 ?_
        refine K h1 o1 c s F ⟨⟨cy, y1⟩, fun p hp => ?_, by omega⟩ (al_own y1).2.1 (by omega) (by omega)
        have hp2 := (List.mem_filter.mp hp).1
        obtain ⟨S, hS, hp3⟩ := List.mem_flatMap.mp hp2
        exact dc_fr ((SS S (List.mem_append_right _ (List.mem_append_left _ hS))).2.2.1.2.1 p hp3) F (fun q => q)
      · omega
    | cons S R ih =>
      intro M h1 o1 c s u5 u6 hM F Y
      have A1 := al_frk A F (fun u x q e => absurd q (fun q => q))
      have T1 := ct_frk T F (fun u x q e => absurd q (fun q => q))
      obtain ⟨_, _, fs, a1⟩ := al_own A1
      have hlen : M.length + (R.length + 1) = SM.length := by rw [← hM, List.length_append, List.length_cons]
      have hm : S ∈ SM := by rw [← hM]; exact List.mem_append_right _ (List.mem_cons_self ..)
      have hm2 : S ∈ SL ++ (SM ++ SR) := List.mem_append_right _ (List.mem_append_left _ hm)
      have hg : ((SL ++ (SM ++ SR)).map (·.1))[SL.length + M.length]? = some S.1 := by
        rw [List.getElem?_map, ← hM, show SL ++ ((M ++ S :: R) ++ SR) = (SL ++ M) ++ S :: (R ++ SR) by simp only [List.append_assoc, List.cons_append], ← List.length_append, get_pre]
        rfl
      have s1 : h1.1 S.1 = some (pm_o 6 [iN S.2.1, .ref S.2.2.1, .ref S.2.2.2.1]) := cf_get F (SS S hm2).1 (fun q => q)
      have nx := fun h1 o1 c s u5 u6 => ih (M ++ [S]) h1 o1 c s u5 u6 (by rw [List.append_assoc]; exact hM)
      rw [List.length_append, ← Nat.add_assoc, mrS_app] at nx
      have hdS : (mrS M).length + (dS S).length ≤ 1000 := by
        have e1 : (mrS M).length ≤ (M.flatMap dS).length := List.length_filter_le _ _
        rw [← hM, List.flatMap_append, List.flatMap_cons, List.length_append, List.length_append] at hdl
        omega
      have inner : ∀ (U V : List (Nat × pD)) (h1 : pm_S) (o1 : Nat → Nat) (c s : Nat), V ++ U = dS S → cF G (fun _ => False) h o h1 o1 c s → cGr G o1 h1 h.2.1 (mrS M ++ V.filter (fun p => !decide (p.2.2.1 = 1))) c s 1 3 → ps_X G d 73 49 [some (.ref k), some (iN SL.length), some (iN j), some (.ref h.2.1), some (iN (SL.length + M.length)), some (.ref S.2.2.1), some (iN V.length)] [] h1 Q := by
        intro U
        induction U with
        | nil =>
          intro V h1 o1 c s hV F Y
          rw [List.append_nil] at hV
          subst hV
          obtain ⟨capS, A2⟩ := (SS S hm2).2.2.1.1
          have A3 : cAL G o1 h1 S.2.2.1 capS ((dS S).map (·.1)) := al_frk A2 F (fun u x q e => absurd q (fun q => q))
          obtain ⟨_, _, gs, b1⟩ := al_own A3
          have hxs : (dS S).length ≤ 2000 := (SS S hm2).2.2.1.2.2
          refine ps_s_il p73_49 rfl ?_
          first | refine ps_s_al p73_51 rfl ?_ | refine ps_s_aln p73_51 rfl ?_
          refine ps_s_vV [] _ p73_53 rfl b1 rfl rfl rfl (al_sizem A3 (ps_bki ?_) d (by omega))
          refine ps_s_ge p73_56 (by omega) (by omega) (fun c56 => ?_) (fun c56 => ?_)
          · refine ps_s_in4 p73_96 ?_
            refine ps_s_go p73_99 ?_
            refine nx _ _ _ _ _ _ F ?_
            rw [show mrS [S] = (dS S).filter (fun p => !decide (p.2.2.1 = 1)) by unfold mrS; simp]
            exact Y
          · exact absurd (Nat.le_refl _) c56
        | cons p U ih2 =>
          intro V h1 o1 c s hV F Y
          obtain ⟨capS, A2⟩ := (SS S hm2).2.2.1.1
          have A3 : cAL G o1 h1 S.2.2.1 capS ((dS S).map (·.1)) := al_frk A2 F (fun u x q e => absurd q (fun q => q))
          obtain ⟨_, _, gs, b1⟩ := al_own A3
          have hlen2 : V.length + (U.length + 1) = (dS S).length := by rw [← hV, List.length_append, List.length_cons]
          have hpm : p ∈ dS S := by rw [← hV]; exact List.mem_append_right _ (List.mem_cons_self ..)
          have hg2 : ((dS S).map (·.1))[V.length]? = some p.1 := by rw [List.getElem?_map, ← hV, get_pre]; rfl
          have nx2 := fun h1 o1 c s => ih2 (V ++ [p]) h1 o1 c s (by rw [List.append_assoc]; exact hV)
          rw [List.length_append, List.filter_append, ← List.append_assoc] at nx2
          have hdc := dc_fr ((SS S hm2).2.2.1.2.1 p hpm) F (fun q => q)
          obtain ⟨e, f, p1, p2, p3, p5, p6, p7, p8, p9, p10⟩ := hdc
          have hvl : (V.filter (fun p => !decide (p.2.2.1 = 1))).length ≤ V.length := List.length_filter_le _ _
          refine ps_s_il p73_49 rfl ?_
          first | refine ps_s_al p73_51 rfl ?_ | refine ps_s_aln p73_51 rfl ?_
          refine ps_s_vV [] _ p73_53 rfl b1 rfl rfl rfl (al_sizem A3 (ps_bki ?_) d (by omega))
          refine ps_s_ge p73_56 (by omega) (by omega) (fun c56 => ?_) (fun c56 => ?_)
          · omega
          · first | refine ps_s_al p73_59 rfl ?_ | refine ps_s_aln p73_59 rfl ?_
            refine ps_s_il p73_61 rfl ?_
            refine ps_s_vV [_] _ p73_63 rfl b1 rfl rfl rfl (al_get A3 hg2 (ps_bki ?_) d (by omega))
            refine ps_s_ck p73_66 p1 ?_
            refine ps_s_gf p73_69 p1 rfl ?_
            refine ps_s_ne0 p73_72 (by omega) (fun c72 => ?_) (fun c72 => ?_)
            · rw [show [p].filter (fun p => !decide (p.2.2.1 = 1)) = [] by simp; omega, List.append_nil] at nx2
              refine ps_s_in6 p73_90 ?_
              refine ps_s_go p73_93 ?_
              exact nx2 _ _ _ _ F Y
            · rw [show [p].filter (fun p => !decide (p.2.2.1 = 1)) = [p] by simp; omega] at nx2
              obtain ⟨cy, y1, y2, y3, y4, y5⟩ := Y
              obtain ⟨_, _, gy, y6⟩ := al_own y1
              rw [List.length_append] at y3 y4
              first | refine ps_s_al p73_75 rfl ?_ | refine ps_s_aln p73_75 rfl ?_
              first | refine ps_s_al p73_76 rfl ?_ | refine ps_s_aln p73_76 rfl ?_
              refine ps_s_il p73_78 rfl ?_
              refine ps_s_vV [_] _ p73_80 rfl b1 rfl rfl rfl (al_get A3 hg2 (ps_bki ?_) d (by omega))
              refine ps_s_ck p73_83 p1 ?_
              refine ps_s_vV [_] _ p73_86 rfl y6 rfl rfl rfl (al_add F.1 y1 (by rw [List.length_map, List.length_append]; omega) p1 rfl (fun h2 o2 cap' c' s' k1 k2 k3 k4 => ps_bki ?_) d (by omega))
              refine ps_s_pop p73_89 rfl ?_
              refine ps_s_in6 p73_90 ?_
              refine ps_s_go p73_93 ?_
              have F2 := cf_trans w F k1 (fun u _ hu => .inr (by rw [hu]; exact Nat.le_refl _))
              refine nx2 _ _ _ _ F2 ⟨cap', ?_, ?_⟩
              · rw [List.map_append]; exact k2
              · rw [List.length_append, List.length_append]
                show _ ∧ _ ≤ 10 + 2 * ((mrS M).length + _ + 1) ∧ _ ≤ 1 + ((mrS M).length + _ + 1) ∧ _
                rcases k4 with ⟨q1, q2⟩ | ⟨q1, q2, q3⟩
                · refine ⟨by omega, by omega, by omega, by omega⟩
                · rw [List.length_map, List.length_append] at q1
                  obtain ⟨g1, g2, g3⟩ := gr_4 y2
                  refine ⟨by omega, by omega, by omega, by omega⟩
      have hn2 := hn
      rw [List.length_append, List.length_append] at hn2
      refine ps_s_il p73_11 rfl ?_
      refine ps_s_il p73_13 rfl ?_
      refine ps_s_gt p73_14 (by omega) (by omega) (fun c14 => ?_) (fun c14 => ?_)
      · omega
      · refine ps_s_il p73_17 rfl ?_
        first | refine ps_s_al p73_19 rfl ?_ | refine ps_s_aln p73_19 rfl ?_
        refine ps_s_gf p73_20 T1.1 rfl ?_
        refine ps_s_vV [] _ p73_23 rfl a1 rfl rfl rfl (al_sizem A1 (ps_bki ?_) d (by omega))
        refine ps_s_ge p73_26 (by omega) (by omega) (fun c26 => ?_) (fun c26 => ?_)
        · rw [List.length_append, List.length_append] at c26; omega
        · first | refine ps_s_al p73_29 rfl ?_ | refine ps_s_aln p73_29 rfl ?_
          refine ps_s_gf p73_30 T1.1 rfl ?_
          refine ps_s_il p73_33 rfl ?_
          refine ps_s_vV [_] _ p73_35 rfl a1 rfl rfl rfl (al_get A1 hg (ps_bki ?_) d (by omega))
          refine ps_s_ck p73_38 s1 ?_
          refine ps_s_gf p73_41 s1 rfl ?_
          first | refine ps_s_as5 p73_44 ?_ | refine ps_s_asn5 p73_44 ?_
          refine ps_s_k p73_46 ?_
          refine ps_s_is6 p73_47 ?_
          exact inner (dS S) [] _ _ _ _ rfl F (by rw [List.filter_nil, List.append_nil]; exact Y)
  have f1 : cF G (fun _ => False) h o (pm_add h (pm_o 2 (pm_zero 2)) 3) (va_up o h.2.1 h.2.1) 1 3 := cf_add w (Nat.le_refl _)
  have hoe2 : va_up o h.2.1 h.2.1 G.2.2 < G.1 := by rw [cf_own f1 hem]; exact hoe
  refine ps_M_in (e73 _ _ _) l73 (fun d hd => ?_)
  refine ps_s_nw p73_0 ?_
  refine ps_s_dup p73_3 rfl ?_
  refine ps_s_vP [] _ p73_4 rfl rfl rfl rfl (al_new f1.1 pa_eq hG (if_pos rfl) (cf_get f1 hem (fun q => q)) hoe2 (fun h2 k1 k2 => ps_bkv ?_) d (by omega))
  first | refine ps_s_as3 p73_7 ?_ | refine ps_s_asn3 p73_7 ?_
  refine ps_s_il p73_8 rfl ?_
  refine ps_s_is4 p73_9 ?_
  have F2 := cf_trans w f1 k1 (fun u _ hu => .inr (by rw [hu]; exact Nat.le_refl _))
  refine loop d hd SM [] h2 _ 1 3 _ _ rfl F2 ⟨0, k2, .inl rfl, by omega, by omega, by omega⟩
end CKP
