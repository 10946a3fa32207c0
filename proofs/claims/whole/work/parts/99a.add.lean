/-! The shelf: add. -/
theorem last_get {α : Type} {l P : List α} {p : α} (h : l = P ++ [p]) : l[l.length - 1]? = some p := by
  subst h
  rw [List.length_append, show P.length + [p].length - 1 = P.length by simp, get_pre]
theorem snoc_ex {α : Type} (l : List α) (h : l ≠ []) : ∃ P p, l = P ++ [p] := ⟨l.dropLast, l.getLast h, (List.dropLast_concat_getLast h).symm⟩
theorem i_m1lt {n : Nat} (hn : n < 2147483648) : (-1 : Int32) < Int32.ofNat n := by
  rw [Int32.lt_iff_toInt_lt, Int32.toInt_ofNat_of_lt (by simpa using hn)]
  have : (-1 : Int32).toInt = -1 := by decide
  rw [this]
  omega
theorem i_neg1 {a : Int32} (h : a < 0) : ¬ (-1 : Int32) < a := by
  rw [Int32.lt_iff_toInt_lt] at h ⊢
  have e1 : (-1 : Int32).toInt = -1 := by decide
  have e2 : (0 : Int32).toInt = 0 := by decide
  rw [e1]
  rw [e2] at h
  omega
section XAD
variable {G : pm_G} {o : Nat → Nat} {h : pm_S} {x dr pi pg ba kD lD rD kP lP rP room nn : Nat} {pw : Option Nat} {ts : List Nat} {ps : List (Nat × List Nat)} {bx : List (Nat × pD)} {Ss : List cS} {Lb : List Nat} {Q : pm_Q}
/-- the draft changed -/
theorem cx_draft {h1 : pm_S} {o1 : Nat → Nat} {c s : Nat} {ts' : List Nat} (X : (cX G o h x dr pi pg ba kD lD rD kP lP rP room nn pw ts ps bx Ss Lb)) (F : cF G (· = dr) h o h1 o1 c s) (N : cDR G o1 h1 dr ts') : (cX G (o1) (h1) x dr pi pg ba kD lD rD kP lP rP room nn pw (ts') ps bx Ss Lb) := by
  obtain ⟨⟨k1, k2, k3, k4, k5⟩, ⟨k6, k7, k8⟩, ⟨k9, k10, k11⟩, KS, KB⟩ := cx_K X
  obtain ⟨Y0, Y2, Y3, Y4, Y5, Y6, Y7, Y8⟩ := cx_one X F k2 (by decide)
  obtain ⟨X0, X2, X3, X4, X5, X6, X7, X8, X9⟩ := X
  exact ⟨Y0, Y2 (kne k1 k2 (by decide)), N, Y4 (kne k3 k2 (by decide)), Y5 (kne k4 k2 (by decide)), Y6 (kne k5 k2 (by decide)), Y7 (kne k6 k2 (by decide)) (kne k7 k2 (by decide)) (kne k8 k2 (by decide)) (fun S hS => ⟨kne (KS S hS).2.1 k2 (by decide), kne (KS S hS).2.2.1 k2 (by decide)⟩), Y8 (kne k9 k2 (by decide)) (kne k10 k2 (by decide)) (kne k11 k2 (by decide)), X9⟩
/-- the buffer's list changed -/
theorem cx_buf {h1 : pm_S} {o1 : Nat → Nat} {c s : Nat} {bx' : List (Nat × pD)} (X : (cX G o h x dr pi pg ba kD lD rD kP lP rP room nn pw ts ps bx Ss Lb)) (F : cF G (· = ba) h o h1 o1 c s) (N : cLD G o1 h1 ba bx') : (cX G (o1) (h1) x dr pi pg ba kD lD rD kP lP rP room nn pw ts ps (bx') Ss Lb) := by
  obtain ⟨⟨k1, k2, k3, k4, k5⟩, ⟨k6, k7, k8⟩, ⟨k9, k10, k11⟩, KS, KB⟩ := cx_K X
  obtain ⟨Y0, Y2, Y3, Y4, Y5, Y6, Y7, Y8⟩ := cx_one X F k5 (by decide)
  obtain ⟨X0, X2, X3, X4, X5, X6, X7, X8, X9⟩ := X
  have X9' := X9
  obtain ⟨⟨n1, n2, n3, n4, n5, n6⟩, n7, n8, n9⟩ := X9'
  exact ⟨Y0, Y2 (kne k1 k5 (by decide)), Y3 (kne k2 k5 (by decide)), Y4 (fun q => n4 q.symm), Y5 (kne k4 k5 (by decide)), N, Y7 (kne k6 k5 (by decide)) (fun q => n5 q.symm) (kne k8 k5 (by decide)) (fun S hS => ⟨(n8 S hS).2.2.2, kne (KS S hS).2.2.1 k5 (by decide)⟩), Y8 (kne k9 k5 (by decide)) (fun q => n6 q.symm) (kne k11 k5 (by decide)), X9⟩
theorem dc_new {q key : Nat} {u0 u1 u2 u3 u4 : Value} (w : cW h o) (e : h.1 q = some (pm_o 5 [u0, u1, u2, u3, u4])) (hg : G.1 ≤ q) (hG : G.1 ≤ h.2.1) (ho : o q = q) (hk : key < 2147483648) (A : cDR G o h dr ts) (K : ∀ h', cF G (· = q) h o h' (va_up o h.2.1 q) 1 16 → cDC G (va_up o h.2.1 q) h' q ((key, ts), 0, 0) → Q (.inl none) h') : ps_M G 1 37 [.ref q, iN key, .ref dr] h Q := by
  obtain ⟨a, f, a1, a2, ⟨a3, a4⟩, ⟨a5, a6⟩, a7, a8⟩ := A
  have hlq := cw_lt w e
  have hla := cw_lt w a2
  have hqd : dr ≠ q := fun r => by rw [r, e] at a1; cases a1
  have hqa : a ≠ q := fun r => by rw [r, e] at a2; cases a2
  have f1 : cF G (· = q) h o (pm_put h q (pm_o 5 [u0, u1, u2, iN 0, u4])) o 0 0 := cf_put w e (by omega) ho rfl
  have f2 := cf_put2 (a := q) (x := pm_o 5 [u0, u1, u2, iN 0, iN 0]) w f1 pp_eq (by omega) (.inl ho) rfl
  have f3 := cf_put2 (a := q) (x := pm_o 5 [iN key, u1, u2, iN 0, iN 0]) w f2 pp_eq (by omega) (.inl ho) rfl
  have f4 := cf_put2 (a := q) (x := pm_o 5 [iN key, iN ts.length, u2, iN 0, iN 0]) w f3 pp_eq (by omega) (.inl ho) rfl
  have f5 := cf_add2 (x := pm_a 0 16 f) (n := 16) (u := q) w f4 (by show q ≤ h.2.1; omega)
  have o1 : va_up o h.2.1 q q = q := (if_neg (by omega)).trans ho
  have f6 := cf_put2 (a := q) (x := pm_o 5 [iN key, iN ts.length, .ref h.2.1, iN 0, iN 0]) w f5 ((pa_ne (by show q ≠ h.2.1; omega)).trans pp_eq) (by show G.1 ≤ va_up o h.2.1 q q; rw [o1]; exact hg) (.inl o1) rfl
  have b3 : (pm_put (pm_put (pm_put h q (pm_o 5 [u0, u1, u2, iN 0, u4])) q (pm_o 5 [u0, u1, u2, iN 0, iN 0])) q (pm_o 5 [iN key, u1, u2, iN 0, iN 0])).1 dr = some (pm_o 1 [.ref a, iN ts.length]) := (pp_ne hqd).trans ((pp_ne hqd).trans ((pp_ne hqd).trans a1))
  have b5 : (pm_put (pm_put (pm_put (pm_put h q (pm_o 5 [u0, u1, u2, iN 0, u4])) q (pm_o 5 [u0, u1, u2, iN 0, iN 0])) q (pm_o 5 [iN key, u1, u2, iN 0, iN 0])) q (pm_o 5 [iN key, iN ts.length, u2, iN 0, iN 0])).1 dr = some (pm_o 1 [.ref a, iN ts.length]) := (pp_ne hqd).trans b3
  have b6 : (pm_put (pm_put (pm_put (pm_put h q (pm_o 5 [u0, u1, u2, iN 0, u4])) q (pm_o 5 [u0, u1, u2, iN 0, iN 0])) q (pm_o 5 [iN key, u1, u2, iN 0, iN 0])) q (pm_o 5 [iN key, iN ts.length, u2, iN 0, iN 0])).1 a = some (pm_a 0 16 f) := (pp_ne hqa).trans ((pp_ne hqa).trans ((pp_ne hqa).trans ((pp_ne hqa).trans a2)))
  refine ps_M_in (e37 _ _ _) l37 (fun d hd => ?_)
  first | refine ps_s_al p37_0 rfl ?_ | refine ps_s_aln p37_0 rfl ?_
  refine ps_s_nt p37_1 rfl ?_
  first | refine ps_s_al p37_4 rfl ?_ | refine ps_s_aln p37_4 rfl ?_
  refine ps_s_k p37_5 ?_
  refine ps_s_pf p37_6 e (by omega) rfl (ps_blt rfl) ?_
  first | refine ps_s_al p37_9 rfl ?_ | refine ps_s_aln p37_9 rfl ?_
  refine ps_s_k p37_10 ?_
  refine ps_s_pf p37_11 pp_eq (by omega) rfl (ps_blt rfl) ?_
  first | refine ps_s_al p37_14 rfl ?_ | refine ps_s_aln p37_14 rfl ?_
  refine ps_s_il p37_15 rfl ?_
  refine ps_s_pf p37_16 pp_eq (by omega) rfl (ps_blt rfl) ?_
  first | refine ps_s_al p37_19 rfl ?_ | refine ps_s_aln p37_19 rfl ?_
  first | refine ps_s_al p37_20 rfl ?_ | refine ps_s_aln p37_20 rfl ?_
  refine ps_s_gf p37_21 b3 rfl ?_
  refine ps_s_pf p37_24 pp_eq (by omega) rfl (ps_blt rfl) ?_
  first | refine ps_s_al p37_27 rfl ?_ | refine ps_s_aln p37_27 rfl ?_
  first | refine ps_s_al p37_28 rfl ?_ | refine ps_s_aln p37_28 rfl ?_
  refine ps_s_gf p37_29 b5 rfl ?_
  refine ps_s_nt p37_32 (nt_cln rfl a5 b6) ?_
  refine ps_s_cki p37_35 (f := f) (n := 16) pa_eq hG ?_
  refine ps_s_pf p37_38 ((pa_ne (by show q ≠ h.2.1; omega)).trans pp_eq) (by omega) rfl (ps_blt rfl) ?_
  refine ps_s_rv p37_41 t37 ?_
  refine K _ f6 ⟨h.2.1, f, pp_eq, (pp_ne (by omega)).trans pa_eq, ⟨hg, o1⟩, ⟨hG, if_pos rfl⟩, a7, hk, a8, Nat.zero_le _, Nat.zero_le _⟩
theorem fill0 {e : Nat} {f : Nat → Int32} (w : cW h o) (a2 : h.1 e = some (pm_a 0 16 f)) (hg : G.1 ≤ e) (ho : G.1 ≤ o e) (K : ∀ h' g, cF G (· = o e) h o h' o 0 0 → h'.1 e = some (pm_a 0 16 g) → (∀ i, i < 16 → g i = Int32.ofNat 0) → (∀ z, z ≠ e → h'.1 z = h.1 z) → Q (.inl none) h') : ps_M G 1 47 [.ref e, iN 0] h Q := by
  have loop : ∀ d n i (h1 : pm_S) (g : Nat → Int32), i + n = 16 → cF G (· = o e) h o h1 o 0 0 → h1.1 e = some (pm_a 0 16 g) → (∀ j, j < i → g j = Int32.ofNat 0) → (∀ z, z ≠ e → h1.1 z = h.1 z) → ps_X G d 47 5 [some (.ref e), some (iN 0), some (iN i), some (iN 16)] [] h1 Q := by
    intro d n
    induction n with
    | zero =>
      intro i h1 g hi F b1 b2 b3
      refine ps_s_il p47_5 rfl ?_
      refine ps_s_il p47_6 rfl ?_
      refine ps_s_ge p47_7 (by omega) (by omega) (fun c7 => ?_) (fun c7 => ?_)
      · refine ps_s_rv p47_20 t47 ?_
        exact K _ g F b1 (fun j hj => b2 j (by omega)) b3
      · omega
    | succ n ih =>
      intro i h1 g hi F b1 b2 b3
      have f2 := cf_put2 (a := e) (x := pm_a 0 16 (upd g i (Int32.ofNat 0))) w F b1 ho (.inl rfl) rfl
      refine ps_s_il p47_5 rfl ?_
      refine ps_s_il p47_6 rfl ?_
      refine ps_s_ge p47_7 (by omega) (by omega) (fun c7 => ?_) (fun c7 => ?_)
      · omega
      · first | refine ps_s_al p47_10 rfl ?_ | refine ps_s_aln p47_10 rfl ?_
        refine ps_s_il p47_11 rfl ?_
        refine ps_s_il p47_12 rfl ?_
        refine ps_s_ias p47_13 b1 (by omega) (by omega) (by omega) ?_
        refine ps_s_in2 p47_14 ?_
        refine ps_s_go p47_17 ?_
        refine ih _ _ _ (by omega) f2 pp_eq (fun j hj => ?_) (fun z hz => (pp_ne hz).trans (b3 z hz))
        unfold upd
        by_cases q : j = i
        · rw [if_pos q]
        · rw [if_neg q]; exact b2 j (by omega)
  refine ps_M_in (e47 _ _) l47 (fun d hd => ?_)
  refine ps_s_k p47_0 ?_
  refine ps_s_is2 p47_1 ?_
  first | refine ps_s_al p47_2 rfl ?_ | refine ps_s_aln p47_2 rfl ?_
  first | refine ps_s_alr p47_3 a2 ?_ | refine ps_s_al0 p47_3 a2 ?_
  refine ps_s_is3 p47_4 ?_
  exact loop d 16 0 h f rfl (cf_refl w) a2 (fun j hj => absurd hj (Nat.not_lt_zero _)) (fun z _ => rfl)
theorem dr_clear (w : cW h o) (A : cDR G o h dr ts) (K : ∀ h', cF G (· = dr) h o h' o 0 0 → cDR G o h' dr [] → Q (.inl none) h') : ps_M G 2 46 [.ref dr] h Q := by
  obtain ⟨e, f, a1, a2, ⟨a3, a4⟩, ⟨a5, a6⟩, a7, a8⟩ := A
  have hne : e ≠ dr := fun q => by rw [q, a1] at a2; cases a2
  refine ps_M_in (e46 _) l46 (fun d hd => ?_)
  first | refine ps_s_al p46_0 rfl ?_ | refine ps_s_aln p46_0 rfl ?_
  refine ps_s_gf p46_1 a1 rfl ?_
  refine ps_s_k p46_4 ?_
  refine ps_s_vS [_, _] _ p46_5 rfl rfl rfl rfl (fill0 w a2 a5 (by omega) (fun h' g q1 q2 q3 q4 => ps_bkv ?_) d (by omega))
  rw [a6] at q1
  have b1 := (q4 dr (fun q => hne q.symm)).trans a1
  have f2 := cf_put2 (a := dr) (x := pm_o 1 [.ref e, iN 0]) w q1 b1 (by omega) (.inl a4) rfl
  first | refine ps_s_al p46_8 rfl ?_ | refine ps_s_aln p46_8 rfl ?_
  refine ps_s_k p46_9 ?_
  refine ps_s_pf p46_10 b1 (by omega) rfl (ps_blt rfl) ?_
  refine ps_s_rv p46_13 t46 ?_
  exact K _ f2 ⟨e, g, pp_eq, (pp_ne hne).trans q2, ⟨a3, a4⟩, ⟨a5, a6⟩, fun t ht => q3 t ht, Nat.zero_le _⟩
theorem sg_last {S : cS} {N : List (Nat × pD)} {p : Nat × pD} (A : cSG G o h S) (hN : dS S = N ++ [p]) (K : Q (.inl (some (iN p.2.1.1))) h) : ps_M G 4 36 [.ref S.1] h Q := by
  obtain ⟨s1, _, ⟨⟨cap, A1⟩, A2, A3⟩, _⟩ := A
  have A1 : cAL G o h S.2.2.1 cap ((dS S).map (·.1)) := A1
  have A3 : (dS S).length ≤ 2000 := A3
  obtain ⟨_, _, fs, a1⟩ := al_own A1
  have hl : (dS S).length = N.length + 1 := by rw [hN, List.length_append]; rfl
  have hg : ((dS S).map (·.1))[(dS S).length - 1]? = some p.1 := by rw [List.getElem?_map, last_get hN]; rfl
  obtain ⟨e, f, p1, _⟩ := A2 p (by show p ∈ dS S; rw [hN]; simp)
  refine ps_M_in (e36 _) l36 (fun d hd => ?_)
  refine ps_s_al p36_0 rfl ?_
  refine ps_s_gf p36_1 s1 rfl ?_
  refine ps_s_vV [] _ p36_4 rfl a1 rfl rfl rfl (al_isEmpty A1 (fun q => ps_bki ?_) (fun q => ps_bki ?_) d (by omega))
  · have := congrArg List.length (List.map_eq_nil_iff.mp q)
    rw [hl] at this
    cases this
  · refine ps_s_eq0 p36_7 (by omega) (fun c7 => ?_) (fun c7 => ?_)
    · first | refine ps_s_al p36_14 rfl ?_ | refine ps_s_aln p36_14 rfl ?_
      refine ps_s_gf p36_15 s1 rfl ?_
      first | refine ps_s_al p36_18 rfl ?_ | refine ps_s_aln p36_18 rfl ?_
      refine ps_s_gf p36_19 s1 rfl ?_
      refine ps_s_vV [] _ p36_22 rfl a1 rfl rfl rfl (al_sizem A1 (ps_bki ?_) d (by omega))
      refine ps_s_k p36_25 ?_
      first | refine ps_s_sub p36_26 (by omega) ?_ | refine ps_s_2 p36_26 ?_
      refine ps_s_vV [_] _ p36_27 rfl a1 rfl rfl rfl (al_get A1 hg (ps_bki ?_) d (by omega))
      refine ps_s_ck p36_30 p1 ?_
      refine ps_s_gf p36_33 p1 rfl ?_
      refine ps_s_ri p36_36 t36 ?_
      exact K
    · exact absurd rfl c7
theorem x_greatest (X : (cX G o h x dr pi pg ba kD lD rD kP lP rP room nn pw ts ps bx Ss Lb)) (hbn : bx.length ≤ 12) (hn : Ss.length ≤ 1000) (hne : ∀ S ∈ Ss, dS S ≠ []) (K1 : Ss.flatMap dS ++ bx = [] → Q (.inl (some (.int (-1)))) h) (K2 : ∀ P p, Ss.flatMap dS ++ bx = P ++ [p] → p.2.1.1 < 2147483648 → Q (.inl (some (iN p.2.1.1))) h) : ps_M G 5 34 [.ref x] h Q := by
  obtain ⟨X0, ⟨pf, bf, x1, _⟩, X3, X4, X5, ⟨⟨capB, B⟩, B2, B3⟩, ⟨T, ⟨cap, A⟩, SS, RR, R⟩, X8, X9⟩ := X
  obtain ⟨_, _, fs, a1⟩ := al_own A
  obtain ⟨_, _, fs2, b1⟩ := al_own B
  refine ps_M_in (e34 _) l34 (fun d hd => ?_)
  refine ps_s_al p34_0 rfl ?_
  refine ps_s_gf p34_1 x1 rfl ?_
  refine ps_s_vV [] _ p34_4 rfl b1 rfl rfl rfl (al_isEmpty B (fun q => ps_bki ?_) (fun q => ps_bki ?_) d (by omega))
  · have hb0 : bx = [] := List.map_eq_nil_iff.mp q
    subst hb0
    rw [List.append_nil] at K1 K2
    refine ps_s_ne0 p34_7 (by omega) (fun c7 => ?_) (fun c7 => ?_)
    · refine ps_s_al p34_33 rfl ?_
      refine ps_s_gf p34_34 x1 rfl ?_
      refine ps_s_gf p34_37 T.1 rfl ?_
      refine ps_s_vV [] _ p34_40 rfl a1 rfl rfl rfl (al_isEmpty A (fun q => ps_bki ?_) (fun q => ps_bki ?_) d (by omega))
      · have hs0 : Ss = [] := List.map_eq_nil_iff.mp q
        subst hs0
        refine ps_s_eq0 p34_43 (by omega) (fun c43 => ?_) (fun c43 => ?_)
        · exact absurd c43 (by decide)
        · refine ps_s_k p34_46 ?_
          refine ps_s_go p34_47 ?_
          refine ps_s_ri p34_78 t34 ?_
          exact K1 rfl
      · have hs0 : Ss ≠ [] := fun e => q (by rw [e]; rfl)
        obtain ⟨M, S, hM⟩ := snoc_ex Ss hs0
        obtain ⟨N, p, hN⟩ := snoc_ex (dS S) (hne S (by rw [hM]; simp))
        have hSm : S ∈ Ss := by rw [hM]; simp
        have hlen : Ss.length = M.length + 1 := by rw [hM, List.length_append]; rfl
        have hg : (Ss.map (·.1))[Ss.length - 1]? = some S.1 := by rw [List.getElem?_map, last_get hM]; rfl
        refine ps_s_eq0 p34_43 (by omega) (fun c43 => ?_) (fun c43 => ?_)
        · first | refine ps_s_al p34_50 rfl ?_ | refine ps_s_aln p34_50 rfl ?_
          refine ps_s_gf p34_51 x1 rfl ?_
          refine ps_s_gf p34_54 T.1 rfl ?_
          first | refine ps_s_al p34_57 rfl ?_ | refine ps_s_aln p34_57 rfl ?_
          refine ps_s_gf p34_58 x1 rfl ?_
          refine ps_s_gf p34_61 T.1 rfl ?_
          refine ps_s_vV [] _ p34_64 rfl a1 rfl rfl rfl (al_sizem A (ps_bki ?_) d (by omega))
          refine ps_s_k p34_67 ?_
          first | refine ps_s_sub p34_68 (by omega) ?_ | refine ps_s_2 p34_68 ?_
          refine ps_s_vV [_] _ p34_69 rfl a1 rfl rfl rfl (al_get A hg (ps_bki ?_) d (by omega))
          refine ps_s_ck p34_72 (SS S hSm).1 ?_
          refine ps_s_vV [] _ p34_75 rfl (SS S hSm).1 rfl rfl rfl (sg_last (SS S hSm) hN (ps_bki ?_) d (by omega))
          refine ps_s_ri p34_78 t34 ?_
          refine K2 (M.flatMap dS ++ N) p ?_ ((SS S hSm).2.2.1.2.1 p (by show p ∈ dS S; rw [hN]; simp)).choose_spec.choose_spec.2.2.2.2.2.1
          rw [hM, List.flatMap_append, show [S].flatMap dS = dS S by simp, hN, List.append_assoc]
        · exact absurd rfl c43
    · exact absurd c7 (by decide)
  · have hb0 : bx ≠ [] := fun e => q (by rw [e]; rfl)
    obtain ⟨N, p, hN⟩ := snoc_ex bx hb0
    have hlen : bx.length = N.length + 1 := by rw [hN, List.length_append]; rfl
    have hg : (bx.map (·.1))[bx.length - 1]? = some p.1 := by rw [List.getElem?_map, last_get hN]; rfl
    obtain ⟨e, f, p1, _, _, _, _, p6, _⟩ := B2 p (by rw [hN]; simp)
    refine ps_s_ne0 p34_7 (by omega) (fun c7 => ?_) (fun c7 => ?_)
    · exact absurd rfl c7
    · first | refine ps_s_al p34_10 rfl ?_ | refine ps_s_aln p34_10 rfl ?_
      refine ps_s_gf p34_11 x1 rfl ?_
      first | refine ps_s_al p34_14 rfl ?_ | refine ps_s_aln p34_14 rfl ?_
      refine ps_s_gf p34_15 x1 rfl ?_
      refine ps_s_vV [] _ p34_18 rfl b1 rfl rfl rfl (al_sizem B (ps_bki ?_) d (by omega))
      refine ps_s_k p34_21 ?_
      first | refine ps_s_sub p34_22 (by omega) ?_ | refine ps_s_2 p34_22 ?_
      refine ps_s_vV [_] _ p34_23 rfl b1 rfl rfl rfl (al_get B hg (ps_bki ?_) d (by omega))
      refine ps_s_ck p34_26 p1 ?_
      refine ps_s_gf p34_29 p1 rfl ?_
      refine ps_s_ri p34_32 t34 ?_
      exact K2 (Ss.flatMap dS ++ N) p (by rw [hN, List.append_assoc]) p6
theorem x_add {a : Int32} (X : (cX G o h x dr pi pg ba kD lD rD kP lP rP room nn pw ts ps bx Ss Lb)) (hbn : bx.length ≤ 12) (hn : Ss.length ≤ 1000) (hne : ∀ S ∈ Ss, dS S ≠ [])
    (K1 : (a < 0 ∨ ∃ P p, Ss.flatMap dS ++ bx = P ++ [p] ∧ a ≤ Int32.ofNat p.2.1.1) → Q (.inr 0) (pm_gap h 6))
    (K2 : ¬ (a < 0 ∨ ∃ P p, Ss.flatMap dS ++ bx = P ++ [p] ∧ a ≤ Int32.ofNat p.2.1.1) → (ts.length = 0 ∨ bx.length = 12) → Q (.inr 1) (pm_gap h 6))
    (K3 : ¬ (a < 0 ∨ ∃ P p, Ss.flatMap dS ++ bx = P ++ [p] ∧ a ≤ Int32.ofNat p.2.1.1) → ¬ (ts.length = 0 ∨ bx.length = 12) → ∀ n : Nat, n < 2147483648 → a = Int32.ofNat n → ∀ h' o' q c s, cF G (cU h) h o h' o' c s → c ≤ 5 → s ≤ 200 → (cX G (o') (h') x dr pi pg ba kD lD rD kP lP rP room nn pw ([]) ps (bx ++ [(q, ((n, ts), 0, 0))]) Ss Lb) → Q (.inl (some (iN (bx.length + 1)))) h') : ps_M G 7 33 [.ref x, .int a] h Q := by
  have X' := X
  obtain ⟨X0, ⟨pf, bf, x1, x2⟩, X3, X4, X5, ⟨⟨capB, B⟩, B2, B3⟩, X7, X8, X9⟩ := X'
  obtain ⟨_, _, fs2, b1⟩ := al_own B
  have X3' := X3
  obtain ⟨de, df, d1, d2, d3, d4, d5, d6⟩ := X3'
  have dGp : ∀ d', 6 ≤ d' → ¬ (a < 0 ∨ ∃ P p, Ss.flatMap dS ++ bx = P ++ [p] ∧ a ≤ Int32.ofNat p.2.1.1) → ps_X G d' 33 18 [some (.ref x), some (.int a)] [] h Q := by
    intro d hd hno
    have bad : (ts.length = 0 ∨ bx.length = 12) → ps_X G d 33 40 [some (.ref x), some (.int a)] [] h Q := by
      intro q
      refine ps_s_th p33_40 ?_
      exact K2 hno q
    first | refine ps_s_al p33_18 rfl ?_ | refine ps_s_aln p33_18 rfl ?_
    refine ps_s_gf p33_19 x1 rfl ?_
    refine ps_s_gf p33_22 d1 rfl ?_
    refine ps_s_eq0 p33_25 (by omega) (fun c25 => ?_) (fun c25 => ?_)
    · exact bad (.inl c25)
    · first | refine ps_s_al p33_28 rfl ?_ | refine ps_s_aln p33_28 rfl ?_
      refine ps_s_gf p33_29 x1 rfl ?_
      refine ps_s_vV [] _ p33_32 rfl b1 rfl rfl rfl (al_sizem B (ps_bki ?_) d (by omega))
      refine ps_s_k p33_35 ?_
      refine ps_s_lt p33_37 (by omega) (by omega) (fun c37 => ?_) (fun c37 => ?_)
      · rcases i_cases a with e | ⟨n, hn1, rfl⟩
        · exact absurd (.inl e) hno
        · have f1 : cF G (fun _ => False) h o (pm_add h (pm_o 5 (pm_zero 5)) 5) (va_up o h.2.1 h.2.1) 1 5 := cf_add X0.1 (Nat.le_refl _)
          have o1 : va_up o h.2.1 h.2.1 h.2.1 = h.2.1 := if_pos rfl
          have Y1 := cx_nil X f1 (fun _ q => q)
          have y1 := cf_get f1 x1 (fun q => q)
          first | refine ps_s_al p33_50 rfl ?_ | refine ps_s_aln p33_50 rfl ?_
          refine ps_s_gf p33_51 x1 rfl ?_
          refine ps_s_nw p33_54 ?_
          refine ps_s_dup p33_57 rfl ?_
          refine ps_s_il p33_58 rfl ?_
          first | refine ps_s_al p33_59 rfl ?_ | refine ps_s_aln p33_59 rfl ?_
          refine ps_s_gf p33_60 y1 rfl ?_
          refine ps_s_vP [_, _] _ p33_63 rfl rfl rfl rfl (dc_new f1.1 pa_eq X0.2.1 Y1.1.2.1 o1 hn1 Y1.2.2.1 (fun h2 q1 q2 => ps_bkv ?_) d (by omega))
          have F2 := cf_trans X0.1 f1 q1 (fun u _ hu => .inr (by rw [hu]; exact Nat.le_refl _))
          have Y2 := cx_nil X F2 (fun _ q => q)
          have Y2' := Y2
          obtain ⟨Z0, ⟨pf2, bf2, z1, _⟩, Z3, Z4, Z5, ⟨⟨cap2, C⟩, C2, C3⟩, Z7, Z8, Z9⟩ := Y2'
          obtain ⟨_, _, fs3, c1⟩ := al_own C
          obtain ⟨_, _, fs4, e4⟩ := dc_obj q2
          refine ps_s_vV [_] _ p33_66 rfl c1 rfl rfl rfl (al_add Z0.1 C (by rw [List.length_map]; omega) e4 rfl (fun h3 o3 cap3 c3 s3 r1 r2 r3 r4 => ps_bki ?_) d (by omega))
          have hqb : ∀ p : Nat, cK h2 p 6 → p ≠ ba := fun p hp => kne hp (al_K C) (by decide)
          have N : cLD G o3 h3 ba (bx ++ [(h.2.1, ((n, ts), 0, 0))]) := by
            refine ⟨⟨cap3, by rw [List.map_append]; exact r2⟩, fun p hp => ?_, by rw [List.length_append]; show bx.length + 1 ≤ _; omega⟩
            rcases List.mem_append.mp hp with hp | hp
            · exact dc_fr (C2 p hp) r1 (hqb _ (dc_K (C2 p hp)))
            · have := List.mem_singleton.mp hp
              subst this
              exact dc_fr q2 r1 (hqb _ (dc_K q2))
          have Y3 := cx_buf Y2 r1 N
          have Y3' := Y3
          obtain ⟨W0, ⟨pf3, bf3, w1, _⟩, W3, W4⟩ := Y3'
          have W3' := W3
          obtain ⟨we, wf, w2, _⟩ := W3'
          refine ps_s_pop p33_69 rfl ?_
          first | refine ps_s_al p33_70 rfl ?_ | refine ps_s_aln p33_70 rfl ?_
          refine ps_s_gf p33_71 w1 rfl ?_
          refine ps_s_vV [] _ p33_74 rfl w2 rfl rfl rfl (dr_clear W0.1 W3 (fun h4 t1 t2 => ps_bkv ?_) d (by omega))
          have Y4 := cx_draft Y3 t1 t2
          have Y4' := Y4
          obtain ⟨V0, ⟨pf4, bf4, v1, _⟩, V3, V4, V5, ⟨⟨cap5, E⟩, E2⟩, _⟩ := Y4'
          obtain ⟨_, _, fs5, e5⟩ := al_own E
          first | refine ps_s_al p33_77 rfl ?_ | refine ps_s_aln p33_77 rfl ?_
          refine ps_s_gf p33_78 v1 rfl ?_
          refine ps_s_vV [] _ p33_81 rfl e5 rfl rfl rfl (al_sizem E (ps_bki ?_) d (by omega))
          refine ps_s_ri p33_84 t33 ?_
          rw [List.length_append]
          have U1 := cu_of F2 (fun _ q => q.elim)
          have U2 := cu_trans X0.1 U1 (cu_one r1 (al_K C) (by decide) (by decide))
          have U3 := cu_trans X0.1 U2 (cu_one t1 (cx_K Y3).1.2.1 (by decide) (by decide))
          refine K3 hno (by omega) n hn1 rfl h4 _ _ _ _ U3 (by omega) ?_ Y4
          rcases r4 with ⟨_, r4⟩ | ⟨r4, _, r5⟩
          · omega
          · rw [List.length_map] at r4
            have : gr cap2 ≤ 98 := by unfold gr; split <;> omega
            omega
      · exact bad (.inr (by omega))
  refine ps_M_in (e33 _ _) l33 (fun d hd => ?_)
  refine ps_s_il p33_0 rfl ?_
  refine ps_s_al p33_1 rfl ?_
  refine ps_s_vV [] _ p33_2 rfl x1 rfl rfl rfl (x_greatest X hbn hn hne (fun q => ps_bki ?_) (fun P p q hp => ps_bki ?_) d (by omega))
  · refine ps_s_j p33_5 (fun c => ?_) (fun c => ?_)
    · refine dGp d hd ?_
      have hlt : (-1 : Int32) < a := of_decide_eq_true c
      rintro (e | ⟨P, p, e, _⟩)
      · rcases i_cases a with e2 | ⟨n, hn1, rfl⟩
        · exact absurd hlt (i_neg1 e2)
        · exact absurd e (i_ge0 hn1)
      · rw [q] at e
        exact absurd (congrArg List.length e) (by rw [List.length_append]; simp)
    · refine ps_s_th p33_8 ?_
      refine K1 (.inl ?_)
      have hle : ¬ (-1 : Int32) < a := of_decide_eq_false c
      rcases i_cases a with e2 | ⟨n, hn1, rfl⟩
      · exact e2
      · exact absurd (i_m1lt hn1) hle
  · refine ps_s_j p33_5 (fun c => ?_) (fun c => ?_)
    · refine dGp d hd ?_
      have hlt : Int32.ofNat p.2.1.1 < a := of_decide_eq_true c
      rintro (e | ⟨P', p', e, e2⟩)
      · exact absurd (Int32.lt_trans hlt e) (i_ge0 hp)
      · rw [q] at e
        have : p = p' := by
          have := List.append_inj' e rfl
          exact List.singleton_inj.mp this.2
        subst this
        exact absurd hlt (Int32.not_lt.mpr e2)
    · refine ps_s_th p33_8 ?_
      exact K1 (.inr ⟨P, p, q, Int32.not_lt.mp (of_decide_eq_false c)⟩)
end XAD
