/-! The shelf: planning a write. -/
def kpF (al : Nat) (S : cS) : Bool := decide (0 < kc al ((dS S).map (·.2)))
section XPL
variable {G : pm_G} {o : Nat → Nat} {h : pm_S} {x dr pi pg ba kD lD rD kP lP rP room nn : Nat} {pw : Option Nat} {ts : List Nat} {ps : List (Nat × List Nat)} {bx : List (Nat × pD)} {Ss : List cS} {Lb : List Nat} {Q : pm_Q}
/-- the page changed; the plan's list changed -/
theorem cx_page {h1 : pm_S} {o1 : Nat → Nat} {c s : Nat} (X : (cX G o h x dr pi pg ba kD lD rD kP lP rP room nn pw ts ps bx Ss Lb)) (F : cF G (· = pg) h o h1 o1 c s) (N : ∃ L, cRW G o1 h1 pg 800 L) : (cX G (o1) (h1) x dr pi pg ba kD lD rD kP lP rP room nn pw ts ps bx Ss Lb) := by
  obtain ⟨⟨k1, k2, k3, k4, k5⟩, ⟨k6, k7, k8⟩, ⟨k9, k10, k11⟩, KS, KB⟩ := cx_K X
  obtain ⟨Y0, Y2, Y3, Y4, Y5, Y6, Y7, Y8⟩ := cx_one X F k4 (by decide)
  obtain ⟨X0, X2, X3, X4, X5, X6, X7, X8, X9⟩ := X
  have X9' := X9
  obtain ⟨_, ⟨n1, n2, n3, n4⟩, n8, n9⟩ := X9'
  exact ⟨Y0, Y2 (kne k1 k4 (by decide)), Y3 (kne k2 k4 (by decide)), Y4 (kne k3 k4 (by decide)), N, Y6 (kne k5 k4 (by decide)), Y7 (kne k6 k4 (by decide)) (kne k7 k4 (by decide)) (fun q => n1 q.symm) (fun S hS => ⟨kne (KS S hS).2.1 k4 (by decide), (n9 S hS).1⟩), Y8 (kne k9 k4 (by decide)) (kne k10 k4 (by decide)) (fun q => n2 q.symm), X9⟩
theorem cx_plan {h1 : pm_S} {o1 : Nat → Nat} {c s cap : Nat} {zs : List Nat} (X : (cX G o h x dr pi pg ba kD lD rD kP lP rP room nn pw ts ps bx Ss Lb)) (F : cF G (· = lP) h o h1 o1 c s) (N : cAL G o1 h1 lP cap zs) : (cX G (o1) (h1) x dr pi pg ba kD lD rD kP lP rP room nn pw ts ps bx Ss Lb) := by
  obtain ⟨⟨k1, k2, k3, k4, k5⟩, ⟨k6, k7, k8⟩, ⟨k9, k10, k11⟩, KS, KB⟩ := cx_K X
  obtain ⟨Y0, Y2, Y3, Y4, Y5, Y6, Y7, Y8⟩ := cx_one X F k10 (by decide)
  obtain ⟨X0, X2, X3, X4, X5, X6, X7, ⟨⟨t1, t2, t3⟩, _, L, B⟩, X9⟩ := X
  have X9' := X9
  obtain ⟨⟨n1, n2, n3, n4, n5, n6⟩, _, n8, n9⟩ := X9'
  exact ⟨Y0, Y2 (kne k1 k10 (by decide)), Y3 (kne k2 k10 (by decide)), Y4 n2, Y5 (kne k4 k10 (by decide)), Y6 n6, Y7 (kne k6 k10 (by decide)) n3 (kne k8 k10 (by decide)) (fun S hS => ⟨(n8 S hS).2.2.1, kne (KS S hS).2.2.1 k10 (by decide)⟩), ⟨⟨cf_get F t1 (by rw [t3]; exact kne k9 k10 (by decide)), t2, by rw [cf_own F t1]; exact t3⟩, ⟨cap, zs, N⟩, L, rw_fr B F (kne k11 k10 (by decide))⟩, X9⟩
theorem cx_prow {h1 : pm_S} {o1 : Nat → Nat} {c s : Nat} {L : List Nat} (X : (cX G o h x dr pi pg ba kD lD rD kP lP rP room nn pw ts ps bx Ss Lb)) (F : cF G (· = rP) h o h1 o1 c s) (N : cRW G o1 h1 rP 800 L) : (cX G (o1) (h1) x dr pi pg ba kD lD rD kP lP rP room nn pw ts ps bx Ss Lb) := by
  obtain ⟨⟨k1, k2, k3, k4, k5⟩, ⟨k6, k7, k8⟩, ⟨k9, k10, k11⟩, KS, KB⟩ := cx_K X
  obtain ⟨Y0, Y2, Y3, Y4, Y5, Y6, Y7, Y8⟩ := cx_one X F k11 (by decide)
  obtain ⟨X0, X2, X3, X4, X5, X6, X7, ⟨⟨t1, t2, t3⟩, ⟨cap, zs, A⟩, _⟩, X9⟩ := X
  have X9' := X9
  obtain ⟨_, ⟨n1, n2, n3, n4⟩, n8, n9⟩ := X9'
  exact ⟨Y0, Y2 (kne k1 k11 (by decide)), Y3 (kne k2 k11 (by decide)), Y4 (kne k3 k11 (by decide)), Y5 n2, Y6 (kne k5 k11 (by decide)), Y7 (kne k6 k11 (by decide)) (kne k7 k11 (by decide)) n3 (fun S hS => ⟨kne (KS S hS).2.1 k11 (by decide), (n9 S hS).2.2⟩), ⟨⟨cf_get F t1 (by rw [t3]; exact kne k9 k11 (by decide)), t2, by rw [cf_own F t1]; exact t3⟩, ⟨cap, zs, al_fr A F (kne k10 k11 (by decide))⟩, L, N⟩, X9⟩
theorem x_keep {al cap i j : Nat} {zs : List Nat} {SL SM SR : List cS} (X : (cX G o h x dr pi pg ba kD lD rD kP lP rP room nn pw ts ps bx Ss Lb)) (hS : Ss = SL ++ (SM ++ SR)) (hi : i = SL.length) (hj : j = SL.length + SM.length) (PL : cAL G o h lP cap zs) (hal : al ≤ 1) (hn : Ss.length ≤ 10) (hz : zs.length + SM.length ≤ 20)
    (K : ∀ h' o' cap' c s, cF G (· = lP) h o h' o' c s → (cX G (o') (h') x dr pi pg ba kD lD rD kP lP rP room nn pw ts ps bx Ss Lb) → cAL G o' h' lP cap' (zs ++ (SM.filter (kpF al)).map (·.1)) → c ≤ SM.length → s ≤ 40 * SM.length → Q (.inl none) h') : ps_M G 7 52 [.ref x, iN i, iN j, iN al] h Q := by
  subst hi
  subst hj
  have hSl : Ss.length = SL.length + (SM.length + SR.length) := by rw [hS, List.length_append, List.length_append]
  have w0 := X.1.1
  have loop : ∀ d', 6 ≤ d' → ∀ (R M : List cS) (h1 : pm_S) (o1 : Nat → Nat) (cap1 c s : Nat) (u5 : Option Value), M ++ R = SM → cF G (· = lP) h o h1 o1 c s → (cX G (o1) (h1) x dr pi pg ba kD lD rD kP lP rP room nn pw ts ps bx Ss Lb) → cAL G o1 h1 lP cap1 (zs ++ (M.filter (kpF al)).map (·.1)) → c ≤ M.length → s ≤ 40 * M.length → ps_X G d' 52 3 [some (.ref x), some (iN SL.length), some (iN (SL.length + SM.length)), some (iN al), some (iN (SL.length + M.length)), u5] [] h1 Q := by
    intro d hd R
    induction R with
    | nil =>
      intro M h1 o1 cap1 c s u5 hM F X1 P1 hc hs
      rw [List.append_nil] at hM
      subst hM
      refine ps_s_il p52_3 rfl ?_
      refine ps_s_il p52_5 rfl ?_
      refine ps_s_ge p52_6 (by omega) (by omega) (fun c6 => ?_) (fun c6 => ?_)
      · refine ps_s_rv p52_69 t52 ?_
        exact K h1 o1 cap1 c s F X1 P1 hc hs
      · omega
    | cons S R ih =>
      intro M h1 o1 cap1 c s u5 hM F X1 P1 hc hs
      have X1' := X1
      obtain ⟨Z0, ⟨pf, bf, x1, _⟩, Z3, Z4, Z5, Z6, ⟨T, ⟨capD, A⟩, SS, RR, RD⟩, ⟨T2, _⟩, Z9⟩ := X1'
      obtain ⟨_, _, fs, a1⟩ := al_own A
      obtain ⟨_, _, fs2, q1⟩ := al_own P1
      have hlen : M.length + (R.length + 1) = SM.length := by rw [← hM, List.length_append, List.length_cons]
      have hm : S ∈ Ss := by rw [hS, ← hM]; simp
      have hg : (Ss.map (·.1))[SL.length + M.length]? = some S.1 := by
        rw [List.getElem?_map, hS, ← hM, show SL ++ ((M ++ S :: R) ++ SR) = (SL ++ M) ++ S :: (R ++ SR) by simp only [List.append_assoc, List.cons_append], ← List.length_append, get_pre]
        rfl
      obtain ⟨s1, _, s4, _⟩ := SS S hm
      have s4 : cLD G o1 h1 S.2.2.1 (dS S) := s4
      have nx := fun h1 o1 cap1 c s u5 => ih (M ++ [S]) h1 o1 cap1 c s u5 (by rw [List.append_assoc]; exact hM)
      rw [List.length_append, ← Nat.add_assoc, List.filter_append, List.map_append, ← List.append_assoc] at nx
      have hkl := kc_gc al ((dS S).map (·.2))
      rw [List.length_map] at hkl
      have hdl : (dS S).length ≤ 2000 := s4.2.2
      have hfl : ((M.filter (kpF al)).map (·.1)).length ≤ M.length := by rw [List.length_map]; exact List.length_filter_le _ _
      refine ps_s_il p52_3 rfl ?_
      refine ps_s_il p52_5 rfl ?_
      refine ps_s_ge p52_6 (by omega) (by omega) (fun c6 => ?_) (fun c6 => ?_)
      · omega
      · refine ps_s_il p52_9 rfl ?_
        first | refine ps_s_al p52_11 rfl ?_ | refine ps_s_aln p52_11 rfl ?_
        refine ps_s_gf p52_12 x1 rfl ?_
        refine ps_s_gf p52_15 T.1 rfl ?_
        refine ps_s_vV [] _ p52_18 rfl a1 rfl rfl rfl (al_sizem A (ps_bki ?_) d (by omega))
        refine ps_s_ge p52_21 (by omega) (by omega) (fun c21 => ?_) (fun c21 => ?_)
        · omega
        · first | refine ps_s_al p52_24 rfl ?_ | refine ps_s_aln p52_24 rfl ?_
          refine ps_s_gf p52_25 x1 rfl ?_
          refine ps_s_gf p52_28 T.1 rfl ?_
          refine ps_s_il p52_31 rfl ?_
          refine ps_s_vV [_] _ p52_33 rfl a1 rfl rfl rfl (al_get A hg (ps_bki ?_) d (by omega))
          refine ps_s_ck p52_36 s1 ?_
          first | refine ps_s_as5 p52_39 ?_ | refine ps_s_asn5 p52_39 ?_
          first | refine ps_s_al p52_41 rfl ?_ | refine ps_s_aln p52_41 rfl ?_
          refine ps_s_il p52_43 rfl ?_
          refine ps_s_vV [_] _ p52_44 rfl s1 rfl rfl rfl (sg_kept s1 s4 hal (ps_bki ?_) d (by omega))
          refine ps_s_le0 p52_47 (by omega) (fun c47 => ?_) (fun c47 => ?_)
          · rw [show [S].filter (kpF al) = [] by rw [List.filter_cons, if_neg (by unfold kpF; rw [decide_eq_false (Nat.not_lt.mpr c47)]; decide)]; rfl, List.map_nil, List.append_nil] at nx
            refine ps_s_in4 p52_63 ?_
            refine ps_s_go p52_66 ?_
            exact nx _ _ _ _ _ _ F X1 P1 (by show _ ≤ M.length + 1; omega) (by show _ ≤ 40 * (M.length + 1); omega)
          · rw [show [S].filter (kpF al) = [S] by rw [List.filter_cons, if_pos (by unfold kpF; exact decide_eq_true (Nat.lt_of_not_le c47))]; rfl] at nx
            first | refine ps_s_al p52_50 rfl ?_ | refine ps_s_aln p52_50 rfl ?_
            refine ps_s_gf p52_51 x1 rfl ?_
            refine ps_s_gf p52_54 T2.1 rfl ?_
            first | refine ps_s_al p52_57 rfl ?_ | refine ps_s_aln p52_57 rfl ?_
            refine ps_s_vV [_] _ p52_59 rfl q1 rfl rfl rfl (al_add Z0.1 P1 (by rw [List.length_append]; omega) s1 rfl (fun h2 o2 cap2 c2 s2 r1 r2 r3 r4 => ps_bki ?_) d (by omega))
            refine ps_s_pop p52_62 rfl ?_
            have F2 := cf_trans w0 F r1 (fun u _ hu => .inl hu)
            refine ps_s_in4 p52_63 ?_
            refine ps_s_go p52_66 ?_
            refine nx _ _ _ _ _ _ F2 (cx_plan X1 r1 r2) r2 (by show _ ≤ M.length + 1; omega) ?_
            show _ ≤ 40 * (M.length + 1)
            rcases r4 with ⟨_, r4⟩ | ⟨r4, _, r5⟩
            · omega
            · rw [List.length_append] at r4
              have : gr cap1 ≤ 40 := by unfold gr; split <;> omega
              omega
  refine ps_M_in (e52 _ _ _ _) l52 (fun d hd => ?_)
  refine ps_s_il p52_0 rfl ?_
  refine ps_s_is4 p52_1 ?_
  exact loop d hd SM [] h o cap 0 0 _ rfl (cf_refl w0) X (by rw [List.filter_nil, List.map_nil, List.append_nil]; exact PL) (Nat.le_refl _) (Nat.le_refl _)
/-- a copy of an int array -/
theorem copy_i {b cap n u : Nat} {f : Nat → Int32} (w : cW h o) (a2 : h.1 b = some (pm_a 0 cap f)) (hb : G.1 ≤ b) (hG : G.1 ≤ h.2.1) (hu : u ≤ h.2.1) (hgu : G.1 ≤ u) (hc : cap ≤ 4000) (hn : n ≤ 4000) (K : ∀ h' g, cF G (· = u) h o h' (va_up o h.2.1 u) 1 n → h'.1 h.2.1 = some (pm_a 0 n g) → (∀ i, i < cap → i < n → g i = f i) → (∀ z, z ≠ h.2.1 → h'.1 z = h.1 z) → Q (.inl (some (.ref h.2.1))) h') : ps_M G 1 62 [.ref b, iN n] h Q := by
  have hlb := cw_lt w a2
  have o1 : va_up o h.2.1 u h.2.1 = u := if_pos rfl
  refine ps_M_in (e62 _ _) l62 (fun d hd => ?_)
  refine ps_s_il p62_0 rfl ?_
  first | refine ps_s_al p62_1 rfl ?_ | refine ps_s_aln p62_1 rfl ?_
  first | refine ps_s_alr p62_2 a2 ?_ | refine ps_s_al0 p62_2 a2 ?_
  refine ps_s_ne p62_3 (by omega) (by omega) (fun c3 => ?_) (fun c3 => ?_)
  · have f1 : cF G (· = u) h o (pm_add h (pm_a 0 n (fun _ => 0)) n) (va_up o h.2.1 u) 1 n := cf_add w hu
    have a2' : (pm_add h (pm_a 0 n (fun _ => 0)) n).1 b = some (pm_a 0 cap f) := (pa_ne (by omega)).trans a2
    have f2 := cf_put2 (a := h.2.1) (x := pm_a 0 n (va_cpy f (fun _ => 0) 0 0 (min cap n))) w f1 pa_eq (by rw [o1]; exact hgu) (.inl o1) rfl
    refine ps_s_il p62_14 rfl ?_
    refine ps_s_nai p62_15 (by omega) ?_
    first | refine ps_s_as2 p62_17 ?_ | refine ps_s_asn2 p62_17 ?_
    first | refine ps_s_al p62_18 rfl ?_ | refine ps_s_aln p62_18 rfl ?_
    refine ps_s_k p62_19 ?_
    first | refine ps_s_al p62_20 rfl ?_ | refine ps_s_aln p62_20 rfl ?_
    refine ps_s_k p62_21 ?_
    first | refine ps_s_al p62_22 rfl ?_ | refine ps_s_aln p62_22 rfl ?_
    first | refine ps_s_alr p62_23 a2' ?_ | refine ps_s_al0 p62_23 a2' ?_
    refine ps_s_il p62_24 rfl ?_
    refine ps_s_nt p62_25 (nt_min (by omega) (by omega) rfl) ?_
    refine ps_s_nt p62_28 (nt_cpi (by omega) (by omega) (by omega) rfl hG hb a2' pa_eq (by omega) (by omega)) ?_
    first | refine ps_s_al p62_31 rfl ?_ | refine ps_s_aln p62_31 rfl ?_
    first | refine ps_s_ra p62_32 t62 ?_ | refine ps_s_rn p62_32 t62 ?_
    refine K _ _ f2 pp_eq (fun i h1 h2 => ?_) (fun z hz => (pp_ne hz).trans (pa_ne hz))
    unfold va_cpy
    rw [if_pos ⟨by omega, by omega⟩]
    congr 1
    omega
  · have hcn : cap = n := by omega
    subst hcn
    have f1 : cF G (· = u) h o (pm_add h (pm_a 0 cap f) cap) (va_up o h.2.1 u) 1 cap := cf_add w hu
    first | refine ps_s_al p62_6 rfl ?_ | refine ps_s_aln p62_6 rfl ?_
    refine ps_s_nt p62_7 (nt_cln rfl hb a2) ?_
    refine ps_s_cki p62_10 (n := cap) (f := f) pa_eq hG ?_
    first | refine ps_s_ra p62_13 t62 ?_ | refine ps_s_rn p62_13 t62 ?_
    exact K _ f f1 pa_eq (fun i _ _ => rfl) (fun z hz => pa_ne hz)
theorem rw_copy {q r cap : Nat} {L : List Nat} {u0 u1 : Value} (w : cW h o) (hG : G.1 ≤ h.2.1) (e : h.1 q = some (pm_o 3 [u0, u1])) (hg : G.1 ≤ q) (ho : o q = q) (hqr : q ≠ r) (A : cRW G o h r cap L) (hl : L.length ≤ 4000) (K : ∀ h', cF G (· = q) h o h' (va_up o h.2.1 q) 1 L.length → (L.length ≤ cap → cRW G (va_up o h.2.1 q) h' q L.length L) → (∃ fs, h'.1 q = some (pm_o 3 fs)) → Q (.inl none) h') : ps_M G 2 61 [.ref q, .ref r] h Q := by
  obtain ⟨b, f, a1, a2, a3, ⟨a5, a6⟩, a7, a8⟩ := A
  have hlq := cw_lt w e
  have hlr := cw_lt w a1
  have o1 : va_up o h.2.1 q q = q := (if_neg (by omega)).trans ho
  refine ps_M_in (e61 _ _) l61 (fun d hd => ?_)
  first | refine ps_s_al p61_0 rfl ?_ | refine ps_s_aln p61_0 rfl ?_
  refine ps_s_nt p61_1 rfl ?_
  first | refine ps_s_al p61_4 rfl ?_ | refine ps_s_aln p61_4 rfl ?_
  first | refine ps_s_al p61_5 rfl ?_ | refine ps_s_aln p61_5 rfl ?_
  refine ps_s_gf p61_6 a1 rfl ?_
  first | refine ps_s_al p61_9 rfl ?_ | refine ps_s_aln p61_9 rfl ?_
  refine ps_s_gf p61_10 a1 rfl ?_
  refine ps_s_vS [_, _] _ p61_13 rfl rfl rfl rfl (copy_i w a2 a5 hG (u := q) (by omega) hg a7 hl (fun h' g q1 q2 q3 q4 => ps_bki ?_) d (by omega))
  have e2 := (q4 q (by omega)).trans e
  have e3 := (q4 r (by omega)).trans a1
  have f2 := cf_put2 (a := q) (x := pm_o 3 [.ref h.2.1, u1]) w q1 e2 (by rw [o1]; exact hg) (.inl o1) rfl
  have f3 := cf_put2 (a := q) (x := pm_o 3 [.ref h.2.1, iN L.length]) w f2 pp_eq (by rw [o1]; exact hg) (.inl o1) rfl
  refine ps_s_pf p61_16 e2 (by omega) rfl (ps_blt rfl) ?_
  first | refine ps_s_al p61_19 rfl ?_ | refine ps_s_aln p61_19 rfl ?_
  first | refine ps_s_al p61_20 rfl ?_ | refine ps_s_aln p61_20 rfl ?_
  refine ps_s_gf p61_21 ((pp_ne (fun e => hqr e.symm)).trans e3) rfl ?_
  refine ps_s_pf p61_24 pp_eq (by omega) rfl (ps_blt rfl) ?_
  refine ps_s_rv p61_27 t61 ?_
  refine K _ f3 (fun hc => ⟨h.2.1, g, pp_eq, ?_, ⟨hg, o1⟩, ⟨hG, if_pos rfl⟩, hl, fun i hi hj => ?_⟩) ⟨_, pp_eq⟩
  · exact (pp_ne (by omega)).trans ((pp_ne (by omega)).trans q2)
  · rw [q3 i (by omega) hi]
    exact a8 i (by omega) hj
theorem sg_new {sa num a r : Nat} {u0 u1 u2 : Value} (w : cW h o) (e : h.1 sa = some (pm_o 6 [u0, u1, u2])) (hg : G.1 ≤ sa) (ho : o sa = sa) (K : ∀ h', cF G (· = sa) h o h' o 0 0 → h'.1 sa = some (pm_o 6 [iN num, .ref a, .ref r]) → Q (.inl none) h') : ps_M G 1 63 [.ref sa, iN num, .ref a, .ref r] h Q := by
  have f1 : cF G (· = sa) h o (pm_put h sa (pm_o 6 [iN num, u1, u2])) o 0 0 := cf_put w e (by omega) ho rfl
  have f2 := cf_put2 (a := sa) (x := pm_o 6 [iN num, .ref a, u2]) w f1 pp_eq (by omega) (.inl ho) rfl
  have f3 := cf_put2 (a := sa) (x := pm_o 6 [iN num, .ref a, .ref r]) w f2 pp_eq (by omega) (.inl ho) rfl
  refine ps_M_in (e63 _ _ _ _) l63 (fun d hd => ?_)
  first | refine ps_s_al p63_0 rfl ?_ | refine ps_s_aln p63_0 rfl ?_
  refine ps_s_nt p63_1 rfl ?_
  first | refine ps_s_al p63_4 rfl ?_ | refine ps_s_aln p63_4 rfl ?_
  refine ps_s_il p63_5 rfl ?_
  refine ps_s_pf p63_6 e (by omega) rfl (ps_blt rfl) ?_
  first | refine ps_s_al p63_9 rfl ?_ | refine ps_s_aln p63_9 rfl ?_
  first | refine ps_s_al p63_10 rfl ?_ | refine ps_s_aln p63_10 rfl ?_
  refine ps_s_pf p63_11 pp_eq (by omega) rfl (ps_blt rfl) ?_
  first | refine ps_s_al p63_14 rfl ?_ | refine ps_s_aln p63_14 rfl ?_
  first | refine ps_s_al p63_15 rfl ?_ | refine ps_s_aln p63_15 rfl ?_
  refine ps_s_pf p63_16 pp_eq (by omega) rfl (ps_blt rfl) ?_
  refine ps_s_rv p63_19 t63 ?_
  exact K _ f3 pp_eq
end XPL
