/-! The shelf: a new segment in the plan, the room, the write, the power cut. -/
theorem mpS_bG (u : pD → pD) (hu : ∀ x, (u x).1 = x.1) (S : cS) : bG (gS (mpS u S)) = bG (gS S) := by
  unfold bG gS mpS
  congr 1
  show (((dS S).map (fun p => (p.1, u p.2))).map (·.2)).map (·.1) = ((dS S).map (·.2)).map (·.1)
  rw [List.map_map, List.map_map, List.map_map]
  apply List.map_congr_left
  intro y _
  exact hu y.2
section XWR
variable {G : pm_G} {o : Nat → Nat} {h : pm_S} {x dr pi pg ba kD lD rD kP lP rP room nn : Nat} {pw : Option Nat} {ts : List Nat} {ps : List (Nat × List Nat)} {bx : List (Nat × pD)} {Ss : List cS} {Lb : List Nat} {Q : pm_Q}
theorem cx_docs {h1 : pm_S} {o1 : Nat → Nat} {c s : Nat} {u : pD → pD} (X : (cX G o h x dr pi pg ba kD lD rD kP lP rP room nn pw ts ps ([]) Ss Lb)) (F : cF G (cPD Ss) h o h1 o1 c s) (hd : ∀ S ∈ Ss, ∀ p ∈ dS S, cDC G o1 h1 p.1 (u p.2)) (hu : ∀ x, (u x).1 = x.1) : (cX G (o1) (h1) x dr pi pg ba kD lD rD kP lP rP room nn pw ts ps ([]) (Ss.map (mpS u)) Lb) := by
  obtain ⟨⟨k1, k2, k3, k4, k5⟩, ⟨k6, k7, k8⟩, ⟨k9, k10, k11⟩, KS, KB⟩ := cx_K X
  obtain ⟨X0, X2, X3, X4, ⟨L5, X5⟩, X6, ⟨T, ⟨cap, A⟩, SS, RR, R⟩, X8, X9⟩ := X
  have pk := pd_k SS
  have no : ∀ v n, cK h v n → n ≠ 6 → ¬ cPD Ss v := by
    intro v n hv hn q
    obtain ⟨cv, e1, e2⟩ := hv
    have := pk v cv q e1
    omega
  refine ⟨g0_fr X0 F, sh_fr X2 F (no _ _ k1 (by decide)), dr_fr X3 F (no _ _ k2 (by decide)), pi_fr X4 F (no _ _ k3 (by decide)) (fun v y hv hy => ?_), ⟨L5, rw_fr X5 F (no _ _ k4 (by decide))⟩, ld_fr X6 F (no _ _ k5 (by decide)) (fun p hp => absurd hp List.not_mem_nil), ⟨ct_frk T F (fun v y hv hy => by rw [pk v y hv hy]; decide), ⟨cap, ?_⟩, ?_, ?_, rw_fr R F (no _ _ k8 (by decide))⟩, pl_fr X8 F (no _ _ k9 (by decide)) (no _ _ k10 (by decide)) (no _ _ k11 (by decide)), ?_⟩
  · have := pk v y hv hy
    rw [this]
    exact ⟨by decide, by decide⟩
  · rw [List.map_map]
    exact al_fr A F (no _ _ k7 (by decide))
  · intro S' hS'
    obtain ⟨S0, h0, rfl⟩ := List.mem_map.mp hS'
    exact sg_map (SS S0 h0) F pk (hd S0 h0)
  · intro S' hS'
    obtain ⟨S0, h0, rfl⟩ := List.mem_map.mp hS'
    show cRW G o1 h1 S0.2.2.2.1 (bG (gS (mpS u S0))).length (bG (gS (mpS u S0)))
    rw [mpS_bG u hu]
    exact rw_fr (RR S0 h0) F (no _ _ (KS S0 h0).2.2.1 (by decide))
  · obtain ⟨n1, n2, n3, n4⟩ := X9
    refine ⟨n1, n2, fun S' hS' => ?_, fun S' hS' => ?_⟩
    · obtain ⟨S0, h0, rfl⟩ := List.mem_map.mp hS'
      exact n3 S0 h0
    · obtain ⟨S0, h0, rfl⟩ := List.mem_map.mp hS'
      exact n4 S0 h0
theorem x_newseg {a cap : Nat} {zs : List Nat} {ys : List (Nat × pD)} (X : (cX G o h x dr pi pg ba kD lD rD kP lP rP room nn pw ts ps bx Ss Lb)) (PL : cAL G o h lP cap zs) (A : cLD G o h a ys) (haP : a ≠ lP) (hs : srt 0 (ys.map (·.2.1))) (hl : (sB (ys.map (·.2.1))).length ≤ 1400) (hz : zs.length ≤ 20) (hnn : nn < 2000)
    (K1 : ys = [] → Q (.inl (some (iN 0))) h)
    (K2 : ys ≠ [] → ∀ h' o' cap' sa r c s, cF G (fun u => u = pg ∨ u = lP) h o h' o' c s → (cX G (o') (h') x dr pi pg ba kD lD rD kP lP rP room nn pw ts ps bx Ss Lb) → cAL G o' h' lP cap' (zs ++ [sa]) → cSG G o' h' (sa, nn + 1, a, r, ys) → ((sB (ys.map (·.2.1))).length ≤ 800 → cRS G o' h' (sa, nn + 1, a, r, ys)) → h.2.1 ≤ sa → h.2.1 ≤ r → c ≤ 4 → s ≤ 1500 → Q (.inl (some (iN (sB (ys.map (·.2.1))).length))) h') : ps_M G 7 53 [.ref x, .ref a] h Q := by
  obtain ⟨⟨k1, k2, k3, k4, k5⟩, ⟨k6, k7, k8⟩, ⟨k9, k10, k11⟩, KS, KB⟩ := cx_K X
  have X' := X
  obtain ⟨X0, ⟨pf, bf, x1, x2⟩, X3, X4, ⟨L5, X5⟩, X6, X7, ⟨T2, _⟩, X9⟩ := X'
  obtain ⟨_, _, fs5, p5⟩ := rw_own X5
  have A' := A
  obtain ⟨⟨capA, A1⟩, A2, A3⟩ := A'
  obtain ⟨_, _, fsA, a1⟩ := al_own A1
  refine ps_M_in (e53 _ _) l53 (fun d hd => ?_)
  refine ps_s_al p53_0 rfl ?_
  refine ps_s_vV [] _ p53_1 rfl a1 rfl rfl rfl (al_isEmpty A1 (fun q => ps_bki ?_) (fun q => ps_bki ?_) d (by omega))
  · refine ps_s_eq0 p53_4 (by omega) (fun c4 => ?_) (fun c4 => ?_)
    · exact absurd c4 (by decide)
    · refine ps_s_k p53_7 ?_
      refine ps_s_ri p53_8 t53 ?_
      exact K1 (List.map_eq_nil_iff.mp q)
  · have hne : ys ≠ [] := fun e => q (by rw [e]; rfl)
    refine ps_s_eq0 p53_4 (by omega) (fun c4 => ?_) (fun c4 => ?_)
    · first | refine ps_s_al p53_9 rfl ?_ | refine ps_s_aln p53_9 rfl ?_
      refine ps_s_gf p53_10 x1 rfl ?_
      first | refine ps_s_al p53_13 rfl ?_ | refine ps_s_aln p53_13 rfl ?_
      refine ps_s_vV [_] _ p53_14 rfl p5 rfl rfl rfl (pk_docs X0.1 X5 A hs (by omega) (fun h2 q1 q2 => ps_bkv ?_) d (by omega))
      have Y1 := cx_page X q1 ⟨_, q2⟩
      have B1 := ld_frr A X5 q1
      have PL1 := al_fr PL q1 (kne k10 k4 (by decide))
      have Y1' := Y1
      obtain ⟨Z0, ⟨pf2, bf2, z1, _⟩, Z3, Z4, Z5, Z6, Z7, ⟨T3, _⟩, Z9⟩ := Y1'
      have f3 : cF G (fun _ => False) h2 o (pm_add h2 (pm_o 6 (pm_zero 6)) 3) (va_up o h2.2.1 h2.2.1) 1 3 := cf_add Z0.1 (Nat.le_refl _)
      have f4 : cF G (fun _ => False) (pm_add h2 (pm_o 6 (pm_zero 6)) 3) (va_up o h2.2.1 h2.2.1) (pm_add (pm_add h2 (pm_o 6 (pm_zero 6)) 3) (pm_o 3 (pm_zero 3)) 2) (va_up (va_up o h2.2.1 h2.2.1) (h2.2.1 + 1) (h2.2.1 + 1)) 1 2 := cf_add f3.1 (Nat.le_refl _)
      have f24 := cf_trans Z0.1 f3 f4 (fun _ _ q => q.elim)
      have lp2 := cw_lt Z0.1 (rw_own q2).2.2.choose_spec
      have ll2 := cw_lt Z0.1 (al_own PL1).2.2.choose_spec
      have hsz : h.2.1 ≤ h2.2.1 := q1.2.1
      have hGr : G.1 ≤ h2.2.1 := Z0.2.1
      have R4 := rw_fr q2 f24 (fun q => q)
      have os : va_up o h2.2.1 h2.2.1 h2.2.1 = h2.2.1 := if_pos rfl
      have es4 := cf_get f4 (z := h2.2.1) pa_eq (fun q => q)
      have os4 := (cf_own f4 (z := h2.2.1) pa_eq).trans os
      first | refine ps_s_al p53_17 rfl ?_ | refine ps_s_aln p53_17 rfl ?_
      refine ps_s_gf p53_18 z1 rfl ?_
      refine ps_s_gf p53_21 T3.1 rfl ?_
      refine ps_s_nw p53_24 ?_
      refine ps_s_dup p53_27 rfl ?_
      first | refine ps_s_al p53_28 rfl ?_ | refine ps_s_aln p53_28 rfl ?_
      refine ps_s_gf p53_29 (cf_get f3 z1 (fun q => q)) rfl ?_
      refine ps_s_k p53_32 ?_
      first | refine ps_s_add p53_33 ?_ | refine ps_s_2 p53_33 ?_
      first | refine ps_s_al p53_34 rfl ?_ | refine ps_s_aln p53_34 rfl ?_
      refine ps_s_nw p53_35 ?_
      refine ps_s_dup p53_38 rfl ?_
      first | refine ps_s_al p53_39 rfl ?_ | refine ps_s_aln p53_39 rfl ?_
      refine ps_s_gf p53_40 (cf_get f24 z1 (fun q => q)) rfl ?_
      refine ps_s_vP [_] _ p53_43 rfl rfl rfl rfl (rw_copy (q := h2.2.1 + 1) f4.1 (by show G.1 ≤ h2.2.1 + 1 + 1; omega) pa_eq (by omega) (if_pos rfl) (by omega) R4 (by omega) (fun h5 u1 u2 u3 => ps_bkv ?_) d (by omega))
      have es5 := cf_get u1 es4 (by rw [os4]; omega)
      have os5 := (cf_own u1 es4).trans os4
      refine ps_s_vP [_, _, _] _ p53_46 rfl rfl rfl rfl (sg_new u1.1 es5 hGr os5 (fun h6 v1 v2 => ps_bkv ?_) d (by omega))
      have g5 := cf_trans Z0.1 f24 u1 (fun u _ hu => .inr (by rw [hu]; omega))
      have g6 := cf_trans Z0.1 g5 v1 (fun u _ hu => .inr (by rw [hu]; exact Nat.le_refl _))
      have Y6 := cx_nil Y1 g6 (fun _ q => q)
      have PL6 := al_fr PL1 g6 (fun q => q)
      have B6 := ld_fr B1 g6 (fun q => q) (fun p _ q => q)
      obtain ⟨_, _, fs6, l6⟩ := al_own PL6
      have Y6' := Y6
      obtain ⟨W0, ⟨pf6, bf6, w1, _⟩, _⟩ := Y6'
      refine ps_s_vV [_] _ p53_49 rfl l6 rfl rfl rfl (al_add W0.1 PL6 (by omega) v2 rfl (fun h7 o7 cap7 c7 s7 r1 r2 r3 r4 => ps_bki ?_) d (by omega))
      have Y7 := cx_plan Y6 r1 r2
      have Y7' := Y7
      obtain ⟨V0, ⟨pf7, bf7, y1, _⟩, _⟩ := Y7'
      have kl6 : cK h6 lP 3 := al_K PL6
      have R7 := rw_fr (rw_fr q2 g6 (fun q => q)) r1 (kne (rw_K (rw_fr q2 g6 (fun q => q))) kl6 (by decide))
      have R7' := R7
      obtain ⟨b7, g7, e7, _⟩ := R7'
      refine ps_s_pop p53_52 rfl ?_
      first | refine ps_s_al p53_53 rfl ?_ | refine ps_s_aln p53_53 rfl ?_
      refine ps_s_gf p53_54 y1 rfl ?_
      refine ps_s_gf p53_57 e7 rfl ?_
      refine ps_s_ri p53_60 t53 ?_
      have os6 : va_up (va_up (va_up o h2.2.1 h2.2.1) (h2.2.1 + 1) (h2.2.1 + 1)) (h2.2.1 + 1 + 1) (h2.2.1 + 1) h2.2.1 = h2.2.1 := os5
      have s7' := cf_get r1 v2 (by rw [os5]; omega)
      have o7s := (cf_own r1 v2).trans os5
      have F1 := cf_up (P2 := fun u => u = pg ∨ u = lP) q1 (fun u _ hu => .inl hu) (Nat.le_refl _) (Nat.le_refl _)
      have F2 := cf_trans X0.1 F1 g6 (fun _ _ q => q.elim)
      have F3 := cf_trans X0.1 F2 r1 (fun u _ hu => .inl (.inr hu))
      refine K2 hne h7 o7 cap7 h2.2.1 (h2.2.1 + 1) _ _ F3 Y7 r2 ⟨s7', ⟨hGr, o7s⟩, ld_fr B6 r1 haP (fun p hp => kne (dc_K (B6.2.1 p hp)) kl6 (by decide)), by show nn + 1 < _; omega⟩ (fun hc => ?_) hsz (by omega) (by omega) ?_
      · have t5 := rw_fr (u2 hc) v1 (by omega)
        have t7 := rw_fr t5 r1 (kne (rw_K t5) kl6 (by decide))
        show cRW G o7 h7 (h2.2.1 + 1) (bG (gS (h2.2.1, nn + 1, a, h2.2.1 + 1, ys))).length (bG (gS (h2.2.1, nn + 1, a, h2.2.1 + 1, ys)))
        have e : bG (gS (h2.2.1, nn + 1, a, h2.2.1 + 1, ys)) = sB (ys.map (·.2.1)) := by
          unfold bG gS
          show sB ((ys.map (·.2)).map (·.1)) = _
          rw [List.map_map]
          rfl
        rw [e]
        exact t7
      · rcases r4 with ⟨_, r4⟩ | ⟨r4, _, r5⟩
        · omega
        · have : gr cap ≤ 40 := by unfold gr; split <;> omega
          omega
    · exact absurd rfl c4
theorem x_room {sb : Nat} {Lp : List Nat} (X : (cX G o h x dr pi pg ba kD lD rD kP lP rP room nn pw ts ps bx Ss Lb)) (RP : cRW G o h rP 800 Lp) (hsb : sb ≤ 2000) (hlp : Lp.length ≤ 2000) (hn : Ss.length ≤ 1000) (hlb : Lb.length ≤ 2000) (hb : ∀ S ∈ Ss, (bG (gS S)).length ≤ 2000) (hrm : room ≤ 800) (hu : Lb.length + (Ss.map (fun S => (bG (gS S)).length)).sum ≤ room) (K1 : sb + Lp.length ≤ room - (Lb.length + (Ss.map (fun S => (bG (gS S)).length)).sum) → Q (.inl (some (iN 1))) h) (K2 : ¬ sb + Lp.length ≤ room - (Lb.length + (Ss.map (fun S => (bG (gS S)).length)).sum) → Q (.inl (some (iN 0))) h) : ps_M G 6 66 [.ref x, iN sb] h Q := by
  have X' := X
  obtain ⟨X0, ⟨pf, bf, x1, x2⟩, X3, X4, X5, X6, X7, ⟨T2, _⟩, X9⟩ := X'
  obtain ⟨rb, rg, r1, _⟩ := RP
  refine ps_M_in (e66 _ _) l66 (fun d hd => ?_)
  refine ps_s_il p66_0 rfl ?_
  first | refine ps_s_al p66_1 rfl ?_ | refine ps_s_aln p66_1 rfl ?_
  refine ps_s_gf p66_2 x1 rfl ?_
  refine ps_s_gf p66_5 T2.1 rfl ?_
  refine ps_s_gf p66_8 r1 rfl ?_
  first | refine ps_s_add p66_11 ?_ | refine ps_s_2 p66_11 ?_
  first | refine ps_s_al p66_12 rfl ?_ | refine ps_s_aln p66_12 rfl ?_
  refine ps_s_vV [] _ p66_13 rfl x1 rfl rfl rfl (x_free X hn hlb hb hu (ps_bki ?_) d (by omega))
  refine ps_s_gt p66_16 (by omega) (by omega) (fun c16 => ?_) (fun c16 => ?_)
  · refine ps_s_k p66_23 ?_
    refine ps_s_rz p66_24 t66 (by first | exact .inl rfl | exact .inr rfl | exact bN_01 _) ?_
    exact K2 (by omega)
  · refine ps_s_k p66_19 ?_
    refine ps_s_go p66_20 ?_
    refine ps_s_rz p66_24 t66 (by first | exact .inl rfl | exact .inr rfl | exact bN_01 _) ?_
    exact K1 (by omega)
theorem x_lose (X : (cX G o h x dr pi pg ba kD lD rD kP lP rP room nn pw ts ps bx Ss Lb)) (hn : Ss.length ≤ 1000) (hnd : (Ss.flatMap dS).Pairwise (fun p q => p.1 ≠ q.1)) (K : ∀ h', cF G (cU h) h o h' o 0 0 → (cX G o (h') x dr pi pg ba kD lD rD kP lP rP room nn (none) ([]) ps ([]) (Ss.map (mpS spD)) Lb) → Q (.inl none) h') : ps_M G 5 68 [.ref x] h Q := by
  have w0 := X.1.1
  have X' := X
  obtain ⟨X0, ⟨pf, bf, x1, x2⟩, X3, X4, X5, X6, X7, X8, X9⟩ := X'
  have X3' := X3
  obtain ⟨de, df, d1, _⟩ := X3'
  refine ps_M_in (e68 _) l68 (fun d hd => ?_)
  first | refine ps_s_al p68_0 rfl ?_ | refine ps_s_aln p68_0 rfl ?_
  refine ps_s_gf p68_1 x1 rfl ?_
  refine ps_s_vV [] _ p68_4 rfl d1 rfl rfl rfl (dr_clear w0 X3 (fun h1 q1 q2 => ps_bkv ?_) d (by omega))
  have Y1 := cx_draft X q1 q2
  have Y1' := Y1
  obtain ⟨Z0, ⟨pf1, bf1, z1, _⟩, Z3, Z4, Z5, ⟨⟨capB, B⟩, B2, B3⟩, _⟩ := Y1'
  obtain ⟨_, _, fsB, b1⟩ := al_own B
  first | refine ps_s_al p68_7 rfl ?_ | refine ps_s_aln p68_7 rfl ?_
  refine ps_s_gf p68_8 z1 rfl ?_
  refine ps_s_vV [] _ p68_11 rfl b1 rfl rfl rfl (al_clear Z0.1 B (fun h2 r1 r2 => ps_bkv ?_) d (by omega))
  have Y2 := cx_buf (bx' := []) Y1 r1 ⟨⟨capB, r2⟩, fun p hp => absurd hp List.not_mem_nil, Nat.zero_le _⟩
  have Y2' := Y2
  obtain ⟨W0, ⟨pf2, bf2, w1, _⟩, W3, W4, W5, W6, ⟨T, ⟨capD, A⟩, SS, RR, R⟩, _⟩ := Y2'
  first | refine ps_s_al p68_14 rfl ?_ | refine ps_s_aln p68_14 rfl ?_
  refine ps_s_gf p68_15 w1 rfl ?_
  refine ps_s_vV [] _ p68_18 rfl T.1 rfl rfl rfl (ct_spare W0.1 T A SS hn hnd (fun h3 s1 s2 => ps_bkv ?_) d (by omega))
  have Y3 := cx_docs Y2 s1 s2 (fun _ => rfl)
  have Y3' := Y3
  obtain ⟨V0, ⟨pf3, bf3, v1, v2, v3, v4⟩, V3, V4, V5, V6, V7, V8, V9⟩ := Y3'
  obtain ⟨⟨k1, k2, k3, k4, k5⟩, ⟨k6, k7, k8⟩, ⟨k9, k10, k11⟩, KS, KB⟩ := cx_K Y3
  have f4 : cF G (· = x) h3 o (pm_put h3 x (pm_o 0 [iN room, .ref dr, .ref pi, .ref pg, .ref ba, .ref kD, .ref kP, iN nn, iN 0, .int bf3])) o 0 0 := cf_put V0.1 v1 (by omega) v4 rfl
  obtain ⟨Y0, _, Y3a, Y4, Y5, Y6, Y7, Y8⟩ := cx_one Y3 f4 k1 (by decide)
  have U1 := cu_one q1 (cx_K X).1.2.1 (by decide) (by decide)
  have U2 := cu_trans w0 U1 (cu_one r1 (al_K B) (by decide) (by decide))
  have U3 := cu_trans w0 U2 (cu_of s1 (fun u hu => by
    obtain ⟨S, hS, p, hp, rfl⟩ := hu
    exact cu_K (dc_K ((SS S hS).2.2.1.2.1 p hp)) (by decide) (by decide)))
  have U4 := cu_trans w0 U3 (cu_one f4 k1 (by decide) (by decide))
  first | refine ps_s_al p68_21 rfl ?_ | refine ps_s_aln p68_21 rfl ?_
  refine ps_s_k p68_22 ?_
  refine ps_s_pf p68_23 v1 (by omega) rfl (ps_blt rfl) ?_
  refine ps_s_rv p68_26 t68 ?_
  exact K _ U4 ⟨Y0, ⟨_, _, pp_eq, .inl ⟨rfl, rfl⟩, v3, v4⟩, Y3a (kne k2 k1 (by decide)), Y4 (kne k3 k1 (by decide)), Y5 (kne k4 k1 (by decide)), Y6 (kne k5 k1 (by decide)), Y7 (kne k6 k1 (by decide)) (kne k7 k1 (by decide)) (kne k8 k1 (by decide)) (fun S hS => ⟨kne (KS S hS).2.1 k1 (by decide), kne (KS S hS).2.2.1 k1 (by decide)⟩), Y8 (kne k9 k1 (by decide)) (kne k10 k1 (by decide)) (kne k11 k1 (by decide)), V9⟩
end XWR
