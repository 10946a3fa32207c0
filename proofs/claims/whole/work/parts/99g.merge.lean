/-! The shelf: merge. -/
def nwM (nn : Nat) (SM : List cS) : List pG := if mrS SM = [] then [] else [(nn + 1, (mrS SM).map (·.2))]
def plM (nn : Nat) (SL SM SR : List cS) : List pG := SL.map gS ++ (nwM nn SM ++ SR.map gS)
def sbM (SM : List cS) : Nat := if mrS SM = [] then 0 else (sB ((mrS SM).map (·.2.1))).length
def mgC (nn : Nat) (SL SM SR : List cS) : Nat := sbM SM + (lG 0 (plM nn SL SM SR)).length
theorem filter_all {α : Type} (f : α → Bool) : ∀ l : List α, (∀ x ∈ l, f x = true) → l.filter f = l := by
  intro l
  induction l with
  | nil => intro _; rfl
  | cons a l ih => intro h; rw [List.filter_cons, if_pos (h a (List.mem_cons_self ..)), ih (fun x hx => h x (List.mem_cons_of_mem _ hx))]
section XMG
variable {G : pm_G} {o : Nat → Nat} {h : pm_S} {x dr pi pg ba kD lD rD kP lP rP room nn : Nat} {pw : Option Nat} {ts : List Nat} {ps : List (Nat × List Nat)} {bx : List (Nat × pD)} {Ss : List cS} {Lb : List Nat} {Q : pm_Q}
theorem x_merge_bad {a b : Int32} (X : (cX G o h x dr pi pg ba kD lD rD kP lP rP room nn pw ts ps bx Ss Lb)) (hn : Ss.length ≤ 10) (hno : ¬ ∃ i j : Nat, a = Int32.ofNat i ∧ b = Int32.ofNat j ∧ i < j ∧ j < Ss.length) (K : Q (.inr 0) (pm_gap h 6)) : ps_M G 3 72 [.ref x, .int a, .int b] h Q := by
  obtain ⟨X0, ⟨pf, bf, x1, x2⟩, X3, X4, X5, X6, ⟨T, ⟨capD, AD⟩, _⟩, _⟩ := X
  obtain ⟨_, _, fsD, a1⟩ := al_own AD
  have bad : ∀ d', ps_X G d' 72 23 [some (.ref x), some (.int a), some (.int b), none] [] h Q := by
    intro d'
    refine ps_s_th p72_23 ?_
    exact K
  refine ps_M_in (e72 _ _ _) l72 (fun d hd => ?_)
  refine ps_s_il p72_0 rfl ?_
  refine ps_s_j0 p72_1 (fun _ => bad d) (fun c => ?_)
  rcases i_cases a with e | ⟨i, hi, rfl⟩
  · exact absurd e (of_decide_eq_false c)
  · refine ps_s_il p72_4 rfl ?_
    first | refine ps_s_al p72_5 rfl ?_ | refine ps_s_aln p72_5 rfl ?_
    refine ps_s_gf p72_6 x1 rfl ?_
    refine ps_s_gf p72_9 T.1 rfl ?_
    refine ps_s_vV [] _ p72_12 rfl a1 rfl rfl rfl (al_sizem AD (ps_bki ?_) d (by omega))
    refine ps_s_j p72_15 (fun _ => bad d) (fun c2 => ?_)
    have hlt : b < Int32.ofNat Ss.length := Int32.not_le.mp (of_decide_eq_false c2)
    refine ps_s_il p72_18 rfl ?_
    refine ps_s_il p72_19 rfl ?_
    refine ps_s_j p72_20 (fun c3 => ?_) (fun _ => bad d)
    have hab : Int32.ofNat i < b := of_decide_eq_true c3
    exfalso
    rcases i_cases b with e | ⟨j, hj, rfl⟩
    · exact i_ge0 hi (Int32.lt_trans hab e)
    · exact hno ⟨i, j, rfl, rfl, (ps_lt_iff hi hj).mp hab, (ps_lt_iff hj (by omega)).mp hlt⟩
theorem x_merge {i j : Nat} {SL SM SR : List cS} (X : (cX G o h x dr pi pg ba kD lD rD kP lP rP room nn pw ts ps bx Ss Lb)) (hS : Ss = SL ++ (SM ++ SR)) (hi : i = SL.length) (hj : j + 1 = SL.length + SM.length) (hij : i < j) (hn : Ss.length ≤ 10) (hnn : nn < 2000) (hrm : room ≤ 800) (hlb : Lb.length ≤ 2000) (hb : ∀ S ∈ Ss, (bG (gS S)).length ≤ 2000) (hu : Lb.length + (Ss.map (fun S => (bG (gS S)).length)).sum ≤ room) (hkp : ∀ S ∈ Ss, kpF 0 S = true) (hdl : (SM.flatMap dS).length ≤ 1000) (hs : srt 0 ((mrS SM).map (·.2.1))) (hsl : (sB ((mrS SM).map (·.2.1))).length ≤ 1400) (hll : (lG 0 (plM nn SL SM SR)).length ≤ 1400) (hnd : (Ss.flatMap dS).Pairwise (fun p q => p.1 ≠ q.1))
    (K1 : room - (Lb.length + (Ss.map (fun S => (bG (gS S)).length)).sum) < mgC nn SL SM SR → ∀ h' o' c s, cF G (cU h) h o h' o' c s → c ≤ 1100 → s ≤ 12000 → (cX G (o') (h') x dr pi pg ba kD lD rD kP lP rP room nn pw ts ps bx Ss Lb) → Q (.inr 1) (pm_gap h' 6))
    (K2 : ¬ room - (Lb.length + (Ss.map (fun S => (bG (gS S)).length)).sum) < mgC nn SL SM SR → cutB pw (mgC nn SL SM SR) = true → ∀ h' o' c s, cF G (cU h) h o h' o' c s → c ≤ 1100 → s ≤ 12000 → (cX G (o') (h') x dr pi pg ba kD lD rD kP lP rP room nn (none) ([]) ps ([]) (Ss.map (mpS spD)) Lb) → Q (.inl (some (.int (-1)))) h')
    (K3 : ¬ room - (Lb.length + (Ss.map (fun S => (bG (gS S)).length)).sum) < mgC nn SL SM SR → cutB pw (mgC nn SL SM SR) = false → ∀ h' o' c s (Zs : List cS), cF G (cU h) h o h' o' c s → c ≤ 1100 → s ≤ 12000 → Zs.map gS = plM nn SL SM SR → cX G o' h' x dr pi pg ba kP lP rP kD lD rD room (if sbM SM = 0 then nn else nn + 1) (pw.map (· - mgC nn SL SM SR)) ts ps bx Zs (lG 0 (plM nn SL SM SR)) → Q (.inl (some (iN (mgC nn SL SM SR)))) h') : ps_M G 9 72 [.ref x, iN i, iN j] h Q := by
  obtain ⟨⟨k1, k2, k3, k4, k5⟩, ⟨k6, k7, k8⟩, ⟨k9, k10, k11⟩, KS, KB⟩ := cx_K X
  have w0 := X.1.1
  have X' := X
  obtain ⟨X0, ⟨pf, bf, x1, x2⟩, X3, X4, X5, X6, ⟨T, ⟨capD, AD⟩, SS, RR, RD⟩, ⟨T2, ⟨capP, zs0, AP⟩, LP0, RP0⟩, ⟨⟨n1, n2, n3, n4, n5, n6⟩, ⟨m1, m2, m3, m4⟩, n8, n9⟩⟩ := X'
  obtain ⟨_, _, fsD, a1⟩ := al_own AD
  obtain ⟨_, _, fsP, p1⟩ := al_own AP
  have hSl : Ss.length = SL.length + (SM.length + SR.length) := by rw [hS, List.length_append, List.length_append]
  have mL : ∀ Z ∈ SL, Z ∈ Ss := fun Z hZ => by rw [hS]; exact List.mem_append_left _ hZ
  have mM : ∀ Z ∈ SM, Z ∈ Ss := fun Z hZ => by rw [hS]; exact List.mem_append_right _ (List.mem_append_left _ hZ)
  have mR : ∀ Z ∈ SR, Z ∈ Ss := fun Z hZ => by rw [hS]; exact List.mem_append_right _ (List.mem_append_right _ hZ)
  have fL : SL.filter (kpF 0) = SL := filter_all _ _ (fun Z hZ => hkp Z (mL Z hZ))
  have fR : SR.filter (kpF 0) = SR := filter_all _ _ (fun Z hZ => hkp Z (mR Z hZ))
  have hplen : (plM nn SL SM SR).length ≤ 11 := by
    unfold plM nwM
    rw [List.length_append, List.length_append, List.length_map, List.length_map]
    split
    · show _ + (0 + _) ≤ _; omega
    · show _ + (1 + _) ≤ _; omega
  have hsb14 : sbM SM ≤ 1400 := by unfold sbM; split <;> omega
  have fin : ∀ d', 8 ≤ d' → ∀ (h3 : pm_S) (o3 : Nat → Nat) (cap3 c s : Nat) (Zs : List cS), cF G (cU h) h o h3 o3 c s → c ≤ 1090 → s ≤ 11900 → (cX G (o3) (h3) x dr pi pg ba kD lD rD kP lP rP room nn pw ts ps bx Ss Lb) → cAL G o3 h3 lP cap3 (Zs.map (·.1)) → (∀ Z ∈ Zs, cSG G o3 h3 Z) → (sbM SM ≤ 800 → ∀ Z ∈ Zs, cRS G o3 h3 Z) → Zs.map gS = plM nn SL SM SR → (∀ Z ∈ Zs, Z.2.2.1 ≠ pi ∧ Z.2.2.1 ≠ lP ∧ Z.2.2.1 ≠ lD ∧ Z.2.2.1 ≠ ba) → (∀ Z ∈ Zs, Z.2.2.2.1 ≠ pg ∧ Z.2.2.2.1 ≠ rP ∧ Z.2.2.2.1 ≠ rD) → ps_X G d' 72 82 [some (.ref x), some (iN i), some (iN j), some (iN (sbM SM))] [] h3 Q := by
    intro d hd h3 o3 cap3 c s Zs F hc hsl3 Y3 PL SZ RZ hZ z1 z2
    have hZl : Zs.length = (plM nn SL SM SR).length := by rw [← hZ, List.length_map]
    have Y3' := Y3
    obtain ⟨Z0, ⟨pf3, bf3, y1, _⟩, _, _, _, _, _, ⟨T3, _, L3, R3⟩, _⟩ := Y3'
    have hll2 : (lG 0 (Zs.map gS)).length < 900000 := by rw [hZ]; omega
    first | refine ps_s_al p72_82 rfl ?_ | refine ps_s_aln p72_82 rfl ?_
    refine ps_s_gf p72_83 y1 rfl ?_
    refine ps_s_k p72_86 ?_
    refine ps_s_vV [_] _ p72_87 rfl T3.1 rfl rfl rfl (ct_write Z0.1 T3 PL SZ R3 (by omega) (by omega) hll2 (fun h4 q1 q2 => ps_bkv ?_) d (by omega))
    rw [hZ] at q2
    have Y4 := cx_prow Y3 q1 q2
    obtain ⟨⟨j1, j2, j3, j4, j5⟩, ⟨j6, j7, j8⟩, ⟨j9, j10, j11⟩, _, _⟩ := cx_K Y3
    have rk := row_k R3
    have PL4 := al_fr PL q1 (kne j10 j11 (by decide))
    have SZ4 : ∀ Z ∈ Zs, cSG G o3 h4 Z := fun Z hZ => sg_frk (SZ Z hZ) q1 (fun u y hu hy => by rw [rk u y hu hy]; decide)
    have RZ4 : sbM SM ≤ 800 → ∀ Z ∈ Zs, cRS G o3 h4 Z := fun hq Z hZ => rw_fr (RZ hq Z hZ) q1 (z2 Z hZ).2.1
    have U4 := cu_trans w0 F (cu_one q1 j11 (by decide) (by decide))
    have Y4' := Y4
    obtain ⟨V0, ⟨pf4, bf4, v1, _⟩, _⟩ := Y4'
    refine ps_s_al p72_90 rfl ?_
    refine ps_s_il p72_91 rfl ?_
    refine ps_s_vV [_] _ p72_92 rfl v1 rfl rfl rfl (x_room Y4 q2 (by omega) (by omega) (by omega) hlb hb hrm hu (fun q => ps_bki ?_) (fun q => ps_bki ?_) d (by omega))
    · have hok : ¬ room - (Lb.length + (Ss.map (fun S => (bG (gS S)).length)).sum) < mgC nn SL SM SR := by
        unfold mgC
        omega
      have hs8 : sbM SM ≤ 800 := by omega
      refine ps_s_ne0 p72_95 (by omega) (fun c95 => ?_) (fun c95 => ?_)
      · refine ps_s_al p72_108 rfl ?_
        refine ps_s_il p72_109 rfl ?_
        refine ps_s_vV [_] _ p72_110 rfl v1 rfl rfl rfl (x_write Y4 q2 (by omega) (by omega) (by omega) hnd (fun q h5 r1 r2 => ps_bki ?_) (fun q h5 r1 r2 => ps_bki ?_) d (by omega))
        · refine ps_s_ri p72_113 t72 ?_
          exact K2 hok q h5 o3 _ _ (cu_trans w0 U4 r1) (by omega) (by omega) r2
        · obtain ⟨⟨Y0, Ysh, Y3a, Y4a, Y5a, Y6a, Y7a, Y8a⟩, LD5⟩ := cy_swap Y4 PL4 SZ4 (RZ4 hs8) q2 r1 r2 (fun Z hZ => ⟨(z1 Z hZ).1, (z1 Z hZ).2.1, (z1 Z hZ).2.2.1⟩) z2
          have U5 := cu_trans w0 U4 (cu_one r1 (cx_K Y4).1.1 (by decide) (by decide))
          refine ps_s_ri p72_113 t72 ?_
          exact K3 hok q h5 o3 _ _ Zs U5 (by omega) (by omega) hZ ⟨Y0, Ysh, Y3a, Y4a, Y5a, LD5, Y6a, Y7a, ⟨⟨Y8a.1.1, Y8a.1.2.1, Y8a.1.2.2, n4, n6, n5⟩, Y8a.2.1, fun Z hZ => ⟨(z1 Z hZ).1, (z1 Z hZ).2.1, (z1 Z hZ).2.2.1, (z1 Z hZ).2.2.2⟩, z2⟩⟩
      · exact absurd c95 (by decide)
    · refine ps_s_ne0 p72_95 (by omega) (fun c95 => ?_) (fun c95 => ?_)
      · exact absurd rfl c95
      · refine ps_s_th p72_98 ?_
        exact K1 (by unfold mgC; omega) h4 o3 _ _ U4 (by omega) (by omega) Y4
  have hz1 : ∀ Z ∈ Ss, Z.2.2.1 ≠ pi ∧ Z.2.2.1 ≠ lP ∧ Z.2.2.1 ≠ lD ∧ Z.2.2.1 ≠ ba := fun Z hZ => ⟨(n8 Z hZ).1, (n8 Z hZ).2.2.1, (n8 Z hZ).2.1, (n8 Z hZ).2.2.2⟩
  have hz2 : ∀ Z ∈ Ss, Z.2.2.2.1 ≠ pg ∧ Z.2.2.2.1 ≠ rP ∧ Z.2.2.2.1 ≠ rD := fun Z hZ => ⟨(n9 Z hZ).1, (n9 Z hZ).2.2, (n9 Z hZ).2.1⟩
  /- behind the new segment: the segments behind j -/
  have last : ∀ d', 8 ≤ d' → ∀ (h4 : pm_S) (o4 : Nat → Nat) (cap4 c s : Nat) (Ns : List cS), cF G (cU h) h o h4 o4 c s → c ≤ 1050 → s ≤ 11400 → (cX G (o4) (h4) x dr pi pg ba kD lD rD kP lP rP room nn pw ts ps bx Ss Lb) → cAL G o4 h4 lP cap4 ((SL ++ Ns).map (·.1)) → Ns.length ≤ 1 → (∀ Z ∈ Ns, cSG G o4 h4 Z) → (sbM SM ≤ 800 → ∀ Z ∈ Ns, cRS G o4 h4 Z) → Ns.map gS = nwM nn SM → (∀ Z ∈ Ns, Z.2.2.1 ≠ pi ∧ Z.2.2.1 ≠ lP ∧ Z.2.2.1 ≠ lD ∧ Z.2.2.1 ≠ ba) → (∀ Z ∈ Ns, Z.2.2.2.1 ≠ pg ∧ Z.2.2.2.1 ≠ rP ∧ Z.2.2.2.1 ≠ rD) → ps_X G d' 72 64 [some (.ref x), some (iN i), some (iN j), some (iN (sbM SM))] [] h4 Q := by
    intro d hd h4 o4 cap4 c s Ns F hc hs4 Y4 PL hNl SN RN hN z1 z2
    have Y4' := Y4
    obtain ⟨Z0, ⟨pf4, bf4, y1, _⟩, _, _, _, _, ⟨T4, ⟨cD4, AD4⟩, _⟩, _⟩ := Y4'
    obtain ⟨_, _, fs4, a4⟩ := al_own AD4
    have kl4 : cK h4 lP 3 := al_K PL
    first | refine ps_s_al p72_64 rfl ?_ | refine ps_s_aln p72_64 rfl ?_
    refine ps_s_il p72_65 rfl ?_
    refine ps_s_k p72_66 ?_
    first | refine ps_s_add p72_67 ?_ | refine ps_s_2 p72_67 ?_
    first | refine ps_s_al p72_68 rfl ?_ | refine ps_s_aln p72_68 rfl ?_
    refine ps_s_gf p72_69 y1 rfl ?_
    refine ps_s_gf p72_72 T4.1 rfl ?_
    refine ps_s_vV [] _ p72_75 rfl a4 rfl rfl rfl (al_sizem AD4 (ps_bki ?_) d (by omega))
    refine ps_s_k p72_78 ?_
    refine ps_s_vV [_, _, _] _ p72_79 rfl y1 rfl rfl rfl (x_keep (SL := SL ++ SM) (SM := SR) (SR := []) Y4 (by rw [hS, List.append_nil, List.append_assoc]) (by rw [List.length_append]; omega) (by rw [List.length_append]; omega) PL (by omega) hn (by rw [List.length_map, List.length_append]; omega) (fun h5 o5 cap5 c5 s5 r1 Y5 r3 r4 r5 => ps_bkv ?_) d (by omega))
    rw [fR, ← List.map_append, List.append_assoc] at r3
    have U5 := cu_trans w0 F (cu_one r1 kl4 (by decide) (by decide))
    have Y5' := Y5
    obtain ⟨_, _, _, _, _, _, ⟨_, _, SS5, RR5, _⟩, _⟩ := Y5'
    refine fin d hd h5 o5 cap5 _ _ (SL ++ (Ns ++ SR)) U5 (by omega) (by omega) Y5 r3 (fun Z hZ => ?_) (fun hq Z hZ => ?_) (by unfold plM; rw [List.map_append, List.map_append, hN]) (fun Z hZ => ?_) (fun Z hZ => ?_)
    · rcases List.mem_append.mp hZ with hZ | hZ
      · exact SS5 Z (mL Z hZ)
      · rcases List.mem_append.mp hZ with hZ | hZ
        · exact sg_fr (SN Z hZ) r1 (kne ⟨_, (SN Z hZ).1, rfl⟩ kl4 (n := 7) (by decide)) (z1 Z hZ).2.1 (fun p hp => kne (dc_K ((SN Z hZ).2.2.1.2.1 p hp)) kl4 (by decide))
        · exact SS5 Z (mR Z hZ)
    · rcases List.mem_append.mp hZ with hZ | hZ
      · exact RR5 Z (mL Z hZ)
      · rcases List.mem_append.mp hZ with hZ | hZ
        · exact rw_fr (RN hq Z hZ) r1 (kne (rw_K (RN hq Z hZ)) kl4 (by decide))
        · exact RR5 Z (mR Z hZ)
    · rcases List.mem_append.mp hZ with hZ | hZ
      · exact hz1 Z (mL Z hZ)
      · rcases List.mem_append.mp hZ with hZ | hZ
        · exact z1 Z hZ
        · exact hz1 Z (mR Z hZ)
    · rcases List.mem_append.mp hZ with hZ | hZ
      · exact hz2 Z (mL Z hZ)
      · rcases List.mem_append.mp hZ with hZ | hZ
        · exact z2 Z hZ
        · exact hz2 Z (mR Z hZ)
  refine ps_M_in (e72 _ _ _) l72 (fun d hd => ?_)
  refine ps_s_il p72_0 rfl ?_
  refine ps_s_lt0 p72_1 (by omega) (fun c1 => ?_) (fun c1 => ?_)
  · omega
  · refine ps_s_il p72_4 rfl ?_
    first | refine ps_s_al p72_5 rfl ?_ | refine ps_s_aln p72_5 rfl ?_
    refine ps_s_gf p72_6 x1 rfl ?_
    refine ps_s_gf p72_9 T.1 rfl ?_
    refine ps_s_vV [] _ p72_12 rfl a1 rfl rfl rfl (al_sizem AD (ps_bki ?_) d (by omega))
    refine ps_s_ge p72_15 (by omega) (by omega) (fun c15 => ?_) (fun c15 => ?_)
    · omega
    · refine ps_s_il p72_18 rfl ?_
      refine ps_s_il p72_19 rfl ?_
      refine ps_s_lt p72_20 (by omega) (by omega) (fun c20 => ?_) (fun c20 => ?_)
      · first | refine ps_s_al p72_33 rfl ?_ | refine ps_s_aln p72_33 rfl ?_
        refine ps_s_gf p72_34 x1 rfl ?_
        refine ps_s_gf p72_37 T2.1 rfl ?_
        refine ps_s_vV [] _ p72_40 rfl p1 rfl rfl rfl (al_clear w0 AP (fun h1 q1 q2 => ps_bkv ?_) d (by omega))
        have Y1 := cx_plan X q1 q2
        have U1 := cu_one q1 k10 (by decide) (by decide)
        have Y1' := Y1
        obtain ⟨Z0, ⟨pf1, bf1, y1, _⟩, _⟩ := Y1'
        first | refine ps_s_al p72_43 rfl ?_ | refine ps_s_aln p72_43 rfl ?_
        refine ps_s_k p72_44 ?_
        refine ps_s_il p72_45 rfl ?_
        refine ps_s_k p72_46 ?_
        refine ps_s_vV [_, _, _] _ p72_47 rfl y1 rfl rfl rfl (x_keep (SL := []) (SM := SL) (SR := SM ++ SR) Y1 hS rfl (by show i = 0 + SL.length; omega) q2 (by omega) hn (by show 0 + SL.length ≤ 20; omega) (fun h2 o2 cap2 c2 s2 r1 Y2 r3 r4 r5 => ps_bkv ?_) d (by omega))
        rw [List.nil_append, fL] at r3
        have U2 := cu_trans w0 U1 (cu_one r1 (cx_K Y1).2.2.1.2.1 (by decide) (by decide))
        have Y2' := Y2
        obtain ⟨W0, ⟨pf2, bf2, w1, _⟩, _, _, _, _, ⟨T3, ⟨cD2, AD2⟩, SS2, _⟩, _⟩ := Y2'
        rw [hS] at AD2 SS2
        obtain ⟨fe, hem⟩ := W0.2.2.1
        first | refine ps_s_al p72_50 rfl ?_ | refine ps_s_aln p72_50 rfl ?_
        first | refine ps_s_al p72_51 rfl ?_ | refine ps_s_aln p72_51 rfl ?_
        refine ps_s_gf p72_52 w1 rfl ?_
        refine ps_s_il p72_55 rfl ?_
        refine ps_s_il p72_56 rfl ?_
        refine ps_s_vV [_, _] _ p72_57 rfl T3.1 rfl rfl rfl (ct_kept W0.1 W0.2.1 hem W0.2.2.2 T3 AD2 SS2 (by rw [← hS]; omega) hi hj hdl (fun h3 o3 c3 s3 t1 t2 t3 t4 t5 => ps_bki ?_) d (by omega))
        have Y3 := cx_nil Y2 t1 (fun _ q => q)
        have PL3 := al_fr r3 t1 (fun q => q)
        have U3 := cu_trans w0 U2 (cu_of t1 (fun _ q => q.elim))
        have lt2 : ∀ u n, cK h2 u n → h2.2.1 ≠ u := fun u n hu => by
          have := cw_lt W0.1 hu.choose_spec.1
          omega
        obtain ⟨⟨j1, j2, j3, j4, j5⟩, ⟨j6, j7, j8⟩, ⟨j9, j10, j11⟩, _, _⟩ := cx_K Y2
        have Y3' := Y3
        obtain ⟨V0, ⟨pf3, bf3, v1, _⟩, _⟩ := Y3'
        refine ps_s_vV [_] _ p72_60 rfl v1 rfl rfl rfl (x_newseg Y3 PL3 t2 (lt2 _ _ j10) hs hsl (by rw [List.length_map]; omega) hnn (fun q => ps_bki ?_) (fun q h4 o4 cap4 sa r c4 s4 e1 Y4 e3 e4 e5 e6 e7 e8 e9 => ps_bki ?_) d (by omega))
        · have esb : sbM SM = 0 := by unfold sbM; rw [if_pos q]
          refine ps_s_is3 p72_63 ?_
          rw [← esb]
          exact last d hd h3 o3 cap2 _ _ [] U3 (by omega) (by omega) Y3 (by rw [List.append_nil]; exact PL3) (by show 0 ≤ 1; omega) (fun Z hZ => absurd hZ List.not_mem_nil) (fun _ Z hZ => absurd hZ List.not_mem_nil) (by unfold nwM; rw [if_pos q]; rfl) (fun Z hZ => absurd hZ List.not_mem_nil) (fun Z hZ => absurd hZ List.not_mem_nil)
        · have esb : sbM SM = (sB ((mrS SM).map (·.2.1))).length := by unfold sbM; rw [if_neg q]
          obtain ⟨⟨i1, i2, i3, i4, i5⟩, ⟨i6, i7, i8⟩, ⟨i9, i10, i11⟩, _, _⟩ := cx_K Y3
          have lt3 : ∀ u n, cK h3 u n → r ≠ u := fun u n hu => by
            have := cw_lt V0.1 hu.choose_spec.1
            omega
          have U4 := cu_trans w0 U3 (cu_of e1 (fun u hu => by
            rcases hu with rfl | rfl
            · exact cu_K i4 (by decide) (by decide)
            · exact cu_K i10 (by decide) (by decide)))
          refine ps_s_is3 p72_63 ?_
          rw [← esb]
          refine last d hd h4 o4 cap4 _ _ [(sa, nn + 1, h2.2.1, r, mrS SM)] U4 (by omega) (by omega) Y4 (by rw [List.map_append]; exact e3) (Nat.le_refl _) (fun Z hZ => ?_) (fun hq Z hZ => ?_) (by unfold nwM; rw [if_neg q]; rfl) (fun Z hZ => ?_) (fun Z hZ => ?_)
          · rw [List.mem_singleton.mp hZ]; exact e4
          · rw [List.mem_singleton.mp hZ]; exact e5 (by omega)
          · rw [List.mem_singleton.mp hZ]; exact ⟨lt2 _ _ j3, lt2 _ _ j10, lt2 _ _ j7, lt2 _ _ j5⟩
          · rw [List.mem_singleton.mp hZ]; exact ⟨lt3 _ _ i4, lt3 _ _ i11, lt3 _ _ i8⟩
      · omega
end XMG
