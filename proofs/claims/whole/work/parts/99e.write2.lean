/-! The shelf: the plan takes the disk's place. -/
def cNf (pi pg kD lD rD kP lP rP : Nat) (Ss : List cS) : Prop := (pi ≠ lD ∧ pi ≠ lP ∧ lD ≠ lP) ∧ (pg ≠ rD ∧ pg ≠ rP ∧ rD ≠ rP ∧ kD ≠ kP) ∧ (∀ S ∈ Ss, S.2.2.1 ≠ pi ∧ S.2.2.1 ≠ lD ∧ S.2.2.1 ≠ lP) ∧ (∀ S ∈ Ss, S.2.2.2.1 ≠ pg ∧ S.2.2.2.1 ≠ rD ∧ S.2.2.2.1 ≠ rP)
/-- the shelf without its buffer's documents -/
def cY (G : pm_G) (o : Nat → Nat) (h : pm_S) (x dr pi pg ba kD lD rD kP lP rP room nn : Nat) (pw : Option Nat) (ts : List Nat) (ps : List (Nat × List Nat)) (Ss : List cS) (Lb : List Nat) : Prop :=
  cG0 G o h ∧ cSh G o h x dr pi pg ba kD kP room nn pw ∧ cDR G o h dr ts ∧ cPi G o h pi ps ∧ (∃ L, cRW G o h pg 800 L) ∧ cDk G o h kD lD rD Ss Lb ∧ cPl G o h kP lP rP ∧ cNf pi pg kD lD rD kP lP rP Ss
section XW2
variable {G : pm_G} {o : Nat → Nat} {h : pm_S} {x dr pi pg ba kD lD rD kP lP rP room nn : Nat} {pw : Option Nat} {ts : List Nat} {ps : List (Nat × List Nat)} {bx : List (Nat × pD)} {Ss : List cS} {Lb : List Nat} {Q : pm_Q}
theorem x_write {sb : Nat} {Lp : List Nat} (X : (cX G o h x dr pi pg ba kD lD rD kP lP rP room nn pw ts ps bx Ss Lb)) (RP : cRW G o h rP 800 Lp) (hsb : sb ≤ 2000) (hlp : Lp.length ≤ 2000) (hn : Ss.length ≤ 1000) (hnd : (Ss.flatMap dS).Pairwise (fun p q => p.1 ≠ q.1))
    (K1 : cutB pw (sb + Lp.length) = true → ∀ h', cF G (cU h) h o h' o 0 0 → (cX G o (h') x dr pi pg ba kD lD rD kP lP rP room nn (none) ([]) ps ([]) (Ss.map (mpS spD)) Lb) → Q (.inl (some (.int (-1)))) h')
    (K2 : cutB pw (sb + Lp.length) = false → ∀ h', cF G (· = x) h o h' o 0 0 → cSh G o h' x dr pi pg ba kP kD room (if sb = 0 then nn else nn + 1) (pw.map (· - (sb + Lp.length))) → Q (.inl (some (iN (sb + Lp.length)))) h') : ps_M G 6 67 [.ref x, iN sb] h Q := by
  have w0 := X.1.1
  have X' := X
  obtain ⟨X0, ⟨pf, bf, x1, x2, x3, x4⟩, X3, X4, X5, X6, X7, ⟨T2, _⟩, X9⟩ := X'
  obtain ⟨rb, rg, r1, _⟩ := RP
  have tail2 : ∀ d (h1 : pm_S) (n1 : Nat) (pf' bf' : Int32), cF G (· = x) h o h1 o 0 0 → h1.1 x = some (pm_o 0 [iN room, .ref dr, .ref pi, .ref pg, .ref ba, .ref kD, .ref kP, iN n1, .int pf', .int bf']) → n1 = (if sb = 0 then nn else nn + 1) → ((pw.map (· - (sb + Lp.length)) = none ∧ pf' = 0) ∨ ∃ p, pw.map (· - (sb + Lp.length)) = some p ∧ pf' = 1 ∧ bf' = Int32.ofNat p ∧ p < 2147483648) → cutB pw (sb + Lp.length) = false → ps_X G d 67 65 [some (.ref x), some (iN sb), some (iN (sb + Lp.length)), none] [] h1 Q := by
    intro d h1 n1 pf' bf' F e1 e2 e3 e4
    have f2 := cf_put2 (a := x) (x := pm_o 0 [iN room, .ref dr, .ref pi, .ref pg, .ref ba, .ref kP, .ref kP, iN n1, .int pf', .int bf']) w0 F e1 (by omega) (.inl x4) rfl
    have f3 := cf_put2 (a := x) (x := pm_o 0 [iN room, .ref dr, .ref pi, .ref pg, .ref ba, .ref kP, .ref kD, iN n1, .int pf', .int bf']) w0 f2 pp_eq (by omega) (.inl x4) rfl
    first | refine ps_s_al p67_65 rfl ?_ | refine ps_s_aln p67_65 rfl ?_
    refine ps_s_gf p67_66 e1 rfl ?_
    first | refine ps_s_as3 p67_69 ?_ | refine ps_s_asn3 p67_69 ?_
    first | refine ps_s_al p67_70 rfl ?_ | refine ps_s_aln p67_70 rfl ?_
    first | refine ps_s_al p67_71 rfl ?_ | refine ps_s_aln p67_71 rfl ?_
    refine ps_s_gf p67_72 e1 rfl ?_
    refine ps_s_pf p67_75 e1 (by omega) rfl (ps_blt rfl) ?_
    first | refine ps_s_al p67_78 rfl ?_ | refine ps_s_aln p67_78 rfl ?_
    first | refine ps_s_al p67_79 rfl ?_ | refine ps_s_aln p67_79 rfl ?_
    refine ps_s_pf p67_80 pp_eq (by omega) rfl (ps_blt rfl) ?_
    refine ps_s_il p67_83 rfl ?_
    refine ps_s_ri p67_84 t67 ?_
    rw [← e2] at K2
    exact K2 e4 _ f3 ⟨pf', bf', pp_eq, e3, x3, x4⟩
  have tail1 : ∀ d (h1 : pm_S) (pf' bf' : Int32), cF G (· = x) h o h1 o 0 0 → h1.1 x = some (pm_o 0 [iN room, .ref dr, .ref pi, .ref pg, .ref ba, .ref kD, .ref kP, iN nn, .int pf', .int bf']) → ((pw.map (· - (sb + Lp.length)) = none ∧ pf' = 0) ∨ ∃ p, pw.map (· - (sb + Lp.length)) = some p ∧ pf' = 1 ∧ bf' = Int32.ofNat p ∧ p < 2147483648) → cutB pw (sb + Lp.length) = false → ps_X G d 67 51 [some (.ref x), some (iN sb), some (iN (sb + Lp.length)), none] [] h1 Q := by
    intro d h1 pf' bf' F e1 e3 e4
    refine ps_s_il p67_51 rfl ?_
    refine ps_s_le0 p67_52 (by omega) (fun c52 => ?_) (fun c52 => ?_)
    · exact tail2 d h1 nn pf' bf' F e1 (by rw [if_pos (by omega)]) e3 e4
    · have f2 := cf_put2 (a := x) (x := pm_o 0 [iN room, .ref dr, .ref pi, .ref pg, .ref ba, .ref kD, .ref kP, iN (nn + 1), .int pf', .int bf']) w0 F e1 (by omega) (.inl x4) rfl
      first | refine ps_s_al p67_55 rfl ?_ | refine ps_s_aln p67_55 rfl ?_
      refine ps_s_dup p67_56 rfl ?_
      refine ps_s_gf p67_57 e1 rfl ?_
      refine ps_s_k p67_60 ?_
      first | refine ps_s_add p67_61 ?_ | refine ps_s_2 p67_61 ?_
      refine ps_s_pf p67_62 e1 (by omega) rfl (ps_blt rfl) ?_
      exact tail2 d _ (nn + 1) pf' bf' f2 pp_eq (by rw [if_neg (by omega)]) e3 e4
  refine ps_M_in (e67 _ _) l67 (fun d hd => ?_)
  refine ps_s_il p67_0 rfl ?_
  first | refine ps_s_al p67_1 rfl ?_ | refine ps_s_aln p67_1 rfl ?_
  refine ps_s_gf p67_2 x1 rfl ?_
  refine ps_s_gf p67_5 T2.1 rfl ?_
  refine ps_s_gf p67_8 r1 rfl ?_
  first | refine ps_s_add p67_11 ?_ | refine ps_s_2 p67_11 ?_
  refine ps_s_is2 p67_12 ?_
  first | refine ps_s_al p67_13 rfl ?_ | refine ps_s_aln p67_13 rfl ?_
  refine ps_s_gf p67_14 x1 rfl ?_
  rcases x2 with ⟨y1, y2⟩ | ⟨p, y1, y2, y3, y4⟩
  · subst y1
    subst y2
    refine ps_s_j0 p67_17 (fun _ => ?_) (fun c => absurd c (by decide))
    first | refine ps_s_al p67_34 rfl ?_ | refine ps_s_aln p67_34 rfl ?_
    refine ps_s_gf p67_35 x1 rfl ?_
    refine ps_s_j0 p67_38 (fun _ => ?_) (fun c => absurd c (by decide))
    exact tail1 d h 0 bf (cf_refl w0) x1 (.inl ⟨rfl, rfl⟩) rfl
  · subst y1
    subst y2
    subst y3
    refine ps_s_j0 p67_17 (fun c => absurd c (by decide)) (fun _ => ?_)
    refine ps_s_il p67_20 rfl ?_
    first | refine ps_s_al p67_21 rfl ?_ | refine ps_s_aln p67_21 rfl ?_
    refine ps_s_gf p67_22 x1 rfl ?_
    refine ps_s_le p67_25 (by omega) (by omega) (fun c25 => ?_) (fun c25 => ?_)
    · first | refine ps_s_al p67_34 rfl ?_ | refine ps_s_aln p67_34 rfl ?_
      refine ps_s_gf p67_35 x1 rfl ?_
      refine ps_s_j0 p67_38 (fun c => absurd c (by decide)) (fun _ => ?_)
      have f2 : cF G (· = x) h o (pm_put h x (pm_o 0 [iN room, .ref dr, .ref pi, .ref pg, .ref ba, .ref kD, .ref kP, iN nn, .int 1, iN (p - (sb + Lp.length))])) o 0 0 := cf_put w0 x1 (by omega) x4 rfl
      first | refine ps_s_al p67_41 rfl ?_ | refine ps_s_aln p67_41 rfl ?_
      refine ps_s_dup p67_42 rfl ?_
      refine ps_s_gf p67_43 x1 rfl ?_
      refine ps_s_il p67_46 rfl ?_
      first | refine ps_s_sub p67_47 (by omega) ?_ | refine ps_s_2 p67_47 ?_
      refine ps_s_pf p67_48 x1 (by omega) rfl (ps_blt rfl) ?_
      exact tail1 d _ 1 _ f2 pp_eq (.inr ⟨p - (sb + Lp.length), rfl, rfl, rfl, by omega⟩) (decide_eq_false (by omega))
    · first | refine ps_s_al p67_28 rfl ?_ | refine ps_s_aln p67_28 rfl ?_
      refine ps_s_vV [] _ p67_29 rfl x1 rfl rfl rfl (x_lose X hn hnd (fun h' q1 q2 => ps_bkv ?_) d (by omega))
      refine ps_s_k p67_32 ?_
      refine ps_s_ri p67_33 t67 ?_
      exact K1 (decide_eq_true (by omega)) h' q1 q2
theorem cy_swap {cap nn' c s : Nat} {pw' : Option Nat} {Zs : List cS} {Lp : List Nat} {h1 : pm_S} {o1 : Nat → Nat} (X : (cX G o h x dr pi pg ba kD lD rD kP lP rP room nn pw ts ps bx Ss Lb)) (PL : cAL G o h lP cap (Zs.map (·.1))) (SZ : ∀ Z ∈ Zs, cSG G o h Z) (RZ : ∀ Z ∈ Zs, cRS G o h Z) (RP : cRW G o h rP 800 Lp) (F : cF G (· = x) h o h1 o1 c s) (Sh : cSh G o1 h1 x dr pi pg ba kP kD room nn' pw') (z1 : ∀ Z ∈ Zs, Z.2.2.1 ≠ pi ∧ Z.2.2.1 ≠ lP ∧ Z.2.2.1 ≠ lD) (z2 : ∀ Z ∈ Zs, Z.2.2.2.1 ≠ pg ∧ Z.2.2.2.1 ≠ rP ∧ Z.2.2.2.1 ≠ rD) : cY G o1 h1 x dr pi pg ba kP lP rP kD lD rD room nn' pw' ts ps Zs Lp ∧ cLD G o1 h1 ba bx := by
  obtain ⟨⟨k1, k2, k3, k4, k5⟩, ⟨k6, k7, k8⟩, ⟨k9, k10, k11⟩, KS, KB⟩ := cx_K X
  obtain ⟨Y0, Y2, Y3, Y4, Y5, Y6, Y7, Y8⟩ := cx_one X F k1 (by decide)
  obtain ⟨X0, X2, X3, X4, X5, X6, X7, X8, ⟨⟨n1, n2, n3, n4, n5, n6⟩, ⟨m1, m2, m3, m4⟩, n8, n9⟩⟩ := X
  have y7 := Y7 (kne k6 k1 (by decide)) (kne k7 k1 (by decide)) (kne k8 k1 (by decide)) (fun S hS => ⟨kne (KS S hS).2.1 k1 (by decide), kne (KS S hS).2.2.1 k1 (by decide)⟩)
  have y8 := Y8 (kne k9 k1 (by decide)) (kne k10 k1 (by decide)) (kne k11 k1 (by decide))
  obtain ⟨T, ⟨capD, A⟩, SS, RR, R⟩ := y7
  obtain ⟨T2, _⟩ := y8
  have nk : ∀ u y, u = x → h.1 u = some y → kd y = 1 := by
    intro u y hu hy
    obtain ⟨cx, e1, e2⟩ := k1
    rw [hu, e1] at hy
    cases hy
    exact e2
  refine ⟨⟨Y0, Sh, Y3 (kne k2 k1 (by decide)), Y4 (kne k3 k1 (by decide)), Y5 (kne k4 k1 (by decide)), ⟨T2, ⟨cap, al_fr PL F (kne k10 k1 (by decide))⟩, fun Z hZ => sg_frk (SZ Z hZ) F (fun u y hu hy => by rw [nk u y hu hy]; decide), fun Z hZ => rw_frk (RZ Z hZ) F (fun u y hu hy => by rw [nk u y hu hy]; decide), rw_fr RP F (kne k11 k1 (by decide))⟩, ⟨T, ⟨capD, _, A⟩, _, R⟩, ⟨⟨n2, n1, fun e => n3 e.symm⟩, ⟨m2, m1, fun e => m3 e.symm, fun e => m4 e.symm⟩, z1, z2⟩⟩, Y6 (kne k5 k1 (by decide))⟩
theorem cy_docs {h1 : pm_S} {o1 : Nat → Nat} {c s : Nat} {u : pD → pD} (Y : cY G o h x dr pi pg ba kD lD rD kP lP rP room nn pw ts ps Ss Lb) (F : cF G (cPD Ss) h o h1 o1 c s) (hd : ∀ S ∈ Ss, ∀ p ∈ dS S, cDC G o1 h1 p.1 (u p.2)) (hu : ∀ x, (u x).1 = x.1) : cY G o1 h1 x dr pi pg ba kD lD rD kP lP rP room nn pw ts ps (Ss.map (mpS u)) Lb := by
  obtain ⟨X0, ⟨pf, bf, x1, x2⟩, X3, ⟨⟨capP, PI⟩, P2⟩, ⟨L5, X5⟩, ⟨T, ⟨cap, A⟩, SS, RR, R⟩, ⟨T2, ⟨cap2, zs, A2⟩, L2, R2⟩, X9⟩ := Y
  have pk := pd_k SS
  have no : ∀ v n, cK h v n → n ≠ 6 → ¬ cPD Ss v := by
    intro v n hv hn q
    obtain ⟨cv, e1, e2⟩ := hv
    have := pk v cv q e1
    omega
  have X3' := X3
  obtain ⟨de, df, d1, _⟩ := X3'
  refine ⟨g0_fr X0 F, sh_fr ⟨pf, bf, x1, x2⟩ F (no _ 1 ⟨_, x1, rfl⟩ (by decide)), dr_fr X3 F (no _ 2 ⟨_, d1, rfl⟩ (by decide)), pi_fr ⟨⟨capP, PI⟩, P2⟩ F (no _ _ (al_K PI) (by decide)) (fun v y hv hy => ?_), ⟨L5, rw_fr X5 F (no _ _ (rw_K X5) (by decide))⟩, ⟨ct_frk T F (fun v y hv hy => by rw [pk v y hv hy]; decide), ⟨cap, ?_⟩, ?_, ?_, rw_fr R F (no _ _ (rw_K R) (by decide))⟩, pl_fr ⟨T2, ⟨cap2, zs, A2⟩, L2, R2⟩ F (no _ 5 ⟨_, T2.1, rfl⟩ (by decide)) (no _ _ (al_K A2) (by decide)) (no _ _ (rw_K R2) (by decide)), ?_⟩
  · have := pk v y hv hy
    rw [this]
    exact ⟨by decide, by decide⟩
  · rw [List.map_map]
    exact al_fr A F (no _ _ (al_K A) (by decide))
  · intro S' hS'
    obtain ⟨S0, h0, rfl⟩ := List.mem_map.mp hS'
    exact sg_map (SS S0 h0) F pk (hd S0 h0)
  · intro S' hS'
    obtain ⟨S0, h0, rfl⟩ := List.mem_map.mp hS'
    show cRW G o1 h1 S0.2.2.2.1 (bG (gS (mpS u S0))).length (bG (gS (mpS u S0)))
    rw [mpS_bG u hu]
    exact rw_fr (RR S0 h0) F (no _ _ (rw_K (RR S0 h0)) (by decide))
  · obtain ⟨n1, n2, n3, n4⟩ := X9
    refine ⟨n1, n2, fun S' hS' => ?_, fun S' hS' => ?_⟩
    · obtain ⟨S0, h0, rfl⟩ := List.mem_map.mp hS'
      exact n3 S0 h0
    · obtain ⟨S0, h0, rfl⟩ := List.mem_map.mp hS'
      exact n4 S0 h0
/-- a buffer of its own makes it a shelf -/
theorem cy_buf {h1 : pm_S} {nb pf0 : Nat} {u8 u9 : Value} (Y : cY G o h x dr pi pg ba kD lD rD kP lP rP room nn pw ts ps Ss Lb) (A : cAL G o h nb 0 []) (q1 : nb ≠ pi ∧ nb ≠ lD ∧ nb ≠ lP) (q2 : ∀ S ∈ Ss, S.2.2.1 ≠ nb) (e : h.1 x = some (pm_o 0 [iN room, .ref dr, .ref pi, .ref pg, .ref ba, .ref kD, .ref kP, iN nn, u8, u9])) (hh : h1 = pm_put h x (pm_o 0 [iN room, .ref dr, .ref pi, .ref pg, .ref nb, .ref kD, .ref kP, iN nn, u8, u9])) : cX G o h1 x dr pi pg nb kD lD rD kP lP rP room nn pw ts ps [] Ss Lb ∧ cF G (· = x) h o h1 o 0 0 := by
  subst hh
  obtain ⟨X0, ⟨pf, bf, x1, x2, x3, x4⟩, X3, ⟨⟨capP, PI⟩, P2⟩, ⟨L5, X5⟩, ⟨T, ⟨cap, A1⟩, SS, RR, R⟩, ⟨T2, ⟨cap2, zs, A2⟩, L2, R2⟩, ⟨⟨n1, n2, n3⟩, n4, n5, n6⟩⟩ := Y
  have e' := e
  rw [x1] at e'
  have h89 : u8 = .int pf ∧ u9 = .int bf := by
    have := congrArg (fun c : Option pm_C => match c with
      | some (.inl (_, [_, _, _, _, _, _, _, _, v8, v9])) => (v8, v9)
      | _ => (.null, .null)) e'
    exact ⟨(congrArg Prod.fst this).symm, (congrArg Prod.snd this).symm⟩
  obtain ⟨rfl, rfl⟩ := h89
  have f1 : cF G (· = x) h o (pm_put h x (pm_o 0 [iN room, .ref dr, .ref pi, .ref pg, .ref nb, .ref kD, .ref kP, iN nn, .int pf, .int bf])) o 0 0 := cf_put X0.1 x1 (by omega) x4 rfl
  have k1 : cK h x 1 := ⟨_, x1, rfl⟩
  have nk : ∀ u y, u = x → h.1 u = some y → kd y = 1 := by
    intro u y hu hy
    rw [hu, x1] at hy
    cases hy
    rfl
  have X3' := X3
  obtain ⟨de, df, d1, _⟩ := X3'
  refine ⟨⟨g0_fr X0 f1, ⟨pf, bf, pp_eq, x2, x3, x4⟩, dr_fr X3 f1 (kne (n := 2) ⟨_, d1, rfl⟩ k1 (by decide)), pi_fr ⟨⟨capP, PI⟩, P2⟩ f1 (kne (al_K PI) k1 (by decide)) (fun v y hv hy => by rw [nk v y hv hy]; decide), ⟨L5, rw_fr X5 f1 (kne (rw_K X5) k1 (by decide))⟩, ⟨⟨0, al_fr A f1 (kne (al_K A) k1 (by decide))⟩, fun p hp => absurd hp List.not_mem_nil, Nat.zero_le _⟩, ⟨ct_frk T f1 (fun v y hv hy => by rw [nk v y hv hy]; decide), ⟨cap, al_fr A1 f1 (kne (al_K A1) k1 (by decide))⟩, fun S hS => sg_frk (SS S hS) f1 (fun u y hu hy => by rw [nk u y hu hy]; decide), fun S hS => rw_frk (RR S hS) f1 (fun u y hu hy => by rw [nk u y hu hy]; decide), rw_fr R f1 (kne (rw_K R) k1 (by decide))⟩, pl_fr ⟨T2, ⟨cap2, zs, A2⟩, L2, R2⟩ f1 (kne (n := 5) ⟨_, T2.1, rfl⟩ k1 (by decide)) (kne (al_K A2) k1 (by decide)) (kne (rw_K R2) k1 (by decide)), ⟨⟨n1, n2, n3, q1.1, q1.2.1, q1.2.2⟩, n4, fun S hS => ⟨(n5 S hS).1, (n5 S hS).2.1, (n5 S hS).2.2, q2 S hS⟩, n6⟩⟩, f1⟩
theorem cy_nil {P : Nat → Prop} {h1 : pm_S} {o1 : Nat → Nat} {c s : Nat} (Y : cY G o h x dr pi pg ba kD lD rD kP lP rP room nn pw ts ps Ss Lb) (F : cF G P h o h1 o1 c s) (hP : ∀ u y, P u → ¬ h.1 u = some y) : cY G o1 h1 x dr pi pg ba kD lD rD kP lP rP room nn pw ts ps Ss Lb := by
  obtain ⟨X0, ⟨pf, bf, x1, x2⟩, X3, ⟨⟨capP, PI⟩, P2⟩, ⟨L5, X5⟩, ⟨T, ⟨cap, A1⟩, SS, RR, R⟩, ⟨T2, ⟨cap2, zs, A2⟩, L2, R2⟩, X9⟩ := Y
  have no : ∀ v n, cK h v n → ¬ P v := fun v n hv q => hP v _ q hv.choose_spec.1
  have X3' := X3
  obtain ⟨de, df, d1, _⟩ := X3'
  exact ⟨g0_fr X0 F, sh_fr ⟨pf, bf, x1, x2⟩ F (no _ 1 ⟨_, x1, rfl⟩), dr_fr X3 F (no _ 2 ⟨_, d1, rfl⟩), pi_fr ⟨⟨capP, PI⟩, P2⟩ F (no _ _ (al_K PI)) (fun v y hv hy => absurd hy (hP v y hv)), ⟨L5, rw_fr X5 F (no _ _ (rw_K X5))⟩, ⟨ct_frk T F (fun v y hv hy => absurd hy (hP v y hv)), ⟨cap, al_fr A1 F (no _ _ (al_K A1))⟩, fun S hS => sg_frk (SS S hS) F (fun v y hv hy => absurd hy (hP v y hv)), fun S hS => rw_frk (RR S hS) F (fun v y hv hy => absurd hy (hP v y hv)), rw_fr R F (no _ _ (rw_K R))⟩, pl_fr ⟨T2, ⟨cap2, zs, A2⟩, L2, R2⟩ F (no _ 5 ⟨_, T2.1, rfl⟩) (no _ _ (al_K A2)) (no _ _ (rw_K R2)), X9⟩
end XW2
