/-! The shelf: commit. -/
def nwC (nn : Nat) (bx : List (Nat × pD)) : List pG := if bx = [] then [] else [(nn + 1, bx.map (·.2))]
def plC (nn : Nat) (Ss : List cS) (bx : List (Nat × pD)) : List pG := (Ss.filter (kpF 1)).map gS ++ nwC nn bx
def sbC (bx : List (Nat × pD)) : Nat := if bx = [] then 0 else (sB (bx.map (·.2.1))).length
def cmC (nn : Nat) (Ss : List cS) (bx : List (Nat × pD)) : Nat := sbC bx + (lG 1 (plC nn Ss bx)).length
def hdC (Ss : List cS) : Bool := Ss.any (fun S => decide (kc 1 (S.2.2.2.2.map (·.2)) < kc 0 (S.2.2.2.2.map (·.2))))
theorem fl_sub {α β : Type} (f : α → Bool) (g : α → List β) : ∀ l : List α, ((l.filter f).flatMap g).Sublist (l.flatMap g) := by
  intro l
  induction l with
  | nil => exact List.Sublist.refl _
  | cons a l ih =>
    rw [List.filter_cons, List.flatMap_cons]
    split
    · rw [List.flatMap_cons]
      exact List.Sublist.append (List.Sublist.refl _) ih
    · exact List.Sublist.trans ih (List.sublist_append_right _ _)
theorem i_nm1 {n : Nat} (hn : n < 2147483648) : ¬ Int32.ofNat n = -1 := fun e => by
  have h := i_ge0 hn
  rw [e] at h
  exact h (by decide)
section XCM
variable {G : pm_G} {o : Nat → Nat} {h : pm_S} {x dr pi pg ba kD lD rD kP lP rP room nn : Nat} {pw : Option Nat} {ts : List Nat} {ps : List (Nat × List Nat)} {bx : List (Nat × pD)} {Ss : List cS} {Lb : List Nat} {Q : pm_Q}
theorem x_commit (X : (cX G o h x dr pi pg ba kD lD rD kP lP rP room nn pw ts ps bx Ss Lb)) (hbn : bx.length ≤ 12) (hn : Ss.length ≤ 10) (hnn : nn < 2000) (hrm : room ≤ 800) (hlb : Lb.length ≤ 2000) (hb : ∀ S ∈ Ss, (bG (gS S)).length ≤ 2000) (hu : Lb.length + (Ss.map (fun S => (bG (gS S)).length)).sum ≤ room) (hs : srt 0 (bx.map (·.2.1))) (hsl : (sB (bx.map (·.2.1))).length ≤ 1400) (hll : (lG 1 (plC nn Ss bx)).length ≤ 1400) (hnd : (Ss.flatMap dS ++ bx).Pairwise (fun p q => p.1 ≠ q.1))
    (K0 : bx = [] → hdC Ss = false → Q (.inl (some (iN 0))) h)
    (K1 : ¬ (bx = [] ∧ hdC Ss = false) → (room - (Lb.length + (Ss.map (fun S => (bG (gS S)).length)).sum) < cmC nn Ss bx ∨ 10 < (plC nn Ss bx).length) → ∀ h' o' c s, cF G (cU h) h o h' o' c s → c ≤ 40 → s ≤ 3000 → (cX G (o') (h') x dr pi pg ba kD lD rD kP lP rP room nn pw ts ps bx Ss Lb) → Q (.inr 1) (pm_gap h' 6))
    (K2 : ¬ (bx = [] ∧ hdC Ss = false) → ¬ (room - (Lb.length + (Ss.map (fun S => (bG (gS S)).length)).sum) < cmC nn Ss bx ∨ 10 < (plC nn Ss bx).length) → cutB pw (cmC nn Ss bx) = true → ∀ h' o' c s, cF G (cU h) h o h' o' c s → c ≤ 40 → s ≤ 3000 → (cX G (o') (h') x dr pi pg ba kD lD rD kP lP rP room nn (none) ([]) ps ([]) (Ss.map (mpS spD)) Lb) → Q (.inl (some (.int (-1)))) h')
    (K3 : ¬ (bx = [] ∧ hdC Ss = false) → ¬ (room - (Lb.length + (Ss.map (fun S => (bG (gS S)).length)).sum) < cmC nn Ss bx ∨ 10 < (plC nn Ss bx).length) → cutB pw (cmC nn Ss bx) = false → ∀ h' o' c s nb (Zs : List cS), cF G (cU h) h o h' o' c s → c ≤ 40 → s ≤ 3000 → Zs.map gS = plC nn Ss bx → cX G o' h' x dr pi pg nb kP lP rP kD lD rD room (if sbC bx = 0 then nn else nn + 1) (pw.map (· - cmC nn Ss bx)) ts ps [] (Zs.map (mpS stD)) (lG 1 (plC nn Ss bx)) → Q (.inl (some (iN (cmC nn Ss bx)))) h') : ps_M G 9 49 [.ref x] h Q := by
  obtain ⟨⟨k1, k2, k3, k4, k5⟩, ⟨k6, k7, k8⟩, ⟨k9, k10, k11⟩, KS, KB⟩ := cx_K X
  have w0 := X.1.1
  have X' := X
  obtain ⟨X0, ⟨pf, bf, x1, x2⟩, X3, X4, X5, ⟨⟨capB, B⟩, B2, B3⟩, ⟨T, ⟨capD, AD⟩, SS, RR, RD⟩, ⟨T2, ⟨capP, zs0, AP⟩, LP0, RP0⟩, ⟨⟨n1, n2, n3, n4, n5, n6⟩, ⟨m1, m2, m3, m4⟩, n8, n9⟩⟩ := X'
  obtain ⟨_, _, fsB, b1⟩ := al_own B
  obtain ⟨_, _, fsP, p1⟩ := al_own AP
  have hndS := (List.pairwise_append.mp hnd).1
  have hplen : (plC nn Ss bx).length ≤ 11 := by
    unfold plC nwC
    rw [List.length_append, List.length_map]
    have : (Ss.filter (kpF 1)).length ≤ Ss.length := List.length_filter_le _ _
    split
    · show _ + 0 ≤ _; omega
    · show _ + 1 ≤ _; omega
  have hsb14 : sbC bx ≤ 1400 := by unfold sbC; split <;> omega
  have fin : ¬ (bx = [] ∧ hdC Ss = false) → ∀ d', 8 ≤ d' → ∀ (h3 : pm_S) (o3 : Nat → Nat) (cap3 c s : Nat) (Zs : List cS), cF G (cU h) h o h3 o3 c s → c ≤ 30 → s ≤ 2500 → (cX G (o3) (h3) x dr pi pg ba kD lD rD kP lP rP room nn pw ts ps bx Ss Lb) → cAL G o3 h3 lP cap3 (Zs.map (·.1)) → (∀ Z ∈ Zs, cSG G o3 h3 Z) → (sbC bx ≤ 800 → ∀ Z ∈ Zs, cRS G o3 h3 Z) → Zs.map gS = plC nn Ss bx → (∀ Z ∈ Zs, Z.2.2.1 ≠ pi ∧ Z.2.2.1 ≠ lP ∧ Z.2.2.1 ≠ lD) → (∀ Z ∈ Zs, Z.2.2.2.1 ≠ pg ∧ Z.2.2.2.1 ≠ rP ∧ Z.2.2.2.1 ≠ rD) → (Zs.flatMap dS).Pairwise (fun p q => p.1 ≠ q.1) → ps_X G d' 49 57 [some (.ref x), some (iN (sbC bx)), none] [] h3 Q := by
    intro hno d hd h3 o3 cap3 c s Zs F hc hsl3 Y3 PL SZ RZ hZ z1 z2 hndZ
    have hZl : Zs.length = (plC nn Ss bx).length := by rw [← hZ, List.length_map]
    have Y3' := Y3
    obtain ⟨Z0, ⟨pf3, bf3, y1, _⟩, _, _, _, _, _, ⟨T3, _, L3, R3⟩, _⟩ := Y3'
    have hll2 : (lG 1 (Zs.map gS)).length < 900000 := by rw [hZ]; omega
    first | refine ps_s_al p49_57 rfl ?_ | refine ps_s_aln p49_57 rfl ?_
    refine ps_s_gf p49_58 y1 rfl ?_
    refine ps_s_k p49_61 ?_
    refine ps_s_vV [_] _ p49_62 rfl T3.1 rfl rfl rfl (ct_write Z0.1 T3 PL SZ R3 (by omega) (by omega) hll2 (fun h4 q1 q2 => ps_bkv ?_) d (by omega))
    rw [hZ] at q2
    have Y4 := cx_prow Y3 q1 q2
    obtain ⟨⟨j1, j2, j3, j4, j5⟩, ⟨j6, j7, j8⟩, ⟨j9, j10, j11⟩, _, _⟩ := cx_K Y3
    have rk := row_k R3
    have PL4 := al_fr PL q1 (kne j10 j11 (by decide))
    have SZ4 : ∀ Z ∈ Zs, cSG G o3 h4 Z := fun Z hZ => sg_frk (SZ Z hZ) q1 (fun u y hu hy => by rw [rk u y hu hy]; decide)
    have RZ4 : sbC bx ≤ 800 → ∀ Z ∈ Zs, cRS G o3 h4 Z := fun hq Z hZ => rw_fr (RZ hq Z hZ) q1 (z2 Z hZ).2.1
    have U4 := cu_trans w0 F (cu_one q1 j11 (by decide) (by decide))
    have Y4' := Y4
    obtain ⟨V0, ⟨pf4, bf4, v1, _⟩, _, _, _, _, _, ⟨T4, _⟩, _⟩ := Y4'
    obtain ⟨_, _, fs4, l4⟩ := al_own PL4
    have bad : (room - (Lb.length + (Ss.map (fun S => (bG (gS S)).length)).sum) < cmC nn Ss bx ∨ 10 < (plC nn Ss bx).length) → ps_X G d 49 88 [some (.ref x), some (iN (sbC bx)), none] [] h4 Q := by
      intro q
      refine ps_s_th p49_88 ?_
      exact K1 hno q h4 o3 _ _ U4 (by omega) (by omega) Y4
    first | refine ps_s_al p49_65 rfl ?_ | refine ps_s_aln p49_65 rfl ?_
    refine ps_s_gf p49_66 v1 rfl ?_
    refine ps_s_gf p49_69 T4.1 rfl ?_
    refine ps_s_vV [] _ p49_72 rfl l4 rfl rfl rfl (al_sizem PL4 (ps_bki ?_) d (by omega))
    refine ps_s_k p49_75 ?_
    refine ps_s_gt p49_77 (by omega) (by omega) (fun c77 => ?_) (fun c77 => ?_)
    · exact bad (.inr (by omega))
    · refine ps_s_al p49_80 rfl ?_
      refine ps_s_il p49_81 rfl ?_
      refine ps_s_vV [_] _ p49_82 rfl v1 rfl rfl rfl (x_room Y4 q2 (by omega) (by omega) (by omega) hlb hb hrm hu (fun q => ps_bki ?_) (fun q => ps_bki ?_) d (by omega))
      · have hok : ¬ (room - (Lb.length + (Ss.map (fun S => (bG (gS S)).length)).sum) < cmC nn Ss bx ∨ 10 < (plC nn Ss bx).length) := by
          unfold cmC
          omega
        have hs8 : sbC bx ≤ 800 := by omega
        refine ps_s_ne0 p49_85 (by omega) (fun c85 => ?_) (fun c85 => ?_)
        · refine ps_s_al p49_98 rfl ?_
          refine ps_s_il p49_99 rfl ?_
          refine ps_s_vV [_] _ p49_100 rfl v1 rfl rfl rfl (x_write Y4 q2 (by omega) (by omega) (by omega) hndS (fun q h5 r1 r2 => ps_bki ?_) (fun q h5 r1 r2 => ps_bki ?_) d (by omega))
          · refine ps_s_is2 p49_103 ?_
            refine ps_s_il p49_104 rfl ?_
            refine ps_s_k p49_105 ?_
            refine ps_s_j p49_106 (fun _ => ?_) (fun c => absurd c (by decide))
            refine ps_s_il p49_127 rfl ?_
            refine ps_s_ri p49_128 t49 ?_
            exact K2 hno hok q h5 o3 _ _ (cu_trans w0 U4 r1) (by omega) (by omega) r2
          · obtain ⟨Y5, _⟩ := cy_swap Y4 PL4 SZ4 (RZ4 hs8) q2 r1 r2 z1 z2
            have U5 := cu_trans w0 U4 (cu_one r1 (cx_K Y4).1.1 (by decide) (by decide))
            have Y5' := Y5
            obtain ⟨W0, ⟨pf5, bf5, e5, _⟩, _, _, _, ⟨T5, ⟨cap5, A5⟩, SS5, _⟩, _⟩ := Y5'
            refine ps_s_is2 p49_103 ?_
            refine ps_s_il p49_104 rfl ?_
            refine ps_s_k p49_105 ?_
            refine ps_s_j p49_106 (fun c => absurd (of_decide_eq_true c) (i_nm1 (by omega))) (fun _ => ?_)
            first | refine ps_s_al p49_109 rfl ?_ | refine ps_s_aln p49_109 rfl ?_
            refine ps_s_gf p49_110 e5 rfl ?_
            refine ps_s_vV [] _ p49_113 rfl T5.1 rfl rfl rfl (ct_settle W0.1 T5 A5 SS5 (by omega) hndZ (fun h6 s1 s2 => ps_bkv ?_) d (by omega))
            have Y6 := cy_docs Y5 s1 s2 (fun _ => rfl)
            have U6 := cu_trans w0 U5 (cu_of s1 (fun u hu => by
              obtain ⟨S, hS, p, hp, rfl⟩ := hu
              exact cu_K (dc_K ((SS5 S hS).2.2.1.2.1 p hp)) (by decide) (by decide)))
            have Y6' := Y6
            obtain ⟨E0, _⟩ := Y6'
            obtain ⟨fe, hem⟩ := E0.2.2.1
            have f7 : cF G (fun _ => False) h6 o3 (pm_add h6 (pm_o 2 (pm_zero 2)) 3) (va_up o3 h6.2.1 h6.2.1) 1 3 := cf_add E0.1 (Nat.le_refl _)
            have hoe2 : va_up o3 h6.2.1 h6.2.1 G.2.2 < G.1 := by rw [cf_own f7 hem]; exact E0.2.2.2
            first | refine ps_s_al p49_116 rfl ?_ | refine ps_s_aln p49_116 rfl ?_
            refine ps_s_nw p49_117 ?_
            refine ps_s_dup p49_120 rfl ?_
            refine ps_s_vP [] _ p49_121 rfl rfl rfl rfl (al_new f7.1 pa_eq E0.2.1 (if_pos rfl) (cf_get f7 hem (fun q => q)) hoe2 (fun h8 t1 t2 => ps_bkv ?_) d (by omega))
            have F8 := cf_trans E0.1 f7 t1 (fun u _ hu => .inr (by rw [hu]; exact Nat.le_refl _))
            have Y8 := cy_nil Y6 F8 (fun _ _ q => q.elim)
            have Y8' := Y8
            obtain ⟨D0, ⟨pf8, bf8, e8, _⟩, _, ⟨⟨cp8, PI8⟩, _⟩, _, ⟨T8, ⟨cd8, AD8⟩, SS8, _⟩, ⟨_, ⟨cl8, zs8, AP8⟩, _⟩, N8⟩ := Y8'
            have lt6 : ∀ u n, cK h6 u n → u ≠ h6.2.1 := fun u n hu => by
              have := cw_lt E0.1 hu.choose_spec.1
              omega
            have Y6'' := Y6
            obtain ⟨_, _, _, ⟨⟨cp6, PI6⟩, _⟩, _, ⟨_, ⟨cd6, AD6⟩, SS6, _⟩, ⟨_, ⟨cl6, zs6, AP6⟩, _⟩, _⟩ := Y6''
            obtain ⟨Xf, Ff⟩ := cy_buf (pf0 := 0) (nb := h6.2.1) (u8 := .int pf8) (u9 := .int bf8) Y8 t2 ⟨fun e => lt6 _ _ (al_K PI6) e.symm, fun e => lt6 _ _ (al_K AD6) e.symm, fun e => lt6 _ _ (al_K AP6) e.symm⟩ (fun S hS => lt6 _ 3 ((SS6 S hS).2.2.1.1.elim (fun _ A => al_K A))) e8 rfl
            have U8 := cu_trans w0 U6 (cu_of F8 (fun _ q => q.elim))
            have U9 := cu_trans w0 U8 (cu_one (n := 1) Ff ⟨_, e8, rfl⟩ (by decide) (by decide))
            refine ps_s_pf p49_124 e8 (by omega) rfl (ps_blt rfl) ?_
            refine ps_s_il p49_127 rfl ?_
            refine ps_s_ri p49_128 t49 ?_
            exact K3 hno hok q _ _ _ _ _ Zs U9 (by omega) (by omega) hZ Xf
        · exact absurd c85 (by decide)
      · refine ps_s_ne0 p49_85 (by omega) (fun c85 => ?_) (fun c85 => ?_)
        · exact absurd rfl c85
        · exact bad (.inl (by unfold cmC; omega))
  have main : ∀ d', 8 ≤ d' → ¬ (bx = [] ∧ hdC Ss = false) → ps_X G d' 49 22 [some (.ref x), none, none] [] h Q := by
    intro d hd hno
    first | refine ps_s_al p49_22 rfl ?_ | refine ps_s_aln p49_22 rfl ?_
    refine ps_s_gf p49_23 x1 rfl ?_
    refine ps_s_gf p49_26 T2.1 rfl ?_
    refine ps_s_vV [] _ p49_29 rfl p1 rfl rfl rfl (al_clear w0 AP (fun h1 q1 q2 => ps_bkv ?_) d (by omega))
    have Y1 := cx_plan X q1 q2
    have U1 := cu_one q1 k10 (by decide) (by decide)
    have Y1' := Y1
    obtain ⟨Z0, ⟨pf1, bf1, y1, _⟩, _, _, _, _, ⟨T1, ⟨cD1, AD1⟩, _⟩, _⟩ := Y1'
    obtain ⟨_, _, fs1, a1⟩ := al_own AD1
    first | refine ps_s_al p49_32 rfl ?_ | refine ps_s_aln p49_32 rfl ?_
    refine ps_s_k p49_33 ?_
    first | refine ps_s_al p49_34 rfl ?_ | refine ps_s_aln p49_34 rfl ?_
    refine ps_s_gf p49_35 y1 rfl ?_
    refine ps_s_gf p49_38 T1.1 rfl ?_
    refine ps_s_vV [] _ p49_41 rfl a1 rfl rfl rfl (al_sizem AD1 (ps_bki ?_) d (by omega))
    refine ps_s_k p49_44 ?_
    refine ps_s_vV [_, _, _] _ p49_45 rfl y1 rfl rfl rfl (x_keep (SL := []) (SM := Ss) (SR := []) Y1 (by rw [List.append_nil]; rfl) rfl (by show Ss.length = 0 + Ss.length; omega) q2 (by omega) hn (by show 0 + Ss.length ≤ 20; omega) (fun h2 o2 cap2 c2 s2 r1 Y2 r3 r4 r5 => ps_bkv ?_) d (by omega))
    rw [List.nil_append] at r3
    have U2 := cu_trans w0 U1 (cu_one r1 (cx_K Y1).2.2.1.2.1 (by decide) (by decide))
    have Y2' := Y2
    obtain ⟨W0, ⟨pf2, bf2, w1, _⟩, _, _, _, LDb, ⟨T2', _, SS2, RR2, _⟩, _, ⟨⟨_, _, _, _, _, nb6⟩, _⟩⟩ := Y2'
    have hfs : ∀ Z ∈ Ss.filter (kpF 1), Z ∈ Ss := fun Z hZ => (List.mem_filter.mp hZ).1
    have hz1 : ∀ Z ∈ Ss.filter (kpF 1), Z.2.2.1 ≠ pi ∧ Z.2.2.1 ≠ lP ∧ Z.2.2.1 ≠ lD := fun Z hZ => ⟨(n8 Z (hfs Z hZ)).1, (n8 Z (hfs Z hZ)).2.2.1, (n8 Z (hfs Z hZ)).2.1⟩
    have hz2 : ∀ Z ∈ Ss.filter (kpF 1), Z.2.2.2.1 ≠ pg ∧ Z.2.2.2.1 ≠ rP ∧ Z.2.2.2.1 ≠ rD := fun Z hZ => ⟨(n9 Z (hfs Z hZ)).1, (n9 Z (hfs Z hZ)).2.2, (n9 Z (hfs Z hZ)).2.1⟩
    have hfl : (Ss.filter (kpF 1)).length ≤ Ss.length := List.length_filter_le _ _
    first | refine ps_s_al p49_48 rfl ?_ | refine ps_s_aln p49_48 rfl ?_
    first | refine ps_s_al p49_49 rfl ?_ | refine ps_s_aln p49_49 rfl ?_
    refine ps_s_gf p49_50 w1 rfl ?_
    refine ps_s_vV [_] _ p49_53 rfl w1 rfl rfl rfl (x_newseg Y2 r3 LDb n6 hs hsl (by rw [List.length_map]; omega) hnn (fun q => ps_bki ?_) (fun q h3 o3 cap3 sa r c3 s3 t1 Y3 t3 t4 t5 t6 t7 t8 t9 => ps_bki ?_) d (by omega))
    · have esb : sbC bx = 0 := by unfold sbC; rw [if_pos q]
      have epl : (Ss.filter (kpF 1)).map gS = plC nn Ss bx := by unfold plC nwC; rw [if_pos q, List.append_nil]
      refine ps_s_is1 p49_56 ?_
      rw [← esb]
      exact fin hno d hd h2 o2 cap2 _ _ (Ss.filter (kpF 1)) U2 (by omega) (by omega) Y2 r3 (fun Z hZ => SS2 Z (hfs Z hZ)) (fun _ Z hZ => RR2 Z (hfs Z hZ)) epl hz1 hz2 (hndS.sublist (fl_sub _ _ _))
    · have esb : sbC bx = (sB (bx.map (·.2.1))).length := by unfold sbC; rw [if_neg q]
      have eg : gS (sa, nn + 1, ba, r, bx) = (nn + 1, bx.map (·.2)) := rfl
      have epl : (Ss.filter (kpF 1) ++ [(sa, nn + 1, ba, r, bx)]).map gS = plC nn Ss bx := by unfold plC nwC; rw [if_neg q, List.map_append]; rfl
      obtain ⟨⟨j1, j2, j3, j4, j5⟩, ⟨j6, j7, j8⟩, ⟨j9, j10, j11⟩, _, _⟩ := cx_K Y2
      have U3 := cu_trans w0 U2 (cu_of t1 (fun u hu => by
        rcases hu with rfl | rfl
        · exact cu_K j4 (by decide) (by decide)
        · exact cu_K j10 (by decide) (by decide)))
      have lt2 : ∀ u n, cK h2 u n → r ≠ u := fun u n hu => by
        have := cw_lt W0.1 hu.choose_spec.1
        omega
      have Y3' := Y3
      obtain ⟨_, _, _, _, _, _, ⟨_, _, SS3, RR3, _⟩, _⟩ := Y3'
      refine ps_s_is1 p49_56 ?_
      rw [← esb]
      refine fin hno d hd h3 o3 cap3 _ _ (Ss.filter (kpF 1) ++ [(sa, nn + 1, ba, r, bx)]) U3 (by omega) (by omega) Y3 (by rw [List.map_append]; exact t3) (fun Z hZ => ?_) (fun hc Z hZ => ?_) epl (fun Z hZ => ?_) (fun Z hZ => ?_) ?_
      · rcases List.mem_append.mp hZ with hZ | hZ
        · exact SS3 Z (hfs Z hZ)
        · rw [List.mem_singleton.mp hZ]; exact t4
      · rcases List.mem_append.mp hZ with hZ | hZ
        · exact RR3 Z (hfs Z hZ)
        · rw [List.mem_singleton.mp hZ]; exact t5 (by omega)
      · rcases List.mem_append.mp hZ with hZ | hZ
        · exact hz1 Z hZ
        · rw [List.mem_singleton.mp hZ]; exact ⟨n4, n6, n5⟩
      · rcases List.mem_append.mp hZ with hZ | hZ
        · exact hz2 Z hZ
        · rw [List.mem_singleton.mp hZ]; exact ⟨lt2 _ _ j4, lt2 _ _ j11, lt2 _ _ j8⟩
      · rw [List.flatMap_append, show [(sa, nn + 1, ba, r, bx)].flatMap dS = bx by simp]
        exact hnd.sublist (List.Sublist.append (fl_sub _ _ _) (List.Sublist.refl _))
  refine ps_M_in (e49 _) l49 (fun d hd => ?_)
  refine ps_s_al p49_0 rfl ?_
  refine ps_s_gf p49_1 x1 rfl ?_
  refine ps_s_vV [] _ p49_4 rfl b1 rfl rfl rfl (al_isEmpty B (fun q => ps_bki ?_) (fun q => ps_bki ?_) d (by omega))
  · have hb0 : bx = [] := List.map_eq_nil_iff.mp q
    refine ps_s_eq0 p49_7 (by omega) (fun c7 => ?_) (fun c7 => ?_)
    · exact absurd c7 (by decide)
    · first | refine ps_s_al p49_10 rfl ?_ | refine ps_s_aln p49_10 rfl ?_
      refine ps_s_gf p49_11 x1 rfl ?_
      refine ps_s_vV [] _ p49_14 rfl T.1 rfl rfl rfl (ct_doomed T AD SS (by omega) (ps_bki ?_) d (by omega))
      by_cases hh : hdC Ss = true
      · rw [show (Ss.any (fun S => decide (kc 1 (S.2.2.2.2.map (·.2)) < kc 0 (S.2.2.2.2.map (·.2))))) = true from hh, show bN true = 1 from rfl]
        refine ps_s_ne0 p49_17 (by omega) (fun c17 => ?_) (fun c17 => ?_)
        · exact main d hd (fun q => by rw [hh] at q; exact absurd q.2 (by decide))
        · exact absurd (by decide) c17
      · rw [Bool.not_eq_true] at hh
        rw [show (Ss.any (fun S => decide (kc 1 (S.2.2.2.2.map (·.2)) < kc 0 (S.2.2.2.2.map (·.2))))) = false from hh, show bN false = 0 from rfl]
        refine ps_s_ne0 p49_17 (by omega) (fun c17 => ?_) (fun c17 => ?_)
        · exact absurd rfl c17
        · refine ps_s_k p49_20 ?_
          refine ps_s_ri p49_21 t49 ?_
          exact K0 hb0 hh
  · have hb0 : bx ≠ [] := fun e => q (by rw [e]; rfl)
    refine ps_s_eq0 p49_7 (by omega) (fun c7 => ?_) (fun c7 => ?_)
    · exact main d hd (fun q => hb0 q.1)
    · exact absurd rfl c7
end XCM
