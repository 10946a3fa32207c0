/-! The shelf: delete. -/
def dmA (q : Nat) (y : Nat × pD) : Nat × pD := if y.1 = q then (y.1, (y.2.1, y.2.2.1, 1)) else y
def mpA (q : Nat) (S : cS) : cS := (S.1, S.2.1, S.2.2.1, S.2.2.2.1, (dS S).map (dmA q))
theorem dmA_1 (q : Nat) (y : Nat × pD) : (dmA q y).1 = y.1 := by unfold dmA; split <;> rfl
theorem dmA_d (q : Nat) (y : Nat × pD) : (dmA q y).2.1 = y.2.1 := by unfold dmA; split <;> rfl
theorem dmA_x (q : Nat) (y : Nat × pD) : (dmA q y).2.2.1 = y.2.2.1 := by unfold dmA; split <;> rfl
theorem mpA_bG (q : Nat) (S : cS) : bG (gS (mpA q S)) = bG (gS S) := by
  unfold bG gS mpA
  congr 1
  show (((dS S).map (dmA q)).map (·.2)).map (·.1) = ((dS S).map (·.2)).map (·.1)
  rw [List.map_map, List.map_map, List.map_map]
  apply List.map_congr_left
  intro y _
  exact dmA_d q y
section XDE
variable {G : pm_G} {o : Nat → Nat} {h : pm_S} {x dr pi pg ba kD lD rD kP lP rP room nn : Nat} {pw : Option Nat} {ts : List Nat} {ps : List (Nat × List Nat)} {bx : List (Nat × pD)} {Ss : List cS} {Lb : List Nat} {Q : pm_Q}
theorem x_delete {a : Int32} (X : (cX G o h x dr pi pg ba kD lD rD kP lP rP room nn pw ts ps bx Ss Lb)) (hbn : bx.length ≤ 12) (hn : Ss.length ≤ 1000)
    (K1 : ∀ M p R, bx = M ++ p :: R → Int32.ofNat p.2.1.1 = a → (∀ y ∈ M, ¬ Int32.ofNat y.2.1.1 = a) → ∀ h', cF G (cU h) h o h' o 0 0 → (cX G o (h') x dr pi pg ba kD lD rD kP lP rP room nn pw ts ps (M ++ R) Ss Lb) → Q (.inl (some (iN 1))) h')
    (K2 : (∀ y ∈ bx, ¬ Int32.ofNat y.2.1.1 = a) → (∀ S ∈ Ss, ∀ p ∈ dS S, Int32.ofNat p.2.1.1 = a → ¬ p.2.2.1 = 0) → Q (.inl (some (iN 0))) h)
    (K3 : (∀ y ∈ bx, ¬ Int32.ofNat y.2.1.1 = a) → ∀ S ∈ Ss, ∀ p ∈ dS S, Int32.ofNat p.2.1.1 = a → p.2.2.1 = 0 → p.2.2.2 = 1 → Q (.inl (some (iN 0))) h)
    (K4 : (∀ y ∈ bx, ¬ Int32.ofNat y.2.1.1 = a) → ∀ S ∈ Ss, ∀ p ∈ dS S, Int32.ofNat p.2.1.1 = a → p.2.2.1 = 0 → p.2.2.2 = 0 → ∀ h', cF G (cU h) h o h' o 0 0 → (cX G o (h') x dr pi pg ba kD lD rD kP lP rP room nn pw ts ps bx (Ss.map (mpA p.1)) Lb) → Q (.inl (some (iN 1))) h') : ps_M G 5 7 [.ref x, .int a] h Q := by
  obtain ⟨⟨k1, k2, k3, k4, k5⟩, ⟨k6, k7, k8⟩, ⟨k9, k10, k11⟩, KS, KB⟩ := cx_K X
  have X' := X
  obtain ⟨X0, X2, X3, X4, ⟨L5, X5⟩, X6, ⟨T, ⟨cap, A⟩, SS, RR, R⟩, X8, X9⟩ := X'
  obtain ⟨⟨capB, B⟩, B2, B3⟩ := X6
  obtain ⟨pf, bf, x1, x2⟩ := X2
  obtain ⟨_, _, fs, a1⟩ := al_own A
  obtain ⟨_, _, fs2, b1⟩ := al_own B
  have loop : ∀ d', 4 ≤ d' → ∀ (R M : List (Nat × pD)), M ++ R = bx → (∀ y ∈ M, ¬ Int32.ofNat y.2.1.1 = a) → ps_X G d' 7 2 [some (.ref x), some (.int a), some (iN M.length)] [] h Q := by
    intro d hd R'
    induction R' with
    | nil =>
      intro M hM hno
      rw [List.append_nil] at hM
      subst hM
      refine ps_s_il p7_2 rfl ?_
      first | refine ps_s_al p7_3 rfl ?_ | refine ps_s_aln p7_3 rfl ?_
      refine ps_s_gf p7_4 x1 rfl ?_
      refine ps_s_vV [] _ p7_7 rfl b1 rfl rfl rfl (al_sizem B (ps_bki ?_) d (by omega))
      refine ps_s_ge p7_10 (by omega) (by omega) (fun c10 => ?_) (fun c10 => ?_)
      · refine ps_s_al p7_48 rfl ?_
        refine ps_s_gf p7_49 x1 rfl ?_
        refine ps_s_il p7_52 rfl ?_
        refine ps_s_vV [_] _ p7_53 rfl T.1 rfl rfl rfl (ct_find T A SS hn (fun e => ps_bki ?_) (fun S hS p hp e1 e2 => ps_bki ?_) d (by omega))
        · first | refine ps_s_as2 p7_56 ?_ | refine ps_s_asn2 p7_56 ?_
          first | refine ps_s_al p7_57 rfl ?_ | refine ps_s_aln p7_57 rfl ?_
          refine ps_s_jnn p7_58 ?_
          show ps_X _ _ 7 68 _ _ _ _
          refine ps_s_k p7_68 ?_
          refine ps_s_rz p7_69 t7 (by first | exact .inl rfl | exact .inr rfl | exact bN_01 _) ?_
          exact K2 hno e
        · have hdc := (SS S hS).2.2.1.2.1 p hp
          have hdc' := hdc
          obtain ⟨pe, pf', p1, p2, ⟨p3, p4⟩, p5, p6, p7', p8, p9, p10⟩ := hdc'
          first | refine ps_s_as2 p7_56 ?_ | refine ps_s_asn2 p7_56 ?_
          first | refine ps_s_al p7_57 rfl ?_ | refine ps_s_aln p7_57 rfl ?_
          refine ps_s_jnr p7_58 ?_
          show ps_X _ _ 7 61 _ _ _ _
          first | refine ps_s_al p7_61 rfl ?_ | refine ps_s_aln p7_61 rfl ?_
          refine ps_s_gf p7_62 p1 rfl ?_
          refine ps_s_eq0 p7_65 (by omega) (fun c65 => ?_) (fun c65 => ?_)
          · have kp : cK h p.1 6 := dc_K hdc
            have f1 : cF G (· = p.1) h o (pm_put h p.1 (pm_o 5 [iN p.2.1.1, iN p.2.1.2.length, .ref pe, iN 1, iN p.2.2.1])) o 0 0 := cf_put X0.1 p1 (by omega) p4 rfl
            have hkq : ∀ u y, u = p.1 → h.1 u = some y → kd y ≠ 8 ∧ kd y ≠ 9 := by
              intro u y hu hy
              rw [hu, p1] at hy
              cases hy
              exact ⟨by show 6 ≠ 8; decide, by show 6 ≠ 9; decide⟩
            have hbq : ∀ y ∈ M, ¬ y.1 = p.1 := by
              intro y hy q
              obtain ⟨ye, yf, y1, _⟩ := B2 y hy
              rw [q, p1] at y1
              have : iN p.2.1.1 = iN y.2.1.1 := by
                have := congrArg (fun c : Option pm_C => match c with
                  | some (.inl (_, v :: _)) => v
                  | _ => .null) y1
                exact this
              have e3 : Int32.ofNat p.2.1.1 = Int32.ofNat y.2.1.1 := Value.int.inj this
              exact hno y hy (e3.symm.trans e1)
            have hdn : ∀ S' ∈ Ss, ∀ y ∈ dS S', cDC G o (pm_put h p.1 (pm_o 5 [iN p.2.1.1, iN p.2.1.2.length, .ref pe, iN 1, iN p.2.2.1])) (dmA p.1 y).1 (dmA p.1 y).2 := by
              intro S' hS' y hy
              have yd := (SS S' hS').2.2.1.2.1 y hy
              unfold dmA
              by_cases q : y.1 = p.1
              · rw [if_pos q]
                have yd' := yd
                obtain ⟨ye, yf, y1, _, _, _, _, _, _, y9, _⟩ := yd'
                have y1' := y1
                rw [q, p1] at y1'
                have ec : pm_o 5 [iN p.2.1.1, iN p.2.1.2.length, .ref pe, iN 1, iN p.2.2.1] = pm_o 5 [iN y.2.1.1, iN y.2.1.2.length, .ref ye, iN 1, iN y.2.2.1] := by
                  have := congrArg (fun c : Option pm_C => match c with
                    | some (.inl (_, [v0, v1, v2, _, v4])) => pm_o 5 [v0, v1, v2, iN 1, v4]
                    | _ => pm_o 5 []) y1'
                  exact this
                rw [ec]
                exact dc_put y1 yd (by rw [q]; exact pp_eq) (fun z hz => pp_ne (by rw [← q]; exact hz)) y9 (Nat.le_refl _)
              · rw [if_neg q]
                exact dc_fr yd f1 q
            first | refine ps_s_al p7_70 rfl ?_ | refine ps_s_aln p7_70 rfl ?_
            refine ps_s_k p7_71 ?_
            refine ps_s_pf p7_72 p1 (by omega) rfl (ps_blt rfl) ?_
            refine ps_s_k p7_75 ?_
            refine ps_s_rz p7_76 t7 (by first | exact .inl rfl | exact .inr rfl | exact bN_01 _) ?_
            refine K4 hno S hS p hp e1 e2 c65 _ (cu_one f1 kp (by decide) (by decide)) ?_
            refine ⟨g0_fr X0 f1, sh_fr ⟨pf, bf, x1, x2⟩ f1 (kne k1 kp (by decide)), dr_fr X3 f1 (kne k2 kp (by decide)), pi_fr X4 f1 (kne k3 kp (by decide)) hkq, ⟨L5, rw_fr X5 f1 (kne k4 kp (by decide))⟩, ld_fr ⟨⟨capB, B⟩, B2, B3⟩ f1 (kne k5 kp (by decide)) hbq, ⟨ct_frk T f1 (fun u y hu hy => ?_), ⟨cap, ?_⟩, ?_, ?_, rw_fr R f1 (kne k8 kp (by decide))⟩, pl_fr X8 f1 (kne k9 kp (by decide)) (kne k10 kp (by decide)) (kne k11 kp (by decide)), ?_⟩
            · have hu' : u = p.1 := hu
              rw [hu', p1] at hy
              cases hy
              show 6 ≠ 5
              decide
            · rw [List.map_map]
              exact al_fr A f1 (kne k7 kp (by decide))
            · intro S' hS'
              obtain ⟨S0, h0, rfl⟩ := List.mem_map.mp hS'
              obtain ⟨s1, ⟨s2, s3⟩, ⟨⟨cs, s4⟩, s5, s6⟩, s7⟩ := SS S0 h0
              refine ⟨cf_get f1 s1 (by show ¬ o S0.1 = p.1; rw [s3]; exact kne (KS S0 h0).1 kp (by decide)), ⟨s2, s3⟩, ⟨⟨cs, ?_⟩, ?_, by show ((dS S0).map (dmA p.1)).length ≤ 2000; rw [List.length_map]; exact s6⟩, s7⟩
              · show cAL G o _ S0.2.2.1 cs (((dS S0).map (dmA p.1)).map (·.1))
                rw [List.map_map, show ((fun y : Nat × pD => y.1) ∘ dmA p.1) = (fun y => y.1) from funext (fun y => dmA_1 p.1 y)]
                exact al_fr s4 f1 (kne (KS S0 h0).2.1 kp (by decide))
              · intro y hy
                obtain ⟨y0, hy0, rfl⟩ := List.mem_map.mp hy
                exact hdn S0 h0 y0 hy0
            · intro S' hS'
              obtain ⟨S0, h0, rfl⟩ := List.mem_map.mp hS'
              show cRW G o _ S0.2.2.2.1 (bG (gS (mpA p.1 S0))).length (bG (gS (mpA p.1 S0)))
              rw [mpA_bG]
              exact rw_fr (RR S0 h0) f1 (kne (KS S0 h0).2.2.1 kp (by decide))
            · obtain ⟨n1, n2, n3, n4⟩ := X9
              refine ⟨n1, n2, fun S' hS' => ?_, fun S' hS' => ?_⟩
              · obtain ⟨S0, h0, rfl⟩ := List.mem_map.mp hS'
                exact n3 S0 h0
              · obtain ⟨S0, h0, rfl⟩ := List.mem_map.mp hS'
                exact n4 S0 h0
          · refine ps_s_k p7_68 ?_
            refine ps_s_rz p7_69 t7 (by first | exact .inl rfl | exact .inr rfl | exact bN_01 _) ?_
            exact K3 hno S hS p hp e1 e2 (by omega)
      · omega
    | cons p R' ih =>
      intro M hM hno
      have hlen : M.length + (R'.length + 1) = bx.length := by rw [← hM, List.length_append, List.length_cons]
      have hm : p ∈ bx := by rw [← hM]; exact List.mem_append_right _ (List.mem_cons_self ..)
      obtain ⟨pe, pf', p1, _⟩ := B2 p hm
      have hg : (bx.map (·.1))[M.length]? = some p.1 := by rw [List.getElem?_map, ← hM, get_pre]; rfl
      have nx := ih (M ++ [p]) (by rw [List.append_assoc]; exact hM)
      rw [List.length_append] at nx
      refine ps_s_il p7_2 rfl ?_
      first | refine ps_s_al p7_3 rfl ?_ | refine ps_s_aln p7_3 rfl ?_
      refine ps_s_gf p7_4 x1 rfl ?_
      refine ps_s_vV [] _ p7_7 rfl b1 rfl rfl rfl (al_sizem B (ps_bki ?_) d (by omega))
      refine ps_s_ge p7_10 (by omega) (by omega) (fun c10 => ?_) (fun c10 => ?_)
      · omega
      · first | refine ps_s_al p7_13 rfl ?_ | refine ps_s_aln p7_13 rfl ?_
        refine ps_s_gf p7_14 x1 rfl ?_
        refine ps_s_il p7_17 rfl ?_
        refine ps_s_vV [_] _ p7_18 rfl b1 rfl rfl rfl (al_get B hg (ps_bki ?_) d (by omega))
        refine ps_s_ck p7_21 p1 ?_
        refine ps_s_gf p7_24 p1 rfl ?_
        refine ps_s_il p7_27 rfl ?_
        refine ps_s_j p7_28 (fun c => ?_) (fun c => ?_)
        · have hne : ¬ Int32.ofNat p.2.1.1 = a := of_decide_eq_true c
          refine ps_s_in2 p7_42 ?_
          refine ps_s_go p7_45 ?_
          refine nx (fun y hy => ?_)
          rcases List.mem_append.mp hy with hy | hy
          · exact hno y hy
          · rw [List.mem_singleton.mp hy]; exact hne
        · have heq : Int32.ofNat p.2.1.1 = a := Decidable.not_not.mp (of_decide_eq_false c)
          first | refine ps_s_al p7_31 rfl ?_ | refine ps_s_aln p7_31 rfl ?_
          refine ps_s_gf p7_32 x1 rfl ?_
          refine ps_s_il p7_35 rfl ?_
          refine ps_s_vV [_] _ p7_36 rfl b1 rfl rfl rfl (al_remove X0.1 B hg (fun h' q1 q2 => ps_bki ?_) d (by omega))
          have e1 : (bx.map (·.1)).eraseIdx M.length = (M ++ R').map (·.1) := by
            rw [← map_er, ← hM, List.eraseIdx_append_of_length_le (Nat.le_refl _), Nat.sub_self]
            rfl
          rw [e1] at q2
          have N : cLD G o h' ba (M ++ R') := by
            refine ⟨⟨capB, q2⟩, fun y hy => ?_, by rw [List.length_append]; omega⟩
            have hyb : y ∈ bx := by
              rw [← hM]
              rcases List.mem_append.mp hy with hy | hy
              · exact List.mem_append_left _ hy
              · exact List.mem_append_right _ (List.mem_cons_of_mem _ hy)
            exact dc_fr (B2 y hyb) q1 (kne (dc_K (B2 y hyb)) k5 (by decide))
          refine ps_s_pop p7_39 rfl ?_
          refine ps_s_k p7_40 ?_
          refine ps_s_rz p7_41 t7 (by first | exact .inl rfl | exact .inr rfl | exact bN_01 _) ?_
          exact K1 M p R' hM.symm heq hno h' (cu_one q1 k5 (by decide) (by decide)) (cx_buf X q1 N)
  refine ps_M_in (e7 _ _) l7 (fun d hd => ?_)
  refine ps_s_k p7_0 ?_
  refine ps_s_is2 p7_1 ?_
  exact loop d hd bx [] rfl (fun y hy => absurd hy List.not_mem_nil)
end XDE
