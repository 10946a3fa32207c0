/-! The shelf: combine, add. -/
theorem two_last {α : Type} : ∀ l : List α, 2 ≤ l.length → ∃ P b t, l = P ++ [b, t] := by
  intro l hl
  refine ⟨l.take (l.length - 2), l[l.length - 2], l[l.length - 1], ?_⟩
  have e1 : l.drop (l.length - 2) = [l[l.length - 2], l[l.length - 1]] := by
    rw [List.drop_eq_getElem_cons (by omega), List.drop_eq_getElem_cons (by omega), List.drop_eq_nil_of_le (by omega)]
    congr 3
    omega
  rw [← e1, List.take_append_drop]
section XCO
variable {G : pm_G} {o : Nat → Nat} {h : pm_S} {x dr pi pg ba kD lD rD kP lP rP room nn : Nat} {pw : Option Nat} {ts : List Nat} {ps : List (Nat × List Nat)} {bx : List (Nat × pD)} {Ss : List cS} {Lb : List Nat} {Q : pm_Q}
theorem q_lv {d y pc nx n q : Nat} {ls : pm_V} {st : List Value} {mk : List Nat} (h7 : ps_gf y pc 7 1 nx) (h8 : ps_gf y pc 8 3 nx) (hq : cQ G o h n q mk) (K : ps_X G d y nx ls (iN (lv mk) :: st) h Q) : ps_X G d y pc ls (.ref q :: st) h Q := by
  cases n with
  | zero => exact hq.elim
  | succ n =>
    rcases hq with ⟨t, h1, rfl, h3, h4, h5⟩ | ⟨w, b, p, m1, m2, h1, rfl, h3, h4, h5, h6⟩
    · refine ps_s_gf h7 h3 rfl ?_
      rw [show lv [t] = 1 by show (if t < 16 then 1 else 0) + 0 = 1; rw [if_pos h1]] at K
      exact K
    · exact ps_s_gf h8 h3 rfl K
theorem q_ck {d y pc nx n q : Nat} {ls : pm_V} {st : List Value} {mk : List Nat} (h7 : ps_ck y pc 7 nx) (h8 : ps_ck y pc 8 nx) (hq : cQ G o h n q mk) (K : ps_X G d y nx ls (.ref q :: st) h Q) : ps_X G d y pc ls (.ref q :: st) h Q := by
  rcases cq_kind _ _ _ hq with ⟨gq, q1⟩ | ⟨gq, q1⟩
  · exact ps_s_ck h7 q1 K
  · exact ps_s_ck h8 q1 K
theorem p_new {q w b t n1 n2 : Nat} {m1 m2 : List Nat} {u1 u2 u3 u4 : Value} (wf : cW h o) (e : h.1 q = some (pm_o 8 [u1, u2, u3, u4])) (hg : G.1 ≤ q) (ho : o q = q) (B : cQ G o h n1 b m1) (T : cQ G o h n2 t m2) (K : ∀ h', cF G (· = q) h o h' o 0 0 → h'.1 q = some (pm_o 8 [iN w, .ref b, .ref t, iN (lv m1 + lv m2)]) → Q (.inl none) h') : ps_M G 2 80 [.ref q, iN w, .ref b, .ref t] h Q := by
  have i77 : ∀ (v : Nat) (Q : pm_Q), Q (.inl none) (pm_put h q (pm_o 8 [u1, u2, u3, iN v])) → ps_M G 1 77 [.ref q, iN v] h Q := by
    intro v Q K
    refine ps_M_in (e77 _ _) l77 (fun d hd => ?_)
    first | refine ps_s_al p77_0 rfl ?_ | refine ps_s_aln p77_0 rfl ?_
    refine ps_s_nt p77_1 rfl ?_
    first | refine ps_s_al p77_4 rfl ?_ | refine ps_s_aln p77_4 rfl ?_
    refine ps_s_il p77_5 rfl ?_
    refine ps_s_pf p77_6b e (by omega) rfl (ps_blt rfl) ?_
    refine ps_s_rv p77_9 t77 ?_
    exact K
  have f1 : cF G (· = q) h o (pm_put h q (pm_o 8 [u1, u2, u3, iN (lv m1 + lv m2)])) o 0 0 := cf_put wf e (by omega) ho rfl
  have f2 := cf_put2 (a := q) (x := pm_o 8 [iN w, u2, u3, iN (lv m1 + lv m2)]) wf f1 pp_eq (by omega) (.inl ho) rfl
  have f3 := cf_put2 (a := q) (x := pm_o 8 [iN w, .ref b, u3, iN (lv m1 + lv m2)]) wf f2 pp_eq (by omega) (.inl ho) rfl
  have f4 := cf_put2 (a := q) (x := pm_o 8 [iN w, .ref b, .ref t, iN (lv m1 + lv m2)]) wf f3 pp_eq (by omega) (.inl ho) rfl
  refine ps_M_in (e80 _ _ _ _) l80 (fun d hd => ?_)
  refine ps_s_al p80_0 rfl ?_
  refine ps_s_al p80_1 rfl ?_
  refine q_lv p80_2 p80_2b B ?_
  refine ps_s_al p80_5 rfl ?_
  refine q_lv p80_6 p80_6b T ?_
  first | refine ps_s_add p80_9 ?_ | refine ps_s_2 p80_9 ?_
  refine ps_s_vP [_] _ p80_10 rfl rfl rfl rfl (i77 _ _ (ps_bkv ?_) d (by omega))
  first | refine ps_s_al p80_13 rfl ?_ | refine ps_s_aln p80_13 rfl ?_
  refine ps_s_il p80_14 rfl ?_
  refine ps_s_pf p80_15 pp_eq (by omega) rfl (ps_blt rfl) ?_
  first | refine ps_s_al p80_18 rfl ?_ | refine ps_s_aln p80_18 rfl ?_
  first | refine ps_s_al p80_19 rfl ?_ | refine ps_s_aln p80_19 rfl ?_
  refine ps_s_pf p80_20 pp_eq (by omega) rfl (ps_blt rfl) ?_
  first | refine ps_s_al p80_23 rfl ?_ | refine ps_s_aln p80_23 rfl ?_
  first | refine ps_s_al p80_24 rfl ?_ | refine ps_s_aln p80_24 rfl ?_
  refine ps_s_pf p80_25 pp_eq (by omega) rfl (ps_blt rfl) ?_
  refine ps_s_rv p80_28 t80 ?_
  exact K _ f4 pp_eq
theorem x_combine {a : Int32} (X : (cX G o h x dr pi pg ba kD lD rD kP lP rP room nn pw ts ps bx Ss Lb)) (hp : ps.length ≤ 8)
    (K1 : (¬ ∃ n : Nat, n < 11 ∧ a = Int32.ofNat n) → Q (.inr 0) (pm_gap h 6))
    (K2 : (∃ n : Nat, n < 11 ∧ a = Int32.ofNat n) → ps.length < 2 → Q (.inr 2) (pm_gap h 6))
    (K3 : (∃ n : Nat, n < 11 ∧ a = Int32.ofNat n) → ∀ P b t, ps = P ++ [b, t] → 8 < lv b.2 + lv t.2 → Q (.inr 1) (pm_gap h 6))
    (K4 : ∀ n : Nat, n < 11 → a = Int32.ofNat n → ∀ P b t, ps = P ++ [b, t] → lv b.2 + lv t.2 ≤ 8 → ∀ h' o' q c s, cF G (cU h) h o h' o' c s → c ≤ 3 → s ≤ 100 → (cX G (o') (h') x dr pi pg ba kD lD rD kP lP rP room nn pw ts (P ++ [(q, b.2 ++ (t.2 ++ [16 + n]))]) bx Ss Lb) → Q (.inl (some (iN (P.length + 1)))) h') : ps_M G 4 79 [.ref x, .int a] h Q := by
  obtain ⟨⟨k1, k2, k3, k4, k5⟩, ⟨k6, k7, k8⟩, ⟨k9, k10, k11⟩, KS, KB⟩ := cx_K X
  have X' := X
  obtain ⟨X0, ⟨pf, bf, x1, x2⟩, X3, ⟨⟨cap, A⟩, A2⟩, X5, X6, X7, X8, X9⟩ := X'
  obtain ⟨_, _, fs, a1⟩ := al_own A
  have bad : ∀ d', (¬ ∃ n : Nat, n < 11 ∧ a = Int32.ofNat n) → ps_X G d' 79 10 [some (.ref x), some (.int a), none, none, none] [] h Q := by
    intro d' q
    refine ps_s_th p79_10 ?_
    exact K1 q
  refine ps_M_in (e79 _ _) l79 (fun d hd => ?_)
  refine ps_s_il p79_0 rfl ?_
  refine ps_s_j0 p79_1 (fun c => ?_) (fun c => ?_)
  · refine bad d ?_
    rintro ⟨n, h1, rfl⟩
    exact absurd (of_decide_eq_true c) (i_ge0 (by omega))
  · rcases i_cases a with e | ⟨n, hn, rfl⟩
    · exact absurd e (of_decide_eq_false c)
    · refine ps_s_il p79_4 rfl ?_
      refine ps_s_k p79_5 ?_
      refine ps_s_le p79_7 (by omega) (by omega) (fun c7 => ?_) (fun c7 => ?_)
      · have hex : ∃ k : Nat, k < 11 ∧ Int32.ofNat n = Int32.ofNat k := ⟨n, by omega, rfl⟩
        first | refine ps_s_al p79_20 rfl ?_ | refine ps_s_aln p79_20 rfl ?_
        refine ps_s_gf p79_21 x1 rfl ?_
        refine ps_s_vV [] _ p79_24 rfl a1 rfl rfl rfl (al_sizem A (ps_bki ?_) d (by omega))
        refine ps_s_is2 p79_27 ?_
        refine ps_s_il p79_28 rfl ?_
        refine ps_s_k p79_29 ?_
        refine ps_s_ge p79_30 (by omega) (by omega) (fun c30 => ?_) (fun c30 => ?_)
        · obtain ⟨P, b, t, hP⟩ := two_last ps c30
          subst hP
          have hl : (P ++ [b, t]).length = P.length + 2 := by rw [List.length_append]; rfl
          have gb : ((P ++ [b, t]).map (·.1))[(P ++ [b, t]).length - 2]? = some b.1 := by
            rw [List.getElem?_map, hl, show P.length + 2 - 2 = P.length by omega, get_pre]; rfl
          have gt : ((P ++ [b, t]).map (·.1))[(P ++ [b, t]).length - 1]? = some t.1 := by
            rw [List.getElem?_map, hl, show P ++ [b, t] = (P ++ [b]) ++ [t] by simp, show P.length + 2 - 1 = (P ++ [b]).length by rw [List.length_append]; rfl, get_pre]; rfl
          obtain ⟨B1, B2⟩ := A2 b (by simp)
          obtain ⟨T1, T2⟩ := A2 t (by simp)
          first | refine ps_s_al p79_43 rfl ?_ | refine ps_s_aln p79_43 rfl ?_
          refine ps_s_gf p79_44 x1 rfl ?_
          refine ps_s_il p79_47 rfl ?_
          refine ps_s_k p79_48 ?_
          first | refine ps_s_sub p79_49 (by omega) ?_ | refine ps_s_2 p79_49 ?_
          refine ps_s_vV [_] _ p79_50 rfl a1 rfl rfl rfl (al_get A gb (ps_bki ?_) d (by omega))
          refine q_ck p79_53 p79_53b B1 ?_
          first | refine ps_s_as3 p79_56 ?_ | refine ps_s_asn3 p79_56 ?_
          first | refine ps_s_al p79_57 rfl ?_ | refine ps_s_aln p79_57 rfl ?_
          refine ps_s_gf p79_58 x1 rfl ?_
          refine ps_s_il p79_61 rfl ?_
          refine ps_s_k p79_62 ?_
          first | refine ps_s_sub p79_63 (by omega) ?_ | refine ps_s_2 p79_63 ?_
          refine ps_s_vV [_] _ p79_64 rfl a1 rfl rfl rfl (al_get A gt (ps_bki ?_) d (by omega))
          refine q_ck p79_67 p79_67b T1 ?_
          refine ps_s_as4 p79_70 ?_
          refine ps_s_al p79_72 rfl ?_
          refine q_lv p79_73 p79_73b B1 ?_
          refine ps_s_al p79_76 rfl ?_
          refine q_lv p79_78 p79_78b T1 ?_
          first | refine ps_s_add p79_81 ?_ | refine ps_s_2 p79_81 ?_
          refine ps_s_k p79_82 ?_
          refine ps_s_le p79_84 (by omega) (by omega) (fun c84 => ?_) (fun c84 => ?_)
          · have hkq : ∀ u y, u = pi → h.1 u = some y → kd y ≠ 8 ∧ kd y ≠ 9 := by
              intro u y hu hy
              rw [hu, a1] at hy
              cases hy
              exact k2_89 _
            first | refine ps_s_al p79_97 rfl ?_ | refine ps_s_aln p79_97 rfl ?_
            refine ps_s_gf p79_98 x1 rfl ?_
            refine ps_s_il p79_101 rfl ?_
            refine ps_s_k p79_102 ?_
            first | refine ps_s_sub p79_103 (by omega) ?_ | refine ps_s_2 p79_103 ?_
            refine ps_s_vV [_] _ p79_104 rfl a1 rfl rfl rfl (al_remove X0.1 A gt (fun h2 r1 r2 => ps_bki ?_) d (by omega))
            have e2 : ((P ++ [b, t]).map (·.1)).eraseIdx ((P ++ [b, t]).length - 1) = (P ++ [b]).map (·.1) := by
              rw [← map_er, hl]
              congr 1
              rw [List.eraseIdx_append_of_length_le (by omega), show P.length + 2 - 1 - P.length = 1 by omega]
              rfl
            rw [e2] at r2
            have N1 : cPi G o h2 pi (P ++ [b]) := ⟨⟨cap, r2⟩, fun p hp => by
              have hp' := A2 p (by
                rcases List.mem_append.mp hp with hp | hp
                · exact List.mem_append_left _ hp
                · rw [List.mem_singleton.mp hp]; simp)
              exact ⟨cq_fr r1 hkq _ _ _ hp'.1, hp'.2⟩⟩
            have X2 := cx_pile X r1 N1
            have T1' := cq_fr r1 hkq _ _ _ T1
            have B1' := cq_fr r1 hkq _ _ _ B1
            have X2' := X2
            obtain ⟨Z0, ⟨pf2, bf2, z1, _⟩, Z3, ⟨⟨cap2, C⟩, C2⟩, _⟩ := X2'
            have f1 : cF G (fun _ => False) h2 o (pm_add h2 (pm_o 8 (pm_zero 8)) 4) (va_up o h2.2.1 h2.2.1) 1 4 := cf_add Z0.1 (Nat.le_refl _)
            have o1 : va_up o h2.2.1 h2.2.1 h2.2.1 = h2.2.1 := if_pos rfl
            have nok : ∀ u y, (fun _ : Nat => False) u → h2.1 u = some y → kd y ≠ 8 ∧ kd y ≠ 9 := fun _ _ q => q.elim
            refine ps_s_pop p79_107 rfl ?_
            first | refine ps_s_al p79_108 rfl ?_ | refine ps_s_aln p79_108 rfl ?_
            refine ps_s_gf p79_109 z1 rfl ?_
            refine ps_s_il p79_112 rfl ?_
            refine ps_s_k p79_113 ?_
            first | refine ps_s_sub p79_114 (by omega) ?_ | refine ps_s_2 p79_114 ?_
            refine ps_s_nw p79_115 ?_
            refine ps_s_dup p79_118 rfl ?_
            refine ps_s_il p79_119 rfl ?_
            first | refine ps_s_al p79_120 rfl ?_ | refine ps_s_aln p79_120 rfl ?_
            first | refine ps_s_al p79_121 rfl ?_ | refine ps_s_aln p79_121 rfl ?_
            refine ps_s_vP [_, _, _] _ p79_123 rfl rfl rfl rfl (p_new f1.1 pa_eq Z0.2.1 o1 (cq_fr f1 nok _ _ _ B1') (cq_fr f1 nok _ _ _ T1') (fun h3 s1 s2 => ps_bkv ?_) d (by omega))
            have F3 := cf_trans Z0.1 f1 s1 (fun u _ hu => .inr (by rw [hu]; exact Nat.le_refl _))
            have X3 := cx_nil X2 F3 (fun _ q => q)
            have X3' := X3
            obtain ⟨W0, ⟨pf3, bf3, w1, _⟩, W3, ⟨⟨cap3, E⟩, E2⟩, _⟩ := X3'
            obtain ⟨_, _, fs3, e1⟩ := al_own E
            have gb2 : ((P ++ [b]).map (·.1))[(P ++ [b, t]).length - 2]? = some b.1 := by
              rw [List.getElem?_map, hl, show P.length + 2 - 2 = P.length by omega, get_pre]; rfl
            refine ps_s_vV [_, _] _ p79_126 rfl e1 rfl rfl rfl (al_set W0.1 E gb2 s2 rfl (fun h4 t1 t2 => ps_bki ?_) d (by omega))
            have e3 : ((P ++ [b]).map (·.1)).set ((P ++ [b, t]).length - 2) h2.2.1 = (P ++ [(h2.2.1, b.2 ++ (t.2 ++ [16 + n]))]).map (·.1) := by
              rw [hl, show P.length + 2 - 2 = (P.map (·.1)).length by rw [List.length_map]; omega, List.map_append, List.map_append, List.set_append_right _ _ (Nat.le_refl _), Nat.sub_self]
              rfl
            rw [e3] at t2
            have hkq3 : ∀ u y, u = pi → h3.1 u = some y → kd y ≠ 8 ∧ kd y ≠ 9 := by
              intro u y hu hy
              rw [hu, e1] at hy
              cases hy
              exact k2_89 _
            have nok2 : ∀ u y, (fun _ : Nat => False) u → h2.1 u = some y → kd y ≠ 8 ∧ kd y ≠ 9 := fun _ _ q => q.elim
            have elv : lv (b.2 ++ (t.2 ++ [16 + n])) = lv b.2 + lv t.2 := by
              rw [lv_app, lv_app, show lv [16 + n] = 0 by show (if 16 + n < 16 then 1 else 0) + 0 = 0; rw [if_neg (by omega)], Nat.add_zero]
            have l1 := cq_lv _ _ _ B1
            have l2 := cq_lv _ _ _ T1
            have hqp : h2.2.1 ≠ pi := fun q => by
              have := cw_lt Z0.1 ((al_own C).2.2.choose_spec)
              omega
            have N3 : cPi G (va_up o h2.2.1 h2.2.1) h4 pi (P ++ [(h2.2.1, b.2 ++ (t.2 ++ [16 + n]))]) := by
              refine ⟨⟨cap3, t2⟩, fun p hp => ?_⟩
              rcases List.mem_append.mp hp with hp | hp
              · have hp' := E2 p (List.mem_append_left _ hp)
                exact ⟨cq_fr t1 hkq3 _ _ _ hp'.1, hp'.2⟩
              · have := List.mem_singleton.mp hp
                subst this
                refine ⟨?_, by rw [elv]; exact c84⟩
                show cQ G _ h4 (lv (b.2 ++ (t.2 ++ [16 + n]))) h2.2.1 (b.2 ++ (t.2 ++ [16 + n]))
                have eq1 : lv (b.2 ++ (t.2 ++ [16 + n])) = (lv b.2 + lv t.2 - 1) + 1 := by omega
                have Bq := cq_mono _ (lv b.2 + lv t.2 - 1) _ _ (by omega) (cq_fr t1 hkq3 _ _ _ (cq_fr F3 nok2 _ _ _ B1'))
                have Tq := cq_mono _ (lv b.2 + lv t.2 - 1) _ _ (by omega) (cq_fr t1 hkq3 _ _ _ (cq_fr F3 nok2 _ _ _ T1'))
                rw [eq1]
                refine .inr ⟨n, b.1, t.1, b.2, t.2, by omega, rfl, ?_, ⟨Z0.2.1, o1⟩, Bq, Tq⟩
                rw [elv]
                exact cf_get t1 s2 (by rw [o1]; exact hqp)
            have X4 := cx_pile X3 t1 N3
            have X4' := X4
            obtain ⟨V0, ⟨pf4, bf4, v1, _⟩, V3, ⟨⟨cap4, I⟩, I2⟩, _⟩ := X4'
            obtain ⟨_, _, fs4, i1⟩ := al_own I
            refine ps_s_pop p79_129 rfl ?_
            first | refine ps_s_al p79_130 rfl ?_ | refine ps_s_aln p79_130 rfl ?_
            refine ps_s_gf p79_131 v1 rfl ?_
            refine ps_s_vV [] _ p79_134 rfl i1 rfl rfl rfl (al_sizem I (ps_bki ?_) d (by omega))
            refine ps_s_ri p79_137 t79 ?_
            rw [List.length_append]
            have U1 := cu_one r1 k3 (by decide) (by decide)
            have U2 := cu_trans X0.1 U1 (cu_of F3 (fun _ q => q.elim))
            have U3 := cu_trans X0.1 U2 (cu_one t1 (al_K E) (by decide) (by decide))
            exact K4 n (by omega) rfl P b t rfl c84 h4 _ _ _ _ U3 (by omega) (by omega) X4
          · refine ps_s_th p79_87 ?_
            exact K3 hex P b t rfl (by omega)
        · refine ps_s_th p79_33 ?_
          exact K2 hex (by omega)
      · refine bad d ?_
        rintro ⟨k, h1, h2⟩
        have := ps_ofNat_inj hn (by omega) h2
        omega
end XCO
