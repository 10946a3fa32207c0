/-! The shelf: type, fail, want, discard, combine. -/
theorem wmA_snoc {t y : Nat} : ∀ (l : List Nat) (p a : Nat), wmA t p a (l ++ [y]) = if y = t then wmA t p a l ||| (1 <<< (p + l.length)) else wmA t p a l := by
  intro l
  induction l with
  | nil => intro p a; rfl
  | cons x r ih =>
    intro p a
    show wmA t (p + 1) (if x = t then a ||| (1 <<< p) else a) (r ++ [y]) = if y = t then wmA t (p + 1) (if x = t then a ||| (1 <<< p) else a) r ||| (1 <<< (p + (r.length + 1))) else wmA t (p + 1) (if x = t then a ||| (1 <<< p) else a) r
    rw [ih, show p + 1 + r.length = p + (r.length + 1) by omega]
theorem wm_snoc (t y : Nat) (l : List Nat) : wm t (l ++ [y]) = if y = t then wm t l ||| (1 <<< l.length) else wm t l := by
  unfold wm
  rw [wmA_snoc, Nat.zero_add]
theorem k2_89 (fs : List Value) : kd (pm_o 2 fs) ≠ 8 ∧ kd (pm_o 2 fs) ≠ 9 := ⟨by show 3 ≠ 8; decide, by show 3 ≠ 9; decide⟩
section XTY
variable {G : pm_G} {o : Nat → Nat} {h : pm_S} {x dr pi pg ba kD lD rD kP lP rP room nn : Nat} {pw : Option Nat} {ts : List Nat} {ps : List (Nat × List Nat)} {bx : List (Nat × pD)} {Ss : List cS} {Lb : List Nat} {Q : pm_Q}
theorem x_isTerm {a : Int32} (K1 : (∃ n : Nat, n < 16 ∧ a = Int32.ofNat n) → Q (.inl (some (iN 1))) h) (K2 : (¬ ∃ n : Nat, n < 16 ∧ a = Int32.ofNat n) → Q (.inl (some (iN 0))) h) : ps_M G 1 30 [.int a] h Q := by
  have no : ∀ d', (¬ ∃ n : Nat, n < 16 ∧ a = Int32.ofNat n) → ps_X G d' 30 14 [some (.int a)] [] h Q := by
    intro d' q
    refine ps_s_k p30_14 ?_
    refine ps_s_rz p30_15 t30 (by first | exact .inl rfl | exact .inr rfl | exact bN_01 _) ?_
    exact K2 q
  refine ps_M_in (e30 _) l30 (fun d hd => ?_)
  refine ps_s_il p30_0 rfl ?_
  refine ps_s_j0 p30_1 (fun c => ?_) (fun c => ?_)
  · refine no d ?_
    rintro ⟨n, h1, rfl⟩
    exact absurd (of_decide_eq_true c) (i_ge0 (by omega))
  · rcases i_cases a with e | ⟨n, hn, rfl⟩
    · exact absurd e (of_decide_eq_false c)
    · refine ps_s_il p30_4 rfl ?_
      refine ps_s_k p30_5 ?_
      refine ps_s_ge p30_7 (by omega) (by omega) (fun c7 => ?_) (fun c7 => ?_)
      · refine no d ?_
        rintro ⟨k, h1, h2⟩
        have := ps_ofNat_inj hn (by omega) h2
        omega
      · refine ps_s_k p30_10 ?_
        refine ps_s_go p30_11 ?_
        refine ps_s_rz p30_15 t30 (by first | exact .inl rfl | exact .inr rfl | exact bN_01 _) ?_
        exact K1 ⟨n, by omega, rfl⟩
theorem dr_append {t : Nat} (w : cW h o) (A : cDR G o h dr ts) (ht : t < 16) (hl : ts.length < 8) (K : ∀ h', cF G (· = dr) h o h' o 0 0 → cDR G o h' dr (ts ++ [t]) → Q (.inl none) h') : ps_M G 1 31 [.ref dr, iN t] h Q := by
  obtain ⟨e, f, a1, a2, ⟨a3, a4⟩, ⟨a5, a6⟩, a7, a8⟩ := A
  have hne : e ≠ dr := fun q => by rw [q, a1] at a2; cases a2
  have f1 : cF G (· = dr) h o (pm_put h e (pm_a 0 16 (upd f t (Int32.ofNat (wm t ts ||| 1 <<< ts.length))))) o 0 0 := cf_put w a2 (by omega) a6 rfl
  have f2 := cf_put2 (a := dr) (x := pm_o 1 [.ref e, iN (ts.length + 1)]) w f1 ((pp_ne (fun q => hne q.symm)).trans a1) (by omega) (.inl a4) rfl
  refine ps_M_in (e31 _ _) l31 (fun d hd => ?_)
  first | refine ps_s_al p31_0 rfl ?_ | refine ps_s_aln p31_0 rfl ?_
  refine ps_s_gf p31_1 a1 rfl ?_
  refine ps_s_il p31_4 rfl ?_
  refine ps_s_d2 p31_5 rfl ?_
  refine ps_s_iav p31_6 a2 (a7 t ht) (by omega) (by omega) ?_
  refine ps_s_k p31_7 ?_
  first | refine ps_s_al p31_8 rfl ?_ | refine ps_s_aln p31_8 rfl ?_
  refine ps_s_gf p31_9 a1 rfl ?_
  refine ps_s_2e p31_12 (i_shl1 _ (by omega)) ?_
  refine ps_s_2e p31_13 (i_or _ _) ?_
  refine ps_s_ias p31_14 a2 (by omega) (by omega) (by omega) ?_
  first | refine ps_s_al p31_15 rfl ?_ | refine ps_s_aln p31_15 rfl ?_
  refine ps_s_dup p31_16 rfl ?_
  refine ps_s_gf p31_17 ((pp_ne (fun q => hne q.symm)).trans a1) rfl ?_
  refine ps_s_k p31_20 ?_
  first | refine ps_s_add p31_21 ?_ | refine ps_s_2 p31_21 ?_
  refine ps_s_pf p31_22 ((pp_ne (fun q => hne q.symm)).trans a1) (by omega) rfl (ps_blt rfl) ?_
  refine ps_s_rv p31_25 t31 ?_
  refine K _ f2 ⟨e, _, by rw [List.length_append]; exact pp_eq, (pp_ne hne).trans pp_eq, ⟨a3, a4⟩, ⟨a5, a6⟩, fun t' ht' => ?_, by rw [List.length_append]; exact hl⟩
  unfold upd
  rw [wm_snoc]
  by_cases q : t' = t
  · rw [if_pos q, if_pos q.symm, q]
  · rw [if_neg q, if_neg (fun e => q e.symm), a7 t' ht']
theorem x_type {a : Int32} (X : (cX G o h x dr pi pg ba kD lD rD kP lP rP room nn pw ts ps bx Ss Lb)) (K1 : (¬ ∃ n : Nat, n < 16 ∧ a = Int32.ofNat n) → Q (.inr 0) (pm_gap h 6)) (K2 : (∃ n : Nat, n < 16 ∧ a = Int32.ofNat n) → ts.length = 8 → Q (.inr 1) (pm_gap h 6))
    (K3 : ∀ n : Nat, n < 16 → a = Int32.ofNat n → ts.length < 8 → ∀ h', cF G (cU h) h o h' o 0 0 → (cX G o (h') x dr pi pg ba kD lD rD kP lP rP room nn pw (ts ++ [n]) ps bx Ss Lb) → Q (.inl (some (iN (ts.length + 1)))) h') : ps_M G 2 29 [.ref x, .int a] h Q := by
  obtain ⟨⟨k1, k2, k3, k4, k5⟩, ⟨k6, k7, k8⟩, ⟨k9, k10, k11⟩, KS, KB⟩ := cx_K X
  have X' := X
  obtain ⟨X0, X2, X3, X4, X5, X6, X7, X8, X9⟩ := X'
  have X3' := X3
  obtain ⟨pf, bf, x1, x2⟩ := X2
  obtain ⟨e, f, a1, a2, a3, a4, a5, a6⟩ := X3'
  refine ps_M_in (e29 _ _) l29 (fun d hd => ?_)
  refine ps_s_il p29_0 rfl ?_
  refine ps_s_vS [_] _ p29_1 rfl rfl rfl rfl (x_isTerm (fun q => ps_bki ?_) (fun q => ps_bki ?_) d (by omega))
  · refine ps_s_ne0 p29_4 (by omega) (fun c4 => ?_) (fun c4 => ?_)
    · first | refine ps_s_al p29_17 rfl ?_ | refine ps_s_aln p29_17 rfl ?_
      refine ps_s_gf p29_18 x1 rfl ?_
      refine ps_s_gf p29_21 a1 rfl ?_
      refine ps_s_k p29_24 ?_
      refine ps_s_lt p29_26 (by omega) (by omega) (fun c26 => ?_) (fun c26 => ?_)
      · obtain ⟨n, hn, rfl⟩ := q
        first | refine ps_s_al p29_39 rfl ?_ | refine ps_s_aln p29_39 rfl ?_
        refine ps_s_gf p29_40 x1 rfl ?_
        refine ps_s_il p29_43 rfl ?_
        refine ps_s_vV [_] _ p29_44 rfl a1 rfl rfl rfl (dr_append X0.1 X3 hn c26 (fun h' q1 q2 => ps_bkv ?_) d (by omega))
        obtain ⟨Y0, Y2, Y3, Y4, Y5, Y6, Y7, Y8⟩ := cx_one X q1 k2 (by decide)
        have y2 := Y2 (kne k1 k2 (by decide))
        have y2' := y2
        obtain ⟨pf', bf', y1, _⟩ := y2'
        have q2' := q2
        obtain ⟨e', f', b1, _⟩ := q2'
        first | refine ps_s_al p29_47 rfl ?_ | refine ps_s_aln p29_47 rfl ?_
        refine ps_s_gf p29_48 y1 rfl ?_
        refine ps_s_gf p29_51 b1 rfl ?_
        refine ps_s_ri p29_54 t29 ?_
        rw [List.length_append]
        exact K3 n hn rfl c26 h' (cu_one q1 k2 (by decide) (by decide)) ⟨Y0, y2, q2, Y4 (kne k3 k2 (by decide)), Y5 (kne k4 k2 (by decide)), Y6 (kne k5 k2 (by decide)), Y7 (kne k6 k2 (by decide)) (kne k7 k2 (by decide)) (kne k8 k2 (by decide)) (fun S hS => ⟨kne (KS S hS).2.1 k2 (by decide), kne (KS S hS).2.2.1 k2 (by decide)⟩), Y8 (kne k9 k2 (by decide)) (kne k10 k2 (by decide)) (kne k11 k2 (by decide)), X9⟩
      · refine ps_s_th p29_29 ?_
        exact K2 q (by omega)
    · exact absurd c4 (by decide)
  · refine ps_s_ne0 p29_4 (by omega) (fun c4 => ?_) (fun c4 => ?_)
    · exact absurd rfl c4
    · refine ps_s_th p29_7 ?_
      exact K1 q
theorem x_fail {a : Int32} (X : (cX G o h x dr pi pg ba kD lD rD kP lP rP room nn pw ts ps bx Ss Lb)) (K1 : a < 0 → Q (.inl (some (iN 0))) h) (K2 : ∀ p : Nat, p < 2147483648 → a = Int32.ofNat p → ∀ h', cF G (cU h) h o h' o 0 0 → (cX G o (h') x dr pi pg ba kD lD rD kP lP rP room nn (some p) ts ps bx Ss Lb) → Q (.inl (some (iN 1))) h') : ps_M G 1 16 [.ref x, .int a] h Q := by
  obtain ⟨⟨k1, k2, k3, k4, k5⟩, ⟨k6, k7, k8⟩, ⟨k9, k10, k11⟩, KS, KB⟩ := cx_K X
  have X' := X
  obtain ⟨X0, ⟨pf, bf, x1, x2, x3, x4⟩, X3, X4, X5, X6, X7, X8, X9⟩ := X'
  refine ps_M_in (e16 _ _) l16 (fun d hd => ?_)
  refine ps_s_il p16_0 rfl ?_
  refine ps_s_j0 p16_1 (fun c => ?_) (fun c => ?_)
  · rcases i_cases a with e | ⟨p, hp, rfl⟩
    · exact absurd e (Int32.not_lt.mpr (of_decide_eq_true c))
    · have f1 : cF G (· = x) h o (pm_put h x (pm_o 0 [iN room, .ref dr, .ref pi, .ref pg, .ref ba, .ref kD, .ref kP, iN nn, iN 1, .int bf])) o 0 0 := cf_put X0.1 x1 (by omega) x4 rfl
      have f2 := cf_put2 (a := x) (x := pm_o 0 [iN room, .ref dr, .ref pi, .ref pg, .ref ba, .ref kD, .ref kP, iN nn, iN 1, iN p]) X0.1 f1 pp_eq (by omega) (.inl x4) rfl
      first | refine ps_s_al p16_6 rfl ?_ | refine ps_s_aln p16_6 rfl ?_
      refine ps_s_k p16_7 ?_
      refine ps_s_pf p16_8 x1 (by omega) rfl (ps_blt rfl) ?_
      first | refine ps_s_al p16_11 rfl ?_ | refine ps_s_aln p16_11 rfl ?_
      refine ps_s_il p16_12 rfl ?_
      refine ps_s_pf p16_13 pp_eq (by omega) rfl (ps_blt rfl) ?_
      refine ps_s_k p16_16 ?_
      refine ps_s_rz p16_17 t16 (by first | exact .inl rfl | exact .inr rfl | exact bN_01 _) ?_
      obtain ⟨Y0, Y2, Y3, Y4, Y5, Y6, Y7, Y8⟩ := cx_one X f2 k1 (by decide)
      exact K2 p hp rfl _ (cu_one f2 k1 (by decide) (by decide)) ⟨Y0, ⟨_, _, pp_eq, .inr ⟨p, rfl, rfl, rfl, hp⟩, x3, x4⟩, Y3 (kne k2 k1 (by decide)), Y4 (kne k3 k1 (by decide)), Y5 (kne k4 k1 (by decide)), Y6 (kne k5 k1 (by decide)), Y7 (kne k6 k1 (by decide)) (kne k7 k1 (by decide)) (kne k8 k1 (by decide)) (fun S hS => ⟨kne (KS S hS).2.1 k1 (by decide), kne (KS S hS).2.2.1 k1 (by decide)⟩), Y8 (kne k9 k1 (by decide)) (kne k10 k1 (by decide)) (kne k11 k1 (by decide)), X9⟩
  · refine ps_s_k p16_4 ?_
    refine ps_s_rz p16_5 t16 (by first | exact .inl rfl | exact .inr rfl | exact bN_01 _) ?_
    exact K1 (Int32.not_le.mp (of_decide_eq_false c))
/-- the pile's list changed: what the shelf is then -/
theorem cx_pile {h1 : pm_S} {o1 : Nat → Nat} {c s : Nat} {ps' : List (Nat × List Nat)} (X : (cX G o h x dr pi pg ba kD lD rD kP lP rP room nn pw ts ps bx Ss Lb)) (F : cF G (· = pi) h o h1 o1 c s) (N : cPi G o1 h1 pi ps') : (cX G (o1) (h1) x dr pi pg ba kD lD rD kP lP rP room nn pw ts (ps') bx Ss Lb) := by
  obtain ⟨⟨k1, k2, k3, k4, k5⟩, ⟨k6, k7, k8⟩, ⟨k9, k10, k11⟩, KS, KB⟩ := cx_K X
  obtain ⟨Y0, Y2, Y3, Y4, Y5, Y6, Y7, Y8⟩ := cx_one X F k3 (by decide)
  obtain ⟨X0, X2, X3, X4, X5, X6, X7, X8, X9⟩ := X
  have X9' := X9
  obtain ⟨⟨n1, n2, n3, n4, n5, n6⟩, n7, n8, n9⟩ := X9'
  exact ⟨Y0, Y2 (kne k1 k3 (by decide)), Y3 (kne k2 k3 (by decide)), N, Y5 (kne k4 k3 (by decide)), Y6 n4, Y7 (kne k6 k3 (by decide)) (fun q => n1 q.symm) (kne k8 k3 (by decide)) (fun S hS => ⟨(n8 S hS).1, kne (KS S hS).2.2.1 k3 (by decide)⟩), Y8 (kne k9 k3 (by decide)) (fun q => n2 q.symm) (kne k11 k3 (by decide)), X9⟩
theorem w_new {q t : Nat} {u v : Value} (e : h.1 q = some (pm_o 7 [u, v])) (hg : G.1 ≤ q) (K : Q (.inl none) (pm_put (pm_put h q (pm_o 7 [u, iN 1])) q (pm_o 7 [iN t, iN 1]))) : ps_M G 2 76 [.ref q, iN t] h Q := by
  have i77 : ∀ Q : pm_Q, Q (.inl none) (pm_put h q (pm_o 7 [u, iN 1])) → ps_M G 1 77 [.ref q, iN 1] h Q := by
    intro Q K
    refine ps_M_in (e77 _ _) l77 (fun d hd => ?_)
    first | refine ps_s_al p77_0 rfl ?_ | refine ps_s_aln p77_0 rfl ?_
    refine ps_s_nt p77_1 rfl ?_
    first | refine ps_s_al p77_4 rfl ?_ | refine ps_s_aln p77_4 rfl ?_
    refine ps_s_il p77_5 rfl ?_
    refine ps_s_pf p77_6 e (by omega) rfl (ps_blt rfl) ?_
    refine ps_s_rv p77_9 t77 ?_
    exact K
  refine ps_M_in (e76 _ _) l76 (fun d hd => ?_)
  first | refine ps_s_al p76_0 rfl ?_ | refine ps_s_aln p76_0 rfl ?_
  refine ps_s_k p76_1 ?_
  refine ps_s_vP [_] _ p76_2 rfl rfl rfl rfl (i77 _ (ps_bkv ?_) d (by omega))
  first | refine ps_s_al p76_5 rfl ?_ | refine ps_s_aln p76_5 rfl ?_
  refine ps_s_il p76_6 rfl ?_
  refine ps_s_pf p76_7 pp_eq (by omega) rfl (ps_blt rfl) ?_
  refine ps_s_rv p76_10 t76 ?_
  exact K
theorem x_want {a : Int32} (X : (cX G o h x dr pi pg ba kD lD rD kP lP rP room nn pw ts ps bx Ss Lb)) (hp : ps.length ≤ 8) (K1 : (¬ ∃ n : Nat, n < 16 ∧ a = Int32.ofNat n) → Q (.inr 0) (pm_gap h 6)) (K2 : (∃ n : Nat, n < 16 ∧ a = Int32.ofNat n) → ps.length = 8 → Q (.inr 1) (pm_gap h 6))
    (K3 : ∀ n : Nat, n < 16 → a = Int32.ofNat n → ps.length < 8 → ∀ h' o' q c s, cF G (cU h) h o h' o' c s → c ≤ 3 → s ≤ 100 → (cX G (o') (h') x dr pi pg ba kD lD rD kP lP rP room nn pw ts (ps ++ [(q, [n])]) bx Ss Lb) → Q (.inl (some (iN (ps.length + 1)))) h') : ps_M G 7 75 [.ref x, .int a] h Q := by
  obtain ⟨⟨k1, k2, k3, k4, k5⟩, ⟨k6, k7, k8⟩, ⟨k9, k10, k11⟩, KS, KB⟩ := cx_K X
  have X' := X
  obtain ⟨X0, ⟨pf, bf, x1, x2⟩, X3, ⟨⟨cap, A⟩, A2⟩, X5, X6, X7, X8, X9⟩ := X'
  obtain ⟨_, _, fs, a1⟩ := al_own A
  refine ps_M_in (e75 _ _) l75 (fun d hd => ?_)
  refine ps_s_il p75_0 rfl ?_
  refine ps_s_vS [_] _ p75_1 rfl rfl rfl rfl (x_isTerm (fun q => ps_bki ?_) (fun q => ps_bki ?_) d (by omega))
  · refine ps_s_ne0 p75_4 (by omega) (fun c4 => ?_) (fun c4 => ?_)
    · first | refine ps_s_al p75_17 rfl ?_ | refine ps_s_aln p75_17 rfl ?_
      refine ps_s_gf p75_18 x1 rfl ?_
      refine ps_s_vV [] _ p75_21 rfl a1 rfl rfl rfl (al_sizem A (ps_bki ?_) d (by omega))
      refine ps_s_k p75_24 ?_
      refine ps_s_lt p75_26 (by omega) (by omega) (fun c26 => ?_) (fun c26 => ?_)
      · obtain ⟨n, hn, rfl⟩ := q
        have f1 : cF G (fun _ => False) h o (pm_add h (pm_o 7 (pm_zero 7)) 2) (va_up o h.2.1 h.2.1) 1 2 := cf_add X0.1 (Nat.le_refl _)
        have o1 : va_up o h.2.1 h.2.1 h.2.1 = h.2.1 := if_pos rfl
        have f2 := cf_put2 (a := h.2.1) (x := pm_o 7 [iN 0, iN 1]) X0.1 f1 pa_eq (by rw [o1]; exact X0.2.1) (.inr (by rw [o1]; exact Nat.le_refl _)) rfl
        have f3 := cf_put2 (a := h.2.1) (x := pm_o 7 [iN n, iN 1]) X0.1 f2 pp_eq (by rw [o1]; exact X0.2.1) (.inr (by rw [o1]; exact Nat.le_refl _)) rfl
        have X2 := cx_nil X f3 (fun _ q => q)
        have X2' := X2
        obtain ⟨Z0, ⟨pf2, bf2, z1, _⟩, Z3, ⟨⟨cap2, B⟩, B2⟩, Z5, Z6, Z7, Z8, Z9⟩ := X2'
        obtain ⟨_, _, fs2, b1⟩ := al_own B
        first | refine ps_s_al p75_39 rfl ?_ | refine ps_s_aln p75_39 rfl ?_
        refine ps_s_gf p75_40 x1 rfl ?_
        refine ps_s_nw p75_43 ?_
        refine ps_s_dup p75_46 rfl ?_
        refine ps_s_il p75_47 rfl ?_
        refine ps_s_vP [_] _ p75_48 rfl rfl rfl rfl (w_new (u := iN 0) (v := iN 0) pa_eq X0.2.1 (ps_bkv ?_) d (by omega))
        refine ps_s_vV [_] _ p75_51 rfl b1 rfl rfl rfl (al_add Z0.1 B (by rw [List.length_map]; omega) pp_eq rfl (fun h' o' cap' c' s' q1 q2 q3 q4 => ps_bki ?_) d (by omega))
        have hkq : ∀ u y, u = pi → (pm_put (pm_put (pm_add h (pm_o 7 (pm_zero 7)) 2) h.2.1 (pm_o 7 [iN 0, iN 1])) h.2.1 (pm_o 7 [iN n, iN 1])).1 u = some y → kd y ≠ 8 ∧ kd y ≠ 9 := by
          intro u y hu hy
          rw [hu, b1] at hy
          cases hy
          exact k2_89 _
        have hne : h.2.1 ≠ pi := fun e => by rw [e] at z1; exact absurd (cw_lt X0.1 a1) (by rw [← e]; exact Nat.lt_irrefl _)
        have N : cPi G o' h' pi (ps ++ [(h.2.1, [n])]) := by
          refine ⟨⟨cap', by rw [List.map_append]; exact q2⟩, fun p hp => ?_⟩
          rcases List.mem_append.mp hp with hp | hp
          · exact ⟨cq_fr q1 hkq _ _ _ (B2 p hp).1, (B2 p hp).2⟩
          · have := List.mem_singleton.mp hp
            subst this
            have elv : lv [n] = 1 := by show (if n < 16 then 1 else 0) + 0 = 1; rw [if_pos hn]
            refine ⟨?_, by show lv [n] ≤ 8; rw [elv]; decide⟩
            show cQ G o' h' (lv [n]) h.2.1 [n]
            rw [elv]
            refine .inl ⟨n, hn, rfl, cf_get q1 pp_eq (by rw [o1]; exact hne), X0.2.1, ?_⟩
            rw [cf_own q1 pp_eq]
            exact o1
        have X3 := cx_pile X2 q1 N
        have X3' := X3
        obtain ⟨W0, ⟨pf3, bf3, w1, _⟩, W3, ⟨⟨cap3, C⟩, C2⟩, _⟩ := X3'
        obtain ⟨_, _, fs3, c1⟩ := al_own C
        refine ps_s_pop p75_54 rfl ?_
        first | refine ps_s_al p75_55 rfl ?_ | refine ps_s_aln p75_55 rfl ?_
        refine ps_s_gf p75_56 w1 rfl ?_
        refine ps_s_vV [] _ p75_59 rfl c1 rfl rfl rfl (al_sizem C (ps_bki ?_) d (by omega))
        refine ps_s_ri p75_62 t75 ?_
        rw [List.length_append]
        refine K3 n hn rfl c26 h' o' h.2.1 _ _ (cu_trans X0.1 (cu_of f3 (fun _ q => q.elim)) (cu_one q1 (al_K B) (by decide) (by decide))) (by omega) ?_ X3
        rcases q4 with ⟨_, q4⟩ | ⟨q4, _, q5⟩
        · omega
        · rw [List.length_map] at q4
          have : gr cap2 ≤ 98 := by unfold gr; split <;> omega
          omega
      · refine ps_s_th p75_29 ?_
        exact K2 q (by omega)
    · exact absurd c4 (by decide)
  · refine ps_s_ne0 p75_4 (by omega) (fun c4 => ?_) (fun c4 => ?_)
    · exact absurd rfl c4
    · refine ps_s_th p75_7 ?_
      exact K1 q
theorem x_discard (X : (cX G o h x dr pi pg ba kD lD rD kP lP rP room nn pw ts ps bx Ss Lb)) (hp : ps.length ≤ 8) (K1 : ps = [] → Q (.inr 2) (pm_gap h 6)) (K2 : 0 < ps.length → ∀ h', cF G (cU h) h o h' o 0 0 → (cX G o (h') x dr pi pg ba kD lD rD kP lP rP room nn pw ts (ps.eraseIdx (ps.length - 1)) bx Ss Lb) → Q (.inl (some (iN (ps.length - 1)))) h') : ps_M G 4 83 [.ref x] h Q := by
  obtain ⟨⟨k1, k2, k3, k4, k5⟩, ⟨k6, k7, k8⟩, ⟨k9, k10, k11⟩, KS, KB⟩ := cx_K X
  have X' := X
  obtain ⟨X0, ⟨pf, bf, x1, x2⟩, X3, ⟨⟨cap, A⟩, A2⟩, X5, X6, X7, X8, X9⟩ := X'
  obtain ⟨_, _, fs, a1⟩ := al_own A
  refine ps_M_in (e83 _) l83 (fun d hd => ?_)
  refine ps_s_al p83_0 rfl ?_
  refine ps_s_gf p83_1 x1 rfl ?_
  refine ps_s_vV [] _ p83_4 rfl a1 rfl rfl rfl (al_isEmpty A (fun q => ps_bki ?_) (fun q => ps_bki ?_) d (by omega))
  · refine ps_s_eq0 p83_7 (by omega) (fun c7 => ?_) (fun c7 => ?_)
    · exact absurd c7 (by decide)
    · refine ps_s_th p83_10 ?_
      exact K1 (List.map_eq_nil_iff.mp q)
  · have hpos : 0 < ps.length := by
      rcases Nat.eq_zero_or_pos ps.length with e | e
      · exact absurd (by rw [List.eq_nil_of_length_eq_zero e]; rfl) q
      · exact e
    have hS : ps[ps.length - 1]? = some ps[ps.length - 1] := List.getElem?_eq_getElem (by omega)
    have hg : (ps.map (·.1))[ps.length - 1]? = some (ps[ps.length - 1]).1 := by rw [List.getElem?_map, hS]; rfl
    refine ps_s_eq0 p83_7 (by omega) (fun c7 => ?_) (fun c7 => ?_)
    · first | refine ps_s_al p83_20 rfl ?_ | refine ps_s_aln p83_20 rfl ?_
      refine ps_s_gf p83_21 x1 rfl ?_
      first | refine ps_s_al p83_24 rfl ?_ | refine ps_s_aln p83_24 rfl ?_
      refine ps_s_gf p83_25 x1 rfl ?_
      refine ps_s_vV [] _ p83_28 rfl a1 rfl rfl rfl (al_sizem A (ps_bki ?_) d (by omega))
      refine ps_s_k p83_31 ?_
      first | refine ps_s_sub p83_32 (by omega) ?_ | refine ps_s_2 p83_32 ?_
      refine ps_s_vV [_] _ p83_33 rfl a1 rfl rfl rfl (al_remove X0.1 A hg (fun h' q1 q2 => ps_bki ?_) d (by omega))
      have hkq : ∀ u y, u = pi → h.1 u = some y → kd y ≠ 8 ∧ kd y ≠ 9 := by
        intro u y hu hy
        rw [hu, a1] at hy
        cases hy
        exact k2_89 _
      have N : cPi G o h' pi (ps.eraseIdx (ps.length - 1)) := by
        refine ⟨⟨cap, by rw [map_er]; exact q2⟩, fun p hp => ?_⟩
        have hp' := A2 p (List.mem_of_mem_eraseIdx hp)
        exact ⟨cq_fr q1 hkq _ _ _ hp'.1, hp'.2⟩
      have X3 := cx_pile X q1 N
      have X3' := X3
      obtain ⟨W0, ⟨pf3, bf3, w1, _⟩, W3, ⟨⟨cap3, C⟩, C2⟩, _⟩ := X3'
      obtain ⟨_, _, fs3, c1⟩ := al_own C
      refine ps_s_pop p83_36 rfl ?_
      first | refine ps_s_al p83_37 rfl ?_ | refine ps_s_aln p83_37 rfl ?_
      refine ps_s_gf p83_38 w1 rfl ?_
      refine ps_s_vV [] _ p83_41 rfl c1 rfl rfl rfl (al_sizem C (ps_bki ?_) d (by omega))
      refine ps_s_ri p83_44 t83 ?_
      rw [List.length_eraseIdx_of_lt (by omega)]
      exact K2 hpos h' (cu_one q1 k3 (by decide) (by decide)) X3
    · exact absurd rfl c7
end XTY
