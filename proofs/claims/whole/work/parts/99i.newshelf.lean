/-! The shelf: its constructor, whole. -/
theorem rm_eq (a : Int32) : (if Int32.ofNat 64 < (if a < Int32.ofNat 800 then a else Int32.ofNat 800) then (if a < Int32.ofNat 800 then a else Int32.ofNat 800) else Int32.ofNat 64) = Int32.ofNat (rmN a) := by
  unfold rmN
  rcases i_cases a with e | ⟨n, hn, rfl⟩
  · have h1 : a < Int32.ofNat 800 := Int32.lt_trans e (by decide)
    have h2 : a < 64 := Int32.lt_trans e (by decide)
    rw [if_pos h1, if_pos h2, if_neg (fun q => absurd (Int32.lt_trans q h2) (by decide))]
  · rw [i_cl hn]
    have e1 : (Int32.ofNat n < 64) ↔ n < 64 := ps_lt_iff (b := 64) hn (by omega)
    have e2 : ((800 : Int32) < Int32.ofNat n) ↔ 800 < n := ps_lt_iff (a := 800) (by omega) hn
    have e3 : (Int32.ofNat n < Int32.ofNat 800) ↔ n < 800 := ps_lt_iff hn (by omega)
    have e4 : (Int32.ofNat 64 < Int32.ofNat n) ↔ 64 < n := ps_lt_iff (by omega) hn
    by_cases q1 : n < 64
    · rw [if_pos (e3.mpr (by omega)), if_pos (e1.mpr q1), if_neg (fun q => by have := e4.mp q; omega)]
    · rw [if_neg (fun q => q1 (e1.mp q))]
      by_cases q2 : 800 < n
      · have h8 : ¬ Int32.ofNat n < Int32.ofNat 800 := fun q => by have := e3.mp q; omega
        rw [if_pos (e2.mpr q2), if_neg h8, if_pos (by decide)]
      · rw [if_neg (fun q => q2 (e2.mp q))]
        by_cases q3 : n < 800
        · rw [if_pos (e3.mpr q3)]
          by_cases q4 : 64 < n
          · rw [if_pos (e4.mpr q4)]
          · have h8 : ¬ Int32.ofNat 64 < Int32.ofNat n := fun q => q4 (e4.mp q)
            rw [if_neg h8, show n = 64 by omega]
        · have h8 : ¬ Int32.ofNat n < Int32.ofNat 800 := fun q => q3 (e3.mp q)
          rw [if_neg h8, if_pos (by decide), show n = 800 by omega]
theorem rmN_le (a : Int32) : 64 ≤ rmN a ∧ rmN a ≤ 800 := by
  unfold rmN
  rcases i_cases a with e | ⟨n, hn, rfl⟩
  · rw [if_pos (Int32.lt_trans e (by decide))]; omega
  · rw [i_cl hn]
    have e1 : (Int32.ofNat n < 64) ↔ n < 64 := ps_lt_iff (b := 64) hn (by omega)
    have e2 : ((800 : Int32) < Int32.ofNat n) ↔ 800 < n := ps_lt_iff (a := 800) (by omega) hn
    by_cases q1 : n < 64
    · rw [if_pos (e1.mpr q1)]; omega
    · rw [if_neg (fun q => q1 (e1.mp q))]
      by_cases q2 : 800 < n
      · rw [if_pos (e2.mpr q2)]; omega
      · rw [if_neg (fun q => q2 (e2.mp q))]; omega
theorem nt_minI {G : pm_G} {h : pm_S} {a b : Int32} {r : List Value} (hw : Nat.ble (pm_wid r) 8 = true) : pm_nat G 1 (.int b :: .int a :: r) h = some (.int (if b < a then b else a) :: r, h) := by
  show (if pm_wid r ≤ 8 then some (Value.int (if b < a then b else a) :: r, h) else none) = _
  rw [if_pos (ps_ble hw)]
theorem nt_maxI {G : pm_G} {h : pm_S} {a b : Int32} {r : List Value} (hw : Nat.ble (pm_wid r) 8 = true) : pm_nat G 0 (.int b :: .int a :: r) h = some (.int (if a < b then b else a) :: r, h) := by
  show (if pm_wid r ≤ 8 then some (Value.int (if a < b then b else a) :: r, h) else none) = _
  rw [if_pos (ps_ble hw)]
section XNS
variable {G : pm_G} {o : Nat → Nat} {h : pm_S} {x dr pi pg ba kD lD rD kP lP rP room nn : Nat} {pw : Option Nat} {ts : List Nat} {ps : List (Nat × List Nat)} {bx : List (Nat × pD)} {Ss : List cS} {Lb : List Nat} {Q : pm_Q}
theorem st_put {h1 : pm_S} {o1 : Nat → Nat} {c s : Nat} {fs : List Value} (X0 : cG0 G o h) (q : cF G (fun u => h.2.1 ≤ u) h o h1 o1 c s) (e : h.1 x = some (pm_o 0 fs)) (ho : o x = x) (hg : G.1 ≤ x) : h1.1 x = some (pm_o 0 fs) ∧ o1 x = x ∧ (∀ fs', cF G (fun u => u = x ∨ h.2.1 ≤ u) h o (pm_put h1 x (pm_o 0 fs')) o1 c s ∧ cF G (· = x) h1 o1 (pm_put h1 x (pm_o 0 fs')) o1 0 0) := by
  have hl := cw_lt X0.1 e
  have e1 := cf_get q e (by rw [ho]; omega)
  have o1' := (cf_own q e).trans ho
  refine ⟨e1, o1', fun fs' => ⟨?_, cf_put q.1 e1 (by rw [o1']; exact hg) o1' rfl⟩⟩
  have q' := cf_up (P2 := fun u => u = x ∨ h.2.1 ≤ u) q (fun u _ hu => .inr hu) (Nat.le_refl _) (Nat.le_refl _)
  exact cf_put2 X0.1 q' e1 (by rw [o1']; exact hg) (.inl (.inl o1')) rfl
theorem x_new {a : Int32} {u0 u1 u2 u3 u4 u5 u6 u7 u8 u9 : Value} (X0 : cG0 G o h) (ee : h.1 x = some (pm_o 0 [u0, u1, u2, u3, u4, u5, u6, u7, u8, u9])) (ho : o x = x) (hg : G.1 ≤ x) (K : ∀ h' o' dr pi pg ba kD lD rD kP lP rP, cF G (fun u => u = x ∨ h.2.1 ≤ u) h o h' o' 20 3000 → cX G o' h' x dr pi pg ba kD lD rD kP lP rP (rmN a) 0 none [] [] [] [] [] → Q (.inl none) h') : ps_M G 5 0 [.ref x, .int a] h Q := by
  have ll0 := cw_lt X0.1 ee
  refine ps_M_in (e0 _ _) l0 (fun d hd => ?_)
  first | refine ps_s_al p0_0 rfl ?_ | refine ps_s_aln p0_0 rfl ?_
  refine ps_s_nt p0_1 rfl ?_
  first | refine ps_s_al p0_4 rfl ?_ | refine ps_s_aln p0_4 rfl ?_
  refine ps_s_nw p0_5 ?_
  refine ps_s_dup p0_8 rfl ?_
  /- draft -/
  have d1 : cF G (fun u => h.2.1 ≤ u) h o (pm_add h (pm_o 1 (pm_zero 1)) 2) (va_up o h.2.1 h.2.1) 1 2 := cf_add X0.1 (Nat.le_refl _)
  refine ps_s_vP [] _ p0_9 rfl rfl rfl rfl (dr_new d1.1 (g0_fr X0 d1).2.1 pa_eq X0.2.1 (if_pos rfl) (fun h1 o1 q1 q2 => ps_bkv ?_) d (by omega))
  have D1 := cf_trans X0.1 d1 q1 (fun u _ hu => .inl (by rw [hu]; exact Nat.le_refl _))
  obtain ⟨a1, b1, c1⟩ := st_put X0 D1 ee ho hg
  obtain ⟨S1, T1⟩ := c1 [u0, .ref h.2.1, u2, u3, u4, u5, u6, u7, u8, u9]
  have X1 := g0_fr X0 S1
  have DR1 := dr_fr q2 T1 (by omega)
  have z1 := D1.2.1
  refine ps_s_pf p0_12 a1 (by omega) rfl (ps_blt rfl) ?_
  first | refine ps_s_al p0_15 rfl ?_ | refine ps_s_aln p0_15 rfl ?_
  /- pile -/
  refine al_mk (pc := 16) (pc2 := 20) (nx := 23) X1 (by omega) p0_16 p0_19 p0_20 rfl (fun h2 o2 q1 q2 => ?_)
  have A2 : h2 = h2 := rfl
  obtain ⟨a2, b2, c2⟩ := st_put X1 q1 pp_eq b1 hg
  obtain ⟨S2, T2⟩ := c2 [u0, .ref h.2.1, .ref h1.2.1, u3, u4, u5, u6, u7, u8, u9]
  have X2 := g0_fr X1 S2
  have z2 : h1.2.1 ≤ h2.2.1 := q1.2.1
  have l1 := cw_lt X1.1 DR1.choose_spec.choose_spec.1
  have l1' : h.2.1 < h1.2.1 := l1
  have DR2 := dr_fr DR1 S2 (by show ¬ (h.2.1 = x ∨ h1.2.1 ≤ h.2.1); omega)
  have q2' : cAL G o2 h2 h1.2.1 0 [] := q2
  have PI2 := al_fr q2' T2 (by omega)
  refine ps_s_pf p0_23 a2 (by omega) rfl (ps_blt rfl) ?_
  first | refine ps_s_al p0_26 rfl ?_ | refine ps_s_aln p0_26 rfl ?_
  refine ps_s_nw p0_27 ?_
  refine ps_s_dup p0_30 rfl ?_
  refine ps_s_k p0_31 ?_
  /- page -/
  have d3 : cF G (fun u => h2.2.1 ≤ u) (pm_put h2 x (pm_o 0 [u0, .ref h.2.1, .ref h1.2.1, u3, u4, u5, u6, u7, u8, u9])) o2 (pm_add (pm_put h2 x (pm_o 0 [u0, .ref h.2.1, .ref h1.2.1, u3, u4, u5, u6, u7, u8, u9])) (pm_o 3 (pm_zero 3)) 2) (va_up o2 h2.2.1 h2.2.1) 1 2 := cf_add X2.1 (Nat.le_refl _)
  refine ps_s_vP [_] _ p0_34 rfl rfl rfl rfl (rw_new d3.1 (g0_fr X2 d3).2.1 pa_eq X2.2.1 (if_pos rfl) (fun h3 o3 q1 q2 => ps_bkv ?_) d (by omega))
  have D3 := cf_trans X2.1 d3 q1 (fun u _ hu => .inl (by rw [hu]; exact Nat.le_refl _))
  obtain ⟨a3, b3, c3⟩ := st_put X2 D3 pp_eq b2 hg
  obtain ⟨S3, T3⟩ := c3 [u0, .ref h.2.1, .ref h1.2.1, .ref h2.2.1, u4, u5, u6, u7, u8, u9]
  have X3 := g0_fr X2 S3
  have z3 : h2.2.1 ≤ h3.2.1 := D3.2.1
  have l2a := cw_lt X2.1 (al_own PI2).2.2.choose_spec
  have l2 : h1.2.1 < h2.2.1 := l2a
  have DR3 := dr_fr DR2 S3 (by show ¬ (h.2.1 = x ∨ h2.2.1 ≤ h.2.1); omega)
  have PI3 := al_fr PI2 S3 (by show ¬ (h1.2.1 = x ∨ h2.2.1 ≤ h1.2.1); omega)
  have PG3 := rw_fr (r := h2.2.1) q2 T3 (by show ¬ h2.2.1 = x; omega)
  refine ps_s_pf p0_37 a3 (by omega) rfl (ps_blt rfl) ?_
  first | refine ps_s_al p0_40 rfl ?_ | refine ps_s_aln p0_40 rfl ?_
  /- buffer -/
  refine al_mk (pc := 41) (pc2 := 45) (nx := 48) X3 (by omega) p0_41 p0_44 p0_45 rfl (fun h4 o4 q1 q2 => ?_)
  obtain ⟨a4, b4, c4⟩ := st_put X3 q1 pp_eq b3 hg
  obtain ⟨S4, T4⟩ := c4 [u0, .ref h.2.1, .ref h1.2.1, .ref h2.2.1, .ref h3.2.1, u5, u6, u7, u8, u9]
  have X4 := g0_fr X3 S4
  have z4 : h3.2.1 ≤ h4.2.1 := q1.2.1
  have l3a := cw_lt X3.1 (rw_own PG3).2.2.choose_spec
  have l3 : h2.2.1 < h3.2.1 := l3a
  have DR4 := dr_fr DR3 S4 (by show ¬ (h.2.1 = x ∨ h3.2.1 ≤ h.2.1); omega)
  have PI4 := al_fr PI3 S4 (by show ¬ (h1.2.1 = x ∨ h3.2.1 ≤ h1.2.1); omega)
  have PG4 := rw_fr PG3 S4 (by show ¬ (h2.2.1 = x ∨ h3.2.1 ≤ h2.2.1); omega)
  have q2' : cAL G o4 h4 h3.2.1 0 [] := q2
  have BA4 := al_fr q2' T4 (by omega)
  refine ps_s_pf p0_48 a4 (by omega) rfl (ps_blt rfl) ?_
  first | refine ps_s_al p0_51 rfl ?_ | refine ps_s_aln p0_51 rfl ?_
  refine ps_s_nw p0_52 ?_
  refine ps_s_dup p0_55 rfl ?_
  /- disk -/
  have d5 : cF G (fun u => h4.2.1 ≤ u) (pm_put h4 x (pm_o 0 [u0, .ref h.2.1, .ref h1.2.1, .ref h2.2.1, .ref h3.2.1, u5, u6, u7, u8, u9])) o4 (pm_add (pm_put h4 x (pm_o 0 [u0, .ref h.2.1, .ref h1.2.1, .ref h2.2.1, .ref h3.2.1, u5, u6, u7, u8, u9])) (pm_o 4 (pm_zero 4)) 2) (va_up o4 h4.2.1 h4.2.1) 1 2 := cf_add X4.1 (Nat.le_refl _)
  refine ps_s_vP [] _ p0_56 rfl rfl rfl rfl (ct_new (k := h4.2.1) (g0_fr X4 d5) pa_eq X4.2.1 (if_pos rfl) (fun h5 o5 la ra q1 T q2 q3 q4 q5 => ps_bkv ?_) d (by omega))
  have q4' : h4.2.1 + 1 ≤ la := q4
  have q5' : h4.2.1 + 1 ≤ ra := q5
  have D5 := cf_trans X4.1 d5 q1 (fun u _ hu => .inl (by
    rcases hu with hu | hu
    · rw [hu]; exact Nat.le_refl _
    · have hu' : h4.2.1 + 1 ≤ u := hu
      show h4.2.1 ≤ u
      omega))
  obtain ⟨a5, b5, c5⟩ := st_put X4 D5 pp_eq b4 hg
  obtain ⟨S5, T5⟩ := c5 [u0, .ref h.2.1, .ref h1.2.1, .ref h2.2.1, .ref h3.2.1, .ref h4.2.1, u6, u7, u8, u9]
  have X5 := g0_fr X4 S5
  have z5 : h4.2.1 ≤ h5.2.1 := D5.2.1
  have l4a := cw_lt X4.1 (al_own BA4).2.2.choose_spec
  have l4 : h3.2.1 < h4.2.1 := l4a
  have DR5 := dr_fr DR4 S5 (by show ¬ (h.2.1 = x ∨ h4.2.1 ≤ h.2.1); omega)
  have PI5 := al_fr PI4 S5 (by show ¬ (h1.2.1 = x ∨ h4.2.1 ≤ h1.2.1); omega)
  have PG5 := rw_fr PG4 S5 (by show ¬ (h2.2.1 = x ∨ h4.2.1 ≤ h2.2.1); omega)
  have BA5 := al_fr BA4 S5 (by show ¬ (h3.2.1 = x ∨ h4.2.1 ≤ h3.2.1); omega)
  have KD5 := pl_fr (P := (· = x)) ⟨T, ⟨0, [], q2⟩, [], q3⟩ T5 (by show ¬ h4.2.1 = x; omega) (by show ¬ la = x; omega) (by show ¬ ra = x; omega)
  have CT5 := KD5.1
  have LD5 := al_fr q2 T5 (by show ¬ la = x; omega)
  have RD5 := rw_fr q3 T5 (by show ¬ ra = x; omega)
  refine ps_s_pf p0_59 a5 (by omega) rfl (ps_blt rfl) ?_
  first | refine ps_s_al p0_62 rfl ?_ | refine ps_s_aln p0_62 rfl ?_
  refine ps_s_nw p0_63 ?_
  refine ps_s_dup p0_66 rfl ?_
  /- plan -/
  have d6 : cF G (fun u => h5.2.1 ≤ u) (pm_put h5 x (pm_o 0 [u0, .ref h.2.1, .ref h1.2.1, .ref h2.2.1, .ref h3.2.1, .ref h4.2.1, u6, u7, u8, u9])) o5 (pm_add (pm_put h5 x (pm_o 0 [u0, .ref h.2.1, .ref h1.2.1, .ref h2.2.1, .ref h3.2.1, .ref h4.2.1, u6, u7, u8, u9])) (pm_o 4 (pm_zero 4)) 2) (va_up o5 h5.2.1 h5.2.1) 1 2 := cf_add X5.1 (Nat.le_refl _)
  have l5a := cw_lt X5.1 (al_own LD5).2.2.choose_spec
  have l5 : la < h5.2.1 := l5a
  have l5'a := cw_lt X5.1 (rw_own RD5).2.2.choose_spec
  have l5' : ra < h5.2.1 := l5'a
  have l5'' : h4.2.1 < h5.2.1 := by omega
  refine ps_s_vP [] _ p0_67 rfl rfl rfl rfl (ct_new (k := h5.2.1) (g0_fr X5 d6) pa_eq X5.2.1 (if_pos rfl) (fun h6 o6 lb rb q1 TT q2 q3 q4 q5 => ps_bkv ?_) d (by omega))
  have q4' : h5.2.1 + 1 ≤ lb := q4
  have q5' : h5.2.1 + 1 ≤ rb := q5
  have D6 := cf_trans X5.1 d6 q1 (fun u _ hu => .inl (by
    rcases hu with hu | hu
    · rw [hu]; exact Nat.le_refl _
    · have hu' : h5.2.1 + 1 ≤ u := hu
      show h5.2.1 ≤ u
      omega))
  obtain ⟨a6, b6, c6⟩ := st_put X5 D6 pp_eq b5 hg
  have z6 : h5.2.1 ≤ h6.2.1 := D6.2.1
  /- numbers and room -/
  refine ps_s_pf p0_70 a6 (by omega) rfl (ps_blt rfl) ?_
  first | refine ps_s_al p0_73 rfl ?_ | refine ps_s_aln p0_73 rfl ?_
  refine ps_s_k p0_74 ?_
  refine ps_s_pf p0_75 pp_eq (by omega) rfl (ps_blt rfl) ?_
  first | refine ps_s_al p0_78 rfl ?_ | refine ps_s_aln p0_78 rfl ?_
  refine ps_s_k p0_79 ?_
  refine ps_s_pf p0_80 pp_eq (by omega) rfl (ps_blt rfl) ?_
  first | refine ps_s_al p0_83 rfl ?_ | refine ps_s_aln p0_83 rfl ?_
  refine ps_s_k p0_84 ?_
  refine ps_s_pf p0_85 pp_eq (by omega) rfl (ps_blt rfl) ?_
  first | refine ps_s_al p0_88 rfl ?_ | refine ps_s_aln p0_88 rfl ?_
  refine ps_s_k p0_89 ?_
  refine ps_s_k p0_91 ?_
  refine ps_s_il p0_94 rfl ?_
  refine ps_s_nt p0_95 (nt_minI rfl) ?_
  refine ps_s_nt p0_98 (nt_maxI rfl) ?_
  rw [rm_eq]
  refine ps_s_pf p0_101 pp_eq (by omega) rfl (ps_blt rfl) ?_
  refine ps_s_rv p0_104 t0 ?_
  obtain ⟨S6, T6⟩ := c6 [u0, .ref h.2.1, .ref h1.2.1, .ref h2.2.1, .ref h3.2.1, .ref h4.2.1, .ref h5.2.1, u7, u8, u9]
  have sf : ∀ {P : Nat → Prop} {h0 h1 : pm_S} {o0 : Nat → Nat} {c s : Nat} {f1 f2 : List Value}, cW h0 o0 → cF G P h0 o0 (pm_put h1 x (pm_o 0 f1)) o6 c s → P x → cF G P h0 o0 (pm_put (pm_put h1 x (pm_o 0 f1)) x (pm_o 0 f2)) o6 c s := fun w0 F hp => cf_put2 w0 F pp_eq (by rw [b6]; exact hg) (.inl (by rw [b6]; exact hp)) rfl
  have S7 := sf (f2 := [iN (rmN a), .ref h.2.1, .ref h1.2.1, .ref h2.2.1, .ref h3.2.1, .ref h4.2.1, .ref h5.2.1, iN 0, iN 0, iN 0]) X5.1 (sf (f2 := [u0, .ref h.2.1, .ref h1.2.1, .ref h2.2.1, .ref h3.2.1, .ref h4.2.1, .ref h5.2.1, iN 0, iN 0, iN 0]) X5.1 (sf (f2 := [u0, .ref h.2.1, .ref h1.2.1, .ref h2.2.1, .ref h3.2.1, .ref h4.2.1, .ref h5.2.1, iN 0, iN 0, u9]) X5.1 (sf (f2 := [u0, .ref h.2.1, .ref h1.2.1, .ref h2.2.1, .ref h3.2.1, .ref h4.2.1, .ref h5.2.1, iN 0, u8, u9]) X5.1 S6 (.inl rfl)) (.inl rfl)) (.inl rfl)) (.inl rfl)
  have T7 := sf (f2 := [iN (rmN a), .ref h.2.1, .ref h1.2.1, .ref h2.2.1, .ref h3.2.1, .ref h4.2.1, .ref h5.2.1, iN 0, iN 0, iN 0]) D6.1 (sf (f2 := [u0, .ref h.2.1, .ref h1.2.1, .ref h2.2.1, .ref h3.2.1, .ref h4.2.1, .ref h5.2.1, iN 0, iN 0, iN 0]) D6.1 (sf (f2 := [u0, .ref h.2.1, .ref h1.2.1, .ref h2.2.1, .ref h3.2.1, .ref h4.2.1, .ref h5.2.1, iN 0, iN 0, u9]) D6.1 (sf (f2 := [u0, .ref h.2.1, .ref h1.2.1, .ref h2.2.1, .ref h3.2.1, .ref h4.2.1, .ref h5.2.1, iN 0, u8, u9]) D6.1 T6 rfl) rfl) rfl) rfl
  have X7 := g0_fr X5 S7
  have DR7 := dr_fr DR5 S7 (by show ¬ (h.2.1 = x ∨ h5.2.1 ≤ h.2.1); omega)
  have PI7 := al_fr PI5 S7 (by show ¬ (h1.2.1 = x ∨ h5.2.1 ≤ h1.2.1); omega)
  have PG7 := rw_fr PG5 S7 (by show ¬ (h2.2.1 = x ∨ h5.2.1 ≤ h2.2.1); omega)
  have BA7 := al_fr BA5 S7 (by show ¬ (h3.2.1 = x ∨ h5.2.1 ≤ h3.2.1); omega)
  have KD7 := dk_fr (Ss := []) (Lb := []) ⟨CT5, ⟨0, LD5⟩, fun S hS => absurd hS List.not_mem_nil, fun S hS => absurd hS List.not_mem_nil, RD5⟩ S7 (by show ¬ (h4.2.1 = x ∨ h5.2.1 ≤ h4.2.1); omega) (by show ¬ (la = x ∨ h5.2.1 ≤ la); omega) (by show ¬ (ra = x ∨ h5.2.1 ≤ ra); omega) (fun S hS => absurd hS List.not_mem_nil)
  have KP7 := pl_fr ⟨TT, ⟨0, [], q2⟩, [], q3⟩ T7 (by show ¬ h5.2.1 = x; omega) (by show ¬ lb = x; omega) (by show ¬ rb = x; omega)
  have up : ∀ {h0 h1 h2 : pm_S} {o0 o1 o2 : Nat → Nat} {c s c2 s2 : Nat}, cW h0 o0 → cF G (fun u => u = x ∨ h.2.1 ≤ u) h0 o0 h1 o1 c s → cF G (fun u => u = x ∨ h1.2.1 ≤ u) h1 o1 h2 o2 c2 s2 → h.2.1 ≤ h1.2.1 → cF G (fun u => u = x ∨ h.2.1 ≤ u) h0 o0 h2 o2 (c + c2) (s + s2) := fun w0 F F2 hl => cf_trans w0 F F2 (fun u _ hu => .inl (hu.imp (fun e => e) (fun e => by omega)))
  have R2 := up X0.1 S1 S2 z1
  have R3 := up X0.1 R2 S3 (by show h.2.1 ≤ h2.2.1; omega)
  have R4 := up X0.1 R3 S4 (by show h.2.1 ≤ h3.2.1; omega)
  have R5 := up X0.1 R4 S5 (by show h.2.1 ≤ h4.2.1; omega)
  have R7 := up X0.1 R5 S7 (by show h.2.1 ≤ h5.2.1; omega)
  refine K _ o6 h.2.1 h1.2.1 h2.2.1 h3.2.1 h4.2.1 la ra h5.2.1 lb rb (cf_up R7 (fun _ _ q => q) (by omega) (by omega)) ⟨X7, ⟨_, _, pp_eq, .inl ⟨rfl, rfl⟩, hg, b6⟩, DR7, ⟨⟨0, PI7⟩, fun p hp => absurd hp List.not_mem_nil⟩, ⟨_, PG7⟩, ⟨⟨0, BA7⟩, fun p hp => absurd hp List.not_mem_nil, Nat.zero_le _⟩, KD7, KP7, ⟨⟨by omega, by omega, by omega, by omega, by omega, by omega⟩, ⟨by omega, by omega, by omega, by omega⟩, fun S hS => absurd hS List.not_mem_nil, fun S hS => absurd hS List.not_mem_nil⟩⟩
end XNS
