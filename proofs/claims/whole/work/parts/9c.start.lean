/-! The law's start; what was owed, and the claim. -/
theorem l_cell {G : pm_G} {h : pm_S} {Q : pm_Q} {b nb j : Nat} {xs : Nat → Int32} (hb : h.1 b = some (pm_a 0 nb xs)) (hn : nb ≤ 1537) (hj : j ≤ 1537) (K : Q (.inl (some (.int (if j < nb then xs j else 0)))) h) : ps_M G 1 27 [.ref b, iN j] h Q := by
  refine ps_M_in (e27 _ _) l27 (fun d hd => ?_)
  refine ps_s_il p27_0 rfl ?_
  first | refine ps_s_al p27_1 rfl ?_ | refine ps_s_aln p27_1 rfl ?_
  first | refine ps_s_alr p27_2 hb ?_ | refine ps_s_al0 p27_2 hb ?_
  refine ps_s_ge p27_3 (by omega) (by omega) (fun c3 => ?_) (fun c3 => ?_)
  · rw [if_neg (by omega)] at K
    refine ps_s_k p27_12 ?_
    refine ps_s_ri p27_13 t27 ?_
    exact K
  · rw [if_pos (by omega)] at K
    first | refine ps_s_al p27_6 rfl ?_ | refine ps_s_aln p27_6 rfl ?_
    refine ps_s_il p27_7 rfl ?_
    refine ps_s_iav p27_8 hb rfl (by omega) (by omega) ?_
    refine ps_s_go p27_9 ?_
    refine ps_s_ri p27_13 t27 ?_
    exact K
theorem law_start {N mi em b L : Nat} {xs : Nat → Int32} (hL : L ≤ 1537) (hb : b < N) (he : em < N) (hne : b ≠ em) : ps_X (N, mi, em) 60 140 0 [some (.ref b), none, none, none, none, none, none] [] (pm_h0 N b em L xs) (fun w h => w = .inl (some (.int 1)) ∧ h.2.1 ≤ N + 601024 ∧ h.2.2 ≤ 7293000) := by
  have hb0 : (pm_h0 N b em L xs).1 b = some (pm_a 0 L xs) := if_pos rfl
  have he0 : (pm_h0 N b em L xs).1 em = some (pm_r 0 (fun _ => none)) := by
    show (if em = b then _ else if em = em then _ else none) = _
    rw [if_neg (fun e => hne e.symm), if_pos rfl]
  have w0 : cW (pm_h0 N b em L xs) (fun _ => 0) := by
    refine ⟨fun z hz => ?_, fun z v _ => ?_⟩
    · have hz' : N ≤ z := hz
      show (if z = b then _ else if z = em then _ else none) = none
      rw [if_neg (by omega), if_neg (by omega)]
    · show 0 < N
      omega
  have G1 : ((N, mi, em) : pm_G).1 = N := rfl
  have d1 : cF (N, mi, em) (fun _ => False) (pm_h0 N b em L xs) (fun _ => 0) (pm_add (pm_h0 N b em L xs) (pm_o 0 (pm_zero 0)) 10) (va_up (fun _ => 0) N N) 1 10 := cf_add w0 (Nat.le_refl _)
  have hb1 : (pm_add (pm_h0 N b em L xs) (pm_o 0 (pm_zero 0)) 10).1 b = some (pm_a 0 L xs) := cf_get d1 hb0 (fun q => q)
  have he1 : (pm_add (pm_h0 N b em L xs) (pm_o 0 (pm_zero 0)) 10).1 em = some (pm_r 0 (fun _ => none)) := cf_get d1 he0 (fun q => q)
  have ob1 : va_up (fun _ => 0) N N b = 0 := if_neg (by omega)
  have oe1 : va_up (fun _ => 0) N N em = 0 := if_neg (by omega)
  have X1 : cG0 (N, mi, em) (va_up (fun _ => 0) N N) (pm_add (pm_h0 N b em L xs) (pm_o 0 (pm_zero 0)) 10) := ⟨d1.1, by show N ≤ N + 1; omega, ⟨_, he1⟩, by show va_up (fun _ => 0) N N em < N; rw [oe1]; omega⟩
  refine ps_s_nw p140_0 ?_
  refine ps_s_dup p140_3 rfl ?_
  first | refine ps_s_al p140_4 rfl ?_ | refine ps_s_aln p140_4 rfl ?_
  refine ps_s_k p140_5 ?_
  refine ps_s_vS [_, _] _ p140_6 rfl rfl rfl rfl (l_cell hb1 hL (by omega) (ps_bki ?_) 60 (by omega))
  refine ps_s_vP [_] _ p140_9 rfl rfl rfl rfl (x_new X1 pa_eq (if_pos rfl) (Nat.le_refl N) (fun h2 o2 dr pi pg ba kD lD rD kP lP rP F X => ps_bkv ?_) 60 (by omega))
  have hFs := F.2
  have s1 : (pm_add (pm_h0 N b em L xs) (pm_o 0 (pm_zero 0)) 10).2.1 = N + 1 := rfl
  have s2 : (pm_add (pm_h0 N b em L xs) (pm_o 0 (pm_zero 0)) 10).2.2 = 0 + 10 := rfl
  have hb2 : h2.1 b = some (pm_a 0 L xs) := cf_low F hb1 (by show va_up (fun _ => 0) N N b < N; rw [ob1]; omega)
  have ob2 : o2 b = 0 := (cf_own F hb1).trans ob1
  have hm : N ≤ h2.2.1 := X.1.2.1
  have w2 := X.1.1
  have hb2a : (pm_add h2 (pm_o 9 (pm_zero 9)) 25).1 b = some (pm_a 0 L xs) := (pa_ne (by omega)).trans hb2
  first | refine ps_s_as1 p140_12 ?_ | refine ps_s_asn1 p140_12 ?_
  refine ps_s_nw p140_13 ?_
  refine ps_s_dup p140_16 rfl ?_
  first | refine ps_s_al p140_17 rfl ?_ | refine ps_s_aln p140_17 rfl ?_
  refine ps_s_k p140_18 ?_
  refine ps_s_vS [_, _] _ p140_19 rfl rfl rfl rfl (l_cell hb2a hL (by omega) (ps_bki ?_) 60 (by omega))
  have est : pm_add h2 (pm_o 9 (pm_zero 9)) 25 = rf_k (h2.1, h2.2.1 + 1, h2.2.2 + 25) h2.2.1 [pm_o 9 (pm_zero 9)] := by
    unfold pm_add rf_k va_up
    refine Prod.ext (funext fun a => ?_) rfl
    dsimp only
    by_cases q : a = h2.2.1
    · rw [if_pos q, if_pos ⟨by omega, by show a < h2.2.1 + 1; omega⟩, q, Nat.sub_self]
      rfl
    · rw [if_neg q, if_neg (fun e => q (by have : a < h2.2.1 + 1 := e.2; omega))]
  refine ps_s_vP [_] _ p140_22 rfl rfl rfl rfl (?_ : pm_call (N, mi, em) 60 97 [.ref h2.2.1, .int (if 0 < L then xs 0 else 0)] (pm_add h2 (pm_o 9 (pm_zero 9)) 25) _)
  rw [est]
  refine rf_new (G := (N, mi, em)) hm (ps_bkv ?_) 60 (by omega)
  /- the store with the reference in it -/
  have h3L := rL_kd h2.2.1 (rmN (if 0 < L then xs 0 else 0)) 0 0 0 0 0 1 0 (-1) 0 0 (fun _ => 0) (fun _ => 0) (fun _ => 0) (fun _ => 0) (fun _ => 0) (fun _ => 0) (fun _ => 0) (fun _ => 0) (fun _ => 0) (fun _ => 0) (fun _ => 0) (fun _ => 0) (fun _ => 0) (fun _ => 0)
  rw [← rL_rf]
  generalize hLL : rL h2.2.1 (rmN (if 0 < L then xs 0 else 0)) 0 0 0 0 0 1 0 (-1) 0 0 (fun _ => 0) (fun _ => 0) (fun _ => 0) (fun _ => 0) (fun _ => 0) (fun _ => 0) (fun _ => 0) (fun _ => 0) (fun _ => 0) (fun _ => 0) (fun _ => 0) (fun _ => 0) (fun _ => 0) (fun _ => 0) = LL at h3L
  have hl15 := rKs_len h3L
  have F3 : cF (N, mi, em) (fun _ => False) h2 o2 (rf_k (h2.1, h2.2.1 + 15, h2.2.2 + 25 + 4365) h2.2.1 LL) (fun z => if h2.2.1 ≤ z ∧ z < h2.2.1 + 15 then h2.2.1 else o2 z) 15 (25 + 4365) := by
    refine ⟨⟨fun z hz => ?_, fun z v ez => ?_⟩, Nat.le_add_right _ _, Nat.le_refl _, by show h2.2.2 + 25 + 4365 ≤ _; omega, fun z hz ez => ?_, fun z v ez => ?_⟩
    · have hz' : h2.2.1 + 15 ≤ z := hz
      rw [rk_ne (by omega)]
      exact w2.1 z (by omega)
    · show (if h2.2.1 ≤ z ∧ z < h2.2.1 + 15 then h2.2.1 else o2 z) < h2.2.1 + 15
      split
      · omega
      · next q =>
        rw [rk_ne (by rw [hl15]; exact q)] at ez
        have := w2.2 z v ez
        omega
    · rw [rk_ne (by omega)]
      exact ez
    · have hlt := cw_lt w2 ez
      have hn : ¬ (h2.2.1 ≤ z ∧ z < h2.2.1 + LL.length) := by omega
      have hn2 : ¬ (h2.2.1 ≤ z ∧ z < h2.2.1 + 15) := by omega
      exact ⟨if_neg hn2, ⟨v, by rw [rk_ne hn]; exact ez, rfl⟩, fun _ => by rw [rk_ne hn]; exact ez⟩
  have X3 := cx_nil X F3 (fun _ q => q)
  have w3 := X3.1.1
  have F4 : cF (N, mi, em) (fun _ => False) (rf_k (h2.1, h2.2.1 + 15, h2.2.2 + 25 + 4365) h2.2.1 LL) (fun z => if h2.2.1 ≤ z ∧ z < h2.2.1 + 15 then h2.2.1 else o2 z) (pm_add (rf_k (h2.1, h2.2.1 + 15, h2.2.2 + 25 + 4365) h2.2.1 LL) (pm_l 1 (fun _ => 0)) 1) (va_up (fun z => if h2.2.1 ≤ z ∧ z < h2.2.1 + 15 then h2.2.1 else o2 z) (h2.2.1 + 15) (h2.2.1 + 15)) 1 1 := cf_add w3 (Nat.le_refl _)
  have X4 := cx_nil X3 F4 (fun _ q => q)
  have hR3 : rf_k (rf_k (h2.1, h2.2.1 + 15, h2.2.2 + 25 + 4365) h2.2.1 LL) h2.2.1 LL = rf_k (h2.1, h2.2.1 + 15, h2.2.2 + 25 + 4365) h2.2.1 LL := rk_idem rfl
  have hb3 : (rf_k (h2.1, h2.2.1 + 15, h2.2.2 + 25 + 4365) h2.2.1 LL).1 b = some (pm_a 0 L xs) := cf_get F3 hb2 (fun q => q)
  have ob3 := (cf_own F3 hb2).trans ob2
  have S4 : lS (N, mi, em) (va_up (fun z => if h2.2.1 ≤ z ∧ z < h2.2.1 + 15 then h2.2.1 else o2 z) (h2.2.1 + 15) (h2.2.1 + 15)) (pm_add (rf_k (h2.1, h2.2.1 + 15, h2.2.2 + 25 + 4365) h2.2.1 LL) (pm_l 1 (fun _ => 0)) 1) h2.2.1 (h2.2.1 + 15) b L xs LL := by
    refine ⟨rk_keep hR3 (fun k hk => pa_ne (by show h2.2.1 + k ≠ h2.2.1 + 15; omega)), h3L, fun k hk => ?_, hm, ⟨⟨_, pa_eq⟩, if_pos rfl, by show N ≤ h2.2.1 + 15; omega⟩, cf_get F4 hb3 (fun q => q), ?_⟩
    · refine (if_neg (by omega)).trans ?_
      exact if_pos ⟨by omega, by omega⟩
    · rw [cf_own F4 hb3, ob3]
      show 0 < N
      omega
  subst hLL
  have E4 : rel 0 (rmN (if 0 < L then xs 0 else 0)) 0 none [] [] [] [] [] 0 0 0 (fun _ => 0) (fun _ => 0) (fun _ => 0) (fun _ => 0) (fun _ => 0) (fun _ => 0) (fun _ => 0) (fun _ => 0) (fun _ => 0) (fun _ => 0) (fun _ => 0) (fun _ => 0) (fun _ => 0) (fun _ => 0) := by
    refine ⟨⟨Nat.le_refl _, Nat.zero_le _, fun _ => Nat.zero_le _⟩, (fun p hp => by cases hp), ⟨Nat.zero_le _, rfl, fun _ => Nat.succ_pos _⟩, ⟨Nat.zero_le _, fun _ => Nat.zero_le _, fun _ => Nat.zero_le _, fun _ => Nat.succ_pos _, (fun j p hj => by simp at hj)⟩, ⟨⟨⟨fun _ => Nat.succ_pos _, fun _ => Nat.zero_le _, fun _ => Nat.succ_pos _, fun _ => Nat.succ_pos _, fun _ => Nat.zero_le _, fun _ => Nat.zero_le _⟩, fun _ => Nat.succ_pos _, rfl, rfl, rfl⟩, rfl, rfl⟩, rfl, ?_⟩
    exact ⟨⟨Nat.zero_le _, Nat.zero_le _⟩, fun y hy => absurd hy List.not_mem_nil, List.Pairwise.nil, fun y hy => absurd hy List.not_mem_nil, fun g hg => absurd hg List.not_mem_nil, fun y hy => absurd hy List.not_mem_nil, Nat.zero_le _, fun _ => rfl, by decide, (rmN_le _).2⟩
  have J : lJ (N, mi, em) b L xs N h2.2.1 (h2.2.1 + 15) 0 (pm_add (rf_k (h2.1, h2.2.1 + 15, h2.2.2 + 25 + 4365) h2.2.1 (rL h2.2.1 (rmN (if 0 < L then xs 0 else 0)) 0 0 0 0 0 1 0 (-1) 0 0 (fun _ => 0) (fun _ => 0) (fun _ => 0) (fun _ => 0) (fun _ => 0) (fun _ => 0) (fun _ => 0) (fun _ => 0) (fun _ => 0) (fun _ => 0) (fun _ => 0) (fun _ => 0) (fun _ => 0) (fun _ => 0))) (pm_l 1 (fun _ => 0)) 1) := lj_mk X4 S4 E4 (by show h2.2.1 + 15 + 1 ≤ N + 100 + 1160 * 0; omega) (by show h2.2.2 + 25 + 4365 + 1 ≤ 10000 + 14200 * 0; omega)
  first | refine ps_s_as2 p140_25 ?_ | refine ps_s_asn2 p140_25 ?_
  refine ps_s_k p140_26 ?_
  refine ps_s_nal p140_27 (by omega) ?_
  first | refine ps_s_as3 p140_29 ?_ | refine ps_s_asn3 p140_29 ?_
  refine ps_s_k p140_30 ?_
  refine ps_s_is4 p140_31 ?_
  refine law_loop (by omega) hL (fun k h hk J' => ?_) 512 0 1 _ _ _ rfl (by omega) (by omega) J
  obtain ⟨o, _, _, _, _, _, _, _, _, _, _, _, _, _, _, _, _, _, _, _, _, _, _, _, _, _, _, _, _, _, _, _, _, _, _, _, _, _, _, _, n1, n2⟩ := J'
  have n1' : h.2.1 ≤ N + 100 + 1160 * k := n1
  exact ⟨rfl, by omega, by omega⟩
theorem pm_owed : pm_Owed := by
  intro N mi em b L xs hL hb he hne
  obtain ⟨n, hn⟩ := law_start (mi := mi) (xs := xs) hL hb he hne
  exact ⟨60, n, by omega, hn⟩
