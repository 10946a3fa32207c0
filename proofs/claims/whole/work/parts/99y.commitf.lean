/-! Commit: both sides plan and write the same. -/
theorem kc_any (al : Nat) : ∀ l : List pD, decide (0 < kc al l) = l.any (fun x => !gnD al x) := by
  intro l
  induction l with
  | nil => rfl
  | cons x r ih =>
    rw [List.any_cons, ← ih, kc_c]
    cases h : gnD al x with
    | true => rw [if_pos rfl, Nat.zero_add]; rfl
    | false => rw [if_neg (by decide)]; exact decide_eq_true (by omega)
def dmN : List pD → Nat
  | [] => 0
  | x :: r => (if x.2.2 = 1 then 1 else 0) + dmN r
theorem kc_dm : ∀ l : List pD, (∀ y ∈ l, (y.2.1 = 0 ∧ y.2.2 ≤ 1) ∨ y.2 = (1, 0)) → kc 1 l + dmN l = kc 0 l ∧ decide (0 < dmN l) = l.any (fun x => decide (x.2.2 = 1)) := by
  intro l
  induction l with
  | nil => intro _; exact ⟨rfl, rfl⟩
  | cons x r ih =>
    intro h
    obtain ⟨i1, i2⟩ := ih (fun y hy => h y (List.mem_cons_of_mem _ hy))
    have hx := h x (List.mem_cons_self ..)
    rw [kc_c, kc_c, List.any_cons, ← i2]
    show _ + ((if x.2.2 = 1 then 1 else 0) + dmN r) = _ ∧ decide (0 < (if x.2.2 = 1 then 1 else 0) + dmN r) = _
    have g0 := gnD0 x
    have g1 : gnD 1 x = (decide (x.2.1 = 1) || decide (x.2.2 = 1)) := by
      unfold gnD
      rw [decide_eq_true (rfl : 1 = 1), Bool.true_and]
    rw [g0, g1]
    by_cases q : x.2.2 = 1
    · have q0 : x.2.1 = 0 := by
        rcases hx with hx | hx
        · exact hx.1
        · rw [hx] at q; exact absurd q (by decide)
      rw [if_pos q, decide_eq_true q, decide_eq_false (by omega : ¬ x.2.1 = 1)]
      refine ⟨?_, ?_⟩
      · show 0 + kc 1 r + (1 + dmN r) = 1 + kc 0 r
        omega
      · rw [Bool.true_or]
        exact decide_eq_true (by omega)
    · rw [if_neg q, decide_eq_false q, Bool.or_false, Bool.false_or, Nat.zero_add]
      exact ⟨by omega, rfl⟩
theorem hdC_dmS {Ss : List cS} (h : ∀ y ∈ (Ss.map gS).flatMap (·.2), (y.2.1 = 0 ∧ y.2.2 ≤ 1) ∨ y.2 = (1, 0)) : hdC Ss = dmS (Ss.map gS) := by
  unfold hdC dmS
  rw [List.any_map]
  induction Ss with
  | nil => rfl
  | cons S Ss ih =>
    rw [List.any_cons, List.any_cons, ih (fun y hy => h y (by rw [List.map_cons, List.flatMap_cons]; exact List.mem_append_right _ hy))]
    congr 1
    obtain ⟨k1, k2⟩ := kc_dm ((dS S).map (·.2)) (fun y hy => h y (by rw [List.map_cons, List.flatMap_cons]; exact List.mem_append_left _ hy))
    show decide (kc 1 ((dS S).map (·.2)) < kc 0 ((dS S).map (·.2))) = ((dS S).map (·.2)).any (fun x => decide (x.2.2 = 1))
    rw [← k2]
    exact decide_eq_decide.mpr ⟨fun e => by omega, fun e => by omega⟩
theorem bx_nil {bx : List (Nat × pD)} : bx.map (·.2.1) = [] ↔ bx = [] := List.map_eq_nil_iff
theorem kp_eq (Ss : List cS) : (Ss.filter (kpF 1)).map gS = kpS (Ss.map gS) := by
  unfold kpS
  rw [List.filter_map]
  congr 1
  apply List.filter_congr
  intro S _
  unfold kpF
  rw [kc_any]
  rfl
theorem plC_eq {nn : Nat} {Ss : List cS} {bx : List (Nat × pD)} (hz : ∀ y ∈ bx.map (·.2), y.2 = (0, 0)) : plC nn Ss bx = kpS (Ss.map gS) ++ nwS (nn + 1) (bx.map (·.2.1)) := by
  unfold plC nwC nwS
  rw [kp_eq, bx_eq hz]
  congr 1
  by_cases q : bx = []
  · rw [if_pos q, if_pos (bx_nil.mpr q)]
  · rw [if_neg q, if_neg (fun e => q (bx_nil.mp e))]
theorem cmC_eq {nn : Nat} {Ss : List cS} {bx : List (Nat × pD)} (hz : ∀ y ∈ bx.map (·.2), y.2 = (0, 0)) : cmC nn Ss bx = cmB (nn + 1) (Ss.map gS) (bx.map (·.2.1)) := by
  unfold cmC cmB sbC
  rw [plC_eq hz]
  congr 1
  by_cases q : bx = []
  · rw [if_pos q, if_pos (bx_nil.mpr q)]
  · rw [if_neg q, if_neg (fun e => q (bx_nil.mp e))]
theorem gS_mpS (u : pD → pD) (Zs : List cS) : (Zs.map (mpS u)).map gS = (Zs.map gS).map (mu u) := by
  rw [List.map_map, List.map_map]
  apply List.map_congr_left
  intro S _
  show (S.2.1, ((dS S).map (fun p => (p.1, u p.2))).map (·.2)) = (S.2.1, ((dS S).map (·.2)).map u)
  rw [List.map_map, List.map_map]
  rfl
theorem nw_st (nn : Nat) (bu : List pDoc) : (nwS nn bu).map (mu stD) = nwS nn bu := by
  unfold nwS
  split
  · rfl
  · show [(nn, (bu.map (fun x => ((x, 0, 0) : pD))).map stD)] = _
    rw [List.map_map]
    rfl
theorem gn_st (D : pD) : gnD 0 (stD D) = gnD 1 D := by
  rw [gnD0]
  unfold gnD stD
  rw [decide_eq_true (rfl : 1 = 1), Bool.true_and]
  show decide (bN (decide (D.2.1 = 1) || decide (D.2.2 = 1)) = 1) = _
  cases (decide (D.2.1 = 1) || decide (D.2.2 = 1)) <;> rfl
theorem inv_nb {li room : Nat} {sg : List pG} {bq : List pD} (I : inv li room sg bq) : inv li room sg [] := by
  obtain ⟨⟨i1, i2⟩, i3, i4, i5, i6⟩ := I
  refine ⟨⟨Nat.zero_le _, i2⟩, fun y hy => absurd hy List.not_mem_nil, ?_, fun y hy => ?_, i6⟩
  · rw [List.append_nil]; exact (List.pairwise_append.mp i4).1
  · rw [List.append_nil] at hy; exact i5 y (List.mem_append_left _ hy)
theorem sum_kp (sg : List pG) (f : pG → Bool) (w : pG → Nat) : ((sg.filter f).map w).sum ≤ (sg.map w).sum := by
  induction sg with
  | nil => exact Nat.le_refl _
  | cons g sg ih =>
    rw [List.filter_cons, List.map_cons, List.sum_cons]
    split
    · rw [List.map_cons, List.sum_cons]; omega
    · omega
/-- what a commit leaves keeps the invariant -/
theorem inv_cm {li room nn : Nat} {sg : List pG} {bu : List pDoc} (I : inv li room sg (bu.map (fun x => ((x, 0, 0) : pD)))) (hok : ¬ (room - uG li sg < cmB nn sg bu ∨ 10 < (kpS sg ++ nwS nn bu).length)) : inv 1 room ((kpS sg ++ nwS nn bu).map (mu stD)) [] := by
  have hu1 : ∀ D, (stD D).1 = D.1 := fun _ => rfl
  obtain ⟨⟨i1, i2⟩, i3, i4, i5, i6, i7, i8, i9, i10, i11⟩ := I
  have hfl : (kpS sg ++ nwS nn bu).flatMap (·.2) = (kpS sg).flatMap (·.2) ++ bu.map (fun x => ((x, 0, 0) : pD)) := by
    rw [List.flatMap_append]
    congr 1
    unfold nwS
    split
    · next q => rw [q]; rfl
    · simp
  have hsub : ((kpS sg ++ nwS nn bu).flatMap (·.2)).Sublist (sg.flatMap (·.2) ++ bu.map (fun x => ((x, 0, 0) : pD))) := by
    rw [hfl]
    exact List.Sublist.append (fl_sub _ _ _) (List.Sublist.refl _)
  refine ⟨⟨Nat.zero_le _, by rw [List.length_map]; omega⟩, fun y hy => absurd hy List.not_mem_nil, ?_, fun y hy => ?_, fun g hg => ?_, fun y hy => ?_, ?_, fun q => by omega, Nat.le_refl _, i11⟩
  · rw [List.append_nil, sg_fm, List.pairwise_map]
    exact i4.sublist hsub
  · rw [List.append_nil, sg_fm] at hy
    obtain ⟨y0, hy0, rfl⟩ := List.mem_map.mp hy
    exact i5 y0 (hsub.subset hy0)
  · obtain ⟨g0, hg0, rfl⟩ := List.mem_map.mp hg
    rcases List.mem_append.mp hg0 with hg0 | hg0
    · have hne := (List.mem_filter.mp hg0).2
      unfold neS at hne
      obtain ⟨y, hy, e⟩ := List.any_eq_true.mp hne
      refine ⟨stD y, List.mem_map.mpr ⟨y, hy, rfl⟩, ?_⟩
      have e2 : gnD 1 y = false := by cases h : gnD 1 y with
        | true => rw [h] at e; exact absurd e (by decide)
        | false => rfl
      have e3 := gn_st y
      rw [e2, gnD0] at e3
      have e4 := of_decide_eq_false e3
      have e5 : (stD y).2.1 ≤ 1 := bN_le _
      omega
    · unfold nwS at hg0
      split at hg0
      · cases hg0
      · next q =>
        rw [List.mem_singleton.mp hg0]
        cases hb : bu with
        | nil => exact absurd hb q
        | cons d r => exact ⟨(d, 0, 0), List.mem_cons_self .., rfl⟩
  · rw [sg_fm] at hy
    obtain ⟨y0, hy0, rfl⟩ := List.mem_map.mp hy
    have : (stD y0).2.1 = 0 ∨ (stD y0).2.1 = 1 := by
      have := bN_le (decide (y0.2.1 = 1) || decide (y0.2.2 = 1))
      show bN _ = 0 ∨ bN _ = 1
      omega
    rcases this with q | q
    · exact .inl ⟨q, Nat.zero_le _⟩
    · exact .inr (Prod.ext q rfl)
  · have hcm : cmB nn sg bu ≤ room - uG li sg := by omega
    unfold cmB at hcm
    unfold uG at hcm i8 ⊢
    rw [if_pos rfl, sum_mu hu1, lG_mu (a := 1) (fun D _ => gn_st D), List.map_append, List.sum_append]
    have h1 := sum_kp sg (fun g => neS g.2) (fun g => (bG g).length)
    have h2 : ((nwS nn bu).map (fun g => (bG g).length)).sum = if bu = [] then 0 else (sB bu).length := by
      unfold nwS
      split
      · rfl
      · show (bG (nn, bu.map (fun x => ((x, 0, 0) : pD)))).length + 0 = _
        unfold bG
        show (sB ((bu.map (fun x => ((x, 0, 0) : pD))).map (·.1))).length + 0 = _
        rw [List.map_map]
        have : ((fun x : pD => x.1) ∘ fun x => ((x, 0, 0) : pD)) = id := rfl
        rw [this, List.map_id]
        omega
    rw [h2]
    have h3 : ((kpS sg).map (fun g => (bG g).length)).sum ≤ (sg.map (fun g => (bG g).length)).sum := h1
    omega
