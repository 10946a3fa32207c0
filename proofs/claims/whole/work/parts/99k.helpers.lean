/-! The law's helpers: each over any account of the class's method that it calls. -/
theorem ps_bkt {G : pm_G} {d y pc nx p k : Nat} {ls : pm_V} {r : List Value} {Q : pm_Q} {h' : pm_S} (hp : pm_hnd y pc k = some p) (K : ps_X G d y p ls [.ref (h'.2.1 - 1)] h' Q) : ps_bk G d y pc nx ls r Q (.inr k) h' := by
  unfold ps_bk
  dsimp only
  rw [hp]
  exact K
section LHP
variable {G : pm_G} {h : pm_S} {Q : pm_Q} {x ou N : Nat} {a b : Int32} {xf : List Value} {R1 : Nat → pm_S → Prop} {R2 : Int32 → pm_S → Prop}
theorem hl_28 (e : h.1 x = some (pm_o 0 xf)) (hk : ∀ k h', R1 k h' → k = 0 ∨ k = 1) (M : ∀ Q' : pm_Q, (∀ k h', R1 k h' → Q' (.inr k) h') → (∀ v h', R2 v h' → Q' (.inl (some (.int v))) h') → ps_M G N 29 [.ref x, .int a] h Q') (hg : G.1 ≤ ou) (ho : ∀ v h', R2 v h' → ∃ g, h'.1 ou = some (pm_l 1 g)) (K1 : ∀ h', R1 0 h' → Q (.inl (some (iN 1))) h') (K2 : ∀ h', R1 1 h' → Q (.inl (some (iN 2))) h') (K0 : ∀ v h' g, R2 v h' → h'.1 ou = some (pm_l 1 g) → Q (.inl (some (iN 0))) (pm_put h' ou (pm_l 1 (vp_updL g 0 v.toInt64)))) : ps_M G (N + 1) 28 [.ref x, .int a, .ref ou] h Q := by
  refine ps_M_in (e28 _ _ _) l28 (fun d hd => ?_)
  first | refine ps_s_al p28_0 rfl ?_ | refine ps_s_aln p28_0 rfl ?_
  refine ps_s_k p28_1 ?_
  first | refine ps_s_al p28_2 rfl ?_ | refine ps_s_aln p28_2 rfl ?_
  refine ps_s_il p28_3 rfl ?_
  refine ps_s_vV [_] _ p28_4 rfl e rfl rfl rfl (M _ (fun k h' hr => ?_) (fun v h' hr => ps_bki ?_) d (by omega))
  · rcases hk k h' hr with rfl | rfl
    · refine ps_bkt (p := 12) (by decide +kernel) ?_
      first | refine ps_s_as3 p28_12 ?_ | refine ps_s_asn3 p28_12 ?_
      refine ps_s_k p28_13 ?_
      refine ps_s_ri p28_14 t28 ?_
      exact K1 h' hr
    · refine ps_bkt (p := 15) (by decide +kernel) ?_
      first | refine ps_s_as3 p28_15 ?_ | refine ps_s_asn3 p28_15 ?_
      refine ps_s_k p28_16 ?_
      refine ps_s_ri p28_17 t28 ?_
      exact K2 h' hr
  · obtain ⟨g, hg'⟩ := ho v h' hr
    refine ps_s_i2l p28_7 ?_
    refine ps_s_las p28_8 hg' (by omega) (by omega) (by omega) ?_
    refine ps_s_go p28_9 ?_
    refine ps_s_k p28_18 ?_
    refine ps_s_ri p28_19 t28 ?_
    exact K0 v h' g hr hg'
theorem hl_32 (e : h.1 x = some (pm_o 0 xf)) (hk : ∀ k h', R1 k h' → k = 0 ∨ k = 1) (M : ∀ Q' : pm_Q, (∀ k h', R1 k h' → Q' (.inr k) h') → (∀ v h', R2 v h' → Q' (.inl (some (.int v))) h') → ps_M G N 33 [.ref x, .int a] h Q') (hg : G.1 ≤ ou) (ho : ∀ v h', R2 v h' → ∃ g, h'.1 ou = some (pm_l 1 g)) (K1 : ∀ h', R1 0 h' → Q (.inl (some (iN 1))) h') (K2 : ∀ h', R1 1 h' → Q (.inl (some (iN 2))) h') (K0 : ∀ v h' g, R2 v h' → h'.1 ou = some (pm_l 1 g) → Q (.inl (some (iN 0))) (pm_put h' ou (pm_l 1 (vp_updL g 0 v.toInt64)))) : ps_M G (N + 1) 32 [.ref x, .int a, .ref ou] h Q := by
  refine ps_M_in (e32 _ _ _) l32 (fun d hd => ?_)
  first | refine ps_s_al p32_0 rfl ?_ | refine ps_s_aln p32_0 rfl ?_
  refine ps_s_k p32_1 ?_
  first | refine ps_s_al p32_2 rfl ?_ | refine ps_s_aln p32_2 rfl ?_
  refine ps_s_il p32_3 rfl ?_
  refine ps_s_vV [_] _ p32_4 rfl e rfl rfl rfl (M _ (fun k h' hr => ?_) (fun v h' hr => ps_bki ?_) d (by omega))
  · rcases hk k h' hr with rfl | rfl
    · refine ps_bkt (p := 12) (by decide +kernel) ?_
      first | refine ps_s_as3 p32_12 ?_ | refine ps_s_asn3 p32_12 ?_
      refine ps_s_k p32_13 ?_
      refine ps_s_ri p32_14 t32 ?_
      exact K1 h' hr
    · refine ps_bkt (p := 15) (by decide +kernel) ?_
      first | refine ps_s_as3 p32_15 ?_ | refine ps_s_asn3 p32_15 ?_
      refine ps_s_k p32_16 ?_
      refine ps_s_ri p32_17 t32 ?_
      exact K2 h' hr
  · obtain ⟨g, hg'⟩ := ho v h' hr
    refine ps_s_i2l p32_7 ?_
    refine ps_s_las p32_8 hg' (by omega) (by omega) (by omega) ?_
    refine ps_s_go p32_9 ?_
    refine ps_s_k p32_18 ?_
    refine ps_s_ri p32_19 t32 ?_
    exact K0 v h' g hr hg'
theorem hl_48 (e : h.1 x = some (pm_o 0 xf)) (hk : ∀ k h', R1 k h' → k = 1) (M : ∀ Q' : pm_Q, (∀ k h', R1 k h' → Q' (.inr k) h') → (∀ v h', R2 v h' → Q' (.inl (some (.int v))) h') → ps_M G N 49 [.ref x] h Q') (hg : G.1 ≤ ou) (ho : ∀ v h', R2 v h' → ∃ g, h'.1 ou = some (pm_l 1 g)) (K1 : ∀ h', R1 1 h' → Q (.inl (some (iN 1))) h') (K0 : ∀ v h' g, R2 v h' → h'.1 ou = some (pm_l 1 g) → Q (.inl (some (iN 0))) (pm_put h' ou (pm_l 1 (vp_updL g 0 v.toInt64)))) : ps_M G (N + 1) 48 [.ref x, .ref ou] h Q := by
  refine ps_M_in (e48 _ _) l48 (fun d hd => ?_)
  first | refine ps_s_al p48_0 rfl ?_ | refine ps_s_aln p48_0 rfl ?_
  refine ps_s_k p48_1 ?_
  first | refine ps_s_al p48_2 rfl ?_ | refine ps_s_aln p48_2 rfl ?_
  refine ps_s_vV [] _ p48_3 rfl e rfl rfl rfl (M _ (fun k h' hr => ?_) (fun v h' hr => ps_bki ?_) d (by omega))
  · rcases hk k h' hr with rfl
    · refine ps_bkt (p := 11) (by decide +kernel) ?_
      first | refine ps_s_as2 p48_11 ?_ | refine ps_s_asn2 p48_11 ?_
      refine ps_s_k p48_12 ?_
      refine ps_s_ri p48_13 t48 ?_
      exact K1 h' hr
  · obtain ⟨g, hg'⟩ := ho v h' hr
    refine ps_s_i2l p48_6 ?_
    refine ps_s_las p48_7 hg' (by omega) (by omega) (by omega) ?_
    refine ps_s_go p48_8 ?_
    refine ps_s_k p48_14 ?_
    refine ps_s_ri p48_15 t48 ?_
    exact K0 v h' g hr hg'
theorem hl_71 (e : h.1 x = some (pm_o 0 xf)) (hk : ∀ k h', R1 k h' → k = 0 ∨ k = 1) (M : ∀ Q' : pm_Q, (∀ k h', R1 k h' → Q' (.inr k) h') → (∀ v h', R2 v h' → Q' (.inl (some (.int v))) h') → ps_M G N 72 [.ref x, .int a, .int b] h Q') (hg : G.1 ≤ ou) (ho : ∀ v h', R2 v h' → ∃ g, h'.1 ou = some (pm_l 1 g)) (K1 : ∀ h', R1 0 h' → Q (.inl (some (iN 1))) h') (K2 : ∀ h', R1 1 h' → Q (.inl (some (iN 2))) h') (K0 : ∀ v h' g, R2 v h' → h'.1 ou = some (pm_l 1 g) → Q (.inl (some (iN 0))) (pm_put h' ou (pm_l 1 (vp_updL g 0 v.toInt64)))) : ps_M G (N + 1) 71 [.ref x, .int a, .int b, .ref ou] h Q := by
  refine ps_M_in (e71 _ _ _ _) l71 (fun d hd => ?_)
  first | refine ps_s_al p71_0 rfl ?_ | refine ps_s_aln p71_0 rfl ?_
  refine ps_s_k p71_1 ?_
  first | refine ps_s_al p71_2 rfl ?_ | refine ps_s_aln p71_2 rfl ?_
  refine ps_s_il p71_3 rfl ?_
  refine ps_s_il p71_4 rfl ?_
  refine ps_s_vV [_, _] _ p71_5 rfl e rfl rfl rfl (M _ (fun k h' hr => ?_) (fun v h' hr => ps_bki ?_) d (by omega))
  · rcases hk k h' hr with rfl | rfl
    · refine ps_bkt (p := 13) (by decide +kernel) ?_
      first | refine ps_s_as4 p71_13 ?_ | refine ps_s_asn4 p71_13 ?_
      refine ps_s_k p71_15 ?_
      refine ps_s_ri p71_16 t71 ?_
      exact K1 h' hr
    · refine ps_bkt (p := 17) (by decide +kernel) ?_
      first | refine ps_s_as4 p71_17 ?_ | refine ps_s_asn4 p71_17 ?_
      refine ps_s_k p71_19 ?_
      refine ps_s_ri p71_20 t71 ?_
      exact K2 h' hr
  · obtain ⟨g, hg'⟩ := ho v h' hr
    refine ps_s_i2l p71_8 ?_
    refine ps_s_las p71_9 hg' (by omega) (by omega) (by omega) ?_
    refine ps_s_go p71_10 ?_
    refine ps_s_k p71_21 ?_
    refine ps_s_ri p71_22 t71 ?_
    exact K0 v h' g hr hg'
theorem hl_74 (e : h.1 x = some (pm_o 0 xf)) (hk : ∀ k h', R1 k h' → k = 0 ∨ k = 1) (M : ∀ Q' : pm_Q, (∀ k h', R1 k h' → Q' (.inr k) h') → (∀ v h', R2 v h' → Q' (.inl (some (.int v))) h') → ps_M G N 75 [.ref x, .int a] h Q') (hg : G.1 ≤ ou) (ho : ∀ v h', R2 v h' → ∃ g, h'.1 ou = some (pm_l 1 g)) (K1 : ∀ h', R1 0 h' → Q (.inl (some (iN 1))) h') (K2 : ∀ h', R1 1 h' → Q (.inl (some (iN 2))) h') (K0 : ∀ v h' g, R2 v h' → h'.1 ou = some (pm_l 1 g) → Q (.inl (some (iN 0))) (pm_put h' ou (pm_l 1 (vp_updL g 0 v.toInt64)))) : ps_M G (N + 1) 74 [.ref x, .int a, .ref ou] h Q := by
  refine ps_M_in (e74 _ _ _) l74 (fun d hd => ?_)
  first | refine ps_s_al p74_0 rfl ?_ | refine ps_s_aln p74_0 rfl ?_
  refine ps_s_k p74_1 ?_
  first | refine ps_s_al p74_2 rfl ?_ | refine ps_s_aln p74_2 rfl ?_
  refine ps_s_il p74_3 rfl ?_
  refine ps_s_vV [_] _ p74_4 rfl e rfl rfl rfl (M _ (fun k h' hr => ?_) (fun v h' hr => ps_bki ?_) d (by omega))
  · rcases hk k h' hr with rfl | rfl
    · refine ps_bkt (p := 12) (by decide +kernel) ?_
      first | refine ps_s_as3 p74_12 ?_ | refine ps_s_asn3 p74_12 ?_
      refine ps_s_k p74_13 ?_
      refine ps_s_ri p74_14 t74 ?_
      exact K1 h' hr
    · refine ps_bkt (p := 15) (by decide +kernel) ?_
      first | refine ps_s_as3 p74_15 ?_ | refine ps_s_asn3 p74_15 ?_
      refine ps_s_k p74_16 ?_
      refine ps_s_ri p74_17 t74 ?_
      exact K2 h' hr
  · obtain ⟨g, hg'⟩ := ho v h' hr
    refine ps_s_i2l p74_7 ?_
    refine ps_s_las p74_8 hg' (by omega) (by omega) (by omega) ?_
    refine ps_s_go p74_9 ?_
    refine ps_s_k p74_18 ?_
    refine ps_s_ri p74_19 t74 ?_
    exact K0 v h' g hr hg'
theorem hl_78 (e : h.1 x = some (pm_o 0 xf)) (hk : ∀ k h', R1 k h' → k = 0 ∨ k = 2 ∨ k = 1) (M : ∀ Q' : pm_Q, (∀ k h', R1 k h' → Q' (.inr k) h') → (∀ v h', R2 v h' → Q' (.inl (some (.int v))) h') → ps_M G N 79 [.ref x, .int a] h Q') (hg : G.1 ≤ ou) (ho : ∀ v h', R2 v h' → ∃ g, h'.1 ou = some (pm_l 1 g)) (K1 : ∀ h', R1 0 h' → Q (.inl (some (iN 1))) h') (K2 : ∀ h', R1 2 h' → Q (.inl (some (iN 2))) h') (K3 : ∀ h', R1 1 h' → Q (.inl (some (iN 3))) h') (K0 : ∀ v h' g, R2 v h' → h'.1 ou = some (pm_l 1 g) → Q (.inl (some (iN 0))) (pm_put h' ou (pm_l 1 (vp_updL g 0 v.toInt64)))) : ps_M G (N + 1) 78 [.ref x, .int a, .ref ou] h Q := by
  refine ps_M_in (e78 _ _ _) l78 (fun d hd => ?_)
  first | refine ps_s_al p78_0 rfl ?_ | refine ps_s_aln p78_0 rfl ?_
  refine ps_s_k p78_1 ?_
  first | refine ps_s_al p78_2 rfl ?_ | refine ps_s_aln p78_2 rfl ?_
  refine ps_s_il p78_3 rfl ?_
  refine ps_s_vV [_] _ p78_4 rfl e rfl rfl rfl (M _ (fun k h' hr => ?_) (fun v h' hr => ps_bki ?_) d (by omega))
  · rcases hk k h' hr with rfl | rfl | rfl
    · refine ps_bkt (p := 12) (by decide +kernel) ?_
      first | refine ps_s_as3 p78_12 ?_ | refine ps_s_asn3 p78_12 ?_
      refine ps_s_k p78_13 ?_
      refine ps_s_ri p78_14 t78 ?_
      exact K1 h' hr
    · refine ps_bkt (p := 15) (by decide +kernel) ?_
      first | refine ps_s_as3 p78_15 ?_ | refine ps_s_asn3 p78_15 ?_
      refine ps_s_k p78_16 ?_
      refine ps_s_ri p78_17 t78 ?_
      exact K2 h' hr
    · refine ps_bkt (p := 18) (by decide +kernel) ?_
      first | refine ps_s_as3 p78_18 ?_ | refine ps_s_asn3 p78_18 ?_
      refine ps_s_k p78_19 ?_
      refine ps_s_ri p78_20 t78 ?_
      exact K3 h' hr
  · obtain ⟨g, hg'⟩ := ho v h' hr
    refine ps_s_i2l p78_7 ?_
    refine ps_s_las p78_8 hg' (by omega) (by omega) (by omega) ?_
    refine ps_s_go p78_9 ?_
    refine ps_s_k p78_21 ?_
    refine ps_s_ri p78_22 t78 ?_
    exact K0 v h' g hr hg'
theorem hl_82 (e : h.1 x = some (pm_o 0 xf)) (hk : ∀ k h', R1 k h' → k = 2) (M : ∀ Q' : pm_Q, (∀ k h', R1 k h' → Q' (.inr k) h') → (∀ v h', R2 v h' → Q' (.inl (some (.int v))) h') → ps_M G N 83 [.ref x] h Q') (hg : G.1 ≤ ou) (ho : ∀ v h', R2 v h' → ∃ g, h'.1 ou = some (pm_l 1 g)) (K1 : ∀ h', R1 2 h' → Q (.inl (some (iN 1))) h') (K0 : ∀ v h' g, R2 v h' → h'.1 ou = some (pm_l 1 g) → Q (.inl (some (iN 0))) (pm_put h' ou (pm_l 1 (vp_updL g 0 v.toInt64)))) : ps_M G (N + 1) 82 [.ref x, .ref ou] h Q := by
  refine ps_M_in (e82 _ _) l82 (fun d hd => ?_)
  first | refine ps_s_al p82_0 rfl ?_ | refine ps_s_aln p82_0 rfl ?_
  refine ps_s_k p82_1 ?_
  first | refine ps_s_al p82_2 rfl ?_ | refine ps_s_aln p82_2 rfl ?_
  refine ps_s_vV [] _ p82_3 rfl e rfl rfl rfl (M _ (fun k h' hr => ?_) (fun v h' hr => ps_bki ?_) d (by omega))
  · rcases hk k h' hr with rfl
    · refine ps_bkt (p := 11) (by decide +kernel) ?_
      first | refine ps_s_as2 p82_11 ?_ | refine ps_s_asn2 p82_11 ?_
      refine ps_s_k p82_12 ?_
      refine ps_s_ri p82_13 t82 ?_
      exact K1 h' hr
  · obtain ⟨g, hg'⟩ := ho v h' hr
    refine ps_s_i2l p82_6 ?_
    refine ps_s_las p82_7 hg' (by omega) (by omega) (by omega) ?_
    refine ps_s_go p82_8 ?_
    refine ps_s_k p82_14 ?_
    refine ps_s_ri p82_15 t82 ?_
    exact K0 v h' g hr hg'
theorem hl_84 (e : h.1 x = some (pm_o 0 xf)) (hk : ∀ k h', R1 k h' → k = 2) (M : ∀ Q' : pm_Q, (∀ k h', R1 k h' → Q' (.inr k) h') → (∀ v h', R2 v h' → Q' (.inl (some (.int v))) h') → ps_M G N 85 [.ref x] h Q') (hg : G.1 ≤ ou) (ho : ∀ v h', R2 v h' → ∃ g, h'.1 ou = some (pm_l 1 g)) (K1 : ∀ h', R1 2 h' → Q (.inl (some (iN 1))) h') (K0 : ∀ v h' g, R2 v h' → h'.1 ou = some (pm_l 1 g) → Q (.inl (some (iN 0))) (pm_put h' ou (pm_l 1 (vp_updL g 0 v.toInt64)))) : ps_M G (N + 1) 84 [.ref x, .ref ou] h Q := by
  refine ps_M_in (e84 _ _) l84 (fun d hd => ?_)
  first | refine ps_s_al p84_0 rfl ?_ | refine ps_s_aln p84_0 rfl ?_
  refine ps_s_k p84_1 ?_
  first | refine ps_s_al p84_2 rfl ?_ | refine ps_s_aln p84_2 rfl ?_
  refine ps_s_vV [] _ p84_3 rfl e rfl rfl rfl (M _ (fun k h' hr => ?_) (fun v h' hr => ps_bki ?_) d (by omega))
  · rcases hk k h' hr with rfl
    · refine ps_bkt (p := 11) (by decide +kernel) ?_
      first | refine ps_s_as2 p84_11 ?_ | refine ps_s_asn2 p84_11 ?_
      refine ps_s_k p84_12 ?_
      refine ps_s_ri p84_13 t84 ?_
      exact K1 h' hr
  · obtain ⟨g, hg'⟩ := ho v h' hr
    refine ps_s_i2l p84_6 ?_
    refine ps_s_las p84_7 hg' (by omega) (by omega) (by omega) ?_
    refine ps_s_go p84_8 ?_
    refine ps_s_k p84_14 ?_
    refine ps_s_ri p84_15 t84 ?_
    exact K0 v h' g hr hg'
theorem hl_92 (e : h.1 x = some (pm_o 0 xf)) (hk : ∀ k h', R1 k h' → k = 2) (M : ∀ Q' : pm_Q, (∀ k h', R1 k h' → Q' (.inr k) h') → (∀ v h', R2 v h' → Q' (.inl (some (.int v))) h') → ps_M G N 93 [.ref x, .int a] h Q') (hg : G.1 ≤ ou) (ho : ∀ v h', R2 v h' → ∃ g, h'.1 ou = some (pm_l 1 g)) (K1 : ∀ h', R1 2 h' → Q (.inl (some (iN 1))) h') (K0 : ∀ v h' g, R2 v h' → h'.1 ou = some (pm_l 1 g) → Q (.inl (some (iN 0))) (pm_put h' ou (pm_l 1 (vp_updL g 0 v.toInt64)))) : ps_M G (N + 1) 92 [.ref x, .int a, .ref ou] h Q := by
  refine ps_M_in (e92 _ _ _) l92 (fun d hd => ?_)
  first | refine ps_s_al p92_0 rfl ?_ | refine ps_s_aln p92_0 rfl ?_
  refine ps_s_k p92_1 ?_
  first | refine ps_s_al p92_2 rfl ?_ | refine ps_s_aln p92_2 rfl ?_
  refine ps_s_il p92_3 rfl ?_
  refine ps_s_vV [_] _ p92_4 rfl e rfl rfl rfl (M _ (fun k h' hr => ?_) (fun v h' hr => ps_bki ?_) d (by omega))
  · rcases hk k h' hr with rfl
    · refine ps_bkt (p := 12) (by decide +kernel) ?_
      first | refine ps_s_as3 p92_12 ?_ | refine ps_s_asn3 p92_12 ?_
      refine ps_s_k p92_13 ?_
      refine ps_s_ri p92_14 t92 ?_
      exact K1 h' hr
  · obtain ⟨g, hg'⟩ := ho v h' hr
    refine ps_s_i2l p92_7 ?_
    refine ps_s_las p92_8 hg' (by omega) (by omega) (by omega) ?_
    refine ps_s_go p92_9 ?_
    refine ps_s_k p92_15 ?_
    refine ps_s_ri p92_16 t92 ?_
    exact K0 v h' g hr hg'
theorem hl_95 (e : h.1 x = some (pm_o 0 xf)) (hk : ∀ k h', R1 k h' → k = 2) (M : ∀ Q' : pm_Q, (∀ k h', R1 k h' → Q' (.inr k) h') → (∀ v h', R2 v h' → Q' (.inl (some (.int v))) h') → ps_M G N 96 [.ref x, .int a] h Q') (hg : G.1 ≤ ou) (ho : ∀ v h', R2 v h' → ∃ g, h'.1 ou = some (pm_l 1 g)) (K1 : ∀ h', R1 2 h' → Q (.inl (some (iN 1))) h') (K0 : ∀ v h' g, R2 v h' → h'.1 ou = some (pm_l 1 g) → Q (.inl (some (iN 0))) (pm_put h' ou (pm_l 1 (vp_updL g 0 v.toInt64)))) : ps_M G (N + 1) 95 [.ref x, .int a, .ref ou] h Q := by
  refine ps_M_in (e95 _ _ _) l95 (fun d hd => ?_)
  first | refine ps_s_al p95_0 rfl ?_ | refine ps_s_aln p95_0 rfl ?_
  refine ps_s_k p95_1 ?_
  first | refine ps_s_al p95_2 rfl ?_ | refine ps_s_aln p95_2 rfl ?_
  refine ps_s_il p95_3 rfl ?_
  refine ps_s_vV [_] _ p95_4 rfl e rfl rfl rfl (M _ (fun k h' hr => ?_) (fun v h' hr => ps_bki ?_) d (by omega))
  · rcases hk k h' hr with rfl
    · refine ps_bkt (p := 12) (by decide +kernel) ?_
      first | refine ps_s_as3 p95_12 ?_ | refine ps_s_asn3 p95_12 ?_
      refine ps_s_k p95_13 ?_
      refine ps_s_ri p95_14 t95 ?_
      exact K1 h' hr
  · obtain ⟨g, hg'⟩ := ho v h' hr
    refine ps_s_i2l p95_7 ?_
    refine ps_s_las p95_8 hg' (by omega) (by omega) (by omega) ?_
    refine ps_s_go p95_9 ?_
    refine ps_s_k p95_15 ?_
    refine ps_s_ri p95_16 t95 ?_
    exact K0 v h' g hr hg'
end LHP
