/-! The shelf: what it is in the store, and what only reads it. -/
def cDR (G : pm_G) (o : Nat → Nat) (h : pm_S) (d : Nat) (ts : List Nat) : Prop :=
  ∃ e f, h.1 d = some (pm_o 1 [.ref e, iN ts.length]) ∧ h.1 e = some (pm_a 0 16 f) ∧ (G.1 ≤ d ∧ o d = d) ∧ (G.1 ≤ e ∧ o e = d) ∧ (∀ t, t < 16 → f t = Int32.ofNat (wm t ts)) ∧ ts.length ≤ 8
def cPi (G : pm_G) (o : Nat → Nat) (h : pm_S) (a : Nat) (ps : List (Nat × List Nat)) : Prop := (∃ cap, cAL G o h a cap (ps.map (·.1))) ∧ ∀ p ∈ ps, cQ G o h (lv p.2) p.1 p.2 ∧ lv p.2 ≤ 8
def cSh (G : pm_G) (o : Nat → Nat) (h : pm_S) (x dr pi pg ba kD kP room nn : Nat) (pw : Option Nat) : Prop :=
  ∃ pf bf : Int32, h.1 x = some (pm_o 0 [iN room, .ref dr, .ref pi, .ref pg, .ref ba, .ref kD, .ref kP, iN nn, .int pf, .int bf]) ∧ ((pw = none ∧ pf = 0) ∨ ∃ p, pw = some p ∧ pf = 1 ∧ bf = Int32.ofNat p ∧ p < 2147483648) ∧ G.1 ≤ x ∧ o x = x
def cDk (G : pm_G) (o : Nat → Nat) (h : pm_S) (k la ra : Nat) (Ss : List cS) (Lb : List Nat) : Prop := cCT G o h k la ra ∧ (∃ cap, cAL G o h la cap (Ss.map (·.1))) ∧ (∀ S ∈ Ss, cSG G o h S) ∧ (∀ S ∈ Ss, cRS G o h S) ∧ cRW G o h ra 800 Lb
def cPl (G : pm_G) (o : Nat → Nat) (h : pm_S) (k la ra : Nat) : Prop := cCT G o h k la ra ∧ (∃ cap zs, cAL G o h la cap zs) ∧ ∃ L, cRW G o h ra 800 L
def cG0 (G : pm_G) (o : Nat → Nat) (h : pm_S) : Prop := cW h o ∧ G.1 ≤ h.2.1 ∧ (∃ fe, h.1 G.2.2 = some (pm_r 0 fe)) ∧ o G.2.2 < G.1
def cNe (pi pg ba kD lD rD kP lP rP : Nat) (Ss : List cS) : Prop := (pi ≠ lD ∧ pi ≠ lP ∧ lD ≠ lP ∧ ba ≠ pi ∧ ba ≠ lD ∧ ba ≠ lP) ∧ (pg ≠ rD ∧ pg ≠ rP ∧ rD ≠ rP ∧ kD ≠ kP) ∧ (∀ S ∈ Ss, S.2.2.1 ≠ pi ∧ S.2.2.1 ≠ lD ∧ S.2.2.1 ≠ lP ∧ S.2.2.1 ≠ ba) ∧ (∀ S ∈ Ss, S.2.2.2.1 ≠ pg ∧ S.2.2.2.1 ≠ rD ∧ S.2.2.2.1 ≠ rP)
def cX (G : pm_G) (o : Nat → Nat) (h : pm_S) (x dr pi pg ba kD lD rD kP lP rP room nn : Nat) (pw : Option Nat) (ts : List Nat) (ps : List (Nat × List Nat)) (bx : List (Nat × pD)) (Ss : List cS) (Lb : List Nat) : Prop :=
  cG0 G o h ∧ cSh G o h x dr pi pg ba kD kP room nn pw ∧ cDR G o h dr ts ∧ cPi G o h pi ps ∧ (∃ L, cRW G o h pg 800 L) ∧ cLD G o h ba bx ∧ cDk G o h kD lD rD Ss Lb ∧ cPl G o h kP lP rP ∧ cNe pi pg ba kD lD rD kP lP rP Ss
/-- the bytes that are asked for -/
def selC (Lb : List Nat) (Ss : List cS) (a : Int32) : Option (List Nat) := if a = -1 then some Lb else if a < 0 then none else (Ss[a.toNatClampNeg]?).map (fun S => bG (gS S))
section XRD
variable {G : pm_G} {o : Nat → Nat} {h : pm_S} {x dr pi pg ba kD lD rD kP lP rP room nn : Nat} {pw : Option Nat} {ts : List Nat} {ps : List (Nat × List Nat)} {bx : List (Nat × pD)} {Ss : List cS} {Lb : List Nat} {Q : pm_Q}
theorem x_buffered (X : (cX G o h x dr pi pg ba kD lD rD kP lP rP room nn pw ts ps bx Ss Lb)) (K : Q (.inl (some (iN bx.length))) h) : ps_M G 2 20 [.ref x] h Q := by
  obtain ⟨X0, ⟨pf, bf, x1, _⟩, X3, X4, X5, ⟨⟨cap, B1⟩, B2⟩, X7, X8, X9⟩ := X
  obtain ⟨_, _, fs, b1⟩ := al_own B1
  refine ps_M_in (e20 _) l20 (fun d hd => ?_)
  first | refine ps_s_al p20_0 rfl ?_ | refine ps_s_aln p20_0 rfl ?_
  refine ps_s_gf p20_1 x1 rfl ?_
  refine ps_s_vV [] _ p20_4 rfl b1 rfl rfl rfl (al_sizem B1 (ps_bki ?_) d (by omega))
  refine ps_s_ri p20_7 t20 ?_
  exact K
theorem x_segments (X : (cX G o h x dr pi pg ba kD lD rD kP lP rP room nn pw ts ps bx Ss Lb)) (K : Q (.inl (some (iN Ss.length))) h) : ps_M G 2 21 [.ref x] h Q := by
  obtain ⟨X0, ⟨pf, bf, x1, _⟩, X3, X4, X5, X6, ⟨T, ⟨cap, A⟩, _⟩, X8, X9⟩ := X
  obtain ⟨_, _, fs, a1⟩ := al_own A
  refine ps_M_in (e21 _) l21 (fun d hd => ?_)
  first | refine ps_s_al p21_0 rfl ?_ | refine ps_s_aln p21_0 rfl ?_
  refine ps_s_gf p21_1 x1 rfl ?_
  refine ps_s_gf p21_4 T.1 rfl ?_
  refine ps_s_vV [] _ p21_7 rfl a1 rfl rfl rfl (al_sizem A (ps_bki ?_) d (by omega))
  refine ps_s_ri p21_10 t21 ?_
  exact K
theorem x_documents (X : (cX G o h x dr pi pg ba kD lD rD kP lP rP room nn pw ts ps bx Ss Lb)) (hn : Ss.length ≤ 1000) (K : Q (.inl (some (iN (Ss.map (fun S => kc 0 ((dS S).map (·.2)))).sum))) h) : ps_M G 5 17 [.ref x] h Q := by
  obtain ⟨X0, ⟨pf, bf, x1, _⟩, X3, X4, X5, X6, ⟨T, ⟨cap, A⟩, SS, _⟩, X8, X9⟩ := X
  obtain ⟨_, _, fs, a1⟩ := al_own A
  have loop : ∀ d', 4 ≤ d' → ∀ (R M : List cS), M ++ R = Ss → ps_X G d' 17 4 [some (.ref x), some (iN (M.map (fun S => kc 0 ((dS S).map (·.2)))).sum), some (iN M.length)] [] h Q := by
    intro d hd R
    induction R with
    | nil =>
      intro M hM
      rw [List.append_nil] at hM
      subst hM
      refine ps_s_il p17_4 rfl ?_
      first | refine ps_s_al p17_5 rfl ?_ | refine ps_s_aln p17_5 rfl ?_
      refine ps_s_gf p17_6 x1 rfl ?_
      refine ps_s_gf p17_9 T.1 rfl ?_
      refine ps_s_vV [] _ p17_12 rfl a1 rfl rfl rfl (al_sizem A (ps_bki ?_) d (by omega))
      refine ps_s_ge p17_15 (by omega) (by omega) (fun c15 => ?_) (fun c15 => ?_)
      · refine ps_s_il p17_45 rfl ?_
        refine ps_s_ri p17_46 t17 ?_
        exact K
      · omega
    | cons S R ih =>
      intro M hM
      have hlen : M.length + (R.length + 1) = Ss.length := by rw [← hM, List.length_append, List.length_cons]
      have hm : S ∈ Ss := by rw [← hM]; exact List.mem_append_right _ (List.mem_cons_self ..)
      obtain ⟨s1, _, s4, _⟩ := SS S hm
      have hg : (Ss.map (·.1))[M.length]? = some S.1 := by rw [List.getElem?_map, ← hM, get_pre]; rfl
      have nx := ih (M ++ [S]) (by rw [List.append_assoc]; exact hM)
      rw [List.length_append, List.map_append, List.sum_append, show ([S].map (fun S => kc 0 ((dS S).map (·.2)))).sum = kc 0 ((dS S).map (·.2)) by simp] at nx
      refine ps_s_il p17_4 rfl ?_
      first | refine ps_s_al p17_5 rfl ?_ | refine ps_s_aln p17_5 rfl ?_
      refine ps_s_gf p17_6 x1 rfl ?_
      refine ps_s_gf p17_9 T.1 rfl ?_
      refine ps_s_vV [] _ p17_12 rfl a1 rfl rfl rfl (al_sizem A (ps_bki ?_) d (by omega))
      refine ps_s_ge p17_15 (by omega) (by omega) (fun c15 => ?_) (fun c15 => ?_)
      · omega
      · refine ps_s_il p17_18 rfl ?_
        first | refine ps_s_al p17_19 rfl ?_ | refine ps_s_aln p17_19 rfl ?_
        refine ps_s_gf p17_20 x1 rfl ?_
        refine ps_s_gf p17_23 T.1 rfl ?_
        refine ps_s_il p17_26 rfl ?_
        refine ps_s_vV [_] _ p17_27 rfl a1 rfl rfl rfl (al_get A hg (ps_bki ?_) d (by omega))
        refine ps_s_ck p17_30 s1 ?_
        refine ps_s_k p17_33 ?_
        refine ps_s_vV [_] _ p17_34 rfl s1 rfl rfl rfl (sg_kept s1 s4 (by omega) (ps_bki ?_) d (by omega))
        first | refine ps_s_add p17_37 ?_ | refine ps_s_2 p17_37 ?_
        refine ps_s_is1 p17_38 ?_
        refine ps_s_in2 p17_39 ?_
        refine ps_s_go p17_42 ?_
        exact nx
  refine ps_M_in (e17 _) l17 (fun d hd => ?_)
  refine ps_s_k p17_0 ?_
  refine ps_s_is1 p17_1 ?_
  refine ps_s_k p17_2 ?_
  refine ps_s_is2 p17_3 ?_
  exact loop d hd Ss [] rfl
theorem x_free (X : (cX G o h x dr pi pg ba kD lD rD kP lP rP room nn pw ts ps bx Ss Lb)) (hn : Ss.length ≤ 1000) (hlb : Lb.length ≤ 2000) (hb : ∀ S ∈ Ss, (bG (gS S)).length ≤ 2000) (hu : Lb.length + (Ss.map (fun S => (bG (gS S)).length)).sum ≤ room) (K : Q (.inl (some (iN (room - (Lb.length + (Ss.map (fun S => (bG (gS S)).length)).sum))))) h) : ps_M G 5 25 [.ref x] h Q := by
  obtain ⟨X0, ⟨pf, bf, x1, _⟩, X3, X4, X5, X6, ⟨T, ⟨cap, A⟩, SS, RR, B⟩, X8, X9⟩ := X
  refine ps_M_in (e25 _) l25 (fun d hd => ?_)
  first | refine ps_s_al p25_0 rfl ?_ | refine ps_s_aln p25_0 rfl ?_
  refine ps_s_gf p25_1 x1 rfl ?_
  first | refine ps_s_al p25_4 rfl ?_ | refine ps_s_aln p25_4 rfl ?_
  refine ps_s_gf p25_5 x1 rfl ?_
  refine ps_s_vV [] _ p25_8 rfl T.1 rfl rfl rfl (ct_bytes T A SS RR B hn hlb hb (ps_bki ?_) d (by omega))
  first | refine ps_s_sub p25_11 (by omega) ?_ | refine ps_s_2 p25_11 ?_
  refine ps_s_ri p25_12 t25 ?_
  exact K
theorem x_bytesOf {a : Int32} (X : (cX G o h x dr pi pg ba kD lD rD kP lP rP room nn pw ts ps bx Ss Lb)) (hn : Ss.length ≤ 1000) (K1 : a = -1 → Q (.inl (some (.ref rD))) h) (K2 : ¬ a = -1 → ¬ a < 0 → ∀ S, Ss[a.toNatClampNeg]? = some S → Q (.inl (some (.ref S.2.2.2.1))) h) (K3 : ¬ a = -1 → (¬ a < 0 → Ss[a.toNatClampNeg]? = none) → Q (.inl (some .null)) h) : ps_M G 4 23 [.ref x, .int a] h Q := by
  obtain ⟨X0, ⟨pf, bf, x1, _⟩, X3, X4, X5, X6, ⟨T, ⟨cap, A⟩, SS, RR, B⟩, X8, X9⟩ := X
  obtain ⟨_, _, fs, a1⟩ := al_own A
  have nul : ∀ d', ¬ a = -1 → (¬ a < 0 → Ss[a.toNatClampNeg]? = none) → ps_X G d' 23 31 [some (.ref x), some (.int a)] [] h Q := by
    intro d' q1 q2
    refine ps_s_p p23_31 rfl ?_
    refine ps_s_go p23_32 ?_
    first | refine ps_s_ra p23_52 t23 ?_ | refine ps_s_rn p23_52 t23 ?_
    exact K3 q1 q2
  refine ps_M_in (e23 _ _) l23 (fun d hd => ?_)
  refine ps_s_il p23_0 rfl ?_
  refine ps_s_k p23_1 ?_
  refine ps_s_j p23_2 (fun c => ?_) (fun c => ?_)
  · have hne : ¬ a = -1 := of_decide_eq_true c
    refine ps_s_il p23_13 rfl ?_
    refine ps_s_j0 p23_14 (fun c => ?_) (fun c => ?_)
    · have hlt : a < 0 := of_decide_eq_true c
      exact nul d hne (fun q => absurd hlt q)
    · have hge : ¬ a < 0 := of_decide_eq_false c
      rcases i_cases a with q | ⟨n, hn1, rfl⟩
      · exact absurd q hge
      · rw [i_cl hn1] at K2 K3 nul
        refine ps_s_il p23_17 rfl ?_
        first | refine ps_s_al p23_18 rfl ?_ | refine ps_s_aln p23_18 rfl ?_
        refine ps_s_gf p23_19 x1 rfl ?_
        refine ps_s_gf p23_22 T.1 rfl ?_
        refine ps_s_vV [] _ p23_25 rfl a1 rfl rfl rfl (al_sizem A (ps_bki ?_) d (by omega))
        refine ps_s_lt p23_28 (by omega) (by omega) (fun c28 => ?_) (fun c28 => ?_)
        · have hS : Ss[n]? = some Ss[n] := List.getElem?_eq_getElem c28
          have hg : (Ss.map (·.1))[n]? = some (Ss[n]).1 := by rw [List.getElem?_map, hS]; rfl
          have s1 := (SS Ss[n] (List.getElem_mem c28)).1
          first | refine ps_s_al p23_35 rfl ?_ | refine ps_s_aln p23_35 rfl ?_
          refine ps_s_gf p23_36 x1 rfl ?_
          refine ps_s_gf p23_39 T.1 rfl ?_
          refine ps_s_il p23_42 rfl ?_
          refine ps_s_vV [_] _ p23_43 rfl a1 rfl rfl rfl (al_get A hg (ps_bki ?_) d (by omega))
          refine ps_s_ck p23_46 s1 ?_
          refine ps_s_gf p23_49 s1 rfl ?_
          first | refine ps_s_ra p23_52 t23 ?_ | refine ps_s_rn p23_52 t23 ?_
          exact K2 hne hge _ hS
        · exact nul d hne (fun _ => List.getElem?_eq_none (by omega))
  · have he : a = -1 := Decidable.not_not.mp (of_decide_eq_false c)
    first | refine ps_s_al p23_5 rfl ?_ | refine ps_s_aln p23_5 rfl ?_
    refine ps_s_gf p23_6 x1 rfl ?_
    refine ps_s_gf p23_9 T.1 rfl ?_
    first | refine ps_s_ra p23_12 t23 ?_ | refine ps_s_rn p23_12 t23 ?_
    exact K1 he
theorem x_size {a : Int32} (X : (cX G o h x dr pi pg ba kD lD rD kP lP rP room nn pw ts ps bx Ss Lb)) (hn : Ss.length ≤ 1000) (K1 : selC Lb Ss a = none → Q (.inl (some (.int (-2)))) h) (K2 : ∀ l, selC Lb Ss a = some l → Q (.inl (some (iN l.length))) h) : ps_M G 5 22 [.ref x, .int a] h Q := by
  have X' := X
  obtain ⟨X0, ⟨pf, bf, x1, _⟩, X3, X4, X5, X6, ⟨T, ⟨cap, A⟩, SS, RR, B⟩, X8, X9⟩ := X'
  unfold selC at K1 K2
  refine ps_M_in (e22 _ _) l22 (fun d hd => ?_)
  refine ps_s_al p22_0 rfl ?_
  refine ps_s_il p22_1 rfl ?_
  refine ps_s_vV [_] _ p22_2 rfl x1 rfl rfl rfl (x_bytesOf X hn (fun q => ps_bki ?_) (fun q1 q2 S hS => ps_bki ?_) (fun q1 q2 => ps_bki ?_) d (by omega))
  · obtain ⟨b, f, b1, _⟩ := B
    rw [if_pos q] at K2
    first | refine ps_s_as2 p22_5 ?_ | refine ps_s_asn2 p22_5 ?_
    first | refine ps_s_al p22_6 rfl ?_ | refine ps_s_aln p22_6 rfl ?_
    refine ps_s_jnr p22_7 ?_
    show ps_X _ _ 22 15 _ _ _ _
    first | refine ps_s_al p22_15 rfl ?_ | refine ps_s_aln p22_15 rfl ?_
    refine ps_s_gf p22_16 b1 rfl ?_
    refine ps_s_ri p22_19 t22 ?_
    exact K2 _ rfl
  · obtain ⟨b, f, b1, _⟩ := RR S (List.mem_of_getElem? hS)
    rw [if_neg q1, if_neg q2, hS] at K2
    first | refine ps_s_as2 p22_5 ?_ | refine ps_s_asn2 p22_5 ?_
    first | refine ps_s_al p22_6 rfl ?_ | refine ps_s_aln p22_6 rfl ?_
    refine ps_s_jnr p22_7 ?_
    show ps_X _ _ 22 15 _ _ _ _
    first | refine ps_s_al p22_15 rfl ?_ | refine ps_s_aln p22_15 rfl ?_
    refine ps_s_gf p22_16 b1 rfl ?_
    refine ps_s_ri p22_19 t22 ?_
    exact K2 _ rfl
  · rw [if_neg q1] at K1
    first | refine ps_s_as2 p22_5 ?_ | refine ps_s_asn2 p22_5 ?_
    first | refine ps_s_al p22_6 rfl ?_ | refine ps_s_aln p22_6 rfl ?_
    refine ps_s_jnn p22_7 ?_
    show ps_X _ _ 22 10 _ _ _ _
    refine ps_s_k p22_10 ?_
    refine ps_s_go p22_12 ?_
    refine ps_s_ri p22_19 t22 ?_
    refine K1 ?_
    split
    · rfl
    · next q => rw [q2 q]; rfl
theorem x_at {a b : Int32} (X : (cX G o h x dr pi pg ba kD lD rD kP lP rP room nn pw ts ps bx Ss Lb)) (hn : Ss.length ≤ 1000) (hLb : Lb.length ≤ 800) (hRb : ∀ S ∈ Ss, (bG (gS S)).length ≤ 4000) (K1 : (selC Lb Ss a = none ∨ (∀ l, selC Lb Ss a = some l → b < 0 ∨ l.length ≤ b.toNatClampNeg)) → Q (.inl (some (.int (-2)))) h) (K2 : ∀ l n, selC Lb Ss a = some l → b = Int32.ofNat n → n < l.length → Q (.inl (some (iN (l.getD n 0)))) h) : ps_M G 5 24 [.ref x, .int a, .int b] h Q := by
  have X' := X
  obtain ⟨X0, ⟨pf, bf, x1, _⟩, X3, X4, X5, X6, ⟨T, ⟨cap, A⟩, SS, RR, B⟩, X8, X9⟩ := X'
  have bad : ∀ d' u3, (selC Lb Ss a = none ∨ (∀ l, selC Lb Ss a = some l → b < 0 ∨ l.length ≤ b.toNatClampNeg)) → ps_X G d' 24 22 [some (.ref x), some (.int a), some (.int b), u3] [] h Q := by
    intro d' u3 q
    refine ps_s_k p24_22 ?_
    refine ps_s_go p24_24 ?_
    refine ps_s_ri p24_33 t24 ?_
    exact K1 q
  have row : ∀ d' r cap' l, selC Lb Ss a = some l → cRW G o h r cap' l → l.length ≤ cap' → ps_X G d' 24 5 [some (.ref x), some (.int a), some (.int b), none] [.ref r] h Q := by
    intro d' r cap' l hl R hc
    obtain ⟨rb, f, r1, r2, r3, r4, r5, r6⟩ := R
    first | refine ps_s_as3 p24_5 ?_ | refine ps_s_asn3 p24_5 ?_
    first | refine ps_s_al p24_6 rfl ?_ | refine ps_s_aln p24_6 rfl ?_
    refine ps_s_jnr p24_7 ?_
    show ps_X _ _ 24 10 _ _ _ _
    refine ps_s_il p24_10 rfl ?_
    refine ps_s_j0 p24_11 (fun c => ?_) (fun c => ?_)
    · exact bad _ _ (.inr (fun l' _ => .inl (of_decide_eq_true c)))
    · have hge : ¬ b < 0 := of_decide_eq_false c
      rcases i_cases b with q | ⟨n, hn1, rfl⟩
      · exact absurd q hge
      · refine ps_s_il p24_14 rfl ?_
        first | refine ps_s_al p24_15 rfl ?_ | refine ps_s_aln p24_15 rfl ?_
        refine ps_s_gf p24_16 r1 rfl ?_
        refine ps_s_lt p24_19 (by omega) (by omega) (fun c19 => ?_) (fun c19 => ?_)
        · first | refine ps_s_al p24_27 rfl ?_ | refine ps_s_aln p24_27 rfl ?_
          refine ps_s_gf p24_28 r1 rfl ?_
          refine ps_s_il p24_31 rfl ?_
          refine ps_s_iav p24_32 r2 (r6 n (by omega) c19) (by omega) (by omega) ?_
          refine ps_s_ri p24_33 t24 ?_
          exact K2 l n hl rfl c19
        · refine bad _ _ (.inr (fun l' hl' => .inr ?_))
          rw [hl] at hl'
          cases hl'
          rw [i_cl hn1]
          omega
  refine ps_M_in (e24 _ _ _) l24 (fun d hd => ?_)
  refine ps_s_al p24_0 rfl ?_
  refine ps_s_il p24_1 rfl ?_
  refine ps_s_vV [_] _ p24_2 rfl x1 rfl rfl rfl (x_bytesOf X hn (fun q => ps_bki ?_) (fun q1 q2 S hS => ps_bki ?_) (fun q1 q2 => ps_bki ?_) d (by omega))
  · exact row d rD 800 Lb (by unfold selC; rw [if_pos q]) B hLb
  · exact row d _ _ (bG (gS S)) (by unfold selC; rw [if_neg q1, if_neg q2, hS]; rfl) (RR S (List.mem_of_getElem? hS)) (Nat.le_refl _)
  · first | refine ps_s_as3 p24_5 ?_ | refine ps_s_asn3 p24_5 ?_
    first | refine ps_s_al p24_6 rfl ?_ | refine ps_s_aln p24_6 rfl ?_
    refine ps_s_jnn p24_7 ?_
    show ps_X _ _ 24 22 _ _ _ _
    refine bad _ _ (.inl ?_)
    unfold selC
    rw [if_neg q1]
    split
    · rfl
    · next q => rw [q2 q]; rfl
end XRD
