/-! Queries: cQ n q mk says that the tree at q, of height n at most, has the marks mk. -/
def lv : List Nat → Nat
  | [] => 0
  | k :: r => (if k < 16 then 1 else 0) + lv r
theorem lv_app (B : List Nat) : ∀ A : List Nat, lv (A ++ B) = lv A + lv B := by
  intro A
  induction A with
  | nil => exact (Nat.zero_add _).symm
  | cons x r ih => rw [List.cons_append]; show (if x < 16 then 1 else 0) + lv (r ++ B) = (if x < 16 then 1 else 0) + lv r + lv B; rw [ih]; omega
def cQ (G : pm_G) (o : Nat → Nat) (h : pm_S) : Nat → Nat → List Nat → Prop
  | 0, _, _ => False
  | n + 1, q, ms => (∃ t, t < 16 ∧ ms = [t] ∧ h.1 q = some (pm_o 7 [iN t, iN 1]) ∧ G.1 ≤ q ∧ o q = q) ∨ (∃ w b p m1 m2, w ≤ 10 ∧ ms = m1 ++ (m2 ++ [16 + w]) ∧ h.1 q = some (pm_o 8 [iN w, .ref b, .ref p, iN (lv ms)]) ∧ (G.1 ≤ q ∧ o q = q) ∧ cQ G o h n b m1 ∧ cQ G o h n p m2)
def mtD (mk : List Nat) (D : pD) : Bool := decide (D.2.1 = 0) && !decide (whM mk D.1.2 = 0)
section CQQ
variable {G : pm_G} {P : Nat → Prop} {h h1 : pm_S} {o o1 : Nat → Nat} {c s r cap cap2 a d al t k la ra : Nat} {S : cS} {Ss : List cS} {D : pD} {mk : List Nat} {Q : pm_Q}
theorem cq_mono : ∀ n m q mk, n ≤ m → cQ G o h n q mk → cQ G o h m q mk := by
  intro n
  induction n with
  | zero => intro m q mk _ hq; exact hq.elim
  | succ n ih =>
    intro m q mk hm hq
    obtain ⟨m', rfl⟩ : ∃ m', m = m' + 1 := ⟨m - 1, by omega⟩
    rcases hq with hq | ⟨w, b, p, m1, m2, h1, h2, h3, h4, h5, h6⟩
    · exact .inl hq
    · exact .inr ⟨w, b, p, m1, m2, h1, h2, h3, h4, ih _ _ _ (by omega) h5, ih _ _ _ (by omega) h6⟩
theorem cq_fr (F : cF G P h o h1 o1 c s) (hk : ∀ u x, P u → h.1 u = some x → kd x ≠ 8 ∧ kd x ≠ 9) : ∀ n q mk, cQ G o h n q mk → cQ G o1 h1 n q mk := by
  intro n
  induction n with
  | zero => intro q mk hq; exact hq.elim
  | succ n ih =>
    intro q mk hq
    rcases hq with ⟨t, h1, h2, h3, h4, h5⟩ | ⟨w, b, p, m1, m2, h1, h2, h3, ⟨h4, h4'⟩, h5, h6⟩
    · exact .inl ⟨t, h1, h2, cf_get F h3 (fun q => by rw [h5] at q; exact (hk _ _ q h3).1 rfl), h4, by rw [cf_own F h3]; exact h5⟩
    · exact .inr ⟨w, b, p, m1, m2, h1, h2, cf_get F h3 (fun q => by rw [h4'] at q; exact (hk _ _ q h3).2 rfl), ⟨h4, by rw [cf_own F h3]; exact h4'⟩, ih _ _ h5, ih _ _ h6⟩
theorem cq_kind : ∀ n q mk, cQ G o h n q mk → (∃ fs, h.1 q = some (pm_o 7 fs)) ∨ (∃ fs, h.1 q = some (pm_o 8 fs)) := by
  intro n
  cases n with
  | zero => intro q mk hq; exact hq.elim
  | succ n =>
    intro q mk hq
    rcases hq with ⟨t, h1, h2, h3, h4, h5⟩ | ⟨w, b, p, m1, m2, h1, h2, h3, h4, h5, h6⟩
    · exact .inl ⟨_, h3⟩
    · exact .inr ⟨_, h3⟩
theorem cq_lv : ∀ n q mk, cQ G o h n q mk → 1 ≤ lv mk := by
  intro n
  induction n with
  | zero => intro q mk hq; exact hq.elim
  | succ n ih =>
    intro q mk hq
    rcases hq with ⟨t, h1, rfl, h3, h4, h5⟩ | ⟨w, b, p, m1, m2, h1, rfl, h3, h4, h5, h6⟩
    · show 1 ≤ (if t < 16 then 1 else 0) + 0
      rw [if_pos h1]
      exact Nat.le_refl _
    · rw [lv_app]; have := ih _ _ h5; omega
theorem q_holds (hd : cDC G o h d D) : ∀ n q mk, cQ G o h n q mk → ∃ v, v < 256 ∧ (∀ rest st, evM D.1.2 (mk ++ rest) st = evM D.1.2 rest (v :: st)) ∧ ((∃ fs, h.1 q = some (pm_o 7 fs) ∧ ∀ Q : pm_Q, Q (.inl (some (iN v))) h → ps_M G (n + 1) 90 [.ref q, .ref d] h Q) ∨ (∃ fs, h.1 q = some (pm_o 8 fs) ∧ ∀ Q : pm_Q, Q (.inl (some (iN v))) h → ps_M G (n + 1) 89 [.ref q, .ref d] h Q)) := by
  intro n
  induction n with
  | zero => intro q mk hq; exact hq.elim
  | succ n ih =>
    intro q mk hq
    obtain ⟨e, f, d1, d2, d3, d4, d5, d6, d7, d8⟩ := hd
    rcases hq with ⟨t, h1, rfl, h3, h4, h5⟩ | ⟨w, b, p, m1, m2, h1, rfl, h3, h4, h5, h6⟩
    · refine ⟨wm t D.1.2, wm_lt d7, fun rest st => ?_, .inl ⟨_, h3, fun Q K => ?_⟩⟩
      · show evM D.1.2 (t :: rest) st = _
        rw [evM_c, if_pos h1]
      · refine ps_M_in (e90 _ _) l90 (fun d hd => ?_)
        first | refine ps_s_al p90_0 rfl ?_ | refine ps_s_aln p90_0 rfl ?_
        refine ps_s_gf p90_1 d1 rfl ?_
        first | refine ps_s_al p90_4 rfl ?_ | refine ps_s_aln p90_4 rfl ?_
        refine ps_s_gf p90_5 h3 rfl ?_
        refine ps_s_iav p90_8 d2 (d5 t h1) (by omega) (by omega) ?_
        refine ps_s_ri p90_9 t90 ?_
        exact K
    · obtain ⟨va, a1, a2, a3⟩ := ih b m1 h5
      obtain ⟨vb, b1, b2, b3⟩ := ih p m2 h6
      refine ⟨cmb w va vb, cmb_lt a1 b1, fun rest st => ?_, .inr ⟨_, h3, fun Q K => ?_⟩⟩
      · rw [List.append_assoc, List.append_assoc, a2, b2]
        show evM D.1.2 ((16 + w) :: rest) (vb :: va :: st) = _
        rw [evM_c, if_neg (by omega), Nat.add_sub_cancel_left]
      · have fin : ∀ d', n + 1 ≤ d' → ps_X G d' 89 18 [some (.ref q), some (.ref d), some (iN va), some (iN vb)] [] h Q := by
          intro d hd
          first | refine ps_s_al p89_18 rfl ?_ | refine ps_s_aln p89_18 rfl ?_
          refine ps_s_gf p89_19 h3 rfl ?_
          by_cases w0 : w = 0
          · subst w0
            unfold cmb at K
            rw [if_pos rfl] at K
            refine ps_s_ts (t := 52) (o := 30) p89_22 rfl rfl (by decide) rfl ?_
            refine ps_s_il p89_52 rfl ?_
            refine ps_s_eq0 p89_53 (by omega) (fun c53 => ?_) (fun c53 => ?_)
            · refine ps_s_k p89_66 ?_
              refine ps_s_ri p89_67 t89 ?_
              rw [if_pos (.inl (by omega))] at K
              exact K
            · refine ps_s_il p89_56 rfl ?_
              refine ps_s_eq0 p89_57 (by omega) (fun c57 => ?_) (fun c57 => ?_)
              · refine ps_s_k p89_66 ?_
                refine ps_s_ri p89_67 t89 ?_
                rw [if_pos (.inr (by omega))] at K
                exact K
              · refine ps_s_il p89_60 rfl ?_
                refine ps_s_il p89_61 rfl ?_
                refine ps_s_2e p89_62 (i_or _ _) ?_
                refine ps_s_go p89_63 ?_
                refine ps_s_ri p89_67 t89 ?_
                rw [if_neg (by omega)] at K
                exact K
          by_cases w1 : w = 1
          · subst w1
            refine ps_s_ts (t := 68) (o := 46) p89_22 rfl rfl (by decide) rfl ?_
            refine ps_s_il p89_68 rfl ?_
            refine ps_s_il p89_69 rfl ?_
            refine ps_s_2e p89_70 (i_or _ _) ?_
            refine ps_s_ri p89_71 t89 ?_
            exact K
          by_cases w2 : w = 2
          · subst w2
            unfold cmb at K
            rw [if_neg (by decide), if_neg (by decide), if_pos rfl] at K
            refine ps_s_ts (t := 72) (o := 50) p89_22 rfl rfl (by decide) rfl ?_
            refine ps_s_il p89_72 rfl ?_
            refine ps_s_ne0 p89_73 (by omega) (fun c73 => ?_) (fun c73 => ?_)
            · refine ps_s_k p89_80 ?_
              refine ps_s_ri p89_81 t89 ?_
              rw [if_neg c73] at K
              exact K
            · refine ps_s_il p89_76 rfl ?_
              refine ps_s_go p89_77 ?_
              refine ps_s_ri p89_81 t89 ?_
              rw [if_pos (by omega)] at K
              exact K
          by_cases w3 : w = 3
          · subst w3
            unfold cmb at K
            rw [if_neg (by decide), if_neg (by decide), if_neg (by decide), if_pos rfl] at K
            refine ps_s_ts (t := 82) (o := 60) p89_22 rfl rfl (by decide) rfl ?_
            refine ps_s_il p89_82 rfl ?_
            refine ps_s_il p89_83 rfl ?_
            refine ps_s_k p89_84 ?_
            refine ps_s_2e p89_85 (i_shl va a1 1 (by decide)) ?_
            refine ps_s_2e p89_86 (i_and _ _) ?_
            refine ps_s_ri p89_87 t89 ?_
            exact K
          · unfold cmb at K
            rw [if_neg w0, if_neg w1, if_neg w2, if_neg w3] at K
            have hti : (Int32.ofNat w).toInt = (w : Int) := Int32.toInt_ofNat_of_lt (by simp; omega)
            refine ps_s_ts (t := 88) (o := 66) p89_22 rfl ?_ (by decide) rfl ?_
            · unfold pm_jmp
              dsimp only
              rw [if_pos (by rw [hti]; omega)]
            · refine ps_s_il p89_88 rfl ?_
              refine ps_s_il p89_89 rfl ?_
              first | refine ps_s_al p89_90 rfl ?_ | refine ps_s_aln p89_90 rfl ?_
              refine ps_s_gf p89_91 h3 rfl ?_
              refine ps_s_k p89_94 ?_
              first | refine ps_s_sub p89_95 (by omega) ?_ | refine ps_s_2 p89_95 ?_
              refine ps_s_vS [_, _] _ p89_96 rfl rfl rfl rfl (q_around a1 (by omega) (ps_bki ?_) d (by omega))
              refine ps_s_2e p89_99 (i_and _ _) ?_
              rw [near_eq a1 b1]
              refine ps_s_ri p89_100 t89 ?_
              exact K
        have mid : ∀ d', n + 1 ≤ d' → ps_X G d' 89 8 [some (.ref q), some (.ref d), none, none] [iN va] h Q := by
          intro d hd
          refine ps_s_is2 p89_8 ?_
          first | refine ps_s_al p89_9 rfl ?_ | refine ps_s_aln p89_9 rfl ?_
          refine ps_s_gf p89_10 h3 rfl ?_
          first | refine ps_s_al p89_13 rfl ?_ | refine ps_s_aln p89_13 rfl ?_
          rcases b3 with ⟨gs, g1, g2⟩ | ⟨gs, g1, g2⟩
          · refine ps_s_vV [_] _ p89_14 rfl g1 rfl rfl rfl (g2 _ (ps_bki ?_) d (by omega))
            refine ps_s_is3 p89_17 ?_
            exact fin d hd
          · refine ps_s_vV [_] _ p89_14b rfl g1 rfl rfl rfl (g2 _ (ps_bki ?_) d (by omega))
            refine ps_s_is3 p89_17 ?_
            exact fin d hd
        refine ps_M_in (e89 _ _) l89 (fun d hd => ?_)
        first | refine ps_s_al p89_0 rfl ?_ | refine ps_s_aln p89_0 rfl ?_
        refine ps_s_gf p89_1 h3 rfl ?_
        first | refine ps_s_al p89_4 rfl ?_ | refine ps_s_aln p89_4 rfl ?_
        rcases a3 with ⟨gs, g1, g2⟩ | ⟨gs, g1, g2⟩
        · refine ps_s_vV [_] _ p89_5 rfl g1 rfl rfl rfl (g2 _ (ps_bki ?_) d (by omega))
          exact mid _ hd
        · refine ps_s_vV [_] _ p89_5b rfl g1 rfl rfl rfl (g2 _ (ps_bki ?_) d (by omega))
          exact mid _ hd
theorem q_wh {n q : Nat} (hd : cDC G o h d D) (hq : cQ G o h n q mk) : whM mk D.1.2 < 256 ∧ ((∃ fs, h.1 q = some (pm_o 7 fs) ∧ ∀ Q : pm_Q, Q (.inl (some (iN (whM mk D.1.2)))) h → ps_M G (n + 1) 90 [.ref q, .ref d] h Q) ∨ (∃ fs, h.1 q = some (pm_o 8 fs) ∧ ∀ Q : pm_Q, Q (.inl (some (iN (whM mk D.1.2)))) h → ps_M G (n + 1) 89 [.ref q, .ref d] h Q)) := by
  obtain ⟨v, a1, a2, a3⟩ := q_holds hd n q mk hq
  have e : whM mk D.1.2 = v := by
    unfold whM
    have := a2 [] []
    rw [List.append_nil] at this
    rw [this]
    rfl
  rw [e]
  exact ⟨a1, a3⟩
theorem q_match {n q : Nat} (hd : cDC G o h d D) (hq : cQ G o h n q mk) (hn : n ≤ 8) (K : Q (.inl (some (iN (bN (mtD mk D))))) h) : ps_M G 10 88 [.ref q, .ref d] h Q := by
  obtain ⟨a1, a3⟩ := q_wh hd hq
  obtain ⟨e, f, d1, d2, d3, d4, d5, d6, d7, d8, d9⟩ := hd
  unfold mtD at K
  have no : ∀ d', (decide (D.2.1 = 0) && !decide (whM mk D.1.2 = 0)) = false → ps_X G d' 88 19 [some (.ref q), some (.ref d)] [] h Q := by
    intro d' e
    rw [e] at K
    refine ps_s_k p88_19 ?_
    refine ps_s_rz p88_20 t88 (by first | exact .inl rfl | exact .inr rfl | exact bN_01 _) ?_
    exact K
  have fin : ∀ d', D.2.1 = 0 → ps_X G d' 88 12 [some (.ref q), some (.ref d)] [iN (whM mk D.1.2)] h Q := by
    intro d' e
    refine ps_s_eq0 p88_12 (by omega) (fun c12 => ?_) (fun c12 => ?_)
    · exact no _ (by rw [decide_eq_true c12, Bool.not_true, Bool.and_false])
    · rw [decide_eq_true e, decide_eq_false c12] at K
      refine ps_s_k p88_15 ?_
      refine ps_s_go p88_16 ?_
      refine ps_s_rz p88_20 t88 (by first | exact .inl rfl | exact .inr rfl | exact bN_01 _) ?_
      exact K
  refine ps_M_in (e88 _ _) l88 (fun d hd => ?_)
  first | refine ps_s_al p88_0 rfl ?_ | refine ps_s_aln p88_0 rfl ?_
  refine ps_s_gf p88_1 d1 rfl ?_
  refine ps_s_ne0 p88_4 (by omega) (fun c4 => ?_) (fun c4 => ?_)
  · exact no _ (by rw [decide_eq_false c4]; rfl)
  · first | refine ps_s_al p88_7 rfl ?_ | refine ps_s_aln p88_7 rfl ?_
    first | refine ps_s_al p88_8 rfl ?_ | refine ps_s_aln p88_8 rfl ?_
    rcases a3 with ⟨gs, g1, g2⟩ | ⟨gs, g1, g2⟩
    · refine ps_s_vV [_] _ p88_9 rfl g1 rfl rfl rfl (g2 _ (ps_bki ?_) d (by omega))
      exact fin _ (by omega)
    · refine ps_s_vV [_] _ p88_9b rfl g1 rfl rfl rfl (g2 _ (ps_bki ?_) d (by omega))
      exact fin _ (by omega)
/-- how many of a segment's documents match -/
theorem sg_matches {n q sa : Nat} {x y : Value} {xs : List (Nat × pD)} (hs : h.1 sa = some (pm_o 6 [x, .ref a, y])) (A : cLD G o h a xs) (hq : cQ G o h n q mk) (hn : n ≤ 8) (K : Q (.inl (some (iN ((xs.map (·.2)).filter (mtD mk)).length))) h) : ps_M G 11 87 [.ref sa, .ref q] h Q := by
  obtain ⟨⟨cap, A1⟩, A2, A3⟩ := A
  obtain ⟨_, _, fs, a1⟩ := al_own A1
  have loop : ∀ d', 10 ≤ d' → ∀ (R L : List (Nat × pD)), L ++ R = xs → ps_X G d' 87 4 [some (.ref sa), some (.ref q), some (iN ((L.map (·.2)).filter (mtD mk)).length), some (iN L.length)] [] h Q := by
    intro d hd R
    induction R with
    | nil =>
      intro L hL
      rw [List.append_nil] at hL
      subst hL
      refine ps_s_il p87_4 rfl ?_
      first | refine ps_s_al p87_5 rfl ?_ | refine ps_s_aln p87_5 rfl ?_
      refine ps_s_gf p87_6 hs rfl ?_
      refine ps_s_vV [] _ p87_9 rfl a1 rfl rfl rfl (al_sizem A1 (ps_bki ?_) d (by omega))
      refine ps_s_ge p87_12 (by omega) (by omega) (fun c12 => ?_) (fun c12 => ?_)
      · refine ps_s_il p87_47 rfl ?_
        refine ps_s_ri p87_48 t87 ?_
        exact K
      · omega
    | cons p R ih =>
      intro L hL
      have hlen : L.length + (R.length + 1) = xs.length := by rw [← hL, List.length_append, List.length_cons]
      have hm : p ∈ xs := by rw [← hL]; exact List.mem_append_right _ (List.mem_cons_self ..)
      obtain ⟨_, _, gs, p1⟩ := dc_obj (A2 p hm)
      have hg : (xs.map (·.1))[L.length]? = some p.1 := by rw [List.getElem?_map, ← hL, get_pre]; rfl
      have nx := ih (L ++ [p]) (by rw [List.append_assoc]; exact hL)
      rw [List.length_append, List.map_append, List.filter_append, List.length_append] at nx
      have kl : ((L.map (·.2)).filter (mtD mk)).length ≤ L.length := by have := List.length_filter_le (mtD mk) (L.map (·.2)); rw [List.length_map] at this; exact this
      have fin : ps_X G d 87 31 [some (.ref sa), some (.ref q), some (iN ((L.map (·.2)).filter (mtD mk)).length), some (iN L.length)] [iN (bN (mtD mk p.2)), iN ((L.map (·.2)).filter (mtD mk)).length] h Q := by
        by_cases hgn : mtD mk p.2 = true
        · rw [show ([p].map (·.2)).filter (mtD mk) = [p.2] by show [p.2].filter (mtD mk) = _; rw [List.filter_cons, if_pos hgn]; rfl] at nx
          rw [hgn, show bN true = 1 from rfl]
          refine ps_s_eq0 p87_31 (by omega) (fun c31 => ?_) (fun c31 => ?_)
          · exact absurd c31 (by decide)
          · refine ps_s_k p87_34 ?_
            refine ps_s_go p87_35 ?_
            first | refine ps_s_add p87_39 ?_ | refine ps_s_2 p87_39 ?_
            refine ps_s_is2 p87_40 ?_
            refine ps_s_in3 p87_41 ?_
            refine ps_s_go p87_44 ?_
            exact nx
        · rw [show ([p].map (·.2)).filter (mtD mk) = [] by show [p.2].filter (mtD mk) = _; rw [List.filter_cons, if_neg hgn]; rfl] at nx
          rw [Bool.not_eq_true] at hgn
          rw [hgn, show bN false = 0 from rfl]
          refine ps_s_eq0 p87_31 (by omega) (fun c31 => ?_) (fun c31 => ?_)
          · refine ps_s_k p87_38 ?_
            first | refine ps_s_add p87_39 ?_ | refine ps_s_2 p87_39 ?_
            refine ps_s_is2 p87_40 ?_
            refine ps_s_in3 p87_41 ?_
            refine ps_s_go p87_44 ?_
            exact nx
          · exact absurd rfl c31
      refine ps_s_il p87_4 rfl ?_
      first | refine ps_s_al p87_5 rfl ?_ | refine ps_s_aln p87_5 rfl ?_
      refine ps_s_gf p87_6 hs rfl ?_
      refine ps_s_vV [] _ p87_9 rfl a1 rfl rfl rfl (al_sizem A1 (ps_bki ?_) d (by omega))
      refine ps_s_ge p87_12 (by omega) (by omega) (fun c12 => ?_) (fun c12 => ?_)
      · omega
      · refine ps_s_il p87_15 rfl ?_
        first | refine ps_s_al p87_16 rfl ?_ | refine ps_s_aln p87_16 rfl ?_
        first | refine ps_s_al p87_17 rfl ?_ | refine ps_s_aln p87_17 rfl ?_
        refine ps_s_gf p87_18 hs rfl ?_
        refine ps_s_il p87_21 rfl ?_
        refine ps_s_vV [_] _ p87_22 rfl a1 rfl rfl rfl (al_get A1 hg (ps_bki ?_) d (by omega))
        refine ps_s_ck p87_25 p1 ?_
        rcases cq_kind _ _ _ hq with ⟨gq, q1⟩ | ⟨gq, q1⟩
        · refine ps_s_vV [_] _ p87_28 rfl q1 rfl rfl rfl (q_match (A2 p hm) hq hn (ps_bki ?_) d (by omega))
          exact fin
        · refine ps_s_vV [_] _ p87_28b rfl q1 rfl rfl rfl (q_match (A2 p hm) hq hn (ps_bki ?_) d (by omega))
          exact fin
  refine ps_M_in (e87 _ _) l87 (fun d hd => ?_)
  refine ps_s_k p87_0 ?_
  refine ps_s_is2 p87_1 ?_
  refine ps_s_k p87_2 ?_
  refine ps_s_is3 p87_3 ?_
  exact loop d hd xs [] rfl
/-- the document before which so many others match -/
theorem ct_match {n q v : Nat} (T : cCT G o h k la ra) (A : cAL G o h la cap (Ss.map (·.1))) (SS : ∀ S ∈ Ss, cSG G o h S) (hSn : Ss.length ≤ 1000) (hq : cQ G o h n q mk) (hn : n ≤ 8) (hv : v < 2147483648)
    (K1 : ((Ss.flatMap dS).filter (fun p => mtD mk p.2)).length ≤ v → Q (.inl (some .null)) h) (K2 : ∀ p, ((Ss.flatMap dS).filter (fun p => mtD mk p.2))[v]? = some p → p ∈ Ss.flatMap dS → Q (.inl (some (.ref p.1))) h) : ps_M G 11 94 [.ref k, .ref q, iN v] h Q := by
  obtain ⟨_, _, fs, a1⟩ := al_own A
  have loop : ∀ d', 10 ≤ d' → ∀ (R M : List cS) (u : Nat) (u5 u6 : Option Value), M ++ R = Ss → v = ((M.flatMap dS).filter (fun p => mtD mk p.2)).length + u → ps_X G d' 94 5 [some (.ref k), some (.ref q), some (iN v), some (iN u), some (iN M.length), u5, u6] [] h Q := by
    intro d hd R
    induction R with
    | nil =>
      intro M u u5 u6 hM hu
      rw [List.append_nil] at hM
      subst hM
      refine ps_s_il p94_5 rfl ?_
      first | refine ps_s_al p94_7 rfl ?_ | refine ps_s_aln p94_7 rfl ?_
      refine ps_s_gf p94_8 T.1 rfl ?_
      refine ps_s_vV [] _ p94_11 rfl a1 rfl rfl rfl (al_sizem A (ps_bki ?_) d (by omega))
      refine ps_s_ge p94_14 (by omega) (by omega) (fun c14 => ?_) (fun c14 => ?_)
      · refine ps_s_p p94_94 rfl ?_
        first | refine ps_s_ra p94_95 t94 ?_ | refine ps_s_rn p94_95 t94 ?_
        exact K1 (by omega)
      · omega
    | cons S R ih =>
      intro M u u5 u6 hM hu
      have hlen : M.length + (R.length + 1) = Ss.length := by rw [← hM, List.length_append, List.length_cons]
      have hm : S ∈ Ss := by rw [← hM]; exact List.mem_append_right _ (List.mem_cons_self ..)
      obtain ⟨s1, _, ⟨⟨capS, A1⟩, A2, A3⟩, _⟩ := SS S hm
      obtain ⟨_, _, gs, b1⟩ := al_own A1
      have hg : (Ss.map (·.1))[M.length]? = some S.1 := by rw [List.getElem?_map, ← hM, get_pre]; rfl
      have nx := fun u u5 u6 => ih (M ++ [S]) u u5 u6 (by rw [List.append_assoc]; exact hM)
      rw [List.length_append, List.flatMap_append, List.filter_append, List.length_append, show [S].flatMap dS = dS S by simp] at nx
      have A1 : cAL G o h S.2.2.1 capS ((dS S).map (·.1)) := A1
      have A3 : (dS S).length ≤ 2000 := A3
      have inner : ∀ (U V : List (Nat × pD)) (u : Nat), V ++ U = dS S → v = ((M.flatMap dS).filter (fun p => mtD mk p.2)).length + (V.filter (fun p => mtD mk p.2)).length + u → ps_X G d 94 37 [some (.ref k), some (.ref q), some (iN v), some (iN u), some (iN M.length), some (.ref S.2.2.1), some (iN V.length)] [] h Q := by
        intro U
        induction U with
        | nil =>
          intro V u hV hu
          rw [List.append_nil] at hV
          subst hV
          refine ps_s_il p94_37 rfl ?_
          first | refine ps_s_al p94_39 rfl ?_ | refine ps_s_aln p94_39 rfl ?_
          refine ps_s_vV [] _ p94_41 rfl b1 rfl rfl rfl (al_sizem A1 (ps_bki ?_) d (by omega))
          refine ps_s_ge p94_44 (by omega) (by omega) (fun c44 => ?_) (fun c44 => ?_)
          · refine ps_s_in4 p94_88 ?_
            refine ps_s_go p94_91 ?_
            exact nx _ _ _ hu
          · exact absurd (Nat.le_refl _) c44
        | cons p U ih2 =>
          intro V u hV hu
          have hlen2 : V.length + (U.length + 1) = (dS S).length := by rw [← hV, List.length_append, List.length_cons]
          have hpm : p ∈ dS S := by rw [← hV]; exact List.mem_append_right _ (List.mem_cons_self ..)
          obtain ⟨_, _, gp, p1⟩ := dc_obj (A2 p hpm)
          have hg2 : ((dS S).map (·.1))[V.length]? = some p.1 := by rw [List.getElem?_map, ← hV, get_pre]; rfl
          have nx2 := fun u => ih2 (V ++ [p]) u (by rw [List.append_assoc]; exact hV)
          rw [List.length_append, List.filter_append, List.length_append] at nx2
          have fin : ps_X G d 94 61 [some (.ref k), some (.ref q), some (iN v), some (iN u), some (iN M.length), some (.ref S.2.2.1), some (iN V.length)] [iN (bN (mtD mk p.2))] h Q := by
            by_cases hgn : mtD mk p.2 = true
            · rw [show [p].filter (fun p => mtD mk p.2) = [p] by rw [List.filter_cons, if_pos hgn]; rfl] at nx2
              rw [hgn, show bN true = 1 from rfl]
              refine ps_s_eq0 p94_61 (by omega) (fun c61 => ?_) (fun c61 => ?_)
              · exact absurd c61 (by decide)
              · refine ps_s_il p94_64 rfl ?_
                refine ps_s_ne0 p94_65 (by omega) (fun c65 => ?_) (fun c65 => ?_)
                · refine ps_s_de3 p94_79 (by omega) ?_
                  refine ps_s_in6 p94_82 ?_
                  refine ps_s_go p94_85 ?_
                  exact nx2 _ (by show v = _ + (_ + 1) + _; omega)
                · first | refine ps_s_al p94_68 rfl ?_ | refine ps_s_aln p94_68 rfl ?_
                  refine ps_s_il p94_70 rfl ?_
                  refine ps_s_vV [_] _ p94_72 rfl b1 rfl rfl rfl (al_get A1 hg2 (ps_bki ?_) d (by omega))
                  refine ps_s_ck p94_75 p1 ?_
                  first | refine ps_s_ra p94_78 t94 ?_ | refine ps_s_rn p94_78 t94 ?_
                  refine K2 p ?_ (List.mem_flatMap.mpr ⟨S, hm, hpm⟩)
                  rw [← hM, List.flatMap_append, List.flatMap_cons, ← hV, show M.flatMap dS ++ (V ++ p :: U ++ R.flatMap dS) = (M.flatMap dS ++ V) ++ (p :: (U ++ R.flatMap dS)) by simp only [List.append_assoc, List.cons_append], List.filter_append, List.filter_cons, if_pos hgn, hu, show u = 0 by omega, Nat.add_zero, ← List.length_append, ← List.filter_append, get_pre]
            · rw [show [p].filter (fun p => mtD mk p.2) = [] by rw [List.filter_cons, if_neg hgn]; rfl] at nx2
              rw [Bool.not_eq_true] at hgn
              rw [hgn, show bN false = 0 from rfl]
              refine ps_s_eq0 p94_61 (by omega) (fun c61 => ?_) (fun c61 => ?_)
              · refine ps_s_in6 p94_82 ?_
                refine ps_s_go p94_85 ?_
                exact nx2 _ hu
              · exact absurd rfl c61
          refine ps_s_il p94_37 rfl ?_
          first | refine ps_s_al p94_39 rfl ?_ | refine ps_s_aln p94_39 rfl ?_
          refine ps_s_vV [] _ p94_41 rfl b1 rfl rfl rfl (al_sizem A1 (ps_bki ?_) d (by omega))
          refine ps_s_ge p94_44 (by omega) (by omega) (fun c44 => ?_) (fun c44 => ?_)
          · omega
          · first | refine ps_s_al p94_47 rfl ?_ | refine ps_s_aln p94_47 rfl ?_
            first | refine ps_s_al p94_48 rfl ?_ | refine ps_s_aln p94_48 rfl ?_
            refine ps_s_il p94_50 rfl ?_
            refine ps_s_vV [_] _ p94_52 rfl b1 rfl rfl rfl (al_get A1 hg2 (ps_bki ?_) d (by omega))
            refine ps_s_ck p94_55 p1 ?_
            rcases cq_kind _ _ _ hq with ⟨gq, q1⟩ | ⟨gq, q1⟩
            · refine ps_s_vV [_] _ p94_58 rfl q1 rfl rfl rfl (q_match (A2 p hpm) hq hn (ps_bki ?_) d (by omega))
              exact fin
            · refine ps_s_vV [_] _ p94_58b rfl q1 rfl rfl rfl (q_match (A2 p hpm) hq hn (ps_bki ?_) d (by omega))
              exact fin
      refine ps_s_il p94_5 rfl ?_
      first | refine ps_s_al p94_7 rfl ?_ | refine ps_s_aln p94_7 rfl ?_
      refine ps_s_gf p94_8 T.1 rfl ?_
      refine ps_s_vV [] _ p94_11 rfl a1 rfl rfl rfl (al_sizem A (ps_bki ?_) d (by omega))
      refine ps_s_ge p94_14 (by omega) (by omega) (fun c14 => ?_) (fun c14 => ?_)
      · omega
      · first | refine ps_s_al p94_17 rfl ?_ | refine ps_s_aln p94_17 rfl ?_
        refine ps_s_gf p94_18 T.1 rfl ?_
        refine ps_s_il p94_21 rfl ?_
        refine ps_s_vV [_] _ p94_23 rfl a1 rfl rfl rfl (al_get A hg (ps_bki ?_) d (by omega))
        refine ps_s_ck p94_26 s1 ?_
        refine ps_s_gf p94_29 s1 rfl ?_
        first | refine ps_s_as5 p94_32 ?_ | refine ps_s_asn5 p94_32 ?_
        refine ps_s_k p94_34 ?_
        refine ps_s_is6 p94_35 ?_
        exact inner (dS S) [] u rfl hu
  refine ps_M_in (e94 _ _ _) l94 (fun d hd => ?_)
  refine ps_s_il p94_0 rfl ?_
  refine ps_s_is3 p94_1 ?_
  refine ps_s_k p94_2 ?_
  refine ps_s_is4 p94_3 ?_
  exact loop d hd Ss [] v _ _ rfl (by rw [List.flatMap_nil, List.filter_nil]; show v = 0 + v; omega)
end CQQ
