/-! The reference: which documents are gone, chosen, of a segment. -/
def bN (b : Bool) : Nat := if b = true then 1 else 0
theorem bN_t {b : Bool} (h : b = true) : bN b = 1 := by rw [h]; rfl
theorem bN_f {b : Bool} (h : b = false) : bN b = 0 := by rw [h]; rfl
theorem bN_le (b : Bool) : bN b ≤ 1 := by cases b <;> decide
theorem bN_01 (b : Bool) : Int32.ofNat (bN b) = 0 ∨ Int32.ofNat (bN b) = 1 := by cases b with
  | true => exact .inr rfl
  | false => exact .inl rfl
theorem bN_nz {b : Bool} (h : ¬ bN b = 0) : b = true := by cases b with
  | true => rfl
  | false => exact absurd rfl h
theorem bN_z {b : Bool} (h : bN b = 0) : b = false := by cases b with
  | true => cases h
  | false => rfl
def exi (P : Nat → Bool) : Nat → Nat → Bool
  | _, 0 => false
  | d, n + 1 => P d || exi P (d + 1) n
def gn (aX aM : Nat → Nat) (al d : Nat) : Bool := decide (aX d = 1) || (decide (al = 1) && decide (aM d = 1))
section RFB
variable {h0 : pm_S} {m r0 tw df dc bf cn nn li sz pl : Nat} {P : Int32} {aD aK aL aT aS aX aM aC aN aO aQ aB aV aH : Nat → Nat} {G : pm_G} {Q : pm_Q}
theorem rf_isGone (hm : G.1 ≤ m) {x al : Nat} (hx : x < 200) (hX : aX x ≤ 1) (hM : aM x ≤ 1) (hal : al ≤ 1) (hQ : Q (.inl (some (iN (bN (gn aX aM al x))))) (rf h0 m r0 tw df dc bf cn nn li P sz pl aD aK aL aT aS aX aM aC aN aO aQ aB aV aH)) : ps_M G 1 109 [.ref m, iN x, iN al] (rf h0 m r0 tw df dc bf cn nn li P sz pl aD aK aL aT aS aX aM aC aN aO aQ aB aV aH) Q := by
  refine ps_M_in (e109 _ _ _) l109 (fun d hd => ?_)
  refine ps_s_al p109_0 rfl ?_
  refine rf_g_aX p109_1 ?_
  refine ps_s_il p109_4 rfl ?_
  refine rf_la_aX hm p109_5 (by omega) ?_
  refine ps_s_ne0 p109_6 (by omega) (fun c6 => ?_) (fun c6 => ?_)
  · refine ps_s_k p109_22 ?_
    refine ps_s_go p109_23 ?_
    refine ps_s_rz p109_27 t109 (by first | exact .inl rfl | exact .inr rfl | exact bN_01 _) ?_
    rw [bN_t (by unfold gn; rw [decide_eq_true (by omega)]; rfl)] at hQ
    exact hQ
  · refine ps_s_il p109_9 rfl ?_
    refine ps_s_eq0 p109_10 (by omega) (fun c10 => ?_) (fun c10 => ?_)
    · refine ps_s_k p109_26 ?_
      refine ps_s_rz p109_27 t109 (by first | exact .inl rfl | exact .inr rfl | exact bN_01 _) ?_
      rw [bN_f (by unfold gn; rw [decide_eq_false (by omega), decide_eq_false (by omega)]; rfl)] at hQ
      exact hQ
    · refine ps_s_al p109_13 rfl ?_
      refine rf_g_aM p109_14 ?_
      refine ps_s_il p109_17 rfl ?_
      refine rf_la_aM hm p109_18 (by omega) ?_
      refine ps_s_eq0 p109_19 (by omega) (fun c19 => ?_) (fun c19 => ?_)
      · refine ps_s_k p109_26 ?_
        refine ps_s_rz p109_27 t109 (by first | exact .inl rfl | exact .inr rfl | exact bN_01 _) ?_
        rw [bN_f (by unfold gn; rw [decide_eq_false (by omega), decide_eq_false (p := aM x = 1) (by omega), Bool.and_false]; rfl)] at hQ
        exact hQ
      · refine ps_s_k p109_22 ?_
        refine ps_s_go p109_23 ?_
        refine ps_s_rz p109_27 t109 (by first | exact .inl rfl | exact .inr rfl | exact bN_01 _) ?_
        rw [bN_t (by unfold gn; rw [decide_eq_true (p := al = 1) (by omega), decide_eq_true (p := aM x = 1) (by omega), Bool.and_true, Bool.or_true])] at hQ
        exact hQ
theorem rf_someDoomed (hm : G.1 ≤ m) (hdc : dc ≤ 200) (hM : ∀ j, aM j ≤ 1) (hQ : Q (.inl (some (iN (bN (exi (fun d => decide (aM d = 1)) 0 dc))))) (rf h0 m r0 tw df dc bf cn nn li P sz pl aD aK aL aT aS aX aM aC aN aO aQ aB aV aH)) : ps_M G 1 117 [.ref m] (rf h0 m r0 tw df dc bf cn nn li P sz pl aD aK aL aT aS aX aM aC aN aO aQ aB aV aH) Q := by
  refine ps_M_in (e117 _) l117 (fun d hd => ?_)
  have loop : ∀ n i b, i + n = dc → (b || exi (fun d => decide (aM d = 1)) i n) = exi (fun d => decide (aM d = 1)) 0 dc → ps_X G d 117 4 [some (.ref m), some (iN (bN b)), some (iN i)] [] (rf h0 m r0 tw df dc bf cn nn li P sz pl aD aK aL aT aS aX aM aC aN aO aQ aB aV aH) Q := by
    intro n
    induction n with
    | zero =>
      intro i b hi hb
      rw [← hb, show exi (fun d => decide (aM d = 1)) i 0 = false from rfl, Bool.or_false] at hQ
      have := bN_le b
      refine ps_s_il p117_4 rfl ?_
      refine ps_s_al p117_5 rfl ?_
      refine rf_g_dc p117_6 ?_
      refine ps_s_ge p117_9 (by omega) (by omega) (fun c9 => ?_) (fun c9 => ?_)
      · refine ps_s_il p117_37 rfl ?_
        refine ps_s_rz p117_38 t117 (by first | exact .inl rfl | exact .inr rfl | exact bN_01 _) ?_
        exact hQ
      · omega
    | succ n ih =>
      intro i b hi hb
      have := hM i
      have hb1 := bN_le b
      rw [show exi (fun d => decide (aM d = 1)) i (n + 1) = (decide (aM i = 1) || exi (fun d => decide (aM d = 1)) (i + 1) n) from rfl] at hb
      refine ps_s_il p117_4 rfl ?_
      refine ps_s_al p117_5 rfl ?_
      refine rf_g_dc p117_6 ?_
      refine ps_s_ge p117_9 (by omega) (by omega) (fun c9 => ?_) (fun c9 => ?_)
      · omega
      · refine ps_s_il p117_12 rfl ?_
        refine ps_s_ne0 p117_13 (by omega) (fun c13 => ?_) (fun c13 => ?_)
        · refine ps_s_k p117_25 ?_
          refine ps_s_go p117_26 ?_
          refine ps_s_is1 p117_30 ?_
          refine ps_s_in2 p117_31 ?_
          refine ps_s_go p117_34 ?_
          have hbt : b = true := bN_nz c13
          refine ih _ true (by omega) ?_
          rw [← hb, hbt]
          simp
        · have hbf : b = false := bN_z (Decidable.not_not.mp c13)
          subst hbf
          refine ps_s_al p117_16 rfl ?_
          refine rf_g_aM p117_17 ?_
          refine ps_s_il p117_20 rfl ?_
          refine rf_la_aM hm p117_21 (by omega) ?_
          refine ps_s_eq0 p117_22 (by omega) (fun c22 => ?_) (fun c22 => ?_)
          · refine ps_s_k p117_29 ?_
            refine ps_s_is1 p117_30 ?_
            refine ps_s_in2 p117_31 ?_
            refine ps_s_go p117_34 ?_
            refine ih _ false (by omega) ?_
            rw [← hb, decide_eq_false (by omega)]
            simp
          · refine ps_s_k p117_25 ?_
            refine ps_s_go p117_26 ?_
            refine ps_s_is1 p117_30 ?_
            refine ps_s_in2 p117_31 ?_
            refine ps_s_go p117_34 ?_
            refine ih _ true (by omega) ?_
            rw [← hb, decide_eq_true (by omega)]
            simp
  refine ps_s_k p117_0 ?_
  refine ps_s_is1 p117_1 ?_
  refine ps_s_k p117_2 ?_
  refine ps_s_is2 p117_3 ?_
  exact loop dc 0 false (by omega) (by rw [Bool.false_or])
def emp (aS aX aM : Nat → Nat) (dc s : Nat) : Bool := !exi (fun d => decide (aS d = s) && !gn aX aM 1 d) 0 dc
theorem rf_isEmpty (hm : G.1 ≤ m) {s : Nat} (hs : s < 16) (hdc : dc ≤ 200) (hS : ∀ j, aS j < 16) (hX : ∀ j, aX j ≤ 1) (hM : ∀ j, aM j ≤ 1) (hQ : Q (.inl (some (iN (bN (emp aS aX aM dc s))))) (rf h0 m r0 tw df dc bf cn nn li P sz pl aD aK aL aT aS aX aM aC aN aO aQ aB aV aH)) : ps_M G 2 118 [.ref m, iN s] (rf h0 m r0 tw df dc bf cn nn li P sz pl aD aK aL aT aS aX aM aC aN aO aQ aB aV aH) Q := by
  refine ps_M_in (e118 _ _) l118 (fun d hd => ?_)
  have loop : ∀ n i b, i + n = dc → (b || exi (fun d => decide (aS d = s) && !gn aX aM 1 d) i n) = exi (fun d => decide (aS d = s) && !gn aX aM 1 d) 0 dc → ps_X G d 118 4 [some (.ref m), some (iN s), some (iN (bN b)), some (iN i)] [] (rf h0 m r0 tw df dc bf cn nn li P sz pl aD aK aL aT aS aX aM aC aN aO aQ aB aV aH) Q := by
    intro n
    induction n with
    | zero =>
      intro i b hi hb
      rw [show exi (fun d => decide (aS d = s) && !gn aX aM 1 d) i 0 = false from rfl, Bool.or_false] at hb
      unfold emp at hQ
      rw [← hb] at hQ
      have := bN_le b
      refine ps_s_il p118_4 rfl ?_
      refine ps_s_al p118_5 rfl ?_
      refine rf_g_dc p118_6 ?_
      refine ps_s_ge p118_9 (by omega) (by omega) (fun c9 => ?_) (fun c9 => ?_)
      · refine ps_s_il p118_47 rfl ?_
        refine ps_s_ne0 p118_48 (by omega) (fun c48 => ?_) (fun c48 => ?_)
        · refine ps_s_k p118_55 ?_
          refine ps_s_rz p118_56 t118 (by first | exact .inl rfl | exact .inr rfl | exact bN_01 _) ?_
          cases b with
          | true => exact hQ
          | false => exact absurd rfl c48
        · refine ps_s_k p118_51 ?_
          refine ps_s_go p118_52 ?_
          refine ps_s_rz p118_56 t118 (by first | exact .inl rfl | exact .inr rfl | exact bN_01 _) ?_
          cases b with
          | true => exact absurd (by decide) c48
          | false => exact hQ
      · omega
    | succ n ih =>
      intro i b hi hb
      have := hX i
      have := hM i
      have := hS i
      have hb1 := bN_le b
      rw [show exi (fun d => decide (aS d = s) && !gn aX aM 1 d) i (n + 1) = ((decide (aS i = s) && !gn aX aM 1 i) || exi (fun d => decide (aS d = s) && !gn aX aM 1 d) (i + 1) n) from rfl] at hb
      refine ps_s_il p118_4 rfl ?_
      refine ps_s_al p118_5 rfl ?_
      refine rf_g_dc p118_6 ?_
      refine ps_s_ge p118_9 (by omega) (by omega) (fun c9 => ?_) (fun c9 => ?_)
      · omega
      · refine ps_s_il p118_12 rfl ?_
        refine ps_s_ne0 p118_13 (by omega) (fun c13 => ?_) (fun c13 => ?_)
        · refine ps_s_k p118_35 ?_
          refine ps_s_go p118_36 ?_
          refine ps_s_is2 p118_40 ?_
          refine ps_s_in3 p118_41 ?_
          refine ps_s_go p118_44 ?_
          have hbt : b = true := bN_nz c13
          refine ih _ true (by omega) ?_
          rw [← hb, hbt]
          simp
        · have hbf : b = false := bN_z (Decidable.not_not.mp c13)
          subst hbf
          refine ps_s_al p118_16 rfl ?_
          refine rf_g_aS p118_17 ?_
          refine ps_s_il p118_20 rfl ?_
          refine rf_la_aS p118_21 (by omega) ?_
          refine ps_s_il p118_22 rfl ?_
          refine ps_s_ne p118_23 (by omega) (by omega) (fun c23 => ?_) (fun c23 => ?_)
          · refine ps_s_k p118_39 ?_
            refine ps_s_is2 p118_40 ?_
            refine ps_s_in3 p118_41 ?_
            refine ps_s_go p118_44 ?_
            refine ih _ false (by omega) ?_
            rw [← hb, decide_eq_false (by omega)]
            simp
          · refine ps_s_al p118_26 rfl ?_
            refine ps_s_il p118_27 rfl ?_
            refine ps_s_k p118_28 ?_
            refine ps_s_vV [_, _] _ p118_29 rfl rf_o rfl rfl rfl (rf_isGone hm (by omega) (hX _) (hM _) (by omega) (ps_bki ?_) d (by omega))
            have := bN_le (gn aX aM 1 i)
            refine ps_s_ne0 p118_32 (by omega) (fun c32 => ?_) (fun c32 => ?_)
            · refine ps_s_k p118_39 ?_
              refine ps_s_is2 p118_40 ?_
              refine ps_s_in3 p118_41 ?_
              refine ps_s_go p118_44 ?_
              refine ih _ false (by omega) ?_
              have hg : gn aX aM 1 i = true := bN_nz c32
              rw [← hb, hg]
              simp
            · refine ps_s_k p118_35 ?_
              refine ps_s_go p118_36 ?_
              refine ps_s_is2 p118_40 ?_
              refine ps_s_in3 p118_41 ?_
              refine ps_s_go p118_44 ?_
              refine ih _ true (by omega) ?_
              have hg : gn aX aM 1 i = false := bN_z (Decidable.not_not.mp c32)
              rw [← hb, hg, decide_eq_true (by omega)]
              simp
  refine ps_s_k p118_0 ?_
  refine ps_s_is2 p118_1 ?_
  refine ps_s_k p118_2 ?_
  refine ps_s_is3 p118_3 ?_
  exact loop dc 0 false (by omega) (by rw [Bool.false_or])
theorem rf_chosenMany (hm : G.1 ≤ m) {e : Nat} (he : e ≤ 200) (hC : ∀ j, aC j ≤ 1) (hQ : Q (.inl (some (iN (fl (fun d => decide (aC d = 1)) 0 e).length))) (rf h0 m r0 tw df dc bf cn nn li P sz pl aD aK aL aT aS aX aM aC aN aO aQ aB aV aH)) : ps_M G 1 112 [.ref m, iN 0, iN e] (rf h0 m r0 tw df dc bf cn nn li P sz pl aD aK aL aT aS aX aM aC aN aO aQ aB aV aH) Q := by
  refine ps_M_in (e112 _ _ _) l112 (fun d hd => ?_)
  have loop : ∀ n i a, i + n = e → a + (fl (fun d => decide (aC d = 1)) i n).length = (fl (fun d => decide (aC d = 1)) 0 e).length → a ≤ i → ps_X G d 112 5 [some (.ref m), some (iN 0), some (iN e), some (iN a), some (iN i)] [] (rf h0 m r0 tw df dc bf cn nn li P sz pl aD aK aL aT aS aX aM aC aN aO aQ aB aV aH) Q := by
    intro n
    induction n with
    | zero =>
      intro i a hi ha hai
      rw [← ha] at hQ
      refine ps_s_il p112_5 rfl ?_
      refine ps_s_il p112_7 rfl ?_
      refine ps_s_ge p112_8 (by omega) (by omega) (fun c8 => ?_) (fun c8 => ?_)
      · refine ps_s_il p112_35 rfl ?_
        refine ps_s_ri p112_36 t112 ?_
        exact hQ
      · omega
    | succ n ih =>
      intro i a hi ha hai
      have := hC i
      rw [show fl (fun d => decide (aC d = 1)) i (n + 1) = if decide (aC i = 1) = true then i :: fl (fun d => decide (aC d = 1)) (i + 1) n else fl (fun d => decide (aC d = 1)) (i + 1) n from rfl] at ha
      refine ps_s_il p112_5 rfl ?_
      refine ps_s_il p112_7 rfl ?_
      refine ps_s_ge p112_8 (by omega) (by omega) (fun c8 => ?_) (fun c8 => ?_)
      · omega
      · refine ps_s_al p112_11 rfl ?_
        refine rf_g_aC p112_12 ?_
        refine ps_s_il p112_15 rfl ?_
        refine rf_la_aC hm p112_17 (by omega) ?_
        refine ps_s_eq0 p112_18 (by omega) (fun c18 => ?_) (fun c18 => ?_)
        · refine ps_s_il p112_27 rfl ?_
          refine ps_s_is3 p112_28 ?_
          refine ps_s_in4 p112_29 ?_
          refine ps_s_go p112_32 ?_
          rw [decide_eq_false (by omega), if_neg (by decide)] at ha
          exact ih _ _ (by omega) ha (by omega)
        · refine ps_s_il p112_21 rfl ?_
          refine ps_s_k p112_22 ?_
          first | refine ps_s_add p112_23 ?_ | refine ps_s_2 p112_23 ?_
          refine ps_s_go p112_24 ?_
          refine ps_s_is3 p112_28 ?_
          refine ps_s_in4 p112_29 ?_
          refine ps_s_go p112_32 ?_
          rw [decide_eq_true (by omega), if_pos rfl, List.length_cons] at ha
          exact ih _ _ (by omega) (by omega) (by omega)
  refine ps_s_k p112_0 ?_
  refine ps_s_is3 p112_1 ?_
  refine ps_s_il p112_2 rfl ?_
  refine ps_s_is4 p112_3 ?_
  exact loop e 0 0 (by omega) (by omega) (by omega)
theorem rf_chooseSegment (hm : G.1 ≤ m) {s : Nat} (hs : s < 16) (hdc : dc ≤ 200) (hS : ∀ j, aS j < 16) (hC : ∀ j, aC j ≤ 1) (hQ : ∀ aC : Nat → Nat, (∀ j, j < 200 → aC j = bN (decide (j < dc) && decide (aS j = s))) → (∀ j, aC j ≤ 1) → Q (.inl none) (rf h0 m r0 tw df dc bf cn nn li P sz pl aD aK aL aT aS aX aM aC aN aO aQ aB aV aH)) : ps_M G 1 110 [.ref m, iN s] (rf h0 m r0 tw df dc bf cn nn li P sz pl aD aK aL aT aS aX aM aC aN aO aQ aB aV aH) Q := by
  refine ps_M_in (e110 _ _) l110 (fun d hd => ?_)
  have loop : ∀ n i (aC : Nat → Nat), i + n = 200 → (∀ j, j < i → aC j = bN (decide (j < dc) && decide (aS j = s))) → (∀ j, aC j ≤ 1) → ps_X G d 110 2 [some (.ref m), some (iN s), some (iN i)] [] (rf h0 m r0 tw df dc bf cn nn li P sz pl aD aK aL aT aS aX aM aC aN aO aQ aB aV aH) Q := by
    intro n
    induction n with
    | zero =>
      intro i aC hi h1 h2
      refine ps_s_il p110_2 rfl ?_
      refine ps_s_k p110_3 ?_
      refine ps_s_ge p110_6 (by omega) (by omega) (fun c6 => ?_) (fun c6 => ?_)
      · refine ps_s_rv p110_44 t110 ?_
        exact hQ aC (fun j hj => h1 j (by omega)) h2
      · omega
    | succ n ih =>
      intro i aC hi h1 h2
      have := hS i
      have up : ∀ v, v = bN (decide (i < dc) && decide (aS i = s)) → ∀ j, j < i + 1 → va_up aC i v j = bN (decide (j < dc) && decide (aS j = s)) := by
        intro v hv j hj
        unfold va_up
        by_cases hji : j = i
        · rw [if_pos hji, hv, hji]
        · rw [if_neg hji]; exact h1 j (by omega)
      have up1 : ∀ v, v ≤ 1 → ∀ j, va_up aC i v j ≤ 1 := by
        intro v hv j
        unfold va_up
        split
        · exact hv
        · exact h2 j
      refine ps_s_il p110_2 rfl ?_
      refine ps_s_k p110_3 ?_
      refine ps_s_ge p110_6 (by omega) (by omega) (fun c6 => ?_) (fun c6 => ?_)
      · omega
      · refine ps_s_al p110_9 rfl ?_
        refine rf_g_aC p110_10 ?_
        refine ps_s_il p110_13 rfl ?_
        refine ps_s_il p110_14 rfl ?_
        refine ps_s_al p110_15 rfl ?_
        refine rf_g_dc p110_16 ?_
        refine ps_s_ge p110_19 (by omega) (by omega) (fun c19 => ?_) (fun c19 => ?_)
        · refine ps_s_k p110_36 ?_
          refine rf_sa_aC hm p110_37 (by omega) (by omega) ?_
          refine ps_s_in2 p110_38 ?_
          refine ps_s_go p110_41 ?_
          exact ih _ _ (by omega) (up 0 (by rw [decide_eq_false (p := i < dc) (by omega)]; rfl)) (up1 0 (by omega))
        · refine ps_s_al p110_22 rfl ?_
          refine rf_g_aS p110_23 ?_
          refine ps_s_il p110_26 rfl ?_
          refine rf_la_aS p110_27 (by omega) ?_
          refine ps_s_il p110_28 rfl ?_
          refine ps_s_ne p110_29 (by omega) (by omega) (fun c29 => ?_) (fun c29 => ?_)
          · refine ps_s_k p110_36 ?_
            refine rf_sa_aC hm p110_37 (by omega) (by omega) ?_
            refine ps_s_in2 p110_38 ?_
            refine ps_s_go p110_41 ?_
            exact ih _ _ (by omega) (up 0 (by rw [decide_eq_false (p := aS i = s) (by omega), Bool.and_false]; rfl)) (up1 0 (by omega))
          · refine ps_s_k p110_32 ?_
            refine ps_s_go p110_33 ?_
            refine rf_sa_aC hm p110_37 (by omega) (by omega) ?_
            refine ps_s_in2 p110_38 ?_
            refine ps_s_go p110_41 ?_
            exact ih _ _ (by omega) (up 1 (by rw [decide_eq_true (p := i < dc) (by omega), decide_eq_true (p := aS i = s) (by omega)]; rfl)) (up1 1 (by omega))
  refine ps_s_k p110_0 ?_
  refine ps_s_is2 p110_1 ?_
  exact loop 200 0 aC (by omega) (fun j hj => absurd hj (by omega)) hC
end RFB
