/-! The reference: count, match, places, size, at. -/
def tsO (aL aT : Nat → Nat) (x : Nat) : List Nat := sl (fun p => aT (8 * x + p)) 0 (aL x)
def mtB (aL aT aX : Nat → Nat) (mk : List Nat) (x : Nat) : Bool := decide (aX x = 0) && !decide (whM mk (tsO aL aT x) = 0)
theorem fl_s (P : Nat → Bool) (d n : Nat) : fl P d (n + 1) = if P d = true then d :: fl P (d + 1) n else fl P (d + 1) n := rfl
/-- the bytes that are asked for -/
def selB (li : Nat) (sg : List pG) (a : Int32) : Option (List Nat) := if a = -1 then some (if li = 1 then lG 0 sg else []) else if a < 0 then none else (sg[a.toNatClampNeg]?).map bG
theorem ap_get (f : Nat → Nat) (l : List Nat) (k : Nat) (h : k < l.length) : ap f 0 l k = l.getD k 0 := by
  unfold ap
  rw [if_pos (by omega), Nat.sub_zero]
section RFN
variable {h0 : pm_S} {m r0 tw df dc bf cn nn li sz pl : Nat} {P : Int32} {aD aK aL aT aS aX aM aC aN aO aQ aB aV aH : Nat → Nat} {G : pm_G} {Q : pm_Q}
theorem rf_count (hm : G.1 ≤ m) {mk : List Nat} (hdc : dc ≤ 200) (hX : ∀ j, aX j ≤ 1) (hL : ∀ j, aL j ≤ 8) (hT : ∀ j, aT j < 16) (hpl8 : pl ≤ 8) (hmk : 0 < pl → sl (fun k => aQ (15 * (pl - 1) + k)) 0 (aB (pl - 1)) = mk ∧ aB (pl - 1) ≤ 15 ∧ wfM 0 mk)
    (K1 : pl = 0 → Q (.inl (some (iN 0))) (rf h0 m r0 (1) df dc bf cn nn li P sz pl aD aK aL aT aS aX aM aC aN aO aQ aB aV aH))
    (K2 : 0 < pl → ∀ aH : Nat → Nat, Q (.inl (some (iN (fl (mtB aL aT aX mk) 0 dc).length))) (rf h0 m r0 (0) df dc bf cn nn li P sz pl aD aK aL aT aS aX aM aC aN aO aQ aB aV aH)) : ps_M G 4 127 [.ref m] (rf h0 m r0 tw df dc bf cn nn li P sz pl aD aK aL aT aS aX aM aC aN aO aQ aB aV aH) Q := by
  refine ps_M_in (e127 _) l127 (fun d hd => ?_)
  have loop : 0 < pl → ∀ n i a (aH : Nat → Nat), i + n = dc → a + (fl (mtB aL aT aX mk) i n).length = (fl (mtB aL aT aX mk) 0 dc).length → a ≤ i → ps_X G d 127 22 [some (.ref m), some (iN a), some (iN i)] [] (rf h0 m r0 (0) df dc bf cn nn li P sz pl aD aK aL aT aS aX aM aC aN aO aQ aB aV aH) Q := by
    intro hp n
    obtain ⟨m1, m2, m3⟩ := hmk hp
    induction n with
    | zero =>
      intro i a aH hi ha hai
      have hQ := K2 hp aH
      rw [← ha] at hQ
      refine ps_s_il p127_22 rfl ?_
      refine ps_s_al p127_23 rfl ?_
      refine rf_g_dc p127_24 ?_
      refine ps_s_ge p127_27 (by omega) (by omega) (fun c27 => ?_) (fun c27 => ?_)
      · refine ps_s_il p127_61 rfl ?_
        refine ps_s_ri p127_62 t127 ?_
        exact hQ
      · omega
    | succ n ih =>
      intro i a aH hi ha hai
      have := hX i
      rw [fl_s] at ha
      have no : ∀ aH : Nat → Nat, mtB aL aT aX mk i = false → ps_X G d 127 53 [some (.ref m), some (iN a), some (iN i)] [] (rf h0 m r0 (0) df dc bf cn nn li P sz pl aD aK aL aT aS aX aM aC aN aO aQ aB aV aH) Q := by
        intro aH hB
        refine ps_s_il p127_53 rfl ?_
        refine ps_s_is1 p127_54 ?_
        refine ps_s_in2 p127_55 ?_
        refine ps_s_go p127_58 ?_
        rw [hB, if_neg (by decide)] at ha
        exact ih _ _ _ (by omega) ha (by omega)
      refine ps_s_il p127_22 rfl ?_
      refine ps_s_al p127_23 rfl ?_
      refine rf_g_dc p127_24 ?_
      refine ps_s_ge p127_27 (by omega) (by omega) (fun c27 => ?_) (fun c27 => ?_)
      · omega
      · refine ps_s_al p127_30 rfl ?_
        refine rf_g_aX p127_31 ?_
        refine ps_s_il p127_34 rfl ?_
        refine rf_la_aX hm p127_35 (by omega) ?_
        refine ps_s_ne0 p127_36 (by omega) (fun c36 => ?_) (fun c36 => ?_)
        · exact no aH (by unfold mtB; rw [decide_eq_false (by omega)]; rfl)
        · refine ps_s_al p127_39 rfl ?_
          refine ps_s_il p127_40 rfl ?_
          refine ps_s_vV [_] _ p127_41 rfl rf_o rfl rfl rfl (rf_where hm (by omega) hL hT hp hpl8 m1 m2 m3 (fun aH hlt => ps_bki ?_) d (by omega))
          have htso : whM mk (sl (fun p => aT (8 * i + p)) 0 (aL i)) = whM mk (tsO aL aT i) := rfl
          refine ps_s_eq0 p127_44 (by omega) (fun c44 => ?_) (fun c44 => ?_)
          · exact no aH (by unfold mtB; rw [decide_eq_true (by omega), decide_eq_true (htso ▸ c44)]; rfl)
          · have hB : mtB aL aT aX mk i = true := by unfold mtB; rw [decide_eq_true (by omega), decide_eq_false (htso ▸ c44)]; rfl
            rw [hB, if_pos rfl, List.length_cons] at ha
            refine ps_s_il p127_47 rfl ?_
            refine ps_s_k p127_48 ?_
            first | refine ps_s_add p127_49 ?_ | refine ps_s_2 p127_49 ?_
            refine ps_s_go p127_50 ?_
            refine ps_s_is1 p127_54 ?_
            refine ps_s_in2 p127_55 ?_
            refine ps_s_go p127_58 ?_
            exact ih _ _ _ (by omega) (by omega) (by omega)
  refine ps_s_al p127_0 rfl ?_
  refine ps_s_k p127_1 ?_
  refine rf_s_tw hm p127_2 ?_
  refine ps_s_al p127_5 rfl ?_
  refine rf_g_pl p127_6 ?_
  refine ps_s_ne0 p127_9 (by omega) (fun c9 => ?_) (fun c9 => ?_)
  · refine ps_s_k p127_18 ?_
    refine ps_s_is1 p127_19 ?_
    refine ps_s_k p127_20 ?_
    refine ps_s_is2 p127_21 ?_
    exact loop (by omega) dc 0 0 aH (by omega) (by omega) (by omega)
  · refine ps_s_al p127_12 rfl ?_
    refine ps_s_k p127_13 ?_
    refine ps_s_vV [_] _ p127_14 rfl rf_o rfl rfl rfl (rf_refuse hm (ps_bki ?_) d (by omega))
    refine ps_s_ri p127_17 t127 ?_
    exact K1 (by omega)
theorem rf_match (hm : G.1 ≤ m) {a : Int32} {mk : List Nat} (hdc : dc ≤ 200) (hX : ∀ j, aX j ≤ 1) (hL : ∀ j, aL j ≤ 8) (hT : ∀ j, aT j < 16) (hpl8 : pl ≤ 8) (hmk : 0 < pl → sl (fun k => aQ (15 * (pl - 1) + k)) 0 (aB (pl - 1)) = mk ∧ aB (pl - 1) ≤ 15 ∧ wfM 0 mk)
    (K1 : (pl = 0 ∨ ∀ n : Nat, n < 2147483648 → a = Int32.ofNat n → (fl (mtB aL aT aX mk) 0 dc).length ≤ n) → ∀ aH : Nat → Nat, Q (.inl (some (iN 0))) (rf h0 m r0 (1) df dc bf cn nn li P sz pl aD aK aL aT aS aX aM aC aN aO aQ aB aV aH))
    (K2 : 0 < pl → ∀ n x : Nat, n < 2147483648 → a = Int32.ofNat n → (fl (mtB aL aT aX mk) 0 dc)[n]? = some x → ∀ aH : Nat → Nat, Q (.inl (some (iN (aK x)))) (rf h0 m r0 (0) df dc bf cn nn li P sz pl aD aK aL aT aS aX aM aC aN aO aQ aB aV aH)) : ps_M G 4 132 [.ref m, .int a] (rf h0 m r0 tw df dc bf cn nn li P sz pl aD aK aL aT aS aX aM aC aN aO aQ aB aV aH) Q := by
  refine ps_M_in (e132 _ _) l132 (fun d hd => ?_)
  have ref : ∀ u2 u3 (aH : Nat → Nat), (pl = 0 ∨ ∀ n : Nat, n < 2147483648 → a = Int32.ofNat n → (fl (mtB aL aT aX mk) 0 dc).length ≤ n) → ps_X G d 132 71 [some (.ref m), some (.int a), u2, u3] [] (rf h0 m r0 (0) df dc bf cn nn li P sz pl aD aK aL aT aS aX aM aC aN aO aQ aB aV aH) Q := by
    intro u2 u3 aH h
    refine ps_s_al p132_71 rfl ?_
    refine ps_s_k p132_72 ?_
    refine ps_s_vV [_] _ p132_73 rfl rf_o rfl rfl rfl (rf_refuse hm (ps_bki ?_) d (by omega))
    refine ps_s_ri p132_76 t132 ?_
    exact K1 h aH
  have loop : 0 < pl → ∀ n i (pre : List Nat) v (aH : Nat → Nat), i + n = dc → pre ++ fl (mtB aL aT aX mk) i n = fl (mtB aL aT aX mk) 0 dc → (pre.length = 0 → v = -1) → (∀ c, pre.length = c + 1 → v = Int32.ofNat c) → pre.length ≤ i → (∀ n : Nat, n < 2147483648 → a = Int32.ofNat n → pre.length ≤ n) → ps_X G d 132 9 [some (.ref m), some (.int a), some (.int v), some (iN i)] [] (rf h0 m r0 (0) df dc bf cn nn li P sz pl aD aK aL aT aS aX aM aC aN aO aQ aB aV aH) Q := by
    intro hp n
    obtain ⟨m1, m2, m3⟩ := hmk hp
    induction n with
    | zero =>
      intro i pre v aH hi hpre hv0 hv1 hpl hlt
      rw [show fl (mtB aL aT aX mk) i 0 = [] from rfl, List.append_nil] at hpre
      refine ps_s_il p132_9 rfl ?_
      refine ps_s_al p132_10 rfl ?_
      refine rf_g_dc p132_11 ?_
      refine ps_s_ge p132_14 (by omega) (by omega) (fun c14 => ?_) (fun c14 => ?_)
      · refine ref _ _ _ (.inr ?_)
        rw [← hpre]
        exact hlt
      · omega
    | succ n ih =>
      intro i pre v aH hi hpre hv0 hv1 hpl hlt
      have := hX i
      rw [fl_s] at hpre
      have no : ∀ aH : Nat → Nat, mtB aL aT aX mk i = false → ps_X G d 132 47 [some (.ref m), some (.int a), some (.int v), some (iN i)] [] (rf h0 m r0 (0) df dc bf cn nn li P sz pl aD aK aL aT aS aX aM aC aN aO aQ aB aV aH) Q := by
        intro aH hB
        rw [hB, if_neg (by decide)] at hpre
        have cont : ps_X G d 132 65 [some (.ref m), some (.int a), some (.int v), some (iN i)] [] (rf h0 m r0 (0) df dc bf cn nn li P sz pl aD aK aL aT aS aX aM aC aN aO aQ aB aV aH) Q := by
          refine ps_s_in3 p132_65 ?_
          refine ps_s_go p132_68 ?_
          exact ih _ pre v _ (by omega) hpre hv0 hv1 (by omega) hlt
        refine ps_s_il p132_47 rfl ?_
        refine ps_s_is2 p132_48 ?_
        refine ps_s_il p132_49 rfl ?_
        refine ps_s_il p132_50 rfl ?_
        refine ps_s_j p132_51 (fun _ => cont) (fun c => ?_)
        have hva : v = a := Decidable.not_not.mp (of_decide_eq_false c)
        refine ps_s_il p132_54 rfl ?_
        refine ps_s_j0 p132_55 (fun _ => cont) (fun c2 => ?_)
        exfalso
        have hna : ¬ a < 0 := of_decide_eq_false c2
        cases hl : pre.length with
        | zero => rw [← hva, hv0 hl] at hna; exact hna (by decide)
        | succ c0 =>
          have e := hv1 c0 hl
          have := hlt c0 (by omega) (by rw [← hva, e])
          omega
      refine ps_s_il p132_9 rfl ?_
      refine ps_s_al p132_10 rfl ?_
      refine rf_g_dc p132_11 ?_
      refine ps_s_ge p132_14 (by omega) (by omega) (fun c14 => ?_) (fun c14 => ?_)
      · omega
      · refine ps_s_al p132_17 rfl ?_
        refine rf_g_pl p132_18 ?_
        refine ps_s_le0 p132_21 (by omega) (fun c21 => ?_) (fun c21 => ?_)
        · omega
        · refine ps_s_al p132_24 rfl ?_
          refine rf_g_aX p132_25 ?_
          refine ps_s_il p132_28 rfl ?_
          refine rf_la_aX hm p132_29 (by omega) ?_
          refine ps_s_ne0 p132_30 (by omega) (fun c30 => ?_) (fun c30 => ?_)
          · exact no aH (by unfold mtB; rw [decide_eq_false (by omega)]; rfl)
          · refine ps_s_al p132_33 rfl ?_
            refine ps_s_il p132_34 rfl ?_
            refine ps_s_vV [_] _ p132_35 rfl rf_o rfl rfl rfl (rf_where hm (by omega) hL hT hp hpl8 m1 m2 m3 (fun aH hlt2 => ps_bki ?_) d (by omega))
            have htso : whM mk (sl (fun p => aT (8 * i + p)) 0 (aL i)) = whM mk (tsO aL aT i) := rfl
            refine ps_s_eq0 p132_38 (by omega) (fun c38 => ?_) (fun c38 => ?_)
            · exact no aH (by unfold mtB; rw [decide_eq_true (by omega), decide_eq_true (htso ▸ c38)]; rfl)
            · have hB : mtB aL aT aX mk i = true := by unfold mtB; rw [decide_eq_true (by omega), decide_eq_false (htso ▸ c38)]; rfl
              rw [hB, if_pos rfl] at hpre
              have hv' : v + Int32.ofNat 1 = Int32.ofNat pre.length := by
                cases hl : pre.length with
                | zero => rw [hv0 hl]; decide
                | succ c0 => rw [hv1 c0 hl, ← Int32.ofNat_add]
              refine ps_s_il p132_41 rfl ?_
              refine ps_s_k p132_42 ?_
              refine ps_s_2e p132_43 hv' ?_
              have hpre2 : (pre ++ [i]) ++ fl (mtB aL aT aX mk) (i + 1) n = fl (mtB aL aT aX mk) 0 dc := by rw [List.append_assoc]; exact hpre
              have hlen2 : (pre ++ [i]).length = pre.length + 1 := by rw [List.length_append]; rfl
              have cont : (∀ n : Nat, n < 2147483648 → a = Int32.ofNat n → ¬ pre.length = n) → ps_X G d 132 65 [some (.ref m), some (.int a), some (iN pre.length), some (iN i)] [] (rf h0 m r0 (0) df dc bf cn nn li P sz pl aD aK aL aT aS aX aM aC aN aO aQ aB aV aH) Q := by
                intro hne
                refine ps_s_in3 p132_65 ?_
                refine ps_s_go p132_68 ?_
                refine ih _ (pre ++ [i]) _ _ (by omega) hpre2 (fun h => by omega) (fun c h => by rw [hlen2] at h; rw [show c = pre.length by omega]) (by omega) (fun k hk hka => ?_)
                have := hlt k hk hka
                have := hne k hk hka
                omega
              refine ps_s_go p132_44 ?_
              refine ps_s_is2 p132_48 ?_
              refine ps_s_il p132_49 rfl ?_
              refine ps_s_il p132_50 rfl ?_
              refine ps_s_j p132_51 (fun c => cont (fun k hk hka he => ?_)) (fun c => ?_)
              · exact of_decide_eq_true c (by rw [hka, he])
              · have hva : Int32.ofNat pre.length = a := Decidable.not_not.mp (of_decide_eq_false c)
                refine ps_s_il p132_54 rfl ?_
                refine ps_s_j0 p132_55 (fun c2 => ?_) (fun c2 => ?_)
                · exfalso
                  have h2 := of_decide_eq_true c2
                  rw [← hva] at h2
                  have := (ps_lt_iff (a := pre.length) (b := 0) (by omega) (by omega)).mp h2
                  omega
                · refine ps_s_al p132_58 rfl ?_
                  refine rf_g_aK p132_59 ?_
                  refine ps_s_il p132_62 rfl ?_
                  refine rf_la_aK p132_63 (by omega) ?_
                  refine ps_s_ri p132_64 t132 ?_
                  refine K2 hp pre.length i (by omega) hva.symm ?_ aH
                  rw [← hpre, List.getElem?_append_right (Nat.le_refl _), Nat.sub_self]
                  rfl
  have hst : ps_X G d 132 9 [some (.ref m), some (.int a), some (.int (-1)), some (iN 0)] [] (rf h0 m r0 (0) df dc bf cn nn li P sz pl aD aK aL aT aS aX aM aC aN aO aQ aB aV aH) Q := by
    by_cases hp : 0 < pl
    · exact loop hp dc 0 [] (-1) aH (by omega) (by rw [List.nil_append]) (fun _ => rfl) (fun c h => by cases h) (by decide) (fun _ _ _ => Nat.zero_le _)
    · refine ps_s_il p132_9 rfl ?_
      refine ps_s_al p132_10 rfl ?_
      refine rf_g_dc p132_11 ?_
      refine ps_s_ge p132_14 (by omega) (by omega) (fun c14 => ?_) (fun c14 => ?_)
      · exact ref _ _ _ (.inl (by omega))
      · refine ps_s_al p132_17 rfl ?_
        refine rf_g_pl p132_18 ?_
        refine ps_s_le0 p132_21 (by omega) (fun c21 => ?_) (fun c21 => ?_)
        · exact ref _ _ _ (.inl (by omega))
        · omega
  refine ps_s_al p132_0 rfl ?_
  refine ps_s_k p132_1 ?_
  refine rf_s_tw hm p132_2 ?_
  refine ps_s_k p132_5 ?_
  refine ps_s_is2 p132_6 ?_
  refine ps_s_k p132_7 ?_
  refine ps_s_is3 p132_8 ?_
  exact hst
theorem rf_places (hm : G.1 ≤ m) {a : Int32} {mk : List Nat} (hdc : dc ≤ 200) (hX : ∀ j, aX j ≤ 1) (hL : ∀ j, aL j ≤ 8) (hT : ∀ j, aT j < 16) (hpl8 : pl ≤ 8) (hmk : 0 < pl → sl (fun k => aQ (15 * (pl - 1) + k)) 0 (aB (pl - 1)) = mk ∧ aB (pl - 1) ≤ 15 ∧ wfM 0 mk)
    (K1 : pl = 0 → Q (.inl (some (iN 0))) (rf h0 m r0 (1) df dc bf cn nn li P sz pl aD aK aL aT aS aX aM aC aN aO aQ aB aV aH))
    (K2 : 0 < pl → ∀ x, x < dc → Int32.ofNat (aK x) = a → aX x = 0 → (∀ j, j < x → ¬ (Int32.ofNat (aK j) = a ∧ aX j = 0)) → ∀ aH : Nat → Nat, Q (.inl (some (iN (whM mk (tsO aL aT x))))) (rf h0 m r0 (0) df dc bf cn nn li P sz pl aD aK aL aT aS aX aM aC aN aO aQ aB aV aH))
    (K3 : 0 < pl → (∀ j, j < dc → ¬ (Int32.ofNat (aK j) = a ∧ aX j = 0)) → Q (.inl (some (.int (-2)))) (rf h0 m r0 (0) df dc bf cn nn li P sz pl aD aK aL aT aS aX aM aC aN aO aQ aB aV aH)) : ps_M G 4 133 [.ref m, .int a] (rf h0 m r0 tw df dc bf cn nn li P sz pl aD aK aL aT aS aX aM aC aN aO aQ aB aV aH) Q := by
  refine ps_M_in (e133 _ _) l133 (fun d hd => ?_)
  have loop : 0 < pl → ∀ n i, i + n = dc → (∀ j, j < i → ¬ (Int32.ofNat (aK j) = a ∧ aX j = 0)) → ps_X G d 133 20 [some (.ref m), some (.int a), some (iN i)] [] (rf h0 m r0 (0) df dc bf cn nn li P sz pl aD aK aL aT aS aX aM aC aN aO aQ aB aV aH) Q := by
    intro hp n
    obtain ⟨m1, m2, m3⟩ := hmk hp
    induction n with
    | zero =>
      intro i hi h
      refine ps_s_il p133_20 rfl ?_
      refine ps_s_al p133_21 rfl ?_
      refine rf_g_dc p133_22 ?_
      refine ps_s_ge p133_25 (by omega) (by omega) (fun c25 => ?_) (fun c25 => ?_)
      · refine ps_s_k p133_59 ?_
        refine ps_s_ri p133_61 t133 ?_
        exact K3 hp (fun j hj => h j (by omega))
      · omega
    | succ n ih =>
      intro i hi h
      have := hX i
      have no : ¬ (Int32.ofNat (aK i) = a ∧ aX i = 0) → ps_X G d 133 53 [some (.ref m), some (.int a), some (iN i)] [] (rf h0 m r0 (0) df dc bf cn nn li P sz pl aD aK aL aT aS aX aM aC aN aO aQ aB aV aH) Q := by
        intro hno
        refine ps_s_in2 p133_53 ?_
        refine ps_s_go p133_56 ?_
        refine ih _ (by omega) (fun j hj => ?_)
        by_cases hji : j = i
        · rw [hji]; exact hno
        · exact h j (by omega)
      refine ps_s_il p133_20 rfl ?_
      refine ps_s_al p133_21 rfl ?_
      refine rf_g_dc p133_22 ?_
      refine ps_s_ge p133_25 (by omega) (by omega) (fun c25 => ?_) (fun c25 => ?_)
      · omega
      · refine ps_s_al p133_28 rfl ?_
        refine rf_g_aK p133_29 ?_
        refine ps_s_il p133_32 rfl ?_
        refine rf_la_aK p133_33 (by omega) ?_
        refine ps_s_il p133_34 rfl ?_
        refine ps_s_j p133_35 (fun c => no (fun q => of_decide_eq_true c q.1)) (fun c => ?_)
        have heq : Int32.ofNat (aK i) = a := Decidable.not_not.mp (of_decide_eq_false c)
        refine ps_s_al p133_38 rfl ?_
        refine rf_g_aX p133_39 ?_
        refine ps_s_il p133_42 rfl ?_
        refine rf_la_aX hm p133_43 (by omega) ?_
        refine ps_s_ne0 p133_44 (by omega) (fun c44 => ?_) (fun c44 => ?_)
        · exact no (fun q => by omega)
        · refine ps_s_al p133_47 rfl ?_
          refine ps_s_il p133_48 rfl ?_
          refine ps_s_vV [_] _ p133_49 rfl rf_o rfl rfl rfl (rf_where hm (by omega) hL hT hp hpl8 m1 m2 m3 (fun aH hlt2 => ps_bki ?_) d (by omega))
          refine ps_s_ri p133_52 t133 ?_
          exact K2 hp i (by omega) heq (by omega) h aH
  refine ps_s_al p133_0 rfl ?_
  refine ps_s_k p133_1 ?_
  refine rf_s_tw hm p133_2 ?_
  refine ps_s_al p133_5 rfl ?_
  refine rf_g_pl p133_6 ?_
  refine ps_s_ne0 p133_9 (by omega) (fun c9 => ?_) (fun c9 => ?_)
  · refine ps_s_k p133_18 ?_
    refine ps_s_is2 p133_19 ?_
    exact loop (by omega) dc 0 (by omega) (fun j hj => absurd hj (by omega))
  · refine ps_s_al p133_12 rfl ?_
    refine ps_s_k p133_13 ?_
    refine ps_s_vV [_] _ p133_14 rfl rf_o rfl rfl rfl (rf_refuse hm (ps_bki ?_) d (by omega))
    refine ps_s_ri p133_17 t133 ?_
    exact K1 (by omega)
theorem rf_show (hm : G.1 ≤ m) {a : Int32} {sg : List pG} (hr : rS sg dc cn aK aL aT aS aX aM aN) (hcn : cn ≤ 10) (hall : dc + bf ≤ 200) (hli : li ≤ 1) (hC : ∀ j, aC j ≤ 1) (hl0 : (lG 0 sg).length ≤ 1400) (hgs : ∀ g ∈ sg, srt 0 (g.2.map (·.1)) ∧ (bG g).length ≤ 1400)
    (K1 : selB li sg a = none → Q (.inl (some (iN 0))) (rf h0 m r0 tw df dc bf cn nn li P sz pl aD aK aL aT aS aX aM aC aN aO aQ aB aV aH))
    (K2 : ∀ B, selB li sg a = some B → B.length ≤ 1400 → ∀ aC aO : Nat → Nat, (∀ j, aC j ≤ 1) → (∀ k, k < B.length → aO k = B.getD k 0) → Q (.inl (some (iN 1))) (rf h0 m r0 tw df dc bf cn nn li P (B.length) pl aD aK aL aT aS aX aM aC aN aO aQ aB aV aH)) : ps_M G 4 138 [.ref m, .int a] (rf h0 m r0 tw df dc bf cn nn li P sz pl aD aK aL aT aS aX aM aC aN aO aQ aB aV aH) Q := by
  refine ps_M_in (e138 _ _) l138 (fun d hd => ?_)
  have hcl := hr.2.2.2.1
  have hS := hr.1.2.2.2.1
  have hX := hr.1.2.2.2.2.1
  have hM := hr.1.2.2.2.2.2
  rcases i_cases a with hn | ⟨n, hn, rfl⟩
  · by_cases h1 : a = -1
    · subst h1
      have hsel : selB li sg (-1) = some (if li = 1 then lG 0 sg else []) := if_pos rfl
      have hlb := rS_lB (li := li) hr
      have hle : (lB aS aX aM aN li dc cn).length ≤ 1400 := by rw [hlb]; split; exact hl0; exact Nat.zero_le _
      refine ps_s_il p138_0 rfl ?_
      refine ps_s_k p138_1 ?_
      refine ps_s_j p138_2 (fun c => absurd (show pm_c .lt (-1) (-1) = true from c) (by decide)) (fun _ => ?_)
      refine ps_s_il p138_5 rfl ?_
      refine ps_s_al p138_6 rfl ?_
      refine rf_g_cn p138_7 ?_
      refine ps_s_j p138_10 (fun _ => ?_) (fun c => absurd (of_decide_eq_false c) (by
        intro h
        apply h
        have : (-1 : Int32) < Int32.ofNat 0 := by decide
        rcases Nat.eq_zero_or_pos cn with hc0 | hc0
        · rw [hc0]; exact this
        · exact Int32.lt_trans this ((ps_lt_iff (by omega) (by omega)).mpr hc0)))
      refine ps_s_il p138_15 rfl ?_
      refine ps_s_j0 p138_16 (fun c => absurd (show pm_c .ge (-1) 0 = true from c) (by decide)) (fun _ => ?_)
      refine ps_s_al p138_19 rfl ?_
      refine ps_s_vV [] _ p138_20 rfl rf_o rfl rfl rfl (rf_writeList hm (by omega) hli (by omega) hS hX hM hr.2.1 hle (ps_bkv ?_) d (by omega))
      refine ps_s_go p138_23 ?_
      refine ps_s_k p138_35 ?_
      refine ps_s_rz p138_36 t138 (by first | exact .inl rfl | exact .inr rfl | exact bN_01 _) ?_
      rw [hlb] at hle ⊢
      exact K2 _ hsel hle _ _ hC (fun k hk => ap_get _ _ _ hk)
    · have hsel : selB li sg a = none := by unfold selB; rw [if_neg h1, if_pos hn]
      refine ps_s_il p138_0 rfl ?_
      refine ps_s_k p138_1 ?_
      refine ps_s_j p138_2 (fun _ => ?_) (fun c => absurd (of_decide_eq_false c) ?_)
      · refine ps_s_k p138_13 ?_
        refine ps_s_rz p138_14 t138 (by first | exact .inl rfl | exact .inr rfl | exact bN_01 _) ?_
        exact K1 hsel
      · intro h
        have h2 : (-1 : Int32) ≤ a := Int32.not_lt.mp h
        apply h1
        apply Int32.toInt_inj.mp
        have e1 := Int32.le_iff_toInt_le.mp h2
        have e2 := Int32.lt_iff_toInt_lt.mp hn
        have e3 : (-1 : Int32).toInt = -1 := rfl
        have e4 : (0 : Int32).toInt = 0 := rfl
        omega
  · have hcl2 : (Int32.ofNat n).toNatClampNeg = n := Int32.toNatClampNeg_ofNat_of_lt (by simp; omega)
    have hn0 : ¬ Int32.ofNat n < 0 := fun h => by have := (ps_lt_iff (a := n) (b := 0) (by omega) (by omega)).mp h; omega
    have hn1 : ¬ Int32.ofNat n = -1 := fun h => hn0 (by rw [h]; decide)
    have hsel : selB li sg (Int32.ofNat n) = (sg[n]?).map bG := by unfold selB; rw [if_neg hn1, if_neg hn0, hcl2]
    have hge : ¬ Int32.ofNat n < -1 := fun h => hn0 (Int32.lt_trans h (by decide))
    refine ps_s_il p138_0 rfl ?_
    refine ps_s_k p138_1 ?_
    refine ps_s_j p138_2 (fun c => absurd (of_decide_eq_true c) hge) (fun _ => ?_)
    refine ps_s_il p138_5 rfl ?_
    refine ps_s_al p138_6 rfl ?_
    refine rf_g_cn p138_7 ?_
    refine ps_s_lt p138_10 (by omega) (by omega) (fun c10 => ?_) (fun c10 => ?_)
    · refine ps_s_il p138_15 rfl ?_
      refine ps_s_ge0 p138_16 (by omega) (fun c16 => ?_) (fun c16 => ?_)
      · obtain ⟨L, g, R, e, hl⟩ := split_at sg n (by omega)
        have hr2 := hr
        rw [e] at hr2
        obtain ⟨a1, a2, a3, a4, a5⟩ := rS_at hr2
        rw [hl] at a3
        have hg : sg[n]? = some g := by rw [e, ← hl, List.getElem?_append_right (Nat.le_refl _), Nat.sub_self]; rfl
        rw [hg] at hsel
        obtain ⟨g1, g2⟩ := hgs g (by rw [e]; exact List.mem_append_right _ List.mem_cons_self)
        refine ps_s_al p138_26 rfl ?_
        refine ps_s_il p138_27 rfl ?_
        refine ps_s_vV [_] _ p138_28 rfl rf_o rfl rfl rfl (rf_chooseSegment hm (by omega) (by omega) hS hC (fun aC h1 h2 => ps_bkv ?_) d (by omega))
        have e2 := cho_seg (aK := aK) (aL := aL) (aT := aT) hall h1
        rw [a3] at e2
        refine ps_s_al p138_31 rfl ?_
        refine ps_s_vV [] _ p138_32 rfl rf_o rfl rfl rfl (rf_writeSegment hm hall hr.1.1 hr.1.2.1 hr.1.2.2.1 h2 (by rw [e2]; exact g1) (by rw [e2]; exact g2) (ps_bkv ?_) d (by omega))
        rw [e2]
        refine ps_s_k p138_35 ?_
        refine ps_s_rz p138_36 t138 (by first | exact .inl rfl | exact .inr rfl | exact bN_01 _) ?_
        exact K2 _ hsel g2 _ _ h2 (fun k hk => ap_get _ _ _ hk)
      · omega
    · refine ps_s_k p138_13 ?_
      refine ps_s_rz p138_14 t138 (by first | exact .inl rfl | exact .inr rfl | exact bN_01 _) ?_
      refine K1 ?_
      rw [hsel, List.getElem?_eq_none (by omega)]
      rfl
theorem rf_size (hm : G.1 ≤ m) {a : Int32} {sg : List pG} (hr : rS sg dc cn aK aL aT aS aX aM aN) (hcn : cn ≤ 10) (hall : dc + bf ≤ 200) (hli : li ≤ 1) (hC : ∀ j, aC j ≤ 1) (hl0 : (lG 0 sg).length ≤ 1400) (hgs : ∀ g ∈ sg, srt 0 (g.2.map (·.1)) ∧ (bG g).length ≤ 1400) (hz : sz ≤ 1400)
    (hQ : ∀ (aC aO : Nat → Nat) sz, (∀ j, aC j ≤ 1) → sz ≤ 1400 → Q (.inl (some (.int (match selB li sg a with
      | none => -2
      | some B => Int32.ofNat B.length)))) (rf h0 m r0 (0) df dc bf cn nn li P sz pl aD aK aL aT aS aX aM aC aN aO aQ aB aV aH)) : ps_M G 5 137 [.ref m, .int a] (rf h0 m r0 tw df dc bf cn nn li P sz pl aD aK aL aT aS aX aM aC aN aO aQ aB aV aH) Q := by
  refine ps_M_in (e137 _ _) l137 (fun d hd => ?_)
  refine ps_s_al p137_0 rfl ?_
  refine ps_s_k p137_1 ?_
  refine rf_s_tw hm p137_2 ?_
  refine ps_s_al p137_5 rfl ?_
  refine ps_s_il p137_6 rfl ?_
  refine ps_s_vV [_] _ p137_7 rfl rf_o rfl rfl rfl (rf_show hm hr hcn hall hli hC hl0 hgs (fun he => ps_bki ?_) (fun B he hB aC aO h1 h2 => ps_bki ?_) d (by omega))
  · refine ps_s_eq0 p137_10 (by omega) (fun c10 => ?_) (fun c10 => ?_)
    · refine ps_s_k p137_20 ?_
      refine ps_s_ri p137_22 t137 ?_
      have := hQ aC aO sz hC hz
      rw [he] at this
      exact this
    · omega
  · refine ps_s_eq0 p137_10 (by omega) (fun c10 => ?_) (fun c10 => ?_)
    · omega
    · refine ps_s_al p137_13 rfl ?_
      refine rf_g_sz p137_14 ?_
      refine ps_s_go p137_17 ?_
      refine ps_s_ri p137_22 t137 ?_
      have := hQ aC aO B.length h1 hB
      rw [he] at this
      exact this
theorem rf_at (hm : G.1 ≤ m) {a b : Int32} {sg : List pG} (hr : rS sg dc cn aK aL aT aS aX aM aN) (hcn : cn ≤ 10) (hall : dc + bf ≤ 200) (hli : li ≤ 1) (hC : ∀ j, aC j ≤ 1) (hl0 : (lG 0 sg).length ≤ 1400) (hgs : ∀ g ∈ sg, srt 0 (g.2.map (·.1)) ∧ (bG g).length ≤ 1400) (hz : sz ≤ 1400)
    (hQ : ∀ (aC aO : Nat → Nat) sz, (∀ j, aC j ≤ 1) → sz ≤ 1400 → Q (.inl (some (.int (match selB li sg a with
      | none => -2
      | some B => if b < 0 ∨ B.length ≤ b.toNatClampNeg then -2 else Int32.ofNat (B.getD b.toNatClampNeg 0))))) (rf h0 m r0 (0) df dc bf cn nn li P sz pl aD aK aL aT aS aX aM aC aN aO aQ aB aV aH)) : ps_M G 5 139 [.ref m, .int a, .int b] (rf h0 m r0 tw df dc bf cn nn li P sz pl aD aK aL aT aS aX aM aC aN aO aQ aB aV aH) Q := by
  refine ps_M_in (e139 _ _ _) l139 (fun d hd => ?_)
  refine ps_s_al p139_0 rfl ?_
  refine ps_s_k p139_1 ?_
  refine rf_s_tw hm p139_2 ?_
  refine ps_s_al p139_5 rfl ?_
  refine ps_s_il p139_6 rfl ?_
  refine ps_s_vV [_] _ p139_7 rfl rf_o rfl rfl rfl (rf_show hm hr hcn hall hli hC hl0 hgs (fun he => ps_bki ?_) (fun B he hB aC aO h1 h2 => ps_bki ?_) d (by omega))
  · refine ps_s_eq0 p139_10 (by omega) (fun c10 => ?_) (fun c10 => ?_)
    · refine ps_s_k p139_34 ?_
      refine ps_s_ri p139_36 t139 ?_
      have := hQ aC aO sz hC hz
      rw [he] at this
      exact this
    · omega
  · have hQ2 := hQ aC aO B.length h1 hB
    rw [he] at hQ2
    refine ps_s_eq0 p139_10 (by omega) (fun c10 => ?_) (fun c10 => ?_)
    · omega
    · rcases i_cases b with hn | ⟨n, hn, rfl⟩
      · refine ps_s_il p139_13 rfl ?_
        refine ps_s_j0 p139_14 (fun _ => ?_) (fun c => absurd hn (of_decide_eq_false c))
        refine ps_s_k p139_34 ?_
        refine ps_s_ri p139_36 t139 ?_
        dsimp only at hQ2
        rw [if_pos (.inl hn)] at hQ2
        exact hQ2
      · have hcl2 : (Int32.ofNat n).toNatClampNeg = n := Int32.toNatClampNeg_ofNat_of_lt (by simp; omega)
        have hn0 : ¬ Int32.ofNat n < 0 := fun h => by have := (ps_lt_iff (a := n) (b := 0) (by omega) (by omega)).mp h; omega
        dsimp only at hQ2
        rw [hcl2] at hQ2
        refine ps_s_il p139_13 rfl ?_
        refine ps_s_lt0 p139_14 (by omega) (fun c14 => ?_) (fun c14 => ?_)
        · omega
        · refine ps_s_il p139_17 rfl ?_
          refine ps_s_al p139_18 rfl ?_
          refine rf_g_sz p139_19 ?_
          refine ps_s_ge p139_22 (by omega) (by omega) (fun c22 => ?_) (fun c22 => ?_)
          · refine ps_s_k p139_34 ?_
            refine ps_s_ri p139_36 t139 ?_
            rw [if_pos (.inr (by omega))] at hQ2
            exact hQ2
          · refine ps_s_al p139_25 rfl ?_
            refine rf_g_aO p139_26 ?_
            refine ps_s_il p139_29 rfl ?_
            refine rf_la_aO p139_30 (by omega) ?_
            refine ps_s_go p139_31 ?_
            refine ps_s_ri p139_36 t139 ?_
            rw [if_neg (by rintro (h | h); exact hn0 h; omega)] at hQ2
            rw [h2 n (by omega)]
            exact hQ2
end RFN
