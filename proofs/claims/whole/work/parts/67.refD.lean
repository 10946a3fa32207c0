/-! The reference: the list's bytes, what is used, the power cut. -/
def gfl (aS aX aM : Nat → Nat) (s al : Nat) : Nat → Nat → List Bool
  | _, 0 => []
  | d, n + 1 => if aS d = s then gn aX aM al d :: gfl aS aX aM s al (d + 1) n else gfl aS aX aM s al (d + 1) n
def gc : List Bool → Nat
  | [] => 0
  | g :: r => bN g + gc r
def dB : Nat → Nat → List Bool → List Nat
  | _, _, [] => []
  | o, b, g :: r => if g = true then vi (o - b) ++ dB (o + 1) o r else dB (o + 1) b r
/-- what the list says of a segment -/
def eB (num : Nat) (gs : List Bool) : List Nat := vi num ++ (vi (gc gs) ++ dB 0 0 gs)
def lsB (f : Nat → List Nat) : Nat → Nat → List Nat
  | _, 0 => []
  | s, n + 1 => f s ++ lsB f (s + 1) n
def sumN (f : Nat → Nat) : Nat → Nat → Nat
  | _, 0 => 0
  | s, n + 1 => f s + sumN f (s + 1) n
/-- the documents of a segment -/
def sdo (aK aL aT aS : Nat → Nat) (s : Nat) : Nat → Nat → List pDoc
  | _, 0 => []
  | d, n + 1 => if aS d = s then docOf aK aL aT d :: sdo aK aL aT aS s (d + 1) n else sdo aK aL aT aS s (d + 1) n
def lB (aS aX aM aN : Nat → Nat) (li dc cn : Nat) : List Nat := if li = 1 then vi cn ++ lsB (fun s => eB (aN s) (gfl aS aX aM s 0 0 dc)) 0 cn else []
def usN (aK aL aT aS aX aM aN : Nat → Nat) (li dc cn : Nat) : Nat := (lB aS aX aM aN li dc cn).length + sumN (fun s => (sB (sdo aK aL aT aS s 0 dc)).length) 0 cn
theorem gfl_s (aS aX aM : Nat → Nat) (s al d n : Nat) : gfl aS aX aM s al d (n + 1) = if aS d = s then gn aX aM al d :: gfl aS aX aM s al (d + 1) n else gfl aS aX aM s al (d + 1) n := rfl
theorem sdo_s (aK aL aT aS : Nat → Nat) (s d n : Nat) : sdo aK aL aT aS s d (n + 1) = if aS d = s then docOf aK aL aT d :: sdo aK aL aT aS s (d + 1) n else sdo aK aL aT aS s (d + 1) n := rfl
theorem gc_c (g : Bool) (r : List Bool) : gc (g :: r) = bN g + gc r := rfl
theorem dB_c (o b : Nat) (g : Bool) (r : List Bool) : dB o b (g :: r) = if g = true then vi (o - b) ++ dB (o + 1) o r else dB (o + 1) b r := rfl
theorem lsB_s (f : Nat → List Nat) (s n : Nat) : lsB f s (n + 1) = f s ++ lsB f (s + 1) n := rfl
theorem sumN_s (f : Nat → Nat) (s n : Nat) : sumN f s (n + 1) = f s + sumN f (s + 1) n := rfl
theorem cho_seg {aK aL aT aS aC : Nat → Nat} {s dc bf : Nat} (hall : dc + bf ≤ 200) (hC : ∀ j, j < 200 → aC j = bN (decide (j < dc) && decide (aS j = s))) :
    cho aK aL aT aC 0 (dc + bf) = sdo aK aL aT aS s 0 dc := by
  have g : ∀ n d, d + n = dc + bf → cho aK aL aT aC d n = sdo aK aL aT aS s d (dc - d) := by
    intro n
    induction n with
    | zero =>
      intro d hd
      rw [show dc - d = 0 by omega]
      rfl
    | succ n ih =>
      intro d hd
      have e := hC d (by omega)
      rw [cho_s]
      by_cases h1 : d < dc
      · rw [show dc - d = (dc - (d + 1)) + 1 by omega, sdo_s, ih (d + 1) (by omega)]
        rw [decide_eq_true h1, Bool.true_and] at e
        by_cases h2 : aS d = s
        · rw [decide_eq_true h2] at e
          rw [if_pos (show aC d = 1 from e), if_pos h2]
        · rw [decide_eq_false h2] at e
          rw [if_neg (by rw [e]; decide), if_neg h2]
      · rw [decide_eq_false h1, Bool.false_and] at e
        rw [if_neg (by rw [e]; decide), ih (d + 1) (by omega), show dc - (d + 1) = 0 by omega, show dc - d = 0 by omega]
        rfl
  have := g (dc + bf) 0 (by omega)
  rw [Nat.sub_zero] at this
  exact this
theorem gfl_le (aS aX aM : Nat → Nat) (s al : Nat) : ∀ n d, gc (gfl aS aX aM s al d n) ≤ n := by
  intro n
  induction n with
  | zero => intro d; exact Nat.le_refl _
  | succ n ih =>
    intro d
    rw [gfl_s]
    have := ih (d + 1)
    split
    · rw [gc_c]; have := bN_le (gn aX aM al d); omega
    · omega
section RFD
variable {h0 : pm_S} {m r0 tw df dc bf cn nn li sz pl : Nat} {P : Int32} {aD aK aL aT aS aX aM aC aN aO aQ aB aV aH : Nat → Nat} {G : pm_G} {Q : pm_Q}
theorem rf_writeEntry (hm : G.1 ≤ m) {s al : Nat} (hs12 : s < 12) (hal : al ≤ 1) (hdc : dc ≤ 200) (hS : ∀ j, aS j < 16) (hX : ∀ j, aX j ≤ 1) (hM : ∀ j, aM j ≤ 1) (hN : ∀ j, aN j < 1000) (hs : sz + (eB (aN s) (gfl aS aX aM s al 0 dc)).length ≤ 1400)
    (hQ : Q (.inl none) (rf h0 m r0 tw df dc bf cn nn li P (sz + (eB (aN s) (gfl aS aX aM s al 0 dc)).length) pl aD aK aL aT aS aX aM aC aN (ap aO sz (eB (aN s) (gfl aS aX aM s al 0 dc))) aQ aB aV aH)) : ps_M G 2 108 [.ref m, iN s, iN al] (rf h0 m r0 tw df dc bf cn nn li P sz pl aD aK aL aT aS aX aM aC aN aO aQ aB aV aH) Q := by
  refine ps_M_in (e108 _ _ _) l108 (fun d hd => ?_)
  have hle := gfl_le aS aX aM s al dc 0
  have hNs := hN s
  have loop2 : ∀ n i o b a sz aO, i + n = dc → b ≤ o → o ≤ i → sz + (dB o b (gfl aS aX aM s al i n)).length ≤ 1400 → Q (.inl none) (rf h0 m r0 tw df dc bf cn nn li P (sz + (dB o b (gfl aS aX aM s al i n)).length) pl aD aK aL aT aS aX aM aC aN (ap aO sz (dB o b (gfl aS aX aM s al i n))) aQ aB aV aH) →
      ps_X G d 108 73 [some (.ref m), some (iN s), some (iN al), some (iN a), some (iN o), some (iN b), some (iN i)] [] (rf h0 m r0 tw df dc bf cn nn li P sz pl aD aK aL aT aS aX aM aC aN aO aQ aB aV aH) Q := by
    intro n
    induction n with
    | zero =>
      intro i o b a sz aO hi hbo hoi hs hQ
      refine ps_s_il p108_73 rfl ?_
      refine ps_s_al p108_75 rfl ?_
      refine rf_g_dc p108_76 ?_
      refine ps_s_ge p108_79 (by omega) (by omega) (fun c79 => ?_) (fun c79 => ?_)
      · refine ps_s_rv p108_125 t108 ?_
        rw [show gfl aS aX aM s al i 0 = [] from rfl, show dB o b [] = [] from rfl, ap_nil] at hQ
        exact hQ
      · omega
    | succ n ih =>
      intro i o b a sz aO hi hbo hoi hs hQ
      have := hS i
      rw [gfl_s] at hs hQ
      refine ps_s_il p108_73 rfl ?_
      refine ps_s_al p108_75 rfl ?_
      refine rf_g_dc p108_76 ?_
      refine ps_s_ge p108_79 (by omega) (by omega) (fun c79 => ?_) (fun c79 => ?_)
      · omega
      · refine ps_s_al p108_82 rfl ?_
        refine rf_g_aS p108_83 ?_
        refine ps_s_il p108_86 rfl ?_
        refine rf_la_aS p108_88 (by omega) ?_
        refine ps_s_il p108_89 rfl ?_
        refine ps_s_ne p108_90 (by omega) (by omega) (fun c90 => ?_) (fun c90 => ?_)
        · rw [if_neg c90] at hs hQ
          refine ps_s_in6 p108_119 ?_
          refine ps_s_go p108_122 ?_
          exact ih _ _ _ _ _ _ (by omega) hbo (by omega) hs hQ
        · rw [if_pos (Decidable.not_not.mp c90), dB_c] at hs hQ
          have := bN_le (gn aX aM al i)
          refine ps_s_al p108_93 rfl ?_
          refine ps_s_il p108_94 rfl ?_
          refine ps_s_il p108_96 rfl ?_
          refine ps_s_vV [_, _] _ p108_97 rfl rf_o rfl rfl rfl (rf_isGone hm (by omega) (hX _) (hM _) hal (ps_bki ?_) d (by omega))
          refine ps_s_eq0 p108_100 (by omega) (fun c100 => ?_) (fun c100 => ?_)
          · rw [if_neg (by rw [bN_z c100]; decide)] at hs hQ
            refine ps_s_in4 p108_116 ?_
            refine ps_s_in6 p108_119 ?_
            refine ps_s_go p108_122 ?_
            exact ih _ _ _ _ _ _ (by omega) (by omega) (by omega) hs hQ
          · rw [if_pos (bN_nz c100)] at hs hQ
            rw [List.length_append] at hs
            rw [← ap_ap, List.length_append, ← Nat.add_assoc] at hQ
            refine ps_s_al p108_103 rfl ?_
            refine ps_s_il p108_104 rfl ?_
            refine ps_s_il p108_106 rfl ?_
            first | refine ps_s_sub p108_108 (by omega) ?_ | refine ps_s_2 p108_108 ?_
            refine ps_s_vV [_] _ p108_109 rfl rf_o rfl rfl rfl (rf_write hm (by omega) (by omega) (ps_bkv ?_) d (by omega))
            refine ps_s_il p108_112 rfl ?_
            refine ps_s_is5 p108_114 ?_
            refine ps_s_in4 p108_116 ?_
            refine ps_s_in6 p108_119 ?_
            refine ps_s_go p108_122 ?_
            exact ih _ _ _ _ _ _ (by omega) (by omega) (by omega) (by omega) hQ
  have loop1 : ∀ n i a, i + n = dc → a + gc (gfl aS aX aM s al i n) = gc (gfl aS aX aM s al 0 dc) → ps_X G d 108 5 [some (.ref m), some (iN s), some (iN al), some (iN a), some (iN i), none, none] [] (rf h0 m r0 tw df dc bf cn nn li P sz pl aD aK aL aT aS aX aM aC aN aO aQ aB aV aH) Q := by
    intro n
    induction n with
    | zero =>
      intro i a hi ha
      rw [show gfl aS aX aM s al i 0 = [] from rfl, show gc [] = 0 from rfl, Nat.add_zero] at ha
      subst ha
      unfold eB at hs hQ
      simp only [List.length_append] at hs
      refine ps_s_il p108_5 rfl ?_
      refine ps_s_al p108_7 rfl ?_
      refine rf_g_dc p108_8 ?_
      refine ps_s_ge p108_11 (by omega) (by omega) (fun c11 => ?_) (fun c11 => ?_)
      · refine ps_s_al p108_49 rfl ?_
        refine ps_s_al p108_50 rfl ?_
        refine rf_g_aN p108_51 ?_
        refine ps_s_il p108_54 rfl ?_
        refine rf_la_aN p108_55 (by omega) ?_
        refine ps_s_vV [_] _ p108_56 rfl rf_o rfl rfl rfl (rf_write hm (by omega) (by omega) (ps_bkv ?_) d (by omega))
        refine ps_s_al p108_59 rfl ?_
        refine ps_s_il p108_60 rfl ?_
        refine ps_s_vV [_] _ p108_61 rfl rf_o rfl rfl rfl (rf_write hm (by omega) (by omega) (ps_bkv ?_) d (by omega))
        refine ps_s_k p108_64 ?_
        refine ps_s_is4 p108_65 ?_
        refine ps_s_k p108_67 ?_
        refine ps_s_is5 p108_68 ?_
        refine ps_s_k p108_70 ?_
        refine ps_s_is6 p108_71 ?_
        refine loop2 _ _ _ _ _ _ _ (Nat.zero_add _) (by omega) (by omega) (by omega) ?_
        have hQ2 := hQ
        rw [← ap_ap, ← ap_ap] at hQ2
        simp only [List.length_append, ← Nat.add_assoc] at hQ2
        exact hQ2
      · omega
    | succ n ih =>
      intro i a hi ha
      have := hS i
      rw [gfl_s] at ha
      refine ps_s_il p108_5 rfl ?_
      refine ps_s_al p108_7 rfl ?_
      refine rf_g_dc p108_8 ?_
      refine ps_s_ge p108_11 (by omega) (by omega) (fun c11 => ?_) (fun c11 => ?_)
      · omega
      · refine ps_s_al p108_14 rfl ?_
        refine rf_g_aS p108_15 ?_
        refine ps_s_il p108_18 rfl ?_
        refine rf_la_aS p108_20 (by omega) ?_
        refine ps_s_il p108_21 rfl ?_
        refine ps_s_ne p108_22 (by omega) (by omega) (fun c22 => ?_) (fun c22 => ?_)
        · rw [if_neg c22] at ha
          refine ps_s_il p108_41 rfl ?_
          refine ps_s_is3 p108_42 ?_
          refine ps_s_in4 p108_43 ?_
          refine ps_s_go p108_46 ?_
          exact ih _ _ (by omega) ha
        · rw [if_pos (Decidable.not_not.mp c22), gc_c] at ha
          have := bN_le (gn aX aM al i)
          refine ps_s_al p108_25 rfl ?_
          refine ps_s_il p108_26 rfl ?_
          refine ps_s_il p108_28 rfl ?_
          refine ps_s_vV [_, _] _ p108_29 rfl rf_o rfl rfl rfl (rf_isGone hm (by omega) (hX _) (hM _) hal (ps_bki ?_) d (by omega))
          refine ps_s_eq0 p108_32 (by omega) (fun c32 => ?_) (fun c32 => ?_)
          · refine ps_s_il p108_41 rfl ?_
            refine ps_s_is3 p108_42 ?_
            refine ps_s_in4 p108_43 ?_
            refine ps_s_go p108_46 ?_
            exact ih _ _ (by omega) (by omega)
          · refine ps_s_il p108_35 rfl ?_
            refine ps_s_k p108_36 ?_
            first | refine ps_s_add p108_37 ?_ | refine ps_s_2 p108_37 ?_
            refine ps_s_go p108_38 ?_
            refine ps_s_is3 p108_42 ?_
            refine ps_s_in4 p108_43 ?_
            refine ps_s_go p108_46 ?_
            exact ih _ _ (by omega) (by omega)
  refine ps_s_k p108_0 ?_
  refine ps_s_is3 p108_1 ?_
  refine ps_s_k p108_2 ?_
  refine ps_s_is4 p108_3 ?_
  exact loop1 _ _ _ (Nat.zero_add _) (Nat.zero_add _)
theorem rf_writeList (hm : G.1 ≤ m) (hcn : cn ≤ 12) (hli : li ≤ 1) (hdc : dc ≤ 200) (hS : ∀ j, aS j < 16) (hX : ∀ j, aX j ≤ 1) (hM : ∀ j, aM j ≤ 1) (hN : ∀ j, aN j < 1000) (hs : (lB aS aX aM aN li dc cn).length ≤ 1400)
    (hQ : Q (.inl none) (rf h0 m r0 tw df dc bf cn nn li P ((lB aS aX aM aN li dc cn).length) pl aD aK aL aT aS aX aM aC aN (ap aO 0 (lB aS aX aM aN li dc cn)) aQ aB aV aH)) : ps_M G 3 106 [.ref m] (rf h0 m r0 tw df dc bf cn nn li P sz pl aD aK aL aT aS aX aM aC aN aO aQ aB aV aH) Q := by
  refine ps_M_in (e106 _) l106 (fun d hd => ?_)
  have loop : ∀ n s sz aO, s + n = cn → sz + (lsB (fun s => eB (aN s) (gfl aS aX aM s 0 0 dc)) s n).length ≤ 1400 → Q (.inl none) (rf h0 m r0 tw df dc bf cn nn li P (sz + (lsB (fun s => eB (aN s) (gfl aS aX aM s 0 0 dc)) s n).length) pl aD aK aL aT aS aX aM aC aN (ap aO sz (lsB (fun s => eB (aN s) (gfl aS aX aM s 0 0 dc)) s n)) aQ aB aV aH) → ps_X G d 106 22 [some (.ref m), some (iN s)] [] (rf h0 m r0 tw df dc bf cn nn li P sz pl aD aK aL aT aS aX aM aC aN aO aQ aB aV aH) Q := by
    intro n
    induction n with
    | zero =>
      intro s sz aO h hs hQ
      refine ps_s_il p106_22 rfl ?_
      refine ps_s_al p106_23 rfl ?_
      refine rf_g_cn p106_24 ?_
      refine ps_s_ge p106_27 (by omega) (by omega) (fun c27 => ?_) (fun c27 => ?_)
      · refine ps_s_rv p106_42 t106 ?_
        rw [show lsB (fun s => eB (aN s) (gfl aS aX aM s 0 0 dc)) s 0 = [] from rfl, ap_nil] at hQ
        exact hQ
      · omega
    | succ n ih =>
      intro s sz aO h hs hQ
      rw [lsB_s] at hs hQ
      rw [List.length_append] at hs
      rw [← ap_ap, List.length_append, ← Nat.add_assoc] at hQ
      refine ps_s_il p106_22 rfl ?_
      refine ps_s_al p106_23 rfl ?_
      refine rf_g_cn p106_24 ?_
      refine ps_s_ge p106_27 (by omega) (by omega) (fun c27 => ?_) (fun c27 => ?_)
      · omega
      · refine ps_s_al p106_30 rfl ?_
        refine ps_s_il p106_31 rfl ?_
        refine ps_s_k p106_32 ?_
        refine ps_s_vV [_, _] _ p106_33 rfl rf_o rfl rfl rfl (rf_writeEntry hm (by omega) (by omega) hdc hS hX hM hN (by omega) (ps_bkv ?_) d (by omega))
        refine ps_s_in1 p106_36 ?_
        refine ps_s_go p106_39 ?_
        exact ih _ _ _ (by omega) (by omega) hQ
  unfold lB at hs hQ
  refine ps_s_al p106_0 rfl ?_
  refine ps_s_k p106_1 ?_
  refine rf_s_sz hm p106_2 ?_
  refine ps_s_al p106_5 rfl ?_
  refine rf_g_li p106_6 ?_
  refine ps_s_eq0 p106_9 (by omega) (fun c9 => ?_) (fun c9 => ?_)
  · rw [if_neg (by omega), ap_nil] at hQ
    refine ps_s_rv p106_42 t106 ?_
    exact hQ
  · rw [if_pos (by omega)] at hs hQ
    rw [List.length_append] at hs
    refine ps_s_al p106_12 rfl ?_
    refine ps_s_al p106_13 rfl ?_
    refine rf_g_cn p106_14 ?_
    refine ps_s_vV [_] _ p106_17 rfl rf_o rfl rfl rfl (rf_write hm (by omega) (by omega) (ps_bkv ?_) d (by omega))
    refine ps_s_k p106_20 ?_
    refine ps_s_is1 p106_21 ?_
    refine loop _ _ _ _ (Nat.zero_add _) (by omega) ?_
    have hQ2 := hQ
    rw [← ap_ap, List.length_append] at hQ2
    simp only [Nat.zero_add] at hQ2 ⊢
    exact hQ2
theorem sumN_le {f : Nat → Nat} {b : Nat} : ∀ n s, (∀ j, s ≤ j → j < s + n → f j ≤ b) → sumN f s n ≤ n * b := by
  intro n
  induction n with
  | zero => intro s _; exact Nat.zero_le _
  | succ n ih =>
    intro s h
    rw [sumN_s, Nat.succ_mul]
    have := ih (s + 1) (fun j h1 h2 => h j (by omega) (by omega))
    have := h s (by omega) (by omega)
    omega
theorem rf_used (hm : G.1 ≤ m) (hcn : cn ≤ 12) (hli : li ≤ 1) (hall : dc + bf ≤ 200) (hK : ∀ j, aK j < 2147483648) (hL : ∀ j, aL j ≤ 8) (hT : ∀ j, aT j < 16) (hS : ∀ j, aS j < 16) (hX : ∀ j, aX j ≤ 1) (hM : ∀ j, aM j ≤ 1) (hC : ∀ j, aC j ≤ 1) (hN : ∀ j, aN j < 1000) (hs : (lB aS aX aM aN li dc cn).length ≤ 1400)
    (hg : ∀ s, s < cn → srt 0 (sdo aK aL aT aS s 0 dc) ∧ (sB (sdo aK aL aT aS s 0 dc)).length ≤ 1400)
    (hQ : ∀ (aC aO : Nat → Nat) (sz : Nat), (∀ j, aC j ≤ 1) → sz ≤ 1400 → Q (.inl (some (iN (usN aK aL aT aS aX aM aN li dc cn)))) (rf h0 m r0 tw df dc bf cn nn li P sz pl aD aK aL aT aS aX aM aC aN aO aQ aB aV aH)) : ps_M G 4 105 [.ref m] (rf h0 m r0 tw df dc bf cn nn li P sz pl aD aK aL aT aS aX aM aC aN aO aQ aB aV aH) Q := by
  refine ps_M_in (e105 _) l105 (fun d hd => ?_)
  have hall' : sumN (fun s => (sB (sdo aK aL aT aS s 0 dc)).length) 0 cn ≤ cn * 1400 := sumN_le cn 0 (fun j _ h => (hg j (by omega)).2)
  have loop : ∀ n s a (aC aO : Nat → Nat) sz, s + n = cn → a + sumN (fun s => (sB (sdo aK aL aT aS s 0 dc)).length) s n = usN aK aL aT aS aX aM aN li dc cn → (∀ j, aC j ≤ 1) → sz ≤ 1400 → ps_X G d 105 11 [some (.ref m), some (iN a), some (iN s)] [] (rf h0 m r0 tw df dc bf cn nn li P sz pl aD aK aL aT aS aX aM aC aN aO aQ aB aV aH) Q := by
    intro n
    induction n with
    | zero =>
      intro s a aC aO sz h ha hC hz
      rw [show sumN (fun s => (sB (sdo aK aL aT aS s 0 dc)).length) s 0 = 0 from rfl, Nat.add_zero] at ha
      subst ha
      refine ps_s_il p105_11 rfl ?_
      refine ps_s_al p105_12 rfl ?_
      refine rf_g_cn p105_13 ?_
      refine ps_s_ge p105_16 (by omega) (by omega) (fun c16 => ?_) (fun c16 => ?_)
      · refine ps_s_il p105_41 rfl ?_
        refine ps_s_ri p105_42 t105 ?_
        exact hQ _ _ _ hC hz
      · omega
    | succ n ih =>
      intro s a aC aO sz h ha hC hz
      rw [sumN_s] at ha
      refine ps_s_il p105_11 rfl ?_
      refine ps_s_al p105_12 rfl ?_
      refine rf_g_cn p105_13 ?_
      refine ps_s_ge p105_16 (by omega) (by omega) (fun c16 => ?_) (fun c16 => ?_)
      · omega
      · obtain ⟨g1, g2⟩ := hg s (by omega)
        refine ps_s_al p105_19 rfl ?_
        refine ps_s_il p105_20 rfl ?_
        refine ps_s_vV [_] _ p105_21 rfl rf_o rfl rfl rfl (rf_chooseSegment hm (by omega) (by omega) hS hC (fun aC h1 h2 => ps_bkv ?_) d (by omega))
        have e := cho_seg (aK := aK) (aL := aL) (aT := aT) hall h1
        refine ps_s_al p105_24 rfl ?_
        refine ps_s_vV [] _ p105_25 rfl rf_o rfl rfl rfl (rf_writeSegment hm hall hK hL hT h2 (by rw [e]; exact g1) (by rw [e]; exact g2) (ps_bkv ?_) d (by omega))
        rw [e]
        refine ps_s_il p105_28 rfl ?_
        refine ps_s_al p105_29 rfl ?_
        refine rf_g_sz p105_30 ?_
        first | refine ps_s_add p105_33 ?_ | refine ps_s_2 p105_33 ?_
        refine ps_s_is1 p105_34 ?_
        refine ps_s_in2 p105_35 ?_
        refine ps_s_go p105_38 ?_
        exact ih _ _ _ _ _ (by omega) (by omega) h2 g2
  refine ps_s_al p105_0 rfl ?_
  refine ps_s_vV [] _ p105_1 rfl rf_o rfl rfl rfl (rf_writeList hm hcn hli (by omega) hS hX hM hN hs (ps_bkv ?_) d (by omega))
  refine ps_s_al p105_4 rfl ?_
  refine rf_g_sz p105_5 ?_
  refine ps_s_is1 p105_8 ?_
  refine ps_s_k p105_9 ?_
  refine ps_s_is2 p105_10 ?_
  exact loop _ _ _ _ _ _ (Nat.zero_add _) rfl hC hs
theorem clr_up (f : Nat → Nat) (i : Nat) : va_up (fun j => if j < i then 0 else f j) i 0 = fun j => if j < i + 1 then 0 else f j := by
  funext j
  unfold va_up
  by_cases h : j = i
  · rw [if_pos h, if_pos (by omega)]
  · rw [if_neg h]
    dsimp only
    by_cases h2 : j < i
    · rw [if_pos h2, if_pos (by omega)]
    · rw [if_neg h2, if_neg (by omega)]
theorem rf_isCut_off (hm : G.1 ≤ m) {x : Nat} (hP : P = -1) (hQ : Q (.inl (some (iN 0))) (rf h0 m r0 tw df dc bf cn nn li P sz pl aD aK aL aT aS aX aM aC aN aO aQ aB aV aH)) : ps_M G 1 119 [.ref m, iN x] (rf h0 m r0 tw df dc bf cn nn li P sz pl aD aK aL aT aS aX aM aC aN aO aQ aB aV aH) Q := by
  refine ps_M_in (e119 _ _) l119 (fun d hd => ?_)
  subst hP
  refine ps_s_al p119_0 rfl ?_
  refine rf_g_P p119_1 ?_
  refine ps_s_j0 p119_4 (fun c => absurd c (by decide)) (fun _ => ?_)
  refine ps_s_k p119_7 ?_
  refine ps_s_rz p119_8 t119 (by first | exact .inl rfl | exact .inr rfl | exact bN_01 _) ?_
  exact hQ
theorem rf_isCut_on (hm : G.1 ≤ m) {x p : Nat} (hx : x < 2147483648) (hp : p < 2147483648) (hP : P = Int32.ofNat p) (hdc : dc ≤ 200)
    (h1 : x ≤ p → Q (.inl (some (iN 0))) (rf h0 m r0 tw df dc bf cn nn li (Int32.ofNat (p - x)) sz pl aD aK aL aT aS aX aM aC aN aO aQ aB aV aH))
    (h2 : p < x → Q (.inl (some (iN 1))) (rf h0 m r0 tw (0) dc (0) cn nn li (-1) sz pl aD aK aL aT aS aX (fun j => if j < dc then 0 else aM j) aC aN aO aQ aB aV aH)) : ps_M G 1 119 [.ref m, iN x] (rf h0 m r0 tw df dc bf cn nn li P sz pl aD aK aL aT aS aX aM aC aN aO aQ aB aV aH) Q := by
  refine ps_M_in (e119 _ _) l119 (fun d hd => ?_)
  subst hP
  have loop : ∀ n i, i + n = dc → p < x → ps_X G d 119 46 [some (.ref m), some (iN x), some (iN i)] [] (rf h0 m r0 tw (0) dc (0) cn nn li (-1) sz pl aD aK aL aT aS aX (fun j => if j < i then 0 else aM j) aC aN aO aQ aB aV aH) Q := by
    intro n
    induction n with
    | zero =>
      intro i hi hpx
      refine ps_s_il p119_46 rfl ?_
      refine ps_s_al p119_47 rfl ?_
      refine rf_g_dc p119_48 ?_
      refine ps_s_ge p119_51 (by omega) (by omega) (fun c51 => ?_) (fun c51 => ?_)
      · refine ps_s_k p119_67 ?_
        refine ps_s_rz p119_68 t119 (by first | exact .inl rfl | exact .inr rfl | exact bN_01 _) ?_
        rw [show i = dc by omega]
        exact h2 hpx
      · omega
    | succ n ih =>
      intro i hi hpx
      refine ps_s_il p119_46 rfl ?_
      refine ps_s_al p119_47 rfl ?_
      refine rf_g_dc p119_48 ?_
      refine ps_s_ge p119_51 (by omega) (by omega) (fun c51 => ?_) (fun c51 => ?_)
      · omega
      · refine ps_s_al p119_54 rfl ?_
        refine rf_g_aM p119_55 ?_
        refine ps_s_il p119_58 rfl ?_
        refine ps_s_k p119_59 ?_
        refine rf_sa_aM hm p119_60 (by omega) (by omega) ?_
        refine ps_s_in2 p119_61 ?_
        refine ps_s_go p119_64 ?_
        rw [clr_up]
        exact ih _ (by omega) hpx
  refine ps_s_al p119_0 rfl ?_
  refine rf_g_P p119_1 ?_
  refine ps_s_ge0 p119_4 (by omega) (fun c4 => ?_) (fun c4 => ?_)
  · refine ps_s_il p119_9 rfl ?_
    refine ps_s_al p119_10 rfl ?_
    refine rf_g_P p119_11 ?_
    refine ps_s_gt p119_14 (by omega) (by omega) (fun c14 => ?_) (fun c14 => ?_)
    · refine ps_s_al p119_29 rfl ?_
      refine ps_s_k p119_30 ?_
      refine rf_s_P hm p119_31 ?_
      refine ps_s_al p119_34 rfl ?_
      refine ps_s_k p119_35 ?_
      refine rf_s_bf hm p119_36 ?_
      refine ps_s_al p119_39 rfl ?_
      refine ps_s_k p119_40 ?_
      refine rf_s_df hm p119_41 ?_
      refine ps_s_k p119_44 ?_
      refine ps_s_is2 p119_45 ?_
      have := loop dc 0 (by omega) (by omega)
      rw [show (fun j => if j < 0 then 0 else aM j) = aM from funext fun j => if_neg (by omega)] at this
      exact this
    · refine ps_s_al p119_17 rfl ?_
      refine ps_s_al p119_18 rfl ?_
      refine rf_g_P p119_19 ?_
      refine ps_s_il p119_22 rfl ?_
      first | refine ps_s_sub p119_23 (by omega) ?_ | refine ps_s_2 p119_23 ?_
      refine rf_s_P hm p119_24 ?_
      refine ps_s_k p119_27 ?_
      refine ps_s_rz p119_28 t119 (by first | exact .inl rfl | exact .inr rfl | exact bN_01 _) ?_
      exact h1 (by omega)
  · omega
theorem rf_free (hm : G.1 ≤ m) (hcn : cn ≤ 12) (hli : li ≤ 1) (hall : dc + bf ≤ 200) (hK : ∀ j, aK j < 2147483648) (hL : ∀ j, aL j ≤ 8) (hT : ∀ j, aT j < 16) (hS : ∀ j, aS j < 16) (hX : ∀ j, aX j ≤ 1) (hM : ∀ j, aM j ≤ 1) (hC : ∀ j, aC j ≤ 1) (hN : ∀ j, aN j < 1000) (hs : (lB aS aX aM aN li dc cn).length ≤ 1400)
    (hg : ∀ s, s < cn → srt 0 (sdo aK aL aT aS s 0 dc) ∧ (sB (sdo aK aL aT aS s 0 dc)).length ≤ 1400) (hu : usN aK aL aT aS aX aM aN li dc cn ≤ r0)
    (hQ : ∀ (aC aO : Nat → Nat) (sz : Nat), (∀ j, aC j ≤ 1) → sz ≤ 1400 → Q (.inl (some (iN (r0 - usN aK aL aT aS aX aM aN li dc cn)))) (rf h0 m r0 (0) df dc bf cn nn li P sz pl aD aK aL aT aS aX aM aC aN aO aQ aB aV aH)) : ps_M G 5 104 [.ref m] (rf h0 m r0 tw df dc bf cn nn li P sz pl aD aK aL aT aS aX aM aC aN aO aQ aB aV aH) Q := by
  refine ps_M_in (e104 _) l104 (fun d hd => ?_)
  refine ps_s_al p104_0 rfl ?_
  refine ps_s_k p104_1 ?_
  refine rf_s_tw hm p104_2 ?_
  refine ps_s_al p104_5 rfl ?_
  refine rf_g_r0 p104_6 ?_
  refine ps_s_al p104_9 rfl ?_
  refine ps_s_vV [] _ p104_10 rfl rf_o rfl rfl rfl (rf_used hm hcn hli hall hK hL hT hS hX hM hC hN hs hg (fun aC aO sz h1 h2 => ps_bki ?_) d (by omega))
  first | refine ps_s_sub p104_13 (by omega) ?_ | refine ps_s_2 p104_13 ?_
  refine ps_s_ri p104_14 t104 ?_
  exact hQ _ _ _ h1 h2
end RFD
