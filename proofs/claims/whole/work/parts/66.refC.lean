/-! The reference: a segment's bytes. -/
abbrev pDoc : Type := Nat × List Nat
def kB : Nat → List pDoc → List Nat
  | _, [] => []
  | b, x :: r => vi (x.1 - b) ++ (vi x.2.length ++ kB x.1 r)
def plB (t : Nat) : Nat → Nat → List Nat → List Nat
  | _, _, [] => []
  | p, l, x :: r => if x = t then vi (p - l) ++ plB t (p + 1) p r else plB t (p + 1) l r
def poB (t : Nat) : Nat → Nat → List pDoc → List Nat
  | _, _, [] => []
  | o, b, x :: r => if 0 < tm t x.2 then vi (o - b) ++ (vi (tm t x.2) ++ (plB t 0 0 x.2 ++ poB t (o + 1) o r)) else poB t (o + 1) b r
def hav (t : Nat) : List pDoc → Nat
  | [] => 0
  | x :: r => (if 0 < tm t x.2 then 1 else 0) + hav t r
def tB (t : Nat) (D : List pDoc) : List Nat := if hav t D = 0 then [] else vi t ++ (vi (hav t D) ++ poB t 0 0 D)
def tsB (D : List pDoc) : Nat → Nat → List Nat
  | _, 0 => []
  | t, n + 1 => tB t D ++ tsB D (t + 1) n
/-- a segment's bytes -/
def sB (D : List pDoc) : List Nat := vi D.length ++ (kB 0 D ++ tsB D 0 16)
def srt : Nat → List pDoc → Prop
  | _, [] => True
  | b, x :: r => b ≤ x.1 ∧ srt x.1 r
def docOf (aK aL aT : Nat → Nat) (d : Nat) : pDoc := (aK d, sl (fun p => aT (8 * d + p)) 0 (aL d))
def cho (aK aL aT aC : Nat → Nat) : Nat → Nat → List pDoc
  | _, 0 => []
  | d, n + 1 => if aC d = 1 then docOf aK aL aT d :: cho aK aL aT aC (d + 1) n else cho aK aL aT aC (d + 1) n
theorem cho_s (aK aL aT aC : Nat → Nat) (d n : Nat) : cho aK aL aT aC d (n + 1) = if aC d = 1 then docOf aK aL aT d :: cho aK aL aT aC (d + 1) n else cho aK aL aT aC (d + 1) n := rfl
theorem hav_c (t : Nat) (x : pDoc) (r : List pDoc) : hav t (x :: r) = (if 0 < tm t x.2 then 1 else 0) + hav t r := rfl
theorem cho_len (aK aL aT aC : Nat → Nat) : ∀ n d, (fl (fun d => decide (aC d = 1)) d n).length = (cho aK aL aT aC d n).length := by
  intro n
  induction n with
  | zero => intro d; rfl
  | succ n ih =>
    intro d
    unfold fl cho
    by_cases h : aC d = 1
    · rw [decide_eq_true h, if_pos rfl, if_pos h, List.length_cons, List.length_cons, ih]
    · rw [decide_eq_false h, if_neg (by decide), if_neg h, ih]
theorem cho_le (aK aL aT aC : Nat → Nat) : ∀ n d, (cho aK aL aT aC d n).length ≤ n := by
  intro n
  induction n with
  | zero => intro d; exact Nat.le_refl _
  | succ n ih =>
    intro d
    unfold cho
    split
    · rw [List.length_cons]; have := ih (d + 1); omega
    · have := ih (d + 1); omega
theorem sl_len (f : Nat → Nat) : ∀ n p, (sl f p n).length = n := by
  intro n
  induction n with
  | zero => intro p; rfl
  | succ n ih => intro p; unfold sl; rw [List.length_cons, ih]
theorem tm_le (t : Nat) (l : List Nat) : tm t l ≤ l.length := by
  induction l with
  | nil => exact Nat.le_refl _
  | cons x r ih => unfold tm; rw [List.length_cons]; split <;> omega
theorem hav_le (t : Nat) (l : List pDoc) : hav t l ≤ l.length := by
  induction l with
  | nil => exact Nat.le_refl _
  | cons x r ih => unfold hav; rw [List.length_cons]; split <;> omega
section RFC
variable {h0 : pm_S} {m r0 tw df dc bf cn nn li sz pl : Nat} {P : Int32} {aD aK aL aT aS aX aM aC aN aO aQ aB aV aH : Nat → Nat} {G : pm_G} {Q : pm_Q}
theorem rf_writePostings (hm : G.1 ≤ m) {t : Nat} (ht : t < 16) (hall : dc + bf ≤ 200) (hL : ∀ j, aL j ≤ 8) (hT : ∀ j, aT j < 16) (hC : ∀ j, aC j ≤ 1) (hs : sz + (tB t (cho aK aL aT aC 0 (dc + bf))).length ≤ 1400)
    (hQ : Q (.inl none) (rf h0 m r0 tw df dc bf cn nn li P (sz + (tB t (cho aK aL aT aC 0 (dc + bf))).length) pl aD aK aL aT aS aX aM aC aN (ap aO sz (tB t (cho aK aL aT aC 0 (dc + bf)))) aQ aB aV aH)) : ps_M G 2 113 [.ref m, iN t] (rf h0 m r0 tw df dc bf cn nn li P sz pl aD aK aL aT aS aX aM aC aN aO aQ aB aV aH) Q := by
  refine ps_M_in (e113 _ _) l113 (fun d hd => ?_)
  have hav_all : hav t (cho aK aL aT aC 0 (dc + bf)) ≤ 200 := by have := hav_le t (cho aK aL aT aC 0 (dc + bf)); have := cho_le aK aL aT aC (dc + bf) 0; omega
  have inner : ∀ k i p l o b a w sz aO, i < dc + bf → p + k = aL i → l ≤ p → sz + (plB t p l (sl (fun p => aT (8 * i + p)) p k)).length ≤ 1400 → (∀ u7 u8, ps_X G d 113 185 [some (.ref m), some (iN t), some (iN a), some (iN o), some (iN b), some (iN i), some (iN w), u7, u8] [] (rf h0 m r0 tw df dc bf cn nn li P (sz + (plB t p l (sl (fun p => aT (8 * i + p)) p k)).length) pl aD aK aL aT aS aX aM aC aN (ap aO sz (plB t p l (sl (fun p => aT (8 * i + p)) p k))) aQ aB aV aH) Q) →
      ps_X G d 113 137 [some (.ref m), some (iN t), some (iN a), some (iN o), some (iN b), some (iN i), some (iN w), some (iN l), some (iN p)] [] (rf h0 m r0 tw df dc bf cn nn li P sz pl aD aK aL aT aS aX aM aC aN aO aQ aB aV aH) Q := by
    intro k
    induction k with
    | zero =>
      intro i p l o b a w sz aO hi hp hl hs K
      have := hL i
      refine ps_s_il p113_137 rfl ?_
      refine ps_s_al p113_139 rfl ?_
      refine rf_g_aL p113_140 ?_
      refine ps_s_il p113_143 rfl ?_
      refine rf_la_aL p113_145 (by omega) ?_
      refine ps_s_ge p113_146 (by omega) (by omega) (fun c146 => ?_) (fun c146 => ?_)
      · have K2 := K (some (iN l)) (some (iN p))
        rw [show sl (fun p => aT (8 * i + p)) p 0 = [] from rfl, show plB t p l [] = [] from rfl, ap_nil] at K2
        exact K2
      · omega
    | succ k ih =>
      intro i p l o b a w sz aO hi hp hl hs K
      have := hL i
      have := hT (8 * i + p)
      rw [show sl (fun p => aT (8 * i + p)) p (k + 1) = aT (8 * i + p) :: sl (fun p => aT (8 * i + p)) (p + 1) k from rfl] at hs K
      unfold plB at hs K
      refine ps_s_il p113_137 rfl ?_
      refine ps_s_al p113_139 rfl ?_
      refine rf_g_aL p113_140 ?_
      refine ps_s_il p113_143 rfl ?_
      refine rf_la_aL p113_145 (by omega) ?_
      refine ps_s_ge p113_146 (by omega) (by omega) (fun c146 => ?_) (fun c146 => ?_)
      · omega
      · refine ps_s_al p113_149 rfl ?_
        refine rf_g_aT p113_150 ?_
        refine ps_s_k p113_153 ?_
        refine ps_s_il p113_155 rfl ?_
        first | refine ps_s_mul p113_157 ?_ | refine ps_s_2 p113_157 ?_
        refine ps_s_il p113_158 rfl ?_
        first | refine ps_s_add p113_160 ?_ | refine ps_s_2 p113_160 ?_
        refine rf_la_aT p113_161 (by omega) ?_
        refine ps_s_il p113_162 rfl ?_
        refine ps_s_ne p113_163 (by omega) (by omega) (fun c163 => ?_) (fun c163 => ?_)
        · refine ps_s_in8 p113_179 ?_
          refine ps_s_go p113_182 ?_
          rw [if_neg c163] at hs K
          exact ih _ _ _ _ _ _ _ _ _ hi (by omega) (by omega) hs K
        · refine ps_s_al p113_166 rfl ?_
          refine ps_s_il p113_167 rfl ?_
          refine ps_s_il p113_169 rfl ?_
          first | refine ps_s_sub p113_171 (by omega) ?_ | refine ps_s_2 p113_171 ?_
          rw [if_pos (by omega), List.length_append] at hs
          refine ps_s_vV [_] _ p113_172 rfl rf_o rfl rfl rfl (rf_write hm (by omega) (by omega) (ps_bkv ?_) d (by omega))
          refine ps_s_il p113_175 rfl ?_
          refine ps_s_is7 p113_177 ?_
          refine ps_s_in8 p113_179 ?_
          refine ps_s_go p113_182 ?_
          refine ih _ _ _ _ _ _ _ _ _ hi (by omega) (by omega) (by omega) ?_
          intro u7 u8
          have K2 := K u7 u8
          rw [if_pos (by omega), ← ap_ap, List.length_append, ← Nat.add_assoc] at K2
          exact K2
  have loop2 : ∀ n i o b a sz aO u6 u7 u8, i + n = dc + bf → b ≤ o → o ≤ i → a ≤ 200 → sz + (poB t o b (cho aK aL aT aC i n)).length ≤ 1400 → Q (.inl none) (rf h0 m r0 tw df dc bf cn nn li P (sz + (poB t o b (cho aK aL aT aC i n)).length) pl aD aK aL aT aS aX aM aC aN (ap aO sz (poB t o b (cho aK aL aT aC i n))) aQ aB aV aH) →
      ps_X G d 113 72 [some (.ref m), some (iN t), some (iN a), some (iN o), some (iN b), some (iN i), u6, u7, u8] [] (rf h0 m r0 tw df dc bf cn nn li P sz pl aD aK aL aT aS aX aM aC aN aO aQ aB aV aH) Q := by
    intro n
    induction n with
    | zero =>
      intro i o b a sz aO u6 u7 u8 hi hbo hoi ha hs hQ
      refine ps_s_il p113_72 rfl ?_
      refine ps_s_al p113_74 rfl ?_
      refine rf_g_dc p113_75 ?_
      refine ps_s_al p113_78 rfl ?_
      refine rf_g_bf p113_79 ?_
      first | refine ps_s_add p113_82 ?_ | refine ps_s_2 p113_82 ?_
      refine ps_s_ge p113_83 (by omega) (by omega) (fun c83 => ?_) (fun c83 => ?_)
      · refine ps_s_rv p113_209 t113 ?_
        rw [show cho aK aL aT aC i 0 = [] from rfl, show poB t o b [] = [] from rfl, ap_nil] at hQ
        exact hQ
      · omega
    | succ n ih =>
      intro i o b a sz aO u6 u7 u8 hi hbo hoi ha hs hQ
      have := hL i
      have := hC i
      unfold cho at hs hQ
      refine ps_s_il p113_72 rfl ?_
      refine ps_s_al p113_74 rfl ?_
      refine rf_g_dc p113_75 ?_
      refine ps_s_al p113_78 rfl ?_
      refine rf_g_bf p113_79 ?_
      first | refine ps_s_add p113_82 ?_ | refine ps_s_2 p113_82 ?_
      refine ps_s_ge p113_83 (by omega) (by omega) (fun c83 => ?_) (fun c83 => ?_)
      · omega
      · refine ps_s_al p113_86 rfl ?_
        refine rf_g_aC p113_87 ?_
        refine ps_s_il p113_90 rfl ?_
        refine rf_la_aC hm p113_92 (by omega) ?_
        refine ps_s_eq0 p113_93 (by omega) (fun c93 => ?_) (fun c93 => ?_)
        · rw [if_neg (by omega)] at hs hQ
          refine ps_s_k p113_106 ?_
          refine ps_s_is6 p113_107 ?_
          refine ps_s_il p113_109 rfl ?_
          refine ps_s_le0 p113_111 (by omega) (fun c111 => ?_) (fun c111 => ?_)
          · refine ps_s_al p113_185 rfl ?_
            refine rf_g_aC p113_186 ?_
            refine ps_s_il p113_189 rfl ?_
            refine rf_la_aC hm p113_191 (by omega) ?_
            refine ps_s_eq0 p113_192 (by omega) (fun c192 => ?_) (fun c192 => ?_)
            · refine ps_s_il p113_201 rfl ?_
              refine ps_s_is3 p113_202 ?_
              refine ps_s_in5 p113_203 ?_
              refine ps_s_go p113_206 ?_
              exact ih _ _ _ _ _ _ _ _ _ (by omega) (by omega) (by omega) ha hs hQ
            · omega
          · omega
        · rw [if_pos (by omega)] at hs hQ
          rw [show docOf aK aL aT i = (aK i, sl (fun p => aT (8 * i + p)) 0 (aL i)) from rfl] at hs hQ
          unfold poB at hs hQ
          have htm := tm_le t (sl (fun p => aT (8 * i + p)) 0 (aL i))
          rw [sl_len] at htm
          refine ps_s_al p113_96 rfl ?_
          refine ps_s_il p113_97 rfl ?_
          refine ps_s_il p113_99 rfl ?_
          refine ps_s_vV [_, _] _ p113_100 rfl rf_o rfl rfl rfl (rf_timesOf (by omega) ht (hL _) (fun p _ => hT _) (ps_bki ?_) d (by omega))
          refine ps_s_go p113_103 ?_
          refine ps_s_is6 p113_107 ?_
          refine ps_s_il p113_109 rfl ?_
          refine ps_s_le0 p113_111 (by omega) (fun c111 => ?_) (fun c111 => ?_)
          · rw [if_neg (by show ¬ 0 < tm t (sl (fun p => aT (8 * i + p)) 0 (aL i)); omega)] at hs hQ
            refine ps_s_al p113_185 rfl ?_
            refine rf_g_aC p113_186 ?_
            refine ps_s_il p113_189 rfl ?_
            refine rf_la_aC hm p113_191 (by omega) ?_
            refine ps_s_eq0 p113_192 (by omega) (fun c192 => ?_) (fun c192 => ?_)
            · omega
            · refine ps_s_il p113_195 rfl ?_
              refine ps_s_k p113_196 ?_
              first | refine ps_s_add p113_197 ?_ | refine ps_s_2 p113_197 ?_
              refine ps_s_go p113_198 ?_
              refine ps_s_is3 p113_202 ?_
              refine ps_s_in5 p113_203 ?_
              refine ps_s_go p113_206 ?_
              exact ih _ _ _ _ _ _ _ _ _ (by omega) (by omega) (by omega) ha hs hQ
          · have hpos : 0 < tm t (sl (fun p => aT (8 * i + p)) 0 (aL i)) := by omega
            rw [if_pos (by exact hpos)] at hs hQ
            simp only [List.length_append] at hs
            refine ps_s_al p113_114 rfl ?_
            refine ps_s_il p113_115 rfl ?_
            refine ps_s_il p113_116 rfl ?_
            first | refine ps_s_sub p113_118 (by omega) ?_ | refine ps_s_2 p113_118 ?_
            refine ps_s_vV [_] _ p113_119 rfl rf_o rfl rfl rfl (rf_write hm (by omega) (by omega) (ps_bkv ?_) d (by omega))
            refine ps_s_il p113_122 rfl ?_
            refine ps_s_is4 p113_123 ?_
            refine ps_s_al p113_125 rfl ?_
            refine ps_s_il p113_126 rfl ?_
            refine ps_s_vV [_] _ p113_128 rfl rf_o rfl rfl rfl (rf_write hm (by omega) (by omega) (ps_bkv ?_) d (by omega))
            refine ps_s_k p113_131 ?_
            refine ps_s_is7 p113_132 ?_
            refine ps_s_k p113_134 ?_
            refine ps_s_is8 p113_135 ?_
            refine inner (aL i) _ _ _ _ _ _ _ _ _ (by omega) (by omega) (by omega) (by omega) ?_
            intro u7 u8
            refine ps_s_al p113_185 rfl ?_
            refine rf_g_aC p113_186 ?_
            refine ps_s_il p113_189 rfl ?_
            refine rf_la_aC hm p113_191 (by omega) ?_
            refine ps_s_eq0 p113_192 (by omega) (fun c192 => ?_) (fun c192 => ?_)
            · omega
            · refine ps_s_il p113_195 rfl ?_
              refine ps_s_k p113_196 ?_
              first | refine ps_s_add p113_197 ?_ | refine ps_s_2 p113_197 ?_
              refine ps_s_go p113_198 ?_
              refine ps_s_is3 p113_202 ?_
              refine ps_s_in5 p113_203 ?_
              refine ps_s_go p113_206 ?_
              refine ih _ _ _ _ _ _ _ _ _ (by omega) (by omega) (by omega) ha (by omega) ?_
              have hQ2 := hQ
              rw [← ap_ap, ← ap_ap, ← ap_ap] at hQ2
              simp only [List.length_append, ← Nat.add_assoc] at hQ2
              exact hQ2
  have loop1 : ∀ n i a, i + n = dc + bf → a + hav t (cho aK aL aT aC i n) = hav t (cho aK aL aT aC 0 (dc + bf)) → ps_X G d 113 4 [some (.ref m), some (iN t), some (iN a), some (iN i), none, none, none, none, none] [] (rf h0 m r0 tw df dc bf cn nn li P sz pl aD aK aL aT aS aX aM aC aN aO aQ aB aV aH) Q := by
    intro n
    induction n with
    | zero =>
      intro i a hi ha
      rw [show cho aK aL aT aC i 0 = [] from rfl, show hav t [] = 0 from rfl, Nat.add_zero] at ha
      subst ha
      unfold tB at hs hQ
      refine ps_s_il p113_4 rfl ?_
      refine ps_s_al p113_5 rfl ?_
      refine rf_g_dc p113_6 ?_
      refine ps_s_al p113_9 rfl ?_
      refine rf_g_bf p113_10 ?_
      first | refine ps_s_add p113_13 ?_ | refine ps_s_2 p113_13 ?_
      refine ps_s_ge p113_14 (by omega) (by omega) (fun c14 => ?_) (fun c14 => ?_)
      · refine ps_s_il p113_49 rfl ?_
        refine ps_s_ne0 p113_50 (by omega) (fun c50 => ?_) (fun c50 => ?_)
        · rw [if_neg c50] at hs hQ
          simp only [List.length_append] at hs
          refine ps_s_al p113_54 rfl ?_
          refine ps_s_il p113_55 rfl ?_
          refine ps_s_vV [_] _ p113_56 rfl rf_o rfl rfl rfl (rf_write hm (by omega) (by omega) (ps_bkv ?_) d (by omega))
          refine ps_s_al p113_59 rfl ?_
          refine ps_s_il p113_60 rfl ?_
          refine ps_s_vV [_] _ p113_61 rfl rf_o rfl rfl rfl (rf_write hm (by omega) (by omega) (ps_bkv ?_) d (by omega))
          refine ps_s_k p113_64 ?_
          refine ps_s_is3 p113_65 ?_
          refine ps_s_k p113_66 ?_
          refine ps_s_is4 p113_67 ?_
          refine ps_s_k p113_69 ?_
          refine ps_s_is5 p113_70 ?_
          refine loop2 _ _ _ _ _ _ _ _ _ _ (Nat.zero_add _) (by omega) (by omega) hav_all (by omega) ?_
          have hQ2 := hQ
          rw [← ap_ap, ← ap_ap] at hQ2
          simp only [List.length_append, ← Nat.add_assoc] at hQ2
          exact hQ2
        · rw [if_pos (Decidable.not_not.mp c50), ap_nil] at hQ
          refine ps_s_rv p113_53 t113 ?_
          exact hQ
      · omega
    | succ n ih =>
      intro i a hi ha
      have := hL i
      have := hC i
      rw [cho_s] at ha
      refine ps_s_il p113_4 rfl ?_
      refine ps_s_al p113_5 rfl ?_
      refine rf_g_dc p113_6 ?_
      refine ps_s_al p113_9 rfl ?_
      refine rf_g_bf p113_10 ?_
      first | refine ps_s_add p113_13 ?_ | refine ps_s_2 p113_13 ?_
      refine ps_s_ge p113_14 (by omega) (by omega) (fun c14 => ?_) (fun c14 => ?_)
      · omega
      · refine ps_s_al p113_17 rfl ?_
        refine rf_g_aC p113_18 ?_
        refine ps_s_il p113_21 rfl ?_
        refine rf_la_aC hm p113_22 (by omega) ?_
        refine ps_s_eq0 p113_23 (by omega) (fun c23 => ?_) (fun c23 => ?_)
        · rw [if_neg (by omega)] at ha
          refine ps_s_il p113_41 rfl ?_
          refine ps_s_is2 p113_42 ?_
          refine ps_s_in3 p113_43 ?_
          refine ps_s_go p113_46 ?_
          exact ih _ _ (by omega) ha
        · rw [if_pos (by omega)] at ha
          rw [hav_c, show (docOf aK aL aT i).2 = sl (fun p => aT (8 * i + p)) 0 (aL i) from rfl] at ha
          have htm := tm_le t (sl (fun p => aT (8 * i + p)) 0 (aL i))
          rw [sl_len] at htm
          refine ps_s_al p113_26 rfl ?_
          refine ps_s_il p113_27 rfl ?_
          refine ps_s_il p113_28 rfl ?_
          refine ps_s_vV [_, _] _ p113_29 rfl rf_o rfl rfl rfl (rf_timesOf (by omega) ht (hL _) (fun p _ => hT _) (ps_bki ?_) d (by omega))
          refine ps_s_le0 p113_32 (by omega) (fun c32 => ?_) (fun c32 => ?_)
          · rw [if_neg (by show ¬ 0 < tm t (sl (fun p => aT (8 * i + p)) 0 (aL i)); omega)] at ha
            refine ps_s_il p113_41 rfl ?_
            refine ps_s_is2 p113_42 ?_
            refine ps_s_in3 p113_43 ?_
            refine ps_s_go p113_46 ?_
            exact ih _ _ (by omega) (by omega)
          · rw [if_pos (by show 0 < tm t (sl (fun p => aT (8 * i + p)) 0 (aL i)); omega)] at ha
            refine ps_s_il p113_35 rfl ?_
            refine ps_s_k p113_36 ?_
            first | refine ps_s_add p113_37 ?_ | refine ps_s_2 p113_37 ?_
            refine ps_s_go p113_38 ?_
            refine ps_s_is2 p113_42 ?_
            refine ps_s_in3 p113_43 ?_
            refine ps_s_go p113_46 ?_
            exact ih _ _ (by omega) (by omega)
  refine ps_s_k p113_0 ?_
  refine ps_s_is2 p113_1 ?_
  refine ps_s_k p113_2 ?_
  refine ps_s_is3 p113_3 ?_
  exact loop1 _ _ _ (Nat.zero_add _) (Nat.zero_add _)
theorem rf_writeSegment (hm : G.1 ≤ m) (hall : dc + bf ≤ 200) (hK : ∀ j, aK j < 2147483648) (hL : ∀ j, aL j ≤ 8) (hT : ∀ j, aT j < 16) (hC : ∀ j, aC j ≤ 1) (hr : srt 0 (cho aK aL aT aC 0 (dc + bf))) (hs : (sB (cho aK aL aT aC 0 (dc + bf))).length ≤ 1400)
    (hQ : Q (.inl none) (rf h0 m r0 tw df dc bf cn nn li P ((sB (cho aK aL aT aC 0 (dc + bf))).length) pl aD aK aL aT aS aX aM aC aN (ap aO 0 (sB (cho aK aL aT aC 0 (dc + bf)))) aQ aB aV aH)) : ps_M G 3 111 [.ref m] (rf h0 m r0 tw df dc bf cn nn li P sz pl aD aK aL aT aS aX aM aC aN aO aQ aB aV aH) Q := by
  refine ps_M_in (e111 _) l111 (fun d hd => ?_)
  have hlen := cho_le aK aL aT aC (dc + bf) 0
  have loop3 : ∀ n t b sz aO, t + n = 16 → sz + (tsB (cho aK aL aT aC 0 (dc + bf)) t n).length ≤ 1400 → Q (.inl none) (rf h0 m r0 tw df dc bf cn nn li P (sz + (tsB (cho aK aL aT aC 0 (dc + bf)) t n).length) pl aD aK aL aT aS aX aM aC aN (ap aO sz (tsB (cho aK aL aT aC 0 (dc + bf)) t n)) aQ aB aV aH) → ps_X G d 111 86 [some (.ref m), some (iN b), some (iN t)] [] (rf h0 m r0 tw df dc bf cn nn li P sz pl aD aK aL aT aS aX aM aC aN aO aQ aB aV aH) Q := by
    intro n
    induction n with
    | zero =>
      intro t b sz aO ht hs hQ
      refine ps_s_il p111_86 rfl ?_
      refine ps_s_k p111_87 ?_
      refine ps_s_ge p111_89 (by omega) (by omega) (fun c89 => ?_) (fun c89 => ?_)
      · refine ps_s_rv p111_103 t111 ?_
        rw [show tsB (cho aK aL aT aC 0 (dc + bf)) t 0 = [] from rfl, ap_nil] at hQ
        exact hQ
      · omega
    | succ n ih =>
      intro t b sz aO ht hs hQ
      unfold tsB at hs hQ
      rw [List.length_append] at hs
      rw [← ap_ap, List.length_append, ← Nat.add_assoc] at hQ
      refine ps_s_il p111_86 rfl ?_
      refine ps_s_k p111_87 ?_
      refine ps_s_ge p111_89 (by omega) (by omega) (fun c89 => ?_) (fun c89 => ?_)
      · omega
      · refine ps_s_al p111_92 rfl ?_
        refine ps_s_il p111_93 rfl ?_
        refine ps_s_vV [_] _ p111_94 rfl rf_o rfl rfl rfl (rf_writePostings hm (by omega) hall hL hT hC (by omega) (ps_bkv ?_) d (by omega))
        refine ps_s_in2 p111_97 ?_
        refine ps_s_go p111_100 ?_
        exact ih _ _ _ _ (by omega) (by omega) hQ
  have loop2 : ∀ n i b sz aO, i + n = dc + bf → srt b (cho aK aL aT aC i n) → sz + (kB b (cho aK aL aT aC i n)).length ≤ 1400 → b < 2147483648 → (∀ b', ps_X G d 111 84 [some (.ref m), some (iN b'), some (iN (dc + bf))] [] (rf h0 m r0 tw df dc bf cn nn li P (sz + (kB b (cho aK aL aT aC i n)).length) pl aD aK aL aT aS aX aM aC aN (ap aO sz (kB b (cho aK aL aT aC i n))) aQ aB aV aH) Q) → ps_X G d 111 27 [some (.ref m), some (iN b), some (iN i)] [] (rf h0 m r0 tw df dc bf cn nn li P sz pl aD aK aL aT aS aX aM aC aN aO aQ aB aV aH) Q := by
    intro n
    induction n with
    | zero =>
      intro i b sz aO hi hr hs hb K
      have K2 := K b
      rw [show cho aK aL aT aC i 0 = [] from rfl, show kB b [] = [] from rfl, ap_nil, ← hi] at K2
      refine ps_s_il p111_27 rfl ?_
      refine ps_s_al p111_28 rfl ?_
      refine rf_g_dc p111_29 ?_
      refine ps_s_al p111_32 rfl ?_
      refine rf_g_bf p111_33 ?_
      first | refine ps_s_add p111_36 ?_ | refine ps_s_2 p111_36 ?_
      refine ps_s_ge p111_37 (by omega) (by omega) (fun c37 => ?_) (fun c37 => ?_)
      · exact K2
      · omega
    | succ n ih =>
      intro i b sz aO hi hr hs hb K
      have := hL i
      have := hC i
      have := hK i
      unfold cho at hr hs K
      refine ps_s_il p111_27 rfl ?_
      refine ps_s_al p111_28 rfl ?_
      refine rf_g_dc p111_29 ?_
      refine ps_s_al p111_32 rfl ?_
      refine rf_g_bf p111_33 ?_
      first | refine ps_s_add p111_36 ?_ | refine ps_s_2 p111_36 ?_
      refine ps_s_ge p111_37 (by omega) (by omega) (fun c37 => ?_) (fun c37 => ?_)
      · omega
      · refine ps_s_al p111_40 rfl ?_
        refine rf_g_aC p111_41 ?_
        refine ps_s_il p111_44 rfl ?_
        refine rf_la_aC hm p111_45 (by omega) ?_
        refine ps_s_eq0 p111_46 (by omega) (fun c46 => ?_) (fun c46 => ?_)
        · rw [if_neg (by omega)] at hr hs K
          refine ps_s_in2 p111_78 ?_
          refine ps_s_go p111_81 ?_
          exact ih _ _ _ _ (by omega) hr hs hb K
        · rw [if_pos (by omega)] at hr hs K
          rw [show docOf aK aL aT i = (aK i, sl (fun p => aT (8 * i + p)) 0 (aL i)) from rfl] at hr hs K
          unfold kB at hs K
          unfold srt at hr
          dsimp only at hr hs K
          rw [sl_len] at hs K
          simp only [List.length_append] at hs
          have hr1 : b ≤ aK i := hr.1
          refine ps_s_al p111_49 rfl ?_
          refine ps_s_al p111_50 rfl ?_
          refine rf_g_aK p111_51 ?_
          refine ps_s_il p111_54 rfl ?_
          refine rf_la_aK p111_55 (by omega) ?_
          refine ps_s_il p111_56 rfl ?_
          first | refine ps_s_sub p111_57 (by omega) ?_ | refine ps_s_2 p111_57 ?_
          refine ps_s_vV [_] _ p111_58 rfl rf_o rfl rfl rfl (rf_write hm (by omega) (by omega) (ps_bkv ?_) d (by omega))
          refine ps_s_al p111_61 rfl ?_
          refine rf_g_aK p111_62 ?_
          refine ps_s_il p111_65 rfl ?_
          refine rf_la_aK p111_66 (by omega) ?_
          refine ps_s_is1 p111_67 ?_
          refine ps_s_al p111_68 rfl ?_
          refine ps_s_al p111_69 rfl ?_
          refine rf_g_aL p111_70 ?_
          refine ps_s_il p111_73 rfl ?_
          refine rf_la_aL p111_74 (by omega) ?_
          refine ps_s_vV [_] _ p111_75 rfl rf_o rfl rfl rfl (rf_write hm (by omega) (by omega) (ps_bkv ?_) d (by omega))
          refine ps_s_in2 p111_78 ?_
          refine ps_s_go p111_81 ?_
          refine ih _ _ _ _ (by omega) hr.2 (by omega) (by omega) ?_
          intro b'
          have K2 := K b'
          rw [← ap_ap, ← ap_ap] at K2
          simp only [List.length_append, ← Nat.add_assoc] at K2
          exact K2
  unfold sB at hs hQ
  simp only [List.length_append] at hs
  refine ps_s_al p111_0 rfl ?_
  refine ps_s_k p111_1 ?_
  refine rf_s_sz hm p111_2 ?_
  refine ps_s_al p111_5 rfl ?_
  refine ps_s_al p111_6 rfl ?_
  refine ps_s_k p111_7 ?_
  refine ps_s_al p111_8 rfl ?_
  refine rf_g_dc p111_9 ?_
  refine ps_s_al p111_12 rfl ?_
  refine rf_g_bf p111_13 ?_
  first | refine ps_s_add p111_16 ?_ | refine ps_s_2 p111_16 ?_
  refine ps_s_vV [_, _] _ p111_17 rfl rf_o rfl rfl rfl (rf_chosenMany hm (by omega) hC (ps_bki ?_) d (by omega))
  rw [cho_len aK aL aT]
  refine ps_s_vV [_] _ p111_20 rfl rf_o rfl rfl rfl (rf_write hm (by omega) (by omega) (ps_bkv ?_) d (by omega))
  refine ps_s_k p111_23 ?_
  refine ps_s_is1 p111_24 ?_
  refine ps_s_k p111_25 ?_
  refine ps_s_is2 p111_26 ?_
  refine loop2 _ _ _ _ _ (Nat.zero_add _) hr (by omega) (by omega) ?_
  intro b'
  refine ps_s_k p111_84 ?_
  refine ps_s_is2 p111_85 ?_
  refine loop3 16 _ _ _ _ (by omega) (by omega) ?_
  have hQ2 := hQ
  rw [← ap_ap, ← ap_ap] at hQ2
  simp only [List.length_append, ← Nat.add_assoc, Nat.zero_add] at hQ2 ⊢
  exact hQ2
end RFC
