/-! The reference: a segment is dropped. -/
def dropS (s : Nat) : List pRow → List pRow
  | [] => []
  | r :: A => if r.2.1 = s then dropS s A else (r.1, (if s < r.2.1 then r.2.1 - 1 else r.2.1), r.2.2) :: dropS s A
theorem dropS_c (s : Nat) (r : pRow) (A : List pRow) : dropS s (r :: A) = if r.2.1 = s then dropS s A else (r.1, (if s < r.2.1 then r.2.1 - 1 else r.2.1), r.2.2) :: dropS s A := rfl
def yS (s dc bf : Nat) (f : Nat → pRow) (i : Nat) : List pRow := dropS s (rws f i (dc - i)) ++ rws f (if i < dc then dc else i) (if i < dc then bf else dc + bf - i)
theorem yS_1 {s dc bf : Nat} {f : Nat → pRow} {i : Nat} (h : i < dc) : yS s dc bf f i = if (f i).2.1 = s then yS s dc bf f (i + 1) else ((f i).1, (if s < (f i).2.1 then (f i).2.1 - 1 else (f i).2.1), (f i).2.2) :: yS s dc bf f (i + 1) := by
  have e : rws f (if i + 1 < dc then dc else i + 1) (if i + 1 < dc then bf else dc + bf - (i + 1)) = rws f dc bf := by
    by_cases h2 : i + 1 < dc
    · rw [if_pos h2, if_pos h2]
    · rw [if_neg h2, if_neg h2, show i + 1 = dc by omega, show dc + bf - dc = bf by omega]
  unfold yS
  rw [if_pos h, if_pos h, e, show dc - i = (dc - (i + 1)) + 1 by omega, rws_s, dropS_c]
  split
  · rfl
  · rfl
theorem yS_2 {s dc bf : Nat} {f : Nat → pRow} {i : Nat} (h : dc ≤ i) (h2 : i < dc + bf) : yS s dc bf f i = f i :: yS s dc bf f (i + 1) := by
  unfold yS
  rw [if_neg (by omega), if_neg (by omega), if_neg (by omega), if_neg (by omega), show dc - i = 0 by omega, show dc - (i + 1) = 0 by omega, show dc + bf - i = (dc + bf - (i + 1)) + 1 by omega, rws_s]
  rfl
theorem yS_e {s dc bf : Nat} {f : Nat → pRow} : yS s dc bf f (dc + bf) = [] := by
  unfold yS
  rw [if_neg (by omega), if_neg (by omega), show dc - (dc + bf) = 0 by omega, show dc + bf - (dc + bf) = 0 by omega]
  rfl
theorem yS_0 {s dc bf : Nat} {f : Nat → pRow} : yS s dc bf f 0 = dropS s (rws f 0 dc) ++ rws f dc bf := by
  unfold yS
  by_cases h : 0 < dc
  · rw [if_pos h, if_pos h]; rfl
  · rw [if_neg h, if_neg h, show dc = 0 by omega, Nat.zero_add]; rfl
theorem yS_up {s dc bf : Nat} {f : Nat → pRow} {x : pRow} {i k : Nat} (h : k < i) : yS s dc bf (va_up f k x) i = yS s dc bf f i := by
  unfold yS
  rw [rws_up_ge h, rws_up_ge (by split <;> omega)]
theorem dropS_le (s : Nat) (A : List pRow) : (dropS s A).length ≤ A.length := by
  induction A with
  | nil => exact Nat.le_refl _
  | cons r A ih => rw [dropS_c, List.length_cons]; split
                   · omega
                   · rw [List.length_cons]; omega
def shN (f : Nat → Nat) (s k : Nat) : Nat → Nat := fun j => if s ≤ j ∧ j < k then f (j + 1) else f j
theorem shN_up {f : Nat → Nat} {s k : Nat} (h : s ≤ k) : va_up (shN f s k) k (shN f s k (k + 1)) = shN f s (k + 1) := by
  funext j
  unfold va_up shN
  by_cases h1 : j = k
  · subst h1
    rw [if_pos rfl, if_neg (by omega), if_pos (by omega)]
  · rw [if_neg h1]
    by_cases h2 : s ≤ j ∧ j < k
    · rw [if_pos h2, if_pos (by omega)]
    · rw [if_neg h2, if_neg (by omega)]
section RFF
variable {h0 : pm_S} {m r0 tw df dc bf cn nn li sz pl : Nat} {P : Int32} {aD aK aL aT aS aX aM aC aN aO aQ aB aV aH : Nat → Nat} {G : pm_G} {Q : pm_Q}
theorem rf_dropSegment (hm : G.1 ≤ m) {s : Nat} (hs : s < cn) (hcn : cn ≤ 11) (hall : dc + bf ≤ 200) (hbd : bd aK aL aT aS aX aM) (hN : ∀ j, aN j < 1000)
    (hQ : ∀ (aK' aL' aT' aS' aX' aM' : Nat → Nat) (dc' : Nat), bd aK' aL' aT' aS' aX' aM' → rws (rowOf aK' aL' aT' aS' aX' aM') 0 dc' = dropS s (rws (rowOf aK aL aT aS aX aM) 0 dc) → rws (rowOf aK' aL' aT' aS' aX' aM') dc' bf = rws (rowOf aK aL aT aS aX aM) dc bf → dc' ≤ dc → Q (.inl none) (rf h0 m r0 tw df (dc') bf (cn - 1) nn li P sz pl aD (aK') (aL') (aT') (aS') (aX') (aM') aC (shN aN s (cn - 1)) aO aQ aB aV aH)) : ps_M G 2 121 [.ref m, iN s] (rf h0 m r0 tw df dc bf cn nn li P sz pl aD aK aL aT aS aX aM aC aN aO aQ aB aV aH) Q := by
  refine ps_M_in (e121 _ _) l121 (fun d hd => ?_)
  have loop2 : ∀ n k a2 a3 a4 u6 u7 (aK' aL' aT' aS' aX' aM' : Nat → Nat) (dc' : Nat), k + n = cn - 1 → s ≤ k → Q (.inl none) (rf h0 m r0 tw df (dc') bf (cn - 1) nn li P sz pl aD (aK') (aL') (aT') (aS') (aX') (aM') aC (shN aN s (cn - 1)) aO aQ aB aV aH) → ps_X G d 121 166 [some (.ref m), some (iN s), some (iN a2), some (iN a3), some (iN a4), some (iN k), u6, u7] [] (rf h0 m r0 tw df (dc') bf (cn - 1) nn li P sz pl aD (aK') (aL') (aT') (aS') (aX') (aM') aC (shN aN s k) aO aQ aB aV aH) Q := by
    intro n
    induction n with
    | zero =>
      intro k a2 a3 a4 u6 u7 aK' aL' aT' aS' aX' aM' dc' hk hsk hQ
      refine ps_s_il p121_166 rfl ?_
      refine ps_s_al p121_168 rfl ?_
      refine rf_g_cn p121_169 ?_
      refine ps_s_ge p121_172 (by omega) (by omega) (fun c172 => ?_) (fun c172 => ?_)
      · refine ps_s_rv p121_197 t121 ?_
        rw [show k = cn - 1 by omega]
        exact hQ
      · omega
    | succ n ih =>
      intro k a2 a3 a4 u6 u7 aK' aL' aT' aS' aX' aM' dc' hk hsk hQ
      refine ps_s_il p121_166 rfl ?_
      refine ps_s_al p121_168 rfl ?_
      refine rf_g_cn p121_169 ?_
      refine ps_s_ge p121_172 (by omega) (by omega) (fun c172 => ?_) (fun c172 => ?_)
      · omega
      · refine ps_s_al p121_175 rfl ?_
        refine rf_g_aN p121_176 ?_
        refine ps_s_il p121_179 rfl ?_
        refine ps_s_al p121_181 rfl ?_
        refine rf_g_aN p121_182 ?_
        refine ps_s_il p121_185 rfl ?_
        refine ps_s_k p121_187 ?_
        first | refine ps_s_add p121_188 ?_ | refine ps_s_2 p121_188 ?_
        refine rf_la_aN p121_189 (by omega) ?_
        refine rf_sa_aN hm p121_190 (by omega) ?_
        refine ps_s_in5 p121_191 ?_
        refine ps_s_go p121_194 ?_
        rw [shN_up hsk]
        exact ih _ _ _ _ _ _ _ _ _ _ _ _ _ (by omega) (by omega) hQ
  have tail : ∀ i to lf lt (aK aL aT aS aX aM : Nat → Nat), i < dc + bf → to ≤ i → bd aK aL aT aS aX aM → lt ≤ 1 → (lt = 1 → 1 ≤ aS i) → lf ≤ i →
      (∀ aK' aL' aT' aS' aX' aM' : Nat → Nat, bd aK' aL' aT' aS' aX' aM' → rowOf aK' aL' aT' aS' aX' aM' = va_up (rowOf aK aL aT aS aX aM) to (docOf aK aL aT i, (if lt = 1 then aS i - 1 else aS i), aX i, aM i) → ps_X G d 121 18 [some (.ref m), some (iN s), some (iN (to + 1)), some (iN (dc + bf)), some (iN (if i < dc then lf + 1 else lf)), some (iN (i + 1)), some (iN 0), some (iN lt)] [] (rf h0 m r0 tw df dc bf cn nn li P sz pl aD (aK') (aL') (aT') (aS') (aX') (aM') aC aN aO aQ aB aV aH) Q) →
      ps_X G d 121 83 [some (.ref m), some (iN s), some (iN to), some (iN (dc + bf)), some (iN lf), some (iN i), some (iN 0), some (iN lt)] [] (rf h0 m r0 tw df dc bf cn nn li P sz pl aD aK aL aT aS aX aM aC aN aO aQ aB aV aH) Q := by
    intro i to lf lt aK aL aT aS aX aM hi hto hbd hlt hlt1 hlf K
    refine ps_s_al p121_83 rfl ?_
    refine ps_s_il p121_84 rfl ?_
    refine ps_s_il p121_86 rfl ?_
    refine ps_s_vV [_, _] _ p121_87 rfl rf_o rfl rfl rfl (rf_move hm (by omega) (by omega) hbd (fun aK' aL' aT' aS' aX' aM' hb' hr' => ps_bkv ?_) d (by omega))
    have e := congrFun hr' to
    rw [va_up_at] at e
    have e2 : aS' to = aS i := congrArg (fun r : pRow => r.2.1) e
    have hfin : ∀ v, v < 16 → v = (if lt = 1 then aS i - 1 else aS i) → ps_X G d 121 118 [some (.ref m), some (iN s), some (iN to), some (iN (dc + bf)), some (iN lf), some (iN i), some (iN 0), some (iN lt)] [] (rf h0 m r0 tw df dc bf cn nn li P sz pl aD (aK') (aL') (aT') (va_up aS' to v) (aX') (aM') aC aN aO aQ aB aV aH) Q := by
      intro v hv hve
      have K2 := K aK' aL' aT' (va_up aS' to v) aX' aM' ⟨hb'.1, hb'.2.1, hb'.2.2.1, up_lt hb'.2.2.2.1 hv, hb'.2.2.2.2⟩ (by
        rw [row_S, hr', va_up_up]
        have e3 : docOf aK' aL' aT' to = docOf aK aL aT i := congrArg (fun r : pRow => r.1) e
        have e4 : aX' to = aX i := congrArg (fun r : pRow => r.2.2.1) e
        have e5 : aM' to = aM i := congrArg (fun r : pRow => r.2.2.2) e
        rw [e3, e4, e5, hve])
      refine ps_s_in2 p121_118 ?_
      refine ps_s_il p121_121 rfl ?_
      refine ps_s_al p121_123 rfl ?_
      refine rf_g_dc p121_124 ?_
      refine ps_s_ge p121_127 (by omega) (by omega) (fun c127 => ?_) (fun c127 => ?_)
      · refine ps_s_il p121_137 rfl ?_
        refine ps_s_is4 p121_139 ?_
        refine ps_s_in5 p121_141 ?_
        refine ps_s_go p121_144 ?_
        rw [if_neg (by omega)] at K2
        exact K2
      · refine ps_s_il p121_130 rfl ?_
        refine ps_s_k p121_132 ?_
        first | refine ps_s_add p121_133 ?_ | refine ps_s_2 p121_133 ?_
        refine ps_s_go p121_134 ?_
        refine ps_s_is4 p121_139 ?_
        refine ps_s_in5 p121_141 ?_
        refine ps_s_go p121_144 ?_
        rw [if_pos (by omega)] at K2
        exact K2
    have h16 := hbd.2.2.2.1 i
    refine ps_s_al p121_90 rfl ?_
    refine rf_g_aS p121_91 ?_
    refine ps_s_il p121_94 rfl ?_
    refine ps_s_il p121_95 rfl ?_
    refine ps_s_eq0 p121_97 (by omega) (fun c97 => ?_) (fun c97 => ?_)
    · refine ps_s_al p121_111 rfl ?_
      refine rf_g_aS p121_112 ?_
      refine ps_s_il p121_115 rfl ?_
      refine rf_la_aS p121_116 (by omega) ?_
      refine rf_sa_aS hm p121_117 (by omega) ?_
      exact hfin _ (by omega) (by rw [if_neg (by omega), e2])
    · have := hlt1 (by omega)
      refine ps_s_al p121_100 rfl ?_
      refine rf_g_aS p121_101 ?_
      refine ps_s_il p121_104 rfl ?_
      refine rf_la_aS p121_105 (by omega) ?_
      refine ps_s_k p121_106 ?_
      first | refine ps_s_sub p121_107 (by omega) ?_ | refine ps_s_2 p121_107 ?_
      refine ps_s_go p121_108 ?_
      refine rf_sa_aS hm p121_117 (by omega) ?_
      exact hfin _ (by omega) (by rw [if_pos (by omega), e2])
  have loop : ∀ n i to lf (aK' aL' aT' aS' aX' aM' : Nat → Nat) u6 u7, i + n = dc + bf → to ≤ i → lf ≤ i → bd aK' aL' aT' aS' aX' aM' → rws (rowOf aK' aL' aT' aS' aX' aM') 0 to ++ yS s dc bf (rowOf aK' aL' aT' aS' aX' aM') i = dropS s (rws (rowOf aK aL aT aS aX aM) 0 dc) ++ rws (rowOf aK aL aT aS aX aM) dc bf → lf + (dropS s (rws (rowOf aK' aL' aT' aS' aX' aM') i (dc - i))).length = (dropS s (rws (rowOf aK aL aT aS aX aM) 0 dc)).length →
      ps_X G d 121 18 [some (.ref m), some (iN s), some (iN to), some (iN (dc + bf)), some (iN lf), some (iN i), u6, u7] [] (rf h0 m r0 tw df dc bf cn nn li P sz pl aD (aK') (aL') (aT') (aS') (aX') (aM') aC aN aO aQ aB aV aH) Q := by
    intro n
    induction n with
    | zero =>
      intro i to lf aK' aL' aT' aS' aX' aM' u6 u7 hi hto hlf hb' hT hl
      have hi' : i = dc + bf := by omega
      rw [hi', yS_e, List.append_nil] at hT
      rw [show dc - i = 0 by omega, show dropS s (rws (rowOf aK' aL' aT' aS' aX' aM') i 0) = [] from rfl, List.length_nil, Nat.add_zero] at hl
      have hlen := congrArg List.length hT
      rw [List.length_append, rws_len, rws_len, ← hl] at hlen
      rw [hlen, rws_app] at hT
      obtain ⟨q1, q2⟩ := List.append_inj hT (by rw [rws_len, hl])
      have hle : lf ≤ dc := by
        have := dropS_le s (rws (rowOf aK aL aT aS aX aM) 0 dc)
        rw [rws_len] at this
        omega
      rw [Nat.zero_add] at q2
      have hQ2 := hQ aK' aL' aT' aS' aX' aM' lf hb' q1 q2 hle
      refine ps_s_il p121_18 rfl ?_
      refine ps_s_il p121_20 rfl ?_
      refine ps_s_ge p121_21 (by omega) (by omega) (fun c21 => ?_) (fun c21 => ?_)
      · refine ps_s_al p121_147 rfl ?_
        refine ps_s_il p121_148 rfl ?_
        refine rf_s_dc hm p121_150 ?_
        refine ps_s_al p121_153 rfl ?_
        refine ps_s_dup p121_154 rfl ?_
        refine rf_g_cn p121_155 ?_
        refine ps_s_k p121_158 ?_
        first | refine ps_s_sub p121_159 (by omega) ?_ | refine ps_s_2 p121_159 ?_
        refine rf_s_cn hm p121_160 ?_
        refine ps_s_il p121_163 rfl ?_
        refine ps_s_is5 p121_164 ?_
        have := loop2 (cn - 1 - s) s to (dc + bf) lf u6 u7 aK' aL' aT' aS' aX' aM' lf (by omega) (Nat.le_refl _) hQ2
        rw [show shN aN s s = aN from funext fun j => if_neg (by omega)] at this
        exact this
      · omega
    | succ n ih =>
      intro i to lf aK' aL' aT' aS' aX' aM' u6 u7 hi hto hlf hb' hT hl
      have h16 := hb'.2.2.2.1 i
      have fin : ∀ lt (aK2 aL2 aT2 aS2 aX2 aM2 : Nat → Nat) (x : pRow), bd aK2 aL2 aT2 aS2 aX2 aM2 → rowOf aK2 aL2 aT2 aS2 aX2 aM2 = va_up (rowOf aK' aL' aT' aS' aX' aM') to x → yS s dc bf (rowOf aK' aL' aT' aS' aX' aM') i = x :: yS s dc bf (rowOf aK' aL' aT' aS' aX' aM') (i + 1) → (dropS s (rws (rowOf aK' aL' aT' aS' aX' aM') i (dc - i))).length = (if i < dc then 1 else 0) + (dropS s (rws (rowOf aK' aL' aT' aS' aX' aM') (i + 1) (dc - (i + 1)))).length →
          ps_X G d 121 18 [some (.ref m), some (iN s), some (iN (to + 1)), some (iN (dc + bf)), some (iN (if i < dc then lf + 1 else lf)), some (iN (i + 1)), some (iN 0), some (iN lt)] [] (rf h0 m r0 tw df dc bf cn nn li P sz pl aD (aK2) (aL2) (aT2) (aS2) (aX2) (aM2) aC aN aO aQ aB aV aH) Q := by
        intro lt aK2 aL2 aT2 aS2 aX2 aM2 x hb2 hr2 hy hd
        refine ih _ _ _ _ _ _ _ _ _ _ _ (by omega) (by omega) (by split <;> omega) hb2 ?_ ?_
        · rw [← hT, hr2, rws_up_snoc, yS_up (by omega), hy, List.append_assoc]
          rfl
        · rw [← hl, hd, hr2, rws_up_ge (by omega)]
          split <;> omega
      refine ps_s_il p121_18 rfl ?_
      refine ps_s_il p121_20 rfl ?_
      refine ps_s_ge p121_21 (by omega) (by omega) (fun c21 => ?_) (fun c21 => ?_)
      · omega
      · refine ps_s_il p121_24 rfl ?_
        refine ps_s_al p121_26 rfl ?_
        refine rf_g_dc p121_27 ?_
        refine ps_s_ge p121_30 (by omega) (by omega) (fun c30 => ?_) (fun c30 => ?_)
        · refine ps_s_k p121_48 ?_
          refine ps_s_is6 p121_49 ?_
          refine ps_s_il p121_51 rfl ?_
          refine ps_s_ne0 p121_53 (by omega) (fun c53 => ?_) (fun c53 => ?_)
          · omega
          · refine ps_s_il p121_56 rfl ?_
            refine ps_s_al p121_58 rfl ?_
            refine rf_g_dc p121_59 ?_
            refine ps_s_ge p121_62 (by omega) (by omega) (fun c62 => ?_) (fun c62 => ?_)
            · refine ps_s_k p121_80 ?_
              refine ps_s_is7 p121_81 ?_
              refine tail _ _ _ _ _ _ _ _ _ _ (by omega) hto hb' (by omega) (fun h => by omega) hlf ?_
              intro aK2 aL2 aT2 aS2 aX2 aM2 hb2 hr2
              rw [if_neg (by omega)] at hr2
              refine fin _ _ _ _ _ _ _ _ hb2 hr2 (yS_2 (by omega) (by omega)) ?_
              rw [if_neg (by omega), show dc - i = 0 by omega, show dc - (i + 1) = 0 by omega]
              rfl
            · omega
        · refine ps_s_al p121_33 rfl ?_
          refine rf_g_aS p121_34 ?_
          refine ps_s_il p121_37 rfl ?_
          refine rf_la_aS p121_39 (by omega) ?_
          refine ps_s_il p121_40 rfl ?_
          refine ps_s_ne p121_41 (by omega) (by omega) (fun c41 => ?_) (fun c41 => ?_)
          · refine ps_s_k p121_48 ?_
            refine ps_s_is6 p121_49 ?_
            refine ps_s_il p121_51 rfl ?_
            refine ps_s_ne0 p121_53 (by omega) (fun c53 => ?_) (fun c53 => ?_)
            · omega
            · have hdr : dropS s (rws (rowOf aK' aL' aT' aS' aX' aM') i (dc - i)) = (docOf aK' aL' aT' i, (if s < aS' i then aS' i - 1 else aS' i), aX' i, aM' i) :: dropS s (rws (rowOf aK' aL' aT' aS' aX' aM') (i + 1) (dc - (i + 1))) := by
                rw [show dc - i = (dc - (i + 1)) + 1 by omega, rws_s, dropS_c]
                exact if_neg (by exact c41)
              have hy : yS s dc bf (rowOf aK' aL' aT' aS' aX' aM') i = (docOf aK' aL' aT' i, (if s < aS' i then aS' i - 1 else aS' i), aX' i, aM' i) :: yS s dc bf (rowOf aK' aL' aT' aS' aX' aM') (i + 1) := by
                rw [yS_1 (by omega)]
                exact if_neg (by exact c41)
              refine ps_s_il p121_56 rfl ?_
              refine ps_s_al p121_58 rfl ?_
              refine rf_g_dc p121_59 ?_
              refine ps_s_ge p121_62 (by omega) (by omega) (fun c62 => ?_) (fun c62 => ?_)
              · omega
              · refine ps_s_al p121_65 rfl ?_
                refine rf_g_aS p121_66 ?_
                refine ps_s_il p121_69 rfl ?_
                refine rf_la_aS p121_71 (by omega) ?_
                refine ps_s_il p121_72 rfl ?_
                refine ps_s_le p121_73 (by omega) (by omega) (fun c73 => ?_) (fun c73 => ?_)
                · refine ps_s_k p121_80 ?_
                  refine ps_s_is7 p121_81 ?_
                  refine tail _ _ _ _ _ _ _ _ _ _ (by omega) hto hb' (by omega) (fun h => by omega) hlf ?_
                  intro aK2 aL2 aT2 aS2 aX2 aM2 hb2 hr2
                  rw [if_neg (by omega)] at hr2
                  rw [if_neg (show ¬ s < aS' i by omega)] at hdr hy
                  refine fin _ _ _ _ _ _ _ _ hb2 hr2 hy ?_
                  rw [if_pos (by omega), hdr, List.length_cons, Nat.add_comm]
                · refine ps_s_k p121_76 ?_
                  refine ps_s_go p121_77 ?_
                  refine ps_s_is7 p121_81 ?_
                  refine tail _ _ _ _ _ _ _ _ _ _ (by omega) hto hb' (by omega) (fun h => by omega) hlf ?_
                  intro aK2 aL2 aT2 aS2 aX2 aM2 hb2 hr2
                  rw [if_pos rfl] at hr2
                  rw [if_pos (show s < aS' i by omega)] at hdr hy
                  refine fin _ _ _ _ _ _ _ _ hb2 hr2 hy ?_
                  rw [if_pos (by omega), hdr, List.length_cons, Nat.add_comm]
          · refine ps_s_k p121_44 ?_
            refine ps_s_go p121_45 ?_
            refine ps_s_is6 p121_49 ?_
            refine ps_s_il p121_51 rfl ?_
            refine ps_s_ne0 p121_53 (by omega) (fun c53 => ?_) (fun c53 => ?_)
            · refine ps_s_in5 p121_141 ?_
              refine ps_s_go p121_144 ?_
              refine ih _ _ _ _ _ _ _ _ _ _ _ (by omega) (by omega) (by omega) hb' ?_ ?_
              · rw [← hT, yS_1 (i := i) (by omega), if_pos (show (rowOf aK' aL' aT' aS' aX' aM' i).2.1 = s from Decidable.not_not.mp c41)]
              · rw [← hl, show dc - i = (dc - (i + 1)) + 1 by omega, rws_s, dropS_c, if_pos (show (rowOf aK' aL' aT' aS' aX' aM' i).2.1 = s from Decidable.not_not.mp c41)]
            · omega
  refine ps_s_k p121_0 ?_
  refine ps_s_is2 p121_1 ?_
  refine ps_s_al p121_2 rfl ?_
  refine rf_g_dc p121_3 ?_
  refine ps_s_al p121_6 rfl ?_
  refine rf_g_bf p121_7 ?_
  first | refine ps_s_add p121_10 ?_ | refine ps_s_2 p121_10 ?_
  refine ps_s_is3 p121_11 ?_
  refine ps_s_k p121_12 ?_
  refine ps_s_is4 p121_13 ?_
  refine ps_s_k p121_15 ?_
  refine ps_s_is5 p121_16 ?_
  exact loop (dc + bf) 0 0 0 aK aL aT aS aX aM _ _ (by omega) (by omega) (by omega) hbd (by rw [yS_0]; rfl) (by rw [Nat.sub_zero, Nat.zero_add])
end RFF
