/-! The reference: what a merge leaves. -/
def yF (u : pRow → Option pRow) (dc bf : Nat) (f : Nat → pRow) (i : Nat) : List pRow := (rws f i (dc - i)).filterMap u ++ rws f (if i < dc then dc else i) (if i < dc then bf else dc + bf - i)
theorem yF_1 {u : pRow → Option pRow} {dc bf : Nat} {f : Nat → pRow} {i : Nat} (h : i < dc) : yF u dc bf f i = (u (f i)).toList ++ yF u dc bf f (i + 1) := by
  have e : rws f (if i + 1 < dc then dc else i + 1) (if i + 1 < dc then bf else dc + bf - (i + 1)) = rws f dc bf := by
    by_cases h2 : i + 1 < dc
    · rw [if_pos h2, if_pos h2]
    · rw [if_neg h2, if_neg h2, show i + 1 = dc by omega, show dc + bf - dc = bf by omega]
  unfold yF
  rw [if_pos h, if_pos h, e, show dc - i = (dc - (i + 1)) + 1 by omega, rws_s, List.filterMap_cons]
  cases u (f i) <;> rfl
theorem yF_2 {u : pRow → Option pRow} {dc bf : Nat} {f : Nat → pRow} {i : Nat} (h : dc ≤ i) (h2 : i < dc + bf) : yF u dc bf f i = f i :: yF u dc bf f (i + 1) := by
  unfold yF
  rw [if_neg (by omega), if_neg (by omega), if_neg (by omega), if_neg (by omega), show dc - i = 0 by omega, show dc - (i + 1) = 0 by omega, show dc + bf - i = (dc + bf - (i + 1)) + 1 by omega, rws_s]
  rfl
theorem yF_e {u : pRow → Option pRow} {dc bf : Nat} {f : Nat → pRow} : yF u dc bf f (dc + bf) = [] := by
  unfold yF
  rw [if_neg (by omega), if_neg (by omega), show dc - (dc + bf) = 0 by omega, show dc + bf - (dc + bf) = 0 by omega]
  rfl
theorem yF_0 {u : pRow → Option pRow} {dc bf : Nat} {f : Nat → pRow} : yF u dc bf f 0 = (rws f 0 dc).filterMap u ++ rws f dc bf := by
  unfold yF
  by_cases h : 0 < dc
  · rw [if_pos h, if_pos h]; rfl
  · rw [if_neg h, if_neg h, show dc = 0 by omega, Nat.zero_add]; rfl
theorem yF_up {u : pRow → Option pRow} {dc bf : Nat} {f : Nat → pRow} {x : pRow} {i k : Nat} (h : k < i) : yF u dc bf (va_up f k x) i = yF u dc bf f i := by
  unfold yF
  rw [rws_up_ge h, rws_up_ge (by split <;> omega)]
def uJ (i j : Nat) (r : pRow) : Option pRow := if i ≤ r.2.1 ∧ r.2.1 ≤ j then (if r.2.2.1 = 1 then none else some (r.1, i, r.2.2)) else some r
/-- the documents of these segments that are not dead -/
def mrg (M : List pG) : List pD := (M.flatMap (·.2)).filter (fun x => !decide (x.2.1 = 1))
theorem uJ_out {i j : Nat} {k : Nat} (h : k < i ∨ j < k) (g : List pD) : (g.map (tag k)).filterMap (uJ i j) = g.map (tag k) := by
  induction g with
  | nil => rfl
  | cons x g ih =>
    rw [List.map_cons, List.filterMap_cons, ih]
    have : uJ i j (tag k x) = some (tag k x) := by unfold uJ; exact if_neg (by show ¬ (i ≤ k ∧ k ≤ j); omega)
    rw [this]
theorem uJ_in {i j : Nat} {k : Nat} (h : i ≤ k ∧ k ≤ j) (g : List pD) : (g.map (tag k)).filterMap (uJ i j) = (g.filter (fun x => !decide (x.2.1 = 1))).map (tag i) := by
  induction g with
  | nil => rfl
  | cons x g ih =>
    rw [List.map_cons, List.filterMap_cons, ih]
    have : uJ i j (tag k x) = if x.2.1 = 1 then none else some (tag i x) := by unfold uJ; exact if_pos h
    rw [this]
    by_cases hx : x.2.1 = 1
    · rw [if_pos hx, List.filter_cons, if_neg (by rw [decide_eq_true hx]; decide)]
    · rw [if_neg hx, List.filter_cons, if_pos (by rw [decide_eq_false hx]; decide)]; rfl
theorem uJ_fl_out {i j : Nat} : ∀ (r : List (List pD)) (k : Nat), (k + r.length ≤ i ∨ j < k) → (flat k r).filterMap (uJ i j) = flat k r := by
  intro r
  induction r with
  | nil => intro k _; rfl
  | cons g r ih =>
    intro k h
    rw [List.length_cons] at h
    rw [flat_c, List.filterMap_append, uJ_out (by omega), ih (k + 1) (by omega)]
theorem uJ_fl_in {i j : Nat} : ∀ (M : List pG) (k : Nat), i ≤ k → k + M.length ≤ j + 1 → (flat k (M.map (·.2))).filterMap (uJ i j) = (mrg M).map (tag i) := by
  intro M
  induction M with
  | nil => intro k _ _; rfl
  | cons g M ih =>
    intro k h1 h2
    rw [List.length_cons] at h2
    rw [List.map_cons, flat_c, List.filterMap_append, uJ_in (by omega), ih (k + 1) (by omega) (by omega)]
    unfold mrg
    rw [List.flatMap_cons, List.filter_append, List.map_append]
theorem flat_emp : ∀ (E : List pG) (r : List (List pD)) (k : Nat), flat k ((E.map (fun g => (g.1, ([] : List pD)))).map (·.2) ++ r) = flat (k + E.length) r := by
  intro E
  induction E with
  | nil => intro r k; rfl
  | cons e E ih => intro r k; rw [List.map_cons, List.map_cons, List.cons_append, flat_c, ih, List.length_cons, show k + 1 + E.length = k + (E.length + 1) by omega]; rfl
theorem join_rows {L M R : List pG} {i j : Nat} (hL : L.length = i) (g : pG) (hM : i + (g :: M).length = j + 1) : (flat 0 ((L ++ ((g :: M) ++ R)).map (·.2))).filterMap (uJ i j) = flat 0 ((L ++ ((g.1, mrg (g :: M)) :: (M.map (fun g => (g.1, ([] : List pD))) ++ R))).map (·.2)) := by
  rw [List.map_append, List.map_append, flat_app, flat_app, List.filterMap_append, List.filterMap_append, uJ_fl_out _ _ (by rw [List.length_map]; omega), Nat.zero_add, List.length_map, List.length_map, hL, uJ_fl_in _ _ (by omega) (by omega), uJ_fl_out _ _ (by omega)]
  rw [List.map_append, flat_app, Nat.zero_add, List.length_map, hL, List.map_cons, flat_c, List.map_append, flat_emp]
  rw [show i + 1 + M.length = i + (g :: M).length by rw [List.length_cons]; omega]
section RFH
variable {h0 : pm_S} {m r0 tw df dc bf cn nn li sz pl : Nat} {P : Int32} {aD aK aL aT aS aX aM aC aN aO aQ aB aV aH : Nat → Nat} {G : pm_G} {Q : pm_Q}
theorem rf_join (hm : G.1 ≤ m) {L M R : List pG} {g : pG} {i j sm : Nat} (hr : rS (L ++ ((g :: M) ++ R)) dc cn aK aL aT aS aX aM aN) (hL : L.length = i) (hM : i + (g :: M).length = j + 1) (hj : j < cn) (hsm : sm ≤ 1) (hcn : cn ≤ 10) (hall : dc + bf ≤ 200) (hnn : nn < 999)
    (hQ : ∀ (aK' aL' aT' aS' aX' aM' aN' : Nat → Nat) (dc' cn' : Nat), rS (L ++ ((if sm = 1 then [(nn, mrg (g :: M))] else []) ++ R)) dc' cn' aK' aL' aT' aS' aX' aM' aN' → rws (rowOf aK' aL' aT' aS' aX' aM') dc' bf = rws (rowOf aK aL aT aS aX aM) dc bf → dc' ≤ dc → Q (.inl none) (rf h0 m r0 tw df (dc') bf (cn') (if sm = 1 then nn + 1 else nn) (1) P sz pl aD (aK') (aL') (aT') (aS') (aX') (aM') aC (aN') aO aQ aB aV aH)) : ps_M G 3 123 [.ref m, iN i, iN j, iN sm] (rf h0 m r0 tw df dc bf cn nn li P sz pl aD aK aL aT aS aX aM aC aN aO aQ aB aV aH) Q := by
  refine ps_M_in (e123 _ _ _ _) l123 (fun d hd => ?_)
  have hij : i ≤ j := by rw [List.length_cons] at hM; omega
  have loop2 : ∀ k (E : List pG) (aK' aL' aT' aS' aX' aM' aN' : Nat → Nat) dc' cn' u4 u5 u6 u8, E.length = k → rS (L ++ (g.1, mrg (g :: M)) :: (E ++ R)) dc' cn' aK' aL' aT' aS' aX' aM' aN' → rws (rowOf aK' aL' aT' aS' aX' aM') dc' bf = rws (rowOf aK aL aT aS aX aM) dc bf → dc' ≤ dc → cn' ≤ 10 → i + k < 200 →
      ps_X G d 123 154 [some (.ref m), some (iN i), some (iN j), some (iN sm), u4, u5, u6, some (iN (i + k)), u8] [] (rf h0 m r0 tw df (dc') bf (cn') nn (1) P sz pl aD (aK') (aL') (aT') (aS') (aX') (aM') aC (aN') aO aQ aB aV aH) Q := by
    intro k
    induction k with
    | zero =>
      intro E aK' aL' aT' aS' aX' aM' aN' dc' cn' u4 u5 u6 u8 hE hr hB hdc hcn hik
      rw [List.length_eq_zero_iff.mp hE, List.nil_append] at hr
      have hcl := hr.2.2.2.1
      rw [List.length_append, List.length_cons, hL] at hcl
      refine ps_s_il p123_154 rfl ?_
      refine ps_s_il p123_156 rfl ?_
      refine ps_s_le p123_157 (by omega) (by omega) (fun c157 => ?_) (fun c157 => ?_)
      · refine ps_s_il p123_172 rfl ?_
        refine ps_s_eq0 p123_173 (by omega) (fun c173 => ?_) (fun c173 => ?_)
        · rw [if_neg (by omega)] at hQ
          refine ps_s_al p123_199 rfl ?_
          refine ps_s_il p123_200 rfl ?_
          refine ps_s_vV [_] _ p123_201 rfl rf_o rfl rfl rfl (rf_dropSeg hm hr (by rw [List.length_append, List.length_cons]; omega) (by omega) (by omega) (fun a1 a2 a3 a4 a5 a6 a7 a8 a9 q1 q2 q3 q4 => ps_bkv ?_) d (by omega))
          refine ps_s_rv p123_204 t123 ?_
          have e := er_mid L R (g.1, mrg (g :: M))
          rw [hL] at e
          rw [e] at q1
          have := hQ _ _ _ _ _ _ _ _ _ q1 (q2.trans hB) (by omega)
          rw [if_neg (by omega)] at this
          exact this
        · rw [if_pos (by omega)] at hQ
          refine ps_s_al p123_176 rfl ?_
          refine rf_g_aN p123_177 ?_
          refine ps_s_il p123_180 rfl ?_
          refine ps_s_al p123_181 rfl ?_
          refine rf_g_nn p123_182 ?_
          refine rf_sa_aN hm p123_185 (by omega) ?_
          refine ps_s_al p123_186 rfl ?_
          refine ps_s_dup p123_187 rfl ?_
          refine rf_g_nn p123_188 ?_
          refine ps_s_k p123_191 ?_
          first | refine ps_s_add p123_192 ?_ | refine ps_s_2 p123_192 ?_
          refine rf_s_nn hm p123_193 ?_
          refine ps_s_go p123_196 ?_
          refine ps_s_rv p123_204 t123 ?_
          have := hQ aK' aL' aT' aS' aX' aM' (va_up aN' i nn) dc' cn' ⟨hr.1, up_lt hr.2.1 (by omega), ?_, ?_, ?_⟩ hB hdc
          · rw [if_pos (by omega)] at this
            exact this
          · rw [hr.2.2.1, List.map_append, List.map_append]; rfl
          · rw [hcl, List.length_append, List.length_append, hL]; simp; omega
          · have hsl : sl aN' 0 cn' = sl aN' 0 i ++ aN' i :: sl aN' (i + 1) R.length := by
              rw [show cn' = i + (R.length + 1) by omega, sl_app, Nat.zero_add]; rfl
            have hsl2 : sl (va_up aN' i nn) 0 cn' = sl aN' 0 i ++ nn :: sl aN' (i + 1) R.length := by
              rw [show cn' = i + (R.length + 1) by omega, sl_app, Nat.zero_add, sl_congr (g := aN') i 0 (fun j _ h => va_upn _ _ (by omega)), sl_s, va_up_at, sl_congr (g := aN') R.length (i + 1) (fun j h _ => va_upn _ _ (by omega))]
            have h5 := hr.2.2.2.2
            rw [hsl, List.map_append, List.map_cons] at h5
            obtain ⟨e1, e2⟩ := List.append_inj h5 (by rw [sl_len, List.length_map, hL])
            rw [hsl2, e1, (List.cons.inj e2).2, List.map_append]
            rfl
      · omega
    | succ k ih =>
      intro E aK' aL' aT' aS' aX' aM' aN' dc' cn' u4 u5 u6 u8 hE hr hB hdc hcn hik
      obtain ⟨E', e, rfl, hE'⟩ := snoc_len E hE
      have hr' : rS ((L ++ (g.1, mrg (g :: M)) :: E') ++ e :: R) dc' cn' aK' aL' aT' aS' aX' aM' aN' := by
        rw [List.append_assoc, List.cons_append]
        rw [List.append_assoc] at hr
        exact hr
      have hlen : (L ++ (g.1, mrg (g :: M)) :: E').length = i + (k + 1) := by rw [List.length_append, List.length_cons, hL, hE']
      have hcl := hr'.2.2.2.1
      rw [List.length_append, hlen, List.length_cons] at hcl
      refine ps_s_il p123_154 rfl ?_
      refine ps_s_il p123_156 rfl ?_
      refine ps_s_le p123_157 (by omega) (by omega) (fun c157 => ?_) (fun c157 => ?_)
      · omega
      · refine ps_s_al p123_160 rfl ?_
        refine ps_s_il p123_161 rfl ?_
        refine ps_s_vV [_] _ p123_163 rfl rf_o rfl rfl rfl (rf_dropSeg hm hr' (by rw [List.length_append, hlen, List.length_cons]; omega) (by omega) (by omega) (fun a1 a2 a3 a4 a5 a6 a7 a8 a9 q1 q2 q3 q4 => ps_bkv ?_) d (by omega))
        have e := er_mid (L ++ (g.1, mrg (g :: M)) :: E') R e
        rw [hlen] at e
        rw [e, List.append_assoc, List.cons_append] at q1
        refine ps_s_de7 p123_166 (by omega) ?_
        refine ps_s_go p123_169 ?_
        rw [show i + (k + 1) - 1 = i + k by omega]
        exact ih E' _ _ _ _ _ _ _ _ _ _ _ _ _ hE' q1 (q2.trans hB) (by omega) (by omega) (by omega)
  have tail : ∀ x to lf ins (aK aL aT aS aX aM : Nat → Nat), x < dc + bf → to ≤ x → bd aK aL aT aS aX aM → ins ≤ 1 → lf ≤ x →
      (∀ aK' aL' aT' aS' aX' aM' : Nat → Nat, bd aK' aL' aT' aS' aX' aM' → rowOf aK' aL' aT' aS' aX' aM' = va_up (rowOf aK aL aT aS aX aM) to (docOf aK aL aT x, (if ins = 1 then i else aS x), aX x, aM x) → ps_X G d 123 25 [some (.ref m), some (iN i), some (iN j), some (iN sm), some (iN (to + 1)), some (iN (if x < dc then lf + 1 else lf)), some (iN (dc + bf)), some (iN (x + 1)), some (iN ins)] [] (rf h0 m r0 tw df dc bf cn nn (1) P sz pl aD (aK') (aL') (aT') (aS') (aX') (aM') aC aN aO aQ aB aV aH) Q) →
      ps_X G d 123 85 [some (.ref m), some (iN i), some (iN j), some (iN sm), some (iN to), some (iN lf), some (iN (dc + bf)), some (iN x), some (iN ins)] [] (rf h0 m r0 tw df dc bf cn nn (1) P sz pl aD aK aL aT aS aX aM aC aN aO aQ aB aV aH) Q := by
    intro x to lf ins aK aL aT aS aX aM hx hto hbd hins hlf K
    refine ps_s_al p123_85 rfl ?_
    refine ps_s_il p123_86 rfl ?_
    refine ps_s_il p123_88 rfl ?_
    refine ps_s_vV [_, _] _ p123_90 rfl rf_o rfl rfl rfl (rf_move hm (by omega) (by omega) hbd (fun aK' aL' aT' aS' aX' aM' hb' hr' => ps_bkv ?_) d (by omega))
    have e := congrFun hr' to
    rw [va_up_at] at e
    have e2 : aS' to = aS x := congrArg (fun r : pRow => r.2.1) e
    have hfin : ∀ v, v < 16 → v = (if ins = 1 then i else aS x) → ps_X G d 123 116 [some (.ref m), some (iN i), some (iN j), some (iN sm), some (iN to), some (iN lf), some (iN (dc + bf)), some (iN x), some (iN ins)] [] (rf h0 m r0 tw df dc bf cn nn (1) P sz pl aD (aK') (aL') (aT') (va_up aS' to v) (aX') (aM') aC aN aO aQ aB aV aH) Q := by
      intro v hv hve
      have K2 := K aK' aL' aT' (va_up aS' to v) aX' aM' ⟨hb'.1, hb'.2.1, hb'.2.2.1, up_lt hb'.2.2.2.1 hv, hb'.2.2.2.2⟩ (by
        rw [row_S, hr', va_up_up]
        have e3 : docOf aK' aL' aT' to = docOf aK aL aT x := congrArg (fun r : pRow => r.1) e
        have e4 : aX' to = aX x := congrArg (fun r : pRow => r.2.2.1) e
        have e5 : aM' to = aM x := congrArg (fun r : pRow => r.2.2.2) e
        rw [e3, e4, e5, hve])
      refine ps_s_in4 p123_116 ?_
      refine ps_s_il p123_119 rfl ?_
      refine ps_s_al p123_121 rfl ?_
      refine rf_g_dc p123_122 ?_
      refine ps_s_ge p123_125 (by omega) (by omega) (fun c125 => ?_) (fun c125 => ?_)
      · refine ps_s_il p123_135 rfl ?_
        refine ps_s_is5 p123_137 ?_
        refine ps_s_in7 p123_139 ?_
        refine ps_s_go p123_142 ?_
        rw [if_neg (by omega)] at K2
        exact K2
      · refine ps_s_il p123_128 rfl ?_
        refine ps_s_k p123_130 ?_
        first | refine ps_s_add p123_131 ?_ | refine ps_s_2 p123_131 ?_
        refine ps_s_go p123_132 ?_
        refine ps_s_is5 p123_137 ?_
        refine ps_s_in7 p123_139 ?_
        refine ps_s_go p123_142 ?_
        rw [if_pos (by omega)] at K2
        exact K2
    have h16 := hbd.2.2.2.1 x
    refine ps_s_al p123_93 rfl ?_
    refine rf_g_aS p123_94 ?_
    refine ps_s_il p123_97 rfl ?_
    refine ps_s_il p123_99 rfl ?_
    refine ps_s_eq0 p123_101 (by omega) (fun c101 => ?_) (fun c101 => ?_)
    · refine ps_s_al p123_108 rfl ?_
      refine rf_g_aS p123_109 ?_
      refine ps_s_il p123_112 rfl ?_
      refine rf_la_aS p123_114 (by omega) ?_
      refine rf_sa_aS hm p123_115 (by omega) ?_
      exact hfin _ (by omega) (by rw [if_neg (by omega), e2])
    · refine ps_s_il p123_104 rfl ?_
      refine ps_s_go p123_105 ?_
      refine rf_sa_aS hm p123_115 (by omega) ?_
      exact hfin _ (by omega) (by rw [if_pos (by omega)])
  have loop : ∀ n x to lf (aK' aL' aT' aS' aX' aM' : Nat → Nat) u8, x + n = dc + bf → to ≤ x → lf ≤ x → bd aK' aL' aT' aS' aX' aM' → rws (rowOf aK' aL' aT' aS' aX' aM') 0 to ++ yF (uJ i j) dc bf (rowOf aK' aL' aT' aS' aX' aM') x = (rws (rowOf aK aL aT aS aX aM) 0 dc).filterMap (uJ i j) ++ rws (rowOf aK aL aT aS aX aM) dc bf → lf + ((rws (rowOf aK' aL' aT' aS' aX' aM') x (dc - x)).filterMap (uJ i j)).length = ((rws (rowOf aK aL aT aS aX aM) 0 dc).filterMap (uJ i j)).length →
      ps_X G d 123 25 [some (.ref m), some (iN i), some (iN j), some (iN sm), some (iN to), some (iN lf), some (iN (dc + bf)), some (iN x), u8] [] (rf h0 m r0 tw df dc bf cn nn (1) P sz pl aD (aK') (aL') (aT') (aS') (aX') (aM') aC aN aO aQ aB aV aH) Q := by
    intro n
    induction n with
    | zero =>
      intro x to lf aK' aL' aT' aS' aX' aM' u8 hx hto hlf hb' hT hl
      have hx' : x = dc + bf := by omega
      rw [hx', yF_e, List.append_nil] at hT
      rw [show dc - x = 0 by omega, show ((rws (rowOf aK' aL' aT' aS' aX' aM') x 0).filterMap (uJ i j)) = [] from rfl, List.length_nil, Nat.add_zero] at hl
      have hlen := congrArg List.length hT
      rw [List.length_append, rws_len, rws_len, ← hl] at hlen
      rw [hlen, rws_app] at hT
      obtain ⟨q1, q2⟩ := List.append_inj hT (by rw [rws_len, hl])
      have hle : lf ≤ dc := by
        have := List.length_filterMap_le (uJ i j) (rws (rowOf aK aL aT aS aX aM) 0 dc)
        rw [rws_len] at this
        omega
      rw [Nat.zero_add] at q2
      rw [hr.2.2.1, join_rows hL g hM] at q1
      have hji : j = i + M.length := by rw [List.length_cons] at hM; omega
      refine ps_s_il p123_25 rfl ?_
      refine ps_s_il p123_27 rfl ?_
      refine ps_s_ge p123_29 (by omega) (by omega) (fun c29 => ?_) (fun c29 => ?_)
      · refine ps_s_al p123_145 rfl ?_
        refine ps_s_il p123_146 rfl ?_
        refine rf_s_dc hm p123_148 ?_
        refine ps_s_il p123_151 rfl ?_
        refine ps_s_is7 p123_152 ?_
        have := loop2 M.length (M.map (fun g => (g.1, ([] : List pD)))) aK' aL' aT' aS' aX' aM' aN lf cn (some (iN to)) (some (iN lf)) (some (iN (dc + bf))) u8 (by rw [List.length_map]) ⟨hb', hr.2.1, q1, ?_, ?_⟩ q2 hle hcn (by omega)
        · rw [← hji] at this
          exact this
        · rw [hr.2.2.2.1]; simp
        · rw [hr.2.2.2.2]; simp
      · omega
    | succ n ih =>
      intro x to lf aK' aL' aT' aS' aX' aM' u8 hx hto hlf hb' hT hl
      have h16 := hb'.2.2.2.1 x
      have h01 := hb'.2.2.2.2.1 x
      have fin : ∀ ins (aK2 aL2 aT2 aS2 aX2 aM2 : Nat → Nat) (y : pRow), bd aK2 aL2 aT2 aS2 aX2 aM2 → rowOf aK2 aL2 aT2 aS2 aX2 aM2 = va_up (rowOf aK' aL' aT' aS' aX' aM') to y → yF (uJ i j) dc bf (rowOf aK' aL' aT' aS' aX' aM') x = y :: yF (uJ i j) dc bf (rowOf aK' aL' aT' aS' aX' aM') (x + 1) → ((rws (rowOf aK' aL' aT' aS' aX' aM') x (dc - x)).filterMap (uJ i j)).length = (if x < dc then 1 else 0) + ((rws (rowOf aK' aL' aT' aS' aX' aM') (x + 1) (dc - (x + 1))).filterMap (uJ i j)).length →
          ps_X G d 123 25 [some (.ref m), some (iN i), some (iN j), some (iN sm), some (iN (to + 1)), some (iN (if x < dc then lf + 1 else lf)), some (iN (dc + bf)), some (iN (x + 1)), some (iN ins)] [] (rf h0 m r0 tw df dc bf cn nn (1) P sz pl aD (aK2) (aL2) (aT2) (aS2) (aX2) (aM2) aC aN aO aQ aB aV aH) Q := by
        intro ins aK2 aL2 aT2 aS2 aX2 aM2 y hb2 hr2 hy hd
        refine ih _ _ _ _ _ _ _ _ _ _ (by omega) (by omega) (by split <;> omega) hb2 ?_ ?_
        · rw [← hT, hr2, rws_up_snoc, yF_up (by omega), hy, List.append_assoc]
          rfl
        · rw [← hl, hd, hr2, rws_up_ge (by omega)]
          split <;> omega
      have inn : x < dc → ∀ y, uJ i j (rowOf aK' aL' aT' aS' aX' aM' x) = some y → ((rws (rowOf aK' aL' aT' aS' aX' aM') x (dc - x)).filterMap (uJ i j)).length = (if x < dc then 1 else 0) + ((rws (rowOf aK' aL' aT' aS' aX' aM') (x + 1) (dc - (x + 1))).filterMap (uJ i j)).length ∧ yF (uJ i j) dc bf (rowOf aK' aL' aT' aS' aX' aM') x = y :: yF (uJ i j) dc bf (rowOf aK' aL' aT' aS' aX' aM') (x + 1) := by
        intro hx1 y hy
        refine ⟨?_, ?_⟩
        · rw [if_pos hx1, show dc - x = (dc - (x + 1)) + 1 by omega, rws_s, List.filterMap_cons, hy]
          show (_ :: _).length = _
          rw [List.length_cons, Nat.add_comm]
        · rw [yF_1 hx1, hy]; rfl
      have out : ¬ (x < dc ∧ i ≤ aS' x ∧ aS' x ≤ j) → ps_X G d 123 67 [some (.ref m), some (iN i), some (iN j), some (iN sm), some (iN to), some (iN lf), some (iN (dc + bf)), some (iN x), u8] [] (rf h0 m r0 tw df dc bf cn nn (1) P sz pl aD (aK') (aL') (aT') (aS') (aX') (aM') aC aN aO aQ aB aV aH) Q := by
        intro hno
        refine ps_s_k p123_67 ?_
        refine ps_s_is8 p123_68 ?_
        refine ps_s_il p123_70 rfl ?_
        refine ps_s_eq0 p123_72 (by omega) (fun c72 => ?_) (fun c72 => ?_)
        · refine tail _ _ _ _ _ _ _ _ _ _ (by omega) hto hb' (by omega) hlf ?_
          intro aK2 aL2 aT2 aS2 aX2 aM2 hb2 hr2
          rw [if_neg (by omega)] at hr2
          by_cases hx1 : x < dc
          · obtain ⟨q1, q2⟩ := inn hx1 (rowOf aK' aL' aT' aS' aX' aM' x) (by unfold uJ; exact if_neg (by show ¬ (i ≤ aS' x ∧ aS' x ≤ j); omega))
            exact fin _ _ _ _ _ _ _ _ hb2 hr2 q2 q1
          · refine fin _ _ _ _ _ _ _ _ hb2 hr2 (yF_2 (by omega) (by omega)) ?_
            rw [if_neg hx1, show dc - x = 0 by omega, show dc - (x + 1) = 0 by omega]
            rfl
        · omega
      refine ps_s_il p123_25 rfl ?_
      refine ps_s_il p123_27 rfl ?_
      refine ps_s_ge p123_29 (by omega) (by omega) (fun c29 => ?_) (fun c29 => ?_)
      · omega
      · refine ps_s_il p123_32 rfl ?_
        refine ps_s_al p123_34 rfl ?_
        refine rf_g_dc p123_35 ?_
        refine ps_s_ge p123_38 (by omega) (by omega) (fun c38 => ?_) (fun c38 => ?_)
        · exact out (by omega)
        · refine ps_s_al p123_41 rfl ?_
          refine rf_g_aS p123_42 ?_
          refine ps_s_il p123_45 rfl ?_
          refine rf_la_aS p123_47 (by omega) ?_
          refine ps_s_il p123_48 rfl ?_
          refine ps_s_lt p123_49 (by omega) (by omega) (fun c49 => ?_) (fun c49 => ?_)
          · exact out (by omega)
          · refine ps_s_al p123_52 rfl ?_
            refine rf_g_aS p123_53 ?_
            refine ps_s_il p123_56 rfl ?_
            refine rf_la_aS p123_58 (by omega) ?_
            refine ps_s_il p123_59 rfl ?_
            refine ps_s_gt p123_60 (by omega) (by omega) (fun c60 => ?_) (fun c60 => ?_)
            · exact out (by omega)
            · refine ps_s_k p123_63 ?_
              refine ps_s_go p123_64 ?_
              refine ps_s_is8 p123_68 ?_
              refine ps_s_il p123_70 rfl ?_
              refine ps_s_eq0 p123_72 (by omega) (fun c72 => ?_) (fun c72 => ?_)
              · omega
              · refine ps_s_al p123_75 rfl ?_
                refine rf_g_aX p123_76 ?_
                refine ps_s_il p123_79 rfl ?_
                refine rf_la_aX hm p123_81 (by omega) ?_
                refine ps_s_ne0 p123_82 (by omega) (fun c82 => ?_) (fun c82 => ?_)
                · refine ps_s_in7 p123_139 ?_
                  refine ps_s_go p123_142 ?_
                  have hu : uJ i j (rowOf aK' aL' aT' aS' aX' aM' x) = none := by
                    unfold uJ
                    exact (if_pos (show i ≤ aS' x ∧ aS' x ≤ j by omega)).trans (if_pos (show aX' x = 1 by omega))
                  refine ih _ _ _ _ _ _ _ _ _ _ (by omega) (by omega) (by omega) hb' ?_ ?_
                  · rw [← hT, yF_1 (i := x) (by omega), hu]; rfl
                  · rw [← hl, show dc - x = (dc - (x + 1)) + 1 by omega, rws_s, List.filterMap_cons, hu]
                · have hu : uJ i j (rowOf aK' aL' aT' aS' aX' aM' x) = some (docOf aK' aL' aT' x, i, aX' x, aM' x) := by
                    unfold uJ
                    exact (if_pos (show i ≤ aS' x ∧ aS' x ≤ j by omega)).trans (if_neg (show ¬ aX' x = 1 by omega))
                  obtain ⟨q1, q2⟩ := inn (by omega) _ hu
                  refine tail _ _ _ _ _ _ _ _ _ _ (by omega) hto hb' (by omega) hlf ?_
                  intro aK2 aL2 aT2 aS2 aX2 aM2 hb2 hr2
                  rw [if_pos rfl] at hr2
                  exact fin _ _ _ _ _ _ _ _ hb2 hr2 q2 q1
  refine ps_s_al p123_0 rfl ?_
  refine ps_s_k p123_1 ?_
  refine rf_s_li hm p123_2 (by omega) ?_
  refine ps_s_k p123_5 ?_
  refine ps_s_is4 p123_6 ?_
  refine ps_s_k p123_8 ?_
  refine ps_s_is5 p123_9 ?_
  refine ps_s_al p123_11 rfl ?_
  refine rf_g_dc p123_12 ?_
  refine ps_s_al p123_15 rfl ?_
  refine rf_g_bf p123_16 ?_
  first | refine ps_s_add p123_19 ?_ | refine ps_s_2 p123_19 ?_
  refine ps_s_is6 p123_20 ?_
  refine ps_s_k p123_22 ?_
  refine ps_s_is7 p123_23 ?_
  exact loop (dc + bf) 0 0 0 aK aL aT aS aX aM _ (by omega) (by omega) (by omega) hr.1 (by rw [yF_0]; rfl) (by rw [Nat.sub_zero, Nat.zero_add])
end RFH
