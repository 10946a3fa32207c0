/-! The reference: what a commit leaves. -/
abbrev pG : Type := Nat × List pD
/-- the table holds these segments -/
def rS (sg : List pG) (dc cn : Nat) (aK aL aT aS aX aM aN : Nat → Nat) : Prop := bd aK aL aT aS aX aM ∧ (∀ j, aN j < 1000) ∧ rws (rowOf aK aL aT aS aX aM) 0 dc = flat 0 (sg.map (·.2)) ∧ cn = sg.length ∧ sl aN 0 cn = sg.map (·.1)
theorem sl_s (f : Nat → Nat) (d n : Nat) : sl f d (n + 1) = f d :: sl f (d + 1) n := rfl
theorem sl_app (f : Nat → Nat) (b : Nat) : ∀ a d, sl f d (a + b) = sl f d a ++ sl f (d + a) b := by
  intro a
  induction a with
  | zero => intro d; rw [Nat.zero_add]; rfl
  | succ a ih =>
    intro d
    rw [show a + 1 + b = (a + b) + 1 by omega, sl_s, sl_s, ih, show d + 1 + a = d + (a + 1) by omega]
    rfl
theorem er_mid {α : Type} (L R : List α) (g : α) : (L ++ g :: R).eraseIdx L.length = L ++ R := by
  induction L with
  | nil => rfl
  | cons x L ih => rw [List.cons_append, List.length_cons]; show x :: (L ++ g :: R).eraseIdx L.length = _; rw [ih]; rfl
theorem get_mid {α : Type} (L R : List α) (g e : α) : (L ++ g :: R).getD L.length e = g := by
  induction L with
  | nil => rfl
  | cons x L ih => rw [List.cons_append, List.length_cons]; show (L ++ g :: R).getD L.length e = _; exact ih
theorem snoc_len {α : Type} {k : Nat} : ∀ L : List α, L.length = k + 1 → ∃ L' g, L = L' ++ [g] ∧ L'.length = k := by
  induction k with
  | zero =>
    intro L h
    match L, h with
    | [x], _ => exact ⟨[], x, rfl, rfl⟩
  | succ k ih =>
    intro L h
    match L, h with
    | x :: L, h =>
      obtain ⟨L', g, e, hl⟩ := ih L (by rw [List.length_cons] at h; omega)
      exact ⟨x :: L', g, by rw [e]; rfl, by rw [List.length_cons, hl]⟩
theorem sl_sh (f : Nat → Nat) (s k : Nat) (h : s ≤ k) : sl (shN f s k) 0 k = (sl f 0 (k + 1)).eraseIdx s := by
  have sh : ∀ n d, s ≤ d → d + n ≤ k → sl (shN f s k) d n = sl f (d + 1) n := by
    intro n
    induction n with
    | zero => intro d _ _; rfl
    | succ n ih =>
      intro d h1 h2
      unfold sl
      rw [ih (d + 1) (by omega) (by omega)]
      unfold shN
      rw [if_pos (by omega)]
  obtain ⟨n, rfl⟩ : ∃ n, k = s + n := ⟨k - s, by omega⟩
  have e : sl f 0 (s + n + 1) = sl f 0 s ++ f s :: sl f (s + 1) n := by
    rw [show s + n + 1 = s + (n + 1) by omega, sl_app, Nat.zero_add]
    rfl
  rw [e, sl_app, Nat.zero_add, sh n s (by omega) (by omega), sl_congr (g := f) s 0 (fun j _ h2 => by unfold shN; rw [if_neg (by omega)])]
  have := er_mid (sl f 0 s) (sl f (s + 1) n) (f s)
  rw [sl_len] at this
  exact this.symm
theorem map_er {α β : Type} (u : α → β) : ∀ (L : List α) (s : Nat), (L.eraseIdx s).map u = (L.map u).eraseIdx s := by
  intro L
  induction L with
  | nil => intro s; rfl
  | cons x L ih =>
    intro s
    cases s with
    | zero => rfl
    | succ s => show u x :: (L.eraseIdx s).map u = u x :: (L.map u).eraseIdx s; rw [ih]
theorem row_XM {aK aL aT aS aX aM : Nat → Nat} {b v w : Nat} : rowOf aK aL aT aS (va_up aX b v) (va_up aM b w) = va_up (rowOf aK aL aT aS aX aM) b (docOf aK aL aT b, aS b, v, w) := by
  funext j
  by_cases h : j = b
  · subst h
    rw [va_up_at]
    unfold rowOf
    rw [va_up_at, va_up_at]
  · rw [va_upn _ _ h]
    unfold rowOf
    rw [va_upn _ _ h, va_upn _ _ h]
def stD (x : pD) : pD := (x.1, bN (decide (x.2.1 = 1) || decide (x.2.2 = 1)), 0)
section RFG
variable {h0 : pm_S} {m r0 tw df dc bf cn nn li sz pl : Nat} {P : Int32} {aD aK aL aT aS aX aM aC aN aO aQ aB aV aH : Nat → Nat} {G : pm_G} {Q : pm_Q}
theorem rf_dropSeg (hm : G.1 ≤ m) {s : Nat} {sg : List pG} (hr : rS sg dc cn aK aL aT aS aX aM aN) (hs : s < sg.length) (hcn : cn ≤ 11) (hall : dc + bf ≤ 200)
    (hQ : ∀ (aK' aL' aT' aS' aX' aM' aN' : Nat → Nat) (dc' cn' : Nat), rS (sg.eraseIdx s) dc' cn' aK' aL' aT' aS' aX' aM' aN' → rws (rowOf aK' aL' aT' aS' aX' aM') dc' bf = rws (rowOf aK aL aT aS aX aM) dc bf → dc' ≤ dc → cn' + 1 = cn → Q (.inl none) (rf h0 m r0 tw df (dc') bf (cn') nn li P sz pl aD (aK') (aL') (aT') (aS') (aX') (aM') aC (aN') aO aQ aB aV aH)) : ps_M G 2 121 [.ref m, iN s] (rf h0 m r0 tw df dc bf cn nn li P sz pl aD aK aL aT aS aX aM aC aN aO aQ aB aV aH) Q := by
  obtain ⟨h1, h2, h3, h4, h5⟩ := hr
  refine rf_dropSegment hm (by omega) hcn hall h1 h2 ?_
  intro aK' aL' aT' aS' aX' aM' dc' g1 g2 g3 g4
  refine hQ aK' aL' aT' aS' aX' aM' _ dc' _ ⟨g1, ?_, ?_, ?_, ?_⟩ g3 g4 (by omega)
  · intro j
    unfold shN
    split
    · exact h2 _
    · exact h2 _
  · have := flat_drop (sg.map (·.2)) s 0 (by rw [List.length_map]; exact hs)
    rw [Nat.zero_add] at this
    rw [g2, h3, this, map_er]
  · rw [List.length_eraseIdx, if_pos hs, h4]
  · rw [sl_sh _ _ _ (by omega), show cn - 1 + 1 = cn by omega, h5, map_er]
theorem rf_settle (hm : G.1 ≤ m) {sg : List pG} (hr : rS sg dc cn aK aL aT aS aX aM aN) (hcn : cn ≤ 10) (hall : dc + bf ≤ 200) (hnn : nn < 999)
    (hQ : ∀ (aK' aL' aT' aS' aX' aM' aN' : Nat → Nat) (dc' cn' : Nat), rS ((sg.filter (fun g => neS g.2)).map (fun g => (g.1, g.2.map stD)) ++ (if bf = 0 then [] else [(nn, (rws (rowOf aK aL aT aS aX aM) dc bf).map (fun r => (r.1, r.2.2)))])) dc' cn' aK' aL' aT' aS' aX' aM' aN' → dc' ≤ dc + bf → Q (.inl none) (rf h0 m r0 tw df (dc') (0) (cn') (if bf = 0 then nn else nn + 1) (1) P sz pl aD (aK') (aL') (aT') (aS') (aX') (aM') aC (aN') aO aQ aB aV aH)) : ps_M G 4 120 [.ref m] (rf h0 m r0 tw df dc bf cn nn li P sz pl aD aK aL aT aS aX aM aC aN aO aQ aB aV aH) Q := by
  refine ps_M_in (e120 _) l120 (fun d hd => ?_)
  have loop3 : ∀ n i (aK aL aT aS aX aM aN : Nat → Nat) dc cn, i + n = dc + bf → dc ≤ i → dc + bf ≤ 200 → cn < 16 → bd aK aL aT aS aX aM →
      (∀ aS' : Nat → Nat, bd aK aL aT aS' aX aM → rowOf aK aL aT aS' aX aM = mpR (rowOf aK aL aT aS aX aM) i (dc + bf) (fun r => (r.1, cn, r.2.2)) → ps_X G d 120 128 [some (.ref m), some (iN (dc + bf))] [] (rf h0 m r0 tw df dc bf cn nn (1) P sz pl aD aK aL aT (aS') aX aM aC aN aO aQ aB aV aH) Q) → ps_X G d 120 99 [some (.ref m), some (iN i)] [] (rf h0 m r0 tw df dc bf cn nn (1) P sz pl aD aK aL aT aS aX aM aC aN aO aQ aB aV aH) Q := by
    intro n
    induction n with
    | zero =>
      intro i aK aL aT aS aX aM aN dc cn hi hdi hall hcn hb K
      have hi' : i = dc + bf := by omega
      have K2 := K aS hb (by funext j; unfold mpR; rw [if_neg (by omega)])
      refine ps_s_il p120_99 rfl ?_
      refine ps_s_al p120_100 rfl ?_
      refine rf_g_dc p120_101 ?_
      refine ps_s_al p120_104 rfl ?_
      refine rf_g_bf p120_105 ?_
      first | refine ps_s_add p120_108 ?_ | refine ps_s_2 p120_108 ?_
      refine ps_s_ge p120_109 (by omega) (by omega) (fun c109 => ?_) (fun c109 => ?_)
      · rw [hi']
        exact K2
      · omega
    | succ n ih =>
      intro i aK aL aT aS aX aM aN dc cn hi hdi hall hcn hb K
      refine ps_s_il p120_99 rfl ?_
      refine ps_s_al p120_100 rfl ?_
      refine rf_g_dc p120_101 ?_
      refine ps_s_al p120_104 rfl ?_
      refine rf_g_bf p120_105 ?_
      first | refine ps_s_add p120_108 ?_ | refine ps_s_2 p120_108 ?_
      refine ps_s_ge p120_109 (by omega) (by omega) (fun c109 => ?_) (fun c109 => ?_)
      · omega
      · refine ps_s_al p120_112 rfl ?_
        refine rf_g_aS p120_113 ?_
        refine ps_s_il p120_116 rfl ?_
        refine ps_s_al p120_117 rfl ?_
        refine rf_g_cn p120_118 ?_
        refine rf_sa_aS hm p120_121 (by omega) ?_
        refine ps_s_in1 p120_122 ?_
        refine ps_s_go p120_125 ?_
        refine ih _ _ _ _ _ _ _ _ _ _ (by omega) (by omega) hall hcn ⟨hb.1, hb.2.1, hb.2.2.1, up_lt hb.2.2.2.1 hcn, hb.2.2.2.2⟩ ?_
        intro aS' hb' he
        refine K aS' hb' ?_
        rw [he, row_S]
        funext j
        unfold mpR va_up
        by_cases h1 : j = i
        · subst h1
          rw [if_neg (by omega), if_pos rfl, if_pos (by omega)]
          rfl
        · rw [if_neg h1]
          by_cases h2 : i + 1 ≤ j ∧ j < dc + bf
          · rw [if_pos h2, if_pos (by omega)]
          · rw [if_neg h2, if_neg (by omega)]
  have tail : ∀ (aK aL aT aS aX aM aN : Nat → Nat) dc cn (sg : List pG) (B : List pRow) v, rS sg dc cn aK aL aT aS aX aM aN → rws (rowOf aK aL aT aS aX aM) dc bf = B → dc + bf ≤ 200 → cn ≤ 10 →
      (∀ (aK' aL' aT' aS' aX' aM' aN' : Nat → Nat) (dc' cn' : Nat), rS (sg ++ (if bf = 0 then [] else [(nn, B.map (fun r => (r.1, r.2.2)))])) dc' cn' aK' aL' aT' aS' aX' aM' aN' → dc' ≤ dc + bf → Q (.inl none) (rf h0 m r0 tw df (dc') (0) (cn') (if bf = 0 then nn else nn + 1) (1) P sz pl aD (aK') (aL') (aT') (aS') (aX') (aM') aC (aN') aO aQ aB aV aH)) → ps_X G d 120 87 [some (.ref m), v] [] (rf h0 m r0 tw df dc bf cn nn (1) P sz pl aD aK aL aT aS aX aM aC aN aO aQ aB aV aH) Q := by
    intro aK aL aT aS aX aM aN dc cn sg B v hr hB hall hcn hQ
    refine ps_s_al p120_87 rfl ?_
    refine rf_g_bf p120_88 ?_
    refine ps_s_le0 p120_91 (by omega) (fun c91 => ?_) (fun c91 => ?_)
    · refine ps_s_rv p120_179 t120 ?_
      have hb0 : bf = 0 := by omega
      rw [if_pos hb0, List.append_nil] at hQ
      have := hQ aK aL aT aS aX aM aN dc cn hr (by omega)
      rw [if_pos hb0] at this
      subst hb0
      exact this
    · have hb0 : ¬ bf = 0 := by omega
      rw [if_neg hb0] at hQ
      refine ps_s_al p120_94 rfl ?_
      refine rf_g_dc p120_95 ?_
      refine ps_s_is1 p120_98 ?_
      obtain ⟨h1, h2, h3, h4, h5⟩ := hr
      refine loop3 bf dc aK aL aT aS aX aM aN dc cn (by omega) (by omega) hall (by omega) h1 ?_
      intro aS' hb' he
      refine ps_s_al p120_128 rfl ?_
      refine ps_s_al p120_129 rfl ?_
      refine rf_g_dc p120_130 ?_
      refine ps_s_al p120_133 rfl ?_
      refine rf_g_bf p120_134 ?_
      first | refine ps_s_add p120_137 ?_ | refine ps_s_2 p120_137 ?_
      refine rf_s_dc hm p120_138 ?_
      refine ps_s_al p120_141 rfl ?_
      refine ps_s_k p120_142 ?_
      refine rf_s_bf hm p120_143 ?_
      refine ps_s_al p120_146 rfl ?_
      refine rf_g_aN p120_147 ?_
      refine ps_s_al p120_150 rfl ?_
      refine rf_g_cn p120_151 ?_
      refine ps_s_al p120_154 rfl ?_
      refine rf_g_nn p120_155 ?_
      refine rf_sa_aN hm p120_158 (by omega) ?_
      refine ps_s_al p120_159 rfl ?_
      refine ps_s_dup p120_160 rfl ?_
      refine rf_g_cn p120_161 ?_
      refine ps_s_k p120_164 ?_
      first | refine ps_s_add p120_165 ?_ | refine ps_s_2 p120_165 ?_
      refine rf_s_cn hm p120_166 ?_
      refine ps_s_al p120_169 rfl ?_
      refine ps_s_dup p120_170 rfl ?_
      refine rf_g_nn p120_171 ?_
      refine ps_s_k p120_174 ?_
      first | refine ps_s_add p120_175 ?_ | refine ps_s_2 p120_175 ?_
      refine rf_s_nn hm p120_176 ?_
      refine ps_s_rv p120_179 t120 ?_
      have := hQ aK aL aT aS' aX aM (va_up aN cn nn) (dc + bf) (cn + 1) ⟨hb', up_lt h2 (by omega), ?_, ?_, ?_⟩ (by omega)
      · rw [if_neg hb0] at this
        exact this
      · rw [rws_app, he, Nat.zero_add, mpR_out (by omega), mpR_in _ _ (by omega) (by omega), h3, hB, List.map_append, flat_app, Nat.zero_add, List.length_map, ← h4]
        congr 1
        show _ = List.map (tag cn) (List.map (fun r => (r.1, r.2.2)) B) ++ []
        rw [List.append_nil, List.map_map]
        rfl
      · rw [List.length_append, h4]
        rfl
      · rw [sl_app, sl_congr (g := aN) cn 0 (fun j _ h => va_upn _ _ (by omega)), h5, List.map_append]
        congr 1
        show [va_up aN cn nn (0 + cn)] = [nn]
        rw [Nat.zero_add, va_up_at]
  have loop2 : ∀ n i (aK aL aT aS aX aM aN : Nat → Nat) dc cn, i + n = dc → dc + bf ≤ 200 → bd aK aL aT aS aX aM →
      (∀ aX' aM' : Nat → Nat, bd aK aL aT aS aX' aM' → rowOf aK aL aT aS aX' aM' = mpR (rowOf aK aL aT aS aX aM) i dc (fun r => tag r.2.1 (stD (r.1, r.2.2))) → ps_X G d 120 87 [some (.ref m), some (iN dc)] [] (rf h0 m r0 tw df dc bf cn nn (1) P sz pl aD aK aL aT aS (aX') (aM') aC aN aO aQ aB aV aH) Q) → ps_X G d 120 37 [some (.ref m), some (iN i)] [] (rf h0 m r0 tw df dc bf cn nn (1) P sz pl aD aK aL aT aS aX aM aC aN aO aQ aB aV aH) Q := by
    intro n
    induction n with
    | zero =>
      intro i aK aL aT aS aX aM aN dc cn hi hall hb K
      have hi' : i = dc := by omega
      have K2 := K aX aM hb (by funext j; unfold mpR; rw [if_neg (by omega)])
      refine ps_s_il p120_37 rfl ?_
      refine ps_s_al p120_38 rfl ?_
      refine rf_g_dc p120_39 ?_
      refine ps_s_ge p120_42 (by omega) (by omega) (fun c42 => ?_) (fun c42 => ?_)
      · rw [hi']
        exact K2
      · omega
    | succ n ih =>
      intro i aK aL aT aS aX aM aN dc cn hi hall hb K
      have hXi := hb.2.2.2.2.1 i
      have hMi := hb.2.2.2.2.2 i
      have fin : ∀ v, v ≤ 1 → v = bN (decide (aX i = 1) || decide (aM i = 1)) → ps_X G d 120 37 [some (.ref m), some (iN (i + 1))] [] (rf h0 m r0 tw df dc bf cn nn (1) P sz pl aD aK aL aT aS (va_up aX i v) (va_up aM i 0) aC aN aO aQ aB aV aH) Q := by
        intro v hv hve
        refine ih _ _ _ _ _ _ _ _ _ _ (by omega) hall ⟨hb.1, hb.2.1, hb.2.2.1, hb.2.2.2.1, up_le hb.2.2.2.2.1 hv, up_le hb.2.2.2.2.2 (by omega)⟩ ?_
        intro aX' aM' hb' he
        refine K aX' aM' hb' ?_
        rw [he, row_XM, hve]
        funext j
        unfold mpR va_up
        by_cases h1 : j = i
        · subst h1
          rw [if_neg (by omega), if_pos rfl, if_pos (by omega)]
          rfl
        · rw [if_neg h1]
          by_cases h2 : i + 1 ≤ j ∧ j < dc
          · rw [if_pos h2, if_pos (by omega)]
          · rw [if_neg h2, if_neg (by omega)]
      refine ps_s_il p120_37 rfl ?_
      refine ps_s_al p120_38 rfl ?_
      refine rf_g_dc p120_39 ?_
      refine ps_s_ge p120_42 (by omega) (by omega) (fun c42 => ?_) (fun c42 => ?_)
      · omega
      · refine ps_s_al p120_45 rfl ?_
        refine rf_g_aX p120_46 ?_
        refine ps_s_il p120_49 rfl ?_
        refine ps_s_al p120_50 rfl ?_
        refine rf_g_aX p120_51 ?_
        refine ps_s_il p120_54 rfl ?_
        refine rf_la_aX hm p120_55 (by omega) ?_
        refine ps_s_ne0 p120_56 (by omega) (fun c56 => ?_) (fun c56 => ?_)
        · refine ps_s_k p120_68 ?_
          refine ps_s_go p120_69 ?_
          refine rf_sa_aX hm p120_73 (by omega) (by omega) ?_
          refine ps_s_al p120_74 rfl ?_
          refine rf_g_aM p120_75 ?_
          refine ps_s_il p120_78 rfl ?_
          refine ps_s_k p120_79 ?_
          refine rf_sa_aM hm p120_80 (by omega) (by omega) ?_
          refine ps_s_in1 p120_81 ?_
          refine ps_s_go p120_84 ?_
          exact fin 1 (by omega) (by rw [decide_eq_true (p := aX i = 1) (by omega)]; rfl)
        · refine ps_s_al p120_59 rfl ?_
          refine rf_g_aM p120_60 ?_
          refine ps_s_il p120_63 rfl ?_
          refine rf_la_aM hm p120_64 (by omega) ?_
          refine ps_s_eq0 p120_65 (by omega) (fun c65 => ?_) (fun c65 => ?_)
          · refine ps_s_k p120_72 ?_
            refine rf_sa_aX hm p120_73 (by omega) (by omega) ?_
            refine ps_s_al p120_74 rfl ?_
            refine rf_g_aM p120_75 ?_
            refine ps_s_il p120_78 rfl ?_
            refine ps_s_k p120_79 ?_
            refine rf_sa_aM hm p120_80 (by omega) (by omega) ?_
            refine ps_s_in1 p120_81 ?_
            refine ps_s_go p120_84 ?_
            exact fin 0 (by omega) (by rw [decide_eq_false (p := aX i = 1) (by omega), decide_eq_false (p := aM i = 1) (by omega)]; rfl)
          · refine ps_s_k p120_68 ?_
            refine ps_s_go p120_69 ?_
            refine rf_sa_aX hm p120_73 (by omega) (by omega) ?_
            refine ps_s_al p120_74 rfl ?_
            refine rf_g_aM p120_75 ?_
            refine ps_s_il p120_78 rfl ?_
            refine ps_s_k p120_79 ?_
            refine rf_sa_aM hm p120_80 (by omega) (by omega) ?_
            refine ps_s_in1 p120_81 ?_
            refine ps_s_go p120_84 ?_
            exact fin 1 (by omega) (by rw [decide_eq_true (p := aM i = 1) (by omega), Bool.or_true]; rfl)
  have loop1 : ∀ k (L R : List pG) w (aK' aL' aT' aS' aX' aM' aN' : Nat → Nat) dc' cn', L.length = k → (k = 0 → w = -1) → (∀ j, k = j + 1 → w = Int32.ofNat j) → rS (L ++ R) dc' cn' aK' aL' aT' aS' aX' aM' aN' → rws (rowOf aK' aL' aT' aS' aX' aM') dc' bf = rws (rowOf aK aL aT aS aX aM) dc bf → dc' ≤ dc → cn' ≤ 10 → L.filter (fun g => neS g.2) ++ R = sg.filter (fun g => neS g.2) → ps_X G d 120 12 [some (.ref m), some (.int w)] [] (rf h0 m r0 tw df (dc') bf (cn') nn (1) P sz pl aD (aK') (aL') (aT') (aS') (aX') (aM') aC (aN') aO aQ aB aV aH) Q := by
    intro k
    induction k with
    | zero =>
      intro L R w aK' aL' aT' aS' aX' aM' aN' dc' cn' hL hw _ hr hB hdc hcn' hf
      rw [List.length_eq_zero_iff.mp hL] at hr hf
      rw [show ([] : List pG).filter (fun g => neS g.2) ++ R = R from rfl] at hf
      rw [List.nil_append, hf] at hr
      refine ps_s_il p120_12 rfl ?_
      refine ps_s_j0 p120_13 (fun _ => ?_) (fun c => absurd (hw rfl ▸ c) (by decide))
      refine ps_s_k p120_35 ?_
      refine ps_s_is1 p120_36 ?_
      refine loop2 _ _ _ _ _ _ _ _ aN' _ cn' (Nat.zero_add _) (by omega) hr.1 ?_
      intro aX2 aM2 hb2 he2
      refine tail _ _ _ _ _ _ _ _ _ ((sg.filter (fun g => neS g.2)).map (fun g => (g.1, g.2.map stD))) (rws (rowOf aK aL aT aS aX aM) dc bf) _ ⟨hb2, hr.2.1, ?_, ?_, ?_⟩ ?_ (by omega) hcn' (fun a1 a2 a3 a4 a5 a6 a7 a8 a9 b1 b2 => hQ a1 a2 a3 a4 a5 a6 a7 a8 a9 b1 (by omega))
      · rw [he2, mpR_in _ _ (by omega) (by omega), hr.2.2.1, flat_map stD _ _ _ (fun k x => rfl), List.map_map, List.map_map]
        rfl
      · rw [List.length_map]; exact hr.2.2.2.1
      · rw [hr.2.2.2.2, List.map_map]; rfl
      · rw [he2, mpR_out (by omega), hB]
    | succ k ih =>
      intro L R w aK' aL' aT' aS' aX' aM' aN' dc' cn' hL _ hw hr hB hdc hcn' hf
      obtain ⟨L', g, rfl, hL'⟩ := snoc_len L hL
      rw [hw k rfl]
      rw [List.filter_append, List.append_assoc] at hf
      have hr' := hr
      rw [List.append_assoc] at hr'
      have hlen : k < (L' ++ ([g] ++ R)).length := by rw [List.length_append, List.length_append, List.length_singleton]; omega
      have he : emp aS' aX' aM' dc' k = !neS g.2 := by
        rw [emp_sel hr'.2.2.1 (by rw [List.length_map]; exact hlen), List.map_append]
        have := get_mid (L'.map (·.2)) (R.map (·.2)) g.2 ([] : List pD)
        rw [List.length_map, hL'] at this
        exact congrArg (fun q => !neS q) this
      have hcl := hr'.2.2.2.1
      refine ps_s_il p120_12 rfl ?_
      refine ps_s_lt0 p120_13 (by omega) (fun c13 => ?_) (fun c13 => ?_)
      · omega
      · refine ps_s_al p120_16 rfl ?_
        refine ps_s_il p120_17 rfl ?_
        refine ps_s_vV [_] _ p120_18 rfl rf_o rfl rfl rfl (rf_isEmpty hm (by omega) (by omega) hr.1.2.2.2.1 hr.1.2.2.2.2.1 hr.1.2.2.2.2.2 (ps_bki ?_) d (by omega))
        have := bN_le (emp aS' aX' aM' dc' k)
        have step : ∀ (R2 : List pG) (aK2 aL2 aT2 aS2 aX2 aM2 aN2 : Nat → Nat) dc2 cn2, rS (L' ++ R2) dc2 cn2 aK2 aL2 aT2 aS2 aX2 aM2 aN2 → rws (rowOf aK2 aL2 aT2 aS2 aX2 aM2) dc2 bf = rws (rowOf aK aL aT aS aX aM) dc bf → dc2 ≤ dc → cn2 ≤ 10 → L'.filter (fun g => neS g.2) ++ R2 = sg.filter (fun g => neS g.2) → ps_X G d 120 29 [some (.ref m), some (iN k)] [] (rf h0 m r0 tw df (dc2) bf (cn2) nn (1) P sz pl aD (aK2) (aL2) (aT2) (aS2) (aX2) (aM2) aC (aN2) aO aQ aB aV aH) Q := by
          intro R2 aK2 aL2 aT2 aS2 aX2 aM2 aN2 dc2 cn2 q1 q2 q3 q4 q5
          refine ps_s_iic p120_29 rfl ?_
          refine ps_s_go p120_32 ?_
          refine ih L' R2 _ _ _ _ _ _ _ _ _ _ hL' (fun h => by rw [h]; decide) (fun j h => by rw [h, ps_dec _ (by omega)]; rfl) q1 q2 q3 q4 q5
        refine ps_s_eq0 p120_21 (by omega) (fun c21 => ?_) (fun c21 => ?_)
        · have hg : neS g.2 = true := by rw [he] at c21; have := bN_z c21; revert this; cases neS g.2 <;> decide
          refine step ([g] ++ R) _ _ _ _ _ _ _ _ _ hr' hB hdc hcn' ?_
          rw [← hf, List.filter_cons, if_pos hg]
          rfl
        · have hg : neS g.2 = false := by rw [he] at c21; have := bN_nz c21; revert this; cases neS g.2 <;> decide
          refine ps_s_al p120_24 rfl ?_
          refine ps_s_il p120_25 rfl ?_
          refine ps_s_vV [_] _ p120_26 rfl rf_o rfl rfl rfl (rf_dropSeg hm hr' hlen (by omega) (by omega) (fun a1 a2 a3 a4 a5 a6 a7 a8 a9 q1 q2 q3 q4 => ps_bkv ?_) d (by omega))
          have e := er_mid L' R g
          rw [hL'] at e
          rw [show L' ++ ([g] ++ R) = L' ++ g :: R from rfl, e] at q1
          refine step R _ _ _ _ _ _ _ _ _ q1 (q2.trans hB) (by omega) (by omega) ?_
          rw [← hf, List.filter_cons, if_neg (by rw [hg]; decide)]
          rfl
  have hcl := hr.2.2.2.1
  refine ps_s_al p120_0 rfl ?_
  refine ps_s_k p120_1 ?_
  refine rf_s_li hm p120_2 (by omega) ?_
  refine ps_s_al p120_5 rfl ?_
  refine rf_g_cn p120_6 ?_
  refine ps_s_k p120_9 ?_
  refine ps_s_2 p120_10 ?_
  refine ps_s_is1 p120_11 ?_
  refine loop1 sg.length sg [] _ _ _ _ _ _ _ _ _ _ rfl (fun h => by rw [hcl, h]; decide) (fun j h => ?_) (by rw [List.append_nil]; exact hr) rfl (Nat.le_refl _) hcn (by rw [List.append_nil])
  rw [hcl, h, ← Int32.ofNat_sub _ _ (by omega)]
  rfl
end RFG
