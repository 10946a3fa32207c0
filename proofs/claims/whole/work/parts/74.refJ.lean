/-! The reference: a merge. -/
def chR (i j : Nat) (r : pRow) : Bool := (decide (i ≤ r.2.1) && decide (r.2.1 ≤ j)) && !decide (r.2.2.1 = 1)
theorem ch_out {i j k : Nat} (h : k < i ∨ j < k) (g : List pD) : (g.map (tag k)).filter (chR i j) = [] := by
  induction g with
  | nil => rfl
  | cons x g ih =>
    have : chR i j (tag k x) = false := by
      unfold chR
      rcases h with h | h
      · rw [decide_eq_false (show ¬ i ≤ k by omega)]; rfl
      · rw [decide_eq_false (show ¬ k ≤ j by omega), Bool.and_false]; rfl
    rw [List.map_cons, List.filter_cons, this, ih]
    rfl
theorem ch_in {i j k : Nat} (h : i ≤ k ∧ k ≤ j) (g : List pD) : (g.map (tag k)).filter (chR i j) = (g.filter (fun x => !decide (x.2.1 = 1))).map (tag k) := by
  induction g with
  | nil => rfl
  | cons x g ih =>
    have : chR i j (tag k x) = !decide (x.2.1 = 1) := by
      unfold chR
      rw [decide_eq_true (show i ≤ k from h.1), decide_eq_true (show k ≤ j from h.2)]
      rfl
    rw [List.map_cons, List.filter_cons, List.filter_cons, this, ih]
    cases (!decide (x.2.1 = 1)) <;> rfl
theorem ch_fl_out {i j : Nat} : ∀ (r : List (List pD)) (k : Nat), (k + r.length ≤ i ∨ j < k) → (flat k r).filter (chR i j) = [] := by
  intro r
  induction r with
  | nil => intro k _; rfl
  | cons g r ih =>
    intro k h
    rw [List.length_cons] at h
    rw [flat_c, List.filter_append, ch_out (by omega), ih (k + 1) (by omega)]
    rfl
theorem ch_fl_in {i j : Nat} : ∀ (M : List pG) (k : Nat), i ≤ k → k + M.length ≤ j + 1 → ((flat k (M.map (·.2))).filter (chR i j)).map (·.1) = (mrg M).map (·.1) := by
  intro M
  induction M with
  | nil => intro k _ _; rfl
  | cons g M ih =>
    intro k h1 h2
    rw [List.length_cons] at h2
    rw [List.map_cons, flat_c, List.filter_append, List.map_append, ch_in (by omega), ih (k + 1) (by omega) (by omega)]
    unfold mrg
    rw [List.flatMap_cons, List.filter_append, List.map_append, List.map_map]
    rfl
theorem ch_all {L M R : List pG} {i j : Nat} (hL : L.length = i) (hM : i + M.length = j + 1) : ((flat 0 ((L ++ (M ++ R)).map (·.2))).filter (chR i j)).map (·.1) = (mrg M).map (·.1) := by
  rw [List.map_append, List.map_append, flat_app, flat_app, List.filter_append, List.filter_append, ch_fl_out _ _ (by rw [List.length_map]; omega), Nat.zero_add, List.length_map, List.length_map, hL, ch_fl_out (R.map (·.2)) _ (by omega), List.append_nil, List.nil_append, ch_fl_in _ _ (Nat.le_refl _) (by omega)]
theorem cho_mrg {aK aL aT aS aX aM aC : Nat → Nat} {dc bf i j : Nat} (hall : dc + bf ≤ 200) (hC : ∀ x, x < 200 → aC x = bN (decide (x < dc) && chR i j (rowOf aK aL aT aS aX aM x))) :
    ∀ b, b ≤ bf → cho aK aL aT aC 0 (dc + b) = ((rws (rowOf aK aL aT aS aX aM) 0 dc).filter (chR i j)).map (·.1) := by
  intro b hb
  have g2 : ∀ n d, dc ≤ d → d + n = dc + b → cho aK aL aT aC d n = [] := by
    intro n
    induction n with
    | zero => intro d _ _; rfl
    | succ n ih =>
      intro d h1 h2
      have e := hC d (by omega)
      rw [decide_eq_false (by omega), Bool.false_and] at e
      rw [cho_s, if_neg (by rw [e]; decide), ih (d + 1) (by omega) (by omega)]
  have g1 : ∀ n d, d + n = dc → cho aK aL aT aC d (n + b) = ((rws (rowOf aK aL aT aS aX aM) d n).filter (chR i j)).map (·.1) := by
    intro n
    induction n with
    | zero => intro d h; rw [Nat.zero_add, g2 b d (by omega) (by omega)]; rfl
    | succ n ih =>
      intro d h
      have e := hC d (by omega)
      rw [decide_eq_true (by omega), Bool.true_and] at e
      rw [show n + 1 + b = (n + b) + 1 by omega, cho_s, ih (d + 1) (by omega), rws_s, List.filter_cons]
      cases hc : chR i j (rowOf aK aL aT aS aX aM d) with
      | true => rw [hc] at e; rw [if_pos (show aC d = 1 from e), if_pos rfl]; rfl
      | false => rw [hc] at e; rw [if_neg (by rw [e]; decide), if_neg (by decide)]
  exact g1 dc 0 (by omega)
def mgN (nn : Nat) (M : List pG) : List pG := if mrg M = [] then [] else [(nn, mrg M)]
def mgB (nn : Nat) (L M R : List pG) : Nat := (if mrg M = [] then 0 else (sB ((mrg M).map (·.1))).length) + (lG 0 (L ++ (mgN nn M ++ R))).length
def eM (nn i j mn s : Nat) (g : pG) : List Nat := if s < i ∨ j < s then eG 0 g else if s = i ∧ 0 < mn then vi nn ++ vi 0 else []
def mBs (nn i j mn : Nat) : Nat → List pG → List Nat
  | _, [] => []
  | s, g :: R => eM nn i j mn s g ++ mBs nn i j mn (s + 1) R
theorem mBs_c (nn i j mn s : Nat) (g : pG) (R : List pG) : mBs nn i j mn s (g :: R) = eM nn i j mn s g ++ mBs nn i j mn (s + 1) R := rfl
theorem mBs_app (nn i j mn : Nat) : ∀ (A B : List pG) (s : Nat), mBs nn i j mn s (A ++ B) = mBs nn i j mn s A ++ mBs nn i j mn (s + A.length) B := by
  intro A
  induction A with
  | nil => intro B s; rfl
  | cons g A ih => intro B s; rw [List.cons_append, mBs_c, mBs_c, ih, List.append_assoc, List.length_cons, show s + 1 + A.length = s + (A.length + 1) by omega]
theorem mBs_out {nn i j mn : Nat} : ∀ (A : List pG) (s : Nat), (s + A.length ≤ i ∨ j < s) → mBs nn i j mn s A = A.flatMap (eG 0) := by
  intro A
  induction A with
  | nil => intro s _; rfl
  | cons g A ih =>
    intro s h
    rw [List.length_cons] at h
    rw [mBs_c, ih (s + 1) (by omega), List.flatMap_cons]
    unfold eM
    rw [if_pos (by omega)]
theorem mBs_in {nn i j mn : Nat} : ∀ (A : List pG) (s : Nat), i < s → s + A.length ≤ j + 1 → mBs nn i j mn s A = [] := by
  intro A
  induction A with
  | nil => intro s _ _; rfl
  | cons g A ih =>
    intro s h1 h2
    rw [List.length_cons] at h2
    rw [mBs_c, ih (s + 1) (by omega) (by omega)]
    unfold eM
    rw [if_neg (by omega), if_neg (by omega)]
    rfl
theorem mrg_al (M : List pG) : ∀ x ∈ mrg M, gnD 0 x = false := by
  intro x hx
  have h2 : decide (x.2.1 = 1) = false := by
    have := (List.mem_filter.mp hx).2
    revert this
    generalize decide (x.2.1 = 1) = q
    cases q <;> decide
  unfold gnD
  rw [h2]
  rfl
theorem gc_z : ∀ (l : List pD), (∀ x ∈ l, gnD 0 x = false) → gc (l.map (gnD 0)) = 0 := by
  intro l
  induction l with
  | nil => intro _; rfl
  | cons x l ih => intro h; rw [List.map_cons, gc_c, h x List.mem_cons_self, ih (fun y hy => h y (List.mem_cons_of_mem _ hy))]; rfl
theorem dB_z : ∀ (l : List pD) (o b : Nat), (∀ x ∈ l, gnD 0 x = false) → dB o b (l.map (gnD 0)) = [] := by
  intro l
  induction l with
  | nil => intro o b _; rfl
  | cons x l ih => intro o b h; rw [List.map_cons, dB_c, h x List.mem_cons_self, if_neg (by decide), ih _ _ (fun y hy => h y (List.mem_cons_of_mem _ hy))]
theorem eG_mrg (nn : Nat) (M : List pG) : eG 0 (nn, mrg M) = vi nn ++ vi 0 := by
  unfold eG eB
  rw [gc_z _ (mrg_al M), dB_z _ _ _ (mrg_al M), List.append_nil]
theorem mBs_all {nn i j : Nat} {L M R : List pG} {g : pG} (hL : L.length = i) (hM : i + (g :: M).length = j + 1) :
    vi (L ++ (mgN nn (g :: M) ++ R)).length ++ mBs nn i j (mrg (g :: M)).length 0 (L ++ ((g :: M) ++ R)) = lG 0 (L ++ (mgN nn (g :: M) ++ R)) := by
  rw [List.length_cons] at hM
  unfold lG
  rw [mBs_app, mBs_app, mBs_out L 0 (by omega), Nat.zero_add, hL, List.length_cons, mBs_out R _ (by omega), List.flatMap_append, List.flatMap_append, mBs_c, mBs_in M (i + 1) (by omega) (by omega), List.append_nil]
  congr 3
  unfold eM
  rw [if_neg (by omega)]
  unfold mgN
  by_cases h : mrg (g :: M) = []
  · rw [if_pos h, if_neg (by rw [h]; simp)]
    rfl
  · have : 0 < (mrg (g :: M)).length := by
      cases hq : mrg (g :: M) with
      | nil => exact absurd hq h
      | cons x l => rw [List.length_cons]; omega
    rw [if_neg h, if_pos ⟨rfl, this⟩]
    show _ = eG 0 (nn, mrg (g :: M)) ++ []
    rw [List.append_nil, eG_mrg]
section RFJ
variable {h0 : pm_S} {m r0 tw df dc bf cn nn li sz pl : Nat} {P : Int32} {aD aK aL aT aS aX aM aC aN aO aQ aB aV aH : Nat → Nat} {G : pm_G} {Q : pm_Q}
theorem rf_merge_bad (hm : G.1 ≤ m) {a b : Int32} (hcn : cn ≤ 10) (hno : ¬ ∃ i j : Nat, a = Int32.ofNat i ∧ b = Int32.ofNat j ∧ i < j ∧ j < cn) (hQ : Q (.inl (some (iN 0))) (rf h0 m r0 (1) df dc bf cn nn li P sz pl aD aK aL aT aS aX aM aC aN aO aQ aB aV aH)) : ps_M G 2 122 [.ref m, .int a, .int b] (rf h0 m r0 tw df dc bf cn nn li P sz pl aD aK aL aT aS aX aM aC aN aO aQ aB aV aH) Q := by
  refine ps_M_in (e122 _ _ _) l122 (fun d hd => ?_)
  have ref : ps_X G d 122 26 [some (.ref m), some (.int a), some (.int b), none, none, none, none] [] (rf h0 m r0 (0) df dc bf cn nn li P sz pl aD aK aL aT aS aX aM aC aN aO aQ aB aV aH) Q := by
    refine ps_s_al p122_26 rfl ?_
    refine ps_s_k p122_27 ?_
    refine ps_s_vV [_] _ p122_28 rfl rf_o rfl rfl rfl (rf_refuse hm (ps_bki ?_) d (by omega))
    refine ps_s_ri p122_31 t122 ?_
    exact hQ
  refine ps_s_al p122_0 rfl ?_
  refine ps_s_k p122_1 ?_
  refine rf_s_tw hm p122_2 ?_
  refine ps_s_il p122_5 rfl ?_
  refine ps_s_j0 p122_6 (fun _ => ref) (fun c1 => ?_)
  refine ps_s_il p122_9 rfl ?_
  refine ps_s_j0 p122_10 (fun _ => ref) (fun c2 => ?_)
  have ha : 0 ≤ a := Int32.not_lt.mp (of_decide_eq_false c1)
  have hb : 0 ≤ b := Int32.not_lt.mp (of_decide_eq_false c2)
  have ea := Int32.ofNat_toNatClampNeg a ha
  have eb := Int32.ofNat_toNatClampNeg b hb
  have la := Int32.toNatClampNeg_lt a
  have lb := Int32.toNatClampNeg_lt b
  generalize a.toNatClampNeg = i at ea la
  generalize b.toNatClampNeg = j at eb lb
  subst ea eb
  refine ps_s_il p122_13 rfl ?_
  refine ps_s_al p122_14 rfl ?_
  refine rf_g_cn p122_15 ?_
  refine ps_s_ge p122_18 (by omega) (by omega) (fun c18 => ?_) (fun c18 => ?_)
  · exact ref
  · refine ps_s_il p122_21 rfl ?_
    refine ps_s_il p122_22 rfl ?_
    refine ps_s_lt p122_23 (by omega) (by omega) (fun c23 => ?_) (fun c23 => ?_)
    · exact absurd ⟨i, j, rfl, rfl, c23, by omega⟩ hno
    · exact ref
theorem rf_merge (hm : G.1 ≤ m) {L M R : List pG} {g : pG} {pw : Option Nat} {i j : Nat} (hr : rS (L ++ ((g :: M) ++ R)) dc cn aK aL aT aS aX aM aN) (hL : L.length = i) (hM : i + (g :: M).length = j + 1) (hij : i < j) (hj : j < cn) (hcn : cn ≤ 10) (hall : dc + bf ≤ 200) (hnn : nn < 999) (hli : li ≤ 1) (hC : ∀ j, aC j ≤ 1) (hr0 : r0 ≤ 800) (hP : P = pwI pw) (hpw : ∀ p, pw = some p → p < 2147483648)
    (hl0 : (lG 0 (L ++ ((g :: M) ++ R))).length ≤ 1400) (hl1 : (lG 0 (L ++ (mgN nn (g :: M) ++ R))).length ≤ 1400) (hgs : ∀ x ∈ L ++ ((g :: M) ++ R), srt 0 (x.2.map (·.1)) ∧ (bG x).length ≤ 1400) (hbs : srt 0 ((mrg (g :: M)).map (·.1))) (hbl : (sB ((mrg (g :: M)).map (·.1))).length ≤ 1400) (hu : uG li (L ++ ((g :: M) ++ R)) ≤ r0)
    (K1 : r0 - uG li (L ++ ((g :: M) ++ R)) < mgB nn L (g :: M) R → ∀ (aC aO : Nat → Nat) (sz : Nat), (∀ j, aC j ≤ 1) → sz ≤ 1400 → Q (.inl (some (iN 0))) (rf h0 m r0 (2) df dc bf cn nn li P sz pl aD aK aL aT aS aX aM aC aN aO aQ aB aV aH))
    (K2 : ¬ r0 - uG li (L ++ ((g :: M) ++ R)) < mgB nn L (g :: M) R → cutB pw (mgB nn L (g :: M) R) = true → ∀ (aC aO : Nat → Nat) (sz : Nat), (∀ j, aC j ≤ 1) → sz ≤ 1400 → Q (.inl (some (.int (-1)))) (rf h0 m r0 (0) (0) dc (0) cn nn li (-1) sz pl aD aK aL aT aS aX (fun j => if j < dc then 0 else aM j) aC aN aO aQ aB aV aH))
    (K3 : ¬ r0 - uG li (L ++ ((g :: M) ++ R)) < mgB nn L (g :: M) R → cutB pw (mgB nn L (g :: M) R) = false → ∀ (aC aO : Nat → Nat) (sz : Nat), (∀ j, aC j ≤ 1) → sz ≤ 1400 → ∀ (aK' aL' aT' aS' aX' aM' aN' : Nat → Nat) (dc' cn' : Nat), rS (L ++ (mgN nn (g :: M) ++ R)) dc' cn' aK' aL' aT' aS' aX' aM' aN' → rws (rowOf aK' aL' aT' aS' aX' aM') dc' bf = rws (rowOf aK aL aT aS aX aM) dc bf → dc' ≤ dc →
      Q (.inl (some (iN (mgB nn L (g :: M) R)))) (rf h0 m r0 (0) df (dc') bf (cn') (if mrg (g :: M) = [] then nn else nn + 1) (1) (pwI (pw.map (· - mgB nn L (g :: M) R))) sz pl aD (aK') (aL') (aT') (aS') (aX') (aM') aC (aN') aO aQ aB aV aH)) : ps_M G 6 122 [.ref m, iN i, iN j] (rf h0 m r0 tw df dc bf cn nn li P sz pl aD aK aL aT aS aX aM aC aN aO aQ aB aV aH) Q := by
  refine ps_M_in (e122 _ _ _) l122 (fun d hd => ?_)
  have hcl := hr.2.2.2.1
  have hNlt := hr.2.1
  have hS := hr.1.2.2.2.1
  have hX := hr.1.2.2.2.2.1
  have hM2 := hr.1.2.2.2.2.2
  have hmn : (mrg (g :: M)).length = 0 ↔ mrg (g :: M) = [] := List.length_eq_zero_iff
  have hlen : (L ++ (mgN nn (g :: M) ++ R)).length = if mrg (g :: M) = [] then cn - j + i - 1 else cn - j + i := by
    rw [List.length_append, List.length_append, hL]
    rw [List.length_append, List.length_append, hL] at hcl
    unfold mgN
    split
    · rw [List.length_nil]; omega
    · rw [List.length_singleton]; omega
  have hmall := mBs_all (nn := nn) (R := R) hL hM
  have hl1' := hl1
  rw [← hmall, List.length_append] at hl1'
  have hmn200 : (mrg (g :: M)).length ≤ 200 := by
    have e := congrArg List.length (ch_all (R := R) hL hM)
    rw [List.length_map, List.length_map, ← hr.2.2.1] at e
    have := List.length_filter_le (chR i j) (rws (rowOf aK aL aT aS aX aM) 0 dc)
    rw [rws_len] at this
    omega
  have fin : ∀ (aC aO : Nat → Nat) sz b u6, (∀ j, aC j ≤ 1) → sz ≤ 1400 → b ≤ 1400 → b + sz = mgB nn L (g :: M) R → ps_X G d 122 240 [some (.ref m), some (iN i), some (iN j), some (iN (r0 - uG li (L ++ ((g :: M) ++ R)))), some (iN (mrg (g :: M)).length), some (iN b), u6] [] (rf h0 m r0 (0) df dc bf cn nn li P sz pl aD aK aL aT aS aX aM aC aN aO aQ aB aV aH) Q := by
    intro aC aO sz b u6 hC hz hbb hcm
    refine ps_s_il p122_240 rfl ?_
    refine ps_s_al p122_242 rfl ?_
    refine rf_g_sz p122_243 ?_
    first | refine ps_s_add p122_246 ?_ | refine ps_s_2 p122_246 ?_
    refine ps_s_is5 p122_247 ?_
    refine ps_s_il p122_249 rfl ?_
    refine ps_s_il p122_251 rfl ?_
    refine ps_s_le p122_252 (by omega) (by omega) (fun c252 => ?_) (fun c252 => ?_)
    · refine ps_s_al p122_261 rfl ?_
      refine ps_s_il p122_262 rfl ?_
      have hnr : ¬ r0 - uG li (L ++ ((g :: M) ++ R)) < mgB nn L (g :: M) R := by omega
      refine ps_s_vV [_] _ p122_264 rfl rf_o rfl rfl rfl (rf_isCut hm (by omega) hP hpw (by omega) (fun hc => ps_bki ?_) (fun hc => ps_bki ?_) d (by omega))
      · rw [hcm] at hc
        have jn : ∀ sm, sm ≤ 1 → (sm = 1 ↔ ¬ mrg (g :: M) = []) → ps_X G d 122 285 [some (.ref m), some (iN i), some (iN j), some (iN (r0 - uG li (L ++ ((g :: M) ++ R)))), some (iN (mrg (g :: M)).length), some (iN (b + sz)), u6] [iN sm, iN j, iN i, .ref m] (rf h0 m r0 (0) df dc bf cn nn li (pwI (pw.map (· - (b + sz)))) sz pl aD aK aL aT aS aX aM aC aN aO aQ aB aV aH) Q := by
          intro sm hsm hiff
          refine ps_s_vV [_, _, _] _ p122_285 rfl rf_o rfl rfl rfl (rf_join hm hr hL hM hj hsm hcn hall hnn (fun a1 a2 a3 a4 a5 a6 a7 a8 a9 q1 q2 q3 => ps_bkv ?_) d (by omega))
          refine ps_s_il p122_288 rfl ?_
          refine ps_s_ri p122_290 t122 ?_
          have hq1 : rS (L ++ (mgN nn (g :: M) ++ R)) a8 a9 a1 a2 a3 a4 a5 a6 a7 := by
            unfold mgN
            by_cases h : mrg (g :: M) = []
            · rw [if_neg (fun e => hiff.mp e h)] at q1; rw [if_pos h]; exact q1
            · rw [if_pos (hiff.mpr h)] at q1; rw [if_neg h]; exact q1
          have := K3 hnr hc aC aO sz hC hz a1 a2 a3 a4 a5 a6 a7 a8 a9 hq1 q2 q3
          rw [← hcm] at this
          by_cases h : mrg (g :: M) = []
          · rw [if_pos h] at this; rw [if_neg (fun e => hiff.mp e h)]; exact this
          · rw [if_neg h] at this; rw [if_pos (hiff.mpr h)]; exact this
        refine ps_s_eq0 p122_267 (by omega) (fun c267 => ?_) (fun c267 => ?_)
        · refine ps_s_al p122_272 rfl ?_
          refine ps_s_il p122_273 rfl ?_
          refine ps_s_il p122_274 rfl ?_
          refine ps_s_il p122_275 rfl ?_
          refine ps_s_le0 p122_277 (by omega) (fun c277 => ?_) (fun c277 => ?_)
          · refine ps_s_k p122_284 ?_
            exact jn 0 (by omega) ⟨fun h => absurd h (by decide), fun h => absurd (hmn.mp (by omega)) h⟩
          · refine ps_s_k p122_280 ?_
            refine ps_s_go p122_281 ?_
            exact jn 1 (by omega) ⟨fun _ h => by have := hmn.mpr h; omega, fun _ => rfl⟩
        · omega
      · rw [hcm] at hc
        refine ps_s_eq0 p122_267 (by omega) (fun c267 => ?_) (fun c267 => ?_)
        · omega
        · refine ps_s_k p122_270 ?_
          refine ps_s_ri p122_271 t122 ?_
          exact K2 hnr hc aC aO sz hC hz
    · refine ps_s_al p122_255 rfl ?_
      refine ps_s_k p122_256 ?_
      refine ps_s_vV [_] _ p122_257 rfl rf_o rfl rfl rfl (rf_refuse hm (ps_bki ?_) d (by omega))
      refine ps_s_ri p122_260 t122 ?_
      exact K1 (by omega) aC aO sz hC hz
  have loopB : ∀ (T H : List pG) (aC aO : Nat → Nat) sz b, L ++ ((g :: M) ++ R) = H ++ T → sz + (mBs nn i j (mrg (g :: M)).length H.length T).length ≤ 1400 → ps_X G d 122 240 [some (.ref m), some (iN i), some (iN j), some (iN (r0 - uG li (L ++ ((g :: M) ++ R)))), some (iN (mrg (g :: M)).length), some (iN b), some (iN cn)] [] (rf h0 m r0 (0) df dc bf cn nn li P (sz + (mBs nn i j (mrg (g :: M)).length H.length T).length) pl aD aK aL aT aS aX aM aC aN (ap aO sz (mBs nn i j (mrg (g :: M)).length H.length T)) aQ aB aV aH) Q → ps_X G d 122 179 [some (.ref m), some (iN i), some (iN j), some (iN (r0 - uG li (L ++ ((g :: M) ++ R)))), some (iN (mrg (g :: M)).length), some (iN b), some (iN H.length)] [] (rf h0 m r0 (0) df dc bf cn nn li P sz pl aD aK aL aT aS aX aM aC aN aO aQ aB aV aH) Q := by
    intro T
    induction T with
    | nil =>
      intro H aC aO sz b he hs K
      have hH : H.length = cn := by rw [hcl, he, List.append_nil]
      rw [show mBs nn i j (mrg (g :: M)).length H.length [] = [] from rfl, ap_nil] at K
      rw [hH]
      refine ps_s_il p122_179 rfl ?_
      refine ps_s_al p122_181 rfl ?_
      refine rf_g_cn p122_182 ?_
      refine ps_s_ge p122_185 (by omega) (by omega) (fun c185 => ?_) (fun c185 => ?_)
      · exact K
      · omega
    | cons x T ih =>
      intro H aC aO sz b he hs K
      obtain ⟨a1, a2, a3, a4, a5⟩ := rS_at (he ▸ hr)
      rw [mBs_c, List.length_append] at hs
      rw [mBs_c, List.length_append, ← ap_ap, ← Nat.add_assoc] at K
      have nxt : ∀ (aO' : Nat → Nat) sz', aO' = ap aO sz (eM nn i j (mrg (g :: M)).length H.length x) → sz' = sz + (eM nn i j (mrg (g :: M)).length H.length x).length → ps_X G d 122 234 [some (.ref m), some (iN i), some (iN j), some (iN (r0 - uG li (L ++ ((g :: M) ++ R)))), some (iN (mrg (g :: M)).length), some (iN b), some (iN H.length)] [] (rf h0 m r0 (0) df dc bf cn nn li P (sz') pl aD aK aL aT aS aX aM aC aN (aO') aQ aB aV aH) Q := by
        intro aO' sz' q1 q2
        subst q1 q2
        refine ps_s_in6 p122_234 ?_
        refine ps_s_go p122_237 ?_
        have := ih (H ++ [x]) aC (ap aO sz (eM nn i j (mrg (g :: M)).length H.length x)) (sz + (eM nn i j (mrg (g :: M)).length H.length x).length) b (by rw [he, List.append_assoc]; rfl) (by rw [List.length_append, List.length_singleton]; omega) (by rw [List.length_append, List.length_singleton]; exact K)
        rw [List.length_append, List.length_singleton] at this
        exact this
      have wr : (H.length < i ∨ j < H.length) → ps_X G d 122 200 [some (.ref m), some (iN i), some (iN j), some (iN (r0 - uG li (L ++ ((g :: M) ++ R)))), some (iN (mrg (g :: M)).length), some (iN b), some (iN H.length)] [] (rf h0 m r0 (0) df dc bf cn nn li P sz pl aD aK aL aT aS aX aM aC aN aO aQ aB aV aH) Q := by
        intro h
        have e : eM nn i j (mrg (g :: M)).length H.length x = eG 0 x := by unfold eM; rw [if_pos h]
        have e2 : eB (aN H.length) (gfl aS aX aM H.length 0 0 dc) = eG 0 x := by rw [a1, a4]; rfl
        rw [e] at hs
        refine ps_s_al p122_200 rfl ?_
        refine ps_s_il p122_201 rfl ?_
        refine ps_s_k p122_203 ?_
        refine ps_s_vV [_, _] _ p122_204 rfl rf_o rfl rfl rfl (rf_writeEntry hm (by omega) (by omega) (by omega) hS hX hM2 hNlt (by rw [e2]; omega) (ps_bkv ?_) d (by omega))
        refine ps_s_go p122_207 ?_
        rw [e2]
        exact nxt _ _ (by rw [e]) (by rw [e])
      refine ps_s_il p122_179 rfl ?_
      refine ps_s_al p122_181 rfl ?_
      refine rf_g_cn p122_182 ?_
      refine ps_s_ge p122_185 (by omega) (by omega) (fun c185 => ?_) (fun c185 => ?_)
      · omega
      · refine ps_s_il p122_188 rfl ?_
        refine ps_s_il p122_190 rfl ?_
        refine ps_s_lt p122_191 (by omega) (by omega) (fun c191 => ?_) (fun c191 => ?_)
        · exact wr (by omega)
        · refine ps_s_il p122_194 rfl ?_
          refine ps_s_il p122_196 rfl ?_
          refine ps_s_le p122_197 (by omega) (by omega) (fun c197 => ?_) (fun c197 => ?_)
          · refine ps_s_il p122_210 rfl ?_
            refine ps_s_il p122_212 rfl ?_
            refine ps_s_ne p122_213 (by omega) (by omega) (fun c213 => ?_) (fun c213 => ?_)
            · have e : eM nn i j (mrg (g :: M)).length H.length x = [] := by unfold eM; rw [if_neg (by omega), if_neg (by omega)]
              exact nxt _ _ (by rw [e, ap_nil]) (by rw [e]; rfl)
            · refine ps_s_il p122_216 rfl ?_
              refine ps_s_le0 p122_218 (by omega) (fun c218 => ?_) (fun c218 => ?_)
              · have e : eM nn i j (mrg (g :: M)).length H.length x = [] := by unfold eM; rw [if_neg (by omega), if_neg (by omega)]
                exact nxt _ _ (by rw [e, ap_nil]) (by rw [e]; rfl)
              · have e : eM nn i j (mrg (g :: M)).length H.length x = vi nn ++ vi 0 := by unfold eM; rw [if_neg (by omega), if_pos (by omega)]
                rw [e, List.length_append] at hs
                refine ps_s_al p122_221 rfl ?_
                refine ps_s_al p122_222 rfl ?_
                refine rf_g_nn p122_223 ?_
                refine ps_s_vV [_] _ p122_226 rfl rf_o rfl rfl rfl (rf_write hm (by omega) (by omega) (ps_bkv ?_) d (by omega))
                refine ps_s_al p122_229 rfl ?_
                refine ps_s_k p122_230 ?_
                refine ps_s_vV [_] _ p122_231 rfl rf_o rfl rfl rfl (rf_write hm (by omega) (by omega) (ps_bkv ?_) d (by omega))
                exact nxt _ _ (by rw [e, ← ap_ap]) (by rw [e, List.length_append]; omega)
          · exact wr (by omega)
  have at141 : ∀ (aC aO : Nat → Nat) sz b u6, (∀ j, aC j ≤ 1) → b ≤ 1400 → b = (if mrg (g :: M) = [] then 0 else (sB ((mrg (g :: M)).map (·.1))).length) → ps_X G d 122 141 [some (.ref m), some (iN i), some (iN j), some (iN (r0 - uG li (L ++ ((g :: M) ++ R)))), some (iN (mrg (g :: M)).length), some (iN b), u6] [] (rf h0 m r0 (0) df dc bf cn nn li P sz pl aD aK aL aT aS aX aM aC aN aO aQ aB aV aH) Q := by
    intro aC aO sz b u6 hC hb1 hbe
    have go : ∀ w, w = (L ++ (mgN nn (g :: M) ++ R)).length → ps_X G d 122 173 [some (.ref m), some (iN i), some (iN j), some (iN (r0 - uG li (L ++ ((g :: M) ++ R)))), some (iN (mrg (g :: M)).length), some (iN b), u6] [iN w, .ref m] (rf h0 m r0 (0) df dc bf cn nn li P (0) pl aD aK aL aT aS aX aM aC aN aO aQ aB aV aH) Q := by
      intro w hw
      subst hw
      have : (L ++ (mgN nn (g :: M) ++ R)).length ≤ 12 := by rw [hlen]; split <;> omega
      refine ps_s_vV [_] _ p122_173 rfl rf_o rfl rfl rfl (rf_write hm (by omega) (by omega) (ps_bkv ?_) d (by omega))
      refine ps_s_k p122_176 ?_
      refine ps_s_is6 p122_177 ?_
      refine loopB (L ++ ((g :: M) ++ R)) [] _ _ _ _ rfl (by rw [List.length_nil]; omega) ?_
      refine fin _ _ _ _ _ hC (by rw [List.length_nil]; omega) hb1 ?_
      unfold mgB
      rw [← hbe, ← hmall, List.length_append (as := vi _), List.length_nil]
      omega
    refine ps_s_al p122_141 rfl ?_
    refine ps_s_k p122_142 ?_
    refine rf_s_sz hm p122_143 ?_
    refine ps_s_al p122_146 rfl ?_
    refine ps_s_il p122_147 rfl ?_
    refine ps_s_le0 p122_149 (by omega) (fun c149 => ?_) (fun c149 => ?_)
    · refine ps_s_al p122_163 rfl ?_
      refine rf_g_cn p122_164 ?_
      refine ps_s_il p122_167 rfl ?_
      first | refine ps_s_sub p122_168 (by omega) ?_ | refine ps_s_2 p122_168 ?_
      refine ps_s_il p122_169 rfl ?_
      first | refine ps_s_add p122_170 ?_ | refine ps_s_2 p122_170 ?_
      refine ps_s_k p122_171 ?_
      first | refine ps_s_sub p122_172 (by omega) ?_ | refine ps_s_2 p122_172 ?_
      refine go _ ?_
      rw [hlen, if_pos (hmn.mp (by omega))]
    · refine ps_s_al p122_152 rfl ?_
      refine rf_g_cn p122_153 ?_
      refine ps_s_il p122_156 rfl ?_
      first | refine ps_s_sub p122_157 (by omega) ?_ | refine ps_s_2 p122_157 ?_
      refine ps_s_il p122_158 rfl ?_
      first | refine ps_s_add p122_159 ?_ | refine ps_s_2 p122_159 ?_
      refine ps_s_go p122_160 ?_
      refine go _ ?_
      rw [hlen, if_neg (fun h => by have := hmn.mpr h; omega)]
  have loopC : ∀ n x (aC aO : Nat → Nat) sz, x + n = 200 → (∀ y, y < x → aC y = bN (decide (y < dc) && chR i j (rowOf aK aL aT aS aX aM y))) → (∀ y, aC y ≤ 1) → ps_X G d 122 45 [some (.ref m), some (iN i), some (iN j), some (iN (r0 - uG li (L ++ ((g :: M) ++ R)))), some (iN x), none, none] [] (rf h0 m r0 (0) df dc bf cn nn li P sz pl aD aK aL aT aS aX aM aC aN aO aQ aB aV aH) Q := by
    intro n
    induction n with
    | zero =>
      intro x aC aO sz hx h1 h2
      have hch := cho_mrg (aK := aK) (aL := aL) (aT := aT) (aS := aS) (aX := aX) (aM := aM) hall (fun y hy => h1 y (by omega))
      rw [hr.2.2.1, ch_all hL hM] at hch
      have e0 := hch 0 (by omega)
      rw [Nat.add_zero] at e0
      have e1 := hch bf (by omega)
      refine ps_s_il p122_45 rfl ?_
      refine ps_s_k p122_47 ?_
      refine ps_s_ge p122_50 (by omega) (by omega) (fun c50 => ?_) (fun c50 => ?_)
      · refine ps_s_al p122_112 rfl ?_
        refine ps_s_k p122_113 ?_
        refine ps_s_al p122_114 rfl ?_
        refine rf_g_dc p122_115 ?_
        refine ps_s_vV [_, _] _ p122_118 rfl rf_o rfl rfl rfl (rf_chosenMany hm (by omega) h2 (ps_bki ?_) d (by omega))
        rw [cho_len aK aL aT, e0, List.length_map]
        refine ps_s_is4 p122_121 ?_
        refine ps_s_k p122_123 ?_
        refine ps_s_is5 p122_124 ?_
        refine ps_s_il p122_126 rfl ?_
        refine ps_s_le0 p122_128 (by omega) (fun c128 => ?_) (fun c128 => ?_)
        · refine at141 _ _ _ _ _ h2 (by omega) ?_
          rw [if_pos (hmn.mp (by omega))]
        · refine ps_s_al p122_131 rfl ?_
          refine ps_s_vV [] _ p122_132 rfl rf_o rfl rfl rfl (rf_writeSegment hm hall hr.1.1 hr.1.2.1 hr.1.2.2.1 h2 (by rw [e1]; exact hbs) (by rw [e1]; exact hbl) (ps_bkv ?_) d (by omega))
          rw [e1]
          refine ps_s_al p122_135 rfl ?_
          refine rf_g_sz p122_136 ?_
          refine ps_s_is5 p122_139 ?_
          refine at141 _ _ _ _ _ h2 hbl ?_
          rw [if_neg (fun h => by have := hmn.mpr h; omega)]
      · omega
    | succ n ih =>
      intro x aC aO sz hx h1 h2
      have hSx := hS x
      have hXx := hX x
      have up : ∀ v, v = bN (decide (x < dc) && chR i j (rowOf aK aL aT aS aX aM x)) → ∀ y, y < x + 1 → va_up aC x v y = bN (decide (y < dc) && chR i j (rowOf aK aL aT aS aX aM y)) := by
        intro v hv y hy
        unfold va_up
        by_cases hyx : y = x
        · rw [if_pos hyx, hv, hyx]
        · rw [if_neg hyx]; exact h1 y (by omega)
      have off : ¬ (x < dc ∧ i ≤ aS x ∧ aS x ≤ j ∧ ¬ aX x = 1) → ps_X G d 122 104 [some (.ref m), some (iN i), some (iN j), some (iN (r0 - uG li (L ++ ((g :: M) ++ R)))), some (iN x), none, none] [iN x, .ref (m + 8)] (rf h0 m r0 (0) df dc bf cn nn li P sz pl aD aK aL aT aS aX aM aC aN aO aQ aB aV aH) Q := by
        intro h
        refine ps_s_k p122_104 ?_
        refine rf_sa_aC hm p122_105 (by omega) (by omega) ?_
        refine ps_s_in4 p122_106 ?_
        refine ps_s_go p122_109 ?_
        refine ih _ _ _ _ (by omega) (up 0 ?_) (up_le h2 (by omega))
        have : (decide (x < dc) && chR i j (rowOf aK aL aT aS aX aM x)) = false := by
          cases hq : (decide (x < dc) && chR i j (rowOf aK aL aT aS aX aM x)) with
          | false => rfl
          | true =>
            exfalso
            apply h
            unfold chR at hq
            simp only [Bool.and_eq_true, decide_eq_true_eq, Bool.not_eq_true', decide_eq_false_iff_not] at hq
            exact ⟨hq.1, hq.2.1.1, hq.2.1.2, hq.2.2⟩
        rw [this]
        rfl
      refine ps_s_il p122_45 rfl ?_
      refine ps_s_k p122_47 ?_
      refine ps_s_ge p122_50 (by omega) (by omega) (fun c50 => ?_) (fun c50 => ?_)
      · omega
      · refine ps_s_al p122_53 rfl ?_
        refine rf_g_aC p122_54 ?_
        refine ps_s_il p122_57 rfl ?_
        refine ps_s_il p122_59 rfl ?_
        refine ps_s_al p122_61 rfl ?_
        refine rf_g_dc p122_62 ?_
        refine ps_s_ge p122_65 (by omega) (by omega) (fun c65 => ?_) (fun c65 => ?_)
        · exact off (by omega)
        · refine ps_s_al p122_68 rfl ?_
          refine rf_g_aS p122_69 ?_
          refine ps_s_il p122_72 rfl ?_
          refine rf_la_aS p122_74 (by omega) ?_
          refine ps_s_il p122_75 rfl ?_
          refine ps_s_lt p122_76 (by omega) (by omega) (fun c76 => ?_) (fun c76 => ?_)
          · exact off (by omega)
          · refine ps_s_al p122_79 rfl ?_
            refine rf_g_aS p122_80 ?_
            refine ps_s_il p122_83 rfl ?_
            refine rf_la_aS p122_85 (by omega) ?_
            refine ps_s_il p122_86 rfl ?_
            refine ps_s_gt p122_87 (by omega) (by omega) (fun c87 => ?_) (fun c87 => ?_)
            · exact off (by omega)
            · refine ps_s_al p122_90 rfl ?_
              refine rf_g_aX p122_91 ?_
              refine ps_s_il p122_94 rfl ?_
              refine rf_la_aX hm p122_96 (by omega) ?_
              refine ps_s_ne0 p122_97 (by omega) (fun c97 => ?_) (fun c97 => ?_)
              · exact off (by omega)
              · refine ps_s_k p122_100 ?_
                refine ps_s_go p122_101 ?_
                refine rf_sa_aC hm p122_105 (by omega) (by omega) ?_
                refine ps_s_in4 p122_106 ?_
                refine ps_s_go p122_109 ?_
                refine ih _ _ _ _ (by omega) (up 1 ?_) (up_le h2 (by omega))
                have : (decide (x < dc) && chR i j (rowOf aK aL aT aS aX aM x)) = true := by
                  unfold chR
                  simp only [Bool.and_eq_true, decide_eq_true_eq, Bool.not_eq_true', decide_eq_false_iff_not]
                  exact ⟨by omega, ⟨show i ≤ aS x by omega, show aS x ≤ j by omega⟩, show ¬ aX x = 1 by omega⟩
                rw [this]
                rfl
  have hlb := rS_lB (li := li) hr
  have hus := rS_us (li := li) hr
  refine ps_s_al p122_0 rfl ?_
  refine ps_s_k p122_1 ?_
  refine rf_s_tw hm p122_2 ?_
  refine ps_s_il p122_5 rfl ?_
  refine ps_s_lt0 p122_6 (by omega) (fun c6 => ?_) (fun c6 => ?_)
  · omega
  · refine ps_s_il p122_9 rfl ?_
    refine ps_s_lt0 p122_10 (by omega) (fun c10 => ?_) (fun c10 => ?_)
    · omega
    · refine ps_s_il p122_13 rfl ?_
      refine ps_s_al p122_14 rfl ?_
      refine rf_g_cn p122_15 ?_
      refine ps_s_ge p122_18 (by omega) (by omega) (fun c18 => ?_) (fun c18 => ?_)
      · omega
      · refine ps_s_il p122_21 rfl ?_
        refine ps_s_il p122_22 rfl ?_
        refine ps_s_lt p122_23 (by omega) (by omega) (fun c23 => ?_) (fun c23 => ?_)
        · refine ps_s_al p122_32 rfl ?_
          refine rf_g_r0 p122_33 ?_
          refine ps_s_al p122_36 rfl ?_
          refine ps_s_vV [] _ p122_37 rfl rf_o rfl rfl rfl (rf_used hm (by omega) hli hall hr.1.1 hr.1.2.1 hr.1.2.2.1 hS hX hM2 hC hNlt (by rw [hlb]; split; exact hl0; exact Nat.zero_le _) (fun s hs => ?_) (fun aC aO sz h1 h2 => ps_bki ?_) d (by omega))
          · obtain ⟨L', g', R', e, hl⟩ := split_at (L ++ ((g :: M) ++ R)) s (by omega)
            have hr2 := hr
            rw [e] at hr2
            obtain ⟨a1, a2, a3, a4, a5⟩ := rS_at hr2
            rw [hl] at a3
            rw [a3]
            exact hgs g' (by rw [e]; exact List.mem_append_right _ List.mem_cons_self)
          · rw [hus]
            first | refine ps_s_sub p122_40 (by omega) ?_ | refine ps_s_2 p122_40 ?_
            refine ps_s_is3 p122_41 ?_
            refine ps_s_k p122_42 ?_
            refine ps_s_is4 p122_43 ?_
            exact loopC 200 0 aC aO sz (by omega) (fun y hy => absurd hy (by omega)) h1
        · omega
end RFJ
