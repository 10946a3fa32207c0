/-! The reference: a commit. -/
/-- what the list says of a segment; the list; what is used -/
def eG (al : Nat) (g : pG) : List Nat := eB g.1 (g.2.map (gnD al))
def lG (al : Nat) (sg : List pG) : List Nat := vi sg.length ++ sg.flatMap (eG al)
def bG (g : pG) : List Nat := sB (g.2.map (·.1))
def uG (li : Nat) (sg : List pG) : Nat := (if li = 1 then (lG 0 sg).length else 0) + (sg.map (fun g => (bG g).length)).sum
theorem rS_at {L R : List pG} {g : pG} {dc cn : Nat} {aK aL aT aS aX aM aN : Nat → Nat} (h : rS (L ++ g :: R) dc cn aK aL aT aS aX aM aN) :
    aN L.length = g.1 ∧ emp aS aX aM dc L.length = !neS g.2 ∧ sdo aK aL aT aS L.length 0 dc = g.2.map (·.1) ∧ (∀ al, gfl aS aX aM L.length al 0 dc = g.2.map (gnD al)) ∧ L.length + R.length + 1 = cn := by
  obtain ⟨h1, h2, h3, h4, h5⟩ := h
  have hlen : L.length < ((L ++ g :: R).map (·.2)).length := by rw [List.length_map, List.length_append, List.length_cons]; omega
  have hg : ((L ++ g :: R).map (·.2)).getD L.length [] = g.2 := by
    rw [List.map_append, List.map_cons]
    have := get_mid (L.map (·.2)) (R.map (·.2)) g.2 ([] : List pD)
    rw [List.length_map] at this
    exact this
  have hc : L.length + (R.length + 1) = cn := by rw [h4, List.length_append, List.length_cons]
  refine ⟨?_, by rw [emp_sel h3 hlen, hg], by rw [sdo_flat h3 hlen, hg], fun al => by rw [gfl_flat h3 hlen, hg], by omega⟩
  rw [← hc, sl_app, Nat.zero_add, List.map_append] at h5
  have := (List.append_inj h5 (by rw [sl_len, List.length_map])).2
  rw [sl_s, List.map_cons] at this
  exact (List.cons.inj this).1
theorem rS_list {dc cn : Nat} {aK aL aT aS aX aM aN : Nat → Nat} : ∀ (R L : List pG), rS (L ++ R) dc cn aK aL aT aS aX aM aN → lsB (fun s => eB (aN s) (gfl aS aX aM s 0 0 dc)) L.length R.length = R.flatMap (eG 0) ∧ sumN (fun s => (sB (sdo aK aL aT aS s 0 dc)).length) L.length R.length = (R.map (fun g => (bG g).length)).sum := by
  intro R
  induction R with
  | nil => intro L _; exact ⟨rfl, rfl⟩
  | cons g R ih =>
    intro L h
    obtain ⟨a1, a2, a3, a4, a5⟩ := rS_at h
    have h' : rS ((L ++ [g]) ++ R) dc cn aK aL aT aS aX aM aN := by rw [List.append_assoc]; exact h
    obtain ⟨i1, i2⟩ := ih (L ++ [g]) h'
    rw [List.length_append, List.length_singleton] at i1 i2
    rw [List.length_cons, lsB_s, sumN_s, i1, i2, a1, a3, a4, List.flatMap_cons, List.map_cons, List.sum_cons]
    exact ⟨rfl, rfl⟩
theorem rS_lB {sg : List pG} {dc cn li : Nat} {aK aL aT aS aX aM aN : Nat → Nat} (h : rS sg dc cn aK aL aT aS aX aM aN) : lB aS aX aM aN li dc cn = if li = 1 then lG 0 sg else [] := by
  obtain ⟨i1, i2⟩ := rS_list sg [] h
  have hc := h.2.2.2.1
  rw [List.length_nil] at i1
  unfold lB lG
  rw [hc, i1]
theorem rS_us {sg : List pG} {dc cn li : Nat} {aK aL aT aS aX aM aN : Nat → Nat} (h : rS sg dc cn aK aL aT aS aX aM aN) : usN aK aL aT aS aX aM aN li dc cn = uG li sg := by
  obtain ⟨i1, i2⟩ := rS_list sg [] h
  have hc := h.2.2.2.1
  rw [List.length_nil] at i2
  unfold usN uG
  rw [rS_lB h, hc, i2]
  split
  · rfl
  · rfl
theorem split_at {α : Type} : ∀ (l : List α) (s : Nat), s < l.length → ∃ L g R, l = L ++ g :: R ∧ L.length = s := by
  intro l
  induction l with
  | nil => intro s h; cases h
  | cons x l ih =>
    intro s h
    cases s with
    | zero => exact ⟨[], x, l, rfl, rfl⟩
    | succ s =>
      obtain ⟨L, g, R, e, hl⟩ := ih s (by rw [List.length_cons] at h; omega)
      exact ⟨x :: L, g, R, by rw [e]; rfl, by rw [List.length_cons, hl]⟩
theorem cho_buf {aK aL aT aS aX aM aC : Nat → Nat} {dc bf : Nat} (hall : dc + bf ≤ 200) (hC : ∀ j, j < 200 → aC j = bN (decide (dc ≤ j) && decide (j < dc + bf))) :
    cho aK aL aT aC 0 (dc + bf) = (rws (rowOf aK aL aT aS aX aM) dc bf).map (·.1) := by
  have g2 : ∀ n d, dc ≤ d → d + n = dc + bf → cho aK aL aT aC d n = (rws (rowOf aK aL aT aS aX aM) d n).map (·.1) := by
    intro n
    induction n with
    | zero => intro d _ _; rfl
    | succ n ih =>
      intro d h1 h2
      have e := hC d (by omega)
      rw [decide_eq_true h1, decide_eq_true (by omega)] at e
      rw [cho_s, if_pos (show aC d = 1 from e), rws_s, List.map_cons, ih (d + 1) (by omega) (by omega)]
      rfl
  have g1 : ∀ n d, d + n = dc → cho aK aL aT aC d (n + bf) = cho aK aL aT aC dc bf := by
    intro n
    induction n with
    | zero => intro d h; rw [Nat.zero_add, show d = dc by omega]
    | succ n ih =>
      intro d h
      have e := hC d (by omega)
      rw [decide_eq_false (by omega), Bool.false_and] at e
      rw [show n + 1 + bf = (n + bf) + 1 by omega, cho_s, if_neg (by rw [e]; decide), ih (d + 1) (by omega)]
  rw [g1 dc 0 (by omega), g2 bf dc (Nat.le_refl _) rfl]
/-- the table holds this buffer -/
def rB (bu : List pDoc) (dc bf : Nat) (aK aL aT aS aX aM : Nat → Nat) : Prop := bf = bu.length ∧ (rws (rowOf aK aL aT aS aX aM) dc bf).map (fun r => (r.1, r.2.2)) = bu.map (fun x => (x, 0, 0))
theorem rB_docs {bu : List pDoc} {dc bf : Nat} {aK aL aT aS aX aM : Nat → Nat} (h : rB bu dc bf aK aL aT aS aX aM) : (rws (rowOf aK aL aT aS aX aM) dc bf).map (·.1) = bu := by
  have := congrArg (List.map (fun q : pDoc × Nat × Nat => q.1)) h.2
  rw [List.map_map, List.map_map] at this
  rw [show ((fun q : pDoc × Nat × Nat => q.1) ∘ fun x : pDoc => (x, 0, 0)) = id from rfl, List.map_id] at this
  exact this
/-- what a commit writes -/
def kpS (sg : List pG) : List pG := sg.filter (fun g => neS g.2)
def nwS (nn : Nat) (bu : List pDoc) : List pG := if bu = [] then [] else [(nn, bu.map (fun x => (x, 0, 0)))]
def cmB (nn : Nat) (sg : List pG) (bu : List pDoc) : Nat := (if bu = [] then 0 else (sB bu).length) + (lG 1 (kpS sg ++ nwS nn bu)).length
theorem gc_f : ∀ bu : List pDoc, gc ((bu.map (fun x => ((x, 0, 0) : pD))).map (gnD 1)) = 0 := by
  intro bu
  induction bu with
  | nil => rfl
  | cons x bu ih => rw [List.map_cons, List.map_cons, gc_c, ih]; rfl
theorem dB_f : ∀ (bu : List pDoc) (o b : Nat), dB o b ((bu.map (fun x => ((x, 0, 0) : pD))).map (gnD 1)) = [] := by
  intro bu
  induction bu with
  | nil => intro o b; rfl
  | cons x bu ih => intro o b; rw [List.map_cons, List.map_cons, dB_c, if_neg (by show ¬ false = true; decide), ih]
theorem lG_new {nn : Nat} {sg : List pG} {bu : List pDoc} (h : ¬ bu = []) : lG 1 (kpS sg ++ nwS nn bu) = vi ((kpS sg).length + 1) ++ ((kpS sg).flatMap (eG 1) ++ (vi nn ++ vi 0)) := by
  unfold lG nwS
  rw [if_neg h, List.length_append, List.flatMap_append]
  congr 2
  show eG 1 _ ++ [] = _
  rw [List.append_nil]
  unfold eG eB
  rw [gc_f, dB_f, List.append_nil]
theorem lG_old {nn : Nat} {sg : List pG} {bu : List pDoc} (h : bu = []) : lG 1 (kpS sg ++ nwS nn bu) = vi (kpS sg).length ++ (kpS sg).flatMap (eG 1) := by
  unfold lG nwS
  rw [if_pos h, List.append_nil]
/-- the power: none, or so many bytes more -/
def pwI : Option Nat → Int32
  | none => -1
  | some p => Int32.ofNat p
def cutB (pw : Option Nat) (x : Nat) : Bool := match pw with
  | none => false
  | some p => decide (p < x)
def dmS (sg : List pG) : Bool := sg.any (fun g => g.2.any (fun x => decide (x.2.2 = 1)))
theorem flat_any (u : pRow → Bool) (v : pD → Bool) (h : ∀ k x, u (tag k x) = v x) : ∀ (sg : List pG) (k : Nat), (flat k (sg.map (·.2))).any u = sg.any (fun g => g.2.any v) := by
  intro sg
  induction sg with
  | nil => intro k; rfl
  | cons g sg ih =>
    intro k
    rw [List.map_cons, flat_c, List.any_append, ih, List.any_cons, List.any_map]
    congr 2
    funext x
    exact h k x
section RFI
variable {h0 : pm_S} {m r0 tw df dc bf cn nn li sz pl : Nat} {P : Int32} {aD aK aL aT aS aX aM aC aN aO aQ aB aV aH : Nat → Nat} {G : pm_G} {Q : pm_Q}
theorem rf_isCut (hm : G.1 ≤ m) {x : Nat} {pw : Option Nat} (hx : x < 2147483648) (hP : P = pwI pw) (hpw : ∀ p, pw = some p → p < 2147483648) (hdc : dc ≤ 200)
    (h1 : cutB pw x = false → Q (.inl (some (iN 0))) (rf h0 m r0 tw df dc bf cn nn li (pwI (pw.map (· - x))) sz pl aD aK aL aT aS aX aM aC aN aO aQ aB aV aH))
    (h2 : cutB pw x = true → Q (.inl (some (iN 1))) (rf h0 m r0 tw (0) dc (0) cn nn li (-1) sz pl aD aK aL aT aS aX (fun j => if j < dc then 0 else aM j) aC aN aO aQ aB aV aH)) : ps_M G 1 119 [.ref m, iN x] (rf h0 m r0 tw df dc bf cn nn li P sz pl aD aK aL aT aS aX aM aC aN aO aQ aB aV aH) Q := by
  cases pw with
  | none => exact rf_isCut_off hm hP (by rw [hP]; exact h1 rfl)
  | some p => exact rf_isCut_on hm hx (hpw p rfl) hP hdc (fun h => h1 (decide_eq_false (by omega))) (fun h => h2 (decide_eq_true h))
theorem rf_commit (hm : G.1 ≤ m) {sg : List pG} {bu : List pDoc} {pw : Option Nat} (hr : rS sg dc cn aK aL aT aS aX aM aN) (hb : rB bu dc bf aK aL aT aS aX aM) (hcn : cn ≤ 10) (hall : dc + bf ≤ 200) (hnn : nn < 999) (hli : li ≤ 1) (hC : ∀ j, aC j ≤ 1) (hr0 : r0 ≤ 800) (hP : P = pwI pw) (hpw : ∀ p, pw = some p → p < 2147483648)
    (hl0 : (lG 0 sg).length ≤ 1400) (hl1 : (lG 1 (kpS sg ++ nwS nn bu)).length ≤ 1400) (hgs : ∀ g ∈ sg, srt 0 (g.2.map (·.1)) ∧ (bG g).length ≤ 1400) (hbs : srt 0 bu) (hbl : (sB bu).length ≤ 1400) (hu : uG li sg ≤ r0)
    (K0 : bu = [] → dmS sg = false → Q (.inl (some (iN 0))) (rf h0 m r0 (0) df dc bf cn nn li P sz pl aD aK aL aT aS aX aM aC aN aO aQ aB aV aH))
    (K1 : ¬ (bu = [] ∧ dmS sg = false) → (r0 - uG li sg < cmB nn sg bu ∨ 10 < (kpS sg ++ nwS nn bu).length) → ∀ (aC aO : Nat → Nat) (sz : Nat), (∀ j, aC j ≤ 1) → sz ≤ 1400 → Q (.inl (some (iN 0))) (rf h0 m r0 (1) df dc bf cn nn li P sz pl aD aK aL aT aS aX aM aC aN aO aQ aB aV aH))
    (K2 : ¬ (bu = [] ∧ dmS sg = false) → ¬ (r0 - uG li sg < cmB nn sg bu ∨ 10 < (kpS sg ++ nwS nn bu).length) → cutB pw (cmB nn sg bu) = true → ∀ (aC aO : Nat → Nat) (sz : Nat), (∀ j, aC j ≤ 1) → sz ≤ 1400 → Q (.inl (some (.int (-1)))) (rf h0 m r0 (0) (0) dc (0) cn nn li (-1) sz pl aD aK aL aT aS aX (fun j => if j < dc then 0 else aM j) aC aN aO aQ aB aV aH))
    (K3 : ¬ (bu = [] ∧ dmS sg = false) → ¬ (r0 - uG li sg < cmB nn sg bu ∨ 10 < (kpS sg ++ nwS nn bu).length) → cutB pw (cmB nn sg bu) = false → ∀ (aC aO : Nat → Nat) (sz : Nat), (∀ j, aC j ≤ 1) → sz ≤ 1400 → ∀ (aK' aL' aT' aS' aX' aM' aN' : Nat → Nat) (dc' cn' : Nat), rS ((kpS sg).map (fun g => (g.1, g.2.map stD)) ++ nwS nn bu) dc' cn' aK' aL' aT' aS' aX' aM' aN' → dc' ≤ dc + bf →
      Q (.inl (some (iN (cmB nn sg bu)))) (rf h0 m r0 (0) df (dc') (0) (cn') (if bu = [] then nn else nn + 1) (1) (pwI (pw.map (· - cmB nn sg bu))) sz pl aD (aK') (aL') (aT') (aS') (aX') (aM') aC (aN') aO aQ aB aV aH)) : ps_M G 6 116 [.ref m] (rf h0 m r0 tw df dc bf cn nn li P sz pl aD aK aL aT aS aX aM aC aN aO aQ aB aV aH) Q := by
  refine ps_M_in (e116 _) l116 (fun d hd => ?_)
  have hbf : bf = 0 ↔ bu = [] := by rw [hb.1]; exact List.length_eq_zero_iff
  have hcl := hr.2.2.2.1
  have hkl : (kpS sg).length ≤ sg.length := List.length_filter_le _ _
  have hdoc := rB_docs hb
  have hfl : ((sg.filter (fun g => neS g.2)).flatMap (eG 1)).length = ((kpS sg).flatMap (eG 1)).length := rfl
  have hNlt := hr.2.1
  have hS := hr.1.2.2.2.1
  have hX := hr.1.2.2.2.2.1
  have hM := hr.1.2.2.2.2.2
  have fin : ∀ (aC aO : Nat → Nat) sz b u4, (∀ j, aC j ≤ 1) → sz ≤ 1400 → b ≤ 1400 → ¬ (bu = [] ∧ dmS sg = false) → b + sz = cmB nn sg bu → ps_X G d 116 212 [some (.ref m), some (iN (r0 - uG li sg)), some (iN b), some (iN (kpS sg ++ nwS nn bu).length), u4] [] (rf h0 m r0 (0) df dc bf cn nn li P sz pl aD aK aL aT aS aX aM aC aN aO aQ aB aV aH) Q := by
    intro aC aO sz b u4 hC hz hbb hno hcm
    have hk11 : (kpS sg ++ nwS nn bu).length ≤ 11 := by
      rw [List.length_append]
      have : (nwS nn bu).length ≤ 1 := by unfold nwS; split <;> simp
      omega
    have ref : (r0 - uG li sg < cmB nn sg bu ∨ 10 < (kpS sg ++ nwS nn bu).length) → ps_X G d 116 230 [some (.ref m), some (iN (r0 - uG li sg)), some (iN (b + sz)), some (iN (kpS sg ++ nwS nn bu).length), u4] [] (rf h0 m r0 (0) df dc bf cn nn li P sz pl aD aK aL aT aS aX aM aC aN aO aQ aB aV aH) Q := by
      intro hc
      refine ps_s_al p116_230 rfl ?_
      refine ps_s_k p116_231 ?_
      refine ps_s_vV [_] _ p116_232 rfl rf_o rfl rfl rfl (rf_refuse hm (ps_bki ?_) d (by omega))
      refine ps_s_ri p116_235 t116 ?_
      exact K1 hno hc aC aO sz hC hz
    refine ps_s_il p116_212 rfl ?_
    refine ps_s_al p116_213 rfl ?_
    refine rf_g_sz p116_214 ?_
    first | refine ps_s_add p116_217 ?_ | refine ps_s_2 p116_217 ?_
    refine ps_s_is2 p116_218 ?_
    refine ps_s_il p116_219 rfl ?_
    refine ps_s_il p116_220 rfl ?_
    refine ps_s_gt p116_221 (by omega) (by omega) (fun c221 => ?_) (fun c221 => ?_)
    · exact ref (.inl (by omega))
    · refine ps_s_il p116_224 rfl ?_
      refine ps_s_k p116_225 ?_
      refine ps_s_le p116_227 (by omega) (by omega) (fun c227 => ?_) (fun c227 => ?_)
      · refine ps_s_al p116_236 rfl ?_
        refine ps_s_il p116_237 rfl ?_
        have hnr : ¬ (r0 - uG li sg < cmB nn sg bu ∨ 10 < (kpS sg ++ nwS nn bu).length) := by omega
        refine ps_s_vV [_] _ p116_238 rfl rf_o rfl rfl rfl (rf_isCut hm (by omega) hP hpw (by omega) (fun hc => ps_bki ?_) (fun hc => ps_bki ?_) d (by omega))
        · rw [hcm] at hc
          refine ps_s_eq0 p116_241 (by omega) (fun c241 => ?_) (fun c241 => ?_)
          · refine ps_s_al p116_246 rfl ?_
            refine ps_s_vV [] _ p116_247 rfl rf_o rfl rfl rfl (rf_settle hm hr hcn hall hnn (fun a1 a2 a3 a4 a5 a6 a7 a8 a9 q1 q2 => ps_bkv ?_) d (by omega))
            refine ps_s_il p116_250 rfl ?_
            refine ps_s_ri p116_251 t116 ?_
            have hq1 : rS ((kpS sg).map (fun g => (g.1, g.2.map stD)) ++ nwS nn bu) a8 a9 a1 a2 a3 a4 a5 a6 a7 := by
              unfold nwS
              rw [hb.2] at q1
              by_cases h : bu = []
              · rw [if_pos (hbf.mpr h)] at q1; rw [if_pos h]; exact q1
              · rw [if_neg (fun e => h (hbf.mp e))] at q1; rw [if_neg h]; exact q1
            have := K3 hno hnr hc aC aO sz hC hz a1 a2 a3 a4 a5 a6 a7 a8 a9 hq1 q2
            rw [← hcm] at this
            by_cases h : bu = []
            · rw [if_pos h] at this; rw [if_pos (hbf.mpr h)]; exact this
            · rw [if_neg h] at this; rw [if_neg (fun e => h (hbf.mp e))]; exact this
          · omega
        · rw [hcm] at hc
          refine ps_s_eq0 p116_241 (by omega) (fun c241 => ?_) (fun c241 => ?_)
          · omega
          · refine ps_s_k p116_244 ?_
            refine ps_s_ri p116_245 t116 ?_
            exact K2 hno hnr hc aC aO sz hC hz
      · exact ref (.inr (by omega))
  have loopB : ∀ (R L : List pG) (aC aO : Nat → Nat) sz b k, sg = L ++ R → sz + ((R.filter (fun g => neS g.2)).flatMap (eG 1)).length ≤ 1400 → ps_X G d 116 192 [some (.ref m), some (iN (r0 - uG li sg)), some (iN b), some (iN k), some (iN cn)] [] (rf h0 m r0 (0) df dc bf cn nn li P (sz + ((R.filter (fun g => neS g.2)).flatMap (eG 1)).length) pl aD aK aL aT aS aX aM aC aN (ap aO sz ((R.filter (fun g => neS g.2)).flatMap (eG 1))) aQ aB aV aH) Q → ps_X G d 116 161 [some (.ref m), some (iN (r0 - uG li sg)), some (iN b), some (iN k), some (iN L.length)] [] (rf h0 m r0 (0) df dc bf cn nn li P sz pl aD aK aL aT aS aX aM aC aN aO aQ aB aV aH) Q := by
    intro R
    induction R with
    | nil =>
      intro L aC aO sz b k he hs K
      have hL : L.length = cn := by rw [hcl, he, List.append_nil]
      rw [hL]
      rw [show (([] : List pG).filter (fun g => neS g.2)).flatMap (eG 1) = [] from rfl, ap_nil] at K
      refine ps_s_il p116_161 rfl ?_
      refine ps_s_al p116_163 rfl ?_
      refine rf_g_cn p116_164 ?_
      refine ps_s_ge p116_167 (by omega) (by omega) (fun c167 => ?_) (fun c167 => ?_)
      · exact K
      · omega
    | cons g R ih =>
      intro L aC aO sz b k he hs K
      obtain ⟨a1, a2, a3, a4, a5⟩ := rS_at (he ▸ hr)
      have := bN_le (emp aS aX aM dc L.length)
      have nxt : ∀ (aO' : Nat → Nat) sz', sz' + ((R.filter (fun g => neS g.2)).flatMap (eG 1)).length ≤ 1400 → ps_X G d 116 192 [some (.ref m), some (iN (r0 - uG li sg)), some (iN b), some (iN k), some (iN cn)] [] (rf h0 m r0 (0) df dc bf cn nn li P (sz' + ((R.filter (fun g => neS g.2)).flatMap (eG 1)).length) pl aD aK aL aT aS aX aM aC aN (ap aO' sz' ((R.filter (fun g => neS g.2)).flatMap (eG 1))) aQ aB aV aH) Q → ps_X G d 116 186 [some (.ref m), some (iN (r0 - uG li sg)), some (iN b), some (iN k), some (iN L.length)] [] (rf h0 m r0 (0) df dc bf cn nn li P (sz') pl aD aK aL aT aS aX aM aC aN (aO') aQ aB aV aH) Q := by
        intro aO' sz' q1 q2
        refine ps_s_in4 p116_186 ?_
        refine ps_s_go p116_189 ?_
        have := ih (L ++ [g]) aC aO' sz' b k (by rw [he, List.append_assoc]; rfl) q1 q2
        rw [List.length_append, List.length_singleton] at this
        exact this
      refine ps_s_il p116_161 rfl ?_
      refine ps_s_al p116_163 rfl ?_
      refine rf_g_cn p116_164 ?_
      refine ps_s_ge p116_167 (by omega) (by omega) (fun c167 => ?_) (fun c167 => ?_)
      · omega
      · refine ps_s_al p116_170 rfl ?_
        refine ps_s_il p116_171 rfl ?_
        refine ps_s_vV [_] _ p116_173 rfl rf_o rfl rfl rfl (rf_isEmpty hm (by omega) (by omega) hS hX hM (ps_bki ?_) d (by omega))
        rw [a2]
        have := bN_le (!neS g.2)
        refine ps_s_ne0 p116_176 (by omega) (fun c176 => ?_) (fun c176 => ?_)
        · have hg : neS g.2 = false := by have := bN_nz c176; revert this; cases neS g.2 <;> decide
          rw [List.filter_cons, if_neg (by rw [hg]; decide)] at hs K
          exact nxt aO sz hs K
        · have hg : neS g.2 = true := by have := bN_z (Decidable.not_not.mp c176); revert this; cases neS g.2 <;> decide
          rw [List.filter_cons, if_pos hg, List.flatMap_cons, List.length_append] at hs
          rw [List.filter_cons, if_pos hg, List.flatMap_cons, List.length_append, ← ap_ap, ← Nat.add_assoc] at K
          have e : eB (aN L.length) (gfl aS aX aM L.length 1 0 dc) = eG 1 g := by rw [a1, a4]; rfl
          refine ps_s_al p116_179 rfl ?_
          refine ps_s_il p116_180 rfl ?_
          refine ps_s_k p116_182 ?_
          refine ps_s_vV [_, _] _ p116_183 rfl rf_o rfl rfl rfl (rf_writeEntry hm (by omega) (by omega) (by omega) hS hX hM hNlt (by rw [e]; omega) (ps_bkv ?_) d (by omega))
          rw [e]
          exact nxt _ _ (by omega) K
  have mid : ∀ (aC aO : Nat → Nat) sz b k u4, (∀ j, aC j ≤ 1) → ¬ (bu = [] ∧ dmS sg = false) → b ≤ 1400 → b = (if bu = [] then 0 else (sB bu).length) → k = (kpS sg).length → ps_X G d 116 133 [some (.ref m), some (iN (r0 - uG li sg)), some (iN b), some (iN k), u4] [] (rf h0 m r0 (0) df dc bf cn nn li P sz pl aD aK aL aT aS aX aM aC aN aO aQ aB aV aH) Q := by
    intro aC aO sz b k u4 hC hno hb1 hbe hk
    subst hk
    refine ps_s_al p116_133 rfl ?_
    refine rf_g_bf p116_134 ?_
    refine ps_s_le0 p116_137 (by omega) (fun c137 => ?_) (fun c137 => ?_)
    · have hbu : bu = [] := hbf.mp (by omega)
      have e := lG_old (nn := nn) (sg := sg) hbu
      have hk2 : (kpS sg ++ nwS nn bu).length = (kpS sg).length := by unfold nwS; rw [if_pos hbu, List.append_nil]
      have hl1' := hl1
      rw [e, List.length_append] at hl1'
      have hcm : cmB nn sg bu = b + ((vi (kpS sg).length).length + ((kpS sg).flatMap (eG 1)).length) := by unfold cmB; rw [e, List.length_append, ← hbe]
      refine ps_s_il p116_146 rfl ?_
      refine ps_s_is3 p116_147 ?_
      refine ps_s_al p116_148 rfl ?_
      refine ps_s_k p116_149 ?_
      refine rf_s_sz hm p116_150 ?_
      refine ps_s_al p116_153 rfl ?_
      refine ps_s_il p116_154 rfl ?_
      refine ps_s_vV [_] _ p116_155 rfl rf_o rfl rfl rfl (rf_write hm (by omega) (by omega) (ps_bkv ?_) d (by omega))
      refine ps_s_k p116_158 ?_
      refine ps_s_is4 p116_159 ?_
      refine loopB sg [] _ _ _ _ _ rfl (by omega) ?_
      refine ps_s_al p116_192 rfl ?_
      refine rf_g_bf p116_193 ?_
      refine ps_s_le0 p116_196 (by omega) (fun c196 => ?_) (fun c196 => ?_)
      · have := fin aC (ap (ap aO 0 (vi (kpS sg).length)) (0 + (vi (kpS sg).length).length) ((kpS sg).flatMap (eG 1))) (0 + (vi (kpS sg).length).length + ((kpS sg).flatMap (eG 1)).length) b (some (iN cn)) hC (by omega) hb1 hno (by omega)
        rw [hk2] at this
        exact this
      · omega
    · have hbu : ¬ bu = [] := fun h => by have := hbf.mpr h; omega
      have e := lG_new (nn := nn) (sg := sg) hbu
      have hk2 : (kpS sg ++ nwS nn bu).length = (kpS sg).length + 1 := by unfold nwS; rw [if_neg hbu, List.length_append]; rfl
      have hl1' := hl1
      rw [e] at hl1'
      simp only [List.length_append] at hl1'
      have hcm : cmB nn sg bu = b + ((vi ((kpS sg).length + 1)).length + (((kpS sg).flatMap (eG 1)).length + ((vi nn).length + (vi 0).length))) := by unfold cmB; rw [e, ← hbe]; simp only [List.length_append]
      refine ps_s_il p116_140 rfl ?_
      refine ps_s_k p116_141 ?_
      first | refine ps_s_add p116_142 ?_ | refine ps_s_2 p116_142 ?_
      refine ps_s_go p116_143 ?_
      refine ps_s_is3 p116_147 ?_
      refine ps_s_al p116_148 rfl ?_
      refine ps_s_k p116_149 ?_
      refine rf_s_sz hm p116_150 ?_
      refine ps_s_al p116_153 rfl ?_
      refine ps_s_il p116_154 rfl ?_
      refine ps_s_vV [_] _ p116_155 rfl rf_o rfl rfl rfl (rf_write hm (by omega) (by omega) (ps_bkv ?_) d (by omega))
      refine ps_s_k p116_158 ?_
      refine ps_s_is4 p116_159 ?_
      refine loopB sg [] _ _ _ _ _ rfl (by omega) ?_
      refine ps_s_al p116_192 rfl ?_
      refine rf_g_bf p116_193 ?_
      refine ps_s_le0 p116_196 (by omega) (fun c196 => ?_) (fun c196 => ?_)
      · omega
      · refine ps_s_al p116_199 rfl ?_
        refine ps_s_al p116_200 rfl ?_
        refine rf_g_nn p116_201 ?_
        refine ps_s_vV [_] _ p116_204 rfl rf_o rfl rfl rfl (rf_write hm (by omega) (by omega) (ps_bkv ?_) d (by omega))
        refine ps_s_al p116_207 rfl ?_
        refine ps_s_k p116_208 ?_
        refine ps_s_vV [_] _ p116_209 rfl rf_o rfl rfl rfl (rf_write hm (by omega) (by omega) (ps_bkv ?_) d (by omega))
        have := fin aC (ap (ap (ap (ap aO 0 (vi ((kpS sg).length + 1))) (0 + (vi ((kpS sg).length + 1)).length) ((kpS sg).flatMap (eG 1))) (0 + (vi ((kpS sg).length + 1)).length + ((kpS sg).flatMap (eG 1)).length) (vi nn)) (0 + (vi ((kpS sg).length + 1)).length + ((kpS sg).flatMap (eG 1)).length + (vi nn).length) (vi 0)) (0 + (vi ((kpS sg).length + 1)).length + ((kpS sg).flatMap (eG 1)).length + (vi nn).length + (vi 0).length) b (some (iN cn)) hC (by omega) hb1 hno (by omega)
        rw [hk2] at this
        exact this
  have loopA : ∀ (R L : List pG) (aC aO : Nat → Nat) sz b k, sg = L ++ R → (∀ j, aC j ≤ 1) → ¬ (bu = [] ∧ dmS sg = false) → b ≤ 1400 → b = (if bu = [] then 0 else (sB bu).length) → k + (R.filter (fun g => neS g.2)).length = (kpS sg).length → ps_X G d 116 101 [some (.ref m), some (iN (r0 - uG li sg)), some (iN b), some (iN k), some (iN L.length)] [] (rf h0 m r0 (0) df dc bf cn nn li P sz pl aD aK aL aT aS aX aM aC aN aO aQ aB aV aH) Q := by
    intro R
    induction R with
    | nil =>
      intro L aC aO sz b k he hC hno hb1 hbe hk
      have hL : L.length = cn := by rw [hcl, he, List.append_nil]
      rw [hL]
      refine ps_s_il p116_101 rfl ?_
      refine ps_s_al p116_103 rfl ?_
      refine rf_g_cn p116_104 ?_
      refine ps_s_ge p116_107 (by omega) (by omega) (fun c107 => ?_) (fun c107 => ?_)
      · exact mid aC aO sz b k _ hC hno hb1 hbe hk
      · omega
    | cons g R ih =>
      intro L aC aO sz b k he hC hno hb1 hbe hk
      obtain ⟨a1, a2, a3, a4, a5⟩ := rS_at (he ▸ hr)
      rw [List.filter_cons] at hk
      have nxt : ∀ k', k' + (R.filter (fun g => neS g.2)).length = (kpS sg).length → ps_X G d 116 127 [some (.ref m), some (iN (r0 - uG li sg)), some (iN b), some (iN k'), some (iN L.length)] [] (rf h0 m r0 (0) df dc bf cn nn li P sz pl aD aK aL aT aS aX aM aC aN aO aQ aB aV aH) Q := by
        intro k' hk'
        refine ps_s_in4 p116_127 ?_
        refine ps_s_go p116_130 ?_
        have := ih (L ++ [g]) aC aO sz b k' (by rw [he, List.append_assoc]; rfl) hC hno hb1 hbe hk'
        rw [List.length_append, List.length_singleton] at this
        exact this
      refine ps_s_il p116_101 rfl ?_
      refine ps_s_al p116_103 rfl ?_
      refine rf_g_cn p116_104 ?_
      refine ps_s_ge p116_107 (by omega) (by omega) (fun c107 => ?_) (fun c107 => ?_)
      · omega
      · refine ps_s_al p116_110 rfl ?_
        refine ps_s_il p116_111 rfl ?_
        refine ps_s_vV [_] _ p116_113 rfl rf_o rfl rfl rfl (rf_isEmpty hm (by omega) (by omega) hS hX hM (ps_bki ?_) d (by omega))
        rw [a2]
        have := bN_le (!neS g.2)
        refine ps_s_eq0 p116_116 (by omega) (fun c116 => ?_) (fun c116 => ?_)
        · have hg : neS g.2 = true := by have := bN_z c116; revert this; cases neS g.2 <;> decide
          rw [if_pos hg, List.length_cons] at hk
          refine ps_s_il p116_123 rfl ?_
          refine ps_s_k p116_124 ?_
          first | refine ps_s_add p116_125 ?_ | refine ps_s_2 p116_125 ?_
          refine ps_s_is3 p116_126 ?_
          exact nxt _ (by omega)
        · have hg : neS g.2 = false := by have := bN_nz c116; revert this; cases neS g.2 <;> decide
          rw [if_neg (by rw [hg]; decide)] at hk
          refine ps_s_il p116_119 rfl ?_
          refine ps_s_go p116_120 ?_
          refine ps_s_is3 p116_126 ?_
          exact nxt _ hk
  have at96 : ∀ (aC aO : Nat → Nat) sz b u3 u4, (∀ j, aC j ≤ 1) → ¬ (bu = [] ∧ dmS sg = false) → b ≤ 1400 → b = (if bu = [] then 0 else (sB bu).length) → ps_X G d 116 96 [some (.ref m), some (iN (r0 - uG li sg)), some (iN b), u3, u4] [] (rf h0 m r0 (0) df dc bf cn nn li P sz pl aD aK aL aT aS aX aM aC aN aO aQ aB aV aH) Q := by
    intro aC aO sz b u3 u4 hC hno hb1 hbe
    refine ps_s_k p116_96 ?_
    refine ps_s_is3 p116_97 ?_
    refine ps_s_k p116_98 ?_
    refine ps_s_is4 p116_99 ?_
    exact loopA sg [] aC aO sz b 0 rfl hC hno hb1 hbe (Nat.zero_add _)
  have loopC : ∀ n i (aC aO : Nat → Nat) sz, i + n = 200 → (∀ j, j < i → aC j = bN (decide (dc ≤ j) && decide (j < dc + bf))) → (∀ j, aC j ≤ 1) → ¬ (bu = [] ∧ dmS sg = false) → ¬ bu = [] → ps_X G d 116 42 [some (.ref m), some (iN (r0 - uG li sg)), some (iN 0), some (iN i), none] [] (rf h0 m r0 (0) df dc bf cn nn li P sz pl aD aK aL aT aS aX aM aC aN aO aQ aB aV aH) Q := by
    intro n
    induction n with
    | zero =>
      intro i aC aO sz hi h1 h2 hno hbu
      have e : cho aK aL aT aC 0 (dc + bf) = bu := (cho_buf (aS := aS) (aX := aX) (aM := aM) hall (fun j hj => h1 j (by omega))).trans hdoc
      refine ps_s_il p116_42 rfl ?_
      refine ps_s_k p116_43 ?_
      refine ps_s_ge p116_46 (by omega) (by omega) (fun c46 => ?_) (fun c46 => ?_)
      · refine ps_s_al p116_87 rfl ?_
        refine ps_s_vV [] _ p116_88 rfl rf_o rfl rfl rfl (rf_writeSegment hm hall hr.1.1 hr.1.2.1 hr.1.2.2.1 h2 (by rw [e]; exact hbs) (by rw [e]; exact hbl) (ps_bkv ?_) d (by omega))
        rw [e]
        refine ps_s_al p116_91 rfl ?_
        refine rf_g_sz p116_92 ?_
        refine ps_s_is2 p116_95 ?_
        exact at96 _ _ _ _ _ _ h2 hno hbl (by rw [if_neg hbu])
      · omega
    | succ n ih =>
      intro i aC aO sz hi h1 h2 hno hbu
      have up : ∀ v, v = bN (decide (dc ≤ i) && decide (i < dc + bf)) → ∀ j, j < i + 1 → va_up aC i v j = bN (decide (dc ≤ j) && decide (j < dc + bf)) := by
        intro v hv j hj
        unfold va_up
        by_cases hji : j = i
        · rw [if_pos hji, hv, hji]
        · rw [if_neg hji]; exact h1 j (by omega)
      refine ps_s_il p116_42 rfl ?_
      refine ps_s_k p116_43 ?_
      refine ps_s_ge p116_46 (by omega) (by omega) (fun c46 => ?_) (fun c46 => ?_)
      · omega
      · refine ps_s_al p116_49 rfl ?_
        refine rf_g_aC p116_50 ?_
        refine ps_s_il p116_53 rfl ?_
        refine ps_s_il p116_54 rfl ?_
        refine ps_s_al p116_55 rfl ?_
        refine rf_g_dc p116_56 ?_
        refine ps_s_lt p116_59 (by omega) (by omega) (fun c59 => ?_) (fun c59 => ?_)
        · refine ps_s_k p116_79 ?_
          refine rf_sa_aC hm p116_80 (by omega) (by omega) ?_
          refine ps_s_in3 p116_81 ?_
          refine ps_s_go p116_84 ?_
          exact ih _ _ _ _ (by omega) (up 0 (by rw [decide_eq_false (p := dc ≤ i) (by omega)]; rfl)) (up_le h2 (by omega)) hno hbu
        · refine ps_s_il p116_62 rfl ?_
          refine ps_s_al p116_63 rfl ?_
          refine rf_g_dc p116_64 ?_
          refine ps_s_al p116_67 rfl ?_
          refine rf_g_bf p116_68 ?_
          first | refine ps_s_add p116_71 ?_ | refine ps_s_2 p116_71 ?_
          refine ps_s_ge p116_72 (by omega) (by omega) (fun c72 => ?_) (fun c72 => ?_)
          · refine ps_s_k p116_79 ?_
            refine rf_sa_aC hm p116_80 (by omega) (by omega) ?_
            refine ps_s_in3 p116_81 ?_
            refine ps_s_go p116_84 ?_
            exact ih _ _ _ _ (by omega) (up 0 (by rw [decide_eq_false (p := i < dc + bf) (by omega), Bool.and_false]; rfl)) (up_le h2 (by omega)) hno hbu
          · refine ps_s_k p116_75 ?_
            refine ps_s_go p116_76 ?_
            refine rf_sa_aC hm p116_80 (by omega) (by omega) ?_
            refine ps_s_in3 p116_81 ?_
            refine ps_s_go p116_84 ?_
            exact ih _ _ _ _ (by omega) (up 1 (by rw [decide_eq_true (p := dc ≤ i) (by omega), decide_eq_true (p := i < dc + bf) (by omega)]; rfl)) (up_le h2 (by omega)) hno hbu
  have at21 : ¬ (bu = [] ∧ dmS sg = false) → ps_X G d 116 21 [some (.ref m), none, none, none, none] [] (rf h0 m r0 (0) df dc bf cn nn li P sz pl aD aK aL aT aS aX aM aC aN aO aQ aB aV aH) Q := by
    intro hno
    have hlb := rS_lB (li := li) hr
    have hus := rS_us (li := li) hr
    refine ps_s_al p116_21 rfl ?_
    refine rf_g_r0 p116_22 ?_
    refine ps_s_al p116_25 rfl ?_
    refine ps_s_vV [] _ p116_26 rfl rf_o rfl rfl rfl (rf_used hm (by omega) hli hall hr.1.1 hr.1.2.1 hr.1.2.2.1 hS hX hM hC hNlt (by rw [hlb]; split; exact hl0; exact Nat.zero_le _) (fun s hs => ?_) (fun aC aO sz h1 h2 => ps_bki ?_) d (by omega))
    · obtain ⟨L, g, R, e, hl⟩ := split_at sg s (by omega)
      have hr2 := hr
      rw [e] at hr2
      obtain ⟨a1, a2, a3, a4, a5⟩ := rS_at hr2
      rw [hl] at a3
      rw [a3]
      exact hgs g (by rw [e]; exact List.mem_append_right _ List.mem_cons_self)
    · rw [hus]
      first | refine ps_s_sub p116_29 (by omega) ?_ | refine ps_s_2 p116_29 ?_
      refine ps_s_is1 p116_30 ?_
      refine ps_s_k p116_31 ?_
      refine ps_s_is2 p116_32 ?_
      refine ps_s_al p116_33 rfl ?_
      refine rf_g_bf p116_34 ?_
      refine ps_s_le0 p116_37 (by omega) (fun c37 => ?_) (fun c37 => ?_)
      · have hbu : bu = [] := hbf.mp (by omega)
        exact at96 _ _ _ _ _ _ h1 hno (by omega) (by rw [if_pos hbu])
      · have hbu : ¬ bu = [] := fun h => by have := hbf.mpr h; omega
        refine ps_s_k p116_40 ?_
        refine ps_s_is3 p116_41 ?_
        exact loopC 200 0 aC aO sz (by omega) (fun j hj => absurd hj (by omega)) h1 hno hbu
  refine ps_s_al p116_0 rfl ?_
  refine ps_s_k p116_1 ?_
  refine rf_s_tw hm p116_2 ?_
  refine ps_s_al p116_5 rfl ?_
  refine rf_g_bf p116_6 ?_
  refine ps_s_ne0 p116_9 (by omega) (fun c9 => ?_) (fun c9 => ?_)
  · exact at21 (fun h => by have := hbf.mpr h.1; omega)
  · have hbu : bu = [] := hbf.mp (by omega)
    have hex : exi (fun d => decide (aM d = 1)) 0 dc = dmS sg := by
      rw [exi_M aK aL aT aS aX aM, hr.2.2.1]
      exact flat_any _ _ (fun k x => rfl) sg 0
    refine ps_s_al p116_12 rfl ?_
    refine ps_s_vV [] _ p116_13 rfl rf_o rfl rfl rfl (rf_someDoomed hm (by omega) hM (ps_bki ?_) d (by omega))
    rw [hex]
    have := bN_le (dmS sg)
    refine ps_s_ne0 p116_16 (by omega) (fun c16 => ?_) (fun c16 => ?_)
    · exact at21 (fun h => by rw [h.2] at c16; exact c16 rfl)
    · refine ps_s_k p116_19 ?_
      refine ps_s_ri p116_20 t116 ?_
      exact K0 hbu (bN_z (Decidable.not_not.mp c16))
end RFI
