/-! ArrayList over the small machine: cAL says that a list stands at a with the addresses xs. -/
def gr (n : Nat) : Nat := if n = 0 then 10 else n + max 1 (n / 2)
theorem gr_le {n : Nat} (h : n ≤ 2000) : n < gr n ∧ gr n ≤ 4000 := by
  unfold gr
  split
  · omega
  · omega
def cAL (G : pm_G) (o : Nat → Nat) (h : pm_S) (a cap : Nat) (xs : List Nat) : Prop :=
  ∃ e mc f, h.1 a = some (pm_o 2 [.ref e, iN xs.length, .int mc]) ∧ h.1 e = some (pm_r cap f) ∧ (xs.length ≤ cap ∧ cap ≤ 4000 ∧ (∀ i, i < xs.length → f i = xs[i]?)) ∧ (∀ x ∈ xs, ∃ c, h.1 x = some c ∧ kob c = true) ∧ (G.1 ≤ a ∧ o a = a) ∧ ((cap = 0 ∧ e = G.2.2 ∧ o e < G.1) ∨ (0 < cap ∧ o e = a ∧ G.1 ≤ e))
theorem i_shr1k : ∀ q, q < 64 → ∀ r, r < 64 → Int32.ofNat (64 * q + r) >>> (Int32.ofNat 1 &&& 31) = Int32.ofNat ((64 * q + r) / 2) := by decide +kernel
theorem i_shr1 (a : Nat) (h : a < 4096) : Int32.ofNat a >>> (Int32.ofNat 1 &&& 31) = Int32.ofNat (a / 2) := by
  have e := i_shr1k (a / 64) (by omega) (a % 64) (by omega)
  rw [Nat.div_add_mod] at e
  exact e
section CAL
variable {G : pm_G} {P : Nat → Prop} {h h1 : pm_S} {o o1 : Nat → Nat} {c s a cap i v : Nat} {xs : List Nat} {Q : pm_Q}
theorem al_fr (A : cAL G o h a cap xs) (f : cF G P h o h1 o1 c s) (hp : ¬ P a) : cAL G o1 h1 a cap xs := by
  obtain ⟨e, mc, g, a1, a2, a3, a4, ⟨a5, a6⟩, a7⟩ := A
  refine ⟨e, mc, g, cf_get f a1 (by rw [a6]; exact hp), ?_, a3, fun x hx => ?_, ⟨a5, by rw [cf_own f a1]; exact a6⟩, ?_⟩
  · rcases a7 with ⟨_, _, a7⟩ | ⟨_, a7, _⟩
    · exact cf_low f a2 a7
    · exact cf_get f a2 (by rw [a7]; exact hp)
  · obtain ⟨c, hc, hk⟩ := a4 x hx
    obtain ⟨w, hw, hk2⟩ := cf_kd f hc
    exact ⟨w, hw, by rw [kd_kob hk2]; exact hk⟩
  · rw [cf_own f a2]; exact a7
theorem al_own (A : cAL G o h a cap xs) : G.1 ≤ a ∧ o a = a ∧ ∃ fs, h.1 a = some (pm_o 2 fs) := by
  obtain ⟨e, mc, g, a1, a2, a3, a4, ⟨a5, a6⟩, a7⟩ := A
  exact ⟨a5, a6, _, a1⟩
theorem ck_in {i n : Nat} (hi : i < n) (hn : n < 2147483648) (K : Q (.inl (some (iN i))) h) : ps_M G 1 11 [iN i, iN n, .null] h Q := by
  refine ps_M_in (e11 _ _ _) l11 (fun d hd => ?_)
  refine ps_s_il p11_0 rfl ?_
  refine ps_s_lt0 p11_1 (by omega) (fun c1 => ?_) (fun c1 => ?_)
  · omega
  · refine ps_s_il p11_4 rfl ?_
    refine ps_s_il p11_5 rfl ?_
    refine ps_s_lt p11_6 (by omega) (by omega) (fun c6 => ?_) (fun c6 => ?_)
    · refine ps_s_il p11_16 rfl ?_
      refine ps_s_ri p11_17 t11 ?_
      exact K
    · omega
theorem ck_index {i n : Nat} (hi : i < n) (hn : n < 2147483648) (K : Q (.inl (some (iN i))) h) : ps_M G 2 10 [iN i, iN n] h Q := by
  refine ps_M_in (e10 _ _) l10 (fun d hd => ?_)
  refine ps_s_il p10_0 rfl ?_
  refine ps_s_il p10_1 rfl ?_
  refine ps_s_p p10_2 rfl ?_
  refine ps_s_vS [_, _, _] _ p10_3 rfl rfl rfl rfl (ck_in hi hn (ps_bki ?_) d (by omega))
  refine ps_s_ri p10_6 t10 ?_
  exact K
theorem al_size (A : cAL G o h a cap xs) (K : Q (.inl (some (iN xs.length))) h) : ps_M G 1 8 [.ref a] h Q := by
  obtain ⟨e, mc, f, a1, _⟩ := A
  refine ps_M_in (e8 _) l8 (fun d hd => ?_)
  first | refine ps_s_al p8_0 rfl ?_ | refine ps_s_aln p8_0 rfl ?_
  refine ps_s_gf p8_1 a1 rfl ?_
  refine ps_s_ri p8_4 t8 ?_
  exact K
theorem al_isEmpty (A : cAL G o h a cap xs) (K1 : xs = [] → Q (.inl (some (iN 1))) h) (K2 : xs ≠ [] → Q (.inl (some (iN 0))) h) : ps_M G 1 35 [.ref a] h Q := by
  obtain ⟨e, mc, f, a1, a2, ⟨a3, a4, a5⟩, _⟩ := A
  refine ps_M_in (e35 _) l35 (fun d hd => ?_)
  first | refine ps_s_al p35_0 rfl ?_ | refine ps_s_aln p35_0 rfl ?_
  refine ps_s_gf p35_1 a1 rfl ?_
  refine ps_s_ne0 p35_4 (by omega) (fun c4 => ?_) (fun c4 => ?_)
  · refine ps_s_k p35_11 ?_
    refine ps_s_rz p35_12 t35 (by first | exact .inl rfl | exact .inr rfl | exact bN_01 _) ?_
    exact K2 (fun hx => by rw [hx] at c4; exact c4 rfl)
  · refine ps_s_k p35_7 ?_
    refine ps_s_go p35_8 ?_
    refine ps_s_rz p35_12 t35 (by first | exact .inl rfl | exact .inr rfl | exact bN_01 _) ?_
    exact K1 (List.eq_nil_of_length_eq_zero (by omega))
theorem al_ed {e cap v : Nat} {x y : Value} {f : Nat → Option Nat} (a1 : h.1 a = some (pm_o 2 [.ref e, x, y])) (a2 : h.1 e = some (pm_r cap f)) (hg : G.1 ≤ e) (hf : f i = some v) (hi : i < cap) (hc : cap ≤ 4000) (K : Q (.inl (some (.ref v))) h) : ps_M G 1 12 [.ref a, iN i] h Q := by
  refine ps_M_in (e12 _ _) l12 (fun d hd => ?_)
  first | refine ps_s_al p12_0 rfl ?_ | refine ps_s_aln p12_0 rfl ?_
  refine ps_s_gf p12_1 a1 rfl ?_
  refine ps_s_il p12_4 rfl ?_
  refine ps_s_aav p12_5 a2 (by omega) hf (by omega) (by omega) ?_
  first | refine ps_s_ra p12_6 t12 ?_ | refine ps_s_rn p12_6 t12 ?_
  exact K
theorem al_get (A : cAL G o h a cap xs) (hv : xs[i]? = some v) (K : Q (.inl (some (.ref v))) h) : ps_M G 3 9 [.ref a, iN i] h Q := by
  obtain ⟨e, mc, f, a1, a2, ⟨a3, a4, a5⟩, a6, ⟨a7, a8⟩, a9⟩ := A
  have hi : i < xs.length := (List.getElem?_eq_some_iff.mp hv).1
  have hge : G.1 ≤ e := by rcases a9 with ⟨q, _⟩ | ⟨_, _, q⟩ <;> omega
  have hf : f i = some v := (a5 i hi).trans hv
  refine ps_M_in (e9 _ _) l9 (fun d hd => ?_)
  refine ps_s_il p9_0 rfl ?_
  first | refine ps_s_al p9_1 rfl ?_ | refine ps_s_aln p9_1 rfl ?_
  refine ps_s_gf p9_2 a1 rfl ?_
  refine ps_s_vS [_, _] _ p9_5 rfl rfl rfl rfl (ck_index hi (by omega) (ps_bki ?_) d (by omega))
  refine ps_s_pop p9_8 rfl ?_
  first | refine ps_s_al p9_9 rfl ?_ | refine ps_s_aln p9_9 rfl ?_
  refine ps_s_il p9_10 rfl ?_
  refine ps_s_vV [_] _ p9_11 rfl a1 rfl rfl rfl (al_ed a1 a2 hge hf (by omega) (by omega) (ps_bki ?_) d (by omega))
  first | refine ps_s_ra p9_14 t9 ?_ | refine ps_s_rn p9_14 t9 ?_
  exact K
/-! growing -/
theorem al_newLen {n k : Nat} (hn : n ≤ 4000) (hk : k ≤ 4000) (h1 : 0 < n) (K : Q (.inl (some (iN (n + max 1 k)))) h) : ps_M G 1 42 [iN n, iN 1, iN k] h Q := by
  refine ps_M_in (e42 _ _ _) l42 (fun d hd => ?_)
  refine ps_s_il p42_0 rfl ?_
  refine ps_s_il p42_1 rfl ?_
  refine ps_s_il p42_2 rfl ?_
  refine ps_s_nt p42_3 (nt_max (by omega) (by omega) rfl) ?_
  first | refine ps_s_add p42_6 ?_ | refine ps_s_2 p42_6 ?_
  refine ps_s_is3 p42_7 ?_
  refine ps_s_k p42_8 ?_
  refine ps_s_il p42_9 rfl ?_
  refine ps_s_ge p42_10 (by omega) (by omega) (fun c10 => ?_) (fun c10 => ?_)
  · omega
  · refine ps_s_il p42_13 rfl ?_
    refine ps_s_ldi (v := Int32.ofNat 2147483639) p42_14 (by decide +kernel) ?_
    refine ps_s_gt p42_16 (by omega) (by omega) (fun c16 => ?_) (fun c16 => ?_)
    · omega
    · refine ps_s_il p42_19 rfl ?_
      refine ps_s_ri p42_20 t42 ?_
      exact K
theorem al_copy3 {e n : Nat} {f : Nat → Option Nat} (w : cW h o) (a2 : h.1 e = some (pm_r cap f)) (hg : G.1 ≤ e) (hG : G.1 ≤ h.2.1) (hcn : cap ≤ n) (hn : n ≤ 6000) (hk : ∀ i v, i < cap → f i = some v → ∃ c, h.1 v = some c ∧ kob c = true)
    (K : Q (.inl (some (.ref h.2.1))) (pm_put (pm_add h (pm_r n (fun _ => none)) n) h.2.1 (pm_r n (va_cpy f (fun _ => none) 0 0 cap)))) : ps_M G 1 45 [.ref e, iN n, .ref G.2.1] h Q := by
  have hlt := cw_lt w a2
  have a2' : (pm_add h (pm_r n (fun _ => none)) n).1 e = some (pm_r cap f) := (pa_ne (by omega)).trans a2
  have hk' : ∀ i v, i < cap → f (0 + i) = some v → ∃ c, (pm_add h (pm_r n (fun _ => none)) n).1 v = some c ∧ kob c = true := by
    intro i v hi hv
    rw [Nat.zero_add] at hv
    obtain ⟨c, hc, hk2⟩ := hk i v hi hv
    have := cw_lt w hc
    exact ⟨c, (pa_ne (by omega)).trans hc, hk2⟩
  have hm : min cap n = cap := Nat.min_eq_left hcn
  refine ps_M_in (e45 _ _ _) l45 (fun d hd => ?_)
  first | refine ps_s_al p45_0 rfl ?_ | refine ps_s_aln p45_0 rfl ?_
  refine ps_s_ldm p45_1 (by decide +kernel) (by decide +kernel) ?_
  refine ps_s_ja p45_3 (fun c3 => ?_) (fun c3 => ?_)
  · exact absurd rfl (of_decide_eq_true c3)
  · refine ps_s_il p45_6 rfl ?_
    refine ps_s_nar p45_7 (by decide +kernel) (by omega) ?_
    refine ps_s_go p45_10 ?_
    first | refine ps_s_as3 p45_24 ?_ | refine ps_s_asn3 p45_24 ?_
    first | refine ps_s_al p45_25 rfl ?_ | refine ps_s_aln p45_25 rfl ?_
    refine ps_s_k p45_26 ?_
    first | refine ps_s_al p45_27 rfl ?_ | refine ps_s_aln p45_27 rfl ?_
    refine ps_s_k p45_28 ?_
    first | refine ps_s_al p45_29 rfl ?_ | refine ps_s_aln p45_29 rfl ?_
    first | refine ps_s_alr p45_30 a2' ?_ | refine ps_s_al0 p45_30 a2' ?_
    refine ps_s_il p45_31 rfl ?_
    refine ps_s_nt p45_32 (nt_min (by omega) (by omega) rfl) ?_
    rw [hm]
    refine ps_s_nt p45_35 (nt_cpr (by omega) (by omega) (by omega) rfl hG hg a2' pa_eq (by omega) (by omega) hk') ?_
    first | refine ps_s_al p45_38 rfl ?_ | refine ps_s_aln p45_38 rfl ?_
    first | refine ps_s_ra p45_39 t45 ?_ | refine ps_s_rn p45_39 t45 ?_
    exact K
theorem al_copy {e n : Nat} {f : Nat → Option Nat} (w : cW h o) (a2 : h.1 e = some (pm_r cap f)) (hg : G.1 ≤ e) (hG : G.1 ≤ h.2.1) (hcn : cap ≤ n) (hn : n ≤ 6000) (hk : ∀ i v, i < cap → f i = some v → ∃ c, h.1 v = some c ∧ kob c = true)
    (K : Q (.inl (some (.ref h.2.1))) (pm_put (pm_add h (pm_r n (fun _ => none)) n) h.2.1 (pm_r n (va_cpy f (fun _ => none) 0 0 cap)))) : ps_M G 2 44 [.ref e, iN n] h Q := by
  refine ps_M_in (e44 _ _) l44 (fun d hd => ?_)
  first | refine ps_s_al p44_0 rfl ?_ | refine ps_s_aln p44_0 rfl ?_
  refine ps_s_il p44_1 rfl ?_
  first | refine ps_s_al p44_2 rfl ?_ | refine ps_s_aln p44_2 rfl ?_
  refine ps_s_nt p44_3 (nt_cls rfl hg a2) ?_
  refine ps_s_vS [_, _, _] _ p44_6 rfl rfl rfl rfl (al_copy3 w a2 hg hG hcn hn hk (ps_bki ?_) d (by omega))
  first | refine ps_s_ra p44_9 t44 ?_ | refine ps_s_rn p44_9 t44 ?_
  exact K
theorem al_grow1 {e n : Nat} {mc : Int32} {f : Nat → Option Nat} (w : cW h o) (a1 : h.1 a = some (pm_o 2 [.ref e, iN n, .int mc])) (a2 : h.1 e = some (pm_r n f)) (hn : n ≤ 2000) (hk : ∀ i v, i < n → f i = some v → ∃ c, h.1 v = some c ∧ kob c = true) (ha : G.1 ≤ a) (ho : o a = a) (hde : (n = 0 ∧ e = G.2.2) ∨ (0 < n ∧ G.1 ≤ e))
    (K : ∀ h' g, cF G (· = a) h o h' (va_up o h.2.1 a) 1 (gr n) → h'.1 a = some (pm_o 2 [.ref h.2.1, iN n, .int mc]) → h'.1 h.2.1 = some (pm_r (gr n) g) → (∀ i, i < n → g i = f i) → Q (.inl (some (.ref h.2.1))) h') : ps_M G 3 41 [.ref a, iN (n + 1)] h Q := by
  have hla := cw_lt w a1
  have hea : e ≠ a := fun q => by rw [q, a1] at a2; cases a2
  have big : ∀ d, 2 ≤ d → 0 < n → G.1 ≤ e → ps_X G d 41 20 [some (.ref a), some (iN (n + 1)), some (iN n), none] [] h Q := by
    intro d hd h0 hge
    have hgr : gr n = n + max 1 (n / 2) := by unfold gr; rw [if_neg (by omega)]
    obtain ⟨g1, g2⟩ := gr_le hn
    have e1 : n + 1 - n = 1 := by omega
    refine ps_s_il p41_20 rfl ?_
    refine ps_s_il p41_21 rfl ?_
    refine ps_s_il p41_22 rfl ?_
    first | refine ps_s_sub p41_23 (by omega) ?_ | refine ps_s_2 p41_23 ?_
    refine ps_s_il p41_24 rfl ?_
    refine ps_s_k p41_25 ?_
    rw [e1]
    refine ps_s_2e p41_26 (i_shr1 _ (by omega)) ?_
    refine ps_s_vS [_, _, _] _ p41_27 rfl rfl rfl rfl (al_newLen (by omega) (by omega) h0 (ps_bki ?_) d (by omega))
    refine ps_s_is3 p41_30 ?_
    first | refine ps_s_al p41_31 rfl ?_ | refine ps_s_aln p41_31 rfl ?_
    first | refine ps_s_al p41_32 rfl ?_ | refine ps_s_aln p41_32 rfl ?_
    refine ps_s_gf p41_33 a1 rfl ?_
    refine ps_s_il p41_36 rfl ?_
    rw [← hgr]
    refine ps_s_vS [_, _] _ p41_37 rfl rfl rfl rfl (al_copy w a2 hge (by omega) (by omega) (by omega) hk (ps_bki ?_) d (by omega))
    refine ps_s_dx1 p41_40 rfl ?_
    refine ps_s_pf p41_41 ((pp_ne (by omega)).trans ((pa_ne (by omega)).trans a1)) (by omega) rfl (ps_blt rfl) ?_
    first | refine ps_s_ra p41_44 t41 ?_ | refine ps_s_rn p41_44 t41 ?_
    have f1 : cF G (· = a) h o (pm_add h (pm_r (gr n) (fun _ => none)) (gr n)) (va_up o h.2.1 a) 1 (gr n) := cf_add w (by omega)
    have o1 : va_up o h.2.1 a h.2.1 = a := if_pos rfl
    have f2 := cf_put2 (x := pm_r (gr n) (va_cpy f (fun _ => none) 0 0 n)) w f1 pa_eq (by rw [o1]; exact ha) (.inl o1) rfl
    have o2 : va_up o h.2.1 a a = a := (if_neg (by omega)).trans ho
    have f3 := cf_put2 (a := a) (x := pm_o 2 [.ref h.2.1, iN n, .int mc]) w f2 ((pp_ne (by omega)).trans ((pa_ne (by omega)).trans a1)) (by rw [o2]; exact ha) (.inl o2) rfl
    refine K _ (va_cpy f (fun _ => none) 0 0 n) f3 pp_eq ((pp_ne (by omega)).trans pp_eq) (fun i hi => ?_)
    unfold va_cpy
    rw [if_pos ⟨by omega, by omega⟩]
    congr 1
    omega
  refine ps_M_in (e41 _ _) l41 (fun d hd => ?_)
  first | refine ps_s_al p41_0 rfl ?_ | refine ps_s_aln p41_0 rfl ?_
  refine ps_s_gf p41_1 a1 rfl ?_
  first | refine ps_s_alr p41_4 a2 ?_ | refine ps_s_al0 p41_4 a2 ?_
  refine ps_s_is2 p41_5 ?_
  refine ps_s_il p41_6 rfl ?_
  refine ps_s_gt0 p41_7 (by omega) (fun c7 => ?_) (fun c7 => ?_)
  · exact big d hd (by omega) (by omega)
  · have n0 : n = 0 := by omega
    subst n0
    rcases hde with ⟨_, he⟩ | ⟨q, _⟩
    · first | refine ps_s_al p41_10 rfl ?_ | refine ps_s_aln p41_10 rfl ?_
      refine ps_s_gf p41_11 a1 rfl ?_
      refine ps_s_gs p41_14 (by decide +kernel) ?_
      refine ps_s_ja p41_17 (fun c17 => ?_) (fun c17 => ?_)
      · first | refine ps_s_al p41_45 rfl ?_ | refine ps_s_aln p41_45 rfl ?_
        refine ps_s_k p41_46 ?_
        refine ps_s_il p41_48 rfl ?_
        refine ps_s_nt p41_49 (nt_max (by omega) (by omega) rfl) ?_
        refine ps_s_nar p41_52 (by decide +kernel) (by omega) ?_
        refine ps_s_dx1 p41_55 rfl ?_
        refine ps_s_pf p41_56 ((pa_ne (by omega)).trans a1) (by omega) rfl (ps_blt rfl) ?_
        first | refine ps_s_ra p41_59 t41 ?_ | refine ps_s_rn p41_59 t41 ?_
        have f1 : cF G (· = a) h o (pm_add h (pm_r 10 (fun _ => none)) 10) (va_up o h.2.1 a) 1 10 := cf_add w (by omega)
        have o2 : va_up o h.2.1 a a = a := (if_neg (by omega)).trans ho
        have f3 := cf_put2 (a := a) (x := pm_o 2 [.ref h.2.1, iN 0, .int mc]) w f1 ((pa_ne (by omega)).trans a1) (by rw [o2]; exact ha) (.inl o2) rfl
        exact K _ (fun _ => none) f3 pp_eq ((pp_ne (by omega)).trans pa_eq) (fun i hi => by omega)
      · exact absurd he (of_decide_eq_false c17)
    · omega
theorem al_grow {e n : Nat} {mc : Int32} {f : Nat → Option Nat} (w : cW h o) (a1 : h.1 a = some (pm_o 2 [.ref e, iN n, .int mc])) (a2 : h.1 e = some (pm_r n f)) (hn : n ≤ 2000) (hk : ∀ i v, i < n → f i = some v → ∃ c, h.1 v = some c ∧ kob c = true) (ha : G.1 ≤ a) (ho : o a = a) (hde : (n = 0 ∧ e = G.2.2) ∨ (0 < n ∧ G.1 ≤ e))
    (K : ∀ h' g, cF G (· = a) h o h' (va_up o h.2.1 a) 1 (gr n) → h'.1 a = some (pm_o 2 [.ref h.2.1, iN n, .int mc]) → h'.1 h.2.1 = some (pm_r (gr n) g) → (∀ i, i < n → g i = f i) → Q (.inl (some (.ref h.2.1))) h') : ps_M G 4 40 [.ref a] h Q := by
  refine ps_M_in (e40 _) l40 (fun d hd => ?_)
  first | refine ps_s_al p40_0 rfl ?_ | refine ps_s_aln p40_0 rfl ?_
  first | refine ps_s_al p40_1 rfl ?_ | refine ps_s_aln p40_1 rfl ?_
  refine ps_s_gf p40_2 a1 rfl ?_
  refine ps_s_k p40_5 ?_
  first | refine ps_s_add p40_6 ?_ | refine ps_s_2 p40_6 ?_
  refine ps_s_vV [_] _ p40_7 rfl a1 rfl rfl rfl (al_grow1 w a1 a2 hn hk ha ho hde (fun h' g k1 k2 k3 k4 => ps_bki ?_) d (by omega))
  first | refine ps_s_ra p40_10 t40 ?_ | refine ps_s_rn p40_10 t40 ?_
  exact K h' g k1 k2 k3 k4
end CAL
