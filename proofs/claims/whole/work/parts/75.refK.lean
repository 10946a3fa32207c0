/-! The reference: type, fail, want, discard, combine, and the small questions. -/
theorem i_cases (a : Int32) : (a < 0) ∨ ∃ n : Nat, n < 2147483648 ∧ a = Int32.ofNat n := by
  by_cases h : a < 0
  · exact .inl h
  · have ha : 0 ≤ a := Int32.not_lt.mp h
    exact .inr ⟨a.toNatClampNeg, by have := Int32.toNatClampNeg_lt a; simpa using this, (Int32.ofNat_toNatClampNeg a ha).symm⟩
section RFK
variable {h0 : pm_S} {m r0 tw df dc bf cn nn li sz pl : Nat} {P : Int32} {aD aK aL aT aS aX aM aC aN aO aQ aB aV aH : Nat → Nat} {G : pm_G} {Q : pm_Q}
theorem rf_type (hm : G.1 ≤ m) {a : Int32} (hdf : df ≤ 8)
    (K1 : (¬ ∃ n : Nat, n < 16 ∧ a = Int32.ofNat n) → Q (.inl (some (iN 0))) (rf h0 m r0 (1) df dc bf cn nn li P sz pl aD aK aL aT aS aX aM aC aN aO aQ aB aV aH))
    (K2 : (∃ n : Nat, n < 16 ∧ a = Int32.ofNat n) → df = 8 → Q (.inl (some (iN 0))) (rf h0 m r0 (2) df dc bf cn nn li P sz pl aD aK aL aT aS aX aM aC aN aO aQ aB aV aH))
    (K3 : ∀ n : Nat, n < 16 → a = Int32.ofNat n → df < 8 → Q (.inl (some (iN (df + 1)))) (rf h0 m r0 (0) (df + 1) dc bf cn nn li P sz pl (va_up aD df n) aK aL aT aS aX aM aC aN aO aQ aB aV aH)) : ps_M G 2 99 [.ref m, .int a] (rf h0 m r0 tw df dc bf cn nn li P sz pl aD aK aL aT aS aX aM aC aN aO aQ aB aV aH) Q := by
  refine ps_M_in (e99 _ _) l99 (fun d hd => ?_)
  have ref : (¬ ∃ n : Nat, n < 16 ∧ a = Int32.ofNat n) → ps_X G d 99 15 [some (.ref m), some (.int a)] [] (rf h0 m r0 (0) df dc bf cn nn li P sz pl aD aK aL aT aS aX aM aC aN aO aQ aB aV aH) Q := by
    intro h
    refine ps_s_al p99_15 rfl ?_
    refine ps_s_k p99_16 ?_
    refine ps_s_vV [_] _ p99_17 rfl rf_o rfl rfl rfl (rf_refuse hm (ps_bki ?_) d (by omega))
    refine ps_s_ri p99_20 t99 ?_
    exact K1 h
  rcases i_cases a with hn | ⟨n, hn, rfl⟩
  · refine ps_s_al p99_0 rfl ?_
    refine ps_s_k p99_1 ?_
    refine rf_s_tw hm p99_2 ?_
    refine ps_s_il p99_5 rfl ?_
    refine ps_s_j0 p99_6 (fun _ => ref ?_) (fun c => absurd hn (of_decide_eq_false c))
    rintro ⟨n, h1, rfl⟩
    have := (ps_lt_iff (a := n) (b := 0) (by omega) (by omega)).mp hn
    omega
  · refine ps_s_al p99_0 rfl ?_
    refine ps_s_k p99_1 ?_
    refine rf_s_tw hm p99_2 ?_
    refine ps_s_il p99_5 rfl ?_
    refine ps_s_lt0 p99_6 (by omega) (fun c6 => ?_) (fun c6 => ?_)
    · omega
    · refine ps_s_il p99_9 rfl ?_
      refine ps_s_k p99_10 ?_
      refine ps_s_le p99_12 (by omega) (by omega) (fun c12 => ?_) (fun c12 => ?_)
      · refine ps_s_al p99_21 rfl ?_
        refine rf_g_df p99_22 ?_
        refine ps_s_k p99_25 ?_
        refine ps_s_ne p99_27 (by omega) (by omega) (fun c27 => ?_) (fun c27 => ?_)
        · refine ps_s_al p99_36 rfl ?_
          refine rf_g_aD p99_37 ?_
          refine ps_s_al p99_40 rfl ?_
          refine rf_g_df p99_41 ?_
          refine ps_s_il p99_44 rfl ?_
          refine rf_sa_aD hm p99_45 (by omega) ?_
          refine ps_s_al p99_46 rfl ?_
          refine ps_s_dup p99_47 rfl ?_
          refine rf_g_df p99_48 ?_
          refine ps_s_k p99_51 ?_
          first | refine ps_s_add p99_52 ?_ | refine ps_s_2 p99_52 ?_
          refine rf_s_df hm p99_53 ?_
          refine ps_s_al p99_56 rfl ?_
          refine rf_g_df p99_57 ?_
          refine ps_s_ri p99_60 t99 ?_
          exact K3 n (by omega) rfl (by omega)
        · refine ps_s_al p99_30 rfl ?_
          refine ps_s_k p99_31 ?_
          refine ps_s_vV [_] _ p99_32 rfl rf_o rfl rfl rfl (rf_refuse hm (ps_bki ?_) d (by omega))
          refine ps_s_ri p99_35 t99 ?_
          exact K2 ⟨n, by omega, rfl⟩ (by omega)
      · exact ref (by
          rintro ⟨k, h1, h2⟩
          have := ps_ofNat_inj hn (by omega) h2
          omega)
theorem rf_fail (hm : G.1 ≤ m) {a : Int32}
    (K1 : a < 0 → Q (.inl (some (iN 0))) (rf h0 m r0 (0) df dc bf cn nn li P sz pl aD aK aL aT aS aX aM aC aN aO aQ aB aV aH))
    (K2 : ¬ a < 0 → Q (.inl (some (iN 1))) (rf h0 m r0 (0) df dc bf cn nn li (a) sz pl aD aK aL aT aS aX aM aC aN aO aQ aB aV aH)) : ps_M G 1 115 [.ref m, .int a] (rf h0 m r0 tw df dc bf cn nn li P sz pl aD aK aL aT aS aX aM aC aN aO aQ aB aV aH) Q := by
  refine ps_M_in (e115 _ _) l115 (fun d hd => ?_)
  refine ps_s_al p115_0 rfl ?_
  refine ps_s_k p115_1 ?_
  refine rf_s_tw hm p115_2 ?_
  refine ps_s_il p115_5 rfl ?_
  refine ps_s_j0 p115_6 (fun c => ?_) (fun c => ?_)
  · refine ps_s_al p115_11 rfl ?_
    refine ps_s_il p115_12 rfl ?_
    refine rf_s_P hm p115_13 ?_
    refine ps_s_k p115_16 ?_
    refine ps_s_rz p115_17 t115 (by first | exact .inl rfl | exact .inr rfl | exact bN_01 _) ?_
    exact K2 (fun h => absurd (of_decide_eq_true c) (Int32.not_le.mpr h))
  · refine ps_s_k p115_9 ?_
    refine ps_s_rz p115_10 t115 (by first | exact .inl rfl | exact .inr rfl | exact bN_01 _) ?_
    exact K1 (Int32.not_le.mp (of_decide_eq_false c))
theorem rf_buffered (hm : G.1 ≤ m) (hQ : Q (.inl (some (iN bf))) (rf h0 m r0 (0) df dc bf cn nn li P sz pl aD aK aL aT aS aX aM aC aN aO aQ aB aV aH)) : ps_M G 1 135 [.ref m] (rf h0 m r0 tw df dc bf cn nn li P sz pl aD aK aL aT aS aX aM aC aN aO aQ aB aV aH) Q := by
  refine ps_M_in (e135 _) l135 (fun d hd => ?_)
  refine ps_s_al p135_0 rfl ?_
  refine ps_s_k p135_1 ?_
  refine rf_s_tw hm p135_2 ?_
  refine ps_s_al p135_5 rfl ?_
  refine rf_g_bf p135_6 ?_
  refine ps_s_ri p135_9 t135 ?_
  exact hQ
theorem rf_segments (hm : G.1 ≤ m) (hQ : Q (.inl (some (iN cn))) (rf h0 m r0 (0) df dc bf cn nn li P sz pl aD aK aL aT aS aX aM aC aN aO aQ aB aV aH)) : ps_M G 1 136 [.ref m] (rf h0 m r0 tw df dc bf cn nn li P sz pl aD aK aL aT aS aX aM aC aN aO aQ aB aV aH) Q := by
  refine ps_M_in (e136 _) l136 (fun d hd => ?_)
  refine ps_s_al p136_0 rfl ?_
  refine ps_s_k p136_1 ?_
  refine rf_s_tw hm p136_2 ?_
  refine ps_s_al p136_5 rfl ?_
  refine rf_g_cn p136_6 ?_
  refine ps_s_ri p136_9 t136 ?_
  exact hQ
theorem rf_documents (hm : G.1 ≤ m) (hdc : dc ≤ 200) (hX : ∀ j, aX j ≤ 1) (hQ : Q (.inl (some (iN (fl (fun x => decide (aX x = 0)) 0 dc).length))) (rf h0 m r0 (0) df dc bf cn nn li P sz pl aD aK aL aT aS aX aM aC aN aO aQ aB aV aH)) : ps_M G 1 134 [.ref m] (rf h0 m r0 tw df dc bf cn nn li P sz pl aD aK aL aT aS aX aM aC aN aO aQ aB aV aH) Q := by
  refine ps_M_in (e134 _) l134 (fun d hd => ?_)
  have loop : ∀ n i a, i + n = dc → a + (fl (fun x => decide (aX x = 0)) i n).length = (fl (fun x => decide (aX x = 0)) 0 dc).length → a ≤ i → ps_X G d 134 9 [some (.ref m), some (iN a), some (iN i)] [] (rf h0 m r0 (0) df dc bf cn nn li P sz pl aD aK aL aT aS aX aM aC aN aO aQ aB aV aH) Q := by
    intro n
    induction n with
    | zero =>
      intro i a hi ha hai
      rw [← ha] at hQ
      refine ps_s_il p134_9 rfl ?_
      refine ps_s_al p134_10 rfl ?_
      refine rf_g_dc p134_11 ?_
      refine ps_s_ge p134_14 (by omega) (by omega) (fun c14 => ?_) (fun c14 => ?_)
      · refine ps_s_il p134_40 rfl ?_
        refine ps_s_ri p134_41 t134 ?_
        exact hQ
      · omega
    | succ n ih =>
      intro i a hi ha hai
      have := hX i
      rw [show fl (fun x => decide (aX x = 0)) i (n + 1) = if decide (aX i = 0) = true then i :: fl (fun x => decide (aX x = 0)) (i + 1) n else fl (fun x => decide (aX x = 0)) (i + 1) n from rfl] at ha
      refine ps_s_il p134_9 rfl ?_
      refine ps_s_al p134_10 rfl ?_
      refine rf_g_dc p134_11 ?_
      refine ps_s_ge p134_14 (by omega) (by omega) (fun c14 => ?_) (fun c14 => ?_)
      · omega
      · refine ps_s_al p134_17 rfl ?_
        refine rf_g_aX p134_18 ?_
        refine ps_s_il p134_21 rfl ?_
        refine rf_la_aX hm p134_22 (by omega) ?_
        refine ps_s_eq0 p134_23 (by omega) (fun c23 => ?_) (fun c23 => ?_)
        · refine ps_s_il p134_30 rfl ?_
          refine ps_s_k p134_31 ?_
          first | refine ps_s_add p134_32 ?_ | refine ps_s_2 p134_32 ?_
          refine ps_s_is1 p134_33 ?_
          refine ps_s_in2 p134_34 ?_
          refine ps_s_go p134_37 ?_
          rw [decide_eq_true (by omega), if_pos rfl, List.length_cons] at ha
          exact ih _ _ (by omega) (by omega) (by omega)
        · refine ps_s_il p134_26 rfl ?_
          refine ps_s_go p134_27 ?_
          refine ps_s_is1 p134_33 ?_
          refine ps_s_in2 p134_34 ?_
          refine ps_s_go p134_37 ?_
          rw [decide_eq_false (by omega), if_neg (by decide)] at ha
          exact ih _ _ (by omega) ha (by omega)
  refine ps_s_al p134_0 rfl ?_
  refine ps_s_k p134_1 ?_
  refine rf_s_tw hm p134_2 ?_
  refine ps_s_k p134_5 ?_
  refine ps_s_is1 p134_6 ?_
  refine ps_s_k p134_7 ?_
  refine ps_s_is2 p134_8 ?_
  exact loop dc 0 0 (by omega) (by omega) (by omega)
theorem rf_want (hm : G.1 ≤ m) {a : Int32} (hpl : pl ≤ 8)
    (K1 : (¬ ∃ n : Nat, n < 16 ∧ a = Int32.ofNat n) → Q (.inl (some (iN 0))) (rf h0 m r0 (1) df dc bf cn nn li P sz pl aD aK aL aT aS aX aM aC aN aO aQ aB aV aH))
    (K2 : (∃ n : Nat, n < 16 ∧ a = Int32.ofNat n) → pl = 8 → Q (.inl (some (iN 0))) (rf h0 m r0 (2) df dc bf cn nn li P sz pl aD aK aL aT aS aX aM aC aN aO aQ aB aV aH))
    (K3 : ∀ n : Nat, n < 16 → a = Int32.ofNat n → pl < 8 → Q (.inl (some (iN (pl + 1)))) (rf h0 m r0 (0) df dc bf cn nn li P sz (pl + 1) aD aK aL aT aS aX aM aC aN aO (va_up aQ (15 * pl) n) (va_up aB pl 1) (va_up aV pl 1) aH)) : ps_M G 2 124 [.ref m, .int a] (rf h0 m r0 tw df dc bf cn nn li P sz pl aD aK aL aT aS aX aM aC aN aO aQ aB aV aH) Q := by
  refine ps_M_in (e124 _ _) l124 (fun d hd => ?_)
  have ref : (¬ ∃ n : Nat, n < 16 ∧ a = Int32.ofNat n) → ps_X G d 124 15 [some (.ref m), some (.int a)] [] (rf h0 m r0 (0) df dc bf cn nn li P sz pl aD aK aL aT aS aX aM aC aN aO aQ aB aV aH) Q := by
    intro h
    refine ps_s_al p124_15 rfl ?_
    refine ps_s_k p124_16 ?_
    refine ps_s_vV [_] _ p124_17 rfl rf_o rfl rfl rfl (rf_refuse hm (ps_bki ?_) d (by omega))
    refine ps_s_ri p124_20 t124 ?_
    exact K1 h
  rcases i_cases a with hn | ⟨n, hn, rfl⟩
  · refine ps_s_al p124_0 rfl ?_
    refine ps_s_k p124_1 ?_
    refine rf_s_tw hm p124_2 ?_
    refine ps_s_il p124_5 rfl ?_
    refine ps_s_j0 p124_6 (fun _ => ref ?_) (fun c => absurd hn (of_decide_eq_false c))
    rintro ⟨n, h1, rfl⟩
    have := (ps_lt_iff (a := n) (b := 0) (by omega) (by omega)).mp hn
    omega
  · refine ps_s_al p124_0 rfl ?_
    refine ps_s_k p124_1 ?_
    refine rf_s_tw hm p124_2 ?_
    refine ps_s_il p124_5 rfl ?_
    refine ps_s_lt0 p124_6 (by omega) (fun c6 => ?_) (fun c6 => ?_)
    · omega
    · refine ps_s_il p124_9 rfl ?_
      refine ps_s_k p124_10 ?_
      refine ps_s_le p124_12 (by omega) (by omega) (fun c12 => ?_) (fun c12 => ?_)
      · refine ps_s_al p124_21 rfl ?_
        refine rf_g_pl p124_22 ?_
        refine ps_s_k p124_25 ?_
        refine ps_s_ne p124_27 (by omega) (by omega) (fun c27 => ?_) (fun c27 => ?_)
        · refine ps_s_al p124_36 rfl ?_
          refine rf_g_aQ p124_37 ?_
          refine ps_s_k p124_40 ?_
          refine ps_s_al p124_42 rfl ?_
          refine rf_g_pl p124_43 ?_
          first | refine ps_s_mul p124_46 ?_ | refine ps_s_2 p124_46 ?_
          refine ps_s_il p124_47 rfl ?_
          refine rf_sa_aQ hm p124_48 (by omega) ?_
          refine ps_s_al p124_49 rfl ?_
          refine rf_g_aB p124_50 ?_
          refine ps_s_al p124_53 rfl ?_
          refine rf_g_pl p124_54 ?_
          refine ps_s_k p124_57 ?_
          refine rf_sa_aB hm p124_58 (by omega) ?_
          refine ps_s_al p124_59 rfl ?_
          refine rf_g_aV p124_60 ?_
          refine ps_s_al p124_63 rfl ?_
          refine rf_g_pl p124_64 ?_
          refine ps_s_k p124_67 ?_
          refine rf_sa_aV hm p124_68 (by omega) ?_
          refine ps_s_al p124_69 rfl ?_
          refine ps_s_dup p124_70 rfl ?_
          refine rf_g_pl p124_71 ?_
          refine ps_s_k p124_74 ?_
          first | refine ps_s_add p124_75 ?_ | refine ps_s_2 p124_75 ?_
          refine rf_s_pl hm p124_76 ?_
          refine ps_s_al p124_79 rfl ?_
          refine rf_g_pl p124_80 ?_
          refine ps_s_ri p124_83 t124 ?_
          exact K3 n (by omega) rfl (by omega)
        · refine ps_s_al p124_30 rfl ?_
          refine ps_s_k p124_31 ?_
          refine ps_s_vV [_] _ p124_32 rfl rf_o rfl rfl rfl (rf_refuse hm (ps_bki ?_) d (by omega))
          refine ps_s_ri p124_35 t124 ?_
          exact K2 ⟨n, by omega, rfl⟩ (by omega)
      · exact ref (by
          rintro ⟨k, h1, h2⟩
          have := ps_ofNat_inj hn (by omega) h2
          omega)
theorem rf_discard (hm : G.1 ≤ m) (hpl : pl ≤ 8)
    (K1 : pl = 0 → Q (.inl (some (iN 0))) (rf h0 m r0 (1) df dc bf cn nn li P sz pl aD aK aL aT aS aX aM aC aN aO aQ aB aV aH))
    (K2 : 0 < pl → Q (.inl (some (iN (pl - 1)))) (rf h0 m r0 (0) df dc bf cn nn li P sz (pl - 1) aD aK aL aT aS aX aM aC aN aO aQ aB aV aH)) : ps_M G 2 126 [.ref m] (rf h0 m r0 tw df dc bf cn nn li P sz pl aD aK aL aT aS aX aM aC aN aO aQ aB aV aH) Q := by
  refine ps_M_in (e126 _) l126 (fun d hd => ?_)
  refine ps_s_al p126_0 rfl ?_
  refine ps_s_k p126_1 ?_
  refine rf_s_tw hm p126_2 ?_
  refine ps_s_al p126_5 rfl ?_
  refine rf_g_pl p126_6 ?_
  refine ps_s_ne0 p126_9 (by omega) (fun c9 => ?_) (fun c9 => ?_)
  · refine ps_s_al p126_18 rfl ?_
    refine ps_s_dup p126_19 rfl ?_
    refine rf_g_pl p126_20 ?_
    refine ps_s_k p126_23 ?_
    first | refine ps_s_sub p126_24 (by omega) ?_ | refine ps_s_2 p126_24 ?_
    refine rf_s_pl hm p126_25 ?_
    refine ps_s_al p126_28 rfl ?_
    refine rf_g_pl p126_29 ?_
    refine ps_s_ri p126_32 t126 ?_
    exact K2 (by omega)
  · refine ps_s_al p126_12 rfl ?_
    refine ps_s_k p126_13 ?_
    refine ps_s_vV [_] _ p126_14 rfl rf_o rfl rfl rfl (rf_refuse hm (ps_bki ?_) d (by omega))
    refine ps_s_ri p126_17 t126 ?_
    exact K1 (by omega)
/-- marks copied behind others -/
def cpM (f : Nat → Nat) (to fr k : Nat) : Nat → Nat := fun j => if to ≤ j ∧ j < to + k then f (fr + (j - to)) else f j
theorem cpM_up (f : Nat → Nat) (to fr k : Nat) (h : to + k ≤ fr + k) : va_up (cpM f to fr k) (to + k) (cpM f to fr k (fr + k)) = cpM f to fr (k + 1) := by
  have e : cpM f to fr k (fr + k) = f (fr + k) := by unfold cpM; rw [if_neg (by omega)]
  rw [e]
  funext j
  unfold va_up
  by_cases h1 : j = to + k
  · rw [if_pos h1]
    unfold cpM
    rw [if_pos (by omega), show j - to = k by omega]
  · rw [if_neg h1]
    unfold cpM
    by_cases h2 : to ≤ j ∧ j < to + k
    · rw [if_pos h2, if_pos (by omega)]
    · rw [if_neg h2, if_neg (by omega)]
theorem rf_combine (hm : G.1 ≤ m) {a : Int32} (hpl : pl ≤ 8) (hB : ∀ j, aB j ≤ 15) (hV : ∀ j, aV j ≤ 8) (hBV : ∀ j, j < pl → aB j + 1 = 2 * aV j) (hMk : ∀ j, aQ j < 100)
    (K1 : (¬ ∃ n : Nat, n < 11 ∧ a = Int32.ofNat n) → Q (.inl (some (iN 0))) (rf h0 m r0 (1) df dc bf cn nn li P sz pl aD aK aL aT aS aX aM aC aN aO aQ aB aV aH))
    (K2 : (∃ n : Nat, n < 11 ∧ a = Int32.ofNat n) → pl < 2 → Q (.inl (some (iN 0))) (rf h0 m r0 (2) df dc bf cn nn li P sz pl aD aK aL aT aS aX aM aC aN aO aQ aB aV aH))
    (K3 : (∃ n : Nat, n < 11 ∧ a = Int32.ofNat n) → 2 ≤ pl → 8 < aV (pl - 2) + aV (pl - 2 + 1) → Q (.inl (some (iN 0))) (rf h0 m r0 (3) df dc bf cn nn li P sz pl aD aK aL aT aS aX aM aC aN aO aQ aB aV aH))
    (K4 : ∀ n : Nat, n < 11 → a = Int32.ofNat n → 2 ≤ pl → aV (pl - 2) + aV (pl - 2 + 1) ≤ 8 → Q (.inl (some (iN (pl - 1)))) (rf h0 m r0 (0) df dc bf cn nn li P sz (pl - 1) aD aK aL aT aS aX aM aC aN aO (va_up (cpM aQ (15 * (pl - 2) + aB (pl - 2)) (15 * (pl - 2) + 15) (aB (pl - 2 + 1))) (15 * (pl - 2) + (aB (pl - 2) + aB (pl - 2 + 1) + 1) - 1) (16 + n)) (va_up aB (pl - 2) (aB (pl - 2) + aB (pl - 2 + 1) + 1)) (va_up aV (pl - 2) (aV (pl - 2) + aV (pl - 2 + 1))) aH)) : ps_M G 2 125 [.ref m, .int a] (rf h0 m r0 tw df dc bf cn nn li P sz pl aD aK aL aT aS aX aM aC aN aO aQ aB aV aH) Q := by
  refine ps_M_in (e125 _ _) l125 (fun d hd => ?_)
  have ref : (¬ ∃ n : Nat, n < 11 ∧ a = Int32.ofNat n) → ps_X G d 125 15 [some (.ref m), some (.int a), none, none] [] (rf h0 m r0 (0) df dc bf cn nn li P sz pl aD aK aL aT aS aX aM aC aN aO aQ aB aV aH) Q := by
    intro h
    refine ps_s_al p125_15 rfl ?_
    refine ps_s_k p125_16 ?_
    refine ps_s_vV [_] _ p125_17 rfl rf_o rfl rfl rfl (rf_refuse hm (ps_bki ?_) d (by omega))
    refine ps_s_ri p125_20 t125 ?_
    exact K1 h
  rcases i_cases a with hn | ⟨n, hn, rfl⟩
  · refine ps_s_al p125_0 rfl ?_
    refine ps_s_k p125_1 ?_
    refine rf_s_tw hm p125_2 ?_
    refine ps_s_il p125_5 rfl ?_
    refine ps_s_j0 p125_6 (fun _ => ref ?_) (fun c => absurd hn (of_decide_eq_false c))
    rintro ⟨n, h1, rfl⟩
    have := (ps_lt_iff (a := n) (b := 0) (by omega) (by omega)).mp hn
    omega
  · refine ps_s_al p125_0 rfl ?_
    refine ps_s_k p125_1 ?_
    refine rf_s_tw hm p125_2 ?_
    refine ps_s_il p125_5 rfl ?_
    refine ps_s_lt0 p125_6 (by omega) (fun c6 => ?_) (fun c6 => ?_)
    · omega
    · refine ps_s_il p125_9 rfl ?_
      refine ps_s_k p125_10 ?_
      refine ps_s_le p125_12 (by omega) (by omega) (fun c12 => ?_) (fun c12 => ?_)
      · refine ps_s_al p125_21 rfl ?_
        refine rf_g_pl p125_22 ?_
        refine ps_s_k p125_25 ?_
        refine ps_s_ge p125_26 (by omega) (by omega) (fun c26 => ?_) (fun c26 => ?_)
        · have hv1 := hV (pl - 2)
          have hv2 := hV (pl - 2 + 1)
          have hb1 := hB (pl - 2)
          have hb2 := hB (pl - 2 + 1)
          have hbv1 := hBV (pl - 2) (by omega)
          have hbv2 := hBV (pl - 2 + 1) (by omega)
          refine ps_s_al p125_35 rfl ?_
          refine rf_g_pl p125_36 ?_
          refine ps_s_k p125_39 ?_
          first | refine ps_s_sub p125_40 (by omega) ?_ | refine ps_s_2 p125_40 ?_
          refine ps_s_is2 p125_41 ?_
          refine ps_s_al p125_42 rfl ?_
          refine rf_g_aV p125_43 ?_
          refine ps_s_il p125_46 rfl ?_
          refine rf_la_aV p125_47 (by omega) ?_
          refine ps_s_al p125_48 rfl ?_
          refine rf_g_aV p125_49 ?_
          refine ps_s_il p125_52 rfl ?_
          refine ps_s_k p125_53 ?_
          first | refine ps_s_add p125_54 ?_ | refine ps_s_2 p125_54 ?_
          refine rf_la_aV p125_55 (by omega) ?_
          first | refine ps_s_add p125_56 ?_ | refine ps_s_2 p125_56 ?_
          refine ps_s_k p125_57 ?_
          refine ps_s_le p125_59 (by omega) (by omega) (fun c59 => ?_) (fun c59 => ?_)
          · have loop : ∀ k i, i + k = aB (pl - 2 + 1) → ps_X G d 125 70 [some (.ref m), some (iN n), some (iN (pl - 2)), some (iN i)] [] (rf h0 m r0 (0) df dc bf cn nn li P sz pl aD aK aL aT aS aX aM aC aN aO (cpM aQ (15 * (pl - 2) + aB (pl - 2)) (15 * (pl - 2) + 15) i) aB aV aH) Q := by
              intro k
              induction k with
              | zero =>
                intro i hi
                refine ps_s_il p125_70 rfl ?_
                refine ps_s_al p125_71 rfl ?_
                refine rf_g_aB p125_72 ?_
                refine ps_s_il p125_75 rfl ?_
                refine ps_s_k p125_76 ?_
                first | refine ps_s_add p125_77 ?_ | refine ps_s_2 p125_77 ?_
                refine rf_la_aB p125_78 (by omega) ?_
                refine ps_s_ge p125_79 (by omega) (by omega) (fun c79 => ?_) (fun c79 => ?_)
                · refine ps_s_al p125_120 rfl ?_
                  refine rf_g_aB p125_121 ?_
                  refine ps_s_il p125_124 rfl ?_
                  refine ps_s_al p125_125 rfl ?_
                  refine rf_g_aB p125_126 ?_
                  refine ps_s_il p125_129 rfl ?_
                  refine rf_la_aB p125_130 (by omega) ?_
                  refine ps_s_al p125_131 rfl ?_
                  refine rf_g_aB p125_132 ?_
                  refine ps_s_il p125_135 rfl ?_
                  refine ps_s_k p125_136 ?_
                  first | refine ps_s_add p125_137 ?_ | refine ps_s_2 p125_137 ?_
                  refine rf_la_aB p125_138 (by omega) ?_
                  first | refine ps_s_add p125_139 ?_ | refine ps_s_2 p125_139 ?_
                  refine ps_s_k p125_140 ?_
                  first | refine ps_s_add p125_141 ?_ | refine ps_s_2 p125_141 ?_
                  refine rf_sa_aB hm p125_142 (by omega) ?_
                  have e1 : va_up aB (pl - 2) (aB (pl - 2) + aB (pl - 2 + 1) + 1) (pl - 2) = aB (pl - 2) + aB (pl - 2 + 1) + 1 := va_up_at _ _ _
                  refine ps_s_al p125_143 rfl ?_
                  refine rf_g_aQ p125_144 ?_
                  refine ps_s_k p125_147 ?_
                  refine ps_s_il p125_149 rfl ?_
                  first | refine ps_s_mul p125_150 ?_ | refine ps_s_2 p125_150 ?_
                  refine ps_s_al p125_151 rfl ?_
                  refine rf_g_aB p125_152 ?_
                  refine ps_s_il p125_155 rfl ?_
                  refine rf_la_aB p125_156 (by omega) ?_
                  rw [e1]
                  first | refine ps_s_add p125_157 ?_ | refine ps_s_2 p125_157 ?_
                  refine ps_s_k p125_158 ?_
                  first | refine ps_s_sub p125_159 (by omega) ?_ | refine ps_s_2 p125_159 ?_
                  refine ps_s_k p125_160 ?_
                  refine ps_s_il p125_162 rfl ?_
                  first | refine ps_s_add p125_163 ?_ | refine ps_s_2 p125_163 ?_
                  refine rf_sa_aQ hm p125_164 (by omega) ?_
                  refine ps_s_al p125_165 rfl ?_
                  refine rf_g_aV p125_166 ?_
                  refine ps_s_il p125_169 rfl ?_
                  refine ps_s_al p125_170 rfl ?_
                  refine rf_g_aV p125_171 ?_
                  refine ps_s_il p125_174 rfl ?_
                  refine rf_la_aV p125_175 (by omega) ?_
                  refine ps_s_al p125_176 rfl ?_
                  refine rf_g_aV p125_177 ?_
                  refine ps_s_il p125_180 rfl ?_
                  refine ps_s_k p125_181 ?_
                  first | refine ps_s_add p125_182 ?_ | refine ps_s_2 p125_182 ?_
                  refine rf_la_aV p125_183 (by omega) ?_
                  first | refine ps_s_add p125_184 ?_ | refine ps_s_2 p125_184 ?_
                  refine rf_sa_aV hm p125_185 (by omega) ?_
                  refine ps_s_al p125_186 rfl ?_
                  refine ps_s_dup p125_187 rfl ?_
                  refine rf_g_pl p125_188 ?_
                  refine ps_s_k p125_191 ?_
                  first | refine ps_s_sub p125_192 (by omega) ?_ | refine ps_s_2 p125_192 ?_
                  refine rf_s_pl hm p125_193 ?_
                  refine ps_s_al p125_196 rfl ?_
                  refine rf_g_pl p125_197 ?_
                  refine ps_s_ri p125_200 t125 ?_
                  rw [show i = aB (pl - 2 + 1) by omega]
                  exact K4 n (by omega) rfl (by omega) (by omega)
                · omega
              | succ k ih =>
                intro i hi
                have q1 : cpM aQ (15 * (pl - 2) + aB (pl - 2)) (15 * (pl - 2) + 15) i (15 * (pl - 2) + 15 + i) < 100 := by unfold cpM; split <;> exact hMk _
                refine ps_s_il p125_70 rfl ?_
                refine ps_s_al p125_71 rfl ?_
                refine rf_g_aB p125_72 ?_
                refine ps_s_il p125_75 rfl ?_
                refine ps_s_k p125_76 ?_
                first | refine ps_s_add p125_77 ?_ | refine ps_s_2 p125_77 ?_
                refine rf_la_aB p125_78 (by omega) ?_
                refine ps_s_ge p125_79 (by omega) (by omega) (fun c79 => ?_) (fun c79 => ?_)
                · omega
                · refine ps_s_al p125_82 rfl ?_
                  refine rf_g_aQ p125_83 ?_
                  refine ps_s_k p125_86 ?_
                  refine ps_s_il p125_88 rfl ?_
                  first | refine ps_s_mul p125_89 ?_ | refine ps_s_2 p125_89 ?_
                  refine ps_s_al p125_90 rfl ?_
                  refine rf_g_aB p125_91 ?_
                  refine ps_s_il p125_94 rfl ?_
                  refine rf_la_aB p125_95 (by omega) ?_
                  first | refine ps_s_add p125_96 ?_ | refine ps_s_2 p125_96 ?_
                  refine ps_s_il p125_97 rfl ?_
                  first | refine ps_s_add p125_98 ?_ | refine ps_s_2 p125_98 ?_
                  refine ps_s_al p125_99 rfl ?_
                  refine rf_g_aQ p125_100 ?_
                  refine ps_s_k p125_103 ?_
                  refine ps_s_il p125_105 rfl ?_
                  first | refine ps_s_mul p125_106 ?_ | refine ps_s_2 p125_106 ?_
                  refine ps_s_k p125_107 ?_
                  first | refine ps_s_add p125_109 ?_ | refine ps_s_2 p125_109 ?_
                  refine ps_s_il p125_110 rfl ?_
                  first | refine ps_s_add p125_111 ?_ | refine ps_s_2 p125_111 ?_
                  refine rf_la_aQ p125_112 (by omega) ?_
                  refine rf_sa_aQ hm p125_113 (by omega) ?_
                  refine ps_s_in3 p125_114 ?_
                  refine ps_s_go p125_117 ?_
                  rw [cpM_up _ _ _ _ (by omega)]
                  exact ih _ (by omega)
            refine ps_s_k p125_68 ?_
            refine ps_s_is3 p125_69 ?_
            have := loop (aB (pl - 2 + 1)) 0 (by omega)
            rw [show cpM aQ (15 * (pl - 2) + aB (pl - 2)) (15 * (pl - 2) + 15) 0 = aQ from funext fun j => if_neg (by omega)] at this
            exact this
          · refine ps_s_al p125_62 rfl ?_
            refine ps_s_k p125_63 ?_
            refine ps_s_vV [_] _ p125_64 rfl rf_o rfl rfl rfl (rf_refuse hm (ps_bki ?_) d (by omega))
            refine ps_s_ri p125_67 t125 ?_
            exact K3 ⟨n, by omega, rfl⟩ (by omega) (by omega)
        · refine ps_s_al p125_29 rfl ?_
          refine ps_s_k p125_30 ?_
          refine ps_s_vV [_] _ p125_31 rfl rf_o rfl rfl rfl (rf_refuse hm (ps_bki ?_) d (by omega))
          refine ps_s_ri p125_34 t125 ?_
          exact K2 ⟨n, by omega, rfl⟩ (by omega)
      · exact ref (by
          rintro ⟨k, h1, h2⟩
          have := ps_ofNat_inj hn (by omega) h2
          omega)
end RFK
