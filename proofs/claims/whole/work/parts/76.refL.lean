/-! The reference: add and delete. -/
def shR (f : Nat → pRow) (s k : Nat) : Nat → pRow := fun j => if s ≤ j ∧ j < k then f (j + 1) else f j
theorem shR_up {f : Nat → pRow} {s k : Nat} (h : s ≤ k) : va_up (shR f s k) k (shR f s k (k + 1)) = shR f s (k + 1) := by
  funext j
  unfold va_up shR
  by_cases h1 : j = k
  · subst h1
    rw [if_pos rfl, if_neg (by omega), if_pos (by omega)]
  · rw [if_neg h1]
    by_cases h2 : s ≤ j ∧ j < k
    · rw [if_pos h2, if_pos (by omega)]
    · rw [if_neg h2, if_neg (by omega)]
theorem rws_sh (f : Nat → pRow) (a s n : Nat) (h1 : a ≤ s) (h2 : s < a + (n + 1)) : rws (shR f s (a + n)) a n = (rws f a (n + 1)).eraseIdx (s - a) := by
  have sh : ∀ k d, s ≤ d → d + k ≤ a + n → rws (shR f s (a + n)) d k = rws f (d + 1) k := by
    intro k
    induction k with
    | zero => intro d _ _; rfl
    | succ k ih =>
      intro d q1 q2
      rw [rws_s, rws_s, ih (d + 1) (by omega) (by omega)]
      unfold shR
      rw [if_pos (by omega)]
  obtain ⟨b, rfl⟩ : ∃ b, s = a + b := ⟨s - a, by omega⟩
  obtain ⟨c, rfl⟩ : ∃ c, n = b + c := ⟨n - b, by omega⟩
  have e : rws f a (b + c + 1) = rws f a b ++ f (a + b) :: rws f (a + b + 1) c := by
    rw [show b + c + 1 = b + (c + 1) by omega, rws_app, rws_s]
  rw [e, rws_app, sh c (a + b) (by omega) (by omega), rws_congr (g := f) b a (fun j q1 q2 => by unfold shR; rw [if_neg (by omega)]), show a + b - a = b by omega]
  have := er_mid (rws f a b) (rws f (a + b + 1) c) (f (a + b))
  rw [rws_len] at this
  exact this.symm
/-- the draft's terms put down -/
def cpD (f g : Nat → Nat) (b k : Nat) : Nat → Nat := fun j => if b ≤ j ∧ j < b + k then g (j - b) else f j
theorem cpD_up (f g : Nat → Nat) (b k : Nat) : va_up (cpD f g b k) (b + k) (g k) = cpD f g b (k + 1) := by
  funext j
  unfold va_up
  by_cases h1 : j = b + k
  · rw [if_pos h1]
    unfold cpD
    rw [if_pos (by omega), show j - b = k by omega]
  · rw [if_neg h1]
    unfold cpD
    by_cases h2 : b ≤ j ∧ j < b + k
    · rw [if_pos h2, if_pos (by omega)]
    · rw [if_neg h2, if_neg (by omega)]
theorem row_add {aK aL aT aS aX aM aD : Nat → Nat} {b n df : Nat} (hdf : df ≤ 8) (hL : ∀ j, aL j ≤ 8) : rowOf (va_up aK b n) (va_up aL b df) (cpD aT aD (8 * b) df) aS (va_up aX b 0) (va_up aM b 0) = va_up (rowOf aK aL aT aS aX aM) b ((n, sl aD 0 df), aS b, 0, 0) := by
  funext j
  by_cases h : j = b
  · subst h
    rw [va_up_at]
    unfold rowOf docOf
    simp only [va_up_at]
    rw [sl_congr (g := aD) df 0 (fun p _ h2 => by unfold cpD; rw [if_pos (by omega), show 8 * j + p - 8 * j = p by omega])]
  · rw [va_upn _ _ h]
    unfold rowOf docOf
    simp only [va_upn _ _ h]
    rw [sl_congr (g := fun p => aT (8 * j + p)) (aL j) 0 (fun p _ h2 => by have := hL j; unfold cpD; rw [if_neg (by omega)])]
section RFL
variable {h0 : pm_S} {m r0 tw df dc bf cn nn li sz pl : Nat} {P : Int32} {aD aK aL aT aS aX aM aC aN aO aQ aB aV aH : Nat → Nat} {G : pm_G} {Q : pm_Q}
theorem rf_add (hm : G.1 ≤ m) {a : Int32} (hdf : df ≤ 8) (hbf : bf ≤ 12) (hall : dc + bf < 200) (hbd : bd aK aL aT aS aX aM) (hD : ∀ j, aD j < 16)
    (K1 : (a < 0 ∨ (0 < dc + bf ∧ a ≤ Int32.ofNat (aK (dc + bf - 1)))) → Q (.inl (some (iN 0))) (rf h0 m r0 (1) df dc bf cn nn li P sz pl aD aK aL aT aS aX aM aC aN aO aQ aB aV aH))
    (K2 : ¬ (a < 0 ∨ (0 < dc + bf ∧ a ≤ Int32.ofNat (aK (dc + bf - 1)))) → (df = 0 ∨ bf = 12) → Q (.inl (some (iN 0))) (rf h0 m r0 (2) df dc bf cn nn li P sz pl aD aK aL aT aS aX aM aC aN aO aQ aB aV aH))
    (K3 : ¬ (a < 0 ∨ (0 < dc + bf ∧ a ≤ Int32.ofNat (aK (dc + bf - 1)))) → ¬ (df = 0 ∨ bf = 12) → ∀ n : Nat, n < 2147483648 → a = Int32.ofNat n → ∀ aK' aL' aT' aX' aM' : Nat → Nat, bd aK' aL' aT' aS aX' aM' → rowOf aK' aL' aT' aS aX' aM' = va_up (rowOf aK aL aT aS aX aM) (dc + bf) ((n, sl aD 0 df), aS (dc + bf), 0, 0) →
      Q (.inl (some (iN (bf + 1)))) (rf h0 m r0 (0) (0) dc (bf + 1) cn nn li P sz pl aD (aK') (aL') (aT') aS (aX') (aM') aC aN aO aQ aB aV aH)) : ps_M G 2 101 [.ref m, .int a] (rf h0 m r0 tw df dc bf cn nn li P sz pl aD aK aL aT aS aX aM aC aN aO aQ aB aV aH) Q := by
  refine ps_M_in (e101 _ _) l101 (fun d hd => ?_)
  obtain ⟨hK, hL, hT, hS, hX, hM⟩ := hbd
  have ref : (a < 0 ∨ (0 < dc + bf ∧ a ≤ Int32.ofNat (aK (dc + bf - 1)))) → ps_X G d 101 35 [some (.ref m), some (.int a), some (iN (dc + bf)), none] [] (rf h0 m r0 (0) df dc bf cn nn li P sz pl aD aK aL aT aS aX aM aC aN aO aQ aB aV aH) Q := by
    intro h
    refine ps_s_al p101_35 rfl ?_
    refine ps_s_k p101_36 ?_
    refine ps_s_vV [_] _ p101_37 rfl rf_o rfl rfl rfl (rf_refuse hm (ps_bki ?_) d (by omega))
    refine ps_s_ri p101_40 t101 ?_
    exact K1 h
  rcases i_cases a with hn | ⟨n, hn, rfl⟩
  · refine ps_s_al p101_0 rfl ?_
    refine ps_s_k p101_1 ?_
    refine rf_s_tw hm p101_2 ?_
    refine ps_s_al p101_5 rfl ?_
    refine rf_g_dc p101_6 ?_
    refine ps_s_al p101_9 rfl ?_
    refine rf_g_bf p101_10 ?_
    first | refine ps_s_add p101_13 ?_ | refine ps_s_2 p101_13 ?_
    refine ps_s_is2 p101_14 ?_
    refine ps_s_il p101_15 rfl ?_
    exact ps_s_j0 p101_16 (fun _ => ref (.inl hn)) (fun c => absurd hn (of_decide_eq_false c))
  · have hn0 : ¬ Int32.ofNat n < 0 := fun h => by have := (ps_lt_iff (a := n) (b := 0) (by omega) (by omega)).mp h; omega
    have go : ¬ (Int32.ofNat n < 0 ∨ (0 < dc + bf ∧ Int32.ofNat n ≤ Int32.ofNat (aK (dc + bf - 1)))) → ps_X G d 101 41 [some (.ref m), some (iN n), some (iN (dc + bf)), none] [] (rf h0 m r0 (0) df dc bf cn nn li P sz pl aD aK aL aT aS aX aM aC aN aO aQ aB aV aH) Q := by
      intro hok
      have ref2 : (df = 0 ∨ bf = 12) → ps_X G d 101 57 [some (.ref m), some (iN n), some (iN (dc + bf)), none] [] (rf h0 m r0 (0) df dc bf cn nn li P sz pl aD aK aL aT aS aX aM aC aN aO aQ aB aV aH) Q := by
        intro h
        refine ps_s_al p101_57 rfl ?_
        refine ps_s_k p101_58 ?_
        refine ps_s_vV [_] _ p101_59 rfl rf_o rfl rfl rfl (rf_refuse hm (ps_bki ?_) d (by omega))
        refine ps_s_ri p101_62 t101 ?_
        exact K2 hok h
      refine ps_s_al p101_41 rfl ?_
      refine rf_g_df p101_42 ?_
      refine ps_s_eq0 p101_45 (by omega) (fun c45 => ?_) (fun c45 => ?_)
      · exact ref2 (.inl c45)
      · refine ps_s_al p101_48 rfl ?_
        refine rf_g_bf p101_49 ?_
        refine ps_s_k p101_52 ?_
        refine ps_s_ne p101_54 (by omega) (by omega) (fun c54 => ?_) (fun c54 => ?_)
        · have loop : ∀ k i, i + k = df → ps_X G d 101 82 [some (.ref m), some (iN n), some (iN (dc + bf)), some (iN i)] [] (rf h0 m r0 (0) df dc bf cn nn li P sz pl aD (va_up aK (dc + bf) n) (va_up aL (dc + bf) df) (cpD aT aD (8 * (dc + bf)) i) aS aX aM aC aN aO aQ aB aV aH) Q := by
            intro k
            induction k with
            | zero =>
              intro i hi
              refine ps_s_il p101_82 rfl ?_
              refine ps_s_al p101_83 rfl ?_
              refine rf_g_df p101_84 ?_
              refine ps_s_ge p101_87 (by omega) (by omega) (fun c87 => ?_) (fun c87 => ?_)
              · refine ps_s_al p101_113 rfl ?_
                refine rf_g_aX p101_114 ?_
                refine ps_s_il p101_117 rfl ?_
                refine ps_s_k p101_118 ?_
                refine rf_sa_aX hm p101_119 (by omega) (by omega) ?_
                refine ps_s_al p101_120 rfl ?_
                refine rf_g_aM p101_121 ?_
                refine ps_s_il p101_124 rfl ?_
                refine ps_s_k p101_125 ?_
                refine rf_sa_aM hm p101_126 (by omega) (by omega) ?_
                refine ps_s_al p101_127 rfl ?_
                refine ps_s_k p101_128 ?_
                refine rf_s_df hm p101_129 ?_
                refine ps_s_al p101_132 rfl ?_
                refine ps_s_dup p101_133 rfl ?_
                refine rf_g_bf p101_134 ?_
                refine ps_s_k p101_137 ?_
                first | refine ps_s_add p101_138 ?_ | refine ps_s_2 p101_138 ?_
                refine rf_s_bf hm p101_139 ?_
                refine ps_s_al p101_142 rfl ?_
                refine rf_g_bf p101_143 ?_
                refine ps_s_ri p101_146 t101 ?_
                rw [show i = df by omega]
                refine K3 hok (by omega) n hn rfl _ _ _ _ _ ⟨up_lt hK hn, up_le hL hdf, ?_, hS, up_le hX (by omega), up_le hM (by omega)⟩ (row_add hdf hL)
                intro j
                unfold cpD
                split
                · exact hD _
                · exact hT _
              · omega
            | succ k ih =>
              intro i hi
              refine ps_s_il p101_82 rfl ?_
              refine ps_s_al p101_83 rfl ?_
              refine rf_g_df p101_84 ?_
              refine ps_s_ge p101_87 (by omega) (by omega) (fun c87 => ?_) (fun c87 => ?_)
              · omega
              · refine ps_s_al p101_90 rfl ?_
                refine rf_g_aT p101_91 ?_
                refine ps_s_k p101_94 ?_
                refine ps_s_il p101_96 rfl ?_
                first | refine ps_s_mul p101_97 ?_ | refine ps_s_2 p101_97 ?_
                refine ps_s_il p101_98 rfl ?_
                first | refine ps_s_add p101_99 ?_ | refine ps_s_2 p101_99 ?_
                refine ps_s_al p101_100 rfl ?_
                refine rf_g_aD p101_101 ?_
                refine ps_s_il p101_104 rfl ?_
                refine rf_la_aD p101_105 (by omega) ?_
                refine rf_sa_aT hm p101_106 (by omega) ?_
                refine ps_s_in3 p101_107 ?_
                refine ps_s_go p101_110 ?_
                rw [cpD_up]
                exact ih _ (by omega)
          refine ps_s_al p101_63 rfl ?_
          refine rf_g_aK p101_64 ?_
          refine ps_s_il p101_67 rfl ?_
          refine ps_s_il p101_68 rfl ?_
          refine rf_sa_aK hm p101_69 (by omega) ?_
          refine ps_s_al p101_70 rfl ?_
          refine rf_g_aL p101_71 ?_
          refine ps_s_il p101_74 rfl ?_
          refine ps_s_al p101_75 rfl ?_
          refine rf_g_df p101_76 ?_
          refine rf_sa_aL hm p101_79 (by omega) ?_
          refine ps_s_k p101_80 ?_
          refine ps_s_is3 p101_81 ?_
          have := loop df 0 (by omega)
          rw [show cpD aT aD (8 * (dc + bf)) 0 = aT from funext fun j => if_neg (by omega)] at this
          exact this
        · exact ref2 (.inr (by omega))
    refine ps_s_al p101_0 rfl ?_
    refine ps_s_k p101_1 ?_
    refine rf_s_tw hm p101_2 ?_
    refine ps_s_al p101_5 rfl ?_
    refine rf_g_dc p101_6 ?_
    refine ps_s_al p101_9 rfl ?_
    refine rf_g_bf p101_10 ?_
    first | refine ps_s_add p101_13 ?_ | refine ps_s_2 p101_13 ?_
    refine ps_s_is2 p101_14 ?_
    refine ps_s_il p101_15 rfl ?_
    refine ps_s_lt0 p101_16 (by omega) (fun c16 => ?_) (fun c16 => ?_)
    · omega
    · refine ps_s_il p101_19 rfl ?_
      refine ps_s_le0 p101_20 (by omega) (fun c20 => ?_) (fun c20 => ?_)
      · exact go (by rintro (h | h); exact hn0 h; omega)
      · have hk := hK (dc + bf - 1)
        refine ps_s_il p101_23 rfl ?_
        refine ps_s_al p101_24 rfl ?_
        refine rf_g_aK p101_25 ?_
        refine ps_s_il p101_28 rfl ?_
        refine ps_s_k p101_29 ?_
        first | refine ps_s_sub p101_30 (by omega) ?_ | refine ps_s_2 p101_30 ?_
        refine rf_la_aK p101_31 (by omega) ?_
        refine ps_s_gt p101_32 (by omega) (by omega) (fun c32 => ?_) (fun c32 => ?_)
        · refine go (by
            rintro (h | h)
            · exact hn0 h
            · have := (ps_le_iff hn hk).mp h.2
              omega)
        · exact ref (.inr ⟨by omega, (ps_le_iff hn hk).mpr (by omega)⟩)
theorem rf_delete (hm : G.1 ≤ m) {a : Int32} (hall : dc + bf ≤ 199) (hbd : bd aK aL aT aS aX aM)
    (K1 : (∀ j, j < dc + bf → ¬ Int32.ofNat (aK j) = a) → Q (.inl (some (iN 0))) (rf h0 m r0 (0) df dc bf cn nn li P sz pl aD aK aL aT aS aX aM aC aN aO aQ aB aV aH))
    (K2 : ∀ x, x < dc → Int32.ofNat (aK x) = a → (∀ j, j < x → ¬ Int32.ofNat (aK j) = a) → Q (.inl (some (iN (bN (decide (aX x = 0) && decide (aM x = 0)))))) (rf h0 m r0 (0) df dc bf cn nn li P sz pl aD aK aL aT aS aX (va_up aM x (bN (decide (aX x = 0)))) aC aN aO aQ aB aV aH))
    (K3 : ∀ x, dc ≤ x → x < dc + bf → Int32.ofNat (aK x) = a → (∀ j, j < x → ¬ Int32.ofNat (aK j) = a) → ∀ aK' aL' aT' aS' aX' aM' : Nat → Nat, bd aK' aL' aT' aS' aX' aM' → rowOf aK' aL' aT' aS' aX' aM' = shR (rowOf aK aL aT aS aX aM) x (dc + (bf - 1)) → Q (.inl (some (iN 1))) (rf h0 m r0 (0) df dc (bf - 1) cn nn li P sz pl aD (aK') (aL') (aT') (aS') (aX') (aM') aC aN aO aQ aB aV aH)) : ps_M G 2 102 [.ref m, .int a] (rf h0 m r0 tw df dc bf cn nn li P sz pl aD aK aL aT aS aX aM aC aN aO aQ aB aV aH) Q := by
  refine ps_M_in (e102 _ _) l102 (fun d hd => ?_)
  have mv : ∀ k e x (aK' aL' aT' aS' aX' aM' : Nat → Nat), e + k = dc + (bf - 1) → dc ≤ x → x ≤ e → x < dc + bf → Int32.ofNat (aK x) = a → (∀ j, j < x → ¬ Int32.ofNat (aK j) = a) → bd aK' aL' aT' aS' aX' aM' → rowOf aK' aL' aT' aS' aX' aM' = shR (rowOf aK aL aT aS aX aM) x e → ps_X G d 102 96 [some (.ref m), some (.int a), some (iN x), some (iN e)] [] (rf h0 m r0 (0) df dc (bf - 1) cn nn li P sz pl aD (aK') (aL') (aT') (aS') (aX') (aM') aC aN aO aQ aB aV aH) Q := by
    intro k
    induction k with
    | zero =>
      intro e x aK' aL' aT' aS' aX' aM' he h1 h2 h3 h4 h5 hb hr
      refine ps_s_il p102_96 rfl ?_
      refine ps_s_al p102_97 rfl ?_
      refine rf_g_dc p102_98 ?_
      refine ps_s_al p102_101 rfl ?_
      refine rf_g_bf p102_102 ?_
      first | refine ps_s_add p102_105 ?_ | refine ps_s_2 p102_105 ?_
      refine ps_s_ge p102_106 (by omega) (by omega) (fun c106 => ?_) (fun c106 => ?_)
      · refine ps_s_k p102_123 ?_
        refine ps_s_rz p102_124 t102 (by first | exact .inl rfl | exact .inr rfl | exact bN_01 _) ?_
        rw [show e = dc + (bf - 1) by omega] at hr
        exact K3 x h1 h3 h4 h5 _ _ _ _ _ _ hb hr
      · omega
    | succ k ih =>
      intro e x aK' aL' aT' aS' aX' aM' he h1 h2 h3 h4 h5 hb hr
      refine ps_s_il p102_96 rfl ?_
      refine ps_s_al p102_97 rfl ?_
      refine rf_g_dc p102_98 ?_
      refine ps_s_al p102_101 rfl ?_
      refine rf_g_bf p102_102 ?_
      first | refine ps_s_add p102_105 ?_ | refine ps_s_2 p102_105 ?_
      refine ps_s_ge p102_106 (by omega) (by omega) (fun c106 => ?_) (fun c106 => ?_)
      · omega
      · refine ps_s_al p102_109 rfl ?_
        refine ps_s_il p102_110 rfl ?_
        refine ps_s_k p102_111 ?_
        first | refine ps_s_add p102_112 ?_ | refine ps_s_2 p102_112 ?_
        refine ps_s_il p102_113 rfl ?_
        refine ps_s_vV [_, _] _ p102_114 rfl rf_o rfl rfl rfl (rf_move hm (by omega) (by omega) hb (fun a1 a2 a3 a4 a5 a6 q1 q2 => ps_bkv ?_) d (by omega))
        refine ps_s_in3 p102_117 ?_
        refine ps_s_go p102_120 ?_
        refine ih _ _ _ _ _ _ _ _ (by omega) h1 (by omega) h3 h4 h5 q1 ?_
        rw [q2, hr, shR_up (by omega)]
  have loop : ∀ n i, i + n = dc + bf → (∀ j, j < i → ¬ Int32.ofNat (aK j) = a) → ps_X G d 102 7 [some (.ref m), some (.int a), some (iN i), none] [] (rf h0 m r0 (0) df dc bf cn nn li P sz pl aD aK aL aT aS aX aM aC aN aO aQ aB aV aH) Q := by
    intro n
    induction n with
    | zero =>
      intro i hi h
      refine ps_s_il p102_7 rfl ?_
      refine ps_s_al p102_8 rfl ?_
      refine rf_g_dc p102_9 ?_
      refine ps_s_al p102_12 rfl ?_
      refine rf_g_bf p102_13 ?_
      first | refine ps_s_add p102_16 ?_ | refine ps_s_2 p102_16 ?_
      refine ps_s_ge p102_17 (by omega) (by omega) (fun c17 => ?_) (fun c17 => ?_)
      · refine ps_s_k p102_131 ?_
        refine ps_s_rz p102_132 t102 (by first | exact .inl rfl | exact .inr rfl | exact bN_01 _) ?_
        exact K1 (fun j hj => h j (by omega))
      · omega
    | succ n ih =>
      intro i hi h
      have hXi := hbd.2.2.2.2.1 i
      have hMi := hbd.2.2.2.2.2 i
      refine ps_s_il p102_7 rfl ?_
      refine ps_s_al p102_8 rfl ?_
      refine rf_g_dc p102_9 ?_
      refine ps_s_al p102_12 rfl ?_
      refine rf_g_bf p102_13 ?_
      first | refine ps_s_add p102_16 ?_ | refine ps_s_2 p102_16 ?_
      refine ps_s_ge p102_17 (by omega) (by omega) (fun c17 => ?_) (fun c17 => ?_)
      · omega
      · refine ps_s_al p102_20 rfl ?_
        refine rf_g_aK p102_21 ?_
        refine ps_s_il p102_24 rfl ?_
        refine rf_la_aK p102_25 (by omega) ?_
        refine ps_s_il p102_26 rfl ?_
        refine ps_s_j p102_27 (fun c => ?_) (fun c => ?_)
        · refine ps_s_in2 p102_125 ?_
          refine ps_s_go p102_128 ?_
          refine ih _ (by omega) (fun j hj => ?_)
          by_cases hji : j = i
          · rw [hji]; exact of_decide_eq_true c
          · exact h j (by omega)
        · have heq : Int32.ofNat (aK i) = a := Decidable.not_not.mp (of_decide_eq_false c)
          refine ps_s_il p102_30 rfl ?_
          refine ps_s_al p102_31 rfl ?_
          refine rf_g_dc p102_32 ?_
          refine ps_s_ge p102_35 (by omega) (by omega) (fun c35 => ?_) (fun c35 => ?_)
          · refine ps_s_al p102_84 rfl ?_
            refine ps_s_dup p102_85 rfl ?_
            refine rf_g_bf p102_86 ?_
            refine ps_s_k p102_89 ?_
            first | refine ps_s_sub p102_90 (by omega) ?_ | refine ps_s_2 p102_90 ?_
            refine rf_s_bf hm p102_91 ?_
            refine ps_s_il p102_94 rfl ?_
            refine ps_s_is3 p102_95 ?_
            refine mv (dc + (bf - 1) - i) _ _ _ _ _ _ _ _ (by omega) (by omega) (by omega) (by omega) heq h hbd ?_
            funext j
            unfold shR
            rw [if_neg (by omega)]
          · have fin : ∀ v, v ≤ 1 → v = bN (decide (aX i = 0) && decide (aM i = 0)) → ps_X G d 102 61 [some (.ref m), some (.int a), some (iN i), none] [iN v] (rf h0 m r0 (0) df dc bf cn nn li P sz pl aD aK aL aT aS aX aM aC aN aO aQ aB aV aH) Q := by
              intro v hv hve
              have hx01 : aX i = 0 ∨ aX i = 1 := by omega
              have K2' := K2 i (by omega) heq h
              rw [← hve] at K2'
              have hv2 : Int32.ofNat v = 0 ∨ Int32.ofNat v = 1 := by rw [hve]; exact bN_01 _
              refine ps_s_is3 p102_61 ?_
              refine ps_s_al p102_62 rfl ?_
              refine rf_g_aM p102_63 ?_
              refine ps_s_il p102_66 rfl ?_
              refine ps_s_al p102_67 rfl ?_
              refine rf_g_aX p102_68 ?_
              refine ps_s_il p102_71 rfl ?_
              refine rf_la_aX hm p102_72 (by omega) ?_
              refine ps_s_ne0 p102_73 (by omega) (fun c73 => ?_) (fun c73 => ?_)
              · refine ps_s_k p102_80 ?_
                refine rf_sa_aM hm p102_81 (by omega) (by omega) ?_
                refine ps_s_il p102_82 rfl ?_
                rw [decide_eq_false (p := aX i = 0) (by omega)] at K2'
                exact ps_s_rz p102_83 t102 hv2 K2'
              · refine ps_s_k p102_76 ?_
                refine ps_s_go p102_77 ?_
                refine rf_sa_aM hm p102_81 (by omega) (by omega) ?_
                refine ps_s_il p102_82 rfl ?_
                rw [decide_eq_true (p := aX i = 0) (by omega)] at K2'
                exact ps_s_rz p102_83 t102 hv2 K2'
            refine ps_s_al p102_38 rfl ?_
            refine rf_g_aX p102_39 ?_
            refine ps_s_il p102_42 rfl ?_
            refine rf_la_aX hm p102_43 (by omega) ?_
            refine ps_s_ne0 p102_44 (by omega) (fun c44 => ?_) (fun c44 => ?_)
            · refine ps_s_k p102_60 ?_
              exact fin 0 (by omega) (by rw [decide_eq_false (p := aX i = 0) (by omega)]; rfl)
            · refine ps_s_al p102_47 rfl ?_
              refine rf_g_aM p102_48 ?_
              refine ps_s_il p102_51 rfl ?_
              refine rf_la_aM hm p102_52 (by omega) ?_
              refine ps_s_ne0 p102_53 (by omega) (fun c53 => ?_) (fun c53 => ?_)
              · refine ps_s_k p102_60 ?_
                exact fin 0 (by omega) (by rw [decide_eq_false (p := aM i = 0) (by omega), Bool.and_false]; rfl)
              · refine ps_s_k p102_56 ?_
                refine ps_s_go p102_57 ?_
                exact fin 1 (by omega) (by rw [decide_eq_true (p := aX i = 0) (by omega), decide_eq_true (p := aM i = 0) (by omega)]; rfl)
  refine ps_s_al p102_0 rfl ?_
  refine ps_s_k p102_1 ?_
  refine rf_s_tw hm p102_2 ?_
  refine ps_s_k p102_5 ?_
  refine ps_s_is2 p102_6 ?_
  exact loop (dc + bf) 0 (by omega) (fun j hj => absurd hj (by omega))
end RFL
