/-! The reference: rows of the table, and how they are moved. -/
abbrev pRow : Type := pDoc × Nat × Nat × Nat
def rowOf (aK aL aT aS aX aM : Nat → Nat) : Nat → pRow := fun d => (docOf aK aL aT d, aS d, aX d, aM d)
def rws (f : Nat → pRow) : Nat → Nat → List pRow
  | _, 0 => []
  | d, n + 1 => f d :: rws f (d + 1) n
theorem rws_s (f : Nat → pRow) (d n : Nat) : rws f d (n + 1) = f d :: rws f (d + 1) n := rfl
theorem rws_len (f : Nat → pRow) : ∀ n d, (rws f d n).length = n := by
  intro n
  induction n with
  | zero => intro d; rfl
  | succ n ih => intro d; rw [rws_s, List.length_cons, ih]
theorem rws_app (f : Nat → pRow) (b : Nat) : ∀ a d, rws f d (a + b) = rws f d a ++ rws f (d + a) b := by
  intro a
  induction a with
  | zero => intro d; rw [Nat.zero_add]; rfl
  | succ a ih => intro d; rw [show a + 1 + b = (a + b) + 1 by omega, rws_s, rws_s, ih, show d + 1 + a = d + (a + 1) by omega]; rfl
theorem rws_congr {f g : Nat → pRow} : ∀ n d, (∀ j, d ≤ j → j < d + n → f j = g j) → rws f d n = rws g d n := by
  intro n
  induction n with
  | zero => intro d _; rfl
  | succ n ih => intro d h; rw [rws_s, rws_s, h d (by omega) (by omega), ih (d + 1) (fun j h1 h2 => h j (by omega) (by omega))]
theorem rws_up_ge {f : Nat → pRow} {x : pRow} {i d n : Nat} (h : i < d) : rws (va_up f i x) d n = rws f d n :=
  rws_congr n d (fun j h1 _ => by unfold va_up; rw [if_neg (by omega)])
theorem rws_up_snoc {f : Nat → pRow} {x : pRow} {i : Nat} : rws (va_up f i x) 0 (i + 1) = rws f 0 i ++ [x] := by
  rw [rws_app, rws_congr (g := f) i 0 (fun j _ h2 => by unfold va_up; rw [if_neg (by omega)]), rws_s, Nat.zero_add]
  unfold va_up
  rw [if_pos rfl]
  rfl
theorem sl_congr {f g : Nat → Nat} : ∀ n p, (∀ j, p ≤ j → j < p + n → f j = g j) → sl f p n = sl g p n := by
  intro n
  induction n with
  | zero => intro p _; rfl
  | succ n ih => intro p h; unfold sl; rw [h p (by omega) (by omega), ih (p + 1) (fun j h1 h2 => h j (by omega) (by omega))]
theorem va_up_up {α : Type} (f : Nat → α) (i : Nat) (x y : α) : va_up (va_up f i x) i y = va_up f i y := by
  funext j
  unfold va_up
  by_cases h : j = i
  · rw [if_pos h, if_pos h]
  · rw [if_neg h, if_neg h, if_neg h]
theorem va_up_at {α : Type} (f : Nat → α) (i : Nat) (x : α) : va_up f i x i = x := if_pos rfl
theorem va_upn {α : Type} (f : Nat → α) {i j : Nat} (x : α) (h : ¬ j = i) : va_up f i x j = f j := if_neg h
/-- what is always so of the table -/
def bd (aK aL aT aS aX aM : Nat → Nat) : Prop := (∀ j, aK j < 2147483648) ∧ (∀ j, aL j ≤ 8) ∧ (∀ j, aT j < 16) ∧ (∀ j, aS j < 16) ∧ (∀ j, aX j ≤ 1) ∧ (∀ j, aM j ≤ 1)
theorem up_lt {f : Nat → Nat} {c : Nat} (hf : ∀ j, f j < c) {i v : Nat} (hv : v < c) : ∀ j, va_up f i v j < c := by
  intro j
  unfold va_up
  split
  · exact hv
  · exact hf j
theorem up_le {f : Nat → Nat} {c : Nat} (hf : ∀ j, f j ≤ c) {i v : Nat} (hv : v ≤ c) : ∀ j, va_up f i v j ≤ c := by
  intro j
  unfold va_up
  split
  · exact hv
  · exact hf j
/-- eight terms copied -/
def cp8 (aT : Nat → Nat) (a b k : Nat) : Nat → Nat := fun j => if 8 * b ≤ j ∧ j < 8 * b + k then aT (8 * a + (j - 8 * b)) else aT j
theorem cp8_up (aT : Nat → Nat) (a b k : Nat) (hk : k < 8) : va_up (cp8 aT a b k) (8 * b + k) (cp8 aT a b k (8 * a + k)) = cp8 aT a b (k + 1) := by
  have e : cp8 aT a b k (8 * a + k) = aT (8 * a + k) := by unfold cp8; rw [if_neg (by omega)]
  rw [e]
  funext j
  unfold va_up
  by_cases h : j = 8 * b + k
  · rw [if_pos h]
    unfold cp8
    rw [if_pos (by omega), show j - 8 * b = k by omega]
  · rw [if_neg h]
    unfold cp8
    by_cases h2 : 8 * b ≤ j ∧ j < 8 * b + k
    · rw [if_pos h2, if_pos (by omega)]
    · rw [if_neg h2, if_neg (by omega)]
theorem row_cp {aK aL aT aS aX aM : Nat → Nat} {a b : Nat} (hL : ∀ j, aL j ≤ 8) : rowOf (va_up aK b (aK a)) (va_up aL b (aL a)) (cp8 aT a b 8) (va_up aS b (aS a)) (va_up aX b (aX a)) (va_up aM b (aM a)) = va_up (rowOf aK aL aT aS aX aM) b (rowOf aK aL aT aS aX aM a) := by
  funext j
  by_cases h : j = b
  · subst h
    rw [va_up_at]
    unfold rowOf docOf
    simp only [va_up_at]
    rw [sl_congr (g := fun p => aT (8 * a + p)) (aL a) 0 (fun p _ h2 => by have := hL a; unfold cp8; rw [if_pos (by omega), show 8 * j + p - 8 * j = p by omega])]
  · rw [va_upn _ _ h]
    unfold rowOf docOf
    simp only [va_upn _ _ h]
    rw [sl_congr (g := fun p => aT (8 * j + p)) (aL j) 0 (fun p _ h2 => by have := hL j; unfold cp8; rw [if_neg (by omega)])]
theorem row_S {aK aL aT aS aX aM : Nat → Nat} {b v : Nat} : rowOf aK aL aT (va_up aS b v) aX aM = va_up (rowOf aK aL aT aS aX aM) b (docOf aK aL aT b, v, aX b, aM b) := by
  funext j
  by_cases h : j = b
  · subst h
    rw [va_up_at]
    unfold rowOf
    rw [va_up_at]
  · rw [va_upn _ _ h]
    unfold rowOf
    rw [va_upn _ _ h]
section RFE
variable {h0 : pm_S} {m r0 tw df dc bf cn nn li sz pl : Nat} {P : Int32} {aD aK aL aT aS aX aM aC aN aO aQ aB aV aH : Nat → Nat} {G : pm_G} {Q : pm_Q}
theorem rf_move (hm : G.1 ≤ m) {a b : Nat} (ha : a < 200) (hb : b < 200) (hbd : bd aK aL aT aS aX aM)
    (hQ : ∀ aK' aL' aT' aS' aX' aM' : Nat → Nat, bd aK' aL' aT' aS' aX' aM' → rowOf aK' aL' aT' aS' aX' aM' = va_up (rowOf aK aL aT aS aX aM) b (rowOf aK aL aT aS aX aM a) → Q (.inl none) (rf h0 m r0 tw df dc bf cn nn li P sz pl aD (aK') (aL') (aT') (aS') (aX') (aM') aC aN aO aQ aB aV aH)) : ps_M G 1 103 [.ref m, iN a, iN b] (rf h0 m r0 tw df dc bf cn nn li P sz pl aD aK aL aT aS aX aM aC aN aO aQ aB aV aH) Q := by
  refine ps_M_in (e103 _ _ _) l103 (fun d hd => ?_)
  obtain ⟨hK, hL, hT, hS, hX, hM⟩ := hbd
  have hXa := hX a
  have hMa := hM a
  have loop : ∀ n k, k + n = 8 → ps_X G d 103 26 [some (.ref m), some (iN a), some (iN b), some (iN k)] [] (rf h0 m r0 tw df dc bf cn nn li P sz pl aD (va_up aK b (aK a)) (va_up aL b (aL a)) (cp8 aT a b k) aS aX aM aC aN aO aQ aB aV aH) Q := by
    intro n
    induction n with
    | zero =>
      intro k hk
      refine ps_s_il p103_26 rfl ?_
      refine ps_s_k p103_27 ?_
      refine ps_s_ge p103_29 (by omega) (by omega) (fun c29 => ?_) (fun c29 => ?_)
      · refine ps_s_al p103_60 rfl ?_
        refine rf_g_aS p103_61 ?_
        refine ps_s_il p103_64 rfl ?_
        refine ps_s_al p103_65 rfl ?_
        refine rf_g_aS p103_66 ?_
        refine ps_s_il p103_69 rfl ?_
        refine rf_la_aS p103_70 (by omega) ?_
        refine rf_sa_aS hm p103_71 (by omega) ?_
        refine ps_s_al p103_72 rfl ?_
        refine rf_g_aX p103_73 ?_
        refine ps_s_il p103_76 rfl ?_
        refine ps_s_al p103_77 rfl ?_
        refine rf_g_aX p103_78 ?_
        refine ps_s_il p103_81 rfl ?_
        refine rf_la_aX hm p103_82 (by omega) ?_
        refine rf_sa_aX hm p103_83 (by omega) (by omega) ?_
        refine ps_s_al p103_84 rfl ?_
        refine rf_g_aM p103_85 ?_
        refine ps_s_il p103_88 rfl ?_
        refine ps_s_al p103_89 rfl ?_
        refine rf_g_aM p103_90 ?_
        refine ps_s_il p103_93 rfl ?_
        refine rf_la_aM hm p103_94 (by omega) ?_
        refine rf_sa_aM hm p103_95 (by omega) (by omega) ?_
        refine ps_s_rv p103_96 t103 ?_
        rw [show k = 8 by omega]
        refine hQ _ _ _ _ _ _ ⟨up_lt hK (hK a), up_le hL (hL a), ?_, up_lt hS (hS a), up_le hX (hX a), up_le hM (hM a)⟩ (row_cp hL)
        intro j
        unfold cp8
        split
        · exact hT _
        · exact hT _
      · omega
    | succ n ih =>
      intro k hk
      refine ps_s_il p103_26 rfl ?_
      refine ps_s_k p103_27 ?_
      refine ps_s_ge p103_29 (by omega) (by omega) (fun c29 => ?_) (fun c29 => ?_)
      · omega
      · refine ps_s_al p103_32 rfl ?_
        refine rf_g_aT p103_33 ?_
        refine ps_s_k p103_36 ?_
        refine ps_s_il p103_38 rfl ?_
        first | refine ps_s_mul p103_39 ?_ | refine ps_s_2 p103_39 ?_
        refine ps_s_il p103_40 rfl ?_
        first | refine ps_s_add p103_41 ?_ | refine ps_s_2 p103_41 ?_
        refine ps_s_al p103_42 rfl ?_
        refine rf_g_aT p103_43 ?_
        refine ps_s_k p103_46 ?_
        refine ps_s_il p103_48 rfl ?_
        first | refine ps_s_mul p103_49 ?_ | refine ps_s_2 p103_49 ?_
        refine ps_s_il p103_50 rfl ?_
        first | refine ps_s_add p103_51 ?_ | refine ps_s_2 p103_51 ?_
        refine rf_la_aT p103_52 (by omega) ?_
        refine rf_sa_aT hm p103_53 (by omega) ?_
        refine ps_s_in3 p103_54 ?_
        refine ps_s_go p103_57 ?_
        rw [cp8_up aT a b k (by omega)]
        exact ih _ (by omega)
  refine ps_s_al p103_0 rfl ?_
  refine rf_g_aK p103_1 ?_
  refine ps_s_il p103_4 rfl ?_
  refine ps_s_al p103_5 rfl ?_
  refine rf_g_aK p103_6 ?_
  refine ps_s_il p103_9 rfl ?_
  refine rf_la_aK p103_10 (by omega) ?_
  refine rf_sa_aK hm p103_11 (by omega) ?_
  refine ps_s_al p103_12 rfl ?_
  refine rf_g_aL p103_13 ?_
  refine ps_s_il p103_16 rfl ?_
  refine ps_s_al p103_17 rfl ?_
  refine rf_g_aL p103_18 ?_
  refine ps_s_il p103_21 rfl ?_
  refine rf_la_aL p103_22 (by omega) ?_
  refine rf_sa_aL hm p103_23 (by omega) ?_
  refine ps_s_k p103_24 ?_
  refine ps_s_is3 p103_25 ?_
  have := loop 8 0 (by omega)
  rw [show cp8 aT a b 0 = aT from funext fun j => if_neg (by omega)] at this
  exact this
end RFE
