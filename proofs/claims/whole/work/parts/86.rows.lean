/-! Rows of bytes: cRW says that a row of the bytes L stands at r (its length counts on when its array is full). -/
def cRW (G : pm_G) (o : Nat → Nat) (h : pm_S) (r cap : Nat) (L : List Nat) : Prop :=
  ∃ b f, h.1 r = some (pm_o 3 [.ref b, iN L.length]) ∧ h.1 b = some (pm_a 0 cap f) ∧ (G.1 ≤ r ∧ o r = r) ∧ (G.1 ≤ b ∧ o b = r) ∧ cap ≤ 4000 ∧ ∀ i, i < cap → i < L.length → f i = Int32.ofNat (L.getD i 0)
section CRW
variable {G : pm_G} {P : Nat → Prop} {h h1 : pm_S} {o o1 : Nat → Nat} {c s r cap x : Nat} {L : List Nat} {Q : pm_Q}
theorem rw_fr (A : cRW G o h r cap L) (f : cF G P h o h1 o1 c s) (hp : ¬ P r) : cRW G o1 h1 r cap L := by
  obtain ⟨b, g, a1, a2, ⟨a3, a4⟩, ⟨a5, a6⟩, a7, a8⟩ := A
  exact ⟨b, g, cf_get f a1 (by rw [a4]; exact hp), cf_get f a2 (by rw [a6]; exact hp), ⟨a3, by rw [cf_own f a1]; exact a4⟩, ⟨a5, by rw [cf_own f a2]; exact a6⟩, a7, a8⟩
theorem rw_own (A : cRW G o h r cap L) : G.1 ≤ r ∧ o r = r ∧ ∃ fs, h.1 r = some (pm_o 3 fs) := by
  obtain ⟨b, g, a1, a2, ⟨a3, a4⟩, _⟩ := A
  exact ⟨a3, a4, _, a1⟩
theorem rw_byte (w : cW h o) (A : cRW G o h r cap L) (hl : L.length < 2000000) (K : ∀ h', cF G (· = r) h o h' o 0 0 → cRW G o h' r cap (L ++ [x]) → Q (.inl none) h') : ps_M G 1 57 [.ref r, iN x] h Q := by
  obtain ⟨b, f, a1, a2, ⟨a3, a4⟩, ⟨a5, a6⟩, a7, a8⟩ := A
  have hbr : b ≠ r := fun q => by rw [q, a1] at a2; cases a2
  have hll : (L ++ [x]).length = L.length + 1 := by rw [List.length_append]; rfl
  have tail : ∀ d (h1 : pm_S) (g : Nat → Int32), cF G (· = r) h o h1 o 0 0 → h1.1 r = some (pm_o 3 [.ref b, iN L.length]) → h1.1 b = some (pm_a 0 cap g) → (∀ i, i < cap → i < L.length + 1 → g i = Int32.ofNat ((L ++ [x]).getD i 0)) → ps_X G d 57 22 [some (.ref r), some (iN x)] [] h1 Q := by
    intro d h1 g F b1 b2 b3
    have f2 := cf_put2 (a := r) (x := pm_o 3 [.ref b, iN (L.length + 1)]) w F b1 (by omega) (.inl a4) rfl
    first | refine ps_s_al p57_22 rfl ?_ | refine ps_s_aln p57_22 rfl ?_
    refine ps_s_dup p57_23 rfl ?_
    refine ps_s_gf p57_24 b1 rfl ?_
    refine ps_s_k p57_27 ?_
    first | refine ps_s_add p57_28 ?_ | refine ps_s_2 p57_28 ?_
    refine ps_s_pf p57_29 b1 (by omega) rfl (ps_blt rfl) ?_
    refine ps_s_rv p57_32 t57 ?_
    refine K _ f2 ⟨b, g, by rw [hll]; exact pp_eq, (pp_ne hbr).trans b2, ⟨a3, a4⟩, ⟨a5, a6⟩, a7, fun i hi hj => b3 i hi (by omega)⟩
  refine ps_M_in (e57 _ _) l57 (fun d hd => ?_)
  first | refine ps_s_al p57_0 rfl ?_ | refine ps_s_aln p57_0 rfl ?_
  refine ps_s_gf p57_1 a1 rfl ?_
  first | refine ps_s_al p57_4 rfl ?_ | refine ps_s_aln p57_4 rfl ?_
  refine ps_s_gf p57_5 a1 rfl ?_
  first | refine ps_s_alr p57_8 a2 ?_ | refine ps_s_al0 p57_8 a2 ?_
  refine ps_s_ge p57_9 (by omega) (by omega) (fun c9 => ?_) (fun c9 => ?_)
  · refine tail d h f (cf_refl w) a1 a2 (fun i hi hj => ?_)
    rw [a8 i hi (by omega), List.getD_eq_getElem?_getD, List.getD_eq_getElem?_getD, List.getElem?_append_left (by omega)]
  · have f2 : cF G (· = r) h o (pm_put h b (pm_a 0 cap (upd f L.length (Int32.ofNat x)))) o 0 0 := cf_put w a2 (by omega) a6 rfl
    first | refine ps_s_al p57_12 rfl ?_ | refine ps_s_aln p57_12 rfl ?_
    refine ps_s_gf p57_13 a1 rfl ?_
    first | refine ps_s_al p57_16 rfl ?_ | refine ps_s_aln p57_16 rfl ?_
    refine ps_s_gf p57_17 a1 rfl ?_
    refine ps_s_il p57_20 rfl ?_
    refine ps_s_ias p57_21 a2 (by omega) (by omega) (by omega) ?_
    refine tail d _ _ f2 ((pp_ne (fun q => hbr q.symm)).trans a1) pp_eq (fun i hi hj => ?_)
    unfold upd
    by_cases hie : i = L.length
    · rw [if_pos hie, hie, List.getD_eq_getElem?_getD, List.getElem?_append_right (Nat.le_refl _), Nat.sub_self]; rfl
    · rw [if_neg hie, a8 i hi (by omega), List.getD_eq_getElem?_getD, List.getD_eq_getElem?_getD, List.getElem?_append_left (by omega)]
theorem vin_s (k x : Nat) : vin (k + 1) x = if x ≤ 127 then [x] else (128 + x % 128) :: vin k (x / 128) := rfl
theorem rw_num (w : cW h o) (A : cRW G o h r cap L) (hx : x < 2147483648) (hl : L.length < 1000000) (K : ∀ h', cF G (· = r) h o h' o 0 0 → cRW G o h' r cap (L ++ vi x) → Q (.inl none) h') : ps_M G 2 56 [.ref r, iN x] h Q := by
  have loop : ∀ d, 1 ≤ d → ∀ n g y (h1 : pm_S) (L1 : List Nat), g + n = 4 → y < 2147483648 → cF G (· = r) h o h1 o 0 0 → cRW G o h1 r cap L1 → L1 ++ vin n y = L ++ vi x → L1.length ≤ L.length + g → ps_X G d 56 4 [some (.ref r), some (iN x), some (iN y), some (iN g)] [] h1 Q := by
    intro d hd n
    induction n with
    | zero =>
      intro g y h1 L1 hg hy F B hB hB2
      obtain ⟨_, _, fs, b1⟩ := rw_own B
      refine ps_s_il p56_4 rfl ?_
      refine ps_s_k p56_5 ?_
      refine ps_s_ge p56_6 (by omega) (by omega) (fun c6 => ?_) (fun c6 => ?_)
      · first | refine ps_s_al p56_41 rfl ?_ | refine ps_s_aln p56_41 rfl ?_
        refine ps_s_il p56_42 rfl ?_
        refine ps_s_vV [_] _ p56_43 rfl b1 rfl rfl rfl (rw_byte F.1 B (by omega) (fun h' k1 k2 => ps_bkv ?_) d (by omega))
        refine ps_s_rv p56_46 t56 ?_
        have F2 := cf_trans w F k1 (fun u _ hu => .inl hu)
        rw [show L1 ++ [y] = L ++ vi x from hB] at k2
        exact K _ F2 k2
      · omega
    | succ n ih =>
      intro g y h1 L1 hg hy F B hB hB2
      obtain ⟨_, _, fs, b1⟩ := rw_own B
      rw [vin_s] at hB
      refine ps_s_il p56_4 rfl ?_
      refine ps_s_k p56_5 ?_
      refine ps_s_ge p56_6 (by omega) (by omega) (fun c6 => ?_) (fun c6 => ?_)
      · omega
      · refine ps_s_il p56_9 rfl ?_
        refine ps_s_k p56_10 ?_
        refine ps_s_lt p56_13 (by omega) (by omega) (fun c13 => ?_) (fun c13 => ?_)
        · rw [if_pos (by omega)] at hB
          first | refine ps_s_al p56_41 rfl ?_ | refine ps_s_aln p56_41 rfl ?_
          refine ps_s_il p56_42 rfl ?_
          refine ps_s_vV [_] _ p56_43 rfl b1 rfl rfl rfl (rw_byte F.1 B (by omega) (fun h' k1 k2 => ps_bkv ?_) d (by omega))
          refine ps_s_rv p56_46 t56 ?_
          have F2 := cf_trans w F k1 (fun u _ hu => .inl hu)
          rw [hB] at k2
          exact K _ F2 k2
        · rw [if_neg (by omega)] at hB
          first | refine ps_s_al p56_16 rfl ?_ | refine ps_s_aln p56_16 rfl ?_
          refine ps_s_k p56_17 ?_
          refine ps_s_il p56_20 rfl ?_
          refine ps_s_k p56_21 ?_
          refine ps_s_rem p56_24 (by omega) (by omega) (by omega) ?_
          first | refine ps_s_add p56_25 ?_ | refine ps_s_2 p56_25 ?_
          refine ps_s_vV [_] _ p56_26 rfl b1 rfl rfl rfl (rw_byte F.1 B (by omega) (fun h' k1 k2 => ps_bkv ?_) d (by omega))
          refine ps_s_il p56_29 rfl ?_
          refine ps_s_k p56_30 ?_
          refine ps_s_div p56_33 (by omega) (by omega) (by omega) ?_
          refine ps_s_is2 p56_34 ?_
          refine ps_s_in3 p56_35 ?_
          refine ps_s_go p56_38 ?_
          have F2 := cf_trans w F k1 (fun u _ hu => .inl hu)
          exact ih _ _ _ _ (by omega) (by omega) F2 k2 (by rw [List.append_assoc]; exact hB) (by rw [List.length_append]; show L1.length + 1 ≤ _; omega)
  refine ps_M_in (e56 _ _) l56 (fun d hd => ?_)
  refine ps_s_il p56_0 rfl ?_
  refine ps_s_is2 p56_1 ?_
  refine ps_s_k p56_2 ?_
  refine ps_s_is3 p56_3 ?_
  exact loop d hd 4 0 x h L rfl hx (cf_refl w) A rfl (by omega)
theorem rw_clear (w : cW h o) (A : cRW G o h r cap L) (K : ∀ h', cF G (· = r) h o h' o 0 0 → cRW G o h' r cap [] → Q (.inl none) h') : ps_M G 1 55 [.ref r] h Q := by
  obtain ⟨b, f, a1, a2, ⟨a3, a4⟩, ⟨a5, a6⟩, a7, a8⟩ := A
  have hbr : b ≠ r := fun q => by rw [q, a1] at a2; cases a2
  have f2 : cF G (· = r) h o (pm_put h r (pm_o 3 [.ref b, iN 0])) o 0 0 := cf_put w a1 (by omega) a4 rfl
  refine ps_M_in (e55 _) l55 (fun d hd => ?_)
  first | refine ps_s_al p55_0 rfl ?_ | refine ps_s_aln p55_0 rfl ?_
  refine ps_s_k p55_1 ?_
  refine ps_s_pf p55_2 a1 (by omega) rfl (ps_blt rfl) ?_
  refine ps_s_rv p55_5 t55 ?_
  exact K _ f2 ⟨b, f, pp_eq, (pp_ne hbr).trans a2, ⟨a3, a4⟩, ⟨a5, a6⟩, a7, fun i _ hj => absurd hj (Nat.not_lt_zero _)⟩
theorem rw_places {t : Nat} {ts : List Nat} (w : cW h o) (A : cRW G o h r cap L) (hts : ts.length ≤ 8) (hl : L.length < 900000) (K : ∀ h', cF G (· = r) h o h' o 0 0 → cRW G o h' r cap (L ++ (vi (tm t ts) ++ plB t 0 0 ts)) → Q (.inl none) h') : ps_M G 3 59 [.ref r, iN (wm t ts)] h Q := by
  have hwm := wm_lt (t := t) hts
  have htm : tm t ts ≤ 8 := Nat.le_trans (tm_le t ts) hts
  have loop : ∀ d, 2 ≤ d → ∀ n p l (h1 : pm_S) (L1 : List Nat), p + n = 8 → l ≤ p → cF G (· = r) h o h1 o 0 0 → cRW G o h1 r cap L1 → L1 ++ plB t p l (ts.drop p) = L ++ (vi (tm t ts) ++ plB t 0 0 ts) → L1.length ≤ L.length + 5 + 5 * p → ps_X G d 59 12 [some (.ref r), some (iN (wm t ts)), some (iN l), some (iN p)] [] h1 Q := by
    intro d hd n
    induction n with
    | zero =>
      intro p l h1 L1 hp hlp F B hB hB2
      rw [List.drop_eq_nil_of_le (by omega)] at hB
      refine ps_s_il p59_12 rfl ?_
      refine ps_s_k p59_13 ?_
      refine ps_s_ge p59_15 (by omega) (by omega) (fun c15 => ?_) (fun c15 => ?_)
      · refine ps_s_rv p59_41 t59 ?_
        rw [show plB t p l [] = [] from rfl, List.append_nil] at hB
        rw [hB] at B
        exact K _ F B
      · omega
    | succ n ih =>
      intro p l h1 L1 hp hlp F B hB hB2
      obtain ⟨_, _, fs, b1⟩ := rw_own B
      rw [plB_drop] at hB
      have hbt := wm_bt t ts p
      unfold bt at hbt
      refine ps_s_il p59_12 rfl ?_
      refine ps_s_k p59_13 ?_
      refine ps_s_ge p59_15 (by omega) (by omega) (fun c15 => ?_) (fun c15 => ?_)
      · omega
      · refine ps_s_il p59_18 rfl ?_
        refine ps_s_il p59_19 rfl ?_
        refine ps_s_2e p59_20 (i_shr _ hwm _ (by omega)) ?_
        refine ps_s_k p59_21 ?_
        refine ps_s_2e p59_22 (i_and _ _) ?_
        by_cases hq : ts[p]? = some t
        · rw [if_pos hq] at hbt hB
          rw [hbt]
          refine ps_s_eq0 p59_23 (by omega) (fun c23 => ?_) (fun c23 => ?_)
          · omega
          · first | refine ps_s_al p59_26 rfl ?_ | refine ps_s_aln p59_26 rfl ?_
            refine ps_s_il p59_27 rfl ?_
            refine ps_s_il p59_28 rfl ?_
            first | refine ps_s_sub p59_29 (by omega) ?_ | refine ps_s_2 p59_29 ?_
            refine ps_s_vV [_] _ p59_30 rfl b1 rfl rfl rfl (rw_num F.1 B (by omega) (by omega) (fun h' k1 k2 => ps_bkv ?_) d (by omega))
            refine ps_s_il p59_33 rfl ?_
            refine ps_s_is2 p59_34 ?_
            refine ps_s_in3 p59_35 ?_
            refine ps_s_go p59_38 ?_
            have F2 := cf_trans w F k1 (fun u _ hu => .inl hu)
            exact ih _ _ _ _ (by omega) (by omega) F2 k2 (by rw [List.append_assoc]; exact hB) (by rw [List.length_append]; have := vi_len (p - l); omega)
        · rw [if_neg hq] at hbt hB
          rw [hbt]
          refine ps_s_eq0 p59_23 (by omega) (fun c23 => ?_) (fun c23 => ?_)
          · refine ps_s_in3 p59_35 ?_
            refine ps_s_go p59_38 ?_
            exact ih _ _ _ _ (by omega) (by omega) F B hB (by omega)
          · omega
  obtain ⟨_, _, fs, b1⟩ := rw_own A
  have e0 : bcx (Int32.ofNat (wm t ts)) = Int32.ofNat (tm t ts) := by rw [bcx_pc _ hwm, tm_pc t ts hts]
  refine ps_M_in (e59 _ _) l59 (fun d hd => ?_)
  first | refine ps_s_al p59_0 rfl ?_ | refine ps_s_aln p59_0 rfl ?_
  refine ps_s_il p59_1 rfl ?_
  refine ps_s_vS [_] _ p59_2 rfl rfl rfl rfl (bit_count (ps_bki ?_) d (by omega))
  rw [e0]
  refine ps_s_vV [_] _ p59_5 rfl b1 rfl rfl rfl (rw_num w A (by omega) (by omega) (fun h' k1 k2 => ps_bkv ?_) d (by omega))
  refine ps_s_k p59_8 ?_
  refine ps_s_is2 p59_9 ?_
  refine ps_s_k p59_10 ?_
  refine ps_s_is3 p59_11 ?_
  exact loop d hd 8 0 0 h' _ rfl (Nat.le_refl _) k1 k2 (by rw [List.append_assoc, List.drop_zero]) (by rw [List.length_append]; have := vi_len (tm t ts); omega)
end CRW
