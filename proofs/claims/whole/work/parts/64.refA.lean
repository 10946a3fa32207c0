/-! The reference's small methods. -/
def sl (f : Nat → Nat) : Nat → Nat → List Nat
  | _, 0 => []
  | p, n + 1 => f p :: sl f (p + 1) n
def tm (t : Nat) : List Nat → Nat
  | [] => 0
  | x :: r => (if x = t then 1 else 0) + tm t r
/-- the places from d on, n of them, at which it holds -/
def fl (P : Nat → Bool) : Nat → Nat → List Nat
  | _, 0 => []
  | d, n + 1 => if P d = true then d :: fl P (d + 1) n else fl P (d + 1) n
def vin : Nat → Nat → List Nat
  | 0, x => [x]
  | k + 1, x => if x ≤ 127 then [x] else (128 + x % 128) :: vin k (x / 128)
/-- a number's bytes -/
def vi (x : Nat) : List Nat := vin 4 x
/-- the bytes l from the place s on -/
def ap (f : Nat → Nat) (s : Nat) (l : List Nat) : Nat → Nat := fun j => if s ≤ j ∧ j < s + l.length then l.getD (j - s) 0 else f j
theorem ap_nil (f : Nat → Nat) (s : Nat) : ap f s [] = f := by
  funext j
  unfold ap
  rw [if_neg (by simp)]
theorem ap_cons (f : Nat → Nat) (s x : Nat) (l : List Nat) : ap (va_up f s x) (s + 1) l = ap f s (x :: l) := by
  funext j
  unfold ap va_up
  simp only [List.length_cons]
  by_cases h : s + 1 ≤ j ∧ j < s + 1 + l.length
  · rw [if_pos h, if_pos (by omega)]
    obtain ⟨k, rfl⟩ : ∃ k, j = s + 1 + k := ⟨j - (s + 1), by omega⟩
    rw [show s + 1 + k - (s + 1) = k by omega, show s + 1 + k - s = k + 1 by omega]
    rfl
  · rw [if_neg h]
    by_cases h2 : j = s
    · subst h2
      rw [if_pos rfl, if_pos (by omega), Nat.sub_self]
      rfl
    · rw [if_neg h2, if_neg (by omega)]
theorem ap_ap (f : Nat → Nat) (l l' : List Nat) : ∀ s, ap (ap f s l) (s + l.length) l' = ap f s (l ++ l') := by
  induction l generalizing f with
  | nil => intro s; rw [ap_nil]; rfl
  | cons x l ih =>
    intro s
    rw [← ap_cons, show s + (x :: l).length = s + 1 + l.length by rw [List.length_cons]; omega, ih, ap_cons]
    rfl
section RFA
variable {h0 : pm_S} {m r0 tw df dc bf cn nn li sz pl : Nat} {P : Int32} {aD aK aL aT aS aX aM aC aN aO aQ aB aV aH : Nat → Nat} {G : pm_G} {Q : pm_Q}
theorem rf_thrown (hQ : Q (.inl (some (iN tw))) (rf h0 m r0 tw df dc bf cn nn li P sz pl aD aK aL aT aS aX aM aC aN aO aQ aB aV aH)) : ps_M G 1 98 [.ref m] (rf h0 m r0 tw df dc bf cn nn li P sz pl aD aK aL aT aS aX aM aC aN aO aQ aB aV aH) Q := by
  refine ps_M_in (e98 _) l98 (fun d hd => ?_)
  refine ps_s_al p98_0 rfl ?_
  refine rf_g_tw p98_1 ?_
  refine ps_s_ri p98_4 t98 ?_
  exact hQ
theorem rf_refuse (hm : G.1 ≤ m) {c : Nat} (hQ : Q (.inl (some (iN 0))) (rf h0 m r0 (c) df dc bf cn nn li P sz pl aD aK aL aT aS aX aM aC aN aO aQ aB aV aH)) : ps_M G 1 100 [.ref m, iN c] (rf h0 m r0 tw df dc bf cn nn li P sz pl aD aK aL aT aS aX aM aC aN aO aQ aB aV aH) Q := by
  refine ps_M_in (e100 _ _) l100 (fun d hd => ?_)
  refine ps_s_al p100_0 rfl ?_
  refine ps_s_il p100_1 rfl ?_
  refine rf_s_tw hm p100_2 ?_
  refine ps_s_k p100_5 ?_
  refine ps_s_ri p100_6 t100 ?_
  exact hQ
theorem rf_timesOf {x t : Nat} (hx : x < 200) (ht : t < 16) (hl : aL x ≤ 8) (hT : ∀ p, p < 8 → aT (8 * x + p) < 16) (hQ : Q (.inl (some (iN (tm t (sl (fun p => aT (8 * x + p)) 0 (aL x)))))) (rf h0 m r0 tw df dc bf cn nn li P sz pl aD aK aL aT aS aX aM aC aN aO aQ aB aV aH)) : ps_M G 1 114 [.ref m, iN x, iN t] (rf h0 m r0 tw df dc bf cn nn li P sz pl aD aK aL aT aS aX aM aC aN aO aQ aB aV aH) Q := by
  refine ps_M_in (e114 _ _ _) l114 (fun d hd => ?_)
  have loop : ∀ n p a, p + n = aL x → a + tm t (sl (fun p => aT (8 * x + p)) p n) = tm t (sl (fun p => aT (8 * x + p)) 0 (aL x)) → a ≤ p → ps_X G d 114 5 [some (.ref m), some (iN x), some (iN t), some (iN a), some (iN p)] [] (rf h0 m r0 tw df dc bf cn nn li P sz pl aD aK aL aT aS aX aM aC aN aO aQ aB aV aH) Q := by
    intro n
    induction n with
    | zero =>
      intro p a hp ha hap
      refine ps_s_il p114_5 rfl ?_
      refine ps_s_al p114_7 rfl ?_
      refine rf_g_aL p114_8 ?_
      refine ps_s_il p114_11 rfl ?_
      refine rf_la_aL p114_12 (by omega) ?_
      refine ps_s_ge p114_13 (by omega) (by omega) (fun c13 => ?_) (fun c13 => ?_)
      · refine ps_s_il p114_46 rfl ?_
        refine ps_s_ri p114_47 t114 ?_
        rw [← ha] at hQ
        exact hQ
      · omega
    | succ n ih =>
      intro p a hp ha hap
      have hb := hT p (by omega)
      refine ps_s_il p114_5 rfl ?_
      refine ps_s_al p114_7 rfl ?_
      refine rf_g_aL p114_8 ?_
      refine ps_s_il p114_11 rfl ?_
      refine rf_la_aL p114_12 (by omega) ?_
      refine ps_s_ge p114_13 (by omega) (by omega) (fun c13 => ?_) (fun c13 => ?_)
      · omega
      · refine ps_s_al p114_16 rfl ?_
        refine rf_g_aT p114_17 ?_
        refine ps_s_k p114_20 ?_
        refine ps_s_il p114_22 rfl ?_
        first | refine ps_s_mul p114_23 ?_ | refine ps_s_2 p114_23 ?_
        refine ps_s_il p114_24 rfl ?_
        first | refine ps_s_add p114_26 ?_ | refine ps_s_2 p114_26 ?_
        refine rf_la_aT p114_27 (by omega) ?_
        refine ps_s_il p114_28 rfl ?_
        refine ps_s_ne p114_29 (by omega) (by omega) (fun c29 => ?_) (fun c29 => ?_)
        · refine ps_s_il p114_38 rfl ?_
          refine ps_s_is3 p114_39 ?_
          refine ps_s_in4 p114_40 ?_
          refine ps_s_go p114_43 ?_
          exact ih _ _ (by omega) (by rw [← ha]; simp only [sl, tm]; rw [if_neg c29]; omega) (by omega)
        · refine ps_s_il p114_32 rfl ?_
          refine ps_s_k p114_33 ?_
          first | refine ps_s_add p114_34 ?_ | refine ps_s_2 p114_34 ?_
          refine ps_s_go p114_35 ?_
          refine ps_s_is3 p114_39 ?_
          refine ps_s_in4 p114_40 ?_
          refine ps_s_go p114_43 ?_
          exact ih _ _ (by omega) (by rw [← ha]; simp only [sl, tm]; rw [if_pos (by omega)]; omega) (by omega)
  refine ps_s_k p114_0 ?_
  refine ps_s_is3 p114_1 ?_
  refine ps_s_k p114_2 ?_
  refine ps_s_is4 p114_3 ?_
  exact loop (aL x) 0 0 (by omega) (by omega) (by omega)
theorem rf_write (hm : G.1 ≤ m) {x : Nat} (hx : x < 2147483648) (hs : sz + (vi x).length ≤ 1400) (hQ : Q (.inl none) (rf h0 m r0 tw df dc bf cn nn li P (sz + (vi x).length) pl aD aK aL aT aS aX aM aC aN (ap aO sz (vi x)) aQ aB aV aH)) : ps_M G 1 107 [.ref m, iN x] (rf h0 m r0 tw df dc bf cn nn li P sz pl aD aK aL aT aS aX aM aC aN aO aQ aB aV aH) Q := by
  refine ps_M_in (e107 _ _) l107 (fun d hd => ?_)
  have loop : ∀ k w sz aO, w < 2147483648 → w < 128 ^ (k + 1) → sz + (vin k w).length ≤ 1400 → Q (.inl none) (rf h0 m r0 tw df dc bf cn nn li P (sz + (vin k w).length) pl aD aK aL aT aS aX aM aC aN (ap aO sz (vin k w)) aQ aB aV aH) → ps_X G d 107 2 [some (.ref m), some (iN x), some (iN w)] [] (rf h0 m r0 tw df dc bf cn nn li P sz pl aD aK aL aT aS aX aM aC aN aO aQ aB aV aH) Q := by
    intro k
    induction k with
    | zero =>
      intro w sz aO hw hk hs hQ
      have hs' : sz + 1 ≤ 1400 := hs
      refine ps_s_il p107_2 rfl ?_
      refine ps_s_k p107_3 ?_
      refine ps_s_le p107_5 (by omega) (by omega) (fun c5 => ?_) (fun c5 => ?_)
      · refine ps_s_al p107_45 rfl ?_
        refine rf_g_aO p107_46 ?_
        refine ps_s_al p107_49 rfl ?_
        refine rf_g_sz p107_50 ?_
        refine ps_s_il p107_53 rfl ?_
        refine rf_sa_aO hm p107_54 (by omega) ?_
        refine ps_s_al p107_55 rfl ?_
        refine ps_s_dup p107_56 rfl ?_
        refine rf_g_sz p107_57 ?_
        refine ps_s_k p107_60 ?_
        first | refine ps_s_add p107_61 ?_ | refine ps_s_2 p107_61 ?_
        refine rf_s_sz hm p107_62 ?_
        refine ps_s_rv p107_65 t107 ?_
        have hQ2 := hQ
        rw [show vin 0 w = [w] from rfl, ← ap_cons, ap_nil] at hQ2
        exact hQ2
      · omega
    | succ k ih =>
      intro w sz aO hw hk hs hQ
      by_cases h1 : w ≤ 127
      · have e : vin (k + 1) w = [w] := by unfold vin; rw [if_pos h1]
        refine ps_s_il p107_2 rfl ?_
        refine ps_s_k p107_3 ?_
        refine ps_s_le p107_5 (by omega) (by omega) (fun c5 => ?_) (fun c5 => ?_)
        · rw [e, ← ap_cons, ap_nil] at hQ
          rw [e] at hs
          have hs' : sz + 1 ≤ 1400 := hs
          refine ps_s_al p107_45 rfl ?_
          refine rf_g_aO p107_46 ?_
          refine ps_s_al p107_49 rfl ?_
          refine rf_g_sz p107_50 ?_
          refine ps_s_il p107_53 rfl ?_
          refine rf_sa_aO hm p107_54 (by omega) ?_
          refine ps_s_al p107_55 rfl ?_
          refine ps_s_dup p107_56 rfl ?_
          refine rf_g_sz p107_57 ?_
          refine ps_s_k p107_60 ?_
          first | refine ps_s_add p107_61 ?_ | refine ps_s_2 p107_61 ?_
          refine rf_s_sz hm p107_62 ?_
          refine ps_s_rv p107_65 t107 ?_
          exact hQ
        · omega
      · have e : vin (k + 1) w = (128 + w % 128) :: vin k (w / 128) := by rw [vin, if_neg h1]
        rw [e, ← ap_cons] at hQ
        rw [e, List.length_cons] at hs
        have h2 : w / 128 < 128 ^ (k + 1) := by
          rw [Nat.pow_succ] at hk
          exact Nat.div_lt_of_lt_mul (by rw [Nat.mul_comm]; exact hk)
        refine ps_s_il p107_2 rfl ?_
        refine ps_s_k p107_3 ?_
        refine ps_s_le p107_5 (by omega) (by omega) (fun c5 => ?_) (fun c5 => ?_)
        · omega
        · refine ps_s_al p107_8 rfl ?_
          refine rf_g_aO p107_9 ?_
          refine ps_s_al p107_12 rfl ?_
          refine rf_g_sz p107_13 ?_
          refine ps_s_k p107_16 ?_
          refine ps_s_il p107_19 rfl ?_
          refine ps_s_k p107_20 ?_
          refine ps_s_rem p107_23 (by omega) (by omega) (by omega) ?_
          first | refine ps_s_add p107_24 ?_ | refine ps_s_2 p107_24 ?_
          refine rf_sa_aO hm p107_25 (by omega) ?_
          refine ps_s_al p107_26 rfl ?_
          refine ps_s_dup p107_27 rfl ?_
          refine rf_g_sz p107_28 ?_
          refine ps_s_k p107_31 ?_
          first | refine ps_s_add p107_32 ?_ | refine ps_s_2 p107_32 ?_
          refine rf_s_sz hm p107_33 ?_
          refine ps_s_il p107_36 rfl ?_
          refine ps_s_k p107_37 ?_
          refine ps_s_div p107_40 (by omega) (by omega) (by omega) ?_
          refine ps_s_is2 p107_41 ?_
          refine ps_s_go p107_42 ?_
          refine ih _ _ _ (by omega) h2 (by omega) ?_
          rw [show sz + 1 + (vin k (w / 128)).length = sz + ((128 + w % 128) :: vin k (w / 128)).length by rw [List.length_cons]; omega]
          exact hQ
  refine ps_s_il p107_0 rfl ?_
  refine ps_s_is2 p107_1 ?_
  exact loop 4 x sz aO hx (by omega) hs hQ
end RFA
