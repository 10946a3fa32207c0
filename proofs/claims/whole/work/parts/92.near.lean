/-! Near places, two ways. -/
theorem exi_iff (P : Nat → Bool) : ∀ n d, exi P d n = true ↔ ∃ x, d ≤ x ∧ x < d + n ∧ P x = true := by
  intro n
  induction n with
  | zero =>
    intro d
    constructor
    · intro h; cases h
    · rintro ⟨x, h1, h2, _⟩; omega
  | succ n ih =>
    intro d
    show (P d || exi P (d + 1) n) = true ↔ _
    rw [Bool.or_eq_true, ih]
    constructor
    · rintro (h | ⟨x, h1, h2, h3⟩)
      · exact ⟨d, Nat.le_refl _, by omega, h⟩
      · exact ⟨x, by omega, by omega, h3⟩
    · rintro ⟨x, h1, h2, h3⟩
      by_cases hx : x = d
      · subst hx; exact .inl h3
      · exact .inr ⟨x, by omega, by omega, h3⟩
theorem tb_one (p r : Nat) : (1 <<< p).testBit r = decide (p = r) := by
  rw [Nat.one_shiftLeft, Nat.testBit_two_pow]
theorem nrI_s (a b n p k q al : Nat) : nrI a b n p (k + 1) q al = nrI a b n p k (q + 1) (if nrB a b n p q = true then al ||| (1 <<< p) else al) := rfl
theorem nrO_s (a b n k p al : Nat) : nrO a b n (k + 1) p al = nrO a b n k (p + 1) (nrI a b n p 8 0 al) := rfl
theorem nrI_tb (a b n p r : Nat) : ∀ k q al, (nrI a b n p k q al).testBit r = true ↔ (al.testBit r = true ∨ (p = r ∧ ∃ x, q ≤ x ∧ x < q + k ∧ nrB a b n p x = true)) := by
  intro k
  induction k with
  | zero =>
    intro q al
    show al.testBit r = true ↔ _
    constructor
    · intro h; exact .inl h
    · rintro (h | ⟨_, x, h1, h2, _⟩)
      · exact h
      · omega
  | succ k ih =>
    intro q al
    rw [nrI_s, ih]
    have e : (if nrB a b n p q = true then al ||| (1 <<< p) else al).testBit r = true ↔ (al.testBit r = true ∨ (p = r ∧ nrB a b n p q = true)) := by
      split
      · next hq => rw [Nat.testBit_or, tb_one, Bool.or_eq_true, decide_eq_true_eq]; simp [hq]
      · next hq => simp [hq]
    rw [e]
    constructor
    · rintro ((h | ⟨h, h'⟩) | ⟨h, x, h1, h2, h3⟩)
      · exact .inl h
      · exact .inr ⟨h, q, Nat.le_refl _, by omega, h'⟩
      · exact .inr ⟨h, x, by omega, by omega, h3⟩
    · rintro (h | ⟨h, x, h1, h2, h3⟩)
      · exact .inl (.inl h)
      · by_cases hx : x = q
        · subst hx; exact .inl (.inr ⟨h, h3⟩)
        · exact .inr ⟨h, x, by omega, by omega, h3⟩
theorem nrO_tb (a b n r : Nat) : ∀ k p al, (nrO a b n k p al).testBit r = true ↔ (al.testBit r = true ∨ (p ≤ r ∧ r < p + k ∧ ∃ x, x < 8 ∧ nrB a b n r x = true)) := by
  intro k
  induction k with
  | zero =>
    intro p al
    show al.testBit r = true ↔ _
    constructor
    · intro h; exact .inl h
    · rintro (h | ⟨h1, h2, _⟩)
      · exact h
      · omega
  | succ k ih =>
    intro p al
    rw [nrO_s, ih, nrI_tb]
    constructor
    · rintro ((h | ⟨h, x, h1, h2, h3⟩) | ⟨h1, h2, h3⟩)
      · exact .inl h
      · subst h; exact .inr ⟨Nat.le_refl _, by omega, x, by omega, h3⟩
      · exact .inr ⟨by omega, by omega, h3⟩
    · rintro (h | ⟨h1, h2, x, h3, h4⟩)
      · exact .inl (.inl h)
      · by_cases hp : p = r
        · subst hp; exact .inl (.inr ⟨rfl, x, Nat.zero_le _, by omega, h4⟩)
        · exact .inr ⟨by omega, by omega, x, h3, h4⟩
def arN (a : Nat) : Nat → Nat → Nat → Nat
  | 0, _, acc => acc
  | k + 1, w, acc => arN a k (w + 1) (acc ||| ((a <<< w) ||| (a >>> w)))
theorem arN_s (a k w acc : Nat) : arN a (k + 1) w acc = arN a k (w + 1) (acc ||| ((a <<< w) ||| (a >>> w))) := rfl
theorem arN_tb (a r : Nat) : ∀ k w acc, (arN a k w acc).testBit r = true ↔ (acc.testBit r = true ∨ ∃ x, w ≤ x ∧ x < w + k ∧ ((x ≤ r ∧ a.testBit (r - x) = true) ∨ a.testBit (x + r) = true)) := by
  intro k
  induction k with
  | zero =>
    intro w acc
    show acc.testBit r = true ↔ _
    constructor
    · intro h; exact .inl h
    · rintro (h | ⟨x, h1, h2, _⟩)
      · exact h
      · omega
  | succ k ih =>
    intro w acc
    rw [arN_s, ih, Nat.testBit_or, Nat.testBit_or, Bool.or_eq_true, Bool.or_eq_true, Nat.testBit_shiftLeft, Nat.testBit_shiftRight, Bool.and_eq_true, decide_eq_true_eq]
    constructor
    · rintro ((h | (⟨h, h'⟩ | h)) | ⟨x, h1, h2, h3⟩)
      · exact .inl h
      · exact .inr ⟨w, Nat.le_refl _, by omega, .inl ⟨h, h'⟩⟩
      · exact .inr ⟨w, Nat.le_refl _, by omega, .inr h⟩
      · exact .inr ⟨x, by omega, by omega, h3⟩
    · rintro (h | ⟨x, h1, h2, h3⟩)
      · exact .inl (.inl h)
      · by_cases hx : x = w
        · subst hx
          rcases h3 with h3 | h3
          · exact .inl (.inr (.inl h3))
          · exact .inl (.inr (.inr h3))
        · exact .inr ⟨x, by omega, by omega, h3⟩
theorem tb_lt8 {a i : Nat} (ha : a < 256) (h : a.testBit i = true) : i < 8 := by
  apply Nat.lt_of_not_le
  intro h8
  have e : a < 2 ^ i := Nat.lt_of_lt_of_le ha (Nat.pow_le_pow_right (n := 2) (by decide) h8 : 2 ^ 8 ≤ 2 ^ i)
  rw [Nat.testBit_lt_two_pow e] at h
  cases h
theorem bt_iff (a i : Nat) : (a >>> i) &&& 1 = 1 ↔ a.testBit i = true := by
  have e := bt_tb a i
  unfold bt at e
  rw [e]
  split
  · next h => simp [h]
  · next h => simp [h]
theorem near_eq {a b n : Nat} (ha : a < 256) (hb : b < 256) : b &&& arN a n 1 0 = nrO a b n 8 0 0 := by
  apply Nat.eq_of_testBit_eq
  intro r
  rw [Bool.eq_iff_iff, Nat.testBit_and, Bool.and_eq_true, arN_tb, nrO_tb, Nat.zero_testBit]
  constructor
  · rintro ⟨hbr, h | ⟨x, h1, h2, h3⟩⟩
    · cases h
    · have hr := tb_lt8 hb hbr
      refine .inr ⟨Nat.zero_le _, by omega, ?_⟩
      unfold nrB
      rcases h3 with ⟨h3, h4⟩ | h3
      · refine ⟨r - x, by omega, ?_⟩
        rw [decide_eq_true ((bt_iff _ _).mpr hbr), decide_eq_true ((bt_iff _ _).mpr h4), if_neg (by omega), decide_eq_true (by omega), decide_eq_true (by omega)]
        rfl
      · have h8 := tb_lt8 ha h3
        refine ⟨x + r, h8, ?_⟩
        rw [decide_eq_true ((bt_iff _ _).mpr hbr), decide_eq_true ((bt_iff _ _).mpr h3), if_pos (by omega), decide_eq_true (by omega), decide_eq_true (by omega)]
        rfl
  · rintro (h | ⟨_, h2, x, h3, h4⟩)
    · cases h
    · unfold nrB at h4
      rw [Bool.and_eq_true, Bool.and_eq_true, Bool.and_eq_true, decide_eq_true_eq, decide_eq_true_eq, decide_eq_true_eq, decide_eq_true_eq, bt_iff, bt_iff] at h4
      obtain ⟨q1, q2, q3, q4⟩ := h4
      refine ⟨q1, .inr ?_⟩
      by_cases hx : r < x
      · rw [if_pos hx] at q3 q4
        exact ⟨x - r, by omega, by omega, .inr (by rw [Nat.sub_add_cancel (by omega)]; exact q2)⟩
      · rw [if_neg hx] at q3 q4
        exact ⟨r - x, by omega, by omega, .inl ⟨by omega, by rw [show r - (r - x) = x by omega]; exact q2⟩⟩
section NEA
variable {G : pm_G} {h : pm_S} {Q : pm_Q}
theorem q_around {a n : Nat} (ha : a < 256) (hn : n ≤ 7) (K : Q (.inl (some (iN (arN a n 1 0)))) h) : ps_M G 1 91 [iN a, iN n] h Q := by
  have loop : ∀ d k w acc, w + k = n + 1 → 1 ≤ w → arN a k w acc = arN a n 1 0 → ps_X G d 91 4 [some (iN a), some (iN n), some (iN acc), some (iN w)] [] h Q := by
    intro d k
    induction k with
    | zero =>
      intro w acc hw hw1 hacc
      refine ps_s_il p91_4 rfl ?_
      refine ps_s_il p91_5 rfl ?_
      refine ps_s_gt p91_6 (by omega) (by omega) (fun c6 => ?_) (fun c6 => ?_)
      · refine ps_s_il p91_25 rfl ?_
        refine ps_s_ri p91_26 t91 ?_
        rw [← hacc] at K
        exact K
      · omega
    | succ k ih =>
      intro w acc hw hw1 hacc
      rw [arN_s] at hacc
      refine ps_s_il p91_4 rfl ?_
      refine ps_s_il p91_5 rfl ?_
      refine ps_s_gt p91_6 (by omega) (by omega) (fun c6 => ?_) (fun c6 => ?_)
      · omega
      · refine ps_s_il p91_9 rfl ?_
        refine ps_s_il p91_10 rfl ?_
        refine ps_s_il p91_11 rfl ?_
        refine ps_s_2e p91_12 (i_shl a ha w (by omega)) ?_
        refine ps_s_il p91_13 rfl ?_
        refine ps_s_il p91_14 rfl ?_
        refine ps_s_2e p91_15 (i_shr a ha w (by omega)) ?_
        refine ps_s_2e p91_16 (i_or _ _) ?_
        refine ps_s_2e p91_17 (i_or _ _) ?_
        refine ps_s_is2 p91_18 ?_
        refine ps_s_in3 p91_19 ?_
        refine ps_s_go p91_22 ?_
        exact ih _ _ (by omega) (by omega) hacc
  refine ps_M_in (e91 _ _) l91 (fun d hd => ?_)
  refine ps_s_k p91_0 ?_
  refine ps_s_is2 p91_1 ?_
  refine ps_s_k p91_2 ?_
  refine ps_s_is3 p91_3 ?_
  exact loop d n 1 0 (by omega) (by omega) rfl
end NEA
