/-! Places as sums of powers of two. -/
def bt (m p : Nat) : Nat := (m >>> p) &&& 1
def pcf (m : Nat) : Nat → Nat → Nat
  | _, 0 => 0
  | p, n + 1 => bt m p + pcf m (p + 1) n
theorem pcf_s (m p n : Nat) : pcf m p (n + 1) = bt m p + pcf m (p + 1) n := rfl
theorem bt_tb (m p : Nat) : bt m p = if m.testBit p = true then 1 else 0 := by
  unfold bt Nat.testBit
  rw [Nat.and_comm]
  have h : 1 &&& m >>> p = 0 ∨ 1 &&& m >>> p = 1 := by
    rw [Nat.and_comm, Nat.and_one_is_mod]
    omega
  rcases h with h | h
  · rw [h]; rfl
  · rw [h]; rfl
theorem wmA_tb {t : Nat} : ∀ (ts : List Nat) (q a p : Nat), (wmA t q a ts).testBit p = (a.testBit p || (decide (q ≤ p) && decide (ts[p - q]? = some t))) := by
  intro ts
  induction ts with
  | nil =>
    intro q a p
    show a.testBit p = _
    simp
  | cons x r ih =>
    intro q a p
    show (wmA t (q + 1) (if x = t then a ||| (1 <<< q) else a) r).testBit p = _
    rw [ih]
    by_cases hqp : q = p
    · subst hqp
      rw [decide_eq_false (by omega : ¬ q + 1 ≤ q), Nat.sub_self, decide_eq_true (Nat.le_refl q)]
      by_cases hx : x = t
      · subst hx
        rw [if_pos rfl, Nat.testBit_or, Nat.one_shiftLeft, Nat.testBit_two_pow_self]
        simp
      · rw [if_neg hx]
        simp [hx]
    · have e1 : (if x = t then a ||| (1 <<< q) else a).testBit p = a.testBit p := by
        split
        · rw [Nat.testBit_or, Nat.one_shiftLeft, Nat.testBit_two_pow_of_ne hqp, Bool.or_false]
        · rfl
      rw [e1]
      by_cases hl : q + 1 ≤ p
      · obtain ⟨k, rfl⟩ : ∃ k, p = q + 1 + k := ⟨p - (q + 1), by omega⟩
        rw [decide_eq_true hl, decide_eq_true (by omega : q ≤ q + 1 + k), show q + 1 + k - (q + 1) = k by omega, show q + 1 + k - q = k + 1 by omega, List.getElem?_cons_succ]
      · rw [decide_eq_false hl, decide_eq_false (by omega : ¬ q ≤ p), Bool.false_and, Bool.false_and]
theorem wm_tb (t : Nat) (ts : List Nat) (p : Nat) : (wm t ts).testBit p = decide (ts[p]? = some t) := by
  unfold wm
  rw [wmA_tb, Nat.zero_testBit, decide_eq_true (Nat.zero_le p), Nat.sub_zero, Bool.false_or, Bool.true_and]
theorem wm_bt (t : Nat) (ts : List Nat) (p : Nat) : bt (wm t ts) p = if ts[p]? = some t then 1 else 0 := by
  rw [bt_tb, wm_tb]
  by_cases h : ts[p]? = some t
  · rw [decide_eq_true h, if_pos rfl, if_pos h]
  · rw [decide_eq_false h, if_neg (by decide), if_neg h]
theorem wm_lt {t : Nat} {ts : List Nat} (h : ts.length ≤ 8) : wm t ts < 256 := wmA_lt ts 0 0 (by omega) (by decide)
theorem tm_drop (t : Nat) (ts : List Nat) (p : Nat) : tm t (ts.drop p) = (if ts[p]? = some t then 1 else 0) + tm t (ts.drop (p + 1)) := by
  by_cases hp : p < ts.length
  · rw [List.drop_eq_getElem_cons hp, List.getElem?_eq_getElem hp]
    show (if ts[p] = t then 1 else 0) + tm t (ts.drop (p + 1)) = _
    by_cases hx : ts[p] = t
    · rw [if_pos hx, if_pos (by rw [hx])]
    · rw [if_neg hx, if_neg (fun q => hx (Option.some.inj q))]
  · rw [List.drop_eq_nil_of_le (by omega), List.drop_eq_nil_of_le (by omega), List.getElem?_eq_none (by omega)]
    rfl
theorem tm_pcf (t : Nat) (ts : List Nat) (h : ts.length ≤ 8) : ∀ n p, p + n = 8 → pcf (wm t ts) p n = tm t (ts.drop p) := by
  intro n
  induction n with
  | zero =>
    intro p hp
    rw [List.drop_eq_nil_of_le (by omega)]
    rfl
  | succ n ih =>
    intro p hp
    rw [pcf_s, ih (p + 1) (by omega), wm_bt, ← tm_drop]
theorem tm_pc (t : Nat) (ts : List Nat) (h : ts.length ≤ 8) : pcf (wm t ts) 0 8 = tm t ts := tm_pcf t ts h 8 0 rfl
theorem tm_mem {t : Nat} : ∀ ts : List Nat, tm t ts = 0 → t ∉ ts := by
  intro ts
  induction ts with
  | nil => intro _ h; cases h
  | cons x r ih =>
    intro h
    unfold tm at h
    intro hm
    rcases List.mem_cons.mp hm with rfl | hm
    · rw [if_pos rfl] at h; omega
    · exact ih (by omega) hm
theorem wm_zero (t : Nat) (ts : List Nat) (h : ts.length ≤ 8) : wm t ts = 0 ↔ tm t ts = 0 := by
  constructor
  · intro e
    rw [← tm_pc t ts h, e]
    decide
  · intro e
    apply Nat.eq_of_testBit_eq
    intro i
    rw [wm_tb, Nat.zero_testBit]
    exact decide_eq_false (fun q => tm_mem ts e (List.mem_of_getElem? q))
theorem plB_drop (t : Nat) (ts : List Nat) (p l : Nat) : plB t p l (ts.drop p) = if ts[p]? = some t then vi (p - l) ++ plB t (p + 1) p (ts.drop (p + 1)) else plB t (p + 1) l (ts.drop (p + 1)) := by
  by_cases hp : p < ts.length
  · rw [List.drop_eq_getElem_cons hp, List.getElem?_eq_getElem hp]
    show (if ts[p] = t then vi (p - l) ++ plB t (p + 1) p (ts.drop (p + 1)) else plB t (p + 1) l (ts.drop (p + 1))) = _
    by_cases hx : ts[p] = t
    · rw [if_pos hx, if_pos (by rw [hx])]
    · rw [if_neg hx, if_neg (fun q => hx (Option.some.inj q))]
  · rw [List.drop_eq_nil_of_le (by omega), List.drop_eq_nil_of_le (by omega), List.getElem?_eq_none (by omega), if_neg (by intro q; cases q)]
    rfl
theorem vin_len : ∀ k x, (vin k x).length ≤ k + 1 := by
  intro k
  induction k with
  | zero => intro x; exact Nat.le_refl _
  | succ k ih =>
    intro x
    unfold vin
    split
    · show 1 ≤ _; omega
    · rw [List.length_cons]; have := ih (x / 128); omega
theorem vi_len (x : Nat) : (vi x).length ≤ 5 := vin_len 4 x
theorem plB_len (t : Nat) : ∀ ts p l, (plB t p l ts).length ≤ 5 * ts.length := by
  intro ts
  induction ts with
  | nil => intro p l; exact Nat.le_refl _
  | cons x r ih =>
    intro p l
    unfold plB
    rw [List.length_cons]
    split
    · rw [List.length_append]; have := vi_len (p - l); have := ih (p + 1) p; omega
    · have := ih (p + 1) l; omega
def bcx (x : Int32) : Int32 :=
  let us (x y : Int32) : Int32 := (x.toUInt32 >>> (y.toUInt32 &&& Int32.toUInt32 31)).toInt32
  let a := x - (us x (Int32.ofNat 1) &&& Int32.ofNat 1431655765)
  let b := (a &&& Int32.ofNat 858993459) + (us a (Int32.ofNat 2) &&& Int32.ofNat 858993459)
  let c := (b + us b (Int32.ofNat 4)) &&& Int32.ofNat 252645135
  let e := c + us c (Int32.ofNat 8)
  let g := e + us e (Int32.ofNat 16)
  g &&& Int32.ofNat 63
theorem bcx_pc : ∀ m, m < 256 → bcx (Int32.ofNat m) = Int32.ofNat (pcf m 0 8) := by decide +kernel
section BIT
variable {G : pm_G} {h : pm_S} {Q : pm_Q}
theorem bit_count {x : Int32} (K : Q (.inl (some (.int (bcx x)))) h) : ps_M G 1 60 [.int x] h Q := by
  refine ps_M_in (e60 _) l60 (fun d hd => ?_)
  refine ps_s_il p60_0 rfl ?_
  refine ps_s_il p60_1 rfl ?_
  refine ps_s_k p60_2 ?_
  refine ps_s_2 p60_3 ?_
  refine ps_s_ldw (v := Int32.ofNat 1431655765) p60_4 (by decide +kernel) ?_
  refine ps_s_2 p60_7 ?_
  refine ps_s_2 p60_8 ?_
  refine ps_s_is0 p60_9 ?_
  refine ps_s_il p60_10 rfl ?_
  refine ps_s_ldw (v := Int32.ofNat 858993459) p60_11 (by decide +kernel) ?_
  refine ps_s_2 p60_14 ?_
  refine ps_s_il p60_15 rfl ?_
  refine ps_s_k p60_16 ?_
  refine ps_s_2 p60_17 ?_
  refine ps_s_ldw (v := Int32.ofNat 858993459) p60_18 (by decide +kernel) ?_
  refine ps_s_2 p60_21 ?_
  refine ps_s_2 p60_22 ?_
  refine ps_s_is0 p60_23 ?_
  refine ps_s_il p60_24 rfl ?_
  refine ps_s_il p60_25 rfl ?_
  refine ps_s_k p60_26 ?_
  refine ps_s_2 p60_27 ?_
  refine ps_s_2 p60_28 ?_
  refine ps_s_ldw (v := Int32.ofNat 252645135) p60_29 (by decide +kernel) ?_
  refine ps_s_2 p60_32 ?_
  refine ps_s_is0 p60_33 ?_
  refine ps_s_il p60_34 rfl ?_
  refine ps_s_il p60_35 rfl ?_
  refine ps_s_k p60_36 ?_
  refine ps_s_2 p60_38 ?_
  refine ps_s_2 p60_39 ?_
  refine ps_s_is0 p60_40 ?_
  refine ps_s_il p60_41 rfl ?_
  refine ps_s_il p60_42 rfl ?_
  refine ps_s_k p60_43 ?_
  refine ps_s_2 p60_45 ?_
  refine ps_s_2 p60_46 ?_
  refine ps_s_is0 p60_47 ?_
  refine ps_s_il p60_48 rfl ?_
  refine ps_s_k p60_49 ?_
  refine ps_s_2 p60_51 ?_
  refine ps_s_ri p60_52 t60 ?_
  exact K
end BIT
