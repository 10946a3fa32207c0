/-! The reference: queries. -/
theorem i_or (a b : Nat) : Int32.ofNat a ||| Int32.ofNat b = Int32.ofNat (a ||| b) := by
  apply Int32.toBitVec_inj.mp
  rw [Int32.toBitVec_or]
  show BitVec.ofNat 32 a ||| BitVec.ofNat 32 b = BitVec.ofNat 32 (a ||| b)
  apply BitVec.eq_of_getLsbD_eq
  intro i hi
  simp [hi]
theorem i_and (a b : Nat) : Int32.ofNat a &&& Int32.ofNat b = Int32.ofNat (a &&& b) := by
  apply Int32.toBitVec_inj.mp
  rw [Int32.toBitVec_and]
  show BitVec.ofNat 32 a &&& BitVec.ofNat 32 b = BitVec.ofNat 32 (a &&& b)
  apply BitVec.eq_of_getLsbD_eq
  intro i hi
  simp [hi]
theorem i_shl1 : ∀ p, p < 8 → Int32.ofNat 1 <<< (Int32.ofNat p &&& 31) = Int32.ofNat (1 <<< p) := by decide +kernel
theorem i_shl : ∀ a, a < 256 → ∀ p, p < 8 → Int32.ofNat a <<< (Int32.ofNat p &&& 31) = Int32.ofNat (a <<< p) := by decide +kernel
theorem i_shr : ∀ a, a < 256 → ∀ p, p < 8 → Int32.ofNat a >>> (Int32.ofNat p &&& 31) = Int32.ofNat (a >>> p) := by decide +kernel
def wmA (t : Nat) : Nat → Nat → List Nat → Nat
  | _, a, [] => a
  | p, a, x :: r => wmA t (p + 1) (if x = t then a ||| (1 <<< p) else a) r
/-- the places of a term -/
def wm (t : Nat) (ts : List Nat) : Nat := wmA t 0 0 ts
def nrB (a b n p q : Nat) : Bool := decide ((b >>> p) &&& 1 = 1) && (decide ((a >>> q) &&& 1 = 1) && (decide (0 < (if p < q then q - p else p - q)) && decide ((if p < q then q - p else p - q) ≤ n)))
def nrI (a b n p : Nat) : Nat → Nat → Nat → Nat
  | 0, _, al => al
  | k + 1, q, al => nrI a b n p k (q + 1) (if nrB a b n p q = true then al ||| (1 <<< p) else al)
def nrO (a b n : Nat) : Nat → Nat → Nat → Nat
  | 0, _, al => al
  | k + 1, p, al => nrO a b n k (p + 1) (nrI a b n p 8 0 al)
def cmb (w a b : Nat) : Nat := if w = 0 then (if a = 0 ∨ b = 0 then 0 else a ||| b) else if w = 1 then a ||| b else if w = 2 then (if b = 0 then a else 0) else if w = 3 then b &&& (a <<< 1) else nrO a b (w - 3) 8 0 0
theorem or_lt {a b : Nat} (ha : a < 256) (hb : b < 256) : a ||| b < 256 := Nat.or_lt_two_pow (n := 8) ha hb
theorem sh_lt : ∀ p, p < 8 → 1 <<< p < 256 := by decide
theorem nrI_lt {a b n p : Nat} (hp : p < 8) : ∀ k q al, al < 256 → nrI a b n p k q al < 256 := by
  intro k
  induction k with
  | zero => intro q al h; exact h
  | succ k ih =>
    intro q al h
    unfold nrI
    refine ih _ _ ?_
    split
    · exact or_lt h (sh_lt p hp)
    · exact h
theorem nrO_lt {a b n : Nat} : ∀ k p al, p + k ≤ 8 → al < 256 → nrO a b n k p al < 256 := by
  intro k
  induction k with
  | zero => intro p al _ h; exact h
  | succ k ih =>
    intro p al hp h
    unfold nrO
    exact ih _ _ (by omega) (nrI_lt (by omega) _ _ _ h)
theorem cmb_lt {w a b : Nat} (ha : a < 256) (hb : b < 256) : cmb w a b < 256 := by
  unfold cmb
  split
  · split
    · decide
    · exact or_lt ha hb
  · split
    · exact or_lt ha hb
    · split
      · split
        · exact ha
        · decide
      · split
        · exact Nat.lt_of_le_of_lt Nat.and_le_left hb
        · exact nrO_lt _ _ _ (by omega) (by decide)
theorem wmA_lt {t : Nat} : ∀ ts p a, p + ts.length ≤ 8 → a < 256 → wmA t p a ts < 256 := by
  intro ts
  induction ts with
  | nil => intro p a _ h; exact h
  | cons x r ih =>
    intro p a hp h
    rw [List.length_cons] at hp
    unfold wmA
    refine ih _ _ (by omega) ?_
    split
    · exact or_lt h (sh_lt p (by omega))
    · exact h
/-- a query's marks over a stack of places -/
def evM (ts : List Nat) : List Nat → List Nat → List Nat
  | [], st => st
  | k :: r, st => if k < 16 then evM ts r (wm k ts :: st) else match st with
    | b :: a :: s => evM ts r (cmb (k - 16) a b :: s)
    | _ => evM ts r st
theorem evM_c (ts : List Nat) (k : Nat) (r st : List Nat) : evM ts (k :: r) st = if k < 16 then evM ts r (wm k ts :: st) else match st with
    | b :: a :: s => evM ts r (cmb (k - 16) a b :: s)
    | _ => evM ts r st := rfl
def wfM : Nat → List Nat → Prop
  | n, [] => n = 1
  | n, k :: r => if k < 16 then n < 8 ∧ wfM (n + 1) r else 2 ≤ n ∧ k < 27 ∧ wfM (n - 1) r
def whM (marks : List Nat) (ts : List Nat) : Nat := (evM ts marks []).headD 0
/-- the array holds the stack, its top last -/
def hdS (aH : Nat → Nat) : List Nat → Prop
  | [] => True
  | x :: s => aH s.length = x ∧ hdS aH s
theorem hdS_up {aH : Nat → Nat} {n v : Nat} : ∀ s : List Nat, s.length ≤ n → hdS aH s → hdS (va_up aH n v) s := by
  intro s
  induction s with
  | nil => intro _ _; exact trivial
  | cons x s ih =>
    intro h1 h2
    rw [List.length_cons] at h1
    exact ⟨by rw [va_upn _ _ (by omega)]; exact h2.1, ih (by omega) h2.2⟩
section PTS
variable {G : pm_G} {d y pc nx t : Nat} {ls : pm_V} {st : List Value} {h : pm_S} {Q : pm_Q}
theorem ps_s_ts {i : Instr} {x : Int32} {o : Int} (hc : ps_pu y pc i nx) (h0 : pm_pure i ls (.int x :: st) = none) (hj : pm_jmp i (.int x :: st) = some (true, o, st)) (ho : 0 ≤ (pc : Int) + o) (ht : ((pc : Int) + o).toNat = t) (K : ps_X G d y t ls st h Q) : ps_X G d y pc ls (.int x :: st) h Q :=
  ps_x1 (ps_n_jmp (t := t) (b := true) hc h0 hj ho ht) K
end PTS
section RFM
variable {h0 : pm_S} {m r0 tw df dc bf cn nn li sz pl : Nat} {P : Int32} {aD aK aL aT aS aX aM aC aN aO aQ aB aV aH : Nat → Nat} {G : pm_G} {Q : pm_Q} {h : pm_S}
theorem rf_near {a b n : Nat} (ha : a < 256) (hb : b < 256) (hn : n < 100) (hQ : Q (.inl (some (iN (nrO a b n 8 0 0)))) h) : ps_M G 1 131 [iN a, iN b, iN n] h Q := by
  refine ps_M_in (e131 _ _ _) l131 (fun d hd => ?_)
  have and1 : ∀ x : Nat, (x &&& 1) < 2 := fun x => by rw [Nat.and_one_is_mod]; omega
  have inner : ∀ k q p al u6 u7, q + k = 8 → p < 8 → (∀ u6 u7, ps_X G d 131 104 [some (iN a), some (iN b), some (iN n), some (iN (nrI a b n p k q al)), some (iN p), some (iN 8), u6, u7] [] h Q) → ps_X G d 131 15 [some (iN a), some (iN b), some (iN n), some (iN al), some (iN p), some (iN q), u6, u7] [] h Q := by
    intro k
    induction k with
    | zero =>
      intro q p al u6 u7 hq hp K
      rw [show q = 8 by omega]
      refine ps_s_il p131_15 rfl ?_
      refine ps_s_k p131_17 ?_
      refine ps_s_ge p131_19 (by omega) (by omega) (fun c19 => ?_) (fun c19 => ?_)
      · exact K u6 u7
      · omega
    | succ k ih =>
      intro q p al u6 u7 hq hp K
      have fin : ∀ far, far = (if p < q then q - p else p - q) → far < 8 → ps_X G d 131 42 [some (iN a), some (iN b), some (iN n), some (iN al), some (iN p), some (iN q), u6, u7] [iN far] h Q := by
        intro far hf hf8
        have s1 : ps_X G d 131 79 [some (iN a), some (iN b), some (iN n), some (iN al), some (iN p), some (iN q), some (iN far), u7] [] h Q ∨ nrB a b n p q = true := by
          cases hB : nrB a b n p q with
          | true => exact .inr rfl
          | false =>
            refine .inl ?_
            refine ps_s_k p131_79 ?_
            refine ps_s_is7 p131_80 ?_
            refine ps_s_il p131_82 rfl ?_
            refine ps_s_eq0 p131_84 (by omega) (fun c84 => ?_) (fun c84 => ?_)
            · refine ps_s_il p131_96 rfl ?_
              refine ps_s_is3 p131_97 ?_
              refine ps_s_in5 p131_98 ?_
              refine ps_s_go p131_101 ?_
              refine ih _ _ _ _ _ (by omega) hp ?_
              intro u6 u7
              have := K u6 u7
              unfold nrI at this
              rw [hB, if_neg (by decide)] at this
              exact this
            · omega
        have no : nrB a b n p q = false → ps_X G d 131 79 [some (iN a), some (iN b), some (iN n), some (iN al), some (iN p), some (iN q), some (iN far), u7] [] h Q := fun hB => s1.resolve_right (by rw [hB]; decide)
        have a1 := and1 (b >>> p)
        have a2 := and1 (a >>> q)
        refine ps_s_is6 p131_42 ?_
        refine ps_s_il p131_44 rfl ?_
        refine ps_s_il p131_45 rfl ?_
        refine ps_s_2e p131_47 (i_shr b hb p hp) ?_
        refine ps_s_k p131_48 ?_
        refine ps_s_2e p131_49 (i_and _ _) ?_
        refine ps_s_k p131_50 ?_
        refine ps_s_ne p131_51 (by omega) (by omega) (fun c51 => ?_) (fun c51 => ?_)
        · exact no (by unfold nrB; rw [decide_eq_false c51]; rfl)
        · refine ps_s_il p131_54 rfl ?_
          refine ps_s_il p131_55 rfl ?_
          refine ps_s_2e p131_57 (i_shr a ha q (by omega)) ?_
          refine ps_s_k p131_58 ?_
          refine ps_s_2e p131_59 (i_and _ _) ?_
          refine ps_s_k p131_60 ?_
          refine ps_s_ne p131_61 (by omega) (by omega) (fun c61 => ?_) (fun c61 => ?_)
          · exact no (by unfold nrB; rw [decide_eq_false c61, Bool.false_and, Bool.and_false])
          · refine ps_s_il p131_64 rfl ?_
            refine ps_s_le0 p131_66 (by omega) (fun c66 => ?_) (fun c66 => ?_)
            · exact no (by unfold nrB; rw [← hf, decide_eq_false (p := 0 < far) (by omega), Bool.false_and, Bool.and_false, Bool.and_false])
            · refine ps_s_il p131_69 rfl ?_
              refine ps_s_il p131_71 rfl ?_
              refine ps_s_gt p131_72 (by omega) (by omega) (fun c72 => ?_) (fun c72 => ?_)
              · exact no (by unfold nrB; rw [← hf, decide_eq_false (p := far ≤ n) (by omega), Bool.and_false, Bool.and_false, Bool.and_false])
              · have hB : nrB a b n p q = true := by
                  unfold nrB
                  rw [← hf, decide_eq_true (Decidable.not_not.mp c51), decide_eq_true (Decidable.not_not.mp c61), decide_eq_true (p := 0 < far) (by omega), decide_eq_true (p := far ≤ n) (by omega)]
                  rfl
                refine ps_s_k p131_75 ?_
                refine ps_s_go p131_76 ?_
                refine ps_s_is7 p131_80 ?_
                refine ps_s_il p131_82 rfl ?_
                refine ps_s_eq0 p131_84 (by omega) (fun c84 => ?_) (fun c84 => ?_)
                · omega
                · refine ps_s_il p131_87 rfl ?_
                  refine ps_s_k p131_88 ?_
                  refine ps_s_il p131_89 rfl ?_
                  refine ps_s_2e p131_91 (i_shl1 p hp) ?_
                  refine ps_s_2e p131_92 (i_or _ _) ?_
                  refine ps_s_go p131_93 ?_
                  refine ps_s_is3 p131_97 ?_
                  refine ps_s_in5 p131_98 ?_
                  refine ps_s_go p131_101 ?_
                  refine ih _ _ _ _ _ (by omega) hp ?_
                  intro u6 u7
                  have := K u6 u7
                  unfold nrI at this
                  rw [hB, if_pos rfl] at this
                  exact this
      refine ps_s_il p131_15 rfl ?_
      refine ps_s_k p131_17 ?_
      refine ps_s_ge p131_19 (by omega) (by omega) (fun c19 => ?_) (fun c19 => ?_)
      · omega
      · refine ps_s_il p131_22 rfl ?_
        refine ps_s_il p131_24 rfl ?_
        refine ps_s_ge p131_26 (by omega) (by omega) (fun c26 => ?_) (fun c26 => ?_)
        · refine ps_s_il p131_37 rfl ?_
          refine ps_s_il p131_39 rfl ?_
          first | refine ps_s_sub p131_41 (by omega) ?_ | refine ps_s_2 p131_41 ?_
          exact fin _ (by rw [if_neg (by omega)]) (by omega)
        · refine ps_s_il p131_29 rfl ?_
          refine ps_s_il p131_31 rfl ?_
          first | refine ps_s_sub p131_33 (by omega) ?_ | refine ps_s_2 p131_33 ?_
          refine ps_s_go p131_34 ?_
          exact fin _ (by rw [if_pos (by omega)]) (by omega)
  have outer : ∀ k p al u5 u6 u7, p + k = 8 → nrO a b n k p al = nrO a b n 8 0 0 → ps_X G d 131 5 [some (iN a), some (iN b), some (iN n), some (iN al), some (iN p), u5, u6, u7] [] h Q := by
    intro k
    induction k with
    | zero =>
      intro p al u5 u6 u7 hp he
      rw [← he] at hQ
      refine ps_s_il p131_5 rfl ?_
      refine ps_s_k p131_7 ?_
      refine ps_s_ge p131_9 (by omega) (by omega) (fun c9 => ?_) (fun c9 => ?_)
      · refine ps_s_il p131_110 rfl ?_
        refine ps_s_ri p131_111 t131 ?_
        exact hQ
      · omega
    | succ k ih =>
      intro p al u5 u6 u7 hp he
      refine ps_s_il p131_5 rfl ?_
      refine ps_s_k p131_7 ?_
      refine ps_s_ge p131_9 (by omega) (by omega) (fun c9 => ?_) (fun c9 => ?_)
      · omega
      · refine ps_s_k p131_12 ?_
        refine ps_s_is5 p131_13 ?_
        refine inner 8 0 p al u6 u7 (by omega) (by omega) ?_
        intro u6 u7
        refine ps_s_in4 p131_104 ?_
        refine ps_s_go p131_107 ?_
        exact ih _ _ _ _ _ (by omega) he
  refine ps_s_k p131_0 ?_
  refine ps_s_is3 p131_1 ?_
  refine ps_s_k p131_2 ?_
  refine ps_s_is4 p131_3 ?_
  exact outer 8 0 0 none none none (by omega) rfl
theorem rf_combined {w a b : Nat} (hw : w < 11) (ha : a < 256) (hb : b < 256) (hQ : Q (.inl (some (iN (cmb w a b)))) h) : ps_M G 2 130 [iN w, iN a, iN b] h Q := by
  refine ps_M_in (e130 _ _ _) l130 (fun d hd => ?_)
  refine ps_s_il p130_0 rfl ?_
  by_cases h0 : w = 0
  · subst h0
    refine ps_s_ts (t := 32) (o := 31) p130_1 rfl rfl (by decide) rfl ?_
    unfold cmb at hQ
    rw [if_pos rfl] at hQ
    refine ps_s_il p130_32 rfl ?_
    refine ps_s_eq0 p130_33 (by omega) (fun c33 => ?_) (fun c33 => ?_)
    · refine ps_s_k p130_40 ?_
      refine ps_s_go p130_41 ?_
      refine ps_s_ri p130_47 t130 ?_
      rw [if_pos (by omega)] at hQ
      exact hQ
    · refine ps_s_il p130_36 rfl ?_
      refine ps_s_ne0 p130_37 (by omega) (fun c37 => ?_) (fun c37 => ?_)
      · refine ps_s_il p130_44 rfl ?_
        refine ps_s_il p130_45 rfl ?_
        refine ps_s_2e p130_46 (i_or _ _) ?_
        refine ps_s_ri p130_47 t130 ?_
        rw [if_neg (by omega)] at hQ
        exact hQ
      · refine ps_s_k p130_40 ?_
        refine ps_s_go p130_41 ?_
        refine ps_s_ri p130_47 t130 ?_
        rw [if_pos (by omega)] at hQ
        exact hQ
  by_cases h1 : w = 1
  · subst h1
    refine ps_s_ts (t := 48) (o := 47) p130_1 rfl rfl (by decide) rfl ?_
    refine ps_s_il p130_48 rfl ?_
    refine ps_s_il p130_49 rfl ?_
    refine ps_s_2e p130_50 (i_or _ _) ?_
    refine ps_s_ri p130_51 t130 ?_
    exact hQ
  by_cases h2 : w = 2
  · subst h2
    refine ps_s_ts (t := 52) (o := 51) p130_1 rfl rfl (by decide) rfl ?_
    unfold cmb at hQ
    rw [if_neg (by decide), if_neg (by decide), if_pos rfl] at hQ
    refine ps_s_il p130_52 rfl ?_
    refine ps_s_ne0 p130_53 (by omega) (fun c53 => ?_) (fun c53 => ?_)
    · refine ps_s_k p130_60 ?_
      refine ps_s_ri p130_61 t130 ?_
      rw [if_neg c53] at hQ
      exact hQ
    · refine ps_s_il p130_56 rfl ?_
      refine ps_s_go p130_57 ?_
      refine ps_s_ri p130_61 t130 ?_
      rw [if_pos (by omega)] at hQ
      exact hQ
  by_cases h3 : w = 3
  · subst h3
    refine ps_s_ts (t := 62) (o := 61) p130_1 rfl rfl (by decide) rfl ?_
    unfold cmb at hQ
    rw [if_neg (by decide), if_neg (by decide), if_neg (by decide), if_pos rfl] at hQ
    refine ps_s_il p130_62 rfl ?_
    refine ps_s_il p130_63 rfl ?_
    refine ps_s_k p130_64 ?_
    refine ps_s_2e p130_65 (i_shl a ha 1 (by decide)) ?_
    refine ps_s_2e p130_66 (i_and _ _) ?_
    refine ps_s_ri p130_67 t130 ?_
    exact hQ
  · unfold cmb at hQ
    rw [if_neg h0, if_neg h1, if_neg h2, if_neg h3] at hQ
    have hti : (Int32.ofNat w).toInt = (w : Int) := Int32.toInt_ofNat_of_lt (by simp; omega)
    refine ps_s_ts (t := 68) (o := 67) p130_1 rfl ?_ (by decide) rfl ?_
    · unfold pm_jmp
      dsimp only
      rw [if_pos (by rw [hti]; omega)]
    · refine ps_s_il p130_68 rfl ?_
      refine ps_s_il p130_69 rfl ?_
      refine ps_s_il p130_70 rfl ?_
      refine ps_s_k p130_71 ?_
      first | refine ps_s_sub p130_72 (by omega) ?_ | refine ps_s_2 p130_72 ?_
      refine ps_s_vS [_, _, _] _ p130_73 rfl rfl rfl rfl (rf_near ha hb (by omega) (ps_bki ?_) d (by omega))
      refine ps_s_ri p130_76 t130 ?_
      exact hQ
theorem rf_whereTerm {x t : Nat} (hx : x < 200) (ht : t < 16) (hl : aL x ≤ 8) (hT : ∀ j, aT j < 16) (hQ : Q (.inl (some (iN (wm t (sl (fun p => aT (8 * x + p)) 0 (aL x)))))) (rf h0 m r0 tw df dc bf cn nn li P sz pl aD aK aL aT aS aX aM aC aN aO aQ aB aV aH)) : ps_M G 1 129 [.ref m, iN x, iN t] (rf h0 m r0 tw df dc bf cn nn li P sz pl aD aK aL aT aS aX aM aC aN aO aQ aB aV aH) Q := by
  refine ps_M_in (e129 _ _ _) l129 (fun d hd => ?_)
  have loop : ∀ n p a, p + n = aL x → wmA t p a (sl (fun p => aT (8 * x + p)) p n) = wm t (sl (fun p => aT (8 * x + p)) 0 (aL x)) → ps_X G d 129 5 [some (.ref m), some (iN x), some (iN t), some (iN a), some (iN p)] [] (rf h0 m r0 tw df dc bf cn nn li P sz pl aD aK aL aT aS aX aM aC aN aO aQ aB aV aH) Q := by
    intro n
    induction n with
    | zero =>
      intro p a hp ha
      rw [← ha] at hQ
      refine ps_s_il p129_5 rfl ?_
      refine ps_s_al p129_7 rfl ?_
      refine rf_g_aL p129_8 ?_
      refine ps_s_il p129_11 rfl ?_
      refine rf_la_aL p129_12 (by omega) ?_
      refine ps_s_ge p129_13 (by omega) (by omega) (fun c13 => ?_) (fun c13 => ?_)
      · refine ps_s_il p129_49 rfl ?_
        refine ps_s_ri p129_50 t129 ?_
        exact hQ
      · omega
    | succ n ih =>
      intro p a hp ha
      have hb := hT (8 * x + p)
      rw [sl_s] at ha
      unfold wmA at ha
      refine ps_s_il p129_5 rfl ?_
      refine ps_s_al p129_7 rfl ?_
      refine rf_g_aL p129_8 ?_
      refine ps_s_il p129_11 rfl ?_
      refine rf_la_aL p129_12 (by omega) ?_
      refine ps_s_ge p129_13 (by omega) (by omega) (fun c13 => ?_) (fun c13 => ?_)
      · omega
      · refine ps_s_al p129_16 rfl ?_
        refine rf_g_aT p129_17 ?_
        refine ps_s_k p129_20 ?_
        refine ps_s_il p129_22 rfl ?_
        first | refine ps_s_mul p129_23 ?_ | refine ps_s_2 p129_23 ?_
        refine ps_s_il p129_24 rfl ?_
        first | refine ps_s_add p129_26 ?_ | refine ps_s_2 p129_26 ?_
        refine rf_la_aT p129_27 (by omega) ?_
        refine ps_s_il p129_28 rfl ?_
        refine ps_s_ne p129_29 (by omega) (by omega) (fun c29 => ?_) (fun c29 => ?_)
        · refine ps_s_il p129_41 rfl ?_
          refine ps_s_is3 p129_42 ?_
          refine ps_s_in4 p129_43 ?_
          refine ps_s_go p129_46 ?_
          rw [if_neg c29] at ha
          exact ih _ _ (by omega) ha
        · refine ps_s_il p129_32 rfl ?_
          refine ps_s_k p129_33 ?_
          refine ps_s_il p129_34 rfl ?_
          refine ps_s_2e p129_36 (i_shl1 p (by omega)) ?_
          refine ps_s_2e p129_37 (i_or _ _) ?_
          refine ps_s_go p129_38 ?_
          refine ps_s_is3 p129_42 ?_
          refine ps_s_in4 p129_43 ?_
          refine ps_s_go p129_46 ?_
          rw [if_pos (by omega)] at ha
          exact ih _ _ (by omega) ha
  refine ps_s_k p129_0 ?_
  refine ps_s_is3 p129_1 ?_
  refine ps_s_k p129_2 ?_
  refine ps_s_is4 p129_3 ?_
  exact loop (aL x) 0 0 (by omega) rfl
theorem rf_where (hm : G.1 ≤ m) {x : Nat} {mk : List Nat} (hx : x < 200) (hL : ∀ j, aL j ≤ 8) (hT : ∀ j, aT j < 16) (hpl : 0 < pl) (hpl8 : pl ≤ 8) (hmk : sl (fun k => aQ (15 * (pl - 1) + k)) 0 (aB (pl - 1)) = mk) (hB : aB (pl - 1) ≤ 15) (hwf : wfM 0 mk)
    (hQ : ∀ aH' : Nat → Nat, whM mk (sl (fun p => aT (8 * x + p)) 0 (aL x)) < 256 → Q (.inl (some (iN (whM mk (sl (fun p => aT (8 * x + p)) 0 (aL x)))))) (rf h0 m r0 tw df dc bf cn nn li P sz pl aD aK aL aT aS aX aM aC aN aO aQ aB aV (aH'))) : ps_M G 3 128 [.ref m, iN x] (rf h0 m r0 tw df dc bf cn nn li P sz pl aD aK aL aT aS aX aM aC aN aO aQ aB aV aH) Q := by
  refine ps_M_in (e128 _ _) l128 (fun d hd => ?_)
  have hLx := hL x
  have loop : ∀ n k (st : List Nat) (aH : Nat → Nat) u5, k + n = aB (pl - 1) → wfM st.length (sl (fun k => aQ (15 * (pl - 1) + k)) k n) → (∀ v ∈ st, v < 256) → hdS aH st → evM (sl (fun p => aT (8 * x + p)) 0 (aL x)) (sl (fun k => aQ (15 * (pl - 1) + k)) k n) st = evM (sl (fun p => aT (8 * x + p)) 0 (aL x)) mk [] → st.length ≤ 8 → ps_X G d 128 12 [some (.ref m), some (iN x), some (iN (pl - 1)), some (iN st.length), some (iN k), u5] [] (rf h0 m r0 tw df dc bf cn nn li P sz pl aD aK aL aT aS aX aM aC aN aO aQ aB aV aH) Q := by
    intro n
    induction n with
    | zero =>
      intro k st aH u5 hk hw hv hh he h8
      have h1 : st.length = 1 := hw
      match st, h1 with
      | [v], _ =>
        have hw1 : whM mk (sl (fun p => aT (8 * x + p)) 0 (aL x)) = v := by
          unfold whM
          rw [← he]
          rfl
        have hv0 : aH 0 = v := hh.1
        have := hQ aH (by rw [hw1]; exact hv v List.mem_cons_self)
        rw [hw1, ← hv0] at this
        refine ps_s_il p128_12 rfl ?_
        refine ps_s_al p128_14 rfl ?_
        refine rf_g_aB p128_15 ?_
        refine ps_s_il p128_18 rfl ?_
        refine rf_la_aB p128_19 (by omega) ?_
        refine ps_s_ge p128_20 (by omega) (by omega) (fun c20 => ?_) (fun c20 => ?_)
        · refine ps_s_al p128_102 rfl ?_
          refine rf_g_aH p128_103 ?_
          refine ps_s_k p128_106 ?_
          refine rf_la_aH p128_107 (by omega) ?_
          refine ps_s_ri p128_108 t128 ?_
          exact this
        · omega
    | succ n ih =>
      intro k st aH u5 hk hw hv hh he h8
      rw [sl_s] at hw he
      unfold wfM at hw
      rw [evM_c] at he
      by_cases h16 : aQ (15 * (pl - 1) + k) < 16
      · rw [if_pos h16] at hw he
        have hwl : wm (aQ (15 * (pl - 1) + k)) (sl (fun p => aT (8 * x + p)) 0 (aL x)) < 256 := wmA_lt _ _ _ (by rw [sl_len]; omega) (by decide)
        refine ps_s_il p128_12 rfl ?_
        refine ps_s_al p128_14 rfl ?_
        refine rf_g_aB p128_15 ?_
        refine ps_s_il p128_18 rfl ?_
        refine rf_la_aB p128_19 (by omega) ?_
        refine ps_s_ge p128_20 (by omega) (by omega) (fun c20 => ?_) (fun c20 => ?_)
        · omega
        · refine ps_s_al p128_23 rfl ?_
          refine rf_g_aQ p128_24 ?_
          refine ps_s_k p128_27 ?_
          refine ps_s_il p128_29 rfl ?_
          first | refine ps_s_mul p128_30 ?_ | refine ps_s_2 p128_30 ?_
          refine ps_s_il p128_31 rfl ?_
          first | refine ps_s_add p128_33 ?_ | refine ps_s_2 p128_33 ?_
          refine rf_la_aQ p128_34 (by omega) ?_
          refine ps_s_is5 p128_35 ?_
          refine ps_s_il p128_37 rfl ?_
          refine ps_s_k p128_39 ?_
          refine ps_s_ge p128_41 (by omega) (by omega) (fun c41 => ?_) (fun c41 => ?_)
          · omega
          · refine ps_s_al p128_44 rfl ?_
            refine rf_g_aH p128_45 ?_
            refine ps_s_il p128_48 rfl ?_
            refine ps_s_al p128_49 rfl ?_
            refine ps_s_il p128_50 rfl ?_
            refine ps_s_il p128_51 rfl ?_
            refine ps_s_vV [_, _] _ p128_53 rfl rf_o rfl rfl rfl (rf_whereTerm hx h16 hLx hT (ps_bki ?_) d (by omega))
            refine rf_sa_aH hm p128_56 (by omega) ?_
            refine ps_s_in3 p128_57 ?_
            refine ps_s_go p128_60 ?_
            refine ps_s_in4 p128_96 ?_
            refine ps_s_go p128_99 ?_
            have hw2 : wfM (wm (aQ (15 * (pl - 1) + k)) (sl (fun p => aT (8 * x + p)) 0 (aL x)) :: st).length (sl (fun k => aQ (15 * (pl - 1) + k)) (k + 1) n) := hw.2
            exact ih (k + 1) (wm (aQ (15 * (pl - 1) + k)) (sl (fun p => aT (8 * x + p)) 0 (aL x)) :: st) _ _ (by omega) hw2 (by
              intro v hv'
              rcases List.mem_cons.mp hv' with h | h
              · rw [h]; exact hwl
              · exact hv v h) ⟨va_up_at _ _ _, hdS_up st (Nat.le_refl _) hh⟩ he (by rw [List.length_cons]; omega)
      · rw [if_neg h16] at hw he
        match st, hw.1 with
        | b :: a :: s, _ =>
          have hb256 := hv b List.mem_cons_self
          have ha256 := hv a (List.mem_cons_of_mem _ List.mem_cons_self)
          have hbh : aH (s.length + 1) = b := hh.1
          have hah : aH s.length = a := hh.2.1
          have hm27 := hw.2.1
          rw [List.length_cons, List.length_cons] at h8
          rw [show (b :: a :: s).length = s.length + 1 + 1 from rfl]
          refine ps_s_il p128_12 rfl ?_
          refine ps_s_al p128_14 rfl ?_
          refine rf_g_aB p128_15 ?_
          refine ps_s_il p128_18 rfl ?_
          refine rf_la_aB p128_19 (by omega) ?_
          refine ps_s_ge p128_20 (by omega) (by omega) (fun c20 => ?_) (fun c20 => ?_)
          · omega
          · refine ps_s_al p128_23 rfl ?_
            refine rf_g_aQ p128_24 ?_
            refine ps_s_k p128_27 ?_
            refine ps_s_il p128_29 rfl ?_
            first | refine ps_s_mul p128_30 ?_ | refine ps_s_2 p128_30 ?_
            refine ps_s_il p128_31 rfl ?_
            first | refine ps_s_add p128_33 ?_ | refine ps_s_2 p128_33 ?_
            refine rf_la_aQ p128_34 (by omega) ?_
            refine ps_s_is5 p128_35 ?_
            refine ps_s_il p128_37 rfl ?_
            refine ps_s_k p128_39 ?_
            refine ps_s_ge p128_41 (by omega) (by omega) (fun c41 => ?_) (fun c41 => ?_)
            · refine ps_s_de3 p128_63 (by omega) ?_
              refine ps_s_al p128_66 rfl ?_
              refine rf_g_aH p128_67 ?_
              refine ps_s_il p128_70 rfl ?_
              refine ps_s_k p128_71 ?_
              first | refine ps_s_sub p128_72 (by omega) ?_ | refine ps_s_2 p128_72 ?_
              refine ps_s_il p128_73 rfl ?_
              refine ps_s_k p128_75 ?_
              first | refine ps_s_sub p128_77 (by omega) ?_ | refine ps_s_2 p128_77 ?_
              refine ps_s_al p128_78 rfl ?_
              refine rf_g_aH p128_79 ?_
              refine ps_s_il p128_82 rfl ?_
              refine ps_s_k p128_83 ?_
              first | refine ps_s_sub p128_84 (by omega) ?_ | refine ps_s_2 p128_84 ?_
              refine rf_la_aH p128_85 (by omega) ?_
              refine ps_s_al p128_86 rfl ?_
              refine rf_g_aH p128_87 ?_
              refine ps_s_il p128_90 rfl ?_
              refine rf_la_aH p128_91 (by omega) ?_
              rw [show s.length + 1 + 1 - 1 = s.length + 1 from rfl, show s.length + 1 - 1 = s.length from rfl, hbh, hah]
              refine ps_s_vS [_, _, _] _ p128_92 rfl rfl rfl rfl (rf_combined (by omega) ha256 hb256 (ps_bki ?_) d (by omega))
              refine rf_sa_aH hm p128_95 (by omega) ?_
              refine ps_s_in4 p128_96 ?_
              refine ps_s_go p128_99 ?_
              have hw2 : wfM (cmb (aQ (15 * (pl - 1) + k) - 16) a b :: s).length (sl (fun k => aQ (15 * (pl - 1) + k)) (k + 1) n) := hw.2.2
              exact ih (k + 1) (cmb (aQ (15 * (pl - 1) + k) - 16) a b :: s) _ _ (by omega) hw2 (by
                intro v hv'
                rcases List.mem_cons.mp hv' with h | h
                · rw [h]; exact cmb_lt ha256 hb256
                · exact hv v (List.mem_cons_of_mem _ (List.mem_cons_of_mem _ h))) ⟨va_up_at _ _ _, hdS_up s (Nat.le_refl _) hh.2.2⟩ he (by rw [List.length_cons]; omega)
            · omega
  refine ps_s_al p128_0 rfl ?_
  refine rf_g_pl p128_1 ?_
  refine ps_s_k p128_4 ?_
  first | refine ps_s_sub p128_5 (by omega) ?_ | refine ps_s_2 p128_5 ?_
  refine ps_s_is2 p128_6 ?_
  refine ps_s_k p128_7 ?_
  refine ps_s_is3 p128_8 ?_
  refine ps_s_k p128_9 ?_
  refine ps_s_is4 p128_10 ?_
  exact loop (aB (pl - 1)) 0 [] aH none (by omega) (by rw [hmk]; exact hwf) (fun v hv => by cases hv) trivial (by rw [hmk]) (by decide)
end RFM
