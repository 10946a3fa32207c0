/-! The class's side: every cell belongs to a unit (o : address -> unit); a frame says which units may have changed; units below G.1 never change. -/
theorem ps_blt {a b : Nat} (h : Nat.ble (a + 1) b = true) : a < b := Nat.le_of_ble_eq_true h
theorem bN_fit (b : Bool) : pm_fit .boolean (iN (bN b)) = true := by
  cases b with
  | true => rfl
  | false => rfl
theorem pp_eq {h : pm_S} {a : Nat} {c : pm_C} : (pm_put h a c).1 a = some c := by
  show (if a = a then some c else h.1 a) = some c
  exact if_pos rfl
theorem pp_ne {h : pm_S} {a z : Nat} {c : pm_C} (hz : z ≠ a) : (pm_put h a c).1 z = h.1 z := by
  show (if z = a then some c else h.1 z) = h.1 z
  exact if_neg hz
theorem pa_eq {h : pm_S} {c : pm_C} {n : Nat} : (pm_add h c n).1 h.2.1 = some c := by
  show (if h.2.1 = h.2.1 then some c else h.1 h.2.1) = some c
  exact if_pos rfl
theorem pa_ne {h : pm_S} {z : Nat} {c : pm_C} {n : Nat} (hz : z ≠ h.2.1) : (pm_add h c n).1 z = h.1 z := by
  show (if z = h.2.1 then some c else h.1 z) = h.1 z
  exact if_neg hz
/-- what kind of cell: 0 for arrays, else the object's kind and one -/
def kd (c : pm_C) : Nat := match c with
  | .inl (ci, _) => ci + 1
  | .inr _ => 0
def kob (c : pm_C) : Bool := match c with
  | .inl (ci, _) => pm_ob ci
  | .inr _ => false
theorem kd_kob {c c' : pm_C} (h : kd c = kd c') : kob c = kob c' := by
  unfold kd at h
  unfold kob
  rcases c with ⟨i, f⟩ | c
  · rcases c' with ⟨j, g⟩ | c'
    · dsimp only at h ⊢
      have : i = j := by omega
      rw [this]
    · dsimp only at h; omega
  · rcases c' with ⟨j, g⟩ | c'
    · dsimp only at h; omega
    · rfl
def cW (h : pm_S) (o : Nat → Nat) : Prop := (∀ z, h.2.1 ≤ z → h.1 z = none) ∧ ∀ z v, h.1 z = some v → o z < h.2.1
def cF (G : pm_G) (P : Nat → Prop) (h : pm_S) (o : Nat → Nat) (h' : pm_S) (o' : Nat → Nat) (c s : Nat) : Prop :=
  cW h' o' ∧ h.2.1 ≤ h'.2.1 ∧ h'.2.1 ≤ h.2.1 + c ∧ h'.2.2 ≤ h.2.2 + s ∧ (∀ z, z < h.2.1 → h.1 z = none → h'.1 z = none) ∧ ∀ z v, h.1 z = some v → o' z = o z ∧ (∃ w, h'.1 z = some w ∧ kd w = kd v) ∧ (o z < G.1 ∨ ¬ P (o z) → h'.1 z = some v)
section CFA
variable {G : pm_G} {P P2 : Nat → Prop} {h h1 h2 : pm_S} {o o1 o2 : Nat → Nat} {c s c2 s2 : Nat}
theorem cw_lt {z : Nat} {v : pm_C} (w : cW h o) (e : h.1 z = some v) : z < h.2.1 := Nat.lt_of_not_le (fun hz => by rw [w.1 z hz] at e; cases e)
theorem cf_refl (w : cW h o) : cF G P h o h o 0 0 := ⟨w, Nat.le_refl _, Nat.le_refl _, Nat.le_refl _, fun _ _ e => e, fun _ v e => ⟨rfl, ⟨v, e, rfl⟩, fun _ => e⟩⟩
theorem cf_trans (w : cW h o) (f : cF G P h o h1 o1 c s) (g : cF G P2 h1 o1 h2 o2 c2 s2) (hp : ∀ u, G.1 ≤ u → P2 u → P u ∨ h.2.1 ≤ u) : cF G P h o h2 o2 (c + c2) (s + s2) := by
  obtain ⟨w1, a1, b1, d1, n1, k1⟩ := f
  obtain ⟨w2, a2, b2, d2, n2, k2⟩ := g
  refine ⟨w2, by omega, by omega, by omega, fun z hz e => n2 z (by omega) (n1 z hz e), fun z v e => ?_⟩
  obtain ⟨q1, ⟨w', e1, y1⟩, r1⟩ := k1 z v e
  obtain ⟨q2, ⟨w'', e2, y2⟩, r2⟩ := k2 z w' e1
  refine ⟨q2.trans q1, ⟨w'', e2, y2.trans y1⟩, fun hn => ?_⟩
  obtain ⟨_, _, r3⟩ := k2 z v (r1 hn)
  refine r3 ?_
  rw [q1]
  rcases hn with hn | hn
  · exact .inl hn
  · by_cases hl : o z < G.1
    · exact .inl hl
    · refine .inr (fun hq => ?_)
      rcases hp _ (by omega) hq with hq | hq
      · exact hn hq
      · have := w.2 z v e; omega
theorem cf_w (f : cF G P h o h1 o1 c s) : cW h1 o1 := f.1
theorem cf_up (f : cF G P h o h1 o1 c s) (hp : ∀ u, G.1 ≤ u → P u → P2 u) (hc : c ≤ c2) (hs : s ≤ s2) : cF G P2 h o h1 o1 c2 s2 := by
  obtain ⟨w1, a1, b1, d1, n1, k1⟩ := f
  refine ⟨w1, a1, by omega, by omega, n1, fun z v e => ?_⟩
  obtain ⟨q1, y1, r1⟩ := k1 z v e
  refine ⟨q1, y1, fun hn => r1 ?_⟩
  rcases hn with hn | hn
  · exact .inl hn
  · by_cases hl : o z < G.1
    · exact .inl hl
    · exact .inr (fun hq => hn (hp _ (by omega) hq))
theorem cf_put {a : Nat} {v x : pm_C} (w : cW h o) (e : h.1 a = some v) (hg : G.1 ≤ o a) (hp : P (o a)) (hk : kd x = kd v) : cF G P h o (pm_put h a x) o 0 0 := by
  have hlt := cw_lt w e
  refine ⟨⟨fun z hz => ?_, fun z y ez => ?_⟩, Nat.le_refl _, Nat.le_refl _, Nat.le_refl _, fun z _ ez => ?_, fun z y ez => ⟨rfl, ?_, fun hn => ?_⟩⟩
  · have hz' : h.2.1 ≤ z := hz
    rw [pp_ne (by omega)]
    exact w.1 z hz'
  · by_cases hza : z = a
    · subst hza; exact w.2 _ _ e
    · rw [pp_ne hza] at ez; exact w.2 _ _ ez
  · by_cases hza : z = a
    · subst hza; rw [e] at ez; cases ez
    · rw [pp_ne hza]; exact ez
  · by_cases hza : z = a
    · subst hza
      rw [e] at ez
      cases ez
      exact ⟨x, pp_eq, hk⟩
    · exact ⟨y, by rw [pp_ne hza]; exact ez, rfl⟩
  · by_cases hza : z = a
    · subst hza
      rcases hn with hn | hn
      · omega
      · exact absurd hp hn
    · rw [pp_ne hza]; exact ez
theorem cf_add {x : pm_C} {n u : Nat} (w : cW h o) (hu : u ≤ h.2.1) : cF G P h o (pm_add h x n) (va_up o h.2.1 u) 1 n := by
  refine ⟨⟨fun z hz => ?_, fun z y ez => ?_⟩, Nat.le_succ _, Nat.le_refl _, Nat.le_refl _, fun z hz ez => by rw [pa_ne (by omega)]; exact ez, fun z y ez => ?_⟩
  · have hz' : h.2.1 + 1 ≤ z := hz
    rw [pa_ne (by omega)]
    exact w.1 z (by omega)
  · show (if z = h.2.1 then u else o z) < h.2.1 + 1
    by_cases hza : z = h.2.1
    · rw [if_pos hza]; omega
    · rw [if_neg hza]; rw [pa_ne hza] at ez; have := w.2 _ _ ez; omega
  · have hza : z ≠ h.2.1 := by have := cw_lt w ez; omega
    refine ⟨if_neg hza, ⟨y, by rw [pa_ne hza]; exact ez, rfl⟩, fun _ => by rw [pa_ne hza]; exact ez⟩
theorem cf_gap {n : Nat} (w : cW h o) : cF G P h o (pm_gap h n) o 1 n := by
  refine ⟨⟨fun z hz => w.1 z (Nat.le_of_succ_le hz), fun z y ez => Nat.lt_succ_of_lt (w.2 z y ez)⟩, Nat.le_succ _, Nat.le_refl _, Nat.le_refl _, fun _ _ e => e, fun z y ez => ⟨rfl, ⟨y, ez, rfl⟩, fun _ => ez⟩⟩
theorem cf_get {z : Nat} {v : pm_C} (f : cF G P h o h1 o1 c s) (e : h.1 z = some v) (hn : ¬ P (o z)) : h1.1 z = some v := (f.2.2.2.2.2 z v e).2.2 (.inr hn)
theorem cf_low {z : Nat} {v : pm_C} (f : cF G P h o h1 o1 c s) (e : h.1 z = some v) (hn : o z < G.1) : h1.1 z = some v := (f.2.2.2.2.2 z v e).2.2 (.inl hn)
theorem cf_own {z : Nat} {v : pm_C} (f : cF G P h o h1 o1 c s) (e : h.1 z = some v) : o1 z = o z := (f.2.2.2.2.2 z v e).1
theorem cf_kd {z : Nat} {v : pm_C} (f : cF G P h o h1 o1 c s) (e : h.1 z = some v) : ∃ w, h1.1 z = some w ∧ kd w = kd v := (f.2.2.2.2.2 z v e).2.1
/-- one more put within the same units -/
theorem cf_put2 {a : Nat} {v x : pm_C} (w : cW h o) (f : cF G P h o h1 o1 c s) (e : h1.1 a = some v) (hg : G.1 ≤ o1 a) (hp : P (o1 a) ∨ h.2.1 ≤ o1 a) (hk : kd x = kd v) : cF G P h o (pm_put h1 a x) o1 c s :=
  cf_trans (P2 := fun u => u = o1 a) w f (cf_put f.1 e hg rfl hk) (fun u _ hu => by subst hu; exact hp)
theorem cf_add2 {x : pm_C} {n u : Nat} (w : cW h o) (f : cF G P h o h1 o1 c s) (hu : u ≤ h1.2.1) : cF G P h o (pm_add h1 x n) (va_up o1 h1.2.1 u) (c + 1) (s + n) :=
  cf_trans (P2 := fun _ => False) w f (cf_add f.1 hu) (fun _ _ hu => hu.elim)
end CFA
/-! rows with the value named -/
section CFB
variable {G : pm_G} {d y pc nx t : Nat} {ls ls' : pm_V} {st st' : List Value} {h h' : pm_S} {Q : pm_Q}
theorem ps_s_aav {a n j v : Nat} {f : Nat → Option Nat} (hc : ps_pu y pc .aaload nx) (ha : h.1 a = some (pm_r n f)) (hg : G.1 ≤ a) (hf : f j = some v) (hj : j < n) (hn : n < 2147483648) (K : ps_X G d y nx ls (.ref v :: st) h Q) : ps_X G d y pc ls (iN j :: .ref a :: st) h Q :=
  ps_s_aa hc ha hg hj hn (by rw [hf]; exact K)
theorem ps_s_iav {a n j : Nat} {w : Int32} {f : Nat → Int32} (hc : ps_pu y pc .iaload nx) (ha : h.1 a = some (pm_a 0 n f)) (hf : f j = w) (hj : j < n) (hn : n < 2147483648) (K : ps_X G d y nx ls (.int w :: st) h Q) : ps_X G d y pc ls (iN j :: .ref a :: st) h Q :=
  ps_s_ia hc ha hj hn (by rw [hf]; exact K)
theorem nt_max {a b : Nat} {r : List Value} (ha : a < 2147483648) (hb : b < 2147483648) (hw : Nat.ble (pm_wid r) 8 = true) : pm_nat G 0 (iN b :: iN a :: r) h = some (iN (max a b) :: r, h) := by
  show (if pm_wid r ≤ 8 then some (Value.int (if Int32.ofNat a < Int32.ofNat b then Int32.ofNat b else Int32.ofNat a) :: r, h) else none) = _
  rw [if_pos (ps_ble hw)]
  by_cases hl : a < b
  · rw [if_pos ((ps_lt_iff ha hb).mpr hl), Nat.max_eq_right (Nat.le_of_lt hl)]
  · rw [if_neg (fun e => hl ((ps_lt_iff ha hb).mp e)), Nat.max_eq_left (Nat.le_of_not_lt hl)]
theorem nt_min {a b : Nat} {r : List Value} (ha : a < 2147483648) (hb : b < 2147483648) (hw : Nat.ble (pm_wid r) 8 = true) : pm_nat G 1 (iN b :: iN a :: r) h = some (iN (min a b) :: r, h) := by
  show (if pm_wid r ≤ 8 then some (Value.int (if Int32.ofNat b < Int32.ofNat a then Int32.ofNat b else Int32.ofNat a) :: r, h) else none) = _
  rw [if_pos (ps_ble hw)]
  by_cases hl : b < a
  · rw [if_pos ((ps_lt_iff hb ha).mpr hl), Nat.min_eq_right (Nat.le_of_lt hl)]
  · rw [if_neg (fun e => hl ((ps_lt_iff hb ha).mp e)), Nat.min_eq_left (Nat.le_of_not_lt hl)]
theorem i_ge0 {n : Nat} (hn : n < 2147483648) : ¬ Int32.ofNat n < 0 := fun e => by
  have := (ps_lt_iff (a := n) (b := 0) hn (by omega)).mp e
  omega
theorem i_cl {n : Nat} (hn : n < 2147483648) : (Int32.ofNat n).toNatClampNeg = n := Int32.toNatClampNeg_ofNat_of_lt (by simp; omega)
theorem nt_cpr {n dp sp a b na nb : Nat} {f g : Nat → Option Nat} {r : List Value} (hn : n < 2147483648) (hd : dp < 2147483648) (hs : sp < 2147483648) (hw : Nat.ble (pm_wid r) 8 = true) (ga : G.1 ≤ a) (gb : G.1 ≤ b) (hb : h.1 b = some (pm_r nb f)) (ha : h.1 a = some (pm_r na g)) (h1 : sp + n ≤ nb) (h2 : dp + n ≤ na)
    (hk : ∀ i v, i < n → f (sp + i) = some v → ∃ c, h.1 v = some c ∧ kob c = true) : pm_nat G 3 (iN n :: iN dp :: .ref a :: iN sp :: .ref b :: r) h = some (r, pm_put h a (pm_r na (va_cpy f g sp dp n))) := by
  refine Eq.trans (b := pm_nat3 G (iN n :: iN dp :: .ref a :: iN sp :: .ref b :: r) h) rfl ?_
  unfold pm_nat3
  dsimp only
  rw [if_pos ⟨ps_ble hw, i_ge0 hn, i_ge0 hd, i_ge0 hs, ga, gb⟩, hb]
  dsimp only
  rw [ha]
  dsimp only
  rw [i_cl hn, i_cl hd, i_cl hs, if_pos]
  refine ⟨h1, h2, ?_⟩
  rw [List.all_eq_true]
  intro i hi
  rw [List.mem_range] at hi
  cases hv : f (sp + i) with
  | none => rfl
  | some v =>
    obtain ⟨c, hc, hk'⟩ := hk i v hi hv
    dsimp only
    rw [hc]
    rcases c with ⟨ci, fs⟩ | c
    · exact hk'
    · cases hk'
theorem nt_cpi {n dp sp a b na nb : Nat} {f g : Nat → Int32} {r : List Value} (hn : n < 2147483648) (hd : dp < 2147483648) (hs : sp < 2147483648) (hw : Nat.ble (pm_wid r) 8 = true) (ga : G.1 ≤ a) (gb : G.1 ≤ b) (hb : h.1 b = some (pm_a 0 nb f)) (ha : h.1 a = some (pm_a 0 na g)) (h1 : sp + n ≤ nb) (h2 : dp + n ≤ na) : pm_nat G 3 (iN n :: iN dp :: .ref a :: iN sp :: .ref b :: r) h = some (r, pm_put h a (pm_a 0 na (va_cpy f g sp dp n))) := by
  refine Eq.trans (b := pm_nat3 G (iN n :: iN dp :: .ref a :: iN sp :: .ref b :: r) h) rfl ?_
  unfold pm_nat3
  dsimp only
  rw [if_pos ⟨ps_ble hw, i_ge0 hn, i_ge0 hd, i_ge0 hs, ga, gb⟩, hb]
  show (match h.1 a with
      | some (.inr (.inl (0, na, g))) => if (Int32.ofNat sp).toNatClampNeg + (Int32.ofNat n).toNatClampNeg ≤ nb ∧ (Int32.ofNat dp).toNatClampNeg + (Int32.ofNat n).toNatClampNeg ≤ na then some (r, pm_put h a (pm_a 0 na (va_cpy f g (Int32.ofNat sp).toNatClampNeg (Int32.ofNat dp).toNatClampNeg (Int32.ofNat n).toNatClampNeg))) else none
      | _ => none) = _
  rw [ha]
  show (if (Int32.ofNat sp).toNatClampNeg + (Int32.ofNat n).toNatClampNeg ≤ nb ∧ (Int32.ofNat dp).toNatClampNeg + (Int32.ofNat n).toNatClampNeg ≤ na then some (r, pm_put h a (pm_a 0 na (va_cpy f g (Int32.ofNat sp).toNatClampNeg (Int32.ofNat dp).toNatClampNeg (Int32.ofNat n).toNatClampNeg))) else none) = _
  rw [i_cl hn, i_cl hd, i_cl hs, if_pos ⟨h1, h2⟩]
theorem nt_cln {a n : Nat} {f : Nat → Int32} {r : List Value} (hw : Nat.ble (pm_wid r) 8 = true) (ga : G.1 ≤ a) (ha : h.1 a = some (pm_a 0 n f)) : pm_nat G 4 (.ref a :: r) h = some (.ref h.2.1 :: r, pm_add h (pm_a 0 n f) n) := by
  refine Eq.trans (b := pm_nat4 G (.ref a :: r) h) rfl ?_
  unfold pm_nat4
  dsimp only
  rw [if_pos ⟨ps_ble hw, ga⟩, ha]
  rfl
theorem nt_cls {a n : Nat} {f : Nat → Option Nat} {r : List Value} (hw : Nat.ble (pm_wid r) 8 = true) (ga : G.1 ≤ a) (ha : h.1 a = some (pm_r n f)) : pm_nat G 5 (.ref a :: r) h = some (.ref G.2.1 :: r, h) := by
  refine Eq.trans (b := pm_nat5 G (.ref a :: r) h) rfl ?_
  unfold pm_nat5
  dsimp only
  rw [if_pos ⟨ps_ble hw, ga⟩, ha]
end CFB
