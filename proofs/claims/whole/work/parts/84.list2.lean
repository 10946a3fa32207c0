/-! ArrayList: add, remove, set, clear, the constructor. -/
section CAM
variable {G : pm_G} {P : Nat → Prop} {h h1 : pm_S} {o o1 : Nat → Nat} {c s a cap i v : Nat} {xs : List Nat} {Q : pm_Q}
theorem al_add3 {e : Nat} {mc : Int32} {f : Nat → Option Nat} {cv : pm_C} (w : cW h o) (a1 : h.1 a = some (pm_o 2 [.ref e, iN xs.length, .int mc])) (a2 : h.1 e = some (pm_r cap f)) (a3 : xs.length ≤ cap) (a4 : cap ≤ 4000) (a5 : ∀ i, i < xs.length → f i = xs[i]?) (a6 : ∀ x ∈ xs, ∃ c, h.1 x = some c ∧ kob c = true) (a7 : G.1 ≤ a) (a8 : o a = a) (a9 : (cap = 0 ∧ e = G.2.2 ∧ o e < G.1) ∨ (0 < cap ∧ o e = a ∧ G.1 ≤ e)) (hl : xs.length ≤ 2000) (hv : h.1 v = some cv) (hob : kob cv = true)
    (K : ∀ h' o' cap' c' s', cF G (· = a) h o h' o' c' s' → cAL G o' h' a cap' (xs ++ [v]) → c' ≤ 1 → ((cap' = cap ∧ s' = 0) ∨ (cap = xs.length ∧ cap' = gr cap ∧ s' = gr cap)) → Q (.inl none) h') : ps_M G 5 39 [.ref a, .ref v, .ref e, iN xs.length] h Q := by
  have hla := cw_lt w a1
  have tail : ∀ d (h1 : pm_S) (o1 : Nat → Nat) (cap1 e1 : Nat) (g : Nat → Option Nat) (c s : Nat), cF G (· = a) h o h1 o1 c s → h1.1 a = some (pm_o 2 [.ref e1, iN xs.length, .int mc]) → h1.1 e1 = some (pm_r cap1 g) → xs.length < cap1 → cap1 ≤ 4000 → o1 e1 = a → G.1 ≤ e1 → (∀ i, i < xs.length → g i = xs[i]?) → c ≤ 1 → ((cap1 = cap ∧ s = 0) ∨ (cap = xs.length ∧ cap1 = gr cap ∧ s = gr cap)) → ps_X G d 39 11 [some (.ref a), some (.ref v), some (.ref e1), some (iN xs.length)] [] h1 Q := by
    intro d h1 o1 cap1 e1 g c s F b1 b2 b3 b4 b5 b6 b7 b8 b9
    have hea : e1 ≠ a := fun q => by rw [q, b1] at b2; cases b2
    obtain ⟨cv1, hv1, hk1⟩ := cf_kd F hv
    have hob1 : kob cv1 = true := by rw [kd_kob hk1]; exact hob
    rcases cv1 with ⟨ci, fs⟩ | cv1
    · have f2 := cf_put2 (x := pm_r cap1 (va_up g xs.length (some v))) w F b2 (by rw [b5]; exact a7) (.inl b5) rfl
      have o1a : o1 a = a := (cf_own F a1).trans a8
      have f3 := cf_put2 (a := a) (x := pm_o 2 [.ref e1, iN (xs.length + 1), .int mc]) w f2 ((pp_ne (fun q => hea q.symm)).trans b1) (by rw [o1a]; exact a7) (.inl o1a) rfl
      first | refine ps_s_al p39_11 rfl ?_ | refine ps_s_aln p39_11 rfl ?_
      refine ps_s_il p39_12 rfl ?_
      first | refine ps_s_al p39_13 rfl ?_ | refine ps_s_aln p39_13 rfl ?_
      refine ps_s_aas p39_14 hv1 hob1 b2 (by omega) (by omega) (by omega) ?_
      first | refine ps_s_al p39_15 rfl ?_ | refine ps_s_aln p39_15 rfl ?_
      refine ps_s_il p39_16 rfl ?_
      refine ps_s_k p39_17 ?_
      first | refine ps_s_add p39_18 ?_ | refine ps_s_2 p39_18 ?_
      refine ps_s_pf p39_19 ((pp_ne (fun q => hea q.symm)).trans b1) (by omega) rfl (ps_blt rfl) ?_
      refine ps_s_rv p39_22 t39 ?_
      refine K _ o1 cap1 c s f3 ⟨e1, mc, va_up g xs.length (some v), ?_, (pp_ne hea).trans pp_eq, ⟨by rw [List.length_append]; exact b3, b4, fun i hi => ?_⟩, fun x hx => ?_, ⟨a7, o1a⟩, .inr ⟨by omega, b5, b6⟩⟩ b8 b9
      · rw [List.length_append]; exact pp_eq
      · rw [List.length_append] at hi
        show (if i = xs.length then some v else g i) = _
        by_cases hie : i = xs.length
        · rw [if_pos hie, hie, List.getElem?_append_right (Nat.le_refl _), Nat.sub_self]; rfl
        · have : i < xs.length := by have : i < xs.length + 1 := hi; omega
          rw [if_neg hie, List.getElem?_append_left this, b7 i this]
      · have : ∃ c, h.1 x = some c ∧ kob c = true := by
          rcases List.mem_append.mp hx with hx | hx
          · exact a6 x hx
          · have := List.mem_singleton.mp hx; subst this; exact ⟨cv, hv, hob⟩
        obtain ⟨c0, hc0, hk0⟩ := this
        obtain ⟨w', hw', hk'⟩ := cf_kd f3 hc0
        exact ⟨w', hw', by rw [kd_kob hk']; exact hk0⟩
    · cases hob1
  refine ps_M_in (e39 _ _ _ _) l39 (fun d hd => ?_)
  refine ps_s_il p39_0 rfl ?_
  first | refine ps_s_al p39_1 rfl ?_ | refine ps_s_aln p39_1 rfl ?_
  first | refine ps_s_alr p39_2 a2 ?_ | refine ps_s_al0 p39_2 a2 ?_
  refine ps_s_ne p39_3 (by omega) (by omega) (fun c3 => ?_) (fun c3 => ?_)
  · rcases a9 with ⟨q, _⟩ | ⟨q1, q2, q3⟩
    · omega
    · exact tail d h o cap e f 0 0 (cf_refl w) a1 a2 (by omega) a4 q2 q3 a5 (by omega) (.inl ⟨rfl, rfl⟩)
  · have hce : cap = xs.length := by omega
    subst hce
    obtain ⟨g1, g2⟩ := gr_le hl
    have hk : ∀ i v, i < xs.length → f i = some v → ∃ c, h.1 v = some c ∧ kob c = true := by
      intro i v hi hf
      rw [a5 i hi] at hf
      exact a6 v (List.mem_of_getElem? hf)
    first | refine ps_s_al p39_6 rfl ?_ | refine ps_s_aln p39_6 rfl ?_
    refine ps_s_vV [] _ p39_7 rfl a1 rfl rfl rfl (al_grow w a1 a2 hl hk a7 a8 (a9.imp (fun q => ⟨q.1, q.2.1⟩) (fun q => ⟨q.1, q.2.2⟩)) (fun h' g k1 k2 k3 k4 => ps_bki ?_) d (by omega))
    first | refine ps_s_as2 p39_10 ?_ | refine ps_s_asn2 p39_10 ?_
    exact tail d h' _ (gr xs.length) h.2.1 g 1 (gr xs.length) k1 k2 k3 g1 g2 (if_pos rfl) (by omega) (fun i hi => (k4 i hi).trans (a5 i hi)) (by omega) (.inr ⟨rfl, rfl, rfl⟩)
theorem al_add {cv : pm_C} (w : cW h o) (A : cAL G o h a cap xs) (hl : xs.length ≤ 2000) (hv : h.1 v = some cv) (hob : kob cv = true)
    (K : ∀ h' o' cap' c' s', cF G (· = a) h o h' o' c' s' → cAL G o' h' a cap' (xs ++ [v]) → c' ≤ 1 → ((cap' = cap ∧ s' = 0) ∨ (cap = xs.length ∧ cap' = gr cap ∧ s' = gr cap)) → Q (.inl (some (iN 1))) h') : ps_M G 6 38 [.ref a, .ref v] h Q := by
  obtain ⟨e, mc, f, a1, a2, ⟨a3, a4, a5⟩, a6, ⟨a7, a8⟩, a9⟩ := A
  have hea : e ≠ a := fun q => by rw [q, a1] at a2; cases a2
  have F : cF G (· = a) h o (pm_put h a (pm_o 2 [.ref e, iN xs.length, .int (mc + Int32.ofNat 1)])) o 0 0 := cf_put w a1 (by omega) a8 rfl
  have hk : ∀ x c, h.1 x = some c → kob c = true → ∃ c', (pm_put h a (pm_o 2 [.ref e, iN xs.length, .int (mc + Int32.ofNat 1)])).1 x = some c' ∧ kob c' = true := by
    intro x c hx hc
    obtain ⟨w', hw', hk'⟩ := cf_kd F hx
    exact ⟨w', hw', by rw [kd_kob hk']; exact hc⟩
  obtain ⟨cv', hv', hob'⟩ := hk _ _ hv hob
  refine ps_M_in (e38 _ _) l38 (fun d hd => ?_)
  first | refine ps_s_al p38_0 rfl ?_ | refine ps_s_aln p38_0 rfl ?_
  refine ps_s_dup p38_1 rfl ?_
  refine ps_s_gf p38_2 a1 rfl ?_
  refine ps_s_k p38_5 ?_
  first | refine ps_s_add p38_6 ?_ | refine ps_s_2 p38_6 ?_
  refine ps_s_pf p38_7 a1 (by omega) rfl (ps_blt rfl) ?_
  first | refine ps_s_al p38_10 rfl ?_ | refine ps_s_aln p38_10 rfl ?_
  first | refine ps_s_al p38_11 rfl ?_ | refine ps_s_aln p38_11 rfl ?_
  first | refine ps_s_al p38_12 rfl ?_ | refine ps_s_aln p38_12 rfl ?_
  refine ps_s_gf p38_13 pp_eq rfl ?_
  first | refine ps_s_al p38_16 rfl ?_ | refine ps_s_aln p38_16 rfl ?_
  refine ps_s_gf p38_17 pp_eq rfl ?_
  refine ps_s_vV [_, _, _] _ p38_20 rfl pp_eq rfl rfl rfl (al_add3 (xs := xs) F.1 pp_eq ((pp_ne hea).trans a2) a3 a4 a5 (fun x hx => (a6 x hx).elim (fun c q => hk x c q.1 q.2)) a7 a8 a9 hl hv' hob' (fun h' o' cap' c' s' k1 k2 k3 k4 => ps_bkv ?_) d (by omega))
  refine ps_s_k p38_23 ?_
  refine ps_s_rz p38_24 t38 (by first | exact .inl rfl | exact .inr rfl | exact bN_01 _) ?_
  have F2 := cf_trans w F k1 (fun u _ hu => .inl hu)
  rw [Nat.zero_add, Nat.zero_add] at F2
  exact K h' o' cap' c' s' F2 k2 k3 k4
/-- an array's part moved by one place -/
theorem al_fast {e : Nat} {mc : Int32} {f : Nat → Option Nat} (w : cW h o) (a1 : h.1 a = some (pm_o 2 [.ref e, iN xs.length, .int mc])) (a2 : h.1 e = some (pm_r cap f)) (a3 : xs.length ≤ cap) (a4 : cap ≤ 4000) (a5 : ∀ i, i < xs.length → f i = xs[i]?) (a6 : ∀ x ∈ xs, ∃ c, h.1 x = some c ∧ kob c = true) (a7 : G.1 ≤ a) (a8 : o a = a) (q2 : o e = a) (q3 : G.1 ≤ e) (hi : i < xs.length)
    (K : ∀ h', cF G (· = a) h o h' o 0 0 → cAL G o h' a cap (xs.eraseIdx i) → Q (.inl none) h') : ps_M G 1 14 [.ref a, .ref e, iN i] h Q := by
  have hea : e ≠ a := fun q => by rw [q, a1] at a2; cases a2
  have hel : (xs.eraseIdx i).length = xs.length - 1 := List.length_eraseIdx_of_lt hi
  have F : cF G (· = a) h o (pm_put h a (pm_o 2 [.ref e, iN xs.length, .int (mc + Int32.ofNat 1)])) o 0 0 := cf_put w a1 (by omega) a8 rfl
  have tail : ∀ d (h1 : pm_S) (g : Nat → Option Nat), cF G (· = a) h o h1 o 0 0 → h1.1 a = some (pm_o 2 [.ref e, iN xs.length, .int (mc + Int32.ofNat 1)]) → h1.1 e = some (pm_r cap g) → (∀ j, j < xs.length - 1 → g j = (xs.eraseIdx i)[j]?) → ps_X G d 14 34 [some (.ref a), some (.ref e), some (iN i), some (iN (xs.length - 1))] [] h1 Q := by
    intro d h1 g F b1 b2 b3
    have f2 := cf_put2 (a := a) (x := pm_o 2 [.ref e, iN (xs.length - 1), .int (mc + Int32.ofNat 1)]) w F b1 (by omega) (.inl a8) rfl
    have f3 := cf_put2 (a := e) (x := pm_r cap (va_up g (xs.length - 1) none)) w f2 ((pp_ne hea).trans b2) (by omega) (.inl q2) rfl
    first | refine ps_s_al p14_34 rfl ?_ | refine ps_s_aln p14_34 rfl ?_
    first | refine ps_s_al p14_35 rfl ?_ | refine ps_s_aln p14_35 rfl ?_
    refine ps_s_il p14_36 rfl ?_
    refine ps_s_dx1 p14_37 rfl ?_
    refine ps_s_pf p14_38 b1 (by omega) rfl (ps_blt rfl) ?_
    refine ps_s_p p14_41 rfl ?_
    refine ps_s_aasn p14_42 ((pp_ne hea).trans b2) (by omega) (by omega) (by omega) ?_
    refine ps_s_rv p14_43 t14 ?_
    refine K _ f3 ⟨e, mc + Int32.ofNat 1, va_up g (xs.length - 1) none, ?_, pp_eq, ⟨by omega, a4, fun j hj => ?_⟩, fun x hx => ?_, ⟨a7, a8⟩, .inr ⟨by omega, q2, q3⟩⟩
    · rw [hel]; exact (pp_ne (fun q => hea q.symm)).trans pp_eq
    · rw [hel] at hj
      show (if j = xs.length - 1 then none else g j) = _
      rw [if_neg (by omega), b3 j hj]
    · obtain ⟨c0, hc0, hk0⟩ := a6 x (List.mem_of_mem_eraseIdx hx)
      obtain ⟨w', hw', hk'⟩ := cf_kd f3 hc0
      exact ⟨w', hw', by rw [kd_kob hk']; exact hk0⟩
  have a2' : (pm_put h a (pm_o 2 [.ref e, iN xs.length, .int (mc + Int32.ofNat 1)])).1 e = some (pm_r cap f) := (pp_ne hea).trans a2
  refine ps_M_in (e14 _ _ _) l14 (fun d hd => ?_)
  first | refine ps_s_al p14_0 rfl ?_ | refine ps_s_aln p14_0 rfl ?_
  refine ps_s_dup p14_1 rfl ?_
  refine ps_s_gf p14_2 a1 rfl ?_
  refine ps_s_k p14_5 ?_
  first | refine ps_s_add p14_6 ?_ | refine ps_s_2 p14_6 ?_
  refine ps_s_pf p14_7 a1 (by omega) rfl (ps_blt rfl) ?_
  first | refine ps_s_al p14_10 rfl ?_ | refine ps_s_aln p14_10 rfl ?_
  refine ps_s_gf p14_11 pp_eq rfl ?_
  refine ps_s_k p14_14 ?_
  first | refine ps_s_sub p14_15 (by omega) ?_ | refine ps_s_2 p14_15 ?_
  refine ps_s_dup p14_16 rfl ?_
  refine ps_s_is3 p14_17 ?_
  refine ps_s_il p14_18 rfl ?_
  refine ps_s_le p14_19 (by omega) (by omega) (fun c19 => ?_) (fun c19 => ?_)
  · refine tail d _ f F pp_eq a2' (fun j hj => ?_)
    rw [a5 j (by omega), List.getElem?_eraseIdx, if_pos (by omega)]
  · have e1 : xs.length - 1 - i = xs.length - 1 - i := rfl
    have hk : ∀ j v, j < xs.length - 1 - i → f (i + 1 + j) = some v → ∃ c, (pm_put h a (pm_o 2 [.ref e, iN xs.length, .int (mc + Int32.ofNat 1)])).1 v = some c ∧ kob c = true := by
      intro j v hj hf
      rw [a5 _ (by omega)] at hf
      obtain ⟨c0, hc0, hk0⟩ := a6 v (List.mem_of_getElem? hf)
      obtain ⟨w', hw', hk'⟩ := cf_kd F hc0
      exact ⟨w', hw', by rw [kd_kob hk']; exact hk0⟩
    first | refine ps_s_al p14_22 rfl ?_ | refine ps_s_aln p14_22 rfl ?_
    refine ps_s_il p14_23 rfl ?_
    refine ps_s_k p14_24 ?_
    first | refine ps_s_add p14_25 ?_ | refine ps_s_2 p14_25 ?_
    first | refine ps_s_al p14_26 rfl ?_ | refine ps_s_aln p14_26 rfl ?_
    refine ps_s_il p14_27 rfl ?_
    refine ps_s_il p14_28 rfl ?_
    refine ps_s_il p14_29 rfl ?_
    first | refine ps_s_sub p14_30 (by omega) ?_ | refine ps_s_2 p14_30 ?_
    refine ps_s_nt p14_31 (nt_cpr (by omega) (by omega) (by omega) rfl q3 q3 a2' a2' (by omega) (by omega) hk) ?_
    have f2 := cf_put2 (a := e) (x := pm_r cap (va_cpy f f (i + 1) i (xs.length - 1 - i))) w F a2' (by omega) (.inl q2) rfl
    refine tail d _ _ f2 ((pp_ne (fun q => hea q.symm)).trans pp_eq) pp_eq (fun j hj => ?_)
    unfold va_cpy
    rw [List.getElem?_eraseIdx]
    by_cases hji : j < i
    · rw [if_neg (by omega), if_pos hji, a5 j (by omega)]
    · rw [if_pos ⟨by omega, by omega⟩, if_neg hji, a5 _ (by omega)]
      congr 1
      omega
theorem al_remove (w : cW h o) (A : cAL G o h a cap xs) (hv : xs[i]? = some v) (K : ∀ h', cF G (· = a) h o h' o 0 0 → cAL G o h' a cap (xs.eraseIdx i) → Q (.inl (some (.ref v))) h') : ps_M G 3 13 [.ref a, iN i] h Q := by
  obtain ⟨e, mc, f, a1, a2, ⟨a3, a4, a5⟩, a6, ⟨a7, a8⟩, a9⟩ := A
  have hi : i < xs.length := (List.getElem?_eq_some_iff.mp hv).1
  have hge : o e = a ∧ G.1 ≤ e := by rcases a9 with ⟨q, _⟩ | ⟨_, q⟩
                                     · omega
                                     · exact q
  have hg := hge.2
  have hf : f i = some v := (a5 i hi).trans hv
  refine ps_M_in (e13 _ _) l13 (fun d hd => ?_)
  refine ps_s_il p13_0 rfl ?_
  first | refine ps_s_al p13_1 rfl ?_ | refine ps_s_aln p13_1 rfl ?_
  refine ps_s_gf p13_2 a1 rfl ?_
  refine ps_s_vS [_, _] _ p13_5 rfl rfl rfl rfl (ck_index hi (by omega) (ps_bki ?_) d (by omega))
  refine ps_s_pop p13_8 rfl ?_
  first | refine ps_s_al p13_9 rfl ?_ | refine ps_s_aln p13_9 rfl ?_
  refine ps_s_gf p13_10 a1 rfl ?_
  first | refine ps_s_as2 p13_13 ?_ | refine ps_s_asn2 p13_13 ?_
  first | refine ps_s_al p13_14 rfl ?_ | refine ps_s_aln p13_14 rfl ?_
  refine ps_s_il p13_15 rfl ?_
  refine ps_s_aav p13_16 a2 (by omega) hf (by omega) (by omega) ?_
  first | refine ps_s_as3 p13_17 ?_ | refine ps_s_asn3 p13_17 ?_
  first | refine ps_s_al p13_18 rfl ?_ | refine ps_s_aln p13_18 rfl ?_
  first | refine ps_s_al p13_19 rfl ?_ | refine ps_s_aln p13_19 rfl ?_
  refine ps_s_il p13_20 rfl ?_
  refine ps_s_vV [_, _] _ p13_21 rfl a1 rfl rfl rfl (al_fast (xs := xs) w a1 a2 a3 a4 a5 a6 a7 a8 hge.1 hge.2 hi (fun h' k1 k2 => ps_bkv ?_) d (by omega))
  first | refine ps_s_al p13_24 rfl ?_ | refine ps_s_aln p13_24 rfl ?_
  first | refine ps_s_ra p13_25 t13 ?_ | refine ps_s_rn p13_25 t13 ?_
  exact K h' k1 k2
theorem al_set {u : Nat} {cv : pm_C} (w : cW h o) (A : cAL G o h a cap xs) (hu : xs[i]? = some u) (hv : h.1 v = some cv) (hob : kob cv = true) (K : ∀ h', cF G (· = a) h o h' o 0 0 → cAL G o h' a cap (xs.set i v) → Q (.inl (some (.ref u))) h') : ps_M G 3 81 [.ref a, iN i, .ref v] h Q := by
  obtain ⟨e, mc, f, a1, a2, ⟨a3, a4, a5⟩, a6, ⟨a7, a8⟩, a9⟩ := A
  have hea : e ≠ a := fun q => by rw [q, a1] at a2; cases a2
  have hi : i < xs.length := (List.getElem?_eq_some_iff.mp hu).1
  have hge : o e = a ∧ G.1 ≤ e := by rcases a9 with ⟨q, _⟩ | ⟨_, q⟩
                                     · omega
                                     · exact q
  have hg := hge.2
  have hf : f i = some u := (a5 i hi).trans hu
  have f2 : cF G (· = a) h o (pm_put h e (pm_r cap (va_up f i (some v)))) o 0 0 := cf_put w a2 (by omega) hge.1 rfl
  have fin : cAL G o (pm_put h e (pm_r cap (va_up f i (some v)))) a cap (xs.set i v) := by
    refine ⟨e, mc, va_up f i (some v), ?_, pp_eq, ⟨by rw [List.length_set]; exact a3, a4, fun j hj => ?_⟩, fun x hx => ?_, ⟨a7, a8⟩, a9⟩
    · rw [List.length_set]; exact (pp_ne (fun q => hea q.symm)).trans a1
    · rw [List.length_set] at hj
      show (if j = i then some v else f j) = _
      rw [List.getElem?_set]
      by_cases hji : j = i
      · rw [if_pos hji, if_pos hji.symm, if_pos (by omega)]
      · rw [if_neg hji, if_neg (fun q => hji q.symm), a5 j hj]
    · have : ∃ c, h.1 x = some c ∧ kob c = true := by
        rcases List.mem_or_eq_of_mem_set hx with hx | hx
        · exact a6 x hx
        · subst hx; exact ⟨cv, hv, hob⟩
      obtain ⟨c0, hc0, hk0⟩ := this
      obtain ⟨w', hw', hk'⟩ := cf_kd f2 hc0
      exact ⟨w', hw', by rw [kd_kob hk']; exact hk0⟩
  rcases cv with ⟨ci, fs⟩ | cv
  · refine ps_M_in (e81 _ _ _) l81 (fun d hd => ?_)
    refine ps_s_il p81_0 rfl ?_
    first | refine ps_s_al p81_1 rfl ?_ | refine ps_s_aln p81_1 rfl ?_
    refine ps_s_gf p81_2 a1 rfl ?_
    refine ps_s_vS [_, _] _ p81_5 rfl rfl rfl rfl (ck_index hi (by omega) (ps_bki ?_) d (by omega))
    refine ps_s_pop p81_8 rfl ?_
    first | refine ps_s_al p81_9 rfl ?_ | refine ps_s_aln p81_9 rfl ?_
    refine ps_s_il p81_10 rfl ?_
    refine ps_s_vV [_] _ p81_11 rfl a1 rfl rfl rfl (al_ed a1 a2 hge.2 hf (by omega) (by omega) (ps_bki ?_) d (by omega))
    first | refine ps_s_as3 p81_14 ?_ | refine ps_s_asn3 p81_14 ?_
    first | refine ps_s_al p81_15 rfl ?_ | refine ps_s_aln p81_15 rfl ?_
    refine ps_s_gf p81_16 a1 rfl ?_
    refine ps_s_il p81_19 rfl ?_
    first | refine ps_s_al p81_20 rfl ?_ | refine ps_s_aln p81_20 rfl ?_
    refine ps_s_aas p81_21 hv hob a2 (by omega) (by omega) (by omega) ?_
    first | refine ps_s_al p81_22 rfl ?_ | refine ps_s_aln p81_22 rfl ?_
    first | refine ps_s_ra p81_23 t81 ?_ | refine ps_s_rn p81_23 t81 ?_
    exact K _ f2 fin
  · cases hob
theorem al_clear (w : cW h o) (A : cAL G o h a cap xs) (K : ∀ h', cF G (· = a) h o h' o 0 0 → cAL G o h' a cap [] → Q (.inl none) h') : ps_M G 1 51 [.ref a] h Q := by
  obtain ⟨e, mc, f, a1, a2, ⟨a3, a4, a5⟩, a6, ⟨a7, a8⟩, a9⟩ := A
  have hea : e ≠ a := fun q => by rw [q, a1] at a2; cases a2
  have F : cF G (· = a) h o (pm_put h a (pm_o 2 [.ref e, iN xs.length, .int (mc + Int32.ofNat 1)])) o 0 0 := cf_put w a1 (by omega) a8 rfl
  have F2 := cf_put2 (a := a) (x := pm_o 2 [.ref e, iN 0, .int (mc + Int32.ofNat 1)]) w F pp_eq (by omega) (.inl a8) rfl
  have loop : ∀ d n j (h1 : pm_S) (g : Nat → Option Nat), j + n = xs.length → cF G (· = a) h o h1 o 0 0 → h1.1 a = some (pm_o 2 [.ref e, iN 0, .int (mc + Int32.ofNat 1)]) → h1.1 e = some (pm_r cap g) → ps_X G d 51 27 [some (.ref a), some (.ref e), some (iN xs.length), some (iN j)] [] h1 Q := by
    intro d n
    induction n with
    | zero =>
      intro j h1 g hj F b1 b2
      refine ps_s_il p51_27 rfl ?_
      refine ps_s_il p51_28 rfl ?_
      refine ps_s_ge p51_29 (by omega) (by omega) (fun c29 => ?_) (fun c29 => ?_)
      · refine ps_s_rv p51_42 t51 ?_
        exact K _ F ⟨e, _, g, b1, b2, ⟨Nat.zero_le _, a4, fun j hj => absurd hj (Nat.not_lt_zero _)⟩, fun x hx => absurd hx List.not_mem_nil, ⟨a7, a8⟩, a9⟩
      · omega
    | succ n ih =>
      intro j h1 g hj F b1 b2
      have hge : o e = a ∧ G.1 ≤ e := by
        rcases a9 with ⟨q, _⟩ | ⟨_, q⟩
        · omega
        · exact q
      have hg := hge.2
      have f2 := cf_put2 (a := e) (x := pm_r cap (va_up g j none)) w F b2 (by omega) (.inl hge.1) rfl
      refine ps_s_il p51_27 rfl ?_
      refine ps_s_il p51_28 rfl ?_
      refine ps_s_ge p51_29 (by omega) (by omega) (fun c29 => ?_) (fun c29 => ?_)
      · omega
      · first | refine ps_s_al p51_32 rfl ?_ | refine ps_s_aln p51_32 rfl ?_
        refine ps_s_il p51_33 rfl ?_
        refine ps_s_p p51_34 rfl ?_
        refine ps_s_aasn p51_35 b2 (by omega) (by omega) (by omega) ?_
        refine ps_s_in3 p51_36 ?_
        refine ps_s_go p51_39 ?_
        exact ih _ _ _ (by omega) f2 ((pp_ne (fun q => hea q.symm)).trans b1) pp_eq
  refine ps_M_in (e51 _) l51 (fun d hd => ?_)
  first | refine ps_s_al p51_0 rfl ?_ | refine ps_s_aln p51_0 rfl ?_
  refine ps_s_dup p51_1 rfl ?_
  refine ps_s_gf p51_2 a1 rfl ?_
  refine ps_s_k p51_5 ?_
  first | refine ps_s_add p51_6 ?_ | refine ps_s_2 p51_6 ?_
  refine ps_s_pf p51_7 a1 (by omega) rfl (ps_blt rfl) ?_
  first | refine ps_s_al p51_10 rfl ?_ | refine ps_s_aln p51_10 rfl ?_
  refine ps_s_gf p51_11 pp_eq rfl ?_
  first | refine ps_s_as1 p51_14 ?_ | refine ps_s_asn1 p51_14 ?_
  first | refine ps_s_al p51_15 rfl ?_ | refine ps_s_aln p51_15 rfl ?_
  refine ps_s_gf p51_16 pp_eq rfl ?_
  refine ps_s_is2 p51_19 ?_
  first | refine ps_s_al p51_20 rfl ?_ | refine ps_s_aln p51_20 rfl ?_
  refine ps_s_k p51_21 ?_
  refine ps_s_dx1 p51_22 rfl ?_
  refine ps_s_pf p51_23 pp_eq (by omega) rfl (ps_blt rfl) ?_
  refine ps_s_is3 p51_26 ?_
  exact loop d xs.length 0 _ f (by omega) F2 pp_eq ((pp_ne hea).trans ((pp_ne hea).trans a2))
theorem al_new1 {x y z : Value} (he : h.1 a = some (pm_o 2 [x, y, z])) (hg : G.1 ≤ a) (K : Q (.inl none) (pm_put h a (pm_o 2 [x, y, iN 0]))) : ps_M G 2 3 [.ref a] h Q := by
  have i4 : ∀ Q : pm_Q, Q (.inl none) h → ps_M G 1 4 [.ref a] h Q := by
    intro Q K
    refine ps_M_in (e4 _) l4 (fun d hd => ?_)
    first | refine ps_s_al p4_0 rfl ?_ | refine ps_s_aln p4_0 rfl ?_
    refine ps_s_nt p4_1 rfl ?_
    refine ps_s_rv p4_4 t4 ?_
    exact K
  refine ps_M_in (e3 _) l3 (fun d hd => ?_)
  first | refine ps_s_al p3_0 rfl ?_ | refine ps_s_aln p3_0 rfl ?_
  refine ps_s_vP [] _ p3_1 rfl rfl rfl rfl (i4 _ (ps_bkv ?_) d (by omega))
  first | refine ps_s_al p3_4 rfl ?_ | refine ps_s_aln p3_4 rfl ?_
  refine ps_s_k p3_5 ?_
  refine ps_s_pf p3_6 he (by omega) rfl (ps_blt rfl) ?_
  refine ps_s_rv p3_9 t3 ?_
  exact K
theorem al_new {x z : Value} {fe : Nat → Option Nat} (w : cW h o) (he : h.1 a = some (pm_o 2 [x, iN 0, z])) (hg : G.1 ≤ a) (ho : o a = a) (hem : h.1 G.2.2 = some (pm_r 0 fe)) (hoe : o G.2.2 < G.1) (K : ∀ h', cF G (· = a) h o h' o 0 0 → cAL G o h' a 0 [] → Q (.inl none) h') : ps_M G 3 2 [.ref a] h Q := by
  have hea : G.2.2 ≠ a := fun q => by rw [q, he] at hem; cases hem
  have f1 : cF G (· = a) h o (pm_put h a (pm_o 2 [x, iN 0, iN 0])) o 0 0 := cf_put w he (by omega) ho rfl
  have f2 := cf_put2 (a := a) (x := pm_o 2 [.ref G.2.2, iN 0, iN 0]) w f1 pp_eq (by omega) (.inl ho) rfl
  refine ps_M_in (e2 _) l2 (fun d hd => ?_)
  first | refine ps_s_al p2_0 rfl ?_ | refine ps_s_aln p2_0 rfl ?_
  refine ps_s_vP [] _ p2_1 rfl rfl rfl rfl (al_new1 he hg (ps_bkv ?_) d (by omega))
  first | refine ps_s_al p2_4 rfl ?_ | refine ps_s_aln p2_4 rfl ?_
  refine ps_s_gs p2_5 (by decide +kernel) ?_
  refine ps_s_pf p2_8 pp_eq (by omega) rfl (ps_blt rfl) ?_
  refine ps_s_rv p2_11 t2 ?_
  exact K _ f2 ⟨G.2.2, _, fe, pp_eq, (pp_ne hea).trans ((pp_ne hea).trans hem), ⟨Nat.le_refl _, by omega, fun j hj => absurd hj (Nat.not_lt_zero _)⟩, fun x hx => absurd hx List.not_mem_nil, ⟨hg, ho⟩, .inl ⟨rfl, rfl, hoe⟩⟩
end CAM
