/-! The reference: its constructor. -/
section RFO
variable {G : pm_G} {d y a b c e g n j s k m : Nat} {l0 : Option Value} {ls : pm_V} {fs : List Value} {T : List pm_C} {H : Nat → Option pm_C} {Q : pm_Q} {ty : FieldType}
theorem rf_k_add {x : pm_C} (hk : k = T.length) : pm_add (rf_k (H, m + k, s) m T) x n = rf_k (H, m + (k + 1), s + n) m (T ++ [x]) := by
  subst hk
  unfold rf_k pm_add
  dsimp only
  refine Prod.ext (funext fun q => ?_) rfl
  unfold va_up
  dsimp only
  rw [List.length_append, List.length_singleton]
  by_cases h : q = m + T.length
  · subst h
    rw [if_pos rfl, if_pos (by omega), Nat.add_sub_cancel_left, List.getElem?_append_right (Nat.le_refl _), Nat.sub_self]
    rfl
  · rw [if_neg h]
    by_cases h2 : m ≤ q ∧ q < m + T.length
    · rw [if_pos h2, if_pos (by omega), List.getElem?_append_left (by omega)]
    · rw [if_neg h2, if_neg (by omega)]
theorem rf_ci {fs' : List Value} {T' : List pm_C} {s' : Nat} (hm : G.1 ≤ m) (hk : k = T.length + 1) (hn : n ≤ 65536) (hj : j < fs.length) (f1 : ps_la y a 0 b) (f2 : ps_k y b (Int32.ofNat n) c) (f3 : ps_pu y c (.newarray .int) e) (f4 : ps_pf y e 9 j (.array ty) g)
    (hfs : fs.set j (.ref (m + k)) = fs') (hT : T ++ [pm_a 0 n (fun _ => 0)] = T') (hs' : s + n = s')
    (K : ps_X G d y g (some (.ref m) :: ls) [] (rf_k (H, m + (k + 1), s') m (pm_o 9 fs' :: T')) Q) : ps_X G d y a (some (.ref m) :: ls) [] (rf_k (H, m + k, s) m (pm_o 9 fs :: T)) Q := by
  subst hfs hT hs'
  refine ps_s_al f1 rfl ?_
  refine ps_s_k f2 ?_
  refine ps_s_nai f3 hn ?_
  rw [rf_k_add (by rw [List.length_cons]; exact hk)]
  have h0 : (rf_k (H, m + (k + 1), s + n) m (pm_o 9 fs :: T ++ [pm_a 0 n (fun _ => 0)])).1 m = some (pm_o 9 fs) := rf_k_get (k := 0) (show 0 < (pm_o 9 fs :: T ++ [pm_a 0 n (fun _ => 0)]).length by rw [List.cons_append, List.length_cons]; omega)
  refine ps_s_pf f4 h0 hm rfl hj ?_
  have e1 : pm_put (rf_k (H, m + (k + 1), s + n) m (pm_o 9 fs :: T ++ [pm_a 0 n (fun _ => 0)])) m (pm_o 9 (fs.set j (.ref (m + k)))) = rf_k (H, m + (k + 1), s + n) m (pm_o 9 (fs.set j (.ref (m + k))) :: (T ++ [pm_a 0 n (fun _ => 0)])) := rf_k_put (k := 0) (show 0 < (pm_o 9 fs :: T ++ [pm_a 0 n (fun _ => 0)]).length by rw [List.cons_append, List.length_cons]; omega)
  rw [← e1] at K
  exact K
theorem rf_cb {fs' : List Value} {T' : List pm_C} {s' : Nat} (hm : G.1 ≤ m) (hk : k = T.length + 1) (hn : n ≤ 65536) (hj : j < fs.length) (f1 : ps_la y a 0 b) (f2 : ps_k y b (Int32.ofNat n) c) (f3 : ps_pu y c (.newarray .boolean) e) (f4 : ps_pf y e 9 j (.array ty) g)
    (hfs : fs.set j (.ref (m + k)) = fs') (hT : T ++ [pm_a 1 n (fun _ => 0)] = T') (hs' : s + n = s')
    (K : ps_X G d y g (some (.ref m) :: ls) [] (rf_k (H, m + (k + 1), s') m (pm_o 9 fs' :: T')) Q) : ps_X G d y a (some (.ref m) :: ls) [] (rf_k (H, m + k, s) m (pm_o 9 fs :: T)) Q := by
  subst hfs hT hs'
  refine ps_s_al f1 rfl ?_
  refine ps_s_k f2 ?_
  refine ps_s_nab f3 hn ?_
  rw [rf_k_add (by rw [List.length_cons]; exact hk)]
  have h0 : (rf_k (H, m + (k + 1), s + n) m (pm_o 9 fs :: T ++ [pm_a 1 n (fun _ => 0)])).1 m = some (pm_o 9 fs) := rf_k_get (k := 0) (show 0 < (pm_o 9 fs :: T ++ [pm_a 1 n (fun _ => 0)]).length by rw [List.cons_append, List.length_cons]; omega)
  refine ps_s_pf f4 h0 hm rfl hj ?_
  have e1 : pm_put (rf_k (H, m + (k + 1), s + n) m (pm_o 9 fs :: T ++ [pm_a 1 n (fun _ => 0)])) m (pm_o 9 (fs.set j (.ref (m + k)))) = rf_k (H, m + (k + 1), s + n) m (pm_o 9 (fs.set j (.ref (m + k))) :: (T ++ [pm_a 1 n (fun _ => 0)])) := rf_k_put (k := 0) (show 0 < (pm_o 9 fs :: T ++ [pm_a 1 n (fun _ => 0)]).length by rw [List.cons_append, List.length_cons]; omega)
  rw [← e1] at K
  exact K
theorem rf_cs {fs' : List Value} {v : Value} {ty : FieldType} (hm : G.1 ≤ m) (hj : j < fs.length) (hv : pm_fit ty v = true) (f4 : ps_pf y e 9 j ty g)
    (hfs : fs.set j v = fs')
    (K : ps_X G d y g ls [] (rf_k (H, m + k, s) m (pm_o 9 fs' :: T)) Q) : ps_X G d y e ls [v, .ref m] (rf_k (H, m + k, s) m (pm_o 9 fs :: T)) Q := by
  subst hfs
  have h0 : (rf_k (H, m + k, s) m (pm_o 9 fs :: T)).1 m = some (pm_o 9 fs) := rf_k_get (k := 0) (show 0 < (pm_o 9 fs :: T).length by rw [List.length_cons]; omega)
  refine ps_s_pf f4 h0 hm hv hj ?_
  have e1 : pm_put (rf_k (H, m + k, s) m (pm_o 9 fs :: T)) m (pm_o 9 (fs.set j v)) = rf_k (H, m + k, s) m (pm_o 9 (fs.set j v) :: T) := rf_k_put (k := 0) (show 0 < (pm_o 9 fs :: T).length by rw [List.length_cons]; omega)
  rw [← e1] at K
  exact K
/-- the room that is kept of the room that is asked for -/
def rmN (a : Int32) : Nat := if a < 64 then 64 else if 800 < a then 800 else a.toNatClampNeg
theorem rf_new (hm : G.1 ≤ m) {r : Int32} (hQ : Q (.inl none) (rf (H, m + 15, s + 4365) m (rmN r) 0 0 0 0 0 1 0 (-1) 0 0 (fun _ => 0) (fun _ => 0) (fun _ => 0) (fun _ => 0) (fun _ => 0) (fun _ => 0) (fun _ => 0) (fun _ => 0) (fun _ => 0) (fun _ => 0) (fun _ => 0) (fun _ => 0) (fun _ => 0) (fun _ => 0))) :
    ps_M G 1 97 [.ref m, .int r] (rf_k (H, m + 1, s) m [pm_o 9 (pm_zero 9)]) Q := by
  refine ps_M_in (e97 _ _) l97 (fun d hd => ?_)
  rw [show pm_zero 9 = [.int 0, .int 0, .int 0, .null, .int 0, .int 0, .null, .null, .null, .null, .null, .null, .null, .int 0, .null, .int 0, .int 0, .int 0, .null, .int 0, .int 0, .null, .null, .null, .null] from by decide +kernel]
  refine ps_s_al p97_0 rfl ?_
  refine ps_s_nt p97_1 rfl ?_
  refine rf_ci (k := 1) (fs' := [.int 0, .int 0, .int 0, .ref (m + 1), .int 0, .int 0, .null, .null, .null, .null, .null, .null, .null, .int 0, .null, .int 0, .int 0, .int 0, .null, .int 0, .int 0, .null, .null, .null, .null]) (T' := [pm_a 0 8 (fun _ => 0)]) (s' := s + 8) hm rfl (by decide) (show 3 < 25 by decide) p97_4 p97_5 p97_7 p97_9 rfl rfl (by omega) ?_
  refine rf_ci (k := 2) (fs' := [.int 0, .int 0, .int 0, .ref (m + 1), .int 0, .int 0, .ref (m + 2), .null, .null, .null, .null, .null, .null, .int 0, .null, .int 0, .int 0, .int 0, .null, .int 0, .int 0, .null, .null, .null, .null]) (T' := [pm_a 0 8 (fun _ => 0), pm_a 0 200 (fun _ => 0)]) (s' := s + 208) hm rfl (by decide) (show 6 < 25 by decide) p97_12 p97_13 p97_16 p97_18 rfl rfl (by omega) ?_
  refine rf_ci (k := 3) (fs' := [.int 0, .int 0, .int 0, .ref (m + 1), .int 0, .int 0, .ref (m + 2), .ref (m + 3), .null, .null, .null, .null, .null, .int 0, .null, .int 0, .int 0, .int 0, .null, .int 0, .int 0, .null, .null, .null, .null]) (T' := [pm_a 0 8 (fun _ => 0), pm_a 0 200 (fun _ => 0), pm_a 0 200 (fun _ => 0)]) (s' := s + 408) hm rfl (by decide) (show 7 < 25 by decide) p97_21 p97_22 p97_25 p97_27 rfl rfl (by omega) ?_
  refine rf_ci (k := 4) (fs' := [.int 0, .int 0, .int 0, .ref (m + 1), .int 0, .int 0, .ref (m + 2), .ref (m + 3), .ref (m + 4), .null, .null, .null, .null, .int 0, .null, .int 0, .int 0, .int 0, .null, .int 0, .int 0, .null, .null, .null, .null]) (T' := [pm_a 0 8 (fun _ => 0), pm_a 0 200 (fun _ => 0), pm_a 0 200 (fun _ => 0), pm_a 0 1600 (fun _ => 0)]) (s' := s + 2008) hm rfl (by decide) (show 8 < 25 by decide) p97_30 p97_31 p97_34 p97_36 rfl rfl (by omega) ?_
  refine rf_ci (k := 5) (fs' := [.int 0, .int 0, .int 0, .ref (m + 1), .int 0, .int 0, .ref (m + 2), .ref (m + 3), .ref (m + 4), .ref (m + 5), .null, .null, .null, .int 0, .null, .int 0, .int 0, .int 0, .null, .int 0, .int 0, .null, .null, .null, .null]) (T' := [pm_a 0 8 (fun _ => 0), pm_a 0 200 (fun _ => 0), pm_a 0 200 (fun _ => 0), pm_a 0 1600 (fun _ => 0), pm_a 0 200 (fun _ => 0)]) (s' := s + 2208) hm rfl (by decide) (show 9 < 25 by decide) p97_39 p97_40 p97_43 p97_45 rfl rfl (by omega) ?_
  refine rf_cb (k := 6) (fs' := [.int 0, .int 0, .int 0, .ref (m + 1), .int 0, .int 0, .ref (m + 2), .ref (m + 3), .ref (m + 4), .ref (m + 5), .ref (m + 6), .null, .null, .int 0, .null, .int 0, .int 0, .int 0, .null, .int 0, .int 0, .null, .null, .null, .null]) (T' := [pm_a 0 8 (fun _ => 0), pm_a 0 200 (fun _ => 0), pm_a 0 200 (fun _ => 0), pm_a 0 1600 (fun _ => 0), pm_a 0 200 (fun _ => 0), pm_a 1 200 (fun _ => 0)]) (s' := s + 2408) hm rfl (by decide) (show 10 < 25 by decide) p97_48 p97_49 p97_52 p97_54 rfl rfl (by omega) ?_
  refine rf_cb (k := 7) (fs' := [.int 0, .int 0, .int 0, .ref (m + 1), .int 0, .int 0, .ref (m + 2), .ref (m + 3), .ref (m + 4), .ref (m + 5), .ref (m + 6), .ref (m + 7), .null, .int 0, .null, .int 0, .int 0, .int 0, .null, .int 0, .int 0, .null, .null, .null, .null]) (T' := [pm_a 0 8 (fun _ => 0), pm_a 0 200 (fun _ => 0), pm_a 0 200 (fun _ => 0), pm_a 0 1600 (fun _ => 0), pm_a 0 200 (fun _ => 0), pm_a 1 200 (fun _ => 0), pm_a 1 200 (fun _ => 0)]) (s' := s + 2608) hm rfl (by decide) (show 11 < 25 by decide) p97_57 p97_58 p97_61 p97_63 rfl rfl (by omega) ?_
  refine rf_cb (k := 8) (fs' := [.int 0, .int 0, .int 0, .ref (m + 1), .int 0, .int 0, .ref (m + 2), .ref (m + 3), .ref (m + 4), .ref (m + 5), .ref (m + 6), .ref (m + 7), .ref (m + 8), .int 0, .null, .int 0, .int 0, .int 0, .null, .int 0, .int 0, .null, .null, .null, .null]) (T' := [pm_a 0 8 (fun _ => 0), pm_a 0 200 (fun _ => 0), pm_a 0 200 (fun _ => 0), pm_a 0 1600 (fun _ => 0), pm_a 0 200 (fun _ => 0), pm_a 1 200 (fun _ => 0), pm_a 1 200 (fun _ => 0), pm_a 1 200 (fun _ => 0)]) (s' := s + 2808) hm rfl (by decide) (show 12 < 25 by decide) p97_66 p97_67 p97_70 p97_72 rfl rfl (by omega) ?_
  refine rf_ci (k := 9) (fs' := [.int 0, .int 0, .int 0, .ref (m + 1), .int 0, .int 0, .ref (m + 2), .ref (m + 3), .ref (m + 4), .ref (m + 5), .ref (m + 6), .ref (m + 7), .ref (m + 8), .int 0, .ref (m + 9), .int 0, .int 0, .int 0, .null, .int 0, .int 0, .null, .null, .null, .null]) (T' := [pm_a 0 8 (fun _ => 0), pm_a 0 200 (fun _ => 0), pm_a 0 200 (fun _ => 0), pm_a 0 1600 (fun _ => 0), pm_a 0 200 (fun _ => 0), pm_a 1 200 (fun _ => 0), pm_a 1 200 (fun _ => 0), pm_a 1 200 (fun _ => 0), pm_a 0 12 (fun _ => 0)]) (s' := s + 2820) hm rfl (by decide) (show 14 < 25 by decide) p97_75 p97_76 p97_78 p97_80 rfl rfl (by omega) ?_
  refine ps_s_al p97_83 rfl ?_
  refine ps_s_k p97_84 ?_
  refine rf_cs (fs' := [.int 0, .int 0, .int 0, .ref (m + 1), .int 0, .int 0, .ref (m + 2), .ref (m + 3), .ref (m + 4), .ref (m + 5), .ref (m + 6), .ref (m + 7), .ref (m + 8), .int 0, .ref (m + 9), iN 1, .int 0, .int 0, .null, .int 0, .int 0, .null, .null, .null, .null]) (k := 10) hm (show 15 < 25 by decide) rfl p97_85 rfl ?_
  refine ps_s_al p97_88 rfl ?_
  refine ps_s_k p97_89 ?_
  refine rf_cs (fs' := [.int 0, .int 0, .int 0, .ref (m + 1), .int 0, .int 0, .ref (m + 2), .ref (m + 3), .ref (m + 4), .ref (m + 5), .ref (m + 6), .ref (m + 7), .ref (m + 8), .int 0, .ref (m + 9), iN 1, .int 0, .int (-1), .null, .int 0, .int 0, .null, .null, .null, .null]) (k := 10) hm (show 17 < 25 by decide) rfl p97_90 rfl ?_
  refine rf_ci (k := 10) (fs' := [.int 0, .int 0, .int 0, .ref (m + 1), .int 0, .int 0, .ref (m + 2), .ref (m + 3), .ref (m + 4), .ref (m + 5), .ref (m + 6), .ref (m + 7), .ref (m + 8), .int 0, .ref (m + 9), iN 1, .int 0, .int (-1), .ref (m + 10), .int 0, .int 0, .null, .null, .null, .null]) (T' := [pm_a 0 8 (fun _ => 0), pm_a 0 200 (fun _ => 0), pm_a 0 200 (fun _ => 0), pm_a 0 1600 (fun _ => 0), pm_a 0 200 (fun _ => 0), pm_a 1 200 (fun _ => 0), pm_a 1 200 (fun _ => 0), pm_a 1 200 (fun _ => 0), pm_a 0 12 (fun _ => 0), pm_a 0 1400 (fun _ => 0)]) (s' := s + 4220) hm rfl (by decide) (show 18 < 25 by decide) p97_93 p97_94 p97_97 p97_99 rfl rfl (by omega) ?_
  refine rf_ci (k := 11) (fs' := [.int 0, .int 0, .int 0, .ref (m + 1), .int 0, .int 0, .ref (m + 2), .ref (m + 3), .ref (m + 4), .ref (m + 5), .ref (m + 6), .ref (m + 7), .ref (m + 8), .int 0, .ref (m + 9), iN 1, .int 0, .int (-1), .ref (m + 10), .int 0, .int 0, .ref (m + 11), .null, .null, .null]) (T' := [pm_a 0 8 (fun _ => 0), pm_a 0 200 (fun _ => 0), pm_a 0 200 (fun _ => 0), pm_a 0 1600 (fun _ => 0), pm_a 0 200 (fun _ => 0), pm_a 1 200 (fun _ => 0), pm_a 1 200 (fun _ => 0), pm_a 1 200 (fun _ => 0), pm_a 0 12 (fun _ => 0), pm_a 0 1400 (fun _ => 0), pm_a 0 120 (fun _ => 0)]) (s' := s + 4340) hm rfl (by decide) (show 21 < 25 by decide) p97_102 p97_103 p97_105 p97_107 rfl rfl (by omega) ?_
  refine rf_ci (k := 12) (fs' := [.int 0, .int 0, .int 0, .ref (m + 1), .int 0, .int 0, .ref (m + 2), .ref (m + 3), .ref (m + 4), .ref (m + 5), .ref (m + 6), .ref (m + 7), .ref (m + 8), .int 0, .ref (m + 9), iN 1, .int 0, .int (-1), .ref (m + 10), .int 0, .int 0, .ref (m + 11), .ref (m + 12), .null, .null]) (T' := [pm_a 0 8 (fun _ => 0), pm_a 0 200 (fun _ => 0), pm_a 0 200 (fun _ => 0), pm_a 0 1600 (fun _ => 0), pm_a 0 200 (fun _ => 0), pm_a 1 200 (fun _ => 0), pm_a 1 200 (fun _ => 0), pm_a 1 200 (fun _ => 0), pm_a 0 12 (fun _ => 0), pm_a 0 1400 (fun _ => 0), pm_a 0 120 (fun _ => 0), pm_a 0 8 (fun _ => 0)]) (s' := s + 4348) hm rfl (by decide) (show 22 < 25 by decide) p97_110 p97_111 p97_113 p97_115 rfl rfl (by omega) ?_
  refine rf_ci (k := 13) (fs' := [.int 0, .int 0, .int 0, .ref (m + 1), .int 0, .int 0, .ref (m + 2), .ref (m + 3), .ref (m + 4), .ref (m + 5), .ref (m + 6), .ref (m + 7), .ref (m + 8), .int 0, .ref (m + 9), iN 1, .int 0, .int (-1), .ref (m + 10), .int 0, .int 0, .ref (m + 11), .ref (m + 12), .ref (m + 13), .null]) (T' := [pm_a 0 8 (fun _ => 0), pm_a 0 200 (fun _ => 0), pm_a 0 200 (fun _ => 0), pm_a 0 1600 (fun _ => 0), pm_a 0 200 (fun _ => 0), pm_a 1 200 (fun _ => 0), pm_a 1 200 (fun _ => 0), pm_a 1 200 (fun _ => 0), pm_a 0 12 (fun _ => 0), pm_a 0 1400 (fun _ => 0), pm_a 0 120 (fun _ => 0), pm_a 0 8 (fun _ => 0), pm_a 0 8 (fun _ => 0)]) (s' := s + 4356) hm rfl (by decide) (show 23 < 25 by decide) p97_118 p97_119 p97_121 p97_123 rfl rfl (by omega) ?_
  refine rf_ci (k := 14) (fs' := [.int 0, .int 0, .int 0, .ref (m + 1), .int 0, .int 0, .ref (m + 2), .ref (m + 3), .ref (m + 4), .ref (m + 5), .ref (m + 6), .ref (m + 7), .ref (m + 8), .int 0, .ref (m + 9), iN 1, .int 0, .int (-1), .ref (m + 10), .int 0, .int 0, .ref (m + 11), .ref (m + 12), .ref (m + 13), .ref (m + 14)]) (T' := [pm_a 0 8 (fun _ => 0), pm_a 0 200 (fun _ => 0), pm_a 0 200 (fun _ => 0), pm_a 0 1600 (fun _ => 0), pm_a 0 200 (fun _ => 0), pm_a 1 200 (fun _ => 0), pm_a 1 200 (fun _ => 0), pm_a 1 200 (fun _ => 0), pm_a 0 12 (fun _ => 0), pm_a 0 1400 (fun _ => 0), pm_a 0 120 (fun _ => 0), pm_a 0 8 (fun _ => 0), pm_a 0 8 (fun _ => 0), pm_a 0 9 (fun _ => 0)]) (s' := s + 4365) hm rfl (by decide) (show 24 < 25 by decide) p97_126 p97_127 p97_129 p97_131 rfl rfl (by omega) ?_
  have fin : ps_X G d 97 160 [some (.ref m), some (.int r)] [iN (rmN r), .ref m] (rf_k (H, m + 15, s + 4365) m (pm_o 9 [.int 0, .int 0, .int 0, .ref (m + 1), .int 0, .int 0, .ref (m + 2), .ref (m + 3), .ref (m + 4), .ref (m + 5), .ref (m + 6), .ref (m + 7), .ref (m + 8), .int 0, .ref (m + 9), iN 1, .int 0, .int (-1), .ref (m + 10), .int 0, .int 0, .ref (m + 11), .ref (m + 12), .ref (m + 13), .ref (m + 14)] :: [pm_a 0 8 (fun _ => 0), pm_a 0 200 (fun _ => 0), pm_a 0 200 (fun _ => 0), pm_a 0 1600 (fun _ => 0), pm_a 0 200 (fun _ => 0), pm_a 1 200 (fun _ => 0), pm_a 1 200 (fun _ => 0), pm_a 1 200 (fun _ => 0), pm_a 0 12 (fun _ => 0), pm_a 0 1400 (fun _ => 0), pm_a 0 120 (fun _ => 0), pm_a 0 8 (fun _ => 0), pm_a 0 8 (fun _ => 0), pm_a 0 9 (fun _ => 0)])) Q := rf_cs (k := 15) (fs' := [iN (rmN r), .int 0, .int 0, .ref (m + 1), .int 0, .int 0, .ref (m + 2), .ref (m + 3), .ref (m + 4), .ref (m + 5), .ref (m + 6), .ref (m + 7), .ref (m + 8), .int 0, .ref (m + 9), iN 1, .int 0, .int (-1), .ref (m + 10), .int 0, .int 0, .ref (m + 11), .ref (m + 12), .ref (m + 13), .ref (m + 14)]) hm (show 0 < 25 by decide) rfl p97_160 rfl (ps_s_rv p97_163 t97 hQ)
  refine ps_s_al p97_134 rfl ?_
  refine ps_s_il p97_135 rfl ?_
  refine ps_s_k p97_136 ?_
  unfold rmN at fin
  refine ps_s_j p97_138 (fun c => ?_) (fun c => ?_)
  · have h1 : ¬ r < 64 := Int32.not_lt.mpr (of_decide_eq_true c)
    rw [if_neg h1] at fin
    refine ps_s_il p97_146 rfl ?_
    refine ps_s_k p97_147 ?_
    refine ps_s_j p97_150 (fun c => ?_) (fun c => ?_)
    · have h2 : ¬ 800 < r := Int32.not_lt.mpr (of_decide_eq_true c)
      rw [if_neg h2, show iN r.toNatClampNeg = Value.int r from congrArg Value.int (Int32.ofNat_toNatClampNeg r (Int32.le_trans (by decide) (Int32.not_lt.mp h1)))] at fin
      refine ps_s_il p97_159 rfl ?_
      exact fin
    · have h2 : 800 < r := Int32.not_le.mp (of_decide_eq_false c)
      rw [if_pos h2] at fin
      refine ps_s_k p97_153 ?_
      refine ps_s_go p97_156 ?_
      exact fin
  · have h1 : r < 64 := Int32.not_le.mp (of_decide_eq_false c)
    rw [if_pos h1] at fin
    refine ps_s_k p97_141 ?_
    refine ps_s_go p97_143 ?_
    exact fin
end RFO
