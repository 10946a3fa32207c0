/-! Packing: a term, documents, what the list says of a segment; the copy of a row. -/
theorem poB_c (t o b : Nat) (x : pDoc) (r : List pDoc) : poB t o b (x :: r) = if 0 < tm t x.2 then vi (o - b) ++ (vi (tm t x.2) ++ (plB t 0 0 x.2 ++ poB t (o + 1) o r)) else poB t (o + 1) b r := rfl
theorem kB_c (b : Nat) (x : pDoc) (r : List pDoc) : kB b (x :: r) = vi (x.1 - b) ++ (vi x.2.length ++ kB x.1 r) := rfl
theorem tsB_s (D : List pDoc) (t n : Nat) : tsB D t (n + 1) = tB t D ++ tsB D (t + 1) n := rfl
theorem hav_app (t : Nat) (B : List pDoc) : ∀ A : List pDoc, hav t (A ++ B) = hav t A + hav t B := by
  intro A
  induction A with
  | nil => exact (Nat.zero_add _).symm
  | cons x r ih => rw [List.cons_append, hav_c, hav_c, ih]; omega
theorem len_of_app2 {α : Type} {A B C D : List α} (h : A ++ (B ++ C) = D) : (A ++ B).length ≤ D.length := by rw [← h, List.length_append, List.length_append, List.length_append]; omega
theorem len_of_app {α : Type} {A B C : List α} (h : A ++ B = C) : A.length ≤ C.length := by rw [← h, List.length_append]; omega
section CPK
variable {G : pm_G} {P : Nat → Prop} {h h1 : pm_S} {o o1 : Nat → Nat} {c s r cap a d al t : Nat} {L : List Nat} {D : pD} {xs : List (Nat × pD)} {Q : pm_Q}
theorem pk_term (w : cW h o) (B : cRW G o h r cap L) (A : cLD G o h a xs) (ht : t < 16) (hl : (L ++ tB t (xs.map (·.2.1))).length < 900000) (K : ∀ h', cF G (· = r) h o h' o 0 0 → cRW G o h' r cap (L ++ tB t (xs.map (·.2.1))) → Q (.inl none) h') : ps_M G 4 58 [.ref r, iN t, .ref a] h Q := by
  have loop2 : ∀ d', 3 ≤ d' → 0 < hav t (xs.map (·.2.1)) → ∀ (R M : List (Nat × pD)) (b : Nat) (u6 : Option Value) (h1 : pm_S) (L1 : List Nat), M ++ R = xs → b ≤ M.length → cF G (· = r) h o h1 o 0 0 → cRW G o h1 r cap L1 → L1 ++ poB t M.length b (R.map (·.2.1)) = L ++ tB t (xs.map (·.2.1)) → ps_X G d' 58 66 [some (.ref r), some (iN t), some (.ref a), some (iN (hav t (xs.map (·.2.1)))), some (iN b), some (iN M.length), u6] [] h1 Q := by
    intro d hd hh R
    induction R with
    | nil =>
      intro M b u6 h1 L1 hM hb F B1 hB
      obtain ⟨⟨cap1, A1⟩, A2, A3⟩ := ld_frr A B F
      obtain ⟨_, _, fs, a1⟩ := al_own A1
      rw [List.append_nil] at hM
      subst hM
      refine ps_s_il p58_66 rfl ?_
      first | refine ps_s_al p58_68 rfl ?_ | refine ps_s_aln p58_68 rfl ?_
      refine ps_s_vV [] _ p58_69 rfl a1 rfl rfl rfl (al_sizem A1 (ps_bki ?_) d (by omega))
      refine ps_s_ge p58_72 (by omega) (by omega) (fun c72 => ?_) (fun c72 => ?_)
      · refine ps_s_rv p58_121 t58 ?_
        rw [show poB t M.length b (([] : List (Nat × pD)).map (·.2.1)) = [] from rfl, List.append_nil] at hB
        rw [hB] at B1
        exact K _ F B1
      · omega
    | cons p R ih =>
      intro M b u6 h1 L1 hM hb F B1 hB
      obtain ⟨⟨cap1, A1⟩, A2, A3⟩ := ld_frr A B F
      obtain ⟨_, _, fs, a1⟩ := al_own A1
      obtain ⟨_, _, fs2, b1⟩ := rw_own B1
      have hlen : M.length + (R.length + 1) = xs.length := by rw [← hM, List.length_append, List.length_cons]
      have hm : p ∈ xs := by rw [← hM]; exact List.mem_append_right _ (List.mem_cons_self ..)
      obtain ⟨e, f, p1, p2, _, _, p5, p6, p7, _⟩ := A2 p hm
      have hg : (xs.map (·.1))[M.length]? = some p.1 := by rw [List.getElem?_map, ← hM, get_pre]; rfl
      have nx := fun b u6 h1 L1 => ih (M ++ [p]) b u6 h1 L1 (by rw [List.append_assoc]; exact hM)
      rw [List.length_append] at nx
      rw [List.map_cons, poB_c] at hB
      have hwl := wm_lt (t := t) p7
      have hz := wm_zero t p.2.1.2 p7
      have hL1 := len_of_app hB
      refine ps_s_il p58_66 rfl ?_
      first | refine ps_s_al p58_68 rfl ?_ | refine ps_s_aln p58_68 rfl ?_
      refine ps_s_vV [] _ p58_69 rfl a1 rfl rfl rfl (al_sizem A1 (ps_bki ?_) d (by omega))
      refine ps_s_ge p58_72 (by omega) (by omega) (fun c72 => ?_) (fun c72 => ?_)
      · omega
      · first | refine ps_s_al p58_75 rfl ?_ | refine ps_s_aln p58_75 rfl ?_
        refine ps_s_il p58_76 rfl ?_
        refine ps_s_vV [_] _ p58_78 rfl a1 rfl rfl rfl (al_get A1 hg (ps_bki ?_) d (by omega))
        refine ps_s_ck p58_81 p1 ?_
        refine ps_s_gf p58_84 p1 rfl ?_
        refine ps_s_il p58_87 rfl ?_
        refine ps_s_iav p58_88 p2 (p5 t ht) (by omega) (by omega) ?_
        refine ps_s_is6 p58_89 ?_
        refine ps_s_il p58_91 rfl ?_
        refine ps_s_eq0 p58_93 (by omega) (fun c93 => ?_) (fun c93 => ?_)
        · rw [if_neg (by have := hz.mp c93; omega)] at hB
          refine ps_s_in5 p58_115 ?_
          refine ps_s_go p58_118 ?_
          exact nx _ _ _ _ (by omega) F B1 hB
        · have h0 : 0 < tm t p.2.1.2 := Nat.pos_of_ne_zero (fun q => c93 (hz.mpr q))
          rw [if_pos h0] at hB
          first | refine ps_s_al p58_96 rfl ?_ | refine ps_s_aln p58_96 rfl ?_
          refine ps_s_il p58_97 rfl ?_
          refine ps_s_il p58_99 rfl ?_
          first | refine ps_s_sub p58_101 (by omega) ?_ | refine ps_s_2 p58_101 ?_
          refine ps_s_vV [_] _ p58_102 rfl b1 rfl rfl rfl (rw_num F.1 B1 (by omega) (by omega) (fun h2 k1 k2 => ps_bkv ?_) d (by omega))
          have F2 := cf_trans w F k1 (fun u _ hu => .inl hu)
          obtain ⟨_, _, fs3, b2⟩ := rw_own k2
          have hL2 := len_of_app2 hB
          first | refine ps_s_al p58_105 rfl ?_ | refine ps_s_aln p58_105 rfl ?_
          refine ps_s_il p58_106 rfl ?_
          refine ps_s_vV [_] _ p58_108 rfl b2 rfl rfl rfl (rw_places k1.1 k2 p7 (by omega) (fun h3 k3 k4 => ps_bkv ?_) d (by omega))
          refine ps_s_il p58_111 rfl ?_
          refine ps_s_is4 p58_113 ?_
          refine ps_s_in5 p58_115 ?_
          refine ps_s_go p58_118 ?_
          have F3 := cf_trans w F2 k3 (fun u _ hu => .inl hu)
          exact nx _ _ _ _ (by omega) F3 k4 (by simp only [List.append_assoc]; exact hB)
  have loop1 : ∀ d', 3 ≤ d' → ∀ (R M : List (Nat × pD)), M ++ R = xs → ps_X G d' 58 5 [some (.ref r), some (iN t), some (.ref a), some (iN (hav t (M.map (·.2.1)))), some (iN M.length), none, none] [] h Q := by
    intro d hd R
    obtain ⟨⟨cap1, A1⟩, A2, A3⟩ := A
    obtain ⟨_, _, fs, a1⟩ := al_own A1
    induction R with
    | nil =>
      intro M hM
      rw [List.append_nil] at hM
      subst hM
      have hh : hav t (M.map (·.2.1)) ≤ M.length := by have := hav_le t (M.map (·.2.1)); rw [List.length_map] at this; exact this
      refine ps_s_il p58_5 rfl ?_
      first | refine ps_s_al p58_7 rfl ?_ | refine ps_s_aln p58_7 rfl ?_
      refine ps_s_vV [] _ p58_8 rfl a1 rfl rfl rfl (al_sizem A1 (ps_bki ?_) d (by omega))
      refine ps_s_ge p58_11 (by omega) (by omega) (fun c11 => ?_) (fun c11 => ?_)
      · refine ps_s_il p58_45 rfl ?_
        refine ps_s_ne0 p58_46 (by omega) (fun c46 => ?_) (fun c46 => ?_)
        · obtain ⟨_, _, fs2, b1⟩ := rw_own B
          have htb : tB t (M.map (·.2.1)) = vi t ++ (vi (hav t (M.map (·.2.1))) ++ poB t 0 0 (M.map (·.2.1))) := by unfold tB; rw [if_neg c46]
          rw [htb] at hl
          rw [List.length_append, List.length_append, List.length_append] at hl
          first | refine ps_s_al p58_50 rfl ?_ | refine ps_s_aln p58_50 rfl ?_
          refine ps_s_il p58_51 rfl ?_
          refine ps_s_vV [_] _ p58_52 rfl b1 rfl rfl rfl (rw_num w B (by omega) (by omega) (fun h2 k1 k2 => ps_bkv ?_) d (by omega))
          obtain ⟨_, _, fs3, b2⟩ := rw_own k2
          first | refine ps_s_al p58_55 rfl ?_ | refine ps_s_aln p58_55 rfl ?_
          refine ps_s_il p58_56 rfl ?_
          refine ps_s_vV [_] _ p58_57 rfl b2 rfl rfl rfl (rw_num k1.1 k2 (by omega) (by rw [List.length_append]; omega) (fun h3 k3 k4 => ps_bkv ?_) d (by omega))
          refine ps_s_k p58_60 ?_
          refine ps_s_is4 p58_61 ?_
          refine ps_s_k p58_63 ?_
          refine ps_s_is5 p58_64 ?_
          have F2 := cf_trans w k1 k3 (fun u _ hu => .inl hu)
          exact loop2 d hd (by omega) M [] 0 _ _ _ rfl (Nat.le_refl _) F2 k4 (by rw [htb]; simp only [List.append_assoc]; rfl)
        · refine ps_s_rv p58_49 t58 ?_
          have htb : tB t (M.map (·.2.1)) = [] := by unfold tB; rw [if_pos (by omega)]
          rw [htb, List.append_nil] at K
          exact K _ (cf_refl w) B
      · omega
    | cons p R ih =>
      intro M hM
      have hlen : M.length + (R.length + 1) = xs.length := by rw [← hM, List.length_append, List.length_cons]
      have hm : p ∈ xs := by rw [← hM]; exact List.mem_append_right _ (List.mem_cons_self ..)
      obtain ⟨e, f, p1, p2, _, _, p5, p6, p7, _⟩ := A2 p hm
      have hg : (xs.map (·.1))[M.length]? = some p.1 := by rw [List.getElem?_map, ← hM, get_pre]; rfl
      have nx := ih (M ++ [p]) (by rw [List.append_assoc]; exact hM)
      rw [List.length_append, List.map_append, hav_app] at nx
      have hwl := wm_lt (t := t) p7
      have hz := wm_zero t p.2.1.2 p7
      have hh : hav t (M.map (·.2.1)) ≤ M.length := by have := hav_le t (M.map (·.2.1)); rw [List.length_map] at this; exact this
      refine ps_s_il p58_5 rfl ?_
      first | refine ps_s_al p58_7 rfl ?_ | refine ps_s_aln p58_7 rfl ?_
      refine ps_s_vV [] _ p58_8 rfl a1 rfl rfl rfl (al_sizem A1 (ps_bki ?_) d (by omega))
      refine ps_s_ge p58_11 (by omega) (by omega) (fun c11 => ?_) (fun c11 => ?_)
      · omega
      · refine ps_s_il p58_14 rfl ?_
        first | refine ps_s_al p58_15 rfl ?_ | refine ps_s_aln p58_15 rfl ?_
        refine ps_s_il p58_16 rfl ?_
        refine ps_s_vV [_] _ p58_18 rfl a1 rfl rfl rfl (al_get A1 hg (ps_bki ?_) d (by omega))
        refine ps_s_ck p58_21 p1 ?_
        refine ps_s_gf p58_24 p1 rfl ?_
        refine ps_s_il p58_27 rfl ?_
        refine ps_s_iav p58_28 p2 (p5 t ht) (by omega) (by omega) ?_
        refine ps_s_eq0 p58_29 (by omega) (fun c29 => ?_) (fun c29 => ?_)
        · rw [show hav t ([p].map (·.2.1)) = 0 from by show (if 0 < tm t p.2.1.2 then 1 else 0) + 0 = 0; rw [if_neg (by have := hz.mp c29; omega)]] at nx
          refine ps_s_k p58_36 ?_
          first | refine ps_s_add p58_37 ?_ | refine ps_s_2 p58_37 ?_
          refine ps_s_is3 p58_38 ?_
          refine ps_s_in4 p58_39 ?_
          refine ps_s_go p58_42 ?_
          exact nx
        · rw [show hav t ([p].map (·.2.1)) = 1 from by show (if 0 < tm t p.2.1.2 then 1 else 0) + 0 = 1; rw [if_pos (Nat.pos_of_ne_zero (fun q => c29 (hz.mpr q)))]] at nx
          refine ps_s_k p58_32 ?_
          refine ps_s_go p58_33 ?_
          first | refine ps_s_add p58_37 ?_ | refine ps_s_2 p58_37 ?_
          refine ps_s_is3 p58_38 ?_
          refine ps_s_in4 p58_39 ?_
          refine ps_s_go p58_42 ?_
          exact nx
  refine ps_M_in (e58 _ _ _) l58 (fun d hd => ?_)
  refine ps_s_k p58_0 ?_
  refine ps_s_is3 p58_1 ?_
  refine ps_s_k p58_2 ?_
  refine ps_s_is4 p58_3 ?_
  exact loop1 d hd xs [] rfl
theorem srt_app : ∀ (M : List pDoc) (b : Nat) (x : pDoc) (R : List pDoc), srt b (M ++ x :: R) → srt x.1 R := by
  intro M
  induction M with
  | nil => intro b x R h; exact h.2
  | cons y M ih => intro b x R h; exact ih _ _ _ h.2
theorem pk_docs {L0 : List Nat} (w : cW h o) (B : cRW G o h r cap L0) (A : cLD G o h a xs) (hs : srt 0 (xs.map (·.2.1))) (hl : (sB (xs.map (·.2.1))).length < 900000) (K : ∀ h', cF G (· = r) h o h' o 0 0 → cRW G o h' r cap (sB (xs.map (·.2.1))) → Q (.inl none) h') : ps_M G 5 54 [.ref r, .ref a] h Q := by
  have loop2 : ∀ d', 4 ≤ d' → ∀ n t (b : Nat) (u4 : Option Value) (h1 : pm_S) (L1 : List Nat), t + n = 16 → cF G (· = r) h o h1 o 0 0 → cRW G o h1 r cap L1 → L1 ++ tsB (xs.map (·.2.1)) t n = sB (xs.map (·.2.1)) → ps_X G d' 54 68 [some (.ref r), some (.ref a), some (iN b), some (iN t), u4] [] h1 Q := by
    intro d hd n
    induction n with
    | zero =>
      intro t b u4 h1 L1 ht F B1 hB
      refine ps_s_il p54_68 rfl ?_
      refine ps_s_k p54_69 ?_
      refine ps_s_ge p54_71 (by omega) (by omega) (fun c71 => ?_) (fun c71 => ?_)
      · refine ps_s_rv p54_86 t54 ?_
        rw [show tsB (xs.map (·.2.1)) t 0 = [] from rfl, List.append_nil] at hB
        rw [hB] at B1
        exact K _ F B1
      · omega
    | succ n ih =>
      intro t b u4 h1 L1 ht F B1 hB
      obtain ⟨_, _, fs2, b1⟩ := rw_own B1
      rw [tsB_s] at hB
      have hL1 := len_of_app2 hB
      refine ps_s_il p54_68 rfl ?_
      refine ps_s_k p54_69 ?_
      refine ps_s_ge p54_71 (by omega) (by omega) (fun c71 => ?_) (fun c71 => ?_)
      · omega
      · first | refine ps_s_al p54_74 rfl ?_ | refine ps_s_aln p54_74 rfl ?_
        refine ps_s_il p54_75 rfl ?_
        first | refine ps_s_al p54_76 rfl ?_ | refine ps_s_aln p54_76 rfl ?_
        refine ps_s_vV [_, _] _ p54_77 rfl b1 rfl rfl rfl (pk_term F.1 B1 (ld_frr A B F) (by omega) (by omega) (fun h2 k1 k2 => ps_bkv ?_) d (by omega))
        refine ps_s_in3 p54_80 ?_
        refine ps_s_go p54_83 ?_
        have F2 := cf_trans w F k1 (fun u _ hu => .inl hu)
        exact ih _ _ _ _ _ (by omega) F2 k2 (by rw [List.append_assoc]; exact hB)
  have loop1 : ∀ d', 4 ≤ d' → ∀ (R M : List (Nat × pD)) (b : Nat) (u4 : Option Value) (h1 : pm_S) (L1 : List Nat), M ++ R = xs → srt b (R.map (·.2.1)) → b < 2147483648 → cF G (· = r) h o h1 o 0 0 → cRW G o h1 r cap L1 → L1 ++ (kB b (R.map (·.2.1)) ++ tsB (xs.map (·.2.1)) 0 16) = sB (xs.map (·.2.1)) → ps_X G d' 54 16 [some (.ref r), some (.ref a), some (iN b), some (iN M.length), u4] [] h1 Q := by
    intro d hd R
    induction R with
    | nil =>
      intro M b u4 h1 L1 hM hb hb2 F B1 hB
      obtain ⟨⟨cap1, A1⟩, A2, A3⟩ := ld_frr A B F
      obtain ⟨_, _, fs, a1⟩ := al_own A1
      rw [List.append_nil] at hM
      subst hM
      refine ps_s_il p54_16 rfl ?_
      first | refine ps_s_al p54_17 rfl ?_ | refine ps_s_aln p54_17 rfl ?_
      refine ps_s_vV [] _ p54_18 rfl a1 rfl rfl rfl (al_sizem A1 (ps_bki ?_) d (by omega))
      refine ps_s_ge p54_21 (by omega) (by omega) (fun c21 => ?_) (fun c21 => ?_)
      · refine ps_s_k p54_66 ?_
        refine ps_s_is3 p54_67 ?_
        exact loop2 d hd 16 0 _ _ _ _ rfl F B1 hB
      · omega
    | cons p R ih =>
      intro M b u4 h1 L1 hM hb hb2 F B1 hB
      obtain ⟨⟨cap1, A1⟩, A2, A3⟩ := ld_frr A B F
      obtain ⟨_, _, fs, a1⟩ := al_own A1
      obtain ⟨_, _, fs2, b1⟩ := rw_own B1
      have hlen : M.length + (R.length + 1) = xs.length := by rw [← hM, List.length_append, List.length_cons]
      have hm : p ∈ xs := by rw [← hM]; exact List.mem_append_right _ (List.mem_cons_self ..)
      obtain ⟨e, f, p1, p2, p3, p4, p5, p6, p7, _⟩ := A2 p hm
      have hg : (xs.map (·.1))[M.length]? = some p.1 := by rw [List.getElem?_map, ← hM, get_pre]; rfl
      have nx := fun b u4 h1 L1 => ih (M ++ [p]) b u4 h1 L1 (by rw [List.append_assoc]; exact hM)
      rw [List.length_append] at nx
      rw [List.map_cons, kB_c] at hB
      have hbp : b ≤ p.2.1.1 := hb.1
      have hL1 := len_of_app hB
      have hB2 : (L1 ++ vi (p.2.1.1 - b)) ++ (vi p.2.1.2.length ++ (kB p.2.1.1 (R.map (·.2.1)) ++ tsB (xs.map (·.2.1)) 0 16)) = sB (xs.map (·.2.1)) := by rw [← hB]; simp only [List.append_assoc]
      have hL2 := len_of_app hB2
      refine ps_s_il p54_16 rfl ?_
      first | refine ps_s_al p54_17 rfl ?_ | refine ps_s_aln p54_17 rfl ?_
      refine ps_s_vV [] _ p54_18 rfl a1 rfl rfl rfl (al_sizem A1 (ps_bki ?_) d (by omega))
      refine ps_s_ge p54_21 (by omega) (by omega) (fun c21 => ?_) (fun c21 => ?_)
      · omega
      · first | refine ps_s_al p54_24 rfl ?_ | refine ps_s_aln p54_24 rfl ?_
        refine ps_s_il p54_25 rfl ?_
        refine ps_s_vV [_] _ p54_26 rfl a1 rfl rfl rfl (al_get A1 hg (ps_bki ?_) d (by omega))
        refine ps_s_ck p54_29 p1 ?_
        first | refine ps_s_as4 p54_32 ?_ | refine ps_s_asn4 p54_32 ?_
        first | refine ps_s_al p54_34 rfl ?_ | refine ps_s_aln p54_34 rfl ?_
        first | refine ps_s_al p54_35 rfl ?_ | refine ps_s_aln p54_35 rfl ?_
        refine ps_s_gf p54_37 p1 rfl ?_
        refine ps_s_il p54_40 rfl ?_
        first | refine ps_s_sub p54_41 (by omega) ?_ | refine ps_s_2 p54_41 ?_
        refine ps_s_vV [_] _ p54_42 rfl b1 rfl rfl rfl (rw_num F.1 B1 (by omega) (by omega) (fun h2 k1 k2 => ps_bkv ?_) d (by omega))
        have F2 := cf_trans w F k1 (fun u _ hu => .inl hu)
        obtain ⟨_, _, fs3, b2⟩ := rw_own k2
        have dne : ∀ {q : Nat} {c : pm_C}, h1.1 q = some c → o q = p.1 → ¬ o q = r := fun {q c} _ e1 e2 => by
          have e3 : p.1 = r := e1.symm.trans e2
          rw [e3, b1] at p1
          cases p1
        have q1 := cf_get k1 p1 (dne p1 p3.2)
        first | refine ps_s_al p54_45 rfl ?_ | refine ps_s_aln p54_45 rfl ?_
        first | refine ps_s_al p54_46 rfl ?_ | refine ps_s_aln p54_46 rfl ?_
        refine ps_s_gf p54_48 q1 rfl ?_
        refine ps_s_vV [_] _ p54_51 rfl b2 rfl rfl rfl (rw_num k1.1 k2 (by omega) (by omega) (fun h3 k3 k4 => ps_bkv ?_) d (by omega))
        have F3 := cf_trans w F2 k3 (fun u _ hu => .inl hu)
        have q2 := cf_get k3 q1 (dne p1 p3.2)
        first | refine ps_s_al p54_54 rfl ?_ | refine ps_s_aln p54_54 rfl ?_
        refine ps_s_gf p54_56 q2 rfl ?_
        refine ps_s_is2 p54_59 ?_
        refine ps_s_in3 p54_60 ?_
        refine ps_s_go p54_63 ?_
        exact nx _ _ _ _ hb.2 p6 F3 k4 (by rw [← hB]; simp only [List.append_assoc])
  have A' := A
  obtain ⟨⟨cap1, A1⟩, A2, A3⟩ := A'
  obtain ⟨_, _, fs, a1⟩ := al_own A1
  obtain ⟨_, _, fs2, b1⟩ := rw_own B
  have hl2 := hl
  unfold sB at hl2
  rw [List.length_append] at hl2
  refine ps_M_in (e54 _ _) l54 (fun d hd => ?_)
  first | refine ps_s_al p54_0 rfl ?_ | refine ps_s_aln p54_0 rfl ?_
  refine ps_s_vV [] _ p54_1 rfl b1 rfl rfl rfl (rw_clear w B (fun h2 k1 k2 => ps_bkv ?_) d (by omega))
  obtain ⟨⟨cap2, A4⟩, A5, _⟩ := ld_frr A B k1
  obtain ⟨_, _, fs3, a2⟩ := al_own A4
  obtain ⟨_, _, fs4, b2⟩ := rw_own k2
  first | refine ps_s_al p54_4 rfl ?_ | refine ps_s_aln p54_4 rfl ?_
  first | refine ps_s_al p54_5 rfl ?_ | refine ps_s_aln p54_5 rfl ?_
  refine ps_s_vV [] _ p54_6 rfl a2 rfl rfl rfl (al_sizem A4 (ps_bki ?_) d (by omega))
  refine ps_s_vV [_] _ p54_9 rfl b2 rfl rfl rfl (rw_num k1.1 k2 (by omega) (by show 0 < _; omega) (fun h3 k3 k4 => ps_bkv ?_) d (by omega))
  refine ps_s_k p54_12 ?_
  refine ps_s_is2 p54_13 ?_
  refine ps_s_k p54_14 ?_
  refine ps_s_is3 p54_15 ?_
  have F2 := cf_trans w k1 k3 (fun u _ hu => .inl hu)
  exact loop1 d hd xs [] 0 _ _ _ rfl hs (by omega) F2 k4 (by unfold sB; rw [List.length_map]; rfl)
/-- what the list says of a segment -/
theorem pk_entry {sa num : Nat} {y : Value} (w : cW h o) (B : cRW G o h r cap L) (hs : h.1 sa = some (pm_o 6 [iN num, .ref a, y])) (hso : o sa = sa) (A : cLD G o h a xs) (hal : al ≤ 1) (hn : num < 2147483648) (hl : (L ++ eB num (xs.map (fun p => gnD al p.2))).length < 900000) (K : ∀ h', cF G (· = r) h o h' o 0 0 → cRW G o h' r cap (L ++ eB num (xs.map (fun p => gnD al p.2))) → Q (.inl none) h') : ps_M G 5 65 [.ref r, .ref sa, iN al] h Q := by
  have sne : ¬ o sa = r := fun q => by
    obtain ⟨_, _, fs2, b1⟩ := rw_own B
    rw [← hso, q, b1] at hs
    cases hs
  have loop : ∀ d', 4 ≤ d' → ∀ (R M : List (Nat × pD)) (b : Nat) (h1 : pm_S) (L1 : List Nat), M ++ R = xs → b ≤ M.length → cF G (· = r) h o h1 o 0 0 → cRW G o h1 r cap L1 → L1 ++ dB M.length b (R.map (fun p => gnD al p.2)) = L ++ eB num (xs.map (fun p => gnD al p.2)) → ps_X G d' 65 33 [some (.ref r), some (.ref sa), some (iN al), some (.ref a), some (iN b), some (iN M.length)] [] h1 Q := by
    intro d hd R
    induction R with
    | nil =>
      intro M b h1 L1 hM hb F B1 hB
      obtain ⟨⟨cap1, A1⟩, A2, A3⟩ := ld_frr A B F
      obtain ⟨_, _, fs, a1⟩ := al_own A1
      rw [List.append_nil] at hM
      subst hM
      refine ps_s_il p65_33 rfl ?_
      first | refine ps_s_al p65_35 rfl ?_ | refine ps_s_aln p65_35 rfl ?_
      refine ps_s_vV [] _ p65_36 rfl a1 rfl rfl rfl (al_sizem A1 (ps_bki ?_) d (by omega))
      refine ps_s_ge p65_39 (by omega) (by omega) (fun c39 => ?_) (fun c39 => ?_)
      · refine ps_s_rv p65_77 t65 ?_
        rw [show dB M.length b ([].map (fun p : Nat × pD => gnD al p.2)) = [] from rfl, List.append_nil] at hB
        rw [hB] at B1
        exact K _ F B1
      · omega
    | cons p R ih =>
      intro M b h1 L1 hM hb F B1 hB
      obtain ⟨⟨cap1, A1⟩, A2, A3⟩ := ld_frr A B F
      obtain ⟨_, _, fs, a1⟩ := al_own A1
      obtain ⟨_, _, fs2, b1⟩ := rw_own B1
      have hlen : M.length + (R.length + 1) = xs.length := by rw [← hM, List.length_append, List.length_cons]
      have hm : p ∈ xs := by rw [← hM]; exact List.mem_append_right _ (List.mem_cons_self ..)
      obtain ⟨_, _, gs, p1⟩ := dc_obj (A2 p hm)
      have hg : (xs.map (·.1))[M.length]? = some p.1 := by rw [List.getElem?_map, ← hM, get_pre]; rfl
      have nx := fun b h1 L1 => ih (M ++ [p]) b h1 L1 (by rw [List.append_assoc]; exact hM)
      rw [List.length_append] at nx
      rw [List.map_cons, dB_c] at hB
      have hL1 := len_of_app hB
      refine ps_s_il p65_33 rfl ?_
      first | refine ps_s_al p65_35 rfl ?_ | refine ps_s_aln p65_35 rfl ?_
      refine ps_s_vV [] _ p65_36 rfl a1 rfl rfl rfl (al_sizem A1 (ps_bki ?_) d (by omega))
      refine ps_s_ge p65_39 (by omega) (by omega) (fun c39 => ?_) (fun c39 => ?_)
      · omega
      · first | refine ps_s_al p65_42 rfl ?_ | refine ps_s_aln p65_42 rfl ?_
        refine ps_s_il p65_43 rfl ?_
        refine ps_s_vV [_] _ p65_45 rfl a1 rfl rfl rfl (al_get A1 hg (ps_bki ?_) d (by omega))
        refine ps_s_ck p65_48 p1 ?_
        refine ps_s_il p65_51 rfl ?_
        refine ps_s_vV [_] _ p65_52 rfl p1 rfl rfl rfl (dc_gone (A2 p hm) hal (ps_bki ?_) d (by omega))
        by_cases hgn : gnD al p.2 = true
        · rw [if_pos hgn] at hB
          rw [hgn, show bN true = 1 from rfl]
          refine ps_s_eq0 p65_55 (by omega) (fun c55 => ?_) (fun c55 => ?_)
          · exact absurd c55 (by decide)
          · first | refine ps_s_al p65_58 rfl ?_ | refine ps_s_aln p65_58 rfl ?_
            refine ps_s_il p65_59 rfl ?_
            refine ps_s_il p65_61 rfl ?_
            first | refine ps_s_sub p65_63 (by omega) ?_ | refine ps_s_2 p65_63 ?_
            refine ps_s_vV [_] _ p65_64 rfl b1 rfl rfl rfl (rw_num F.1 B1 (by omega) (by omega) (fun h2 k1 k2 => ps_bkv ?_) d (by omega))
            refine ps_s_il p65_67 rfl ?_
            refine ps_s_is4 p65_69 ?_
            refine ps_s_in5 p65_71 ?_
            refine ps_s_go p65_74 ?_
            have F2 := cf_trans w F k1 (fun u _ hu => .inl hu)
            exact nx _ _ _ (by omega) F2 k2 (by rw [List.append_assoc]; exact hB)
        · rw [if_neg hgn] at hB
          rw [Bool.not_eq_true] at hgn
          rw [hgn, show bN false = 0 from rfl]
          refine ps_s_eq0 p65_55 (by omega) (fun c55 => ?_) (fun c55 => ?_)
          · refine ps_s_in5 p65_71 ?_
            refine ps_s_go p65_74 ?_
            exact nx _ _ _ (by omega) F B1 hB
          · exact absurd rfl c55
  obtain ⟨_, _, fs2, b1⟩ := rw_own B
  have hl2 := hl
  unfold eB at hl2
  rw [List.length_append, List.length_append, List.length_append] at hl2
  have hk := kc_gc al (xs.map (·.2))
  rw [List.length_map, List.map_map] at hk
  have hk2 : kc al (xs.map (·.2)) + gc (xs.map (fun p => gnD al p.2)) = xs.length := hk
  have hx := A.2.2
  refine ps_M_in (e65 _ _ _) l65 (fun d hd => ?_)
  first | refine ps_s_al p65_0 rfl ?_ | refine ps_s_aln p65_0 rfl ?_
  refine ps_s_gf p65_1 hs rfl ?_
  first | refine ps_s_as3 p65_4 ?_ | refine ps_s_asn3 p65_4 ?_
  first | refine ps_s_al p65_5 rfl ?_ | refine ps_s_aln p65_5 rfl ?_
  first | refine ps_s_al p65_6 rfl ?_ | refine ps_s_aln p65_6 rfl ?_
  refine ps_s_gf p65_7 hs rfl ?_
  refine ps_s_vV [_] _ p65_10 rfl b1 rfl rfl rfl (rw_num w B hn (by omega) (fun h2 k1 k2 => ps_bkv ?_) d (by omega))
  have A' := ld_frr A B k1
  have A'' := A'
  obtain ⟨⟨cap2, A4⟩, A5, _⟩ := A'
  obtain ⟨_, _, fs3, a2⟩ := al_own A4
  obtain ⟨_, _, fs4, b2⟩ := rw_own k2
  have hs2 := cf_get k1 hs sne
  first | refine ps_s_al p65_13 rfl ?_ | refine ps_s_aln p65_13 rfl ?_
  first | refine ps_s_al p65_14 rfl ?_ | refine ps_s_aln p65_14 rfl ?_
  refine ps_s_vV [] _ p65_15 rfl a2 rfl rfl rfl (al_sizem A4 (ps_bki ?_) d (by omega))
  first | refine ps_s_al p65_18 rfl ?_ | refine ps_s_aln p65_18 rfl ?_
  refine ps_s_il p65_19 rfl ?_
  refine ps_s_vV [_] _ p65_20 rfl hs2 rfl rfl rfl (sg_kept hs2 A'' hal (ps_bki ?_) d (by omega))
  first | refine ps_s_sub p65_23 (by omega) ?_ | refine ps_s_2 p65_23 ?_
  rw [show xs.length - kc al (xs.map (·.2)) = gc (xs.map (fun p => gnD al p.2)) by omega]
  refine ps_s_vV [_] _ p65_24 rfl b2 rfl rfl rfl (rw_num k1.1 k2 (by omega) (by rw [List.length_append]; omega) (fun h3 k3 k4 => ps_bkv ?_) d (by omega))
  refine ps_s_k p65_27 ?_
  refine ps_s_is4 p65_28 ?_
  refine ps_s_k p65_30 ?_
  refine ps_s_is5 p65_31 ?_
  have F2 := cf_trans w k1 k3 (fun u _ hu => .inl hu)
  exact loop d hd xs [] 0 _ _ rfl (Nat.le_refl _) F2 k4 (by unfold eB; simp only [List.append_assoc]; rfl)
end CPK
