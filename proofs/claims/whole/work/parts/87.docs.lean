/-! Documents, lists of documents, segments. -/
def dOk (D : pD) : Prop := D.1.1 < 2147483648 ∧ D.1.2.length ≤ 8 ∧ D.2.1 ≤ 1 ∧ D.2.2 ≤ 1
def cDC (G : pm_G) (o : Nat → Nat) (h : pm_S) (d : Nat) (D : pD) : Prop :=
  ∃ e f, h.1 d = some (pm_o 5 [iN D.1.1, iN D.1.2.length, .ref e, iN D.2.2, iN D.2.1]) ∧ h.1 e = some (pm_a 0 16 f) ∧ (G.1 ≤ d ∧ o d = d) ∧ (G.1 ≤ e ∧ o e = d) ∧ (∀ t, t < 16 → f t = Int32.ofNat (wm t D.1.2)) ∧ dOk D
def cLD (G : pm_G) (o : Nat → Nat) (h : pm_S) (a : Nat) (xs : List (Nat × pD)) : Prop := (∃ cap, cAL G o h a cap (xs.map (·.1))) ∧ (∀ p ∈ xs, cDC G o h p.1 p.2) ∧ xs.length ≤ 2000
/-- how many are kept -/
def kc (al : Nat) : List pD → Nat
  | [] => 0
  | x :: r => (if gnD al x = true then 0 else 1) + kc al r
theorem kc_c (al : Nat) (x : pD) (r : List pD) : kc al (x :: r) = (if gnD al x = true then 0 else 1) + kc al r := rfl
theorem kc_gc (al : Nat) : ∀ l : List pD, kc al l + gc (l.map (gnD al)) = l.length := by
  intro l
  induction l with
  | nil => rfl
  | cons x r ih =>
    rw [List.map_cons, gc_c, kc_c, List.length_cons]
    unfold bN
    split <;> omega
theorem kc_app (al : Nat) (B : List pD) : ∀ A : List pD, kc al (A ++ B) = kc al A + kc al B := by
  intro A
  induction A with
  | nil => exact (Nat.zero_add _).symm
  | cons x r ih => rw [List.cons_append, kc_c, kc_c, ih]; omega
theorem get_pre {α : Type} (L R : List α) (x : α) : (L ++ x :: R)[L.length]? = some x := by
  rw [List.getElem?_append_right (Nat.le_refl _), Nat.sub_self]; rfl
section CDC
variable {G : pm_G} {P : Nat → Prop} {h h1 : pm_S} {o o1 : Nat → Nat} {c s r cap a d al : Nat} {L : List Nat} {D : pD} {xs : List (Nat × pD)} {Q : pm_Q}
theorem al_sizem {α : Type} {g : α → Nat} {ys : List α} (A : cAL G o h a cap (ys.map g)) (K : Q (.inl (some (iN ys.length))) h) : ps_M G 1 8 [.ref a] h Q := al_size A (by rw [List.length_map]; exact K)
theorem dc_fr (A : cDC G o h d D) (f : cF G P h o h1 o1 c s) (hp : ¬ P d) : cDC G o1 h1 d D := by
  obtain ⟨b, g, a1, a2, ⟨a3, a4⟩, ⟨a5, a6⟩, a7, a8⟩ := A
  exact ⟨b, g, cf_get f a1 (by rw [a4]; exact hp), cf_get f a2 (by rw [a6]; exact hp), ⟨a3, by rw [cf_own f a1]; exact a4⟩, ⟨a5, by rw [cf_own f a2]; exact a6⟩, a7, a8⟩
theorem dc_obj (A : cDC G o h d D) : G.1 ≤ d ∧ o d = d ∧ ∃ fs, h.1 d = some (pm_o 5 fs) := by
  obtain ⟨b, g, a1, a2, ⟨a3, a4⟩, _⟩ := A
  exact ⟨a3, a4, _, a1⟩
theorem ld_fr (A : cLD G o h a xs) (f : cF G P h o h1 o1 c s) (hp : ¬ P a) (hq : ∀ p ∈ xs, ¬ P p.1) : cLD G o1 h1 a xs :=
  ⟨A.1.elim (fun cap q => ⟨cap, al_fr q f hp⟩), fun p hp => dc_fr (A.2.1 p hp) f (hq p hp), A.2.2⟩
/-- a list of documents when a row changes -/
theorem ld_frr (A : cLD G o h a xs) (B : cRW G o h r cap L) (f : cF G (· = r) h o h1 o1 c s) : cLD G o1 h1 a xs := by
  obtain ⟨_, _, fs, b1⟩ := rw_own B
  refine ld_fr A f ?_ ?_
  · intro q
    obtain ⟨cap', A'⟩ := A.1
    obtain ⟨_, _, gs, c1⟩ := al_own A'
    rw [q, b1] at c1
    cases c1
  · intro p hp q
    obtain ⟨_, _, gs, c1⟩ := dc_obj (A.2.1 p hp)
    rw [q, b1] at c1
    cases c1
theorem dc_gone (A : cDC G o h d D) (hal : al ≤ 1) (K : Q (.inl (some (iN (bN (gnD al D))))) h) : ps_M G 1 19 [.ref d, iN al] h Q := by
  obtain ⟨b, g, a1, a2, ⟨a3, a4⟩, ⟨a5, a6⟩, a7, a8, a9, a10, a11⟩ := A
  unfold gnD at K
  have yes : ∀ d', (decide (D.2.1 = 1) || (decide (al = 1) && decide (D.2.2 = 1))) = true → ps_X G d' 19 18 [some (.ref d), some (iN al)] [] h Q := by
    intro d' e
    rw [e] at K
    refine ps_s_k p19_18 ?_
    refine ps_s_go p19_19 ?_
    refine ps_s_rz p19_23 t19 (by first | exact .inl rfl | exact .inr rfl | exact bN_01 _) ?_
    exact K
  have no : ∀ d', (decide (D.2.1 = 1) || (decide (al = 1) && decide (D.2.2 = 1))) = false → ps_X G d' 19 22 [some (.ref d), some (iN al)] [] h Q := by
    intro d' e
    rw [e] at K
    refine ps_s_k p19_22 ?_
    refine ps_s_rz p19_23 t19 (by first | exact .inl rfl | exact .inr rfl | exact bN_01 _) ?_
    exact K
  refine ps_M_in (e19 _ _) l19 (fun d hd => ?_)
  first | refine ps_s_al p19_0 rfl ?_ | refine ps_s_aln p19_0 rfl ?_
  refine ps_s_gf p19_1 a1 rfl ?_
  refine ps_s_ne0 p19_4 (by omega) (fun c4 => ?_) (fun c4 => ?_)
  · exact yes _ (by rw [decide_eq_true (by omega)]; rfl)
  · refine ps_s_il p19_7 rfl ?_
    refine ps_s_eq0 p19_8 (by omega) (fun c8 => ?_) (fun c8 => ?_)
    · exact no _ (by rw [decide_eq_false (by omega), decide_eq_false (by omega)]; rfl)
    · first | refine ps_s_al p19_11 rfl ?_ | refine ps_s_aln p19_11 rfl ?_
      refine ps_s_gf p19_12 a1 rfl ?_
      refine ps_s_eq0 p19_15 (by omega) (fun c15 => ?_) (fun c15 => ?_)
      · exact no _ (by rw [decide_eq_false (by omega), decide_eq_true (by omega), decide_eq_false (by omega)]; rfl)
      · exact yes _ (by rw [decide_eq_false (by omega), decide_eq_true (by omega), decide_eq_true (by omega)]; rfl)
theorem sg_kept {sa : Nat} {x y : Value} (hs : h.1 sa = some (pm_o 6 [x, .ref a, y])) (A : cLD G o h a xs) (hal : al ≤ 1) (K : Q (.inl (some (iN (kc al (xs.map (·.2)))))) h) : ps_M G 4 18 [.ref sa, iN al] h Q := by
  obtain ⟨⟨cap, A1⟩, A2, A3⟩ := A
  obtain ⟨_, _, fs, a1⟩ := al_own A1
  have loop : ∀ d', 3 ≤ d' → ∀ (R L : List (Nat × pD)), L ++ R = xs → ps_X G d' 18 4 [some (.ref sa), some (iN al), some (iN (kc al (L.map (·.2)))), some (iN L.length)] [] h Q := by
    intro d hd R
    induction R with
    | nil =>
      intro L hL
      rw [List.append_nil] at hL
      subst hL
      refine ps_s_il p18_4 rfl ?_
      first | refine ps_s_al p18_5 rfl ?_ | refine ps_s_aln p18_5 rfl ?_
      refine ps_s_gf p18_6 hs rfl ?_
      refine ps_s_vV [] _ p18_9 rfl a1 rfl rfl rfl (al_sizem A1 (ps_bki ?_) d (by omega))
      refine ps_s_ge p18_12 (by omega) (by omega) (fun c12 => ?_) (fun c12 => ?_)
      · refine ps_s_il p18_47 rfl ?_
        refine ps_s_ri p18_48 t18 ?_
        exact K
      · omega
    | cons p R ih =>
      intro L hL
      have hlen : L.length + (R.length + 1) = xs.length := by rw [← hL, List.length_append, List.length_cons]
      have hm : p ∈ xs := by rw [← hL]; exact List.mem_append_right _ (List.mem_cons_self ..)
      obtain ⟨_, _, gs, p1⟩ := dc_obj (A2 p hm)
      have hg : (xs.map (·.1))[L.length]? = some p.1 := by rw [List.getElem?_map, ← hL, get_pre]; rfl
      have nx := ih (L ++ [p]) (by rw [List.append_assoc]; exact hL)
      rw [List.length_append, List.map_append, kc_app] at nx
      have kl : kc al (L.map (·.2)) ≤ L.length := by have := kc_gc al (L.map (·.2)); rw [List.length_map] at this; omega
      refine ps_s_il p18_4 rfl ?_
      first | refine ps_s_al p18_5 rfl ?_ | refine ps_s_aln p18_5 rfl ?_
      refine ps_s_gf p18_6 hs rfl ?_
      refine ps_s_vV [] _ p18_9 rfl a1 rfl rfl rfl (al_sizem A1 (ps_bki ?_) d (by omega))
      refine ps_s_ge p18_12 (by omega) (by omega) (fun c12 => ?_) (fun c12 => ?_)
      · omega
      · refine ps_s_il p18_15 rfl ?_
        first | refine ps_s_al p18_16 rfl ?_ | refine ps_s_aln p18_16 rfl ?_
        refine ps_s_gf p18_17 hs rfl ?_
        refine ps_s_il p18_20 rfl ?_
        refine ps_s_vV [_] _ p18_21 rfl a1 rfl rfl rfl (al_get A1 hg (ps_bki ?_) d (by omega))
        refine ps_s_ck p18_24 p1 ?_
        refine ps_s_il p18_27 rfl ?_
        refine ps_s_vV [_] _ p18_28 rfl p1 rfl rfl rfl (dc_gone (A2 p hm) hal (ps_bki ?_) d (by omega))
        by_cases hgn : gnD al p.2 = true
        · rw [hgn, show bN true = 1 from rfl]
          rw [show kc al ([p].map (·.2)) = 0 from by show (if gnD al p.2 = true then 0 else 1) + 0 = 0; rw [if_pos hgn]] at nx
          refine ps_s_eq0 p18_31 (by omega) (fun c31 => ?_) (fun c31 => ?_)
          · exact absurd c31 (by decide)
          · refine ps_s_k p18_34 ?_
            refine ps_s_go p18_35 ?_
            first | refine ps_s_add p18_39 ?_ | refine ps_s_2 p18_39 ?_
            refine ps_s_is2 p18_40 ?_
            refine ps_s_in3 p18_41 ?_
            refine ps_s_go p18_44 ?_
            exact nx
        · rw [Bool.not_eq_true] at hgn
          rw [hgn, show bN false = 0 from rfl]
          rw [show kc al ([p].map (·.2)) = 1 from by show (if gnD al p.2 = true then 0 else 1) + 0 = 1; rw [hgn]; rfl] at nx
          refine ps_s_eq0 p18_31 (by omega) (fun c31 => ?_) (fun c31 => ?_)
          · refine ps_s_k p18_38 ?_
            first | refine ps_s_add p18_39 ?_ | refine ps_s_2 p18_39 ?_
            refine ps_s_is2 p18_40 ?_
            refine ps_s_in3 p18_41 ?_
            refine ps_s_go p18_44 ?_
            exact nx
          · exact absurd rfl c31
  refine ps_M_in (e18 _ _) l18 (fun d hd => ?_)
  refine ps_s_k p18_0 ?_
  refine ps_s_is2 p18_1 ?_
  refine ps_s_k p18_2 ?_
  refine ps_s_is3 p18_3 ?_
  exact loop d hd xs [] rfl
end CDC
