/-! The shelf: its constructor. -/
section XNW
variable {G : pm_G} {o : Nat → Nat} {h : pm_S} {x dr pi pg ba kD lD rD kP lP rP room nn : Nat} {pw : Option Nat} {ts : List Nat} {ps : List (Nat × List Nat)} {bx : List (Nat × pD)} {Ss : List cS} {Lb : List Nat} {Q : pm_Q}
theorem dr_new {d0 : Nat} {u0 u1 : Value} (w : cW h o) (hG : G.1 ≤ h.2.1) (e : h.1 d0 = some (pm_o 1 [u0, u1])) (hg : G.1 ≤ d0) (ho : o d0 = d0) (K : ∀ h' o', cF G (· = d0) h o h' o' 1 16 → cDR G o' h' d0 [] → Q (.inl none) h') : ps_M G 1 1 [.ref d0] h Q := by
  have hl := cw_lt w e
  have f1 : cF G (· = d0) h o (pm_add h (pm_a 0 16 (fun _ => 0)) 16) (va_up o h.2.1 d0) 1 16 := cf_add w (by omega)
  have o1 : va_up o h.2.1 d0 d0 = d0 := (if_neg (by omega)).trans ho
  have f2 := cf_put2 (a := d0) (x := pm_o 1 [.ref h.2.1, u1]) w f1 ((pa_ne (by omega)).trans e) (by rw [o1]; exact hg) (.inl o1) rfl
  have f3 := cf_put2 (a := d0) (x := pm_o 1 [.ref h.2.1, iN 0]) w f2 pp_eq (by rw [o1]; exact hg) (.inl o1) rfl
  refine ps_M_in (e1 _) l1 (fun d hd => ?_)
  first | refine ps_s_al p1_0 rfl ?_ | refine ps_s_aln p1_0 rfl ?_
  refine ps_s_nt p1_1 rfl ?_
  first | refine ps_s_al p1_4 rfl ?_ | refine ps_s_aln p1_4 rfl ?_
  refine ps_s_k p1_5 ?_
  refine ps_s_nai p1_7 (by omega) ?_
  refine ps_s_pf p1_9 ((pa_ne (by omega)).trans e) (by omega) rfl (ps_blt rfl) ?_
  first | refine ps_s_al p1_12 rfl ?_ | refine ps_s_aln p1_12 rfl ?_
  refine ps_s_k p1_13 ?_
  refine ps_s_pf p1_14 pp_eq (by omega) rfl (ps_blt rfl) ?_
  refine ps_s_rv p1_17 t1 ?_
  exact K _ _ f3 ⟨h.2.1, _, pp_eq, (pp_ne (by omega)).trans ((pp_ne (by omega)).trans pa_eq), ⟨hg, o1⟩, ⟨hG, if_pos rfl⟩, fun t _ => rfl, Nat.zero_le _⟩
theorem rw_new {r : Nat} {u0 u1 : Value} (w : cW h o) (hG : G.1 ≤ h.2.1) (e : h.1 r = some (pm_o 3 [u0, u1])) (hg : G.1 ≤ r) (ho : o r = r) (K : ∀ h' o', cF G (· = r) h o h' o' 1 800 → cRW G o' h' r 800 [] → Q (.inl none) h') : ps_M G 1 5 [.ref r, iN 800] h Q := by
  have hl := cw_lt w e
  have f1 : cF G (· = r) h o (pm_add h (pm_a 0 800 (fun _ => 0)) 800) (va_up o h.2.1 r) 1 800 := cf_add w (by omega)
  have o1 : va_up o h.2.1 r r = r := (if_neg (by omega)).trans ho
  have f2 := cf_put2 (a := r) (x := pm_o 3 [.ref h.2.1, u1]) w f1 ((pa_ne (by omega)).trans e) (by rw [o1]; exact hg) (.inl o1) rfl
  have f3 := cf_put2 (a := r) (x := pm_o 3 [.ref h.2.1, iN 0]) w f2 pp_eq (by rw [o1]; exact hg) (.inl o1) rfl
  refine ps_M_in (e5 _ _) l5 (fun d hd => ?_)
  first | refine ps_s_al p5_0 rfl ?_ | refine ps_s_aln p5_0 rfl ?_
  refine ps_s_nt p5_1 rfl ?_
  first | refine ps_s_al p5_4 rfl ?_ | refine ps_s_aln p5_4 rfl ?_
  refine ps_s_il p5_5 rfl ?_
  refine ps_s_nai p5_6 (by omega) ?_
  refine ps_s_pf p5_8 ((pa_ne (by omega)).trans e) (by omega) rfl (ps_blt rfl) ?_
  first | refine ps_s_al p5_11 rfl ?_ | refine ps_s_aln p5_11 rfl ?_
  refine ps_s_k p5_12 ?_
  refine ps_s_pf p5_13 pp_eq (by omega) rfl (ps_blt rfl) ?_
  refine ps_s_rv p5_16 t5 ?_
  exact K _ _ f3 ⟨h.2.1, _, pp_eq, (pp_ne (by omega)).trans ((pp_ne (by omega)).trans pa_eq), ⟨hg, o1⟩, ⟨hG, if_pos rfl⟩, by omega, fun i _ hj => absurd hj (Nat.not_lt_zero _)⟩
theorem al_mk {y pc pc2 nx : Nat} {ls : pm_V} {st : List Value} {d : Nat} (X0 : cG0 G o h) (hd : 3 ≤ d) (h1 : ps_nw y pc 2 (pc + 3)) (h2 : ps_pu y (pc + 3) .dup pc2) (h3 : ps_vP y pc2 2 0 nx) (hw : Nat.ble (pm_wid (.ref h.2.1 :: st)) 8 = true) (K : ∀ h' o', cF G (fun u => h.2.1 ≤ u) h o h' o' 1 3 → cAL G o' h' h.2.1 0 [] → ps_X G d y nx ls (.ref h.2.1 :: st) h' Q) : ps_X G d y pc ls st h Q := by
  obtain ⟨fe, hem⟩ := X0.2.2.1
  have f1 : cF G (fun u => h.2.1 ≤ u) h o (pm_add h (pm_o 2 (pm_zero 2)) 3) (va_up o h.2.1 h.2.1) 1 3 := cf_add X0.1 (Nat.le_refl _)
  have hoe2 : va_up o h.2.1 h.2.1 G.2.2 < G.1 := by rw [cf_own f1 hem]; exact X0.2.2.2
  refine ps_s_nw h1 ?_
  refine ps_s_dup h2 rfl ?_
  refine ps_s_vP [] (.ref h.2.1 :: st) h3 rfl rfl hw rfl (al_new f1.1 pa_eq X0.2.1 (if_pos rfl) (cf_low f1 hem X0.2.2.2) hoe2 (fun h' k1 k2 => ps_bkv ?_) d (by omega))
  exact K h' _ (cf_trans X0.1 f1 k1 (fun u _ hu => .inr (by rw [hu]; exact Nat.le_refl _))) k2
theorem ct_new {k : Nat} {u0 u1 : Value} (X0 : cG0 G o h) (e : h.1 k = some (pm_o 4 [u0, u1])) (hg : G.1 ≤ k) (ho : o k = k) (K : ∀ h' o' la ra, cF G (fun u => u = k ∨ h.2.1 ≤ u) h o h' o' 3 805 → cCT G o' h' k la ra → cAL G o' h' la 0 [] → cRW G o' h' ra 800 [] → h.2.1 ≤ la → h.2.1 ≤ ra → Q (.inl none) h') : ps_M G 4 6 [.ref k] h Q := by
  have hl := cw_lt X0.1 e
  refine ps_M_in (e6 _) l6 (fun d hd => ?_)
  first | refine ps_s_al p6_0 rfl ?_ | refine ps_s_aln p6_0 rfl ?_
  refine ps_s_nt p6_1 rfl ?_
  first | refine ps_s_al p6_4 rfl ?_ | refine ps_s_aln p6_4 rfl ?_
  refine al_mk (pc := 5) (pc2 := 9) (nx := 12) X0 (by omega) p6_5 p6_8 p6_9 rfl (fun h1 o1 q1 q2 => ?_)
  have X1 := g0_fr X0 q1
  have e1 := cf_get q1 e (by rw [ho]; omega)
  have ok1 := (cf_own q1 e).trans ho
  have q1' := cf_up (P2 := fun u => u = k ∨ h.2.1 ≤ u) q1 (fun u _ hu => .inr hu) (Nat.le_refl _) (Nat.le_refl _)
  have f2 := cf_put2 (a := k) (x := pm_o 4 [.ref h.2.1, u1]) X0.1 q1' e1 (by rw [ok1]; exact hg) (.inl (.inl ok1)) rfl
  have g2 : cF G (· = k) h1 o1 (pm_put h1 k (pm_o 4 [.ref h.2.1, u1])) o1 0 0 := cf_put X1.1 e1 (by rw [ok1]; exact hg) ok1 rfl
  have X2 := g0_fr X1 g2
  have A2 := al_fr q2 g2 (by omega)
  have hsz : h.2.1 ≤ h1.2.1 := q1.2.1
  have f3 : cF G (fun u => h1.2.1 ≤ u) (pm_put h1 k (pm_o 4 [.ref h.2.1, u1])) o1 (pm_add (pm_put h1 k (pm_o 4 [.ref h.2.1, u1])) (pm_o 3 (pm_zero 3)) 2) (va_up o1 h1.2.1 h1.2.1) 1 2 := cf_add X2.1 (Nat.le_refl _)
  have hG1 : G.1 ≤ h1.2.1 := X1.2.1
  refine ps_s_pf p6_12 e1 (by omega) rfl (ps_blt rfl) ?_
  first | refine ps_s_al p6_15 rfl ?_ | refine ps_s_aln p6_15 rfl ?_
  refine ps_s_nw p6_16 ?_
  refine ps_s_dup p6_19 rfl ?_
  refine ps_s_k p6_20 ?_
  refine ps_s_vP [_] _ p6_23 rfl rfl rfl rfl (rw_new (r := h1.2.1) f3.1 (by show G.1 ≤ h1.2.1 + 1; omega) pa_eq hG1 (if_pos rfl) (fun h4 o4 r1 r2 => ps_bkv ?_) d (by omega))
  have f4 := cf_trans X2.1 f3 r1 (fun u _ hu => .inl (by rw [hu]; exact Nat.le_refl _))
  have hkl : k < h1.2.1 := by omega
  have e4 := cf_get f4 (z := k) pp_eq (by rw [ok1]; omega)
  have ok4 := (cf_own f4 (z := k) pp_eq).trans ok1
  have A4 := al_fr A2 f4 (by have := cw_lt X1.1 (al_own q2).2.2.choose_spec; omega)
  have F4 := cf_trans X0.1 f2 f4 (fun u _ hu => .inl (.inr (by have hu' : h1.2.1 ≤ u := hu; omega)))
  have f5 := cf_put2 (a := k) (x := pm_o 4 [.ref h.2.1, .ref h1.2.1]) X0.1 F4 e4 (by rw [ok4]; exact hg) (.inl (.inl ok4)) rfl
  have g5 : cF G (· = k) h4 o4 (pm_put h4 k (pm_o 4 [.ref h.2.1, .ref h1.2.1])) o4 0 0 := cf_put F4.1 e4 (by rw [ok4]; exact hg) ok4 rfl
  refine ps_s_pf p6_26 e4 (by omega) rfl (ps_blt rfl) ?_
  refine ps_s_rv p6_29 t6 ?_
  exact K _ o4 h.2.1 h1.2.1 f5 ⟨pp_eq, hg, ok4⟩ (al_fr A4 g5 (by omega)) (rw_fr r2 g5 (by omega)) (Nat.le_refl _) hsz
end XNW
