/-! The law's store: the reference's cells, the out array and the script beside the class's. -/
theorem rk_idem {h : pm_S} {m : Nat} {L L' : List pm_C} (hl : L.length = L'.length) : rf_k (rf_k h m L) m L' = rf_k h m L' := by
  unfold rf_k
  refine Prod.ext (funext fun a => ?_) rfl
  dsimp only
  by_cases q : m ≤ a ∧ a < m + L'.length
  · rw [if_pos q, if_pos q]
  · rw [if_neg q, if_neg q, if_neg (by rw [hl]; exact q)]
theorem rk_get {h : pm_S} {m k : Nat} {L : List pm_C} (hR : rf_k h m L = h) (hk : k < L.length) : h.1 (m + k) = L[k]? := by
  have := rf_k_get (h0 := h) (m := m) hk
  rw [hR] at this
  exact this
theorem rk_ne {h : pm_S} {m a : Nat} {L : List pm_C} (hn : ¬ (m ≤ a ∧ a < m + L.length)) : (rf_k h m L).1 a = h.1 a := by
  unfold rf_k
  exact if_neg hn
theorem rk_keep {h h' : pm_S} {m : Nat} {L : List pm_C} (hR : rf_k h m L = h) (hk : ∀ k, k < L.length → h'.1 (m + k) = h.1 (m + k)) : rf_k h' m L = h' := by
  unfold rf_k
  refine Prod.ext (funext fun a => ?_) rfl
  dsimp only
  by_cases q : m ≤ a ∧ a < m + L.length
  · rw [if_pos q]
    obtain ⟨k, rfl⟩ : ∃ k, a = m + k := ⟨a - m, by omega⟩
    rw [hk k (by omega), rk_get hR (by omega), Nat.add_sub_cancel_left]
  · rw [if_neg q]
/-- the kinds of the reference's cells -/
def rKs : List Nat := [10, 0, 0, 0, 0, 0, 0, 0, 0, 0, 0, 0, 0, 0, 0]
/-- the reference's cells L at m, the out array, the script -/
def lS (G : pm_G) (o : Nat → Nat) (h : pm_S) (m ou b nb : Nat) (xs : Nat → Int32) (L : List pm_C) : Prop :=
  rf_k h m L = h ∧ L.map kd = rKs ∧ (∀ k, k < 15 → o (m + k) = m) ∧ G.1 ≤ m ∧ ((∃ g, h.1 ou = some (pm_l 1 g)) ∧ o ou = ou ∧ G.1 ≤ ou) ∧ h.1 b = some (pm_a 0 nb xs) ∧ o b < G.1
theorem rKs_len {L : List pm_C} (h : L.map kd = rKs) : L.length = 15 := by
  have := congrArg List.length h
  rw [List.length_map] at this
  exact this
section LST
variable {G : pm_G} {P : Nat → Prop} {h h' : pm_S} {o o' : Nat → Nat} {c s m ou b nb : Nat} {xs : Nat → Int32} {L L' : List pm_C}
theorem ls_m (S : lS G o h m ou b nb xs L) : cK h m 10 := by
  obtain ⟨a1, a2, a3, a4, a5, a6⟩ := S
  have hl := rKs_len a2
  have := rk_get (k := 0) a1 (by omega)
  rw [Nat.add_zero, List.getElem?_eq_getElem (by omega)] at this
  refine ⟨_, this, ?_⟩
  have e : (L.map kd)[0]? = rKs[0]? := by rw [a2]
  rw [List.getElem?_map, List.getElem?_eq_getElem (by omega)] at e
  exact Option.some.inj e
/-- the class's units changed -/
theorem ls_cu (S : lS G o h m ou b nb xs L) (F : cF G P h o h' o' c s) (hm : ¬ P m) (ho : ¬ P ou) : lS G o' h' m ou b nb xs L := by
  obtain ⟨a1, a2, a3, a4, ⟨⟨g, a5⟩, a6, a7⟩, a8, a9⟩ := S
  have hl := rKs_len a2
  have gt : ∀ k, k < 15 → ∃ v, h.1 (m + k) = some v := fun k hk => ⟨_, (rk_get a1 (by omega)).trans (List.getElem?_eq_getElem (by omega))⟩
  refine ⟨rk_keep a1 (fun k hk => ?_), a2, fun k hk => ?_, a4, ⟨⟨g, cf_get F a5 (by rw [a6]; exact ho)⟩, by rw [cf_own F a5]; exact a6, a7⟩, cf_low F a8 a9, by rw [cf_own F a8]; exact a9⟩
  · obtain ⟨v, hv⟩ := gt k (by omega)
    rw [hv]
    exact cf_get F hv (by rw [a3 k (by omega)]; exact hm)
  · obtain ⟨v, hv⟩ := gt k hk
    rw [cf_own F hv]
    exact a3 k hk
theorem ls_U (S : lS G o h m ou b nb xs L) (F : cF G (cU h) h o h' o' c s) : lS G o' h' m ou b nb xs L := by
  refine ls_cu S F ?_ ?_
  · rintro ⟨v, e1, e2, e3⟩
    obtain ⟨v', e4, e5⟩ := ls_m S
    rw [e1] at e4
    cases e4
    omega
  · rintro ⟨v, e1, e2, e3⟩
    obtain ⟨_, _, _, _, ⟨⟨g, a5⟩, _⟩, _⟩ := S
    rw [a5] at e1
    cases e1
    exact absurd e2 (by show ¬ 1 ≤ 0; omega)
/-- the reference's cells changed -/
theorem ls_r (w : cW h o) (S : lS G o h m ou b nb xs L) (hk : L'.map kd = rKs) : lS G o (rf_k h m L') m ou b nb xs L' ∧ cF G (· = m) h o (rf_k h m L') o 0 0 := by
  have S0 := S
  obtain ⟨a1, a2, a3, a4, ⟨⟨g, a5⟩, a6, a7⟩, a8, a9⟩ := S
  have hl := rKs_len a2
  have hl' := rKs_len hk
  have gt : ∀ k, k < 15 → ∃ v, h.1 (m + k) = some v := fun k hk => ⟨_, (rk_get a1 (by omega)).trans (List.getElem?_eq_getElem (by omega))⟩
  have F : cF G (· = m) h o (rf_k h m L') o 0 0 := by
    refine ⟨⟨fun z hz => ?_, fun z v ez => ?_⟩, Nat.le_refl _, Nat.le_refl _, Nat.le_refl _, fun z hz ez => ?_, fun z v ez => ⟨rfl, ?_, fun hn => ?_⟩⟩
    · have hz' : h.2.1 ≤ z := hz
      have : ¬ (m ≤ z ∧ z < m + L'.length) := fun q => by
        obtain ⟨v, hv⟩ := gt (z - m) (by omega)
        rw [show m + (z - m) = z by omega, w.1 z hz'] at hv
        cases hv
      rw [rk_ne this]
      exact w.1 z hz'
    · by_cases q : m ≤ z ∧ z < m + L'.length
      · obtain ⟨v', hv⟩ := gt (z - m) (by omega)
        rw [show m + (z - m) = z by omega] at hv
        exact w.2 z v' hv
      · rw [rk_ne q] at ez
        exact w.2 z v ez
    · have : ¬ (m ≤ z ∧ z < m + L'.length) := fun q => by
        obtain ⟨v, hv⟩ := gt (z - m) (by omega)
        rw [show m + (z - m) = z by omega, ez] at hv
        cases hv
      rw [rk_ne this]
      exact ez
    · by_cases q : m ≤ z ∧ z < m + L'.length
      · obtain ⟨k, rfl⟩ : ∃ k, z = m + k := ⟨z - m, by omega⟩
        have e1 : L'[k]? = some L'[k] := List.getElem?_eq_getElem (by omega)
        refine ⟨L'[k], (rf_k_get (by omega)).trans e1, ?_⟩
        have e2 := rk_get (k := k) a1 (by omega)
        rw [ez] at e2
        have e3 : (L.map kd)[k]? = (L'.map kd)[k]? := by rw [a2, hk]
        rw [List.getElem?_map, List.getElem?_map, ← e2, e1] at e3
        exact (Option.some.inj e3).symm
      · exact ⟨v, by rw [rk_ne q]; exact ez, rfl⟩
    · by_cases q : m ≤ z ∧ z < m + L'.length
      · obtain ⟨k, rfl⟩ : ∃ k, z = m + k := ⟨z - m, by omega⟩
        have := a3 k (by omega)
        rcases hn with hn | hn
        · omega
        · exact absurd this hn
      · rw [rk_ne q]; exact ez
  refine ⟨⟨rk_idem (rfl), hk, a3, a4, ⟨⟨g, cf_get F a5 ?_⟩, a6, a7⟩, cf_low F a8 a9, a9⟩, F⟩
  intro q
  obtain ⟨v', e4, e5⟩ := ls_m S0
  rw [a6] at q
  rw [q, e4] at a5
  cases a5
  exact absurd e5 (by show ¬ (0 = 10); omega)
/-- the out array is written -/
theorem ls_o {g g' : Nat → Int64} (w : cW h o) (S : lS G o h m ou b nb xs L) (e : h.1 ou = some (pm_l 1 g)) : lS G o (pm_put h ou (pm_l 1 g')) m ou b nb xs L ∧ cF G (· = ou) h o (pm_put h ou (pm_l 1 g')) o 0 0 := by
  have S0 := S
  obtain ⟨a1, a2, a3, a4, ⟨_, a6, a7⟩, a8, a9⟩ := S
  have F : cF G (· = ou) h o (pm_put h ou (pm_l 1 g')) o 0 0 := cf_put w e (by rw [a6]; exact a7) a6 rfl
  have hmo : m ≠ ou := fun q => by
    obtain ⟨v', e4, e5⟩ := ls_m S0
    rw [q, e] at e4
    cases e4
    exact absurd e5 (by show ¬ (0 = 10); omega)
  have hl := rKs_len a2
  have gt : ∀ k, k < 15 → ∃ v, h.1 (m + k) = some v := fun k hk => ⟨_, (rk_get a1 (by omega)).trans (List.getElem?_eq_getElem (by omega))⟩
  refine ⟨⟨rk_keep a1 (fun k hk => ?_), a2, a3, a4, ⟨⟨g', pp_eq⟩, a6, a7⟩, cf_low F a8 a9, a9⟩, F⟩
  obtain ⟨v, hv⟩ := gt k (by omega)
  rw [hv]
  exact cf_get F hv (by rw [a3 k (by omega)]; exact hmo)
end LST
section LSX
variable {G : pm_G} {o : Nat → Nat} {h : pm_S} {x dr pi pg ba kD lD rD kP lP rP room nn : Nat} {pw : Option Nat} {ts : List Nat} {ps : List (Nat × List Nat)} {bx : List (Nat × pD)} {Ss : List cS} {Lb : List Nat} {Q : pm_Q}
variable {h1 : pm_S} {c s m ou b nb : Nat} {xs : Nat → Int32} {L : List pm_C}
theorem cx_r (X : (cX G o h x dr pi pg ba kD lD rD kP lP rP room nn pw ts ps bx Ss Lb)) (S : lS G o h m ou b nb xs L) (F : cF G (· = m) h o h1 o c s) : (cX G o (h1) x dr pi pg ba kD lD rD kP lP rP room nn pw ts ps bx Ss Lb) := by
  obtain ⟨⟨k1, k2, k3, k4, k5⟩, ⟨k6, k7, k8⟩, ⟨k9, k10, k11⟩, KS, KB⟩ := cx_K X
  have km := ls_m S
  obtain ⟨Y0, Y2, Y3, Y4, Y5, Y6, Y7, Y8⟩ := cx_one X F km (by decide)
  exact ⟨Y0, Y2 (kne k1 km (by decide)), Y3 (kne k2 km (by decide)), Y4 (kne k3 km (by decide)), Y5 (kne k4 km (by decide)), Y6 (kne k5 km (by decide)), Y7 (kne k6 km (by decide)) (kne k7 km (by decide)) (kne k8 km (by decide)) (fun S hS => ⟨kne (KS S hS).2.1 km (by decide), kne (KS S hS).2.2.1 km (by decide)⟩), Y8 (kne k9 km (by decide)) (kne k10 km (by decide)) (kne k11 km (by decide)), X.2.2.2.2.2.2.2.2⟩
theorem cx_o {g : Nat → Int64} (X : (cX G o h x dr pi pg ba kD lD rD kP lP rP room nn pw ts ps bx Ss Lb)) (e : h.1 ou = some (pm_l 1 g)) (F : cF G (· = ou) h o h1 o c s) : (cX G o (h1) x dr pi pg ba kD lD rD kP lP rP room nn pw ts ps bx Ss Lb) := by
  obtain ⟨⟨k1, k2, k3, k4, k5⟩, ⟨k6, k7, k8⟩, ⟨k9, k10, k11⟩, KS, KB⟩ := cx_K X
  have km : cK h ou 0 := ⟨_, e, rfl⟩
  obtain ⟨Y0, Y2, Y3, Y4, Y5, Y6, Y7, Y8⟩ := cx_one X F km (by decide)
  exact ⟨Y0, Y2 (kne k1 km (by decide)), Y3 (kne k2 km (by decide)), Y4 (kne k3 km (by decide)), Y5 (kne k4 km (by decide)), Y6 (kne k5 km (by decide)), Y7 (kne k6 km (by decide)) (kne k7 km (by decide)) (kne k8 km (by decide)) (fun S hS => ⟨kne (KS S hS).2.1 km (by decide), kne (KS S hS).2.2.1 km (by decide)⟩), Y8 (kne k9 km (by decide)) (kne k10 km (by decide)) (kne k11 km (by decide)), X.2.2.2.2.2.2.2.2⟩
end LSX
