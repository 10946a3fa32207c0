/-! The shelf: how its parts stay when one unit changes. -/
def cK (h : pm_S) (u n : Nat) : Prop := ∃ c, h.1 u = some c ∧ kd c = n
theorem kne {h : pm_S} {u v n m : Nat} (a : cK h u n) (b : cK h v m) (e : n ≠ m) : u ≠ v := by
  rintro rfl
  obtain ⟨c, h1, h2⟩ := a
  obtain ⟨c', h3, h4⟩ := b
  rw [h1] at h3
  cases h3
  omega
section XFR
variable {G : pm_G} {o : Nat → Nat} {h : pm_S} {x dr pi pg ba kD lD rD kP lP rP room nn : Nat} {pw : Option Nat} {ts : List Nat} {ps : List (Nat × List Nat)} {bx : List (Nat × pD)} {Ss : List cS} {Lb : List Nat} {Q : pm_Q}
variable {P : Nat → Prop} {h1 : pm_S} {o1 : Nat → Nat} {c s u n : Nat}
theorem g0_fr (X : cG0 G o h) (F : cF G P h o h1 o1 c s) : cG0 G o1 h1 := by
  obtain ⟨a1, a2, ⟨fe, a3⟩, a4⟩ := X
  exact ⟨F.1, Nat.le_trans a2 F.2.1, ⟨fe, cf_low F a3 a4⟩, by rw [cf_own F a3]; exact a4⟩
theorem sh_fr (X : cSh G o h x dr pi pg ba kD kP room nn pw) (F : cF G P h o h1 o1 c s) (hp : ¬ P x) : cSh G o1 h1 x dr pi pg ba kD kP room nn pw := by
  obtain ⟨pf, bf, a1, a2, a3, a4⟩ := X
  exact ⟨pf, bf, cf_get F a1 (by rw [a4]; exact hp), a2, a3, by rw [cf_own F a1]; exact a4⟩
theorem dr_fr (X : cDR G o h dr ts) (F : cF G P h o h1 o1 c s) (hp : ¬ P dr) : cDR G o1 h1 dr ts := by
  obtain ⟨b, g, a1, a2, ⟨a3, a4⟩, ⟨a5, a6⟩, a7, a8⟩ := X
  exact ⟨b, g, cf_get F a1 (by rw [a4]; exact hp), cf_get F a2 (by rw [a6]; exact hp), ⟨a3, by rw [cf_own F a1]; exact a4⟩, ⟨a5, by rw [cf_own F a2]; exact a6⟩, a7, a8⟩
theorem pi_fr (X : cPi G o h pi ps) (F : cF G P h o h1 o1 c s) (hp : ¬ P pi) (hk : ∀ u y, P u → h.1 u = some y → kd y ≠ 8 ∧ kd y ≠ 9) : cPi G o1 h1 pi ps :=
  ⟨X.1.elim (fun cap A => ⟨cap, al_fr A F hp⟩), fun p hp => ⟨cq_fr F hk _ _ _ (X.2 p hp).1, (X.2 p hp).2⟩⟩
theorem sg_fr {S : cS} (A : cSG G o h S) (f : cF G P h o h1 o1 c s) (h1' : ¬ P S.1) (h2 : ¬ P S.2.2.1) (h3 : ∀ p ∈ dS S, ¬ P p.1) : cSG G o1 h1 S := by
  obtain ⟨a1, ⟨a2, a3⟩, a4, a5⟩ := A
  exact ⟨cf_get f a1 (by rw [a3]; exact h1'), ⟨a2, by rw [cf_own f a1]; exact a3⟩, ld_fr a4 f h2 h3, a5⟩
theorem dk_fr (X : cDk G o h kD lD rD Ss Lb) (F : cF G P h o h1 o1 c s) (q1 : ¬ P kD) (q2 : ¬ P lD) (q3 : ¬ P rD) (hS : ∀ S ∈ Ss, ¬ P S.1 ∧ ¬ P S.2.2.1 ∧ ¬ P S.2.2.2.1 ∧ ∀ p ∈ dS S, ¬ P p.1) : cDk G o1 h1 kD lD rD Ss Lb := by
  obtain ⟨⟨t1, t2, t3⟩, ⟨cap, A⟩, SS, RR, B⟩ := X
  exact ⟨⟨cf_get F t1 (by rw [t3]; exact q1), t2, by rw [cf_own F t1]; exact t3⟩, ⟨cap, al_fr A F q2⟩, fun S hm => sg_fr (SS S hm) F (hS S hm).1 (hS S hm).2.1 (hS S hm).2.2.2, fun S hm => rw_fr (RR S hm) F (hS S hm).2.2.1, rw_fr B F q3⟩
theorem pl_fr (X : cPl G o h kP lP rP) (F : cF G P h o h1 o1 c s) (q1 : ¬ P kP) (q2 : ¬ P lP) (q3 : ¬ P rP) : cPl G o1 h1 kP lP rP := by
  obtain ⟨⟨t1, t2, t3⟩, ⟨cap, zs, A⟩, L, B⟩ := X
  exact ⟨⟨cf_get F t1 (by rw [t3]; exact q1), t2, by rw [cf_own F t1]; exact t3⟩, ⟨cap, zs, al_fr A F q2⟩, L, rw_fr B F q3⟩
theorem al_K {a cap : Nat} {zs : List Nat} (A : cAL G o h a cap zs) : cK h a 3 := by
  obtain ⟨_, _, fs, e⟩ := al_own A
  exact ⟨_, e, rfl⟩
theorem rw_K {r cap : Nat} {L : List Nat} (A : cRW G o h r cap L) : cK h r 4 := by
  obtain ⟨_, _, fs, e⟩ := rw_own A
  exact ⟨_, e, rfl⟩
theorem dc_K {d : Nat} {D : pD} (A : cDC G o h d D) : cK h d 6 := by
  obtain ⟨_, _, fs, e⟩ := dc_obj A
  exact ⟨_, e, rfl⟩
/-- the kinds of all units -/
theorem cx_K (X : (cX G o h x dr pi pg ba kD lD rD kP lP rP room nn pw ts ps bx Ss Lb)) : (cK h x 1 ∧ cK h dr 2 ∧ cK h pi 3 ∧ cK h pg 4 ∧ cK h ba 3) ∧ (cK h kD 5 ∧ cK h lD 3 ∧ cK h rD 4) ∧ (cK h kP 5 ∧ cK h lP 3 ∧ cK h rP 4) ∧ (∀ S ∈ Ss, cK h S.1 7 ∧ cK h S.2.2.1 3 ∧ cK h S.2.2.2.1 4 ∧ ∀ p ∈ dS S, cK h p.1 6) ∧ ∀ p ∈ bx, cK h p.1 6 := by
  obtain ⟨X0, ⟨pf, bf, x1, _⟩, ⟨e, f, d1, _⟩, ⟨⟨cap, A⟩, A2⟩, ⟨L, R⟩, ⟨⟨cap2, B⟩, B2, _⟩, ⟨T, ⟨cap3, A3⟩, SS, RR, R2⟩, ⟨T2, ⟨cap4, zs, A4⟩, L2, R3⟩, X9⟩ := X
  exact ⟨⟨⟨_, x1, rfl⟩, ⟨_, d1, rfl⟩, al_K A, rw_K R, al_K B⟩, ⟨⟨_, T.1, rfl⟩, al_K A3, rw_K R2⟩, ⟨⟨_, T2.1, rfl⟩, al_K A4, rw_K R3⟩, fun S hS => ⟨⟨_, (SS S hS).1, rfl⟩, (SS S hS).2.2.1.1.elim (fun _ A => al_K A), rw_K (RR S hS), fun p hp => dc_K ((SS S hS).2.2.1.2.1 p hp)⟩, fun p hp => dc_K (B2 p hp)⟩
/-- nothing changes -/
theorem cx_nil (X : (cX G o h x dr pi pg ba kD lD rD kP lP rP room nn pw ts ps bx Ss Lb)) (F : cF G P h o h1 o1 c s) (hP : ∀ u, ¬ P u) : (cX G (o1) (h1) x dr pi pg ba kD lD rD kP lP rP room nn pw ts ps bx Ss Lb) := by
  obtain ⟨X0, X2, X3, X4, ⟨L, X5⟩, X6, X7, X8, X9⟩ := X
  exact ⟨g0_fr X0 F, sh_fr X2 F (hP _), dr_fr X3 F (hP _), pi_fr X4 F (hP _) (fun u _ q => absurd q (hP u)), ⟨L, rw_fr X5 F (hP _)⟩, ld_fr X6 F (hP _) (fun p _ => hP _), dk_fr X7 F (hP _) (hP _) (hP _) (fun S _ => ⟨hP _, hP _, hP _, fun p _ => hP _⟩), pl_fr X8 F (hP _) (hP _) (hP _), X9⟩
/-- one unit changes, no document, segment or query -/
theorem cx_one (X : (cX G o h x dr pi pg ba kD lD rD kP lP rP room nn pw ts ps bx Ss Lb)) (F : cF G (· = u) h o h1 o1 c s) (hu : cK h u n) (hn : n ≠ 6 ∧ n ≠ 7 ∧ n ≠ 8 ∧ n ≠ 9) : cG0 G o1 h1 ∧ (x ≠ u → cSh G o1 h1 x dr pi pg ba kD kP room nn pw) ∧ (dr ≠ u → cDR G o1 h1 dr ts) ∧ (pi ≠ u → cPi G o1 h1 pi ps) ∧ (pg ≠ u → ∃ L, cRW G o1 h1 pg 800 L) ∧ (ba ≠ u → cLD G o1 h1 ba bx) ∧ (kD ≠ u → lD ≠ u → rD ≠ u → (∀ S ∈ Ss, S.2.2.1 ≠ u ∧ S.2.2.2.1 ≠ u) → cDk G o1 h1 kD lD rD Ss Lb) ∧ (kP ≠ u → lP ≠ u → rP ≠ u → cPl G o1 h1 kP lP rP) := by
  obtain ⟨_, _, _, KS, KB⟩ := cx_K X
  obtain ⟨X0, X2, X3, X4, ⟨L, X5⟩, X6, X7, X8, X9⟩ := X
  obtain ⟨cu, e1, e2⟩ := hu
  refine ⟨g0_fr X0 F, sh_fr X2 F, dr_fr X3 F, fun q => pi_fr X4 F q (fun v y hv hy => ?_), fun q => ⟨L, rw_fr X5 F q⟩, fun q => ld_fr X6 F q (fun p hp => kne (KB p hp) ⟨cu, e1, e2⟩ (fun e => hn.1 e.symm)), fun q1 q2 q3 q4 => dk_fr X7 F q1 q2 q3 (fun S hS => ⟨kne (KS S hS).1 ⟨cu, e1, e2⟩ (fun e => hn.2.1 e.symm), (q4 S hS).1, (q4 S hS).2, fun p hp => kne ((KS S hS).2.2.2 p hp) ⟨cu, e1, e2⟩ (fun e => hn.1 e.symm)⟩), pl_fr X8 F⟩
  have hv' : v = u := hv
  subst hv'
  rw [e1] at hy
  cases hy
  exact ⟨fun e => hn.2.2.1 (e2.symm.trans e), fun e => hn.2.2.2 (e2.symm.trans e)⟩
end XFR
/-- the units of the class's side -/
def cU (h : pm_S) : Nat → Prop := fun u => ∃ c, h.1 u = some c ∧ 1 ≤ kd c ∧ kd c ≤ 9
section XUU
variable {G : pm_G} {P : Nat → Prop} {h h1 h2 : pm_S} {o o1 o2 : Nat → Nat} {c s c2 s2 u n : Nat}
theorem cu_K (hu : cK h u n) (h1 : 1 ≤ n) (h9 : n ≤ 9) : cU h u := by
  obtain ⟨c, e1, e2⟩ := hu
  exact ⟨c, e1, by omega, by omega⟩
theorem cu_of (F : cF G P h o h1 o1 c s) (hP : ∀ u, P u → cU h u) : cF G (cU h) h o h1 o1 c s := cf_up F (fun u _ q => hP u q) (Nat.le_refl _) (Nat.le_refl _)
theorem cu_one (F : cF G (· = u) h o h1 o1 c s) (hu : cK h u n) (q1 : 1 ≤ n) (q9 : n ≤ 9) : cF G (cU h) h o h1 o1 c s := cu_of F (fun v hv => by rw [show v = u from hv]; exact cu_K hu q1 q9)
theorem cu_trans (w : cW h o) (F : cF G (cU h) h o h1 o1 c s) (F2 : cF G (cU h1) h1 o1 h2 o2 c2 s2) : cF G (cU h) h o h2 o2 (c + c2) (s + s2) := by
  refine cf_trans w F F2 (fun u _ hu => ?_)
  by_cases hl : h.2.1 ≤ u
  · exact .inr hl
  · left
    obtain ⟨c1, e1, e2, e3⟩ := hu
    cases e : h.1 u with
    | none =>
      have := F.2.2.2.2.1 u (by omega) e
      rw [this] at e1
      cases e1
    | some c0 =>
      obtain ⟨w', e4, e5⟩ := cf_kd F e
      rw [e1] at e4
      cases e4
      exact ⟨c0, e, by omega, by omega⟩
end XUU
