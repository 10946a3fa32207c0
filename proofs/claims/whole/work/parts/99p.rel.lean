/-! The law's invariant: the class and the reference hold one state. -/
def rL (m r0 tw df dc bf cn nn li : Nat) (P : Int32) (sz pl : Nat) (aD aK aL aT aS aX aM aC aN aO aQ aB aV aH : Nat → Nat) : List pm_C := [pm_o 9 [iN r0, iN tw, iN df, .ref (m + 1), iN dc, iN bf, .ref (m + 2), .ref (m + 3), .ref (m + 4), .ref (m + 5), .ref (m + 6), .ref (m + 7), .ref (m + 8), iN cn, .ref (m + 9), iN nn, iN li, .int P, .ref (m + 10), iN sz, iN pl, .ref (m + 11), .ref (m + 12), .ref (m + 13), .ref (m + 14)], pm_a 0 8 (fun j => Int32.ofNat (aD j)), pm_a 0 200 (fun j => Int32.ofNat (aK j)), pm_a 0 200 (fun j => Int32.ofNat (aL j)), pm_a 0 1600 (fun j => Int32.ofNat (aT j)), pm_a 0 200 (fun j => Int32.ofNat (aS j)), pm_a 1 200 (fun j => Int32.ofNat (aX j)), pm_a 1 200 (fun j => Int32.ofNat (aM j)), pm_a 1 200 (fun j => Int32.ofNat (aC j)), pm_a 0 12 (fun j => Int32.ofNat (aN j)), pm_a 0 1400 (fun j => Int32.ofNat (aO j)), pm_a 0 120 (fun j => Int32.ofNat (aQ j)), pm_a 0 8 (fun j => Int32.ofNat (aB j)), pm_a 0 8 (fun j => Int32.ofNat (aV j)), pm_a 0 9 (fun j => Int32.ofNat (aH j))]
theorem rL_kd (m r0 tw df dc bf cn nn li : Nat) (P : Int32) (sz pl : Nat) (aD aK aL aT aS aX aM aC aN aO aQ aB aV aH : Nat → Nat) : (rL m r0 tw df dc bf cn nn li P sz pl aD aK aL aT aS aX aM aC aN aO aQ aB aV aH).map kd = rKs := rfl
theorem rL_rf (h : pm_S) (m r0 tw df dc bf cn nn li : Nat) (P : Int32) (sz pl : Nat) (aD aK aL aT aS aX aM aC aN aO aQ aB aV aH : Nat → Nat) : rf_k h m (rL m r0 tw df dc bf cn nn li P sz pl aD aK aL aT aS aX aM aC aN aO aQ aB aV aH) = rf h m r0 tw df dc bf cn nn li P sz pl aD aK aL aT aS aX aM aC aN aO aQ aB aV aH := rfl
def rel (k room nn : Nat) (pw : Option Nat) (ts : List Nat) (ps : List (Nat × List Nat)) (bx : List (Nat × pD)) (Ss : List cS) (Lb : List Nat) (dc li sz : Nat) (aD aK aL aT aS aX aM aC aN aO aQ aB aV aH : Nat → Nat) : Prop :=
  (nn ≤ k ∧ sz ≤ 1400 ∧ (∀ j, aC j ≤ 1)) ∧ (∀ p, pw = some p → p < 2147483648) ∧ (ts.length ≤ 8 ∧ sl aD 0 ts.length = ts ∧ ∀ j, aD j < 16) ∧
  (ps.length ≤ 8 ∧ (∀ j, aB j ≤ 15) ∧ (∀ j, aV j ≤ 8) ∧ (∀ j, aQ j < 100) ∧ ∀ j p, ps[j]? = some p → sl (fun k => aQ (15 * j + k)) 0 (aB j) = p.2 ∧ aB j + 1 = 2 * aV j ∧ aV j = lv p.2 ∧ wfM 0 p.2) ∧
  (rS (Ss.map gS) dc Ss.length aK aL aT aS aX aM aN ∧ rB (bx.map (·.2.1)) dc bx.length aK aL aT aS aX aM) ∧ (Lb = if li = 1 then lG 0 (Ss.map gS) else []) ∧ inv li room (Ss.map gS) (bx.map (·.2))
/-- the invariant behind k calls -/
def lJ (G : pm_G) (b nb : Nat) (xs : Nat → Int32) (x m ou k : Nat) (h : pm_S) : Prop :=
  ∃ (o : Nat → Nat) (dr pi pg ba kD lD rD kP lP rP room nn : Nat) (pw : Option Nat) (ts : List Nat) (ps : List (Nat × List Nat)) (bx : List (Nat × pD)) (Ss : List cS) (Lb : List Nat) (tw dc li sz : Nat) (aD aK aL aT aS aX aM aC aN aO aQ aB aV aH : Nat → Nat),
    (cX G o h x dr pi pg ba kD lD rD kP lP rP room nn pw ts ps bx Ss Lb) ∧ lS G o h m ou b nb xs (rL m room tw ts.length dc bx.length Ss.length (nn + 1) li (pwI pw) sz ps.length aD aK aL aT aS aX aM aC aN aO aQ aB aV aH) ∧ (rel k room nn pw ts ps bx Ss Lb dc li sz aD aK aL aT aS aX aM aC aN aO aQ aB aV aH) ∧ h.2.1 ≤ G.1 + 100 + 1160 * k ∧ h.2.2 ≤ 10000 + 14200 * k
section LRL
variable {G : pm_G} {o : Nat → Nat} {h : pm_S} {x dr pi pg ba kD lD rD kP lP rP room nn : Nat} {pw : Option Nat} {ts : List Nat} {ps : List (Nat × List Nat)} {bx : List (Nat × pD)} {Ss : List cS} {Lb : List Nat} {Q : pm_Q}
variable {m tw dc li sz k ou b nb : Nat} {xs : Nat → Int32} {aD aK aL aT aS aX aM aC aN aO aQ aB aV aH : Nat → Nat}
theorem ls_M {G : pm_G} {h : pm_S} {o : Nat → Nat} {z n : Nat} {as : List Value} {Q : pm_Q} {L : List pm_C} (S : lS G o h m ou b nb xs L) (K : ps_M G n z as (rf_k h m L) Q) : ps_M G n z as h Q := by
  rw [S.1] at K
  exact K
theorem ls_mo {r0 df bf cn pl : Nat} {P : Int32} (S : lS G o h m ou b nb xs (rL m r0 tw df dc bf cn nn li P sz pl aD aK aL aT aS aX aM aC aN aO aQ aB aV aH)) : ∃ fs, h.1 m = some (pm_o 9 fs) := by
  have := S.1
  rw [rL_rf] at this
  exact ⟨_, (congrArg (fun s : pm_S => s.1 m) this).symm.trans rf_o⟩
theorem lj_mk (X : (cX G o h x dr pi pg ba kD lD rD kP lP rP room nn pw ts ps bx Ss Lb)) (S : lS G o h m ou b nb xs (rL m room tw ts.length dc bx.length Ss.length (nn + 1) li (pwI pw) sz ps.length aD aK aL aT aS aX aM aC aN aO aQ aB aV aH)) (E : (rel k room nn pw ts ps bx Ss Lb dc li sz aD aK aL aT aS aX aM aC aN aO aQ aB aV aH)) (h1 : h.2.1 ≤ G.1 + 100 + 1160 * k) (h2 : h.2.2 ≤ 10000 + 14200 * k) : lJ G b nb xs x m ou k h := ⟨o, dr, pi, pg, ba, kD, lD, rD, kP, lP, rP, room, nn, pw, ts, ps, bx, Ss, Lb, tw, dc, li, sz, aD, aK, aL, aT, aS, aX, aM, aC, aN, aO, aQ, aB, aV, aH, X, S, E, h1, h2⟩
theorem rel_k {k' : Nat} (E : (rel k room nn pw ts ps bx Ss Lb dc li sz aD aK aL aT aS aX aM aC aN aO aQ aB aV aH)) (hk : k ≤ k') : (rel k' room nn pw ts ps bx Ss Lb dc li sz aD aK aL aT aS aX aM aC aN aO aQ aB aV aH) := ⟨⟨Nat.le_trans E.1.1 hk, E.1.2⟩, E.2⟩
end LRL
