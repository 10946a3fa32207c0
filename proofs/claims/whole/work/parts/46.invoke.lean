/-! Calls that return. -/
theorem pm_cw_code {z : Nat} (h : pm_hw z = []) : pm_cw z = .code (pm_nm z) (pm_byt z) (pm_mx z) (pm_ret z) := by
  unfold pm_cw
  rw [h]
theorem pm_cw_with {z : Nat} (h : pm_hw z ≠ []) : pm_cw z = .codeWith (pm_nm z) (pm_byt z) (pm_mx z) (pm_ret z) (pm_hw z) := by
  unfold pm_cw
  split
  · rename_i h0
    exact absurd h0 h
  · rfl
theorem pm_cw_mv (z : Nat) : pm_mv0 (pm_cw z) = true := by
  by_cases h : pm_hw z = []
  · rw [pm_cw_code h]
    rfl
  · rw [pm_cw_with h]
    rfl
section PMI
variable {D : va_G} {tC : Nat → ClassId} {G : pm_G} {H0 : Heap}
variable {p : Program} {l : Launch} {e : Env} {R : Room} {s : State} {m : MethodId} {args : Array Value} {below : List Frame} {meth : Method} {c : Code} {H : Heap} {locs : List Loc} {cells slots : Nat} {Q : State → Prop}
variable {y pc d z : Nat} {la : Array Slot} {st : List Value} {h h1 : pm_S} {v : Option Value} {as r : List Value}
theorem pm_cwords (hK : pm_Kn D tC G H0 s) (hz : z < 140) : ∀ w ∈ [pm_cw z], ∀ (a' : Array Value) (U : State), s.WarmedH U.vm → w.before a' U = true := by
  intro w hw a' U hW
  rw [List.mem_singleton.mp hw]
  exact (hK.warm hW).word (pm_g1 z hz) (pm_cw_mv z) a'
theorem pm_nsig (hz : z < 142) : ∀ sig, parseMethodDescriptor (pm_nm z).desc = some sig → pm_na z = sig.parameters.length := by
  intro sig hs
  have h2 := (pm_g4 z hz).1
  rw [hs] at h2
  exact (Option.some.inj h2).symm
theorem pm_callB (hK : pm_Kn D tC G H0 s) (hz : z < 140) (hw0 : pm_hw z = []) {o idx : Nat} (hlink : (Cond.methodLink (pm_on o) idx (pm_nm z)).before args s = true) {mc ms : Nat} (hRf : d + 9 ≤ R.frames) (hRl : 64 * d + 264 ≤ R.locals) :
    CallB R s args (pm_on o) idx (pm_nm z) (pm_byt z) (pm_mx z) (pm_ret z) [pm_cw z] (pm_rm d mc ms) mc ms (pm_na z) := by
  have hmx := (pm_g4 z (by omega)).2.2
  refine ⟨rfl, rfl, hRf, ?_, pm_cwords hK hz, ?_, ?_, hK.word (pm_g2 z hz) rfl args, (pm_g4 z (by omega)).2.1, pm_nsig (by omega), hlink⟩
  · show 8 + (pm_mx z + 11) + (64 * d + 200) ≤ R.locals
    omega
  · rw [pm_cw_code hw0]
    exact List.mem_singleton.mpr rfl
  · have := hK.word (pm_g1 z hz) (pm_cw_mv z) args
    rw [pm_cw_code hw0] at this
    exact this
theorem pm_preS (hK : pm_Kn D tC G H0 s) (hh : pm_H D tC H0 s h H) (as : List Value) : PreS s H (pm_Pc D tC G H0 as h) as := ⟨pm_blind, fun U hU hW => ⟨rfl, hK.warm hW, by rw [hU]; exact hh.moved hW.alike⟩⟩
theorem pm_s_static (hx : p.tables.exec = Jvm.exec) (hb : c.code = pm_byt y) (hml : c.maxLocals = la.size) (hown : s.vm.findClass (pm_on (pm_own y)) = some m.cls) (hK : pm_Kn D tC G H0 s) (hh : pm_H D tC H0 s h H) (hl : ∀ q ∈ locs, H0.size ≤ q.base) {idx : Nat} (hd : decode (pm_byt y) pc = .ok (.invokestatic idx, 3)) (hm : pm_ms (pm_own y) idx = some z) (hw0 : pm_hw z = [])
    (hM : pm_Met l D tC G H0 d z as h (.inl v) h1) (hRf : d + 9 ≤ R.frames) (hRl : 64 * d + 264 ≤ R.locals) (hst : st = as.reverse ++ r) (hna : as.length = pm_na z) (hwd : pm_wid r ≤ 8) (hcap : cells + (h1.2.1 - h.2.1) ≤ R.cells ∧ slots + (h1.2.2 - h.2.2) ≤ R.slots)
    (kk : ∀ (H' : Heap) (locs' : List Loc), pm_H D tC H0 s h1 H' → (∀ q ∈ locs', H0.size ≤ q.base) → W p l e R s m args below meth c H' locs' (cells + (h1.2.1 - h.2.1)) (slots + (h1.2.2 - h.2.2)) Q (F0 m (pc + 3) la (v.toList ++ r))) : W p l e R s m args below meth c H locs cells slots Q (F0 m pc la st) := by
  obtain ⟨en, g1, g2, g3⟩ := pm_row hm
  obtain ⟨hz, w1, w2⟩ := pm_g5 _ g3 _ g1
  have g2' : en.1 = z := g2
  dsimp only at hz w1 w2
  rw [g2'] at hz w1 w2
  subst hst
  exact pm_cont (va_runS (Ts := []) ⟨hx, hb, hml, hown, fun _ z => by cases z⟩ hM.ret ⟨pm_callB hK hz hw0 (hK.word w1 rfl args) hRf hRl, hK.word w2 rfl args⟩ (pm_preS hK hh as) rfl hna rfl rfl (lv_room hwd) hd hcap) hl kk
theorem pm_s_special (hx : p.tables.exec = Jvm.exec) (hb : c.code = pm_byt y) (hml : c.maxLocals = la.size) (hown : s.vm.findClass (pm_on (pm_own y)) = some m.cls) (hK : pm_Kn D tC G H0 s) (hh : pm_H D tC H0 s h H) (hl : ∀ q ∈ locs, H0.size ≤ q.base) {idx b : Nat} (hd : decode (pm_byt y) pc = .ok (.invokespecial idx, 3)) (hm : pm_mi (pm_own y) idx = some z)
    (hM : pm_Met l D tC G H0 d z (.ref b :: as) h (.inl v) h1) (hRf : d + 9 ≤ R.frames) (hRl : 64 * d + 264 ≤ R.locals) (hst : st = as.reverse ++ .ref b :: r) (hna : as.length = pm_na z) (hwd : pm_wid r ≤ 8) (hcap : cells + (h1.2.1 - h.2.1) ≤ R.cells ∧ slots + (h1.2.2 - h.2.2) ≤ R.slots)
    (kk : ∀ (H' : Heap) (locs' : List Loc), pm_H D tC H0 s h1 H' → (∀ q ∈ locs', H0.size ≤ q.base) → W p l e R s m args below meth c H' locs' (cells + (h1.2.1 - h.2.1)) (slots + (h1.2.2 - h.2.2)) Q (F0 m (pc + 3) la (v.toList ++ r))) : W p l e R s m args below meth c H locs cells slots Q (F0 m pc la st) := by
  obtain ⟨en, g1, g2, g3⟩ := pm_row hm
  obtain ⟨hz, w1, w2, w3, w4, w5⟩ := pm_g6 _ g3 _ g1
  have g2' : en.1 = z := g2
  dsimp only at hz w1 w2 w3 w4 w5
  rw [g2'] at hz w1 w2 w3 w4 w5
  subst hst
  have hmx := (pm_g4 z (by omega)).2.2
  split at w5
  · have hcode : (Cond.code (pm_nm z) (pm_byt z) (pm_mx z) none).before args s = true := by
      have := hK.word (pm_g1 z hz) (pm_cw_mv z) args
      rw [pm_cw_code w3, w2] at this
      exact this
    refine pm_cont (va_runIN (Ts := []) (host := "PostingShelf") (bytes := pm_byt z) (maxL := pm_mx z) ⟨hx, hb, hml, hown, fun _ z => by cases z⟩ hM.ret ⟨⟨⟨rfl, rfl, hRf, ?_, pm_cwords hK hz, ?_⟩, hcode, hK.word (pm_g2 z hz) rfl args, (pm_g4 z (by omega)).2.1, pm_nsig (by omega), hK.word w5 rfl args⟩, w1, hK.word w4 rfl args⟩ (pm_preS hK hh (.ref b :: as)) rfl hna rfl rfl (lv_room hwd) hd hcap) hl kk
    · show 8 + (pm_mx z + 11) + (64 * d + 200) ≤ R.locals
      omega
    · rw [pm_cw_code w3, w2]
      exact List.mem_singleton.mpr rfl
  · have hB := pm_callB (d := d) (R := R) (mc := h1.2.1 - h.2.1) (ms := h1.2.2 - h.2.2) hK hz w3 (hK.word w5 rfl args) hRf hRl
    rw [w2] at hB
    exact pm_cont (va_runI (Ts := []) ⟨hx, hb, hml, hown, fun _ z => by cases z⟩ hM.ret ⟨hB, w1, hK.word w4 rfl args⟩ (pm_preS hK hh (.ref b :: as)) rfl hna rfl rfl (lv_room hwd) hd hcap) hl kk
theorem pm_s_virtual (hx : p.tables.exec = Jvm.exec) (hb : c.code = pm_byt y) (hml : c.maxLocals = la.size) (hown : s.vm.findClass (pm_on (pm_own y)) = some m.cls) (hK : pm_Kn D tC G H0 s) (hh : pm_H D tC H0 s h H) (hl : ∀ q ∈ locs, H0.size ≤ q.base) {idx b x ci : Nat} {fs : List Value} (hd : decode (pm_byt y) pc = .ok (.invokevirtual idx, 3)) (hm : pm_mv (pm_own y) idx = some x) (hbo : h.1 b = some (pm_o ci fs)) (hsel : pm_sel ci x = some z)
    (hM : pm_Met l D tC G H0 d z (.ref b :: as) h (.inl v) h1) (hRf : d + 9 ≤ R.frames) (hRl : 64 * d + 264 ≤ R.locals) (hst : st = as.reverse ++ .ref b :: r) (hna : as.length = pm_na x) (hwd : pm_wid r ≤ 8) (hcap : cells + (h1.2.1 - h.2.1) ≤ R.cells ∧ slots + (h1.2.2 - h.2.2) ≤ R.slots)
    (kk : ∀ (H' : Heap) (locs' : List Loc), pm_H D tC H0 s h1 H' → (∀ q ∈ locs', H0.size ≤ q.base) → W p l e R s m args below meth c H' locs' (cells + (h1.2.1 - h.2.1)) (slots + (h1.2.2 - h.2.2)) Q (F0 m (pc + 3) la (v.toList ++ r))) : W p l e R s m args below meth c H locs cells slots Q (F0 m pc la st) := by
  obtain ⟨en, g1, g2, g3⟩ := pm_row hm
  obtain ⟨hx2, w1⟩ := pm_g7 _ g3 _ g1
  have g2' : en.1 = x := g2
  dsimp only at hx2 w1
  rw [g2'] at hx2 w1
  unfold pm_sel at hsel
  cases hs : pm_selL.lookup (ci, x) with
  | none => rw [hs] at hsel; cases hsel
  | some q =>
    rw [hs] at hsel
    have hq : q.1 = z := Option.some.inj hsel
    obtain ⟨hci, hz, hw0, hnn, w2, w3, w4⟩ := pm_g8 _ (pm_lk2 hs)
    dsimp only at hci hz hw0 hnn w2 w3 w4
    rw [hq] at hz hw0 hnn w2 w3 w4
    obtain ⟨-, hrc⟩ := pm_recv hK hh hbo
    have hpre : PreV s H (pm_cn ci) b (pm_Pc D tC G H0 (.ref b :: as) h) as := ⟨pm_blind, hrc, (pm_preS hK hh (.ref b :: as)).2⟩
    subst hst
    rcases w4 with w4 | ⟨w4, w5⟩
    · subst w4
      exact pm_cont (va_runV (Ts := []) (C := pm_cn ci) ⟨hx, hb, hml, hown, fun _ z => by cases z⟩ hM.ret ⟨pm_callB hK hz hw0 (hK.word w1 rfl args) hRf hRl, hK.word w3 rfl args, hK.word w2 rfl args⟩ hpre rfl hna rfl rfl (lv_room hwd) hd hcap) hl kk
    · have hmx := (pm_g4 z (by omega)).2.2
      have hcode : (Cond.code (pm_nm z) (pm_byt z) (pm_mx z) (pm_ret z)).before args s = true := by
        have := hK.word (pm_g1 z hz) (pm_cw_mv z) args
        rw [pm_cw_code hw0] at this
        exact this
      refine pm_cont (va_runU (Ts := []) (C := pm_cn ci) (owner := (pm_nm x).cls) (bytes := pm_byt z) (maxL := pm_mx z) (ret := pm_ret z) ⟨hx, hb, hml, hown, fun _ z => by cases z⟩ hM.ret ⟨⟨rfl, rfl, hRf, ?_, pm_cwords hK hz, ?_⟩, hcode, hK.word (pm_g2 z hz) rfl args, (pm_g4 x hx2).2.1, pm_nsig hx2, hK.word w1 rfl args, hK.word w5 rfl args, va_Decl.abs (hK.word w4 rfl #[]), hK.word w2 rfl args, hK.word w3 rfl args⟩ hpre rfl hna rfl rfl (lv_room hwd) hd hcap) hl kk
      · show 8 + (pm_mx z + 11) + (64 * d + 200) ≤ R.locals
        omega
      · rw [pm_cw_code hw0]
        exact List.mem_singleton.mpr rfl
/-- a static method with an exception table, called, and it returns -/
theorem pm_s_staticW (hx : p.tables.exec = Jvm.exec) (hb : c.code = pm_byt y) (hml : c.maxLocals = la.size) (hown : s.vm.findClass (pm_on (pm_own y)) = some m.cls) (hK : pm_Kn D tC G H0 s) (hh : pm_H D tC H0 s h H) (hl : ∀ q ∈ locs, H0.size ≤ q.base) {idx : Nat} (hd : decode (pm_byt y) pc = .ok (.invokestatic idx, 3)) (hm : pm_ms (pm_own y) idx = some z) (hw0 : pm_hw z ≠ [])
    (hM : pm_Met l D tC G H0 d z as h (.inl v) h1) (hRf : d + 9 ≤ R.frames) (hRl : 64 * d + 264 ≤ R.locals) (hst : st = as.reverse ++ r) (hna : as.length = pm_na z) (hwd : pm_wid r ≤ 8) (hcap : cells + (h1.2.1 - h.2.1) ≤ R.cells ∧ slots + (h1.2.2 - h.2.2) ≤ R.slots)
    (kk : ∀ (H' : Heap) (locs' : List Loc), pm_H D tC H0 s h1 H' → (∀ q ∈ locs', H0.size ≤ q.base) → W p l e R s m args below meth c H' locs' (cells + (h1.2.1 - h.2.1)) (slots + (h1.2.2 - h.2.2)) Q (F0 m (pc + 3) la (v.toList ++ r))) : W p l e R s m args below meth c H locs cells slots Q (F0 m pc la st) := by
  obtain ⟨en, g1, g2, g3⟩ := pm_row hm
  obtain ⟨hz, w1, w2⟩ := pm_g5 _ g3 _ g1
  have g2' : en.1 = z := g2
  dsimp only at hz w1 w2
  rw [g2'] at hz w1 w2
  subst hst
  have hmx := (pm_g4 z (by omega)).2.2
  have hini : (Cond.initialized (pm_nm z).cls).before args s = true := hK.word (pm_g2 z hz) rfl args
  have hB : Back l R p e below s args (pm_nm z) 3 8 (PreOf R (h1.2.1 - h.2.1) (h1.2.2 - h.2.2) (pm_Pc D tC G H0 as h)) (PostOf (pm_Qc D tC G H0 (.inl v) h1) (h1.2.1 - h.2.1) (h1.2.2 - h.2.2) (fun q => H0.size ≤ q)) := by
    refine va_backW (hh := pm_hw z) (bytes := pm_byt z) (maxL := pm_mx z) (ret := pm_ret z) hM.ret pm_blind rfl rfl hRf ?_ (pm_cwords hK hz) ?_ (fun a' U hW => word_at hW (Or.inl rfl) hini)
    · show 8 + (pm_mx z + 11) + (64 * d + 200) ≤ R.locals
      omega
    · rw [pm_cw_with hw0]
      exact List.mem_singleton.mpr rfl
  have hcode := hK.word (pm_g1 z hz) (pm_cw_mv z) args
  rw [pm_cw_with hw0] at hcode
  obtain ⟨mk, methM, cM, hnamed, hmethM, -, -, -, -, -, -, hsigM⟩ := Cond.codeWith_spec hcode
  have hstatic : methM.isStatic = true := Cond.static_spec hnamed hmethM (hK.word w2 rfl args)
  obtain ⟨kP, hkP, -⟩ := className_of_methodNamed hnamed
  have hinitP : kP.init = .initialized := Cond.initialized_spec (findClass_of_methodNamed hnamed) hkP hini
  refine pm_cont (G := G) (mc := h1.2.1 - h.2.1) (ms := h1.2.2 - h.2.2) (h1 := h1) (v := v) (a := as.toArray) (rest := r) (fun T hT X => ?_) hl kk
  obtain ⟨vm₁, X₁, hstep₁⟩ := X.invokestatic hx hown (hK.word w1 rfl args) hnamed hmethM hstatic hkP hinitP (pm_g4 z (by omega)).2.1 (g := F0 m pc la (as.reverse ++ r)) rfl (argsL := as) (rest := r) (hna.trans (pm_nsig (by omega) _ hsigM)) rfl (by rw [hb]; exact hd)
  obtain ⟨v', ⟨U', l2, c2, s2⟩, X', ⟨g', mk', t, L, e1, e2, hq, h5, hL, h6, h7⟩, hsteps⟩ := hB m meth c ⟨T.setVm vm₁, locs, cells, slots⟩ { F0 m pc la (as.reverse ++ r) with stack := r } (.invokestatic idx) mk as.toArray X₁ rfl hml.symm (by rw [hb]; exact hd) (lv_room (rest := r) hwd) (X₁.named hnamed) ⟨hcap.1, hcap.2, (pm_preS hK hh as).2 _ hT X₁.warmed⟩
  dsimp only [Pt.U, Pt.locs, Pt.cells, Pt.slots] at X' e1 e2 h5 h6 h7 hsteps
  subst h5; subst h6; subst h7
  exact ⟨v', (T.setVm vm₁).calling g' mk' as.toArray, t, U', L, hT, X', hL, e1, e2, hq, fun target hz => hstep₁ _ fun acts => by rw [doInvoke_state]; exact hsteps.trans hz⟩
end PMI
