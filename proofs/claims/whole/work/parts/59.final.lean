/-! The claim out of what is owed of the small machine. Began as the rest of the kit's skeleton. -/
def R_law : String := "PostingShelfLaw"
def lw_P (b : Addr) (xs : List Int32) (args : Array Value) (s : State) : Prop := args = #[.ref b] ∧ s.IntsAt b xs ∧ xs.length ≤ 1537 ∧ (Jvm.Cond.and given_1 narrow_1).before args s = true
def lw_Q (_ : Array Value) (s : State) (o : Outcome) (t : State) : Prop := o = .returned (some (.int 1)) ∧ Framed s o t [] 601024 7293000
def lw_Z (below : List Frame) (a : Array Value) (s : State) : State → Prop := fun t => ∃ o, t.status = .running ∧ Ended t below o ∧ lw_Q a s o t
/-- the store as the law begins: the script, and the empty array of java/util/ArrayList -/
def pm_h0 (N b em L : Nat) (xs : Nat → Int32) : pm_S := (fun a => if a = b then some (pm_a 0 L xs) else if a = em then some (pm_r 0 (fun _ => none)) else none, N, 0)
/-- what is owed: the law's run over the small machine comes to true within the room -/
def pm_Owed : Prop := ∀ (N mi em b L : Nat) (xs : Nat → Int32), L ≤ 1537 → b < N → em < N → b ≠ em →
  ∃ d n, d ≤ 1200 ∧ pm_run (N, mi, em) (pm_call (N, mi, em) d) 140 n 0 (pm_ent 140 [.ref b]) [] (pm_h0 N b em L xs) (fun w h => w = .inl (some (.int 1)) ∧ h.2.1 ≤ N + 601024 ∧ h.2.2 ≤ 7293000)
def pm_At (p : Program) (s : State) (m : MethodId) (meth : Method) (c : Code) (b L : Nat) (xs : Nat → Int32) : Prop :=
  p.tables.exec = Jvm.exec ∧ c.code = code ∧ meth.sig.returnType = ret ∧ c.maxLocals = 7 ∧ s.vm.findClass R_law = some m.cls ∧ meth.name = "law" ∧ c.exceptionTable = #[] ∧ (∀ w ∈ lw_tbl, w.before #[Value.ref b] s = true) ∧ va_X b L xs s s.heap ∧ b < s.heap.size ∧ meth.locks = false ∧ (Jvm.Cond.and given_1 narrow_1).before #[Value.ref b] s = true
theorem pm_room {s : State} {pl : Platform} {r r' : Room} (hf : r.frames ≤ r'.frames) (hl : r.locals ≤ r'.locals) (hc : r.cells ≤ r'.cells) (hs : r.slots ≤ r'.slots) (h : s.hasRoom pl r' = true) : s.hasRoom pl r = true := by
  simp only [State.hasRoom, Bool.and_eq_true, decide_eq_true_eq] at h ⊢
  obtain ⟨⟨⟨⟨a, b, c, d, e, f⟩, g⟩, i⟩, j⟩ := h
  exact ⟨⟨⟨⟨by omega, by omega, by omega, by omega, by omega, f⟩, by omega⟩, by omega⟩, j⟩
theorem pm_wide {p : Program} {l : Launch} {e : Env} {r r' : Room} {s : State} {m : MethodId} {args : Array Value} {below : List Frame} {meth : Method} {c : Code} {H : Heap} {locs : List Loc} {cells slots : Nat} {Q : State → Prop} {g : JFrame}
    (hf : r.frames ≤ r'.frames) (hl : r.locals ≤ r'.locals) (hc : r.cells ≤ r'.cells) (hs : r.slots ≤ r'.slots) (k : W p l e r s m args below meth c H locs cells slots Q g) : W p l e r' s m args below meth c H locs cells slots Q g := by
  intro T hT X
  exact k T hT { X with room := pm_room hf hl hc hs X.room }
theorem pm_apart {s : State} {b em L : Nat} {xs : Nat → Int32} {f : Nat → Value} {A : Nat → Prop} {n : Nat} (h1 : va_X b L xs s s.heap) (h2 : va_T (.object pm_obj) em n f A s s.heap) : b ≠ em := by
  rintro rfl
  obtain ⟨c1, a1, ⟨-, k1, a2, x1, a3⟩, -⟩ := h1
  obtain ⟨c2, b1, ⟨-, k2, b2, x2, b3⟩, -⟩ := h2
  cases a1.symm.trans b1
  cases a2.symm.trans b2
  have := a3.symm.trans b3
  cases this
theorem pm_init0 {D : va_G} {tC : Nat → ClassId} {s : State} {b em L : Nat} {xs : Nat → Int32} (h1 : va_X b L xs s s.heap) (hb : b < s.heap.size) (h2 : va_T (.object pm_obj) em 0 (fun _ => .null) (fun q => s.heap.size ≤ q) s s.heap) : pm_H D tC s.heap s (pm_h0 s.heap.size b em L xs) s.heap := by
  refine ⟨rfl, Nat.le_refl _, fun q _ => rfl, fun a x hx => ?_⟩
  unfold pm_h0 at hx
  dsimp only at hx
  split at hx
  · next he =>
    cases hx
    subst he
    obtain ⟨c1, a1, a2, a3, a4, a5⟩ := h1
    exact .inr ⟨c1, a1, a2, a3, by omega, by rw [a4], a5, by omega⟩
  · split at hx
    · next he =>
      cases hx
      subst he
      exact .inr h2
    · cases hx
set_option maxHeartbeats 4000000 in
theorem whole_start (O : pm_Owed) {p : Program} {e : Env} {s : State} {m : MethodId} {below : List Frame} {meth : Method} {c : Code} (l : Launch) (hfl : l.flags = flags0) {b L : Nat} {xs : Nat → Int32} (hL : L ≤ 1537) (C0 : pm_At p s m meth c b L xs) : W p l e room_1 s m #[Value.ref b] below meth c s.heap [] 0 0 (lw_Z below #[Value.ref b] s) (entryFrame m ([Value.ref b] : List Value).toArray 7) := by
  obtain ⟨hx, hb, hret, hml, hown, hnm, hex, hts, hX, hbl, hlk, hgv⟩ := C0
  obtain ⟨D, tC, mi, em, hK, hT⟩ := pm_start hts hgv
  have hne := pm_apart hX hT
  have hem : em < s.heap.size := by obtain ⟨cell, h1, -⟩ := hT; exact (Array.getElem?_eq_some_iff.mp h1).1
  obtain ⟨d, n, hd, hr⟩ := O s.heap.size mi em b L xs hL hbl hem hne
  obtain ⟨w0, h0, ⟨rfl, hc1, hc2⟩, hr0⟩ := pm_run_pt (pm_call_mono d) (pm_call_pt d) _ _ _ _ _ _ hr
  have hle := pm_run_le (pm_call_pt d) (pm_call_le d) _ _ _ _ _ _ _ hr0
  obtain ⟨la, hE, hlv⟩ := pm_lv_entry (y := 140) (as := [Value.ref b]) (fun v hv => by rw [List.mem_singleton] at hv; subst hv; rfl) (show 1 ≤ pm_mx 140 by decide +kernel) m
  have hle1 : s.heap.size ≤ h0.2.1 := hle.1
  rw [show (7 : Nat) = pm_mx 140 from by decide +kernel, hE]
  intro T hTh X
  have htr : e.platform.stackTraces = false := Launch.traces_off hfl X.admits
  have K := pm_sim_run (d := d) (y := 140) (sl0 := 0) (mc := h0.2.1 - s.heap.size) (ms := h0.2.2) (below := below) (args := #[Value.ref b]) (p := p) (l := l) (m := m) htr hx (hb.trans rfl) (hml.trans (by decide +kernel)) hown hnm hK rfl (hret.trans rfl) hlk (by decide)
    (by rw [hex]; rfl) (fun z as h w1 h1 hz has hc => pm_sim hfl rfl d z as h w1 h1 hz has hc) (by omega) (by omega)
    n 0 (pm_ent 140 [.ref b]) [] _ hr0 s.heap [] la 0 0 hlv rfl (pm_init0 hX hbl hT) (fun q hq => by cases hq) rfl rfl
  have K2 := pm_wide (r' := room_1) (by show d + 1 + 8 ≤ 2048; omega) (by show 64 * (d + 1) + 200 ≤ 84000; omega) (by show h0.2.1 - s.heap.size ≤ 601024; omega) (by show h0.2.2 ≤ 7293000; omega) K
  obtain ⟨t, a1, o, a2, a3, ⟨ho, -⟩, Lc, ⟨hw, hs⟩, hq⟩ := K2 T hTh X
  refine ⟨t, a1, o, a2, a3, ho, ⟨_, ho⟩, hw, ?_⟩
  exact hs.weaken (fun q hq' hlt => absurd (hq q hq') (Nat.not_le.mpr hlt)) (by omega) (by omega)
set_option maxHeartbeats 4000000 in
theorem lw_walk (O : pm_Owed) (l : Launch) (hfl : l.flags = flags0) (b : Addr) (xs : List Int32) : MetFree l x (headSpec (Jvm.Cond.code x code maxLocals ret :: tables_1) room_1) (lw_P b xs) (fun _ _ _ _ _ => True) lw_Q := by
  refine MetFree.of_bodyS (code := code) (maxLocals := maxLocals) (ret := ret) (by decide) ?_ ?_
  · intro args s m h hn
    obtain ⟨meth, c, h1, h2, h3, h4, h5, h6, -, -⟩ := Cond.code_spec hn (atoms_spec (ws := Jvm.Cond.code x code maxLocals ret :: tables_1) h _ List.mem_cons_self)
    exact ⟨meth, c, h1, h2, h3, h4, h5, h6⟩
  · intro p e s m args below meth c s₁ B hml0 hP _
    obtain ⟨rfl, hx, hbd, hgv⟩ := hP
    obtain ⟨scr, harrAt, hlist, hof, hsmall⟩ := hx
    obtain ⟨hcb, hkn, -, -⟩ := State.arrayAt?_spec harrAt
    have hown : s.vm.findClass R_law = some m.cls := findClass_of_methodNamed B.named
    have hts0 : ∀ c ∈ (Jvm.Cond.code x code maxLocals ret :: tables_1), c.before #[Value.ref b] s = true := atoms_spec (ws := Jvm.Cond.code x code maxLocals ret :: tables_1) B.pre
    have hts : ∀ w ∈ lw_tbl, w.before #[Value.ref b] s = true := k2_hts_sels lw_privs (fun w hw => hts0 w (List.mem_cons_of_mem _ hw)) lw_privs_ok
    have hml : c.maxLocals = 7 := B.maxLocals_eq (hts0 _ List.mem_cons_self)
    have hext : c.exceptionTable = #[] := by
      obtain ⟨meth', c', h1, h2, h3, h4, h5, h6, h7, -⟩ := Cond.code_spec B.named (hts0 _ List.mem_cons_self)
      have X := Stand.of_body B
      cases h1.symm.trans X.method
      cases h2.symm.trans X.code
      exact Array.isEmpty_iff.mp h7
    have X₀ : Stand p l e room_1 s m #[Value.ref b] below meth c s₁ [] 0 0 := Stand.of_body B
    have hh0 : s₁.heap = s.heap := by rw [B.state]; rfl
    have hsz : scr.slots.size = xs.length := by rw [← Array.length_toList, hlist, List.length_map]
    have hval : ∀ j : Nat, j < xs.length → scr.slots[j]? = some (.int (xs.getD j 0)) := fun j hj => by
      rw [← Array.getElem?_toList, hlist]
      simp [hj]
    have hbl : b < s.heap.size := (Array.getElem?_eq_some_iff.mp hcb).1
    have hX : va_X b xs.length (fun j => xs.getD j 0) s s.heap := ⟨scr, hcb, hof, hkn, hsz, hval⟩
    have K : W p l e room_1 s m #[Value.ref b] below meth c s₁.heap [] 0 0 (lw_Z below #[Value.ref b] s) (entryFrame m ([Value.ref b] : List Value).toArray 7) := by
      rw [hh0]
      exact whole_start O l hfl hbd ⟨B.exec, B.bytes, B.returns, hml, hown, (name_of_methodNamed B.named B.method).1, hext, hts, hX, hbl, B.notSynchronized, hgv⟩
    obtain ⟨t, a1, o, b1, b2, b3⟩ := K s₁ rfl X₀
    exact ⟨t, o, a1, b1, b2, b3⟩
theorem lw_pre_spec {args : Array Value} {s : State} (h : (Jvm.Cond.and given_1 narrow_1).before args s = true) (hr : rest_1_c.before args s = true) : ∃ (b : Addr) (xs : List Int32), lw_P b xs args s := by
  have hs := flat_of_before _ h
  have hq := flat_of_before _ hr
  have hc : (Cond.count 1).before args s = true := hs _ (by decide +kernel)
  have harr : (Cond.arrayOf (.arg 0) .int).before args s = true := hs _ (by decide +kernel)
  have hle : (Cond.le (.length (.arg 0)) (.int 1537)).before args s = true := hs _ (by decide +kernel)
  have hlen : (Cond.isInt (.length (.arg 0))).before args s = true := hq _ (by decide +kernel)
  have hall : (Cond.all (.arg 0) (.isInt (.elem (.arg 0) (.index 0)))).before args s = true := hq _ (by decide +kernel)
  obtain ⟨b, xs, hb, hx⟩ := State.ints_of_pre rfl harr hlen hall
  have hsm : xs.length < 2 ^ 31 := hx.choose_spec.2.2.2
  have hev : (Term.length (.arg 0)).eval args s none [] s = some (.int xs.length.toInt32) := hx.length_eval hb
  have hv := Cond.le_ints hev (show (Term.int 1537).eval args s none [] s = some (.int 1537) from rfl)
  have hd : xs.length.toInt32 ≤ 1537 := by
    simpa [Cond.before, Cond.holds, hv] using hle
  have hN : xs.length ≤ 1537 := (Int32.ofNat_le_ofNat hsm (by decide)).mp (show Int32.ofNat xs.length ≤ Int32.ofNat 1537 from hd)
  exact ⟨b, xs, Cond.one_arg hc (show args[0]? = some (.ref b) from hb), hx, hN, h⟩
theorem lw_comes (O : pm_Owed) (l : Launch) (hfl : l.flags = flags0) : Comes l x (Jvm.Cond.code x code maxLocals ret :: tables_1) room_1 (fun tb e args s => Calls_1 tb e args s ∧ rest_1 tb e args s ∧ Pre_1 tb e args s)
    (fun _ _ args s o t => lw_Q args s o t) := by
  intro p e ha hc hk s m args below hf hfit hheap happ hpre
  obtain ⟨b, xs, hP⟩ := lw_pre_spec hpre.2.2 hpre.2.1
  obtain ⟨k, o, h1, h2, h3, hQ⟩ := lw_walk O l hfl b xs p e ha hc hk s m args below hf ((Spec.applies_iff_loose hf).mp happ).1 hP trivial
  exact ⟨k, o, h1, h2, h3, hQ⟩
theorem lw_frame {s t : State} {o : Outcome} {args : Array Value} (h : Framed s o t [] 601024 7293000) :
    Framed s o t (fieldLocs frame_1_writes args s ++ arrayLocs frame_1_arrays args s ++ staticLocs frame_1_statics s) 601024 7293000 := h
theorem lw_limb (O : pm_Owed) (L : Cond) (hL : ∀ (args : Array Value) (s t : State), L.after args s (.returned (some (.int 1))) t = true) :
    ArmFor flags0 classFile x code maxLocals ret World_1 tables_1 room_1 Calls_1 rest_1 Pre_1
      (fun tb e a s o t => postC L tb e a s o t ∧ Framed s o t (fieldLocs frame_1_writes a s ++ arrayLocs frame_1_arrays a s ++ staticLocs frame_1_statics s) 601024 7293000) := by
  intro l hfl _ _ p e ha hc hk s m args below hf hfit hheap happ hpre
  obtain ⟨k, o, h1, h2, h3, rfl, hF⟩ := lw_comes O l hfl p e ha hc hk s m args below hf hfit hheap happ hpre
  exact ⟨k, _, h1, h2, h3, hL args s _, lw_frame hF⟩
theorem pm_final (O : pm_Owed) : Claimed_1_1 ∧ Claimed_1_2 := ⟨lw_limb O limb_1_1 (fun args s t => by simp [limb_1_1, Cond.after, Cond.holds, Cond.value]), lw_limb O limb_1_2 (fun args s t => Cond.after_iff.mpr (by
  first | (rw [show limb_1_2 = Cond.eq .result (.int 1) from rfl, Cond.eq_ints (x := 1) (y := 1) rfl rfl]; simp; done) | (simp [limb_1_2, Cond.value, Term.eval]; done)))⟩
