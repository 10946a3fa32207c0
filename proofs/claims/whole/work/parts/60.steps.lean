/-! Rows by instruction over the small machine, goal first: ps_X is a run with its fuel hidden, ps_M a call at every depth from k on. Whole numbers stand as iN n. -/
abbrev iN (n : Nat) : Value := Value.int (Int32.ofNat n)
def ps_X (G : pm_G) (d y pc : Nat) (ls : pm_V) (st : List Value) (h : pm_S) (Q : pm_Q) : Prop := ∃ n, pm_run G (pm_call G d) y n pc ls st h Q
def ps_M (G : pm_G) (k z : Nat) (as : List Value) (h : pm_S) (Q : pm_Q) : Prop := ∀ d, k ≤ d → pm_call G d z as h Q
def ps_i (y pc : Nat) : Option (Instr × Nat) := (pm_cat y pc).map fun q => (q.1, pc + q.2)
/-- a constant -/
def ps_k (y pc : Nat) (v : Int32) (nx : Nat) : Prop := ∃ i, ps_i y pc = some (i, nx) ∧ ∀ ls st, pm_pure i ls st = some (ls, .int v :: st)
def ps_ld (y pc k nx : Nat) : Prop := ∃ i, ps_i y pc = some (i, nx) ∧ ∀ ls st, pm_pure i ls st = pm_ldi ls k st
def ps_la (y pc k nx : Nat) : Prop := ∃ i, ps_i y pc = some (i, nx) ∧ ∀ ls st, pm_pure i ls st = pm_lda ls k st
def ps_si (y pc k nx : Nat) : Prop := ∃ i, ps_i y pc = some (i, nx) ∧ ∀ ls st, pm_pure i ls st = pm_sti ls k st
def ps_sa (y pc k nx : Nat) : Prop := ∃ i, ps_i y pc = some (i, nx) ∧ ∀ ls st, pm_pure i ls st = pm_sta ls k st
def ps_b (y pc : Nat) (f : Int32 → Int32 → Int32) (nx : Nat) : Prop := ∃ i, ps_i y pc = some (i, nx) ∧ ∀ ls st, pm_pure i ls st = pm_2 ls st f
def ps_pu (y pc : Nat) (i : Instr) (nx : Nat) : Prop := ps_i y pc = some (i, nx)
/-- a jump on two ints, on one, always -/
def ps_j (y pc : Nat) (c : ClassFile.Cond) (t nx : Nat) : Prop := ∃ o, ps_i y pc = some (.if_icmp c o, nx) ∧ 0 ≤ (pc : Int) + o ∧ ((pc : Int) + o).toNat = t
def ps_j0 (y pc : Nat) (c : ClassFile.Cond) (t nx : Nat) : Prop := ∃ o, ps_i y pc = some (.ifCond c o, nx) ∧ 0 ≤ (pc : Int) + o ∧ ((pc : Int) + o).toNat = t
def ps_jg (y pc t : Nat) : Prop := ∃ o nx, ps_i y pc = some (.goto o, nx) ∧ 0 ≤ (pc : Int) + o ∧ ((pc : Int) + o).toNat = t
def ps_jn (y pc : Nat) (b : Bool) (t nx : Nat) : Prop := ∃ o, ps_i y pc = some (if b then .ifnull o else .ifnonnull o, nx) ∧ 0 ≤ (pc : Int) + o ∧ ((pc : Int) + o).toNat = t
def ps_ja (y pc : Nat) (c : ACond) (t nx : Nat) : Prop := ∃ o, ps_i y pc = some (.if_acmp c o, nx) ∧ 0 ≤ (pc : Int) + o ∧ ((pc : Int) + o).toNat = t
/-- field k of an object of kind ci -/
def ps_gf (y pc ci k nx : Nat) : Prop := ∃ idx f, ps_i y pc = some (.getfield idx, nx) ∧ pm_fl (pm_own y) idx = some f ∧ pm_ix f (pm_cfs ci) = some k
def ps_pf (y pc ci k : Nat) (ty : FieldType) (nx : Nat) : Prop := ∃ idx f, ps_i y pc = some (.putfield idx, nx) ∧ pm_fl (pm_own y) idx = some f ∧ pm_ix f (pm_cfs ci) = some k ∧ pm_fty f = ty ∧ pm_may y f = true
def ps_nw (y pc ci nx : Nat) : Prop := ∃ idx, ps_i y pc = some (.new idx, nx) ∧ pm_cl (pm_own y) idx = some ci
def ps_th (y pc k : Nat) : Prop := ∃ idx nx, ps_i y pc = some (.new idx, nx) ∧ pm_cl (pm_own y) idx = none ∧ pm_xl (pm_own y) idx = some k ∧ pm_nid y (.new idx) = none
def ps_ck (y pc ci nx : Nat) : Prop := ∃ idx, ps_i y pc = some (.checkcast idx, nx) ∧ pm_kc (pm_own y) idx ci = true
def ps_cki (y pc nx : Nat) : Prop := ∃ idx, ps_i y pc = some (.checkcast idx, nx) ∧ pm_ka (pm_own y) idx "[I" = true
def ps_cko (y pc nx : Nat) : Prop := ∃ idx, ps_i y pc = some (.checkcast idx, nx) ∧ pm_ka (pm_own y) idx "[Ljava/lang/Object;" = true
/-- calls: of a static method z with n arguments, of a private one or a constructor, of a virtual one that is z for objects of kind ci -/
def ps_vS (y pc z n nx : Nat) : Prop := ∃ idx, ps_i y pc = some (.invokestatic idx, nx) ∧ pm_nid y (.invokestatic idx) = none ∧ pm_ms (pm_own y) idx = some z ∧ pm_na z = n
def ps_vP (y pc z n nx : Nat) : Prop := ∃ idx, ps_i y pc = some (.invokespecial idx, nx) ∧ pm_nid y (.invokespecial idx) = none ∧ pm_mi (pm_own y) idx = some z ∧ pm_na z = n
def ps_vV (y pc ci z n nx : Nat) : Prop := ∃ idx x, ps_i y pc = some (.invokevirtual idx, nx) ∧ pm_nid y (.invokevirtual idx) = none ∧ pm_mv (pm_own y) idx = some x ∧ pm_na x = n ∧ pm_sel ci x = some z
def ps_vN (y pc k nx : Nat) : Prop := ∃ i, ps_i y pc = some (i, nx) ∧ (∀ ls st, pm_pure i ls st = none) ∧ (∀ st, pm_jmp i st = none) ∧ (∀ G st h, pm_heap G y i st h = none) ∧ pm_nid y i = some k
section PMX
variable {G : pm_G} {d y pc nx t : Nat} {ls ls' : pm_V} {st st' : List Value} {h h' : pm_S} {Q : pm_Q}
theorem ps_i_cat {i : Instr} (hc : ps_i y pc = some (i, nx)) : ∃ len, pm_cat y pc = some (i, len) ∧ pc + len = nx := by
  unfold ps_i at hc
  cases hq : pm_cat y pc with
  | none => rw [hq] at hc; cases hc
  | some q => rw [hq] at hc; cases hc; exact ⟨q.2, rfl, rfl⟩
theorem ps_x1 (hn : pm_next G y pc ls st h = some (.inl (nx, ls', st', h'))) (K : ps_X G d y nx ls' st' h' Q) : ps_X G d y pc ls st h Q := by
  obtain ⟨n, K⟩ := K
  refine ⟨n + 1, ?_⟩
  unfold pm_run
  rw [hn]
  exact K
theorem ps_xe {w : pm_R} (hn : pm_next G y pc ls st h = some (.inr (.inr (w, h')))) (K : Q w h') : ps_X G d y pc ls st h Q := by
  refine ⟨1, ?_⟩
  unfold pm_run
  rw [hn]
  exact K
/-- how it goes on behind a call -/
def ps_bk (G : pm_G) (d y pc nx : Nat) (ls : pm_V) (r : List Value) (Q : pm_Q) : pm_Q := fun w h' => match w with
  | .inl v => ps_X G d y nx ls (v.toList ++ r) h' Q
  | .inr k => match pm_hnd y pc k with
    | some p => ps_X G d y p ls [.ref (h'.2.1 - 1)] h' Q
    | none => False
theorem ps_xc {z : Nat} {as r : List Value} (hn : pm_next G y pc ls st h = some (.inr (.inl (z, as, nx, ls', r)))) (K : pm_call G d z as h (ps_bk G d y pc nx ls' r Q)) : ps_X G d y pc ls st h Q := by
  obtain ⟨w0, h0, hq, hp⟩ := pm_call_pt d _ _ _ _ K
  unfold ps_bk at hq
  cases w0 with
  | inl v =>
    obtain ⟨n, hn'⟩ := hq
    refine ⟨n + 1, ?_⟩
    unfold pm_run
    rw [hn]
    refine pm_call_mono d _ _ _ _ _ ?_ hp
    rintro w h' ⟨rfl, rfl⟩
    exact hn'
  | inr k =>
    dsimp only at hq
    cases hp2 : pm_hnd y pc k with
    | none => rw [hp2] at hq; exact hq.elim
    | some p =>
      rw [hp2] at hq
      obtain ⟨n, hn'⟩ := hq
      refine ⟨n + 1, ?_⟩
      unfold pm_run
      rw [hn]
      refine pm_call_mono d _ _ _ _ _ ?_ hp
      rintro w h' ⟨rfl, rfl⟩
      dsimp only
      rw [hp2]
      exact hn'
theorem ps_n_pure {i : Instr} (hc : ps_i y pc = some (i, nx)) (hp : pm_pure i ls st = some (ls', st')) : pm_next G y pc ls st h = some (.inl (nx, ls', st', h)) := by
  obtain ⟨len, h1, rfl⟩ := ps_i_cat hc
  unfold pm_next
  rw [h1]
  dsimp only
  rw [hp]
theorem ps_n_jmp {i : Instr} {b : Bool} {o : Int} {r : List Value} (hc : ps_i y pc = some (i, nx)) (h0 : pm_pure i ls st = none) (hp : pm_jmp i st = some (b, o, r)) (ho : 0 ≤ (pc : Int) + o) (ht : ((pc : Int) + o).toNat = t) : pm_next G y pc ls st h = some (.inl (if b then t else nx, ls, r, h)) := by
  obtain ⟨len, h1, rfl⟩ := ps_i_cat hc
  unfold pm_next
  rw [h1]
  dsimp only
  rw [h0]
  dsimp only
  rw [hp]
  dsimp only
  rw [if_pos ho, ht]
theorem ps_n_heap {i : Instr} (hc : ps_i y pc = some (i, nx)) (h0 : pm_pure i ls st = none) (h2 : pm_jmp i st = none) (hp : pm_heap G y i st h = some (st', h')) : pm_next G y pc ls st h = some (.inl (nx, ls, st', h')) := by
  obtain ⟨len, h1, rfl⟩ := ps_i_cat hc
  unfold pm_next
  rw [h1]
  dsimp only
  rw [h0]
  dsimp only
  rw [h2]
  dsimp only
  rw [hp]
theorem ps_n_nat {i : Instr} {k : Nat} (hc : ps_i y pc = some (i, nx)) (h0 : pm_pure i ls st = none) (h2 : pm_jmp i st = none) (h3 : pm_heap G y i st h = none) (h4 : pm_nid y i = some k) (hp : pm_nat G k st h = some (st', h')) : pm_next G y pc ls st h = some (.inl (nx, ls, st', h')) := by
  obtain ⟨len, h1, rfl⟩ := ps_i_cat hc
  unfold pm_next
  rw [h1]
  dsimp only
  rw [h0]
  dsimp only
  rw [h2]
  dsimp only
  rw [h3]
  dsimp only
  rw [h4]
  dsimp only
  rw [hp]
theorem ps_n_inv {i : Instr} {z : Nat} {as r : List Value} (hc : ps_i y pc = some (i, nx)) (h0 : pm_pure i ls st = none) (h2 : pm_jmp i st = none) (h3 : pm_heap G y i st h = none) (h4 : pm_nid y i = none) (hp : pm_inv y i st h = some (z, as, r)) : pm_next G y pc ls st h = some (.inr (.inl (z, as, nx, ls, r))) := by
  obtain ⟨len, h1, rfl⟩ := ps_i_cat hc
  unfold pm_next
  rw [h1]
  dsimp only
  rw [h0]
  dsimp only
  rw [h2]
  dsimp only
  rw [h3]
  dsimp only
  rw [h4]
  dsimp only
  rw [hp]
theorem ps_n_end {i : Instr} {w : pm_R} (hc : ps_i y pc = some (i, nx)) (h0 : pm_pure i ls st = none) (h2 : pm_jmp i st = none) (h3 : pm_heap G y i st h = none) (h4 : pm_nid y i = none) (h5 : pm_inv y i st h = none) (hp : pm_end y i st h = some (w, h')) : pm_next G y pc ls st h = some (.inr (.inr (w, h'))) := by
  obtain ⟨len, h1, rfl⟩ := ps_i_cat hc
  unfold pm_next
  rw [h1]
  dsimp only
  rw [h0]
  dsimp only
  rw [h2]
  dsimp only
  rw [h3]
  dsimp only
  rw [h4]
  dsimp only
  rw [h5]
  dsimp only
  rw [hp]
/-! locals, stack, numbers -/
theorem ps_s_p {i : Instr} (hc : ps_pu y pc i nx) (hp : pm_pure i ls st = some (ls', st')) (K : ps_X G d y nx ls' st' h Q) : ps_X G d y pc ls st h Q := ps_x1 (ps_n_pure hc hp) K
theorem ps_s_k {v : Int32} (hc : ps_k y pc v nx) (K : ps_X G d y nx ls (.int v :: st) h Q) : ps_X G d y pc ls st h Q := by
  obtain ⟨i, h1, h2⟩ := hc
  exact ps_x1 (ps_n_pure h1 (h2 _ _)) K
theorem ps_s_il {k : Nat} {x : Int32} (hc : ps_ld y pc k nx) (hk : ls[k]? = some (some (.int x))) (K : ps_X G d y nx ls (.int x :: st) h Q) : ps_X G d y pc ls st h Q := by
  obtain ⟨i, h1, h2⟩ := hc
  exact ps_x1 (ps_n_pure h1 ((h2 _ _).trans (by unfold pm_ldi; rw [hk]))) K
theorem ps_s_al {k : Nat} {x : Nat} (hc : ps_la y pc k nx) (hk : ls[k]? = some (some (.ref x))) (K : ps_X G d y nx ls (.ref x :: st) h Q) : ps_X G d y pc ls st h Q := by
  obtain ⟨i, h1, h2⟩ := hc
  exact ps_x1 (ps_n_pure h1 ((h2 _ _).trans (by unfold pm_lda; rw [hk]))) K
theorem ps_s_aln {k : Nat} (hc : ps_la y pc k nx) (hk : ls[k]? = some (some .null)) (K : ps_X G d y nx ls (.null :: st) h Q) : ps_X G d y pc ls st h Q := by
  obtain ⟨i, h1, h2⟩ := hc
  exact ps_x1 (ps_n_pure h1 ((h2 _ _).trans (by unfold pm_lda; rw [hk]))) K
theorem ps_s_is {k : Nat} {x : Int32} (hc : ps_si y pc k nx) (hk : k < ls.length) (K : ps_X G d y nx (ls.set k (some (.int x))) st h Q) : ps_X G d y pc ls (.int x :: st) h Q := by
  obtain ⟨i, h1, h2⟩ := hc
  exact ps_x1 (ps_n_pure h1 ((h2 _ _).trans (by unfold pm_sti; dsimp only; rw [if_pos hk]))) K
theorem ps_s_as {k x : Nat} (hc : ps_sa y pc k nx) (hk : k < ls.length) (K : ps_X G d y nx (ls.set k (some (.ref x))) st h Q) : ps_X G d y pc ls (.ref x :: st) h Q := by
  obtain ⟨i, h1, h2⟩ := hc
  exact ps_x1 (ps_n_pure h1 ((h2 _ _).trans (by unfold pm_sta; dsimp only; rw [if_pos hk]))) K
theorem ps_s_asn {k : Nat} (hc : ps_sa y pc k nx) (hk : k < ls.length) (K : ps_X G d y nx (ls.set k (some .null)) st h Q) : ps_X G d y pc ls (.null :: st) h Q := by
  obtain ⟨i, h1, h2⟩ := hc
  exact ps_x1 (ps_n_pure h1 ((h2 _ _).trans (by unfold pm_sta; dsimp only; rw [if_pos hk]))) K
theorem ps_s_iic {k : Nat} {n : Int} {x : Int32} (hc : ps_pu y pc (.iinc k n) nx) (hk : ls[k]? = some (some (.int x))) (K : ps_X G d y nx (ls.set k (some (.int (x + Int32.ofInt n)))) st h Q) : ps_X G d y pc ls st h Q :=
  ps_x1 (ps_n_pure hc (by unfold pm_pure; dsimp only; rw [hk])) K
theorem ps_inc (a n : Nat) : Int32.ofNat a + Int32.ofInt (n : Int) = Int32.ofNat (a + n) := by rw [Int32.ofInt_eq_ofNat, Int32.ofNat_add]
theorem ps_dec (a : Nat) (h : 1 ≤ a) : Int32.ofNat a + Int32.ofInt (-1) = Int32.ofNat (a - 1) := by
  rw [Int32.ofNat_sub _ _ h, show Int32.ofInt (-1) = - Int32.ofNat 1 from by decide, ← Int32.sub_eq_add_neg]
theorem ps_s_2 {f : Int32 → Int32 → Int32} {x z : Int32} (hc : ps_b y pc f nx) (K : ps_X G d y nx ls (.int (f x z) :: st) h Q) : ps_X G d y pc ls (.int z :: .int x :: st) h Q := by
  obtain ⟨i, h1, h2⟩ := hc
  exact ps_x1 (ps_n_pure h1 (h2 _ _)) K
theorem ps_s_2e {f : Int32 → Int32 → Int32} {x z w : Int32} (hc : ps_b y pc f nx) (hw : f x z = w) (K : ps_X G d y nx ls (.int w :: st) h Q) : ps_X G d y pc ls (.int z :: .int x :: st) h Q := by
  subst hw
  exact ps_s_2 hc K
theorem ps_s_add {a b : Nat} (hc : ps_b y pc (· + ·) nx) (K : ps_X G d y nx ls (iN (a + b) :: st) h Q) : ps_X G d y pc ls (iN b :: iN a :: st) h Q := ps_s_2e hc (Int32.ofNat_add a b).symm K
theorem ps_s_sub {a b : Nat} (hc : ps_b y pc (· - ·) nx) (hb : b ≤ a) (K : ps_X G d y nx ls (iN (a - b) :: st) h Q) : ps_X G d y pc ls (iN b :: iN a :: st) h Q := ps_s_2e hc (Int32.ofNat_sub a b hb).symm K
theorem ps_s_mul {a b : Nat} (hc : ps_b y pc (· * ·) nx) (K : ps_X G d y nx ls (iN (a * b) :: st) h Q) : ps_X G d y pc ls (iN b :: iN a :: st) h Q := ps_s_2e hc (Int32.ofNat_mul a b).symm K
theorem ps_ofNat_inj {a b : Nat} (ha : a < 2147483648) (hb : b < 2147483648) (h : Int32.ofNat a = Int32.ofNat b) : a = b := by
  have := congrArg Int32.toNatClampNeg h
  rwa [Int32.toNatClampNeg_ofNat_of_lt (by simpa using ha), Int32.toNatClampNeg_ofNat_of_lt (by simpa using hb)] at this
theorem ps_s_div {a b : Nat} (hc : ps_pu y pc .idiv nx) (ha : a < 2147483648) (hb : b < 2147483648) (h0 : 0 < b) (K : ps_X G d y nx ls (iN (a / b) :: st) h Q) : ps_X G d y pc ls (iN b :: iN a :: st) h Q := by
  refine ps_s_p hc ?_ K
  unfold pm_pure
  dsimp only
  rw [if_neg (fun hz => by have := ps_ofNat_inj hb (by omega) (hz.trans rfl : Int32.ofNat b = Int32.ofNat 0); omega), ← Int32.ofNat_div (by simpa using ha) (by simpa using hb)]
theorem ps_s_rem {a b : Nat} (hc : ps_pu y pc .irem nx) (ha : a < 2147483648) (hb : b < 2147483648) (h0 : 0 < b) (K : ps_X G d y nx ls (iN (a % b) :: st) h Q) : ps_X G d y pc ls (iN b :: iN a :: st) h Q := by
  refine ps_s_p hc ?_ K
  unfold pm_pure
  dsimp only
  rw [if_neg (fun hz => by have := ps_ofNat_inj hb (by omega) (hz.trans rfl : Int32.ofNat b = Int32.ofNat 0); omega), ← Int32.ofNat_div (by simpa using ha) (by simpa using hb), ← Int32.ofNat_mul, ← Int32.ofNat_sub _ _ (Nat.div_mul_le_self a b)]
  have e : a - a / b * b = a % b := by have := Nat.div_add_mod a b; rw [Nat.mul_comm] at this; omega
  rw [e]
theorem ps_s_i2l {x : Int32} (hc : ps_pu y pc .i2l nx) (K : ps_X G d y nx ls (.long x.toInt64 :: st) h Q) : ps_X G d y pc ls (.int x :: st) h Q := ps_s_p hc rfl K
theorem ps_s_lcmp {x z : Int64} (hc : ps_pu y pc .lcmp nx) (K : ps_X G d y nx ls (.int (lg_cmp x z) :: st) h Q) : ps_X G d y pc ls (.long z :: .long x :: st) h Q := ps_s_p hc rfl K
theorem ps_s_dup {v : Value} (hc : ps_pu y pc .dup nx) (hv : pm_one v = true) (K : ps_X G d y nx ls (v :: v :: st) h Q) : ps_X G d y pc ls (v :: st) h Q := ps_s_p hc (by unfold pm_pure; dsimp only; rw [if_pos hv]) K
theorem ps_s_pop {v : Value} (hc : ps_pu y pc .pop nx) (hv : pm_one v = true) (K : ps_X G d y nx ls st h Q) : ps_X G d y pc ls (v :: st) h Q := ps_s_p hc (by unfold pm_pure; dsimp only; rw [if_pos hv]) K
theorem ps_s_dx1 {v w : Value} (hc : ps_pu y pc .dup_x1 nx) (hv : (pm_one v && pm_one w) = true) (K : ps_X G d y nx ls (v :: w :: v :: st) h Q) : ps_X G d y pc ls (v :: w :: st) h Q := ps_s_p hc (by unfold pm_pure; dsimp only; rw [if_pos hv]) K
theorem ps_s_d2 {v w : Value} (hc : ps_pu y pc .dup2 nx) (hv : (pm_one v && pm_one w) = true) (K : ps_X G d y nx ls (v :: w :: v :: w :: st) h Q) : ps_X G d y pc ls (v :: w :: st) h Q := ps_s_p hc (by unfold pm_pure; dsimp only; rw [if_pos hv]) K
/-! jumps -/
theorem ps_s_go (hc : ps_jg y pc t) (K : ps_X G d y t ls st h Q) : ps_X G d y pc ls st h Q := by
  obtain ⟨o, nx, h1, h2, h3⟩ := hc
  exact ps_x1 (ps_n_jmp (t := t) h1 rfl rfl h2 h3) K
theorem ps_s_j {c : ClassFile.Cond} {x z : Int32} (hc : ps_j y pc c t nx) (K1 : pm_c c x z = true → ps_X G d y t ls st h Q) (K2 : pm_c c x z = false → ps_X G d y nx ls st h Q) : ps_X G d y pc ls (.int z :: .int x :: st) h Q := by
  obtain ⟨o, h1, h2, h3⟩ := hc
  cases hb : pm_c c x z with
  | true => exact ps_x1 (ps_n_jmp (t := t) (b := true) h1 rfl (by unfold pm_jmp; dsimp only; rw [hb]) h2 h3) (K1 hb)
  | false => exact ps_x1 (ps_n_jmp (t := t) (b := false) h1 rfl (by unfold pm_jmp; dsimp only; rw [hb]) h2 h3) (K2 hb)
theorem ps_s_j0 {c : ClassFile.Cond} {x : Int32} (hc : ps_j0 y pc c t nx) (K1 : pm_c c x 0 = true → ps_X G d y t ls st h Q) (K2 : pm_c c x 0 = false → ps_X G d y nx ls st h Q) : ps_X G d y pc ls (.int x :: st) h Q := by
  obtain ⟨o, h1, h2, h3⟩ := hc
  cases hb : pm_c c x 0 with
  | true => exact ps_x1 (ps_n_jmp (t := t) (b := true) h1 rfl (by unfold pm_jmp; dsimp only; rw [hb]) h2 h3) (K1 hb)
  | false => exact ps_x1 (ps_n_jmp (t := t) (b := false) h1 rfl (by unfold pm_jmp; dsimp only; rw [hb]) h2 h3) (K2 hb)
theorem ps_s_jnn {b : Bool} (hc : ps_jn y pc b t nx) (K : ps_X G d y (if b then t else nx) ls st h Q) : ps_X G d y pc ls (.null :: st) h Q := by
  obtain ⟨o, h1, h2, h3⟩ := hc
  cases b with
  | true => exact ps_x1 (ps_n_jmp (t := t) (b := true) h1 rfl rfl h2 h3) K
  | false => exact ps_x1 (ps_n_jmp (t := t) (b := false) h1 rfl rfl h2 h3) K
theorem ps_s_jnr {b : Bool} {a : Nat} (hc : ps_jn y pc b t nx) (K : ps_X G d y (if b then nx else t) ls st h Q) : ps_X G d y pc ls (.ref a :: st) h Q := by
  obtain ⟨o, h1, h2, h3⟩ := hc
  cases b with
  | true => exact ps_x1 (ps_n_jmp (t := t) (b := false) h1 rfl rfl h2 h3) K
  | false => exact ps_x1 (ps_n_jmp (t := t) (b := true) h1 rfl rfl h2 h3) K
theorem ps_s_ja {c : ACond} {a b : Nat} (hc : ps_ja y pc c t nx) (K1 : pm_ca c a b = true → ps_X G d y t ls st h Q) (K2 : pm_ca c a b = false → ps_X G d y nx ls st h Q) : ps_X G d y pc ls (.ref b :: .ref a :: st) h Q := by
  obtain ⟨o, h1, h2, h3⟩ := hc
  cases hb : pm_ca c a b with
  | true => exact ps_x1 (ps_n_jmp (t := t) (b := true) h1 rfl (by unfold pm_jmp; dsimp only; rw [hb]) h2 h3) (K1 hb)
  | false => exact ps_x1 (ps_n_jmp (t := t) (b := false) h1 rfl (by unfold pm_jmp; dsimp only; rw [hb]) h2 h3) (K2 hb)
theorem ps_lt_iff {a b : Nat} (ha : a < 2147483648) (hb : b < 2147483648) : Int32.ofNat a < Int32.ofNat b ↔ a < b := Int32.ofNat_lt_iff_lt (by simpa using ha) (by simpa using hb)
theorem ps_le_iff {a b : Nat} (ha : a < 2147483648) (hb : b < 2147483648) : Int32.ofNat a ≤ Int32.ofNat b ↔ a ≤ b := Int32.ofNat_le_iff_le (by simpa using ha) (by simpa using hb)
theorem ps_eq_iff {a b : Nat} (ha : a < 2147483648) (hb : b < 2147483648) : Int32.ofNat a = Int32.ofNat b ↔ a = b := ⟨ps_ofNat_inj ha hb, fun e => by rw [e]⟩
theorem ps_s_lt {a b : Nat} (hc : ps_j y pc .lt t nx) (ha : a < 2147483648) (hb : b < 2147483648) (K1 : a < b → ps_X G d y t ls st h Q) (K2 : ¬ (a < b) → ps_X G d y nx ls st h Q) : ps_X G d y pc ls (iN b :: iN a :: st) h Q :=
  ps_s_j hc (fun e => K1 ((ps_lt_iff ha hb).mp (of_decide_eq_true e))) (fun e => K2 (fun q => of_decide_eq_false e ((ps_lt_iff ha hb).mpr q)))
theorem ps_s_ge {a b : Nat} (hc : ps_j y pc .ge t nx) (ha : a < 2147483648) (hb : b < 2147483648) (K1 : b ≤ a → ps_X G d y t ls st h Q) (K2 : ¬ (b ≤ a) → ps_X G d y nx ls st h Q) : ps_X G d y pc ls (iN b :: iN a :: st) h Q :=
  ps_s_j hc (fun e => K1 ((ps_le_iff hb ha).mp (of_decide_eq_true e))) (fun e => K2 (fun q => of_decide_eq_false e ((ps_le_iff hb ha).mpr q)))
theorem ps_s_gt {a b : Nat} (hc : ps_j y pc .gt t nx) (ha : a < 2147483648) (hb : b < 2147483648) (K1 : b < a → ps_X G d y t ls st h Q) (K2 : ¬ (b < a) → ps_X G d y nx ls st h Q) : ps_X G d y pc ls (iN b :: iN a :: st) h Q :=
  ps_s_j hc (fun e => K1 ((ps_lt_iff hb ha).mp (of_decide_eq_true e))) (fun e => K2 (fun q => of_decide_eq_false e ((ps_lt_iff hb ha).mpr q)))
theorem ps_s_le {a b : Nat} (hc : ps_j y pc .le t nx) (ha : a < 2147483648) (hb : b < 2147483648) (K1 : a ≤ b → ps_X G d y t ls st h Q) (K2 : ¬ (a ≤ b) → ps_X G d y nx ls st h Q) : ps_X G d y pc ls (iN b :: iN a :: st) h Q :=
  ps_s_j hc (fun e => K1 ((ps_le_iff ha hb).mp (of_decide_eq_true e))) (fun e => K2 (fun q => of_decide_eq_false e ((ps_le_iff ha hb).mpr q)))
theorem ps_s_eq {a b : Nat} (hc : ps_j y pc .eq t nx) (ha : a < 2147483648) (hb : b < 2147483648) (K1 : a = b → ps_X G d y t ls st h Q) (K2 : ¬ (a = b) → ps_X G d y nx ls st h Q) : ps_X G d y pc ls (iN b :: iN a :: st) h Q :=
  ps_s_j hc (fun e => K1 ((ps_eq_iff ha hb).mp (of_decide_eq_true e))) (fun e => K2 (fun q => of_decide_eq_false e ((ps_eq_iff ha hb).mpr q)))
theorem ps_s_ne {a b : Nat} (hc : ps_j y pc .ne t nx) (ha : a < 2147483648) (hb : b < 2147483648) (K1 : ¬ a = b → ps_X G d y t ls st h Q) (K2 : ¬ (¬ a = b) → ps_X G d y nx ls st h Q) : ps_X G d y pc ls (iN b :: iN a :: st) h Q :=
  ps_s_j hc (fun e => K1 ((not_congr (ps_eq_iff ha hb)).mp (of_decide_eq_true e))) (fun e => K2 (fun q => of_decide_eq_false e ((not_congr (ps_eq_iff ha hb)).mpr q)))
theorem ps_s_lt0 {a : Nat} (hc : ps_j0 y pc .lt t nx) (ha : a < 2147483648) (K1 : a < 0 → ps_X G d y t ls st h Q) (K2 : ¬ (a < 0) → ps_X G d y nx ls st h Q) : ps_X G d y pc ls (iN a :: st) h Q :=
  have hb : 0 < 2147483648 := by decide
  ps_s_j0 hc (fun e => K1 ((ps_lt_iff ha hb).mp (of_decide_eq_true e))) (fun e => K2 (fun q => of_decide_eq_false e ((ps_lt_iff ha hb).mpr q)))
theorem ps_s_ge0 {a : Nat} (hc : ps_j0 y pc .ge t nx) (ha : a < 2147483648) (K1 : 0 ≤ a → ps_X G d y t ls st h Q) (K2 : ¬ (0 ≤ a) → ps_X G d y nx ls st h Q) : ps_X G d y pc ls (iN a :: st) h Q :=
  have hb : 0 < 2147483648 := by decide
  ps_s_j0 hc (fun e => K1 ((ps_le_iff hb ha).mp (of_decide_eq_true e))) (fun e => K2 (fun q => of_decide_eq_false e ((ps_le_iff hb ha).mpr q)))
theorem ps_s_gt0 {a : Nat} (hc : ps_j0 y pc .gt t nx) (ha : a < 2147483648) (K1 : 0 < a → ps_X G d y t ls st h Q) (K2 : ¬ (0 < a) → ps_X G d y nx ls st h Q) : ps_X G d y pc ls (iN a :: st) h Q :=
  have hb : 0 < 2147483648 := by decide
  ps_s_j0 hc (fun e => K1 ((ps_lt_iff hb ha).mp (of_decide_eq_true e))) (fun e => K2 (fun q => of_decide_eq_false e ((ps_lt_iff hb ha).mpr q)))
theorem ps_s_le0 {a : Nat} (hc : ps_j0 y pc .le t nx) (ha : a < 2147483648) (K1 : a ≤ 0 → ps_X G d y t ls st h Q) (K2 : ¬ (a ≤ 0) → ps_X G d y nx ls st h Q) : ps_X G d y pc ls (iN a :: st) h Q :=
  have hb : 0 < 2147483648 := by decide
  ps_s_j0 hc (fun e => K1 ((ps_le_iff ha hb).mp (of_decide_eq_true e))) (fun e => K2 (fun q => of_decide_eq_false e ((ps_le_iff ha hb).mpr q)))
theorem ps_s_eq0 {a : Nat} (hc : ps_j0 y pc .eq t nx) (ha : a < 2147483648) (K1 : a = 0 → ps_X G d y t ls st h Q) (K2 : ¬ (a = 0) → ps_X G d y nx ls st h Q) : ps_X G d y pc ls (iN a :: st) h Q :=
  have hb : 0 < 2147483648 := by decide
  ps_s_j0 hc (fun e => K1 ((ps_eq_iff ha hb).mp (of_decide_eq_true e))) (fun e => K2 (fun q => of_decide_eq_false e ((ps_eq_iff ha hb).mpr q)))
theorem ps_s_ne0 {a : Nat} (hc : ps_j0 y pc .ne t nx) (ha : a < 2147483648) (K1 : ¬ a = 0 → ps_X G d y t ls st h Q) (K2 : ¬ (¬ a = 0) → ps_X G d y nx ls st h Q) : ps_X G d y pc ls (iN a :: st) h Q :=
  have hb : 0 < 2147483648 := by decide
  ps_s_j0 hc (fun e => K1 ((not_congr (ps_eq_iff ha hb)).mp (of_decide_eq_true e))) (fun e => K2 (fun q => of_decide_eq_false e ((not_congr (ps_eq_iff ha hb)).mpr q)))
/-! the store -/
theorem ps_s_gf {ci k a : Nat} {fs : List Value} {v : Value} (hc : ps_gf y pc ci k nx) (ha : h.1 a = some (pm_o ci fs)) (hv : fs[k]? = some v) (K : ps_X G d y nx ls (v :: st) h Q) : ps_X G d y pc ls (.ref a :: st) h Q := by
  obtain ⟨idx, f, h1, h2, h3⟩ := hc
  exact ps_x1 (ps_n_heap h1 rfl rfl (by unfold pm_heap; dsimp only; rw [ha]; dsimp only; rw [h2]; dsimp only; rw [h3]; dsimp only; rw [hv])) K
theorem ps_s_pf {ci k a : Nat} {ty : FieldType} {fs : List Value} {v : Value} (hc : ps_pf y pc ci k ty nx) (ha : h.1 a = some (pm_o ci fs)) (hg : G.1 ≤ a) (hv : pm_fit ty v = true) (hk : k < fs.length) (K : ps_X G d y nx ls st (pm_put h a (pm_o ci (fs.set k v))) Q) : ps_X G d y pc ls (v :: .ref a :: st) h Q := by
  obtain ⟨idx, f, h1, h2, h3, h4, h5⟩ := hc
  exact ps_x1 (ps_n_heap h1 rfl rfl (by unfold pm_heap; dsimp only; rw [ha]; dsimp only; rw [h2]; dsimp only; rw [h3]; dsimp only; rw [if_pos ⟨hg, by rw [h4]; exact hv, h5, hk⟩])) K
theorem ps_ok_ix {j n : Nat} (hj : j < n) (hn : n < 2147483648) : ¬ (Int32.ofNat j < 0 ∨ n ≤ (Int32.ofNat j).toNatClampNeg) := by
  rw [Int32.toNatClampNeg_ofNat_of_lt (by simp; omega)]
  rintro (e | e)
  · have := (ps_lt_iff (a := j) (b := 0) (by omega) (by omega)).mp e; omega
  · omega
theorem ps_cl_ix {j n : Nat} (hj : j < n) (hn : n < 2147483648) : (Int32.ofNat j).toNatClampNeg = j := Int32.toNatClampNeg_ofNat_of_lt (by simp; omega)
theorem ps_s_al0 {a n : Nat} {f : Nat → Int32} (hc : ps_pu y pc .arraylength nx) (ha : h.1 a = some (pm_a 0 n f)) (K : ps_X G d y nx ls (iN n :: st) h Q) : ps_X G d y pc ls (.ref a :: st) h Q :=
  ps_x1 (ps_n_heap hc rfl rfl (by unfold pm_heap; dsimp only; rw [ha]; rfl)) K
theorem ps_s_alr {a n : Nat} {f : Nat → Option Nat} (hc : ps_pu y pc .arraylength nx) (ha : h.1 a = some (pm_r n f)) (K : ps_X G d y nx ls (iN n :: st) h Q) : ps_X G d y pc ls (.ref a :: st) h Q :=
  ps_x1 (ps_n_heap hc rfl rfl (by unfold pm_heap; dsimp only; rw [ha])) K
theorem ps_s_ia {a n j : Nat} {f : Nat → Int32} (hc : ps_pu y pc .iaload nx) (ha : h.1 a = some (pm_a 0 n f)) (hj : j < n) (hn : n < 2147483648) (K : ps_X G d y nx ls (.int (f j) :: st) h Q) : ps_X G d y pc ls (iN j :: .ref a :: st) h Q :=
  ps_x1 (ps_n_heap hc rfl rfl (by unfold pm_heap; dsimp only; rw [ha]; refine (if_neg (ps_ok_ix hj hn)).trans ?_; rw [ps_cl_ix hj hn])) K
theorem ps_s_ba {a n j : Nat} {f : Nat → Int32} (hc : ps_pu y pc .baload nx) (ha : h.1 a = some (pm_a 1 n f)) (hg : G.1 ≤ a) (hj : j < n) (hn : n < 2147483648) (K : ps_X G d y nx ls (.int (f j) :: st) h Q) : ps_X G d y pc ls (iN j :: .ref a :: st) h Q :=
  ps_x1 (ps_n_heap hc rfl rfl (by unfold pm_heap; dsimp only; rw [ha]; refine (if_neg (fun e => e.elim (ps_ok_ix hj hn) (Nat.not_lt.mpr hg))).trans ?_; rw [ps_cl_ix hj hn])) K
theorem ps_s_aa {a n j : Nat} {f : Nat → Option Nat} (hc : ps_pu y pc .aaload nx) (ha : h.1 a = some (pm_r n f)) (hg : G.1 ≤ a) (hj : j < n) (hn : n < 2147483648) (K : ps_X G d y nx ls (va_rf (f j) :: st) h Q) : ps_X G d y pc ls (iN j :: .ref a :: st) h Q :=
  ps_x1 (ps_n_heap hc rfl rfl (by unfold pm_heap; dsimp only; rw [ha]; refine (if_neg (fun e => e.elim (ps_ok_ix hj hn) (Nat.not_lt.mpr hg))).trans ?_; rw [ps_cl_ix hj hn])) K
theorem ps_s_la {a n j : Nat} {f : Nat → Int64} (hc : ps_pu y pc .laload nx) (ha : h.1 a = some (pm_l n f)) (hg : G.1 ≤ a) (hj : j < n) (hn : n < 2147483648) (K : ps_X G d y nx ls (.long (f j) :: st) h Q) : ps_X G d y pc ls (iN j :: .ref a :: st) h Q :=
  ps_x1 (ps_n_heap hc rfl rfl (by unfold pm_heap; dsimp only; rw [ha]; refine (if_neg (fun e => e.elim (ps_ok_ix hj hn) (Nat.not_lt.mpr hg))).trans ?_; rw [ps_cl_ix hj hn])) K
theorem ps_s_ias {a n j : Nat} {f : Nat → Int32} {x : Int32} (hc : ps_pu y pc .iastore nx) (ha : h.1 a = some (pm_a 0 n f)) (hg : G.1 ≤ a) (hj : j < n) (hn : n < 2147483648) (K : ps_X G d y nx ls st (pm_put h a (pm_a 0 n (upd f j x))) Q) : ps_X G d y pc ls (.int x :: iN j :: .ref a :: st) h Q :=
  ps_x1 (ps_n_heap hc rfl rfl (by unfold pm_heap; dsimp only; rw [ha]; refine (if_neg (fun e => e.elim (ps_ok_ix hj hn) (Nat.not_lt.mpr hg))).trans ?_; rw [ps_cl_ix hj hn])) K
theorem ps_s_bas {a n j : Nat} {f : Nat → Int32} {x : Int32} (hc : ps_pu y pc .bastore nx) (ha : h.1 a = some (pm_a 1 n f)) (hg : G.1 ≤ a) (hj : j < n) (hn : n < 2147483648) (hx : x = 0 ∨ x = 1) (K : ps_X G d y nx ls st (pm_put h a (pm_a 1 n (upd f j x))) Q) : ps_X G d y pc ls (.int x :: iN j :: .ref a :: st) h Q :=
  ps_x1 (ps_n_heap hc rfl rfl (by unfold pm_heap; dsimp only; rw [ha]; refine (if_neg (fun e => e.elim (ps_ok_ix hj hn) (fun e => e.elim (Nat.not_lt.mpr hg) (fun e => e hx)))).trans ?_; rw [ps_cl_ix hj hn])) K
theorem ps_s_las {a n j : Nat} {f : Nat → Int64} {x : Int64} (hc : ps_pu y pc .lastore nx) (ha : h.1 a = some (pm_l n f)) (hg : G.1 ≤ a) (hj : j < n) (hn : n < 2147483648) (K : ps_X G d y nx ls st (pm_put h a (pm_l n (vp_updL f j x))) Q) : ps_X G d y pc ls (.long x :: iN j :: .ref a :: st) h Q :=
  ps_x1 (ps_n_heap hc rfl rfl (by unfold pm_heap; dsimp only; rw [ha]; refine (if_neg (fun e => e.elim (ps_ok_ix hj hn) (Nat.not_lt.mpr hg))).trans ?_; rw [ps_cl_ix hj hn])) K
theorem ps_s_aasn {a n j : Nat} {f : Nat → Option Nat} (hc : ps_pu y pc .aastore nx) (ha : h.1 a = some (pm_r n f)) (hg : G.1 ≤ a) (hj : j < n) (hn : n < 2147483648) (K : ps_X G d y nx ls st (pm_put h a (pm_r n (va_up f j none))) Q) : ps_X G d y pc ls (.null :: iN j :: .ref a :: st) h Q :=
  ps_x1 (ps_n_heap hc rfl rfl (by unfold pm_heap; dsimp only; rw [ha]; refine (if_neg (fun e => e.elim (ps_ok_ix hj hn) (Nat.not_lt.mpr hg))).trans ?_; rw [ps_cl_ix hj hn])) K
theorem ps_s_aas {a n j v ci : Nat} {fs : List Value} {f : Nat → Option Nat} (hc : ps_pu y pc .aastore nx) (hv : h.1 v = some (pm_o ci fs)) (hob : pm_ob ci = true) (ha : h.1 a = some (pm_r n f)) (hg : G.1 ≤ a) (hj : j < n) (hn : n < 2147483648) (K : ps_X G d y nx ls st (pm_put h a (pm_r n (va_up f j (some v)))) Q) : ps_X G d y pc ls (.ref v :: iN j :: .ref a :: st) h Q :=
  ps_x1 (ps_n_heap hc rfl rfl (by unfold pm_heap; dsimp only; rw [hv]; dsimp only [pm_o]; rw [ha]; refine (if_neg (fun e => e.elim (ps_ok_ix hj hn) (fun e => e.elim (Nat.not_lt.mpr hg) (fun e => Bool.noConfusion (hob.symm.trans e))))).trans ?_; rw [ps_cl_ix hj hn])) K
theorem ps_na_ok {n : Nat} (hn : n ≤ 65536) : ¬ (Int32.ofNat n < 0 ∨ 65536 < (Int32.ofNat n).toNatClampNeg) := by
  rw [Int32.toNatClampNeg_ofNat_of_lt (by simp; omega)]
  rintro (e | e)
  · have := (ps_lt_iff (a := n) (b := 0) (by omega) (by omega)).mp e; omega
  · omega
theorem ps_na_cl {n : Nat} (hn : n ≤ 65536) : (Int32.ofNat n).toNatClampNeg = n := Int32.toNatClampNeg_ofNat_of_lt (by simp; omega)
theorem ps_s_nai {n : Nat} (hc : ps_pu y pc (.newarray .int) nx) (hn : n ≤ 65536) (K : ps_X G d y nx ls (.ref h.2.1 :: st) (pm_add h (pm_a 0 n (fun _ => 0)) n) Q) : ps_X G d y pc ls (iN n :: st) h Q :=
  ps_x1 (ps_n_heap hc rfl rfl (by unfold pm_heap; dsimp only; rw [if_neg (ps_na_ok hn), ps_na_cl hn])) K
theorem ps_s_nab {n : Nat} (hc : ps_pu y pc (.newarray .boolean) nx) (hn : n ≤ 65536) (K : ps_X G d y nx ls (.ref h.2.1 :: st) (pm_add h (pm_a 1 n (fun _ => 0)) n) Q) : ps_X G d y pc ls (iN n :: st) h Q :=
  ps_x1 (ps_n_heap hc rfl rfl (by unfold pm_heap; dsimp only; rw [if_neg (ps_na_ok hn), ps_na_cl hn])) K
theorem ps_s_nal {n : Nat} (hc : ps_pu y pc (.newarray .long) nx) (hn : n ≤ 65536) (K : ps_X G d y nx ls (.ref h.2.1 :: st) (pm_add h (pm_l n (fun _ => 0)) n) Q) : ps_X G d y pc ls (iN n :: st) h Q :=
  ps_x1 (ps_n_heap hc rfl rfl (by unfold pm_heap; dsimp only; rw [if_neg (ps_na_ok hn), ps_na_cl hn])) K
theorem ps_s_nar {n idx : Nat} (hc : ps_pu y pc (.anewarray idx) nx) (hal : pm_al (pm_own y) idx = true) (hn : n ≤ 65536) (K : ps_X G d y nx ls (.ref h.2.1 :: st) (pm_add h (pm_r n (fun _ => none)) n) Q) : ps_X G d y pc ls (iN n :: st) h Q :=
  ps_x1 (ps_n_heap hc rfl rfl (by unfold pm_heap; dsimp only; rw [if_neg (fun e => e.elim (fun e => ps_na_ok hn (.inl e)) (fun e => e.elim (fun e => ps_na_ok hn (.inr e)) (fun e => Bool.noConfusion (hal.symm.trans e)))), ps_na_cl hn])) K
theorem ps_s_nw {ci : Nat} (hc : ps_nw y pc ci nx) (K : ps_X G d y nx ls (.ref h.2.1 :: st) (pm_add h (pm_o ci (pm_zero ci)) (pm_zero ci).length) Q) : ps_X G d y pc ls st h Q := by
  obtain ⟨idx, h1, h2⟩ := hc
  exact ps_x1 (ps_n_heap h1 rfl rfl (by unfold pm_heap; dsimp only; rw [h2])) K
theorem ps_s_gs {idx : Nat} (hc : ps_pu y pc (.getstatic idx) nx) (hs : pm_sl (pm_own y) idx = true) (K : ps_X G d y nx ls (.ref G.2.2 :: st) h Q) : ps_X G d y pc ls st h Q :=
  ps_x1 (ps_n_heap hc rfl rfl (by unfold pm_heap; dsimp only; rw [if_pos hs])) K
theorem ps_s_ldi {idx : Nat} {v : Int32} (hc : ps_pu y pc (.ldc idx) nx) (hs : pm_il (pm_own y) idx = some v) (K : ps_X G d y nx ls (.int v :: st) h Q) : ps_X G d y pc ls st h Q :=
  ps_x1 (ps_n_heap hc rfl rfl (by unfold pm_heap; dsimp only; rw [hs])) K
theorem ps_s_ldm {idx : Nat} (hc : ps_pu y pc (.ldc idx) nx) (hs : pm_il (pm_own y) idx = none) (hm : pm_dl (pm_own y) idx = true) (K : ps_X G d y nx ls (.ref G.2.1 :: st) h Q) : ps_X G d y pc ls st h Q :=
  ps_x1 (ps_n_heap hc rfl rfl (by unfold pm_heap; dsimp only; rw [hs]; dsimp only; rw [if_pos hm])) K
theorem ps_s_ldw {idx : Nat} {v : Int32} (hc : ps_pu y pc (.ldc_w idx) nx) (hs : pm_il (pm_own y) idx = some v) (K : ps_X G d y nx ls (.int v :: st) h Q) : ps_X G d y pc ls st h Q :=
  ps_x1 (ps_n_heap hc rfl rfl (by unfold pm_heap; dsimp only; rw [hs])) K
theorem ps_s_ck {ci a : Nat} {fs : List Value} (hc : ps_ck y pc ci nx) (ha : h.1 a = some (pm_o ci fs)) (K : ps_X G d y nx ls (.ref a :: st) h Q) : ps_X G d y pc ls (.ref a :: st) h Q := by
  obtain ⟨idx, h1, h2⟩ := hc
  exact ps_x1 (ps_n_heap h1 rfl rfl (by unfold pm_heap; dsimp only; rw [ha]; dsimp only [pm_o]; rw [if_pos h2])) K
theorem ps_s_cki {n a : Nat} {f : Nat → Int32} (hc : ps_cki y pc nx) (ha : h.1 a = some (pm_a 0 n f)) (hg : G.1 ≤ a) (K : ps_X G d y nx ls (.ref a :: st) h Q) : ps_X G d y pc ls (.ref a :: st) h Q := by
  obtain ⟨idx, h1, h2⟩ := hc
  exact ps_x1 (ps_n_heap h1 rfl rfl (by unfold pm_heap; dsimp only; rw [ha]; exact if_pos ⟨h2, hg⟩)) K
theorem ps_s_cko {n a : Nat} {f : Nat → Option Nat} (hc : ps_cko y pc nx) (ha : h.1 a = some (pm_r n f)) (hg : G.1 ≤ a) (K : ps_X G d y nx ls (.ref a :: st) h Q) : ps_X G d y pc ls (.ref a :: st) h Q := by
  obtain ⟨idx, h1, h2⟩ := hc
  exact ps_x1 (ps_n_heap h1 rfl rfl (by unfold pm_heap; dsimp only; rw [ha]; exact if_pos ⟨h2, hg⟩)) K
/-! members without code, calls, ends -/
theorem ps_s_nt {k : Nat} (hc : ps_vN y pc k nx) (hp : pm_nat G k st h = some (st', h')) (K : ps_X G d y nx ls st' h' Q) : ps_X G d y pc ls st h Q := by
  obtain ⟨i, h1, h2, h3, h4, h5⟩ := hc
  exact ps_x1 (ps_n_nat h1 (h2 _ _) (h3 _) (h4 _ _ _) h5 hp) K
theorem ps_ble {a b : Nat} (h : Nat.ble a b = true) : a ≤ b := Nat.le_of_ble_eq_true h
theorem ps_s_vS {z : Nat} (as r : List Value) {n : Nat} (hc : ps_vS y pc z n nx) (he : as.reverse ++ r = st) (hn : as.length = n) (hw : Nat.ble (pm_wid r) 8 = true) (ho : as.all pm_one = true) (K : pm_call G d z as h (ps_bk G d y pc nx ls r Q)) : ps_X G d y pc ls st h Q := by
  obtain ⟨idx, h1, h2, h3, h4⟩ := hc
  subst he
  have hl : as.reverse.length = n := by rw [List.length_reverse, hn]
  refine ps_xc (ps_n_inv (z := z) (as := as) (r := r) h1 rfl rfl rfl h2 ?_) K
  unfold pm_inv
  dsimp only
  rw [h3]
  dsimp only
  rw [h4, List.drop_left' hl, List.take_left' hl, if_pos ⟨by rw [List.length_append, hl]; omega, ps_ble hw, by rw [List.all_reverse]; exact ho⟩, List.reverse_reverse]
theorem ps_s_vP {z b : Nat} (as r : List Value) {n : Nat} (hc : ps_vP y pc z n nx) (he : as.reverse ++ .ref b :: r = st) (hn : as.length = n) (hw : Nat.ble (pm_wid r) 8 = true) (ho : as.all pm_one = true) (K : pm_call G d z (.ref b :: as) h (ps_bk G d y pc nx ls r Q)) : ps_X G d y pc ls st h Q := by
  obtain ⟨idx, h1, h2, h3, h4⟩ := hc
  subst he
  have hl : as.reverse.length = n := by rw [List.length_reverse, hn]
  refine ps_xc (ps_n_inv (z := z) (as := .ref b :: as) (r := r) h1 rfl rfl rfl h2 ?_) K
  unfold pm_inv
  dsimp only
  rw [h3]
  dsimp only
  rw [h4, List.drop_left' hl, List.take_left' hl]
  dsimp only
  rw [if_pos ⟨ps_ble hw, by rw [List.all_reverse]; exact ho⟩, List.reverse_reverse]
theorem ps_s_vV {ci z b : Nat} {fs : List Value} (as r : List Value) {n : Nat} (hc : ps_vV y pc ci z n nx) (he : as.reverse ++ .ref b :: r = st) (hb : h.1 b = some (pm_o ci fs)) (hn : as.length = n) (hw : Nat.ble (pm_wid r) 8 = true) (ho : as.all pm_one = true) (K : pm_call G d z (.ref b :: as) h (ps_bk G d y pc nx ls r Q)) : ps_X G d y pc ls st h Q := by
  obtain ⟨idx, x, h1, h2, h3, h4, h5⟩ := hc
  subst he
  have hl : as.reverse.length = n := by rw [List.length_reverse, hn]
  refine ps_xc (ps_n_inv (z := z) (as := .ref b :: as) (r := r) h1 rfl rfl rfl h2 ?_) K
  unfold pm_inv
  dsimp only
  rw [h3]
  dsimp only
  rw [h4, List.drop_left' hl, List.take_left' hl]
  dsimp only
  rw [hb]
  dsimp only
  rw [h5]
  dsimp only
  rw [if_pos ⟨ps_ble hw, by rw [List.all_reverse]; exact ho⟩, List.reverse_reverse]
theorem ps_s_rv (hc : ps_pu y pc .return_ nx) (hr : pm_ret y = none) (K : Q (.inl none) h) : ps_X G d y pc ls [] h Q :=
  ps_xe (ps_n_end hc rfl rfl rfl rfl rfl (by unfold pm_end; dsimp only; rw [if_pos hr])) K
theorem ps_s_ri {x : Int32} (hc : ps_pu y pc .ireturn nx) (hr : pm_ret y = some .int) (K : Q (.inl (some (.int x))) h) : ps_X G d y pc ls [.int x] h Q :=
  ps_xe (ps_n_end hc rfl rfl rfl rfl rfl (by unfold pm_end; dsimp only; rw [hr])) K
theorem ps_s_rz {x : Int32} (hc : ps_pu y pc .ireturn nx) (hr : pm_ret y = some .boolean) (hx : x = 0 ∨ x = 1) (K : Q (.inl (some (.int x))) h) : ps_X G d y pc ls [.int x] h Q :=
  ps_xe (ps_n_end hc rfl rfl rfl rfl rfl (by unfold pm_end; dsimp only; rw [hr]; dsimp only; rw [if_pos hx])) K
def ps_isr (r : Option FieldType) : Bool := match r with
  | some (.object _) => true
  | some (.array _) => true
  | _ => false
theorem ps_s_ra {a : Nat} (hc : ps_pu y pc .areturn nx) (hr : ps_isr (pm_ret y) = true) (K : Q (.inl (some (.ref a))) h) : ps_X G d y pc ls [.ref a] h Q := by
  refine ps_xe (ps_n_end hc rfl rfl rfl rfl rfl ?_) K
  unfold pm_end
  dsimp only
  unfold ps_isr at hr
  split at hr
  · next e => rw [e]
  · next e => rw [e]
  · cases hr
theorem ps_s_rn (hc : ps_pu y pc .areturn nx) (hr : ps_isr (pm_ret y) = true) (K : Q (.inl (some .null)) h) : ps_X G d y pc ls [.null] h Q := by
  refine ps_xe (ps_n_end hc rfl rfl rfl rfl rfl ?_) K
  unfold pm_end
  dsimp only
  unfold ps_isr at hr
  split at hr
  · next e => rw [e]
  · next e => rw [e]
  · cases hr
theorem ps_s_th {k : Nat} (hc : ps_th y pc k) (K : Q (.inr k) (pm_gap h 6)) : ps_X G d y pc ls [] h Q := by
  obtain ⟨idx, nx, h1, h2, h3, h4⟩ := hc
  exact ps_xe (ps_n_end h1 rfl rfl (by unfold pm_heap; dsimp only; rw [h2]) h4 rfl (by unfold pm_end; dsimp only; rw [h3])) K
theorem ps_M_in {k z : Nat} {as : List Value} {l0 : pm_V} (he : pm_ent z as = l0) (hl : as.length ≤ pm_mx z) (K : ∀ d, k ≤ d → ps_X G d z 0 l0 [] h Q) : ps_M G (k + 1) z as h Q := by
  intro d hd
  obtain ⟨e, rfl⟩ : ∃ e, d = e + 1 := ⟨d - 1, by omega⟩
  subst he
  exact ⟨hl, K e (by omega)⟩
theorem ps_M_mono {k z : Nat} {as : List Value} {Q' : pm_Q} (hq : ∀ w h', Q w h' → Q' w h') (K : ps_M G k z as h Q) : ps_M G k z as h Q' := fun d hd => pm_call_mono d _ _ _ _ _ hq (K d hd)
theorem ps_s_is0 {a0 : Option Value} {r : pm_V} {x : Int32} (hc : ps_si y pc 0 nx) (K : ps_X G d y nx (some (.int x) :: r) st h Q) : ps_X G d y pc (a0 :: r) (.int x :: st) h Q := ps_s_is hc (by simp only [List.length_cons]; omega) K
theorem ps_s_as0 {a0 : Option Value} {r : pm_V} {x : Nat} (hc : ps_sa y pc 0 nx) (K : ps_X G d y nx (some (.ref x) :: r) st h Q) : ps_X G d y pc (a0 :: r) (.ref x :: st) h Q := ps_s_as hc (by simp only [List.length_cons]; omega) K
theorem ps_s_asn0 {a0 : Option Value} {r : pm_V} (hc : ps_sa y pc 0 nx) (K : ps_X G d y nx (some .null :: r) st h Q) : ps_X G d y pc (a0 :: r) (.null :: st) h Q := ps_s_asn hc (by simp only [List.length_cons]; omega) K
theorem ps_s_in0 {r : pm_V} {x n : Nat} (hc : ps_pu y pc (.iinc 0 (n : Int)) nx) (K : ps_X G d y nx (some (iN (x + n)) :: r) st h Q) : ps_X G d y pc (some (iN x) :: r) st h Q := ps_s_iic hc rfl (by rw [ps_inc]; exact K)
theorem ps_s_de0 {r : pm_V} {x : Nat} (hc : ps_pu y pc (.iinc 0 (-1)) nx) (hx : 1 ≤ x) (K : ps_X G d y nx (some (iN (x - 1)) :: r) st h Q) : ps_X G d y pc (some (iN x) :: r) st h Q := ps_s_iic hc rfl (by rw [ps_dec _ hx]; exact K)
theorem ps_s_is1 {a0 a1 : Option Value} {r : pm_V} {x : Int32} (hc : ps_si y pc 1 nx) (K : ps_X G d y nx (a0 :: some (.int x) :: r) st h Q) : ps_X G d y pc (a0 :: a1 :: r) (.int x :: st) h Q := ps_s_is hc (by simp only [List.length_cons]; omega) K
theorem ps_s_as1 {a0 a1 : Option Value} {r : pm_V} {x : Nat} (hc : ps_sa y pc 1 nx) (K : ps_X G d y nx (a0 :: some (.ref x) :: r) st h Q) : ps_X G d y pc (a0 :: a1 :: r) (.ref x :: st) h Q := ps_s_as hc (by simp only [List.length_cons]; omega) K
theorem ps_s_asn1 {a0 a1 : Option Value} {r : pm_V} (hc : ps_sa y pc 1 nx) (K : ps_X G d y nx (a0 :: some .null :: r) st h Q) : ps_X G d y pc (a0 :: a1 :: r) (.null :: st) h Q := ps_s_asn hc (by simp only [List.length_cons]; omega) K
theorem ps_s_in1 {a0 : Option Value} {r : pm_V} {x n : Nat} (hc : ps_pu y pc (.iinc 1 (n : Int)) nx) (K : ps_X G d y nx (a0 :: some (iN (x + n)) :: r) st h Q) : ps_X G d y pc (a0 :: some (iN x) :: r) st h Q := ps_s_iic hc rfl (by rw [ps_inc]; exact K)
theorem ps_s_de1 {a0 : Option Value} {r : pm_V} {x : Nat} (hc : ps_pu y pc (.iinc 1 (-1)) nx) (hx : 1 ≤ x) (K : ps_X G d y nx (a0 :: some (iN (x - 1)) :: r) st h Q) : ps_X G d y pc (a0 :: some (iN x) :: r) st h Q := ps_s_iic hc rfl (by rw [ps_dec _ hx]; exact K)
theorem ps_s_is2 {a0 a1 a2 : Option Value} {r : pm_V} {x : Int32} (hc : ps_si y pc 2 nx) (K : ps_X G d y nx (a0 :: a1 :: some (.int x) :: r) st h Q) : ps_X G d y pc (a0 :: a1 :: a2 :: r) (.int x :: st) h Q := ps_s_is hc (by simp only [List.length_cons]; omega) K
theorem ps_s_as2 {a0 a1 a2 : Option Value} {r : pm_V} {x : Nat} (hc : ps_sa y pc 2 nx) (K : ps_X G d y nx (a0 :: a1 :: some (.ref x) :: r) st h Q) : ps_X G d y pc (a0 :: a1 :: a2 :: r) (.ref x :: st) h Q := ps_s_as hc (by simp only [List.length_cons]; omega) K
theorem ps_s_asn2 {a0 a1 a2 : Option Value} {r : pm_V} (hc : ps_sa y pc 2 nx) (K : ps_X G d y nx (a0 :: a1 :: some .null :: r) st h Q) : ps_X G d y pc (a0 :: a1 :: a2 :: r) (.null :: st) h Q := ps_s_asn hc (by simp only [List.length_cons]; omega) K
theorem ps_s_in2 {a0 a1 : Option Value} {r : pm_V} {x n : Nat} (hc : ps_pu y pc (.iinc 2 (n : Int)) nx) (K : ps_X G d y nx (a0 :: a1 :: some (iN (x + n)) :: r) st h Q) : ps_X G d y pc (a0 :: a1 :: some (iN x) :: r) st h Q := ps_s_iic hc rfl (by rw [ps_inc]; exact K)
theorem ps_s_de2 {a0 a1 : Option Value} {r : pm_V} {x : Nat} (hc : ps_pu y pc (.iinc 2 (-1)) nx) (hx : 1 ≤ x) (K : ps_X G d y nx (a0 :: a1 :: some (iN (x - 1)) :: r) st h Q) : ps_X G d y pc (a0 :: a1 :: some (iN x) :: r) st h Q := ps_s_iic hc rfl (by rw [ps_dec _ hx]; exact K)
theorem ps_s_is3 {a0 a1 a2 a3 : Option Value} {r : pm_V} {x : Int32} (hc : ps_si y pc 3 nx) (K : ps_X G d y nx (a0 :: a1 :: a2 :: some (.int x) :: r) st h Q) : ps_X G d y pc (a0 :: a1 :: a2 :: a3 :: r) (.int x :: st) h Q := ps_s_is hc (by simp only [List.length_cons]; omega) K
theorem ps_s_as3 {a0 a1 a2 a3 : Option Value} {r : pm_V} {x : Nat} (hc : ps_sa y pc 3 nx) (K : ps_X G d y nx (a0 :: a1 :: a2 :: some (.ref x) :: r) st h Q) : ps_X G d y pc (a0 :: a1 :: a2 :: a3 :: r) (.ref x :: st) h Q := ps_s_as hc (by simp only [List.length_cons]; omega) K
theorem ps_s_asn3 {a0 a1 a2 a3 : Option Value} {r : pm_V} (hc : ps_sa y pc 3 nx) (K : ps_X G d y nx (a0 :: a1 :: a2 :: some .null :: r) st h Q) : ps_X G d y pc (a0 :: a1 :: a2 :: a3 :: r) (.null :: st) h Q := ps_s_asn hc (by simp only [List.length_cons]; omega) K
theorem ps_s_in3 {a0 a1 a2 : Option Value} {r : pm_V} {x n : Nat} (hc : ps_pu y pc (.iinc 3 (n : Int)) nx) (K : ps_X G d y nx (a0 :: a1 :: a2 :: some (iN (x + n)) :: r) st h Q) : ps_X G d y pc (a0 :: a1 :: a2 :: some (iN x) :: r) st h Q := ps_s_iic hc rfl (by rw [ps_inc]; exact K)
theorem ps_s_de3 {a0 a1 a2 : Option Value} {r : pm_V} {x : Nat} (hc : ps_pu y pc (.iinc 3 (-1)) nx) (hx : 1 ≤ x) (K : ps_X G d y nx (a0 :: a1 :: a2 :: some (iN (x - 1)) :: r) st h Q) : ps_X G d y pc (a0 :: a1 :: a2 :: some (iN x) :: r) st h Q := ps_s_iic hc rfl (by rw [ps_dec _ hx]; exact K)
theorem ps_s_is4 {a0 a1 a2 a3 a4 : Option Value} {r : pm_V} {x : Int32} (hc : ps_si y pc 4 nx) (K : ps_X G d y nx (a0 :: a1 :: a2 :: a3 :: some (.int x) :: r) st h Q) : ps_X G d y pc (a0 :: a1 :: a2 :: a3 :: a4 :: r) (.int x :: st) h Q := ps_s_is hc (by simp only [List.length_cons]; omega) K
theorem ps_s_as4 {a0 a1 a2 a3 a4 : Option Value} {r : pm_V} {x : Nat} (hc : ps_sa y pc 4 nx) (K : ps_X G d y nx (a0 :: a1 :: a2 :: a3 :: some (.ref x) :: r) st h Q) : ps_X G d y pc (a0 :: a1 :: a2 :: a3 :: a4 :: r) (.ref x :: st) h Q := ps_s_as hc (by simp only [List.length_cons]; omega) K
theorem ps_s_asn4 {a0 a1 a2 a3 a4 : Option Value} {r : pm_V} (hc : ps_sa y pc 4 nx) (K : ps_X G d y nx (a0 :: a1 :: a2 :: a3 :: some .null :: r) st h Q) : ps_X G d y pc (a0 :: a1 :: a2 :: a3 :: a4 :: r) (.null :: st) h Q := ps_s_asn hc (by simp only [List.length_cons]; omega) K
theorem ps_s_in4 {a0 a1 a2 a3 : Option Value} {r : pm_V} {x n : Nat} (hc : ps_pu y pc (.iinc 4 (n : Int)) nx) (K : ps_X G d y nx (a0 :: a1 :: a2 :: a3 :: some (iN (x + n)) :: r) st h Q) : ps_X G d y pc (a0 :: a1 :: a2 :: a3 :: some (iN x) :: r) st h Q := ps_s_iic hc rfl (by rw [ps_inc]; exact K)
theorem ps_s_de4 {a0 a1 a2 a3 : Option Value} {r : pm_V} {x : Nat} (hc : ps_pu y pc (.iinc 4 (-1)) nx) (hx : 1 ≤ x) (K : ps_X G d y nx (a0 :: a1 :: a2 :: a3 :: some (iN (x - 1)) :: r) st h Q) : ps_X G d y pc (a0 :: a1 :: a2 :: a3 :: some (iN x) :: r) st h Q := ps_s_iic hc rfl (by rw [ps_dec _ hx]; exact K)
theorem ps_s_is5 {a0 a1 a2 a3 a4 a5 : Option Value} {r : pm_V} {x : Int32} (hc : ps_si y pc 5 nx) (K : ps_X G d y nx (a0 :: a1 :: a2 :: a3 :: a4 :: some (.int x) :: r) st h Q) : ps_X G d y pc (a0 :: a1 :: a2 :: a3 :: a4 :: a5 :: r) (.int x :: st) h Q := ps_s_is hc (by simp only [List.length_cons]; omega) K
theorem ps_s_as5 {a0 a1 a2 a3 a4 a5 : Option Value} {r : pm_V} {x : Nat} (hc : ps_sa y pc 5 nx) (K : ps_X G d y nx (a0 :: a1 :: a2 :: a3 :: a4 :: some (.ref x) :: r) st h Q) : ps_X G d y pc (a0 :: a1 :: a2 :: a3 :: a4 :: a5 :: r) (.ref x :: st) h Q := ps_s_as hc (by simp only [List.length_cons]; omega) K
theorem ps_s_asn5 {a0 a1 a2 a3 a4 a5 : Option Value} {r : pm_V} (hc : ps_sa y pc 5 nx) (K : ps_X G d y nx (a0 :: a1 :: a2 :: a3 :: a4 :: some .null :: r) st h Q) : ps_X G d y pc (a0 :: a1 :: a2 :: a3 :: a4 :: a5 :: r) (.null :: st) h Q := ps_s_asn hc (by simp only [List.length_cons]; omega) K
theorem ps_s_in5 {a0 a1 a2 a3 a4 : Option Value} {r : pm_V} {x n : Nat} (hc : ps_pu y pc (.iinc 5 (n : Int)) nx) (K : ps_X G d y nx (a0 :: a1 :: a2 :: a3 :: a4 :: some (iN (x + n)) :: r) st h Q) : ps_X G d y pc (a0 :: a1 :: a2 :: a3 :: a4 :: some (iN x) :: r) st h Q := ps_s_iic hc rfl (by rw [ps_inc]; exact K)
theorem ps_s_de5 {a0 a1 a2 a3 a4 : Option Value} {r : pm_V} {x : Nat} (hc : ps_pu y pc (.iinc 5 (-1)) nx) (hx : 1 ≤ x) (K : ps_X G d y nx (a0 :: a1 :: a2 :: a3 :: a4 :: some (iN (x - 1)) :: r) st h Q) : ps_X G d y pc (a0 :: a1 :: a2 :: a3 :: a4 :: some (iN x) :: r) st h Q := ps_s_iic hc rfl (by rw [ps_dec _ hx]; exact K)
theorem ps_s_is6 {a0 a1 a2 a3 a4 a5 a6 : Option Value} {r : pm_V} {x : Int32} (hc : ps_si y pc 6 nx) (K : ps_X G d y nx (a0 :: a1 :: a2 :: a3 :: a4 :: a5 :: some (.int x) :: r) st h Q) : ps_X G d y pc (a0 :: a1 :: a2 :: a3 :: a4 :: a5 :: a6 :: r) (.int x :: st) h Q := ps_s_is hc (by simp only [List.length_cons]; omega) K
theorem ps_s_as6 {a0 a1 a2 a3 a4 a5 a6 : Option Value} {r : pm_V} {x : Nat} (hc : ps_sa y pc 6 nx) (K : ps_X G d y nx (a0 :: a1 :: a2 :: a3 :: a4 :: a5 :: some (.ref x) :: r) st h Q) : ps_X G d y pc (a0 :: a1 :: a2 :: a3 :: a4 :: a5 :: a6 :: r) (.ref x :: st) h Q := ps_s_as hc (by simp only [List.length_cons]; omega) K
theorem ps_s_asn6 {a0 a1 a2 a3 a4 a5 a6 : Option Value} {r : pm_V} (hc : ps_sa y pc 6 nx) (K : ps_X G d y nx (a0 :: a1 :: a2 :: a3 :: a4 :: a5 :: some .null :: r) st h Q) : ps_X G d y pc (a0 :: a1 :: a2 :: a3 :: a4 :: a5 :: a6 :: r) (.null :: st) h Q := ps_s_asn hc (by simp only [List.length_cons]; omega) K
theorem ps_s_in6 {a0 a1 a2 a3 a4 a5 : Option Value} {r : pm_V} {x n : Nat} (hc : ps_pu y pc (.iinc 6 (n : Int)) nx) (K : ps_X G d y nx (a0 :: a1 :: a2 :: a3 :: a4 :: a5 :: some (iN (x + n)) :: r) st h Q) : ps_X G d y pc (a0 :: a1 :: a2 :: a3 :: a4 :: a5 :: some (iN x) :: r) st h Q := ps_s_iic hc rfl (by rw [ps_inc]; exact K)
theorem ps_s_de6 {a0 a1 a2 a3 a4 a5 : Option Value} {r : pm_V} {x : Nat} (hc : ps_pu y pc (.iinc 6 (-1)) nx) (hx : 1 ≤ x) (K : ps_X G d y nx (a0 :: a1 :: a2 :: a3 :: a4 :: a5 :: some (iN (x - 1)) :: r) st h Q) : ps_X G d y pc (a0 :: a1 :: a2 :: a3 :: a4 :: a5 :: some (iN x) :: r) st h Q := ps_s_iic hc rfl (by rw [ps_dec _ hx]; exact K)
theorem ps_s_is7 {a0 a1 a2 a3 a4 a5 a6 a7 : Option Value} {r : pm_V} {x : Int32} (hc : ps_si y pc 7 nx) (K : ps_X G d y nx (a0 :: a1 :: a2 :: a3 :: a4 :: a5 :: a6 :: some (.int x) :: r) st h Q) : ps_X G d y pc (a0 :: a1 :: a2 :: a3 :: a4 :: a5 :: a6 :: a7 :: r) (.int x :: st) h Q := ps_s_is hc (by simp only [List.length_cons]; omega) K
theorem ps_s_as7 {a0 a1 a2 a3 a4 a5 a6 a7 : Option Value} {r : pm_V} {x : Nat} (hc : ps_sa y pc 7 nx) (K : ps_X G d y nx (a0 :: a1 :: a2 :: a3 :: a4 :: a5 :: a6 :: some (.ref x) :: r) st h Q) : ps_X G d y pc (a0 :: a1 :: a2 :: a3 :: a4 :: a5 :: a6 :: a7 :: r) (.ref x :: st) h Q := ps_s_as hc (by simp only [List.length_cons]; omega) K
theorem ps_s_asn7 {a0 a1 a2 a3 a4 a5 a6 a7 : Option Value} {r : pm_V} (hc : ps_sa y pc 7 nx) (K : ps_X G d y nx (a0 :: a1 :: a2 :: a3 :: a4 :: a5 :: a6 :: some .null :: r) st h Q) : ps_X G d y pc (a0 :: a1 :: a2 :: a3 :: a4 :: a5 :: a6 :: a7 :: r) (.null :: st) h Q := ps_s_asn hc (by simp only [List.length_cons]; omega) K
theorem ps_s_in7 {a0 a1 a2 a3 a4 a5 a6 : Option Value} {r : pm_V} {x n : Nat} (hc : ps_pu y pc (.iinc 7 (n : Int)) nx) (K : ps_X G d y nx (a0 :: a1 :: a2 :: a3 :: a4 :: a5 :: a6 :: some (iN (x + n)) :: r) st h Q) : ps_X G d y pc (a0 :: a1 :: a2 :: a3 :: a4 :: a5 :: a6 :: some (iN x) :: r) st h Q := ps_s_iic hc rfl (by rw [ps_inc]; exact K)
theorem ps_s_de7 {a0 a1 a2 a3 a4 a5 a6 : Option Value} {r : pm_V} {x : Nat} (hc : ps_pu y pc (.iinc 7 (-1)) nx) (hx : 1 ≤ x) (K : ps_X G d y nx (a0 :: a1 :: a2 :: a3 :: a4 :: a5 :: a6 :: some (iN (x - 1)) :: r) st h Q) : ps_X G d y pc (a0 :: a1 :: a2 :: a3 :: a4 :: a5 :: a6 :: some (iN x) :: r) st h Q := ps_s_iic hc rfl (by rw [ps_dec _ hx]; exact K)
theorem ps_s_is8 {a0 a1 a2 a3 a4 a5 a6 a7 a8 : Option Value} {r : pm_V} {x : Int32} (hc : ps_si y pc 8 nx) (K : ps_X G d y nx (a0 :: a1 :: a2 :: a3 :: a4 :: a5 :: a6 :: a7 :: some (.int x) :: r) st h Q) : ps_X G d y pc (a0 :: a1 :: a2 :: a3 :: a4 :: a5 :: a6 :: a7 :: a8 :: r) (.int x :: st) h Q := ps_s_is hc (by simp only [List.length_cons]; omega) K
theorem ps_s_as8 {a0 a1 a2 a3 a4 a5 a6 a7 a8 : Option Value} {r : pm_V} {x : Nat} (hc : ps_sa y pc 8 nx) (K : ps_X G d y nx (a0 :: a1 :: a2 :: a3 :: a4 :: a5 :: a6 :: a7 :: some (.ref x) :: r) st h Q) : ps_X G d y pc (a0 :: a1 :: a2 :: a3 :: a4 :: a5 :: a6 :: a7 :: a8 :: r) (.ref x :: st) h Q := ps_s_as hc (by simp only [List.length_cons]; omega) K
theorem ps_s_asn8 {a0 a1 a2 a3 a4 a5 a6 a7 a8 : Option Value} {r : pm_V} (hc : ps_sa y pc 8 nx) (K : ps_X G d y nx (a0 :: a1 :: a2 :: a3 :: a4 :: a5 :: a6 :: a7 :: some .null :: r) st h Q) : ps_X G d y pc (a0 :: a1 :: a2 :: a3 :: a4 :: a5 :: a6 :: a7 :: a8 :: r) (.null :: st) h Q := ps_s_asn hc (by simp only [List.length_cons]; omega) K
theorem ps_s_in8 {a0 a1 a2 a3 a4 a5 a6 a7 : Option Value} {r : pm_V} {x n : Nat} (hc : ps_pu y pc (.iinc 8 (n : Int)) nx) (K : ps_X G d y nx (a0 :: a1 :: a2 :: a3 :: a4 :: a5 :: a6 :: a7 :: some (iN (x + n)) :: r) st h Q) : ps_X G d y pc (a0 :: a1 :: a2 :: a3 :: a4 :: a5 :: a6 :: a7 :: some (iN x) :: r) st h Q := ps_s_iic hc rfl (by rw [ps_inc]; exact K)
theorem ps_s_de8 {a0 a1 a2 a3 a4 a5 a6 a7 : Option Value} {r : pm_V} {x : Nat} (hc : ps_pu y pc (.iinc 8 (-1)) nx) (hx : 1 ≤ x) (K : ps_X G d y nx (a0 :: a1 :: a2 :: a3 :: a4 :: a5 :: a6 :: a7 :: some (iN (x - 1)) :: r) st h Q) : ps_X G d y pc (a0 :: a1 :: a2 :: a3 :: a4 :: a5 :: a6 :: a7 :: some (iN x) :: r) st h Q := ps_s_iic hc rfl (by rw [ps_dec _ hx]; exact K)
end PMX
