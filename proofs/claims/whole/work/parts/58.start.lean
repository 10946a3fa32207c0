/-! What is known when the law begins. -/
def pm_g0 : List Cond := flatC (Cond.and given_1 narrow_1)
theorem pm_v_arr : pm_g0[5]? = some (Jvm.Cond.arrayOf (Jvm.Term.static "java/util/ArrayList" "DEFAULTCAPACITY_EMPTY_ELEMENTDATA" "[Ljava/lang/Object;") (Jvm.ClassFile.FieldType.object "java/lang/Object")) := by decide +kernel
theorem pm_v_len : pm_g0[7]? = some (Jvm.Cond.eq (Jvm.Term.length (Jvm.Term.static "java/util/ArrayList" "DEFAULTCAPACITY_EMPTY_ELEMENTDATA" "[Ljava/lang/Object;")) (Jvm.Term.int (0 : Int32))) := by decide +kernel
theorem pm_v_una : pm_g0[8]? = some (Jvm.Cond.isRef (Jvm.Term.static "java/lang/Throwable" "UNASSIGNED_STACK" "[Ljava/lang/StackTraceElement;")) := by decide +kernel
theorem pm_v_sen : pm_g0[9]? = some (Jvm.Cond.isRef (Jvm.Term.static "java/lang/Throwable" "SUPPRESSED_SENTINEL" "Ljava/util/List;")) := by decide +kernel
theorem pm_v_mir : pm_g0[46]? = some (Jvm.Cond.isRef (Jvm.Term.mirror "[Ljava/lang/Object;")) := by decide +kernel
def pm_stx (i : Nat) : Nat := ([47, 58, 80, 107, 154, 191, 221, 238, 265, 294, 329, 358, 381] : List Nat).getD i 0
def pm_sty (i : Nat) : Nat := ([330, 366, 397, 398, 601, 626, 632, 640, 667, 677, 685, 714, 761] : List Nat).getD i 0
theorem pm_v_str : ∀ i, i < 13 → pm_g0[pm_stx i]? = some (.exactly (.string "PostingShelf" (pm_strL.getD i (0, "")).1) "java/lang/String") ∧ lw_tbl[pm_sty i]? = some (.stringRef "PostingShelf" (pm_strL.getD i (0, "")).1 (pm_strL.getD i (0, "")).2) := by decide +kernel
def pm_ncx (i j : Nat) : Nat := (([[0, 28, 40], [16, 0, 41], [20, 32, 0]] : List (List Nat)).getD i []).getD j 0
theorem pm_v_nc : ∀ i, i < 3 → ∀ j, j < 3 → i ≠ j → pm_g0[pm_ncx i j]? = some (.not (.castable (pm_xn i) (pm_xn j))) := by decide +kernel
theorem pm_v_lal : lw_tbl[99]? = some (.laysStatic "java/util/ArrayList" "DEFAULTCAPACITY_EMPTY_ELEMENTDATA" "[Ljava/lang/Object;") := by decide +kernel
theorem pm_v_lun : lw_tbl[316]? = some (.laysStatic "java/lang/Throwable" "UNASSIGNED_STACK" "[Ljava/lang/StackTraceElement;") := by decide +kernel
theorem pm_v_lse : lw_tbl[318]? = some (.laysStatic "java/lang/Throwable" "SUPPRESSED_SENTINEL" "Ljava/util/List;") := by decide +kernel
theorem pm_v_ial : lw_tbl[39]? = some (.initialized "java/util/ArrayList") := by decide +kernel
theorem pm_v_ao : lw_tbl[486]? = some (.arrayOver (.object "java/lang/Object")) := by decide +kernel
def pm_cti (c : Nat) : Nat := ([62, 70, 87, 113, 129, 399, 556, 642, 687, 771] : List Nat).getD c 0
theorem pm_v_ct : ∀ c, c < 10 → lw_tbl[pm_cti c]? = some (.instantiable (pm_cn c) (pm_cfs c).length) := by decide +kernel
theorem pm_sw0.of {C n d : String} {s : State} {args : Array Value} (hl : (Cond.laysStatic C n d).before args s = true) (hr : (Cond.isRef (.static C n d)).before args s = true) : pm_sw0 C n d s.heap s := by
  obtain ⟨c, k, i, f, a, cell, hc, hi, hst, ha, hcell, hs, hcls, hlt, hty⟩ := Cond.laysStatic_spec hl
  obtain ⟨v, hv, hvr⟩ := Cond.isRef_spec hr
  obtain ⟨hst', a', cell', ha', hcell', -, hslot⟩ := Term.static_spec hi hv
  cases ha.symm.trans ha'
  cases hcell.symm.trans hcell'
  exact ⟨c, k, i, f, a, cell, v, hc, hi, hst, ha, hcell, hs, hcls, hlt, hty, hslot, hvr⟩
theorem pm_arg {w : Cond} (hw : pm_mv0 w = true) {s : State} {a : Array Value} (h : w.before a s = true) (a' : Array Value) : w.before a' s = true := by
  unfold pm_mv0 at hw
  rcases Bool.or_eq_true_iff.mp hw with hg | hg
  · exact word_at (State.WarmedH.refl s) (good_of_word hg) h
  · split at hg
    · exact va_any rfl h
    · exact va_any rfl h
    · exact va_any rfl h
    · cases hg
theorem pm_arrOf {s : State} {a : Array Value} {ty : FieldType} (hne : ∀ C, ty ≠ .object C) (h : (Cond.arrayClass ty).before a s = true) : ∃ cA : ClassId, ArrOfT s cA ty ∧ va_RA s cA ty := by
  obtain ⟨c, k, comp, h1, h2, h3⟩ := Cond.arrayClass_spec h
  refine ⟨c, fun n z => ⟨fun k h => (by cases h), k, h2, comp, h3⟩, ?_⟩
  cases ty
  case object C => exact absurd rfl (hne C)
  all_goals exact h1
theorem pm_start {s : State} {args : Array Value} (hts : ∀ w ∈ lw_tbl, w.before args s = true) (hgv : (Cond.and given_1 narrow_1).before args s = true) :
    ∃ (D : va_G) (tC : Nat → ClassId) (mi em : Nat), pm_Kn D tC (s.heap.size, mi, em) s.heap s ∧ va_T (.object pm_obj) em 0 (fun _ => .null) (fun q => s.heap.size ≤ q) s s.heap := by
  have hA : ∀ a : Nat, a < s.heap.size → ¬ s.heap.size ≤ a := fun a h => by omega
  have hw : ∀ w ∈ lw_tbl, pm_mv0 w = true → ∀ a : Array Value, w.before a s = true := fun w h1 h2 a => pm_arg h2 (hts w h1) a
  have hg : ∀ {i : Nat} {w : Cond}, pm_g0[i]? = some w → w.before args s = true := fun h => flat_of_before _ hgv _ (List.mem_of_getElem? h)
  have h1 : ∀ c : Nat, ∃ q : ClassId × (Nat → Nat), c < 10 → u_Kn s (pm_cn c) (pm_T c) (pm_cfs c).length q.1 q.2 := by
    intro c
    by_cases hc : c < 10
    · obtain ⟨cC, iS, hk⟩ := u_known (T := pm_T c) (N := (pm_cfs c).length) hts (pm_lays hc) (hts _ (pm_in (pm_v_ct c hc)))
      exact ⟨(cC, iS), fun _ => hk⟩
    · exact ⟨(0, fun _ => 0), fun h => absurd h hc⟩
  obtain ⟨q, hq⟩ := Classical.axiomOfChoice h1
  obtain ⟨c0, a0, b0⟩ := pm_arrOf (fun C z => by cases z) (hts _ (pm_in pm_fa_int))
  obtain ⟨c1, a1, b1⟩ := pm_arrOf (fun C z => by cases z) (hts _ (pm_in pm_fa_boolean))
  obtain ⟨c2, a2, b2⟩ := pm_arrOf (fun C z => by cases z) (hts _ (pm_in pm_fa_long))
  have hao := hts _ (pm_in pm_v_ao)
  obtain ⟨comp, c3, k3, f1, f2, f3, f4, f5⟩ := Cond.arrayOver_spec hao
  have a3 : ArrOfT s c3 (.object pm_obj) := fun N z => ⟨(fun k h => by cases h), k3, f3, comp, f4⟩
  have b3 : va_RA s c3 (.object pm_obj) := ⟨k3, comp, f3, f4, f1, f5⟩
  obtain ⟨mi, hmi⟩ := va_Mi.of (hg pm_v_mir)
  obtain ⟨em, hem, hT⟩ := va_Tof (N := 0) (f := fun _ => Value.null) (A := fun q => s.heap.size ≤ q) (by decide) (hg pm_v_arr) (va_eqt (hg pm_v_len)) (fun j hj => absurd hj (Nat.not_lt_zero j)) hA
  refine ⟨(fun c => (q c).1, fun c => (q c).2), fun k => ([c0, c1, c2, c3] : List ClassId).getD k 0, mi, em, ⟨hw, ⟨fun c r hr => ?_, fun k r hr => ?_⟩, hao, hmi, va_Zof (hts _ (pm_in pm_v_lal)) (hts _ (pm_in pm_v_ial)) hem hA, fun en hen => ?_, pm_sw0.of (hts _ (pm_in pm_v_lun)) (hg pm_v_una), pm_sw0.of (hts _ (pm_in pm_v_lse)) (hg pm_v_sen), fun i j hi hj hij => va_Nc.of (hg (pm_v_nc i hi j hj hij))⟩, hT⟩
  · obtain ⟨hc, rfl⟩ := pm_cls_of hr
    exact hq c hc
  · match k, hr with
    | 0, hr => cases hr; exact ⟨a0, b0⟩
    | 1, hr => cases hr; exact ⟨a1, b1⟩
    | 2, hr => cases hr; exact ⟨a2, b2⟩
    | 3, hr => cases hr; exact ⟨a3, b3⟩
  · obtain ⟨i, hi⟩ := List.mem_iff_getElem?.mp hen
    have hlt : i < 13 := (List.getElem?_eq_some_iff.mp hi).1
    have hget : pm_strL.getD i (0, "") = en := by rw [List.getD_eq_getElem?_getD, hi]; rfl
    obtain ⟨v1, v2⟩ := pm_v_str i hlt
    rw [hget] at v1 v2
    obtain ⟨a, -, -, -, ha, -⟩ := Cond.exactly_spec (hg v1)
    refine ⟨a, ?_⟩
    have hsr := hts _ (pm_in v2)
    refine vk_R.of (A := args) hsr ?_
    exact ha
