/-! Where the methods throw, and what the tables say for it. -/
def pm_ic (k : Nat) : Nat := ([76, 86, 184] : List Nat).getD k 0
abbrev pm_xs : List String := ["java/lang/RuntimeException", "java/lang/Exception"]
def pm_thr (y : Nat) (q : Nat × Instr × Nat) : Bool := match q.2.1 with
  | .new idx => match pm_xl (pm_own y) idx with
    | none => true
    | some k => match pm_cat y (q.1 + 3), pm_cat y (q.1 + 4), pm_cat y (q.1 + 6), pm_cat y (q.1 + 9) with
      | some (.dup, 1), some (.ldc j, 2), some (.invokespecial ic, 3), some (.athrow, 1) => (pm_strL.lookup j).isSome && (ic == pm_ic k && (pm_on (pm_own y) == "PostingShelf" && (pm_hs y).isEmpty))
      | _, _, _, _ => false
  | _ => true
theorem pm_t1 : ∀ y, y < 141 → (pm_cod y).all (pm_thr y) = true := by decide +kernel
abbrev pm_a1 : Cond := .isRef (.static Bundle.tN "UNASSIGNED_STACK" Bundle.steD)
abbrev pm_a2 : Cond := .isRef (.static Bundle.tN "SUPPRESSED_SENTINEL" Bundle.listD)
abbrev pm_a3 : Cond := .laysStatic Bundle.tN "UNASSIGNED_STACK" Bundle.steD
abbrev pm_a4 : Cond := .laysStatic Bundle.tN "SUPPRESSED_SENTINEL" Bundle.listD
def pm_xi (k : Nat) : Nat := ([7, 7, 13] : List Nat).getD k 0
def pm_xb (k : Nat) : ByteArray := ([prog_15_method_2_code, prog_16_method_2_code, prog_30_method_4_code] : List ByteArray).getD k ByteArray.empty
/-- what making and throwing an exception with a message asks of the tables; ix, rx: the entry and the bytes of its own constructor -/
def pm_at0 (own : String) (ic : Nat) (X : String) (ix : Nat) (rx : ByteArray) (Y : String) (names : List String) : List Cond :=
  Bundle.throwableAtoms ++ Bundle.throwableSAtoms ++ Bundle.passSAtoms X Y ix rx ++ Bundle.chainSAtoms Y names ++
  [.methodLink own ic (Bundle.initS X), .instantiable X 6, .selects X Bundle.tFill0 Bundle.tFill0, .selects X Bundle.tFill Bundle.tFill,
   .lays X Bundle.tN "cause" "Ljava/lang/Throwable;", .lays X Bundle.tN "stackTrace" Bundle.steD, .lays X Bundle.tN "suppressedExceptions" Bundle.listD, .lays X Bundle.tN "detailMessage" "Ljava/lang/String;",
   pm_a1, pm_a2, .fieldLink Bundle.tN 198 Bundle.tN "backtrace" "Ljava/lang/Object;", .lays Bundle.tN Bundle.tN "backtrace" "Ljava/lang/Object;", .lays X Bundle.tN "backtrace" "Ljava/lang/Object;"]
theorem pm_t2 : ∀ k, k < 3 → ∀ w ∈ pm_at0 "PostingShelf" (pm_ic k) (pm_xn k) (pm_xi k) (pm_xb k) "java/lang/RuntimeException" ["java/lang/Exception"], (w ∈ lw_tbl ∧ pm_mv0 w = true) ∨ w = pm_a1 ∨ w = pm_a2 ∨ w = pm_a3 ∨ w = pm_a4 := by decide +kernel
theorem pm_t3 : ∀ k, k < 3 → Bundle.fit (pm_xn k) = true ∧ decode (pm_xb k) 0 = .ok (.aload_n 0, 1) ∧ decode (pm_xb k) 1 = .ok (.aload_n 1, 1) ∧ decode (pm_xb k) 2 = .ok (.invokespecial (pm_xi k), 3) ∧ decode (pm_xb k) 5 = .ok (.return_, 1) := by decide +kernel
def pm_xni (k : Nat) : Nat := ([290, 358, 669] : List Nat).getD k 0
def pm_xii (k : Nat) : Nat := ([47, 48, 59] : List Nat).getD k 0
theorem pm_t4 : ∀ k, k < 3 → lw_tbl[pm_xni k]? = some (.instantiable (pm_xn k) 6) ∧ lw_tbl[pm_xii k]? = some (.initialized (pm_xn k)) := by decide +kernel
