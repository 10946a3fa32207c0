/-! The words of the tables that the rows lean on. -/
theorem pm_in {i : Nat} {w : Cond} (h : lw_tbl[i]? = some w) : w ∈ lw_tbl := List.mem_of_getElem? h
def pm_lwL : List (List Nat) := [[163, 165, 167, 169, 171, 173, 175, 177, 179, 181], [80, 82], [105, 107, 109], [123, 125], [142, 144], [427, 429, 431, 433, 435], [577, 579, 581], [654, 656], [695, 697, 699, 701], [801, 803, 805, 807, 809, 811, 813, 815, 817, 819, 821, 823, 825, 827, 829, 831, 833, 835, 837, 839, 841, 843, 845, 847, 849]]
theorem pm_f1 : ∀ c, c < 10 → ∀ k, k < (pm_cfs c).length → lw_tbl[(pm_lwL.getD c []).getD k 0]? = some (u_lay (pm_cn c) (pm_T c) k) := by decide +kernel
theorem pm_f2 : ∀ c, c < 10 → ∀ k, k < (pm_cfs c).length → parseFieldDescriptor (pm_T c k).2.2.1 = some (pm_fty ((pm_cfs c).getD k 0)) := by decide +kernel
theorem pm_f3 : ∀ c, c < 10 → ∀ a, a < (pm_cfs c).length → ∀ b, b < (pm_cfs c).length → a ≠ b → (pm_T c a).2.1 ≠ (pm_T c b).2.1 := by decide +kernel
theorem pm_f4 : ∀ o, o < 19 → ∀ e ∈ pm_flL.getD o [], lw_tbl[e.2.2.2.1]? = some (.fieldLink (pm_on o) e.1 e.2.2.1 (pm_fd e.2.1).2.1 (pm_fd e.2.1).2.2.1) ∧ (e.2.2.1 = (pm_fd e.2.1).1 ∨ lw_tbl[e.2.2.2.2]? = some (.sameField e.2.2.1 (pm_fd e.2.1).1 (pm_fd e.2.1).2.1 (pm_fd e.2.1).2.2.1)) := by decide +kernel
theorem pm_f5 : ∀ o, o < 19 → ∀ e ∈ pm_clL.getD o [], e.2.1 < 10 ∧ lw_tbl[e.2.2.1]? = some (.classLink (pm_on o) e.1 (pm_cn e.2.1)) ∧ lw_tbl[e.2.2.2.1]? = some (.instantiable (pm_cn e.2.1) (pm_cfs e.2.1).length) ∧ lw_tbl[e.2.2.2.2]? = some (.initialized (pm_cn e.2.1)) := by decide +kernel
theorem pm_f6 : ∀ o, o < 19 → ∀ e ∈ pm_alL.getD o [], lw_tbl[e.2]? = some (.classLink (pm_on o) e.1 "java/lang/Object") := by decide +kernel
theorem pm_f7 : ∀ o, o < 19 → ∀ e ∈ pm_slL.getD o [], lw_tbl[e.2]? = some (.fieldLink (pm_on o) e.1 "java/util/ArrayList" "DEFAULTCAPACITY_EMPTY_ELEMENTDATA" "[Ljava/lang/Object;") := by decide +kernel
theorem pm_f8 : ∀ o, o < 19 → ∀ e ∈ pm_dlL.getD o [], lw_tbl[e.2]? = some (.classLink (pm_on o) e.1 "[Ljava/lang/Object;") := by decide +kernel
theorem pm_f9 : ∀ o, o < 19 → ∀ e ∈ pm_ilL.getD o [], lw_tbl[e.2.2]? = some (.constant (pm_on o) e.1 e.2.1) := by decide +kernel
theorem pm_f10 : ∀ o, o < 19 → ∀ e ∈ pm_kcL.getD o [], lw_tbl[e.2.2.1]? = some (.classLink (pm_on o) e.1 e.2.1) ∧ ∀ q ∈ e.2.2.2, q.1 < 10 ∧ lw_tbl[q.2]? = some (.castable (pm_cn q.1) e.2.1) := by decide +kernel
theorem pm_f11 : ∀ o, o < 19 → ∀ e ∈ pm_xlL.getD o [], e.2.1 < 3 ∧ lw_tbl[e.2.2]? = some (.classLink (pm_on o) e.1 (pm_xn e.2.1)) := by decide +kernel
def pm_obi (c : Nat) : Nat := ([1028, 1029, 0, 1030, 1031, 1033, 1034, 1035, 1036, 1032] : List Nat).getD c 0
theorem pm_f13 : ∀ c, c < 10 → pm_ob c = true → lw_tbl[pm_obi c]? = some (.castable (pm_cn c) "java/lang/Object") := by decide +kernel
def pm_nnL : List MethodName := [⟨"java/lang/Math", "max", "(II)I"⟩, ⟨"java/lang/Math", "min", "(II)I"⟩, objectInit, arraycopyName, ⟨"[I", "clone", "()Ljava/lang/Object;"⟩, ⟨"java/lang/Object", "getClass", "()Ljava/lang/Class;"⟩]
theorem pm_f12 : ∀ o, o < 19 → ∀ e ∈ pm_nsL.getD o [], e.2.1 < 6 ∧ lw_tbl[e.2.2]? = some (.methodLink (pm_on o) e.1 (pm_nnL.getD e.2.1 objectInit)) := by decide +kernel
