/-! What stands at each place of the methods 0 to 96. Printed by a program. -/
theorem p0_0 : ps_la 0 0 0 1 := ⟨.aload_n 0, by decide +kernel, fun _ _ => rfl⟩
theorem p0_1 : ps_vN 0 1 2 4 := ⟨.invokespecial 1, by decide +kernel, fun _ _ => rfl, fun _ => rfl, fun _ _ _ => rfl, by decide +kernel⟩
theorem p0_4 : ps_la 0 4 0 5 := ⟨.aload_n 0, by decide +kernel, fun _ _ => rfl⟩
theorem p0_5 : ps_nw 0 5 1 8 := ⟨7, by decide +kernel, by decide +kernel⟩
theorem p0_8 : ps_pu 0 8 (.dup) 9 := (by decide +kernel : ps_i 0 8 = some (.dup, 9))
theorem p0_9 : ps_vP 0 9 1 0 12 := ⟨9, by decide +kernel, by decide +kernel, by decide +kernel, by decide +kernel⟩
theorem p0_12 : ps_pf 0 12 0 1 (.object "PostingShelf$Draft") 15 := ⟨10, 1, by decide +kernel, by decide +kernel, by decide +kernel, by decide +kernel, by decide +kernel⟩
theorem p0_15 : ps_la 0 15 0 16 := ⟨.aload_n 0, by decide +kernel, fun _ _ => rfl⟩
theorem p0_16 : ps_nw 0 16 2 19 := ⟨16, by decide +kernel, by decide +kernel⟩
theorem p0_19 : ps_pu 0 19 (.dup) 20 := (by decide +kernel : ps_i 0 19 = some (.dup, 20))
theorem p0_20 : ps_vP 0 20 2 0 23 := ⟨18, by decide +kernel, by decide +kernel, by decide +kernel, by decide +kernel⟩
theorem p0_23 : ps_pf 0 23 0 2 (.object "java/util/ArrayList") 26 := ⟨19, 2, by decide +kernel, by decide +kernel, by decide +kernel, by decide +kernel, by decide +kernel⟩
theorem p0_26 : ps_la 0 26 0 27 := ⟨.aload_n 0, by decide +kernel, fun _ _ => rfl⟩
theorem p0_27 : ps_nw 0 27 3 30 := ⟨23, by decide +kernel, by decide +kernel⟩
theorem p0_30 : ps_pu 0 30 (.dup) 31 := (by decide +kernel : ps_i 0 30 = some (.dup, 31))
theorem p0_31 : ps_k 0 31 (Int32.ofNat 800) 34 := ⟨.sipush 800, by decide +kernel, fun _ _ => rfl⟩
theorem p0_34 : ps_vP 0 34 5 1 37 := ⟨25, by decide +kernel, by decide +kernel, by decide +kernel, by decide +kernel⟩
theorem p0_37 : ps_pf 0 37 0 3 (.object "PostingShelf$ByteRow") 40 := ⟨28, 3, by decide +kernel, by decide +kernel, by decide +kernel, by decide +kernel, by decide +kernel⟩
theorem p0_40 : ps_la 0 40 0 41 := ⟨.aload_n 0, by decide +kernel, fun _ _ => rfl⟩
theorem p0_41 : ps_nw 0 41 2 44 := ⟨16, by decide +kernel, by decide +kernel⟩
theorem p0_44 : ps_pu 0 44 (.dup) 45 := (by decide +kernel : ps_i 0 44 = some (.dup, 45))
theorem p0_45 : ps_vP 0 45 2 0 48 := ⟨18, by decide +kernel, by decide +kernel, by decide +kernel, by decide +kernel⟩
theorem p0_48 : ps_pf 0 48 0 4 (.object "java/util/ArrayList") 51 := ⟨32, 4, by decide +kernel, by decide +kernel, by decide +kernel, by decide +kernel, by decide +kernel⟩
theorem p0_51 : ps_la 0 51 0 52 := ⟨.aload_n 0, by decide +kernel, fun _ _ => rfl⟩
theorem p0_52 : ps_nw 0 52 4 55 := ⟨35, by decide +kernel, by decide +kernel⟩
theorem p0_55 : ps_pu 0 55 (.dup) 56 := (by decide +kernel : ps_i 0 55 = some (.dup, 56))
theorem p0_56 : ps_vP 0 56 6 0 59 := ⟨37, by decide +kernel, by decide +kernel, by decide +kernel, by decide +kernel⟩
theorem p0_59 : ps_pf 0 59 0 5 (.object "PostingShelf$Catalog") 62 := ⟨38, 5, by decide +kernel, by decide +kernel, by decide +kernel, by decide +kernel, by decide +kernel⟩
theorem p0_62 : ps_la 0 62 0 63 := ⟨.aload_n 0, by decide +kernel, fun _ _ => rfl⟩
theorem p0_63 : ps_nw 0 63 4 66 := ⟨35, by decide +kernel, by decide +kernel⟩
theorem p0_66 : ps_pu 0 66 (.dup) 67 := (by decide +kernel : ps_i 0 66 = some (.dup, 67))
theorem p0_67 : ps_vP 0 67 6 0 70 := ⟨37, by decide +kernel, by decide +kernel, by decide +kernel, by decide +kernel⟩
theorem p0_70 : ps_pf 0 70 0 6 (.object "PostingShelf$Catalog") 73 := ⟨42, 6, by decide +kernel, by decide +kernel, by decide +kernel, by decide +kernel, by decide +kernel⟩
theorem p0_73 : ps_la 0 73 0 74 := ⟨.aload_n 0, by decide +kernel, fun _ _ => rfl⟩
theorem p0_74 : ps_k 0 74 (Int32.ofNat 0) 75 := ⟨.iconst 0, by decide +kernel, fun _ _ => rfl⟩
theorem p0_75 : ps_pf 0 75 0 7 (.int) 78 := ⟨45, 7, by decide +kernel, by decide +kernel, by decide +kernel, by decide +kernel, by decide +kernel⟩
theorem p0_78 : ps_la 0 78 0 79 := ⟨.aload_n 0, by decide +kernel, fun _ _ => rfl⟩
theorem p0_79 : ps_k 0 79 (Int32.ofNat 0) 80 := ⟨.iconst 0, by decide +kernel, fun _ _ => rfl⟩
theorem p0_80 : ps_pf 0 80 0 8 (.boolean) 83 := ⟨49, 8, by decide +kernel, by decide +kernel, by decide +kernel, by decide +kernel, by decide +kernel⟩
theorem p0_83 : ps_la 0 83 0 84 := ⟨.aload_n 0, by decide +kernel, fun _ _ => rfl⟩
theorem p0_84 : ps_k 0 84 (Int32.ofNat 0) 85 := ⟨.iconst 0, by decide +kernel, fun _ _ => rfl⟩
theorem p0_85 : ps_pf 0 85 0 9 (.int) 88 := ⟨53, 9, by decide +kernel, by decide +kernel, by decide +kernel, by decide +kernel, by decide +kernel⟩
theorem p0_88 : ps_la 0 88 0 89 := ⟨.aload_n 0, by decide +kernel, fun _ _ => rfl⟩
theorem p0_89 : ps_k 0 89 (Int32.ofNat 64) 91 := ⟨.bipush 64, by decide +kernel, fun _ _ => rfl⟩
theorem p0_91 : ps_k 0 91 (Int32.ofNat 800) 94 := ⟨.sipush 800, by decide +kernel, fun _ _ => rfl⟩
theorem p0_94 : ps_ld 0 94 1 95 := ⟨.iload_n 1, by decide +kernel, fun _ _ => rfl⟩
theorem p0_95 : ps_vN 0 95 1 98 := ⟨.invokestatic 56, by decide +kernel, fun _ _ => rfl, fun _ => rfl, fun _ _ _ => rfl, by decide +kernel⟩
theorem p0_98 : ps_vN 0 98 0 101 := ⟨.invokestatic 62, by decide +kernel, fun _ _ => rfl, fun _ => rfl, fun _ _ _ => rfl, by decide +kernel⟩
theorem p0_101 : ps_pf 0 101 0 0 (.int) 104 := ⟨65, 0, by decide +kernel, by decide +kernel, by decide +kernel, by decide +kernel, by decide +kernel⟩
theorem p0_104 : ps_pu 0 104 (.return_) 105 := (by decide +kernel : ps_i 0 104 = some (.return_, 105))
theorem e0 : ∀ v0 v1 : Value, pm_ent 0 [v0, v1] = [some v0, some v1] := fun _ _ => rfl
theorem l0 : 2 ≤ pm_mx 0 := by decide +kernel
theorem t0 : pm_ret 0 = none := by decide +kernel
theorem p1_0 : ps_la 1 0 0 1 := ⟨.aload_n 0, by decide +kernel, fun _ _ => rfl⟩
theorem p1_1 : ps_vN 1 1 2 4 := ⟨.invokespecial 3, by decide +kernel, fun _ _ => rfl, fun _ => rfl, fun _ _ _ => rfl, by decide +kernel⟩
theorem p1_4 : ps_la 1 4 0 5 := ⟨.aload_n 0, by decide +kernel, fun _ _ => rfl⟩
theorem p1_5 : ps_k 1 5 (Int32.ofNat 16) 7 := ⟨.bipush 16, by decide +kernel, fun _ _ => rfl⟩
theorem p1_7 : ps_pu 1 7 (.newarray .int) 9 := (by decide +kernel : ps_i 1 7 = some (.newarray .int, 9))
theorem p1_9 : ps_pf 1 9 1 0 (.array .int) 12 := ⟨9, 10, by decide +kernel, by decide +kernel, by decide +kernel, by decide +kernel, by decide +kernel⟩
theorem p1_12 : ps_la 1 12 0 13 := ⟨.aload_n 0, by decide +kernel, fun _ _ => rfl⟩
theorem p1_13 : ps_k 1 13 (Int32.ofNat 0) 14 := ⟨.iconst 0, by decide +kernel, fun _ _ => rfl⟩
theorem p1_14 : ps_pf 1 14 1 1 (.int) 17 := ⟨15, 11, by decide +kernel, by decide +kernel, by decide +kernel, by decide +kernel, by decide +kernel⟩
theorem p1_17 : ps_pu 1 17 (.return_) 18 := (by decide +kernel : ps_i 1 17 = some (.return_, 18))
theorem e1 : ∀ v0 : Value, pm_ent 1 [v0] = [some v0] := fun _ => rfl
theorem l1 : 1 ≤ pm_mx 1 := by decide +kernel
theorem t1 : pm_ret 1 = none := by decide +kernel
theorem p2_0 : ps_la 2 0 0 1 := ⟨.aload_n 0, by decide +kernel, fun _ _ => rfl⟩
theorem p2_1 : ps_vP 2 1 3 0 4 := ⟨1, by decide +kernel, by decide +kernel, by decide +kernel, by decide +kernel⟩
theorem p2_4 : ps_la 2 4 0 5 := ⟨.aload_n 0, by decide +kernel, fun _ _ => rfl⟩
theorem p2_5 : ps_pu 2 5 (.getstatic 39) 8 := (by decide +kernel : ps_i 2 5 = some (.getstatic 39, 8))
theorem p2_8 : ps_pf 2 8 2 0 (.array (.object "java/lang/Object")) 11 := ⟨9, 12, by decide +kernel, by decide +kernel, by decide +kernel, by decide +kernel, by decide +kernel⟩
theorem p2_11 : ps_pu 2 11 (.return_) 12 := (by decide +kernel : ps_i 2 11 = some (.return_, 12))
theorem e2 : ∀ v0 : Value, pm_ent 2 [v0] = [some v0] := fun _ => rfl
theorem l2 : 1 ≤ pm_mx 2 := by decide +kernel
theorem t2 : pm_ret 2 = none := by decide +kernel
theorem p3_0 : ps_la 3 0 0 1 := ⟨.aload_n 0, by decide +kernel, fun _ _ => rfl⟩
theorem p3_1 : ps_vP 3 1 4 0 4 := ⟨1, by decide +kernel, by decide +kernel, by decide +kernel, by decide +kernel⟩
theorem p3_4 : ps_la 3 4 0 5 := ⟨.aload_n 0, by decide +kernel, fun _ _ => rfl⟩
theorem p3_5 : ps_k 3 5 (Int32.ofNat 0) 6 := ⟨.iconst 0, by decide +kernel, fun _ _ => rfl⟩
theorem p3_6 : ps_pf 3 6 2 2 (.int) 9 := ⟨7, 14, by decide +kernel, by decide +kernel, by decide +kernel, by decide +kernel, by decide +kernel⟩
theorem p3_9 : ps_pu 3 9 (.return_) 10 := (by decide +kernel : ps_i 3 9 = some (.return_, 10))
theorem e3 : ∀ v0 : Value, pm_ent 3 [v0] = [some v0] := fun _ => rfl
theorem l3 : 1 ≤ pm_mx 3 := by decide +kernel
theorem t3 : pm_ret 3 = none := by decide +kernel
theorem p4_0 : ps_la 4 0 0 1 := ⟨.aload_n 0, by decide +kernel, fun _ _ => rfl⟩
theorem p4_1 : ps_vN 4 1 2 4 := ⟨.invokespecial 1, by decide +kernel, fun _ _ => rfl, fun _ => rfl, fun _ _ _ => rfl, by decide +kernel⟩
theorem p4_4 : ps_pu 4 4 (.return_) 5 := (by decide +kernel : ps_i 4 4 = some (.return_, 5))
theorem e4 : ∀ v0 : Value, pm_ent 4 [v0] = [some v0] := fun _ => rfl
theorem l4 : 1 ≤ pm_mx 4 := by decide +kernel
theorem t4 : pm_ret 4 = none := by decide +kernel
theorem p5_0 : ps_la 5 0 0 1 := ⟨.aload_n 0, by decide +kernel, fun _ _ => rfl⟩
theorem p5_1 : ps_vN 5 1 2 4 := ⟨.invokespecial 3, by decide +kernel, fun _ _ => rfl, fun _ => rfl, fun _ _ _ => rfl, by decide +kernel⟩
theorem p5_4 : ps_la 5 4 0 5 := ⟨.aload_n 0, by decide +kernel, fun _ _ => rfl⟩
theorem p5_5 : ps_ld 5 5 1 6 := ⟨.iload_n 1, by decide +kernel, fun _ _ => rfl⟩
theorem p5_6 : ps_pu 5 6 (.newarray .int) 8 := (by decide +kernel : ps_i 5 6 = some (.newarray .int, 8))
theorem p5_8 : ps_pf 5 8 3 0 (.array .int) 11 := ⟨9, 15, by decide +kernel, by decide +kernel, by decide +kernel, by decide +kernel, by decide +kernel⟩
theorem p5_11 : ps_la 5 11 0 12 := ⟨.aload_n 0, by decide +kernel, fun _ _ => rfl⟩
theorem p5_12 : ps_k 5 12 (Int32.ofNat 0) 13 := ⟨.iconst 0, by decide +kernel, fun _ _ => rfl⟩
theorem p5_13 : ps_pf 5 13 3 1 (.int) 16 := ⟨15, 16, by decide +kernel, by decide +kernel, by decide +kernel, by decide +kernel, by decide +kernel⟩
theorem p5_16 : ps_pu 5 16 (.return_) 17 := (by decide +kernel : ps_i 5 16 = some (.return_, 17))
theorem e5 : ∀ v0 v1 : Value, pm_ent 5 [v0, v1] = [some v0, some v1] := fun _ _ => rfl
theorem l5 : 2 ≤ pm_mx 5 := by decide +kernel
theorem t5 : pm_ret 5 = none := by decide +kernel
theorem p6_0 : ps_la 6 0 0 1 := ⟨.aload_n 0, by decide +kernel, fun _ _ => rfl⟩
theorem p6_1 : ps_vN 6 1 2 4 := ⟨.invokespecial 3, by decide +kernel, fun _ _ => rfl, fun _ => rfl, fun _ _ _ => rfl, by decide +kernel⟩
theorem p6_4 : ps_la 6 4 0 5 := ⟨.aload_n 0, by decide +kernel, fun _ _ => rfl⟩
theorem p6_5 : ps_nw 6 5 2 8 := ⟨9, by decide +kernel, by decide +kernel⟩
theorem p6_8 : ps_pu 6 8 (.dup) 9 := (by decide +kernel : ps_i 6 8 = some (.dup, 9))
theorem p6_9 : ps_vP 6 9 2 0 12 := ⟨11, by decide +kernel, by decide +kernel, by decide +kernel, by decide +kernel⟩
theorem p6_12 : ps_pf 6 12 4 0 (.object "java/util/ArrayList") 15 := ⟨12, 17, by decide +kernel, by decide +kernel, by decide +kernel, by decide +kernel, by decide +kernel⟩
theorem p6_15 : ps_la 6 15 0 16 := ⟨.aload_n 0, by decide +kernel, fun _ _ => rfl⟩
theorem p6_16 : ps_nw 6 16 3 19 := ⟨18, by decide +kernel, by decide +kernel⟩
theorem p6_19 : ps_pu 6 19 (.dup) 20 := (by decide +kernel : ps_i 6 19 = some (.dup, 20))
theorem p6_20 : ps_k 6 20 (Int32.ofNat 800) 23 := ⟨.sipush 800, by decide +kernel, fun _ _ => rfl⟩
theorem p6_23 : ps_vP 6 23 5 1 26 := ⟨20, by decide +kernel, by decide +kernel, by decide +kernel, by decide +kernel⟩
theorem p6_26 : ps_pf 6 26 4 1 (.object "PostingShelf$ByteRow") 29 := ⟨23, 18, by decide +kernel, by decide +kernel, by decide +kernel, by decide +kernel, by decide +kernel⟩
theorem p6_29 : ps_pu 6 29 (.return_) 30 := (by decide +kernel : ps_i 6 29 = some (.return_, 30))
theorem e6 : ∀ v0 : Value, pm_ent 6 [v0] = [some v0] := fun _ => rfl
theorem l6 : 1 ≤ pm_mx 6 := by decide +kernel
theorem t6 : pm_ret 6 = none := by decide +kernel
theorem p7_0 : ps_k 7 0 (Int32.ofNat 0) 1 := ⟨.iconst 0, by decide +kernel, fun _ _ => rfl⟩
theorem p7_1 : ps_si 7 1 2 2 := ⟨.istore_n 2, by decide +kernel, fun _ _ => rfl⟩
theorem p7_2 : ps_ld 7 2 2 3 := ⟨.iload_n 2, by decide +kernel, fun _ _ => rfl⟩
theorem p7_3 : ps_la 7 3 0 4 := ⟨.aload_n 0, by decide +kernel, fun _ _ => rfl⟩
theorem p7_4 : ps_gf 7 4 0 4 7 := ⟨32, 4, by decide +kernel, by decide +kernel, by decide +kernel⟩
theorem p7_7 : ps_vV 7 7 2 8 0 10 := ⟨96, 8, by decide +kernel, by decide +kernel, by decide +kernel, by decide +kernel, by decide +kernel⟩
theorem p7_10 : ps_j 7 10 .ge 48 13 := ⟨38, by decide +kernel, by decide +kernel, by decide +kernel⟩
theorem p7_13 : ps_la 7 13 0 14 := ⟨.aload_n 0, by decide +kernel, fun _ _ => rfl⟩
theorem p7_14 : ps_gf 7 14 0 4 17 := ⟨32, 4, by decide +kernel, by decide +kernel, by decide +kernel⟩
theorem p7_17 : ps_ld 7 17 2 18 := ⟨.iload_n 2, by decide +kernel, fun _ _ => rfl⟩
theorem p7_18 : ps_vV 7 18 2 9 1 21 := ⟨113, 9, by decide +kernel, by decide +kernel, by decide +kernel, by decide +kernel, by decide +kernel⟩
theorem p7_21 : ps_ck 7 21 5 24 := ⟨101, by decide +kernel, by decide +kernel⟩
theorem p7_24 : ps_gf 7 24 5 0 27 := ⟨117, 19, by decide +kernel, by decide +kernel, by decide +kernel⟩
theorem p7_27 : ps_ld 7 27 1 28 := ⟨.iload_n 1, by decide +kernel, fun _ _ => rfl⟩
theorem p7_28 : ps_j 7 28 .ne 42 31 := ⟨14, by decide +kernel, by decide +kernel, by decide +kernel⟩
theorem p7_31 : ps_la 7 31 0 32 := ⟨.aload_n 0, by decide +kernel, fun _ _ => rfl⟩
theorem p7_32 : ps_gf 7 32 0 4 35 := ⟨32, 4, by decide +kernel, by decide +kernel, by decide +kernel⟩
theorem p7_35 : ps_ld 7 35 2 36 := ⟨.iload_n 2, by decide +kernel, fun _ _ => rfl⟩
theorem p7_36 : ps_vV 7 36 2 13 1 39 := ⟨120, 13, by decide +kernel, by decide +kernel, by decide +kernel, by decide +kernel, by decide +kernel⟩
theorem p7_39 : ps_pu 7 39 (.pop) 40 := (by decide +kernel : ps_i 7 39 = some (.pop, 40))
theorem p7_40 : ps_k 7 40 (Int32.ofNat 1) 41 := ⟨.iconst 1, by decide +kernel, fun _ _ => rfl⟩
theorem p7_41 : ps_pu 7 41 (.ireturn) 42 := (by decide +kernel : ps_i 7 41 = some (.ireturn, 42))
theorem p7_42 : ps_pu 7 42 (.iinc 2 ((1 : Nat) : Int)) 45 := (by decide +kernel : ps_i 7 42 = some (.iinc 2 ((1 : Nat) : Int), 45))
theorem p7_45 : ps_jg 7 45 2 := ⟨(-43), 48, by decide +kernel, by decide +kernel, by decide +kernel⟩
theorem p7_48 : ps_la 7 48 0 49 := ⟨.aload_n 0, by decide +kernel, fun _ _ => rfl⟩
theorem p7_49 : ps_gf 7 49 0 5 52 := ⟨38, 5, by decide +kernel, by decide +kernel, by decide +kernel⟩
theorem p7_52 : ps_ld 7 52 1 53 := ⟨.iload_n 1, by decide +kernel, fun _ _ => rfl⟩
theorem p7_53 : ps_vV 7 53 4 15 1 56 := ⟨123, 15, by decide +kernel, by decide +kernel, by decide +kernel, by decide +kernel, by decide +kernel⟩
theorem p7_56 : ps_sa 7 56 2 57 := ⟨.astore_n 2, by decide +kernel, fun _ _ => rfl⟩
theorem p7_57 : ps_la 7 57 2 58 := ⟨.aload_n 2, by decide +kernel, fun _ _ => rfl⟩
theorem p7_58 : ps_jn 7 58 true 68 61 := ⟨(10), by decide +kernel, by decide +kernel, by decide +kernel⟩
theorem p7_61 : ps_la 7 61 2 62 := ⟨.aload_n 2, by decide +kernel, fun _ _ => rfl⟩
theorem p7_62 : ps_gf 7 62 5 3 65 := ⟨127, 22, by decide +kernel, by decide +kernel, by decide +kernel⟩
theorem p7_65 : ps_j0 7 65 .eq 70 68 := ⟨5, by decide +kernel, by decide +kernel, by decide +kernel⟩
theorem p7_68 : ps_k 7 68 (Int32.ofNat 0) 69 := ⟨.iconst 0, by decide +kernel, fun _ _ => rfl⟩
theorem p7_69 : ps_pu 7 69 (.ireturn) 70 := (by decide +kernel : ps_i 7 69 = some (.ireturn, 70))
theorem p7_70 : ps_la 7 70 2 71 := ⟨.aload_n 2, by decide +kernel, fun _ _ => rfl⟩
theorem p7_71 : ps_k 7 71 (Int32.ofNat 1) 72 := ⟨.iconst 1, by decide +kernel, fun _ _ => rfl⟩
theorem p7_72 : ps_pf 7 72 5 3 (.boolean) 75 := ⟨127, 22, by decide +kernel, by decide +kernel, by decide +kernel, by decide +kernel, by decide +kernel⟩
theorem p7_75 : ps_k 7 75 (Int32.ofNat 1) 76 := ⟨.iconst 1, by decide +kernel, fun _ _ => rfl⟩
theorem p7_76 : ps_pu 7 76 (.ireturn) 77 := (by decide +kernel : ps_i 7 76 = some (.ireturn, 77))
theorem e7 : ∀ v0 v1 : Value, pm_ent 7 [v0, v1] = [some v0, some v1, none] := fun _ _ => rfl
theorem l7 : 2 ≤ pm_mx 7 := by decide +kernel
theorem t7 : pm_ret 7 = (some .boolean) := by decide +kernel
theorem p8_0 : ps_la 8 0 0 1 := ⟨.aload_n 0, by decide +kernel, fun _ _ => rfl⟩
theorem p8_1 : ps_gf 8 1 2 1 4 := ⟨48, 13, by decide +kernel, by decide +kernel, by decide +kernel⟩
theorem p8_4 : ps_pu 8 4 (.ireturn) 5 := (by decide +kernel : ps_i 8 4 = some (.ireturn, 5))
theorem e8 : ∀ v0 : Value, pm_ent 8 [v0] = [some v0] := fun _ => rfl
theorem l8 : 1 ≤ pm_mx 8 := by decide +kernel
theorem t8 : pm_ret 8 = (some .int) := by decide +kernel
theorem p9_0 : ps_ld 9 0 1 1 := ⟨.iload_n 1, by decide +kernel, fun _ _ => rfl⟩
theorem p9_1 : ps_la 9 1 0 2 := ⟨.aload_n 0, by decide +kernel, fun _ _ => rfl⟩
theorem p9_2 : ps_gf 9 2 2 1 5 := ⟨48, 13, by decide +kernel, by decide +kernel, by decide +kernel⟩
theorem p9_5 : ps_vS 9 5 10 2 8 := ⟨118, by decide +kernel, by decide +kernel, by decide +kernel, by decide +kernel⟩
theorem p9_8 : ps_pu 9 8 (.pop) 9 := (by decide +kernel : ps_i 9 8 = some (.pop, 9))
theorem p9_9 : ps_la 9 9 0 10 := ⟨.aload_n 0, by decide +kernel, fun _ _ => rfl⟩
theorem p9_10 : ps_ld 9 10 1 11 := ⟨.iload_n 1, by decide +kernel, fun _ _ => rfl⟩
theorem p9_11 : ps_vV 9 11 2 12 1 14 := ⟨123, 12, by decide +kernel, by decide +kernel, by decide +kernel, by decide +kernel, by decide +kernel⟩
theorem p9_14 : ps_pu 9 14 (.areturn) 15 := (by decide +kernel : ps_i 9 14 = some (.areturn, 15))
theorem e9 : ∀ v0 v1 : Value, pm_ent 9 [v0, v1] = [some v0, some v1] := fun _ _ => rfl
theorem l9 : 2 ≤ pm_mx 9 := by decide +kernel
theorem t9 : ps_isr (pm_ret 9) = true := by decide +kernel
theorem p10_0 : ps_ld 10 0 0 1 := ⟨.iload_n 0, by decide +kernel, fun _ _ => rfl⟩
theorem p10_1 : ps_ld 10 1 1 2 := ⟨.iload_n 1, by decide +kernel, fun _ _ => rfl⟩
theorem p10_2 : ps_pu 10 2 (.aconst_null) 3 := (by decide +kernel : ps_i 10 2 = some (.aconst_null, 3))
theorem p10_3 : ps_vS 10 3 11 3 6 := ⟨105, by decide +kernel, by decide +kernel, by decide +kernel, by decide +kernel⟩
theorem p10_6 : ps_pu 10 6 (.ireturn) 7 := (by decide +kernel : ps_i 10 6 = some (.ireturn, 7))
theorem e10 : ∀ v0 v1 : Value, pm_ent 10 [v0, v1] = [some v0, some v1] := fun _ _ => rfl
theorem l10 : 2 ≤ pm_mx 10 := by decide +kernel
theorem t10 : pm_ret 10 = (some .int) := by decide +kernel
theorem p11_0 : ps_ld 11 0 0 1 := ⟨.iload_n 0, by decide +kernel, fun _ _ => rfl⟩
theorem p11_1 : ps_j0 11 1 .lt 9 4 := ⟨8, by decide +kernel, by decide +kernel, by decide +kernel⟩
theorem p11_4 : ps_ld 11 4 0 5 := ⟨.iload_n 0, by decide +kernel, fun _ _ => rfl⟩
theorem p11_5 : ps_ld 11 5 1 6 := ⟨.iload_n 1, by decide +kernel, fun _ _ => rfl⟩
theorem p11_6 : ps_j 11 6 .lt 16 9 := ⟨10, by decide +kernel, by decide +kernel, by decide +kernel⟩
theorem p11_9 : ps_la 11 9 2 10 := ⟨.aload_n 2, by decide +kernel, fun _ _ => rfl⟩
theorem p11_10 : ps_ld 11 10 0 11 := ⟨.iload_n 0, by decide +kernel, fun _ _ => rfl⟩
theorem p11_11 : ps_ld 11 11 1 12 := ⟨.iload_n 1, by decide +kernel, fun _ _ => rfl⟩
theorem p11_15 : ps_pu 11 15 (.athrow) 16 := (by decide +kernel : ps_i 11 15 = some (.athrow, 16))
theorem p11_16 : ps_ld 11 16 0 17 := ⟨.iload_n 0, by decide +kernel, fun _ _ => rfl⟩
theorem p11_17 : ps_pu 11 17 (.ireturn) 18 := (by decide +kernel : ps_i 11 17 = some (.ireturn, 18))
theorem e11 : ∀ v0 v1 v2 : Value, pm_ent 11 [v0, v1, v2] = [some v0, some v1, some v2] := fun _ _ _ => rfl
theorem l11 : 3 ≤ pm_mx 11 := by decide +kernel
theorem t11 : pm_ret 11 = (some .int) := by decide +kernel
theorem p12_0 : ps_la 12 0 0 1 := ⟨.aload_n 0, by decide +kernel, fun _ _ => rfl⟩
theorem p12_1 : ps_gf 12 1 2 0 4 := ⟨9, 12, by decide +kernel, by decide +kernel, by decide +kernel⟩
theorem p12_4 : ps_ld 12 4 1 5 := ⟨.iload_n 1, by decide +kernel, fun _ _ => rfl⟩
theorem p12_5 : ps_pu 12 5 (.aaload) 6 := (by decide +kernel : ps_i 12 5 = some (.aaload, 6))
theorem p12_6 : ps_pu 12 6 (.areturn) 7 := (by decide +kernel : ps_i 12 6 = some (.areturn, 7))
theorem e12 : ∀ v0 v1 : Value, pm_ent 12 [v0, v1] = [some v0, some v1] := fun _ _ => rfl
theorem l12 : 2 ≤ pm_mx 12 := by decide +kernel
theorem t12 : ps_isr (pm_ret 12) = true := by decide +kernel
theorem p13_0 : ps_ld 13 0 1 1 := ⟨.iload_n 1, by decide +kernel, fun _ _ => rfl⟩
theorem p13_1 : ps_la 13 1 0 2 := ⟨.aload_n 0, by decide +kernel, fun _ _ => rfl⟩
theorem p13_2 : ps_gf 13 2 2 1 5 := ⟨48, 13, by decide +kernel, by decide +kernel, by decide +kernel⟩
theorem p13_5 : ps_vS 13 5 10 2 8 := ⟨118, by decide +kernel, by decide +kernel, by decide +kernel, by decide +kernel⟩
theorem p13_8 : ps_pu 13 8 (.pop) 9 := (by decide +kernel : ps_i 13 8 = some (.pop, 9))
theorem p13_9 : ps_la 13 9 0 10 := ⟨.aload_n 0, by decide +kernel, fun _ _ => rfl⟩
theorem p13_10 : ps_gf 13 10 2 0 13 := ⟨9, 12, by decide +kernel, by decide +kernel, by decide +kernel⟩
theorem p13_13 : ps_sa 13 13 2 14 := ⟨.astore_n 2, by decide +kernel, fun _ _ => rfl⟩
theorem p13_14 : ps_la 13 14 2 15 := ⟨.aload_n 2, by decide +kernel, fun _ _ => rfl⟩
theorem p13_15 : ps_ld 13 15 1 16 := ⟨.iload_n 1, by decide +kernel, fun _ _ => rfl⟩
theorem p13_16 : ps_pu 13 16 (.aaload) 17 := (by decide +kernel : ps_i 13 16 = some (.aaload, 17))
theorem p13_17 : ps_sa 13 17 3 18 := ⟨.astore_n 3, by decide +kernel, fun _ _ => rfl⟩
theorem p13_18 : ps_la 13 18 0 19 := ⟨.aload_n 0, by decide +kernel, fun _ _ => rfl⟩
theorem p13_19 : ps_la 13 19 2 20 := ⟨.aload_n 2, by decide +kernel, fun _ _ => rfl⟩
theorem p13_20 : ps_ld 13 20 1 21 := ⟨.iload_n 1, by decide +kernel, fun _ _ => rfl⟩
theorem p13_21 : ps_vV 13 21 2 14 2 24 := ⟨144, 14, by decide +kernel, by decide +kernel, by decide +kernel, by decide +kernel, by decide +kernel⟩
theorem p13_24 : ps_la 13 24 3 25 := ⟨.aload_n 3, by decide +kernel, fun _ _ => rfl⟩
theorem p13_25 : ps_pu 13 25 (.areturn) 26 := (by decide +kernel : ps_i 13 25 = some (.areturn, 26))
theorem e13 : ∀ v0 v1 : Value, pm_ent 13 [v0, v1] = [some v0, some v1, none, none] := fun _ _ => rfl
theorem l13 : 2 ≤ pm_mx 13 := by decide +kernel
theorem t13 : ps_isr (pm_ret 13) = true := by decide +kernel
theorem p14_0 : ps_la 14 0 0 1 := ⟨.aload_n 0, by decide +kernel, fun _ _ => rfl⟩
theorem p14_1 : ps_pu 14 1 (.dup) 2 := (by decide +kernel : ps_i 14 1 = some (.dup, 2))
theorem p14_2 : ps_gf 14 2 2 2 5 := ⟨63, 14, by decide +kernel, by decide +kernel, by decide +kernel⟩
theorem p14_5 : ps_k 14 5 (Int32.ofNat 1) 6 := ⟨.iconst 1, by decide +kernel, fun _ _ => rfl⟩
theorem p14_6 : ps_b 14 6 (· + ·) 7 := ⟨.iadd, by decide +kernel, fun _ _ => rfl⟩
theorem p14_7 : ps_pf 14 7 2 2 (.int) 10 := ⟨63, 14, by decide +kernel, by decide +kernel, by decide +kernel, by decide +kernel, by decide +kernel⟩
theorem p14_10 : ps_la 14 10 0 11 := ⟨.aload_n 0, by decide +kernel, fun _ _ => rfl⟩
theorem p14_11 : ps_gf 14 11 2 1 14 := ⟨48, 13, by decide +kernel, by decide +kernel, by decide +kernel⟩
theorem p14_14 : ps_k 14 14 (Int32.ofNat 1) 15 := ⟨.iconst 1, by decide +kernel, fun _ _ => rfl⟩
theorem p14_15 : ps_b 14 15 (· - ·) 16 := ⟨.isub, by decide +kernel, fun _ _ => rfl⟩
theorem p14_16 : ps_pu 14 16 (.dup) 17 := (by decide +kernel : ps_i 14 16 = some (.dup, 17))
theorem p14_17 : ps_si 14 17 3 18 := ⟨.istore_n 3, by decide +kernel, fun _ _ => rfl⟩
theorem p14_18 : ps_ld 14 18 2 19 := ⟨.iload_n 2, by decide +kernel, fun _ _ => rfl⟩
theorem p14_19 : ps_j 14 19 .le 34 22 := ⟨15, by decide +kernel, by decide +kernel, by decide +kernel⟩
theorem p14_22 : ps_la 14 22 1 23 := ⟨.aload_n 1, by decide +kernel, fun _ _ => rfl⟩
theorem p14_23 : ps_ld 14 23 2 24 := ⟨.iload_n 2, by decide +kernel, fun _ _ => rfl⟩
theorem p14_24 : ps_k 14 24 (Int32.ofNat 1) 25 := ⟨.iconst 1, by decide +kernel, fun _ _ => rfl⟩
theorem p14_25 : ps_b 14 25 (· + ·) 26 := ⟨.iadd, by decide +kernel, fun _ _ => rfl⟩
theorem p14_26 : ps_la 14 26 1 27 := ⟨.aload_n 1, by decide +kernel, fun _ _ => rfl⟩
theorem p14_27 : ps_ld 14 27 2 28 := ⟨.iload_n 2, by decide +kernel, fun _ _ => rfl⟩
theorem p14_28 : ps_ld 14 28 3 29 := ⟨.iload_n 3, by decide +kernel, fun _ _ => rfl⟩
theorem p14_29 : ps_ld 14 29 2 30 := ⟨.iload_n 2, by decide +kernel, fun _ _ => rfl⟩
theorem p14_30 : ps_b 14 30 (· - ·) 31 := ⟨.isub, by decide +kernel, fun _ _ => rfl⟩
theorem p14_31 : ps_vN 14 31 3 34 := ⟨.invokestatic 112, by decide +kernel, fun _ _ => rfl, fun _ => rfl, fun _ _ _ => rfl, by decide +kernel⟩
theorem p14_34 : ps_la 14 34 1 35 := ⟨.aload_n 1, by decide +kernel, fun _ _ => rfl⟩
theorem p14_35 : ps_la 14 35 0 36 := ⟨.aload_n 0, by decide +kernel, fun _ _ => rfl⟩
theorem p14_36 : ps_ld 14 36 3 37 := ⟨.iload_n 3, by decide +kernel, fun _ _ => rfl⟩
theorem p14_37 : ps_pu 14 37 (.dup_x1) 38 := (by decide +kernel : ps_i 14 37 = some (.dup_x1, 38))
theorem p14_38 : ps_pf 14 38 2 1 (.int) 41 := ⟨48, 13, by decide +kernel, by decide +kernel, by decide +kernel, by decide +kernel, by decide +kernel⟩
theorem p14_41 : ps_pu 14 41 (.aconst_null) 42 := (by decide +kernel : ps_i 14 41 = some (.aconst_null, 42))
theorem p14_42 : ps_pu 14 42 (.aastore) 43 := (by decide +kernel : ps_i 14 42 = some (.aastore, 43))
theorem p14_43 : ps_pu 14 43 (.return_) 44 := (by decide +kernel : ps_i 14 43 = some (.return_, 44))
theorem e14 : ∀ v0 v1 v2 : Value, pm_ent 14 [v0, v1, v2] = [some v0, some v1, some v2, none] := fun _ _ _ => rfl
theorem l14 : 3 ≤ pm_mx 14 := by decide +kernel
theorem t14 : pm_ret 14 = none := by decide +kernel
theorem p15_0 : ps_k 15 0 (Int32.ofNat 0) 1 := ⟨.iconst 0, by decide +kernel, fun _ _ => rfl⟩
theorem p15_1 : ps_si 15 1 2 2 := ⟨.istore_n 2, by decide +kernel, fun _ _ => rfl⟩
theorem p15_2 : ps_ld 15 2 2 3 := ⟨.iload_n 2, by decide +kernel, fun _ _ => rfl⟩
theorem p15_3 : ps_la 15 3 0 4 := ⟨.aload_n 0, by decide +kernel, fun _ _ => rfl⟩
theorem p15_4 : ps_gf 15 4 4 0 7 := ⟨12, 17, by decide +kernel, by decide +kernel, by decide +kernel⟩
theorem p15_7 : ps_vV 15 7 2 8 0 10 := ⟨31, 8, by decide +kernel, by decide +kernel, by decide +kernel, by decide +kernel, by decide +kernel⟩
theorem p15_10 : ps_j 15 10 .ge 83 13 := ⟨73, by decide +kernel, by decide +kernel, by decide +kernel⟩
theorem p15_13 : ps_la 15 13 0 14 := ⟨.aload_n 0, by decide +kernel, fun _ _ => rfl⟩
theorem p15_14 : ps_gf 15 14 4 0 17 := ⟨12, 17, by decide +kernel, by decide +kernel, by decide +kernel⟩
theorem p15_17 : ps_ld 15 17 2 18 := ⟨.iload_n 2, by decide +kernel, fun _ _ => rfl⟩
theorem p15_18 : ps_vV 15 18 2 9 1 21 := ⟨35, 9, by decide +kernel, by decide +kernel, by decide +kernel, by decide +kernel, by decide +kernel⟩
theorem p15_21 : ps_ck 15 21 6 24 := ⟨39, by decide +kernel, by decide +kernel⟩
theorem p15_24 : ps_gf 15 24 6 1 27 := ⟨54, 25, by decide +kernel, by decide +kernel, by decide +kernel⟩
theorem p15_27 : ps_sa 15 27 3 28 := ⟨.astore_n 3, by decide +kernel, fun _ _ => rfl⟩
theorem p15_28 : ps_k 15 28 (Int32.ofNat 0) 29 := ⟨.iconst 0, by decide +kernel, fun _ _ => rfl⟩
theorem p15_29 : ps_si 15 29 4 31 := ⟨.istore 4, by decide +kernel, fun _ _ => rfl⟩
theorem p15_31 : ps_ld 15 31 4 33 := ⟨.iload 4, by decide +kernel, fun _ _ => rfl⟩
theorem p15_33 : ps_la 15 33 3 34 := ⟨.aload_n 3, by decide +kernel, fun _ _ => rfl⟩
theorem p15_34 : ps_vV 15 34 2 8 0 37 := ⟨31, 8, by decide +kernel, by decide +kernel, by decide +kernel, by decide +kernel, by decide +kernel⟩
theorem p15_37 : ps_j 15 37 .ge 77 40 := ⟨40, by decide +kernel, by decide +kernel, by decide +kernel⟩
theorem p15_40 : ps_la 15 40 3 41 := ⟨.aload_n 3, by decide +kernel, fun _ _ => rfl⟩
theorem p15_41 : ps_ld 15 41 4 43 := ⟨.iload 4, by decide +kernel, fun _ _ => rfl⟩
theorem p15_43 : ps_vV 15 43 2 9 1 46 := ⟨35, 9, by decide +kernel, by decide +kernel, by decide +kernel, by decide +kernel, by decide +kernel⟩
theorem p15_46 : ps_ck 15 46 5 49 := ⟨57, by decide +kernel, by decide +kernel⟩
theorem p15_49 : ps_sa 15 49 5 51 := ⟨.astore 5, by decide +kernel, fun _ _ => rfl⟩
theorem p15_51 : ps_la 15 51 5 53 := ⟨.aload 5, by decide +kernel, fun _ _ => rfl⟩
theorem p15_53 : ps_gf 15 53 5 0 56 := ⟨59, 19, by decide +kernel, by decide +kernel, by decide +kernel⟩
theorem p15_56 : ps_ld 15 56 1 57 := ⟨.iload_n 1, by decide +kernel, fun _ _ => rfl⟩
theorem p15_57 : ps_j 15 57 .ne 71 60 := ⟨14, by decide +kernel, by decide +kernel, by decide +kernel⟩
theorem p15_60 : ps_la 15 60 5 62 := ⟨.aload 5, by decide +kernel, fun _ _ => rfl⟩
theorem p15_62 : ps_gf 15 62 5 4 65 := ⟨62, 23, by decide +kernel, by decide +kernel, by decide +kernel⟩
theorem p15_65 : ps_j0 15 65 .ne 71 68 := ⟨6, by decide +kernel, by decide +kernel, by decide +kernel⟩
theorem p15_68 : ps_la 15 68 5 70 := ⟨.aload 5, by decide +kernel, fun _ _ => rfl⟩
theorem p15_70 : ps_pu 15 70 (.areturn) 71 := (by decide +kernel : ps_i 15 70 = some (.areturn, 71))
theorem p15_71 : ps_pu 15 71 (.iinc 4 ((1 : Nat) : Int)) 74 := (by decide +kernel : ps_i 15 71 = some (.iinc 4 ((1 : Nat) : Int), 74))
theorem p15_74 : ps_jg 15 74 31 := ⟨(-43), 77, by decide +kernel, by decide +kernel, by decide +kernel⟩
theorem p15_77 : ps_pu 15 77 (.iinc 2 ((1 : Nat) : Int)) 80 := (by decide +kernel : ps_i 15 77 = some (.iinc 2 ((1 : Nat) : Int), 80))
theorem p15_80 : ps_jg 15 80 2 := ⟨(-78), 83, by decide +kernel, by decide +kernel, by decide +kernel⟩
theorem p15_83 : ps_pu 15 83 (.aconst_null) 84 := (by decide +kernel : ps_i 15 83 = some (.aconst_null, 84))
theorem p15_84 : ps_pu 15 84 (.areturn) 85 := (by decide +kernel : ps_i 15 84 = some (.areturn, 85))
theorem e15 : ∀ v0 v1 : Value, pm_ent 15 [v0, v1] = [some v0, some v1, none, none, none, none] := fun _ _ => rfl
theorem l15 : 2 ≤ pm_mx 15 := by decide +kernel
theorem t15 : ps_isr (pm_ret 15) = true := by decide +kernel
theorem p16_0 : ps_ld 16 0 1 1 := ⟨.iload_n 1, by decide +kernel, fun _ _ => rfl⟩
theorem p16_1 : ps_j0 16 1 .ge 6 4 := ⟨5, by decide +kernel, by decide +kernel, by decide +kernel⟩
theorem p16_4 : ps_k 16 4 (Int32.ofNat 0) 5 := ⟨.iconst 0, by decide +kernel, fun _ _ => rfl⟩
theorem p16_5 : ps_pu 16 5 (.ireturn) 6 := (by decide +kernel : ps_i 16 5 = some (.ireturn, 6))
theorem p16_6 : ps_la 16 6 0 7 := ⟨.aload_n 0, by decide +kernel, fun _ _ => rfl⟩
theorem p16_7 : ps_k 16 7 (Int32.ofNat 1) 8 := ⟨.iconst 1, by decide +kernel, fun _ _ => rfl⟩
theorem p16_8 : ps_pf 16 8 0 8 (.boolean) 11 := ⟨49, 8, by decide +kernel, by decide +kernel, by decide +kernel, by decide +kernel, by decide +kernel⟩
theorem p16_11 : ps_la 16 11 0 12 := ⟨.aload_n 0, by decide +kernel, fun _ _ => rfl⟩
theorem p16_12 : ps_ld 16 12 1 13 := ⟨.iload_n 1, by decide +kernel, fun _ _ => rfl⟩
theorem p16_13 : ps_pf 16 13 0 9 (.int) 16 := ⟨53, 9, by decide +kernel, by decide +kernel, by decide +kernel, by decide +kernel, by decide +kernel⟩
theorem p16_16 : ps_k 16 16 (Int32.ofNat 1) 17 := ⟨.iconst 1, by decide +kernel, fun _ _ => rfl⟩
theorem p16_17 : ps_pu 16 17 (.ireturn) 18 := (by decide +kernel : ps_i 16 17 = some (.ireturn, 18))
theorem e16 : ∀ v0 v1 : Value, pm_ent 16 [v0, v1] = [some v0, some v1] := fun _ _ => rfl
theorem l16 : 2 ≤ pm_mx 16 := by decide +kernel
theorem t16 : pm_ret 16 = (some .boolean) := by decide +kernel
theorem p17_0 : ps_k 17 0 (Int32.ofNat 0) 1 := ⟨.iconst 0, by decide +kernel, fun _ _ => rfl⟩
theorem p17_1 : ps_si 17 1 1 2 := ⟨.istore_n 1, by decide +kernel, fun _ _ => rfl⟩
theorem p17_2 : ps_k 17 2 (Int32.ofNat 0) 3 := ⟨.iconst 0, by decide +kernel, fun _ _ => rfl⟩
theorem p17_3 : ps_si 17 3 2 4 := ⟨.istore_n 2, by decide +kernel, fun _ _ => rfl⟩
theorem p17_4 : ps_ld 17 4 2 5 := ⟨.iload_n 2, by decide +kernel, fun _ _ => rfl⟩
theorem p17_5 : ps_la 17 5 0 6 := ⟨.aload_n 0, by decide +kernel, fun _ _ => rfl⟩
theorem p17_6 : ps_gf 17 6 0 5 9 := ⟨38, 5, by decide +kernel, by decide +kernel, by decide +kernel⟩
theorem p17_9 : ps_gf 17 9 4 0 12 := ⟨137, 17, by decide +kernel, by decide +kernel, by decide +kernel⟩
theorem p17_12 : ps_vV 17 12 2 8 0 15 := ⟨96, 8, by decide +kernel, by decide +kernel, by decide +kernel, by decide +kernel, by decide +kernel⟩
theorem p17_15 : ps_j 17 15 .ge 45 18 := ⟨30, by decide +kernel, by decide +kernel, by decide +kernel⟩
theorem p17_18 : ps_ld 17 18 1 19 := ⟨.iload_n 1, by decide +kernel, fun _ _ => rfl⟩
theorem p17_19 : ps_la 17 19 0 20 := ⟨.aload_n 0, by decide +kernel, fun _ _ => rfl⟩
theorem p17_20 : ps_gf 17 20 0 5 23 := ⟨38, 5, by decide +kernel, by decide +kernel, by decide +kernel⟩
theorem p17_23 : ps_gf 17 23 4 0 26 := ⟨137, 17, by decide +kernel, by decide +kernel, by decide +kernel⟩
theorem p17_26 : ps_ld 17 26 2 27 := ⟨.iload_n 2, by decide +kernel, fun _ _ => rfl⟩
theorem p17_27 : ps_vV 17 27 2 9 1 30 := ⟨113, 9, by decide +kernel, by decide +kernel, by decide +kernel, by decide +kernel, by decide +kernel⟩
theorem p17_30 : ps_ck 17 30 6 33 := ⟨207, by decide +kernel, by decide +kernel⟩
theorem p17_33 : ps_k 17 33 (Int32.ofNat 0) 34 := ⟨.iconst 0, by decide +kernel, fun _ _ => rfl⟩
theorem p17_34 : ps_vV 17 34 6 18 1 37 := ⟨223, 18, by decide +kernel, by decide +kernel, by decide +kernel, by decide +kernel, by decide +kernel⟩
theorem p17_37 : ps_b 17 37 (· + ·) 38 := ⟨.iadd, by decide +kernel, fun _ _ => rfl⟩
theorem p17_38 : ps_si 17 38 1 39 := ⟨.istore_n 1, by decide +kernel, fun _ _ => rfl⟩
theorem p17_39 : ps_pu 17 39 (.iinc 2 ((1 : Nat) : Int)) 42 := (by decide +kernel : ps_i 17 39 = some (.iinc 2 ((1 : Nat) : Int), 42))
theorem p17_42 : ps_jg 17 42 4 := ⟨(-38), 45, by decide +kernel, by decide +kernel, by decide +kernel⟩
theorem p17_45 : ps_ld 17 45 1 46 := ⟨.iload_n 1, by decide +kernel, fun _ _ => rfl⟩
theorem p17_46 : ps_pu 17 46 (.ireturn) 47 := (by decide +kernel : ps_i 17 46 = some (.ireturn, 47))
theorem e17 : ∀ v0 : Value, pm_ent 17 [v0] = [some v0, none, none] := fun _ => rfl
theorem l17 : 1 ≤ pm_mx 17 := by decide +kernel
theorem t17 : pm_ret 17 = (some .int) := by decide +kernel
theorem p18_0 : ps_k 18 0 (Int32.ofNat 0) 1 := ⟨.iconst 0, by decide +kernel, fun _ _ => rfl⟩
theorem p18_1 : ps_si 18 1 2 2 := ⟨.istore_n 2, by decide +kernel, fun _ _ => rfl⟩
theorem p18_2 : ps_k 18 2 (Int32.ofNat 0) 3 := ⟨.iconst 0, by decide +kernel, fun _ _ => rfl⟩
theorem p18_3 : ps_si 18 3 3 4 := ⟨.istore_n 3, by decide +kernel, fun _ _ => rfl⟩
theorem p18_4 : ps_ld 18 4 3 5 := ⟨.iload_n 3, by decide +kernel, fun _ _ => rfl⟩
theorem p18_5 : ps_la 18 5 0 6 := ⟨.aload_n 0, by decide +kernel, fun _ _ => rfl⟩
theorem p18_6 : ps_gf 18 6 6 1 9 := ⟨13, 25, by decide +kernel, by decide +kernel, by decide +kernel⟩
theorem p18_9 : ps_vV 18 9 2 8 0 12 := ⟨27, 8, by decide +kernel, by decide +kernel, by decide +kernel, by decide +kernel, by decide +kernel⟩
theorem p18_12 : ps_j 18 12 .ge 47 15 := ⟨35, by decide +kernel, by decide +kernel, by decide +kernel⟩
theorem p18_15 : ps_ld 18 15 2 16 := ⟨.iload_n 2, by decide +kernel, fun _ _ => rfl⟩
theorem p18_16 : ps_la 18 16 0 17 := ⟨.aload_n 0, by decide +kernel, fun _ _ => rfl⟩
theorem p18_17 : ps_gf 18 17 6 1 20 := ⟨13, 25, by decide +kernel, by decide +kernel, by decide +kernel⟩
theorem p18_20 : ps_ld 18 20 3 21 := ⟨.iload_n 3, by decide +kernel, fun _ _ => rfl⟩
theorem p18_21 : ps_vV 18 21 2 9 1 24 := ⟨31, 9, by decide +kernel, by decide +kernel, by decide +kernel, by decide +kernel, by decide +kernel⟩
theorem p18_24 : ps_ck 18 24 5 27 := ⟨35, by decide +kernel, by decide +kernel⟩
theorem p18_27 : ps_ld 18 27 1 28 := ⟨.iload_n 1, by decide +kernel, fun _ _ => rfl⟩
theorem p18_28 : ps_vV 18 28 5 19 1 31 := ⟨40, 19, by decide +kernel, by decide +kernel, by decide +kernel, by decide +kernel, by decide +kernel⟩
theorem p18_31 : ps_j0 18 31 .eq 38 34 := ⟨7, by decide +kernel, by decide +kernel, by decide +kernel⟩
theorem p18_34 : ps_k 18 34 (Int32.ofNat 0) 35 := ⟨.iconst 0, by decide +kernel, fun _ _ => rfl⟩
theorem p18_35 : ps_jg 18 35 39 := ⟨(4), 38, by decide +kernel, by decide +kernel, by decide +kernel⟩
theorem p18_38 : ps_k 18 38 (Int32.ofNat 1) 39 := ⟨.iconst 1, by decide +kernel, fun _ _ => rfl⟩
theorem p18_39 : ps_b 18 39 (· + ·) 40 := ⟨.iadd, by decide +kernel, fun _ _ => rfl⟩
theorem p18_40 : ps_si 18 40 2 41 := ⟨.istore_n 2, by decide +kernel, fun _ _ => rfl⟩
theorem p18_41 : ps_pu 18 41 (.iinc 3 ((1 : Nat) : Int)) 44 := (by decide +kernel : ps_i 18 41 = some (.iinc 3 ((1 : Nat) : Int), 44))
theorem p18_44 : ps_jg 18 44 4 := ⟨(-40), 47, by decide +kernel, by decide +kernel, by decide +kernel⟩
theorem p18_47 : ps_ld 18 47 2 48 := ⟨.iload_n 2, by decide +kernel, fun _ _ => rfl⟩
theorem p18_48 : ps_pu 18 48 (.ireturn) 49 := (by decide +kernel : ps_i 18 48 = some (.ireturn, 49))
theorem e18 : ∀ v0 v1 : Value, pm_ent 18 [v0, v1] = [some v0, some v1, none, none] := fun _ _ => rfl
theorem l18 : 2 ≤ pm_mx 18 := by decide +kernel
theorem t18 : pm_ret 18 = (some .int) := by decide +kernel
theorem p19_0 : ps_la 19 0 0 1 := ⟨.aload_n 0, by decide +kernel, fun _ _ => rfl⟩
theorem p19_1 : ps_gf 19 1 5 4 4 := ⟨13, 23, by decide +kernel, by decide +kernel, by decide +kernel⟩
theorem p19_4 : ps_j0 19 4 .ne 18 7 := ⟨14, by decide +kernel, by decide +kernel, by decide +kernel⟩
theorem p19_7 : ps_ld 19 7 1 8 := ⟨.iload_n 1, by decide +kernel, fun _ _ => rfl⟩
theorem p19_8 : ps_j0 19 8 .eq 22 11 := ⟨14, by decide +kernel, by decide +kernel, by decide +kernel⟩
theorem p19_11 : ps_la 19 11 0 12 := ⟨.aload_n 0, by decide +kernel, fun _ _ => rfl⟩
theorem p19_12 : ps_gf 19 12 5 3 15 := ⟨7, 22, by decide +kernel, by decide +kernel, by decide +kernel⟩
theorem p19_15 : ps_j0 19 15 .eq 22 18 := ⟨7, by decide +kernel, by decide +kernel, by decide +kernel⟩
theorem p19_18 : ps_k 19 18 (Int32.ofNat 1) 19 := ⟨.iconst 1, by decide +kernel, fun _ _ => rfl⟩
theorem p19_19 : ps_jg 19 19 23 := ⟨(4), 22, by decide +kernel, by decide +kernel, by decide +kernel⟩
theorem p19_22 : ps_k 19 22 (Int32.ofNat 0) 23 := ⟨.iconst 0, by decide +kernel, fun _ _ => rfl⟩
theorem p19_23 : ps_pu 19 23 (.ireturn) 24 := (by decide +kernel : ps_i 19 23 = some (.ireturn, 24))
theorem e19 : ∀ v0 v1 : Value, pm_ent 19 [v0, v1] = [some v0, some v1] := fun _ _ => rfl
theorem l19 : 2 ≤ pm_mx 19 := by decide +kernel
theorem t19 : pm_ret 19 = (some .boolean) := by decide +kernel
theorem p20_0 : ps_la 20 0 0 1 := ⟨.aload_n 0, by decide +kernel, fun _ _ => rfl⟩
theorem p20_1 : ps_gf 20 1 0 4 4 := ⟨32, 4, by decide +kernel, by decide +kernel, by decide +kernel⟩
theorem p20_4 : ps_vV 20 4 2 8 0 7 := ⟨96, 8, by decide +kernel, by decide +kernel, by decide +kernel, by decide +kernel, by decide +kernel⟩
theorem p20_7 : ps_pu 20 7 (.ireturn) 8 := (by decide +kernel : ps_i 20 7 = some (.ireturn, 8))
theorem e20 : ∀ v0 : Value, pm_ent 20 [v0] = [some v0] := fun _ => rfl
theorem l20 : 1 ≤ pm_mx 20 := by decide +kernel
theorem t20 : pm_ret 20 = (some .int) := by decide +kernel
theorem p21_0 : ps_la 21 0 0 1 := ⟨.aload_n 0, by decide +kernel, fun _ _ => rfl⟩
theorem p21_1 : ps_gf 21 1 0 5 4 := ⟨38, 5, by decide +kernel, by decide +kernel, by decide +kernel⟩
theorem p21_4 : ps_gf 21 4 4 0 7 := ⟨137, 17, by decide +kernel, by decide +kernel, by decide +kernel⟩
theorem p21_7 : ps_vV 21 7 2 8 0 10 := ⟨96, 8, by decide +kernel, by decide +kernel, by decide +kernel, by decide +kernel, by decide +kernel⟩
theorem p21_10 : ps_pu 21 10 (.ireturn) 11 := (by decide +kernel : ps_i 21 10 = some (.ireturn, 11))
theorem e21 : ∀ v0 : Value, pm_ent 21 [v0] = [some v0] := fun _ => rfl
theorem l21 : 1 ≤ pm_mx 21 := by decide +kernel
theorem t21 : pm_ret 21 = (some .int) := by decide +kernel
theorem p22_0 : ps_la 22 0 0 1 := ⟨.aload_n 0, by decide +kernel, fun _ _ => rfl⟩
theorem p22_1 : ps_ld 22 1 1 2 := ⟨.iload_n 1, by decide +kernel, fun _ _ => rfl⟩
theorem p22_2 : ps_vV 22 2 0 23 1 5 := ⟨227, 23, by decide +kernel, by decide +kernel, by decide +kernel, by decide +kernel, by decide +kernel⟩
theorem p22_5 : ps_sa 22 5 2 6 := ⟨.astore_n 2, by decide +kernel, fun _ _ => rfl⟩
theorem p22_6 : ps_la 22 6 2 7 := ⟨.aload_n 2, by decide +kernel, fun _ _ => rfl⟩
theorem p22_7 : ps_jn 22 7 false 15 10 := ⟨(8), by decide +kernel, by decide +kernel, by decide +kernel⟩
theorem p22_10 : ps_k 22 10 (-2 : Int32) 12 := ⟨.bipush (-2), by decide +kernel, fun _ _ => rfl⟩
theorem p22_12 : ps_jg 22 12 19 := ⟨(7), 15, by decide +kernel, by decide +kernel, by decide +kernel⟩
theorem p22_15 : ps_la 22 15 2 16 := ⟨.aload_n 2, by decide +kernel, fun _ _ => rfl⟩
theorem p22_16 : ps_gf 22 16 3 1 19 := ⟨231, 16, by decide +kernel, by decide +kernel, by decide +kernel⟩
theorem p22_19 : ps_pu 22 19 (.ireturn) 20 := (by decide +kernel : ps_i 22 19 = some (.ireturn, 20))
theorem e22 : ∀ v0 v1 : Value, pm_ent 22 [v0, v1] = [some v0, some v1, none] := fun _ _ => rfl
theorem l22 : 2 ≤ pm_mx 22 := by decide +kernel
theorem t22 : pm_ret 22 = (some .int) := by decide +kernel
theorem p23_0 : ps_ld 23 0 1 1 := ⟨.iload_n 1, by decide +kernel, fun _ _ => rfl⟩
theorem p23_1 : ps_k 23 1 (-1 : Int32) 2 := ⟨.iconst (-1), by decide +kernel, fun _ _ => rfl⟩
theorem p23_2 : ps_j 23 2 .ne 13 5 := ⟨11, by decide +kernel, by decide +kernel, by decide +kernel⟩
theorem p23_5 : ps_la 23 5 0 6 := ⟨.aload_n 0, by decide +kernel, fun _ _ => rfl⟩
theorem p23_6 : ps_gf 23 6 0 5 9 := ⟨38, 5, by decide +kernel, by decide +kernel, by decide +kernel⟩
theorem p23_9 : ps_gf 23 9 4 1 12 := ⟨242, 18, by decide +kernel, by decide +kernel, by decide +kernel⟩
theorem p23_12 : ps_pu 23 12 (.areturn) 13 := (by decide +kernel : ps_i 23 12 = some (.areturn, 13))
theorem p23_13 : ps_ld 23 13 1 14 := ⟨.iload_n 1, by decide +kernel, fun _ _ => rfl⟩
theorem p23_14 : ps_j0 23 14 .lt 31 17 := ⟨17, by decide +kernel, by decide +kernel, by decide +kernel⟩
theorem p23_17 : ps_ld 23 17 1 18 := ⟨.iload_n 1, by decide +kernel, fun _ _ => rfl⟩
theorem p23_18 : ps_la 23 18 0 19 := ⟨.aload_n 0, by decide +kernel, fun _ _ => rfl⟩
theorem p23_19 : ps_gf 23 19 0 5 22 := ⟨38, 5, by decide +kernel, by decide +kernel, by decide +kernel⟩
theorem p23_22 : ps_gf 23 22 4 0 25 := ⟨137, 17, by decide +kernel, by decide +kernel, by decide +kernel⟩
theorem p23_25 : ps_vV 23 25 2 8 0 28 := ⟨96, 8, by decide +kernel, by decide +kernel, by decide +kernel, by decide +kernel, by decide +kernel⟩
theorem p23_28 : ps_j 23 28 .lt 35 31 := ⟨7, by decide +kernel, by decide +kernel, by decide +kernel⟩
theorem p23_31 : ps_pu 23 31 (.aconst_null) 32 := (by decide +kernel : ps_i 23 31 = some (.aconst_null, 32))
theorem p23_32 : ps_jg 23 32 52 := ⟨(20), 35, by decide +kernel, by decide +kernel, by decide +kernel⟩
theorem p23_35 : ps_la 23 35 0 36 := ⟨.aload_n 0, by decide +kernel, fun _ _ => rfl⟩
theorem p23_36 : ps_gf 23 36 0 5 39 := ⟨38, 5, by decide +kernel, by decide +kernel, by decide +kernel⟩
theorem p23_39 : ps_gf 23 39 4 0 42 := ⟨137, 17, by decide +kernel, by decide +kernel, by decide +kernel⟩
theorem p23_42 : ps_ld 23 42 1 43 := ⟨.iload_n 1, by decide +kernel, fun _ _ => rfl⟩
theorem p23_43 : ps_vV 23 43 2 9 1 46 := ⟨113, 9, by decide +kernel, by decide +kernel, by decide +kernel, by decide +kernel, by decide +kernel⟩
theorem p23_46 : ps_ck 23 46 6 49 := ⟨207, by decide +kernel, by decide +kernel⟩
theorem p23_49 : ps_gf 23 49 6 2 52 := ⟨245, 26, by decide +kernel, by decide +kernel, by decide +kernel⟩
theorem p23_52 : ps_pu 23 52 (.areturn) 53 := (by decide +kernel : ps_i 23 52 = some (.areturn, 53))
theorem e23 : ∀ v0 v1 : Value, pm_ent 23 [v0, v1] = [some v0, some v1] := fun _ _ => rfl
theorem l23 : 2 ≤ pm_mx 23 := by decide +kernel
theorem t23 : ps_isr (pm_ret 23) = true := by decide +kernel
theorem p24_0 : ps_la 24 0 0 1 := ⟨.aload_n 0, by decide +kernel, fun _ _ => rfl⟩
theorem p24_1 : ps_ld 24 1 1 2 := ⟨.iload_n 1, by decide +kernel, fun _ _ => rfl⟩
theorem p24_2 : ps_vV 24 2 0 23 1 5 := ⟨227, 23, by decide +kernel, by decide +kernel, by decide +kernel, by decide +kernel, by decide +kernel⟩
theorem p24_5 : ps_sa 24 5 3 6 := ⟨.astore_n 3, by decide +kernel, fun _ _ => rfl⟩
theorem p24_6 : ps_la 24 6 3 7 := ⟨.aload_n 3, by decide +kernel, fun _ _ => rfl⟩
theorem p24_7 : ps_jn 24 7 true 22 10 := ⟨(15), by decide +kernel, by decide +kernel, by decide +kernel⟩
theorem p24_10 : ps_ld 24 10 2 11 := ⟨.iload_n 2, by decide +kernel, fun _ _ => rfl⟩
theorem p24_11 : ps_j0 24 11 .lt 22 14 := ⟨11, by decide +kernel, by decide +kernel, by decide +kernel⟩
theorem p24_14 : ps_ld 24 14 2 15 := ⟨.iload_n 2, by decide +kernel, fun _ _ => rfl⟩
theorem p24_15 : ps_la 24 15 3 16 := ⟨.aload_n 3, by decide +kernel, fun _ _ => rfl⟩
theorem p24_16 : ps_gf 24 16 3 1 19 := ⟨231, 16, by decide +kernel, by decide +kernel, by decide +kernel⟩
theorem p24_19 : ps_j 24 19 .lt 27 22 := ⟨8, by decide +kernel, by decide +kernel, by decide +kernel⟩
theorem p24_22 : ps_k 24 22 (-2 : Int32) 24 := ⟨.bipush (-2), by decide +kernel, fun _ _ => rfl⟩
theorem p24_24 : ps_jg 24 24 33 := ⟨(9), 27, by decide +kernel, by decide +kernel, by decide +kernel⟩
theorem p24_27 : ps_la 24 27 3 28 := ⟨.aload_n 3, by decide +kernel, fun _ _ => rfl⟩
theorem p24_28 : ps_gf 24 28 3 0 31 := ⟨232, 15, by decide +kernel, by decide +kernel, by decide +kernel⟩
theorem p24_31 : ps_ld 24 31 2 32 := ⟨.iload_n 2, by decide +kernel, fun _ _ => rfl⟩
theorem p24_32 : ps_pu 24 32 (.iaload) 33 := (by decide +kernel : ps_i 24 32 = some (.iaload, 33))
theorem p24_33 : ps_pu 24 33 (.ireturn) 34 := (by decide +kernel : ps_i 24 33 = some (.ireturn, 34))
theorem e24 : ∀ v0 v1 v2 : Value, pm_ent 24 [v0, v1, v2] = [some v0, some v1, some v2, none] := fun _ _ _ => rfl
theorem l24 : 3 ≤ pm_mx 24 := by decide +kernel
theorem t24 : pm_ret 24 = (some .int) := by decide +kernel
theorem p25_0 : ps_la 25 0 0 1 := ⟨.aload_n 0, by decide +kernel, fun _ _ => rfl⟩
theorem p25_1 : ps_gf 25 1 0 0 4 := ⟨65, 0, by decide +kernel, by decide +kernel, by decide +kernel⟩
theorem p25_4 : ps_la 25 4 0 5 := ⟨.aload_n 0, by decide +kernel, fun _ _ => rfl⟩
theorem p25_5 : ps_gf 25 5 0 5 8 := ⟨38, 5, by decide +kernel, by decide +kernel, by decide +kernel⟩
theorem p25_8 : ps_vV 25 8 4 26 0 11 := ⟨236, 26, by decide +kernel, by decide +kernel, by decide +kernel, by decide +kernel, by decide +kernel⟩
theorem p25_11 : ps_b 25 11 (· - ·) 12 := ⟨.isub, by decide +kernel, fun _ _ => rfl⟩
theorem p25_12 : ps_pu 25 12 (.ireturn) 13 := (by decide +kernel : ps_i 25 12 = some (.ireturn, 13))
theorem e25 : ∀ v0 : Value, pm_ent 25 [v0] = [some v0] := fun _ => rfl
theorem l25 : 1 ≤ pm_mx 25 := by decide +kernel
theorem t25 : pm_ret 25 = (some .int) := by decide +kernel
theorem p26_0 : ps_la 26 0 0 1 := ⟨.aload_n 0, by decide +kernel, fun _ _ => rfl⟩
theorem p26_1 : ps_gf 26 1 4 1 4 := ⟨23, 18, by decide +kernel, by decide +kernel, by decide +kernel⟩
theorem p26_4 : ps_gf 26 4 3 1 7 := ⟨27, 16, by decide +kernel, by decide +kernel, by decide +kernel⟩
theorem p26_7 : ps_si 26 7 1 8 := ⟨.istore_n 1, by decide +kernel, fun _ _ => rfl⟩
theorem p26_8 : ps_k 26 8 (Int32.ofNat 0) 9 := ⟨.iconst 0, by decide +kernel, fun _ _ => rfl⟩
theorem p26_9 : ps_si 26 9 2 10 := ⟨.istore_n 2, by decide +kernel, fun _ _ => rfl⟩
theorem p26_10 : ps_ld 26 10 2 11 := ⟨.iload_n 2, by decide +kernel, fun _ _ => rfl⟩
theorem p26_11 : ps_la 26 11 0 12 := ⟨.aload_n 0, by decide +kernel, fun _ _ => rfl⟩
theorem p26_12 : ps_gf 26 12 4 0 15 := ⟨12, 17, by decide +kernel, by decide +kernel, by decide +kernel⟩
theorem p26_15 : ps_vV 26 15 2 8 0 18 := ⟨31, 8, by decide +kernel, by decide +kernel, by decide +kernel, by decide +kernel, by decide +kernel⟩
theorem p26_18 : ps_j 26 18 .ge 47 21 := ⟨29, by decide +kernel, by decide +kernel, by decide +kernel⟩
theorem p26_21 : ps_ld 26 21 1 22 := ⟨.iload_n 1, by decide +kernel, fun _ _ => rfl⟩
theorem p26_22 : ps_la 26 22 0 23 := ⟨.aload_n 0, by decide +kernel, fun _ _ => rfl⟩
theorem p26_23 : ps_gf 26 23 4 0 26 := ⟨12, 17, by decide +kernel, by decide +kernel, by decide +kernel⟩
theorem p26_26 : ps_ld 26 26 2 27 := ⟨.iload_n 2, by decide +kernel, fun _ _ => rfl⟩
theorem p26_27 : ps_vV 26 27 2 9 1 30 := ⟨35, 9, by decide +kernel, by decide +kernel, by decide +kernel, by decide +kernel, by decide +kernel⟩
theorem p26_30 : ps_ck 26 30 6 33 := ⟨39, by decide +kernel, by decide +kernel⟩
theorem p26_33 : ps_gf 26 33 6 2 36 := ⟨41, 26, by decide +kernel, by decide +kernel, by decide +kernel⟩
theorem p26_36 : ps_gf 26 36 3 1 39 := ⟨27, 16, by decide +kernel, by decide +kernel, by decide +kernel⟩
theorem p26_39 : ps_b 26 39 (· + ·) 40 := ⟨.iadd, by decide +kernel, fun _ _ => rfl⟩
theorem p26_40 : ps_si 26 40 1 41 := ⟨.istore_n 1, by decide +kernel, fun _ _ => rfl⟩
theorem p26_41 : ps_pu 26 41 (.iinc 2 ((1 : Nat) : Int)) 44 := (by decide +kernel : ps_i 26 41 = some (.iinc 2 ((1 : Nat) : Int), 44))
theorem p26_44 : ps_jg 26 44 10 := ⟨(-34), 47, by decide +kernel, by decide +kernel, by decide +kernel⟩
theorem p26_47 : ps_ld 26 47 1 48 := ⟨.iload_n 1, by decide +kernel, fun _ _ => rfl⟩
theorem p26_48 : ps_pu 26 48 (.ireturn) 49 := (by decide +kernel : ps_i 26 48 = some (.ireturn, 49))
theorem e26 : ∀ v0 : Value, pm_ent 26 [v0] = [some v0, none, none] := fun _ => rfl
theorem l26 : 1 ≤ pm_mx 26 := by decide +kernel
theorem t26 : pm_ret 26 = (some .int) := by decide +kernel
theorem p27_0 : ps_ld 27 0 1 1 := ⟨.iload_n 1, by decide +kernel, fun _ _ => rfl⟩
theorem p27_1 : ps_la 27 1 0 2 := ⟨.aload_n 0, by decide +kernel, fun _ _ => rfl⟩
theorem p27_2 : ps_pu 27 2 (.arraylength) 3 := (by decide +kernel : ps_i 27 2 = some (.arraylength, 3))
theorem p27_3 : ps_j 27 3 .ge 12 6 := ⟨9, by decide +kernel, by decide +kernel, by decide +kernel⟩
theorem p27_6 : ps_la 27 6 0 7 := ⟨.aload_n 0, by decide +kernel, fun _ _ => rfl⟩
theorem p27_7 : ps_ld 27 7 1 8 := ⟨.iload_n 1, by decide +kernel, fun _ _ => rfl⟩
theorem p27_8 : ps_pu 27 8 (.iaload) 9 := (by decide +kernel : ps_i 27 8 = some (.iaload, 9))
theorem p27_9 : ps_jg 27 9 13 := ⟨(4), 12, by decide +kernel, by decide +kernel, by decide +kernel⟩
theorem p27_12 : ps_k 27 12 (Int32.ofNat 0) 13 := ⟨.iconst 0, by decide +kernel, fun _ _ => rfl⟩
theorem p27_13 : ps_pu 27 13 (.ireturn) 14 := (by decide +kernel : ps_i 27 13 = some (.ireturn, 14))
theorem e27 : ∀ v0 v1 : Value, pm_ent 27 [v0, v1] = [some v0, some v1] := fun _ _ => rfl
theorem l27 : 2 ≤ pm_mx 27 := by decide +kernel
theorem t27 : pm_ret 27 = (some .int) := by decide +kernel
theorem p28_0 : ps_la 28 0 2 1 := ⟨.aload_n 2, by decide +kernel, fun _ _ => rfl⟩
theorem p28_1 : ps_k 28 1 (Int32.ofNat 0) 2 := ⟨.iconst 0, by decide +kernel, fun _ _ => rfl⟩
theorem p28_2 : ps_la 28 2 0 3 := ⟨.aload_n 0, by decide +kernel, fun _ _ => rfl⟩
theorem p28_3 : ps_ld 28 3 1 4 := ⟨.iload_n 1, by decide +kernel, fun _ _ => rfl⟩
theorem p28_4 : ps_vV 28 4 0 29 1 7 := ⟨7, 29, by decide +kernel, by decide +kernel, by decide +kernel, by decide +kernel, by decide +kernel⟩
theorem p28_7 : ps_pu 28 7 (.i2l) 8 := (by decide +kernel : ps_i 28 7 = some (.i2l, 8))
theorem p28_8 : ps_pu 28 8 (.lastore) 9 := (by decide +kernel : ps_i 28 8 = some (.lastore, 9))
theorem p28_9 : ps_jg 28 9 18 := ⟨(9), 12, by decide +kernel, by decide +kernel, by decide +kernel⟩
theorem p28_12 : ps_sa 28 12 3 13 := ⟨.astore_n 3, by decide +kernel, fun _ _ => rfl⟩
theorem p28_13 : ps_k 28 13 (Int32.ofNat 1) 14 := ⟨.iconst 1, by decide +kernel, fun _ _ => rfl⟩
theorem p28_14 : ps_pu 28 14 (.ireturn) 15 := (by decide +kernel : ps_i 28 14 = some (.ireturn, 15))
theorem p28_15 : ps_sa 28 15 3 16 := ⟨.astore_n 3, by decide +kernel, fun _ _ => rfl⟩
theorem p28_16 : ps_k 28 16 (Int32.ofNat 2) 17 := ⟨.iconst 2, by decide +kernel, fun _ _ => rfl⟩
theorem p28_17 : ps_pu 28 17 (.ireturn) 18 := (by decide +kernel : ps_i 28 17 = some (.ireturn, 18))
theorem p28_18 : ps_k 28 18 (Int32.ofNat 0) 19 := ⟨.iconst 0, by decide +kernel, fun _ _ => rfl⟩
theorem p28_19 : ps_pu 28 19 (.ireturn) 20 := (by decide +kernel : ps_i 28 19 = some (.ireturn, 20))
theorem e28 : ∀ v0 v1 v2 : Value, pm_ent 28 [v0, v1, v2] = [some v0, some v1, some v2, none] := fun _ _ _ => rfl
theorem l28 : 3 ≤ pm_mx 28 := by decide +kernel
theorem t28 : pm_ret 28 = (some .int) := by decide +kernel
theorem p29_0 : ps_ld 29 0 1 1 := ⟨.iload_n 1, by decide +kernel, fun _ _ => rfl⟩
theorem p29_1 : ps_vS 29 1 30 1 4 := ⟨68, by decide +kernel, by decide +kernel, by decide +kernel, by decide +kernel⟩
theorem p29_4 : ps_j0 29 4 .ne 17 7 := ⟨13, by decide +kernel, by decide +kernel, by decide +kernel⟩
theorem p29_7 : ps_th 29 7 0 := ⟨72, 10, by decide +kernel, by decide +kernel, by decide +kernel, by decide +kernel⟩
theorem p29_10 : ps_pu 29 10 (.dup) 11 := (by decide +kernel : ps_i 29 10 = some (.dup, 11))
theorem p29_11 : ps_pu 29 11 (.ldc 74) 13 := (by decide +kernel : ps_i 29 11 = some (.ldc 74, 13))
theorem p29_16 : ps_pu 29 16 (.athrow) 17 := (by decide +kernel : ps_i 29 16 = some (.athrow, 17))
theorem p29_17 : ps_la 29 17 0 18 := ⟨.aload_n 0, by decide +kernel, fun _ _ => rfl⟩
theorem p29_18 : ps_gf 29 18 0 1 21 := ⟨10, 1, by decide +kernel, by decide +kernel, by decide +kernel⟩
theorem p29_21 : ps_gf 29 21 1 1 24 := ⟨79, 11, by decide +kernel, by decide +kernel, by decide +kernel⟩
theorem p29_24 : ps_k 29 24 (Int32.ofNat 8) 26 := ⟨.bipush 8, by decide +kernel, fun _ _ => rfl⟩
theorem p29_26 : ps_j 29 26 .lt 39 29 := ⟨13, by decide +kernel, by decide +kernel, by decide +kernel⟩
theorem p29_29 : ps_th 29 29 1 := ⟨82, 32, by decide +kernel, by decide +kernel, by decide +kernel, by decide +kernel⟩
theorem p29_32 : ps_pu 29 32 (.dup) 33 := (by decide +kernel : ps_i 29 32 = some (.dup, 33))
theorem p29_33 : ps_pu 29 33 (.ldc 84) 35 := (by decide +kernel : ps_i 29 33 = some (.ldc 84, 35))
theorem p29_38 : ps_pu 29 38 (.athrow) 39 := (by decide +kernel : ps_i 29 38 = some (.athrow, 39))
theorem p29_39 : ps_la 29 39 0 40 := ⟨.aload_n 0, by decide +kernel, fun _ _ => rfl⟩
theorem p29_40 : ps_gf 29 40 0 1 43 := ⟨10, 1, by decide +kernel, by decide +kernel, by decide +kernel⟩
theorem p29_43 : ps_ld 29 43 1 44 := ⟨.iload_n 1, by decide +kernel, fun _ _ => rfl⟩
theorem p29_44 : ps_vV 29 44 1 31 1 47 := ⟨87, 31, by decide +kernel, by decide +kernel, by decide +kernel, by decide +kernel, by decide +kernel⟩
theorem p29_47 : ps_la 29 47 0 48 := ⟨.aload_n 0, by decide +kernel, fun _ _ => rfl⟩
theorem p29_48 : ps_gf 29 48 0 1 51 := ⟨10, 1, by decide +kernel, by decide +kernel, by decide +kernel⟩
theorem p29_51 : ps_gf 29 51 1 1 54 := ⟨79, 11, by decide +kernel, by decide +kernel, by decide +kernel⟩
theorem p29_54 : ps_pu 29 54 (.ireturn) 55 := (by decide +kernel : ps_i 29 54 = some (.ireturn, 55))
theorem e29 : ∀ v0 v1 : Value, pm_ent 29 [v0, v1] = [some v0, some v1] := fun _ _ => rfl
theorem l29 : 2 ≤ pm_mx 29 := by decide +kernel
theorem t29 : pm_ret 29 = (some .int) := by decide +kernel
theorem p30_0 : ps_ld 30 0 0 1 := ⟨.iload_n 0, by decide +kernel, fun _ _ => rfl⟩
theorem p30_1 : ps_j0 30 1 .lt 14 4 := ⟨13, by decide +kernel, by decide +kernel, by decide +kernel⟩
theorem p30_4 : ps_ld 30 4 0 5 := ⟨.iload_n 0, by decide +kernel, fun _ _ => rfl⟩
theorem p30_5 : ps_k 30 5 (Int32.ofNat 16) 7 := ⟨.bipush 16, by decide +kernel, fun _ _ => rfl⟩
theorem p30_7 : ps_j 30 7 .ge 14 10 := ⟨7, by decide +kernel, by decide +kernel, by decide +kernel⟩
theorem p30_10 : ps_k 30 10 (Int32.ofNat 1) 11 := ⟨.iconst 1, by decide +kernel, fun _ _ => rfl⟩
theorem p30_11 : ps_jg 30 11 15 := ⟨(4), 14, by decide +kernel, by decide +kernel, by decide +kernel⟩
theorem p30_14 : ps_k 30 14 (Int32.ofNat 0) 15 := ⟨.iconst 0, by decide +kernel, fun _ _ => rfl⟩
theorem p30_15 : ps_pu 30 15 (.ireturn) 16 := (by decide +kernel : ps_i 30 15 = some (.ireturn, 16))
theorem e30 : ∀ v0 : Value, pm_ent 30 [v0] = [some v0] := fun _ => rfl
theorem l30 : 1 ≤ pm_mx 30 := by decide +kernel
theorem t30 : pm_ret 30 = (some .boolean) := by decide +kernel
theorem p31_0 : ps_la 31 0 0 1 := ⟨.aload_n 0, by decide +kernel, fun _ _ => rfl⟩
theorem p31_1 : ps_gf 31 1 1 0 4 := ⟨9, 10, by decide +kernel, by decide +kernel, by decide +kernel⟩
theorem p31_4 : ps_ld 31 4 1 5 := ⟨.iload_n 1, by decide +kernel, fun _ _ => rfl⟩
theorem p31_5 : ps_pu 31 5 (.dup2) 6 := (by decide +kernel : ps_i 31 5 = some (.dup2, 6))
theorem p31_6 : ps_pu 31 6 (.iaload) 7 := (by decide +kernel : ps_i 31 6 = some (.iaload, 7))
theorem p31_7 : ps_k 31 7 (Int32.ofNat 1) 8 := ⟨.iconst 1, by decide +kernel, fun _ _ => rfl⟩
theorem p31_8 : ps_la 31 8 0 9 := ⟨.aload_n 0, by decide +kernel, fun _ _ => rfl⟩
theorem p31_9 : ps_gf 31 9 1 1 12 := ⟨15, 11, by decide +kernel, by decide +kernel, by decide +kernel⟩
theorem p31_12 : ps_b 31 12 (fun x y => x <<< (y &&& 31)) 13 := ⟨.ishl, by decide +kernel, fun _ _ => rfl⟩
theorem p31_13 : ps_b 31 13 (· ||| ·) 14 := ⟨.ior, by decide +kernel, fun _ _ => rfl⟩
theorem p31_14 : ps_pu 31 14 (.iastore) 15 := (by decide +kernel : ps_i 31 14 = some (.iastore, 15))
theorem p31_15 : ps_la 31 15 0 16 := ⟨.aload_n 0, by decide +kernel, fun _ _ => rfl⟩
theorem p31_16 : ps_pu 31 16 (.dup) 17 := (by decide +kernel : ps_i 31 16 = some (.dup, 17))
theorem p31_17 : ps_gf 31 17 1 1 20 := ⟨15, 11, by decide +kernel, by decide +kernel, by decide +kernel⟩
theorem p31_20 : ps_k 31 20 (Int32.ofNat 1) 21 := ⟨.iconst 1, by decide +kernel, fun _ _ => rfl⟩
theorem p31_21 : ps_b 31 21 (· + ·) 22 := ⟨.iadd, by decide +kernel, fun _ _ => rfl⟩
theorem p31_22 : ps_pf 31 22 1 1 (.int) 25 := ⟨15, 11, by decide +kernel, by decide +kernel, by decide +kernel, by decide +kernel, by decide +kernel⟩
theorem p31_25 : ps_pu 31 25 (.return_) 26 := (by decide +kernel : ps_i 31 25 = some (.return_, 26))
theorem e31 : ∀ v0 v1 : Value, pm_ent 31 [v0, v1] = [some v0, some v1] := fun _ _ => rfl
theorem l31 : 2 ≤ pm_mx 31 := by decide +kernel
theorem t31 : pm_ret 31 = none := by decide +kernel
theorem p32_0 : ps_la 32 0 2 1 := ⟨.aload_n 2, by decide +kernel, fun _ _ => rfl⟩
theorem p32_1 : ps_k 32 1 (Int32.ofNat 0) 2 := ⟨.iconst 0, by decide +kernel, fun _ _ => rfl⟩
theorem p32_2 : ps_la 32 2 0 3 := ⟨.aload_n 0, by decide +kernel, fun _ _ => rfl⟩
theorem p32_3 : ps_ld 32 3 1 4 := ⟨.iload_n 1, by decide +kernel, fun _ _ => rfl⟩
theorem p32_4 : ps_vV 32 4 0 33 1 7 := ⟨17, 33, by decide +kernel, by decide +kernel, by decide +kernel, by decide +kernel, by decide +kernel⟩
theorem p32_7 : ps_pu 32 7 (.i2l) 8 := (by decide +kernel : ps_i 32 7 = some (.i2l, 8))
theorem p32_8 : ps_pu 32 8 (.lastore) 9 := (by decide +kernel : ps_i 32 8 = some (.lastore, 9))
theorem p32_9 : ps_jg 32 9 18 := ⟨(9), 12, by decide +kernel, by decide +kernel, by decide +kernel⟩
theorem p32_12 : ps_sa 32 12 3 13 := ⟨.astore_n 3, by decide +kernel, fun _ _ => rfl⟩
theorem p32_13 : ps_k 32 13 (Int32.ofNat 1) 14 := ⟨.iconst 1, by decide +kernel, fun _ _ => rfl⟩
theorem p32_14 : ps_pu 32 14 (.ireturn) 15 := (by decide +kernel : ps_i 32 14 = some (.ireturn, 15))
theorem p32_15 : ps_sa 32 15 3 16 := ⟨.astore_n 3, by decide +kernel, fun _ _ => rfl⟩
theorem p32_16 : ps_k 32 16 (Int32.ofNat 2) 17 := ⟨.iconst 2, by decide +kernel, fun _ _ => rfl⟩
theorem p32_17 : ps_pu 32 17 (.ireturn) 18 := (by decide +kernel : ps_i 32 17 = some (.ireturn, 18))
theorem p32_18 : ps_k 32 18 (Int32.ofNat 0) 19 := ⟨.iconst 0, by decide +kernel, fun _ _ => rfl⟩
theorem p32_19 : ps_pu 32 19 (.ireturn) 20 := (by decide +kernel : ps_i 32 19 = some (.ireturn, 20))
theorem e32 : ∀ v0 v1 v2 : Value, pm_ent 32 [v0, v1, v2] = [some v0, some v1, some v2, none] := fun _ _ _ => rfl
theorem l32 : 3 ≤ pm_mx 32 := by decide +kernel
theorem t32 : pm_ret 32 = (some .int) := by decide +kernel
theorem p33_0 : ps_ld 33 0 1 1 := ⟨.iload_n 1, by decide +kernel, fun _ _ => rfl⟩
theorem p33_1 : ps_la 33 1 0 2 := ⟨.aload_n 0, by decide +kernel, fun _ _ => rfl⟩
theorem p33_2 : ps_vV 33 2 0 34 0 5 := ⟨90, 34, by decide +kernel, by decide +kernel, by decide +kernel, by decide +kernel, by decide +kernel⟩
theorem p33_5 : ps_j 33 5 .gt 18 8 := ⟨13, by decide +kernel, by decide +kernel, by decide +kernel⟩
theorem p33_8 : ps_th 33 8 0 := ⟨72, 11, by decide +kernel, by decide +kernel, by decide +kernel, by decide +kernel⟩
theorem p33_11 : ps_pu 33 11 (.dup) 12 := (by decide +kernel : ps_i 33 11 = some (.dup, 12))
theorem p33_12 : ps_pu 33 12 (.ldc 94) 14 := (by decide +kernel : ps_i 33 12 = some (.ldc 94, 14))
theorem p33_17 : ps_pu 33 17 (.athrow) 18 := (by decide +kernel : ps_i 33 17 = some (.athrow, 18))
theorem p33_18 : ps_la 33 18 0 19 := ⟨.aload_n 0, by decide +kernel, fun _ _ => rfl⟩
theorem p33_19 : ps_gf 33 19 0 1 22 := ⟨10, 1, by decide +kernel, by decide +kernel, by decide +kernel⟩
theorem p33_22 : ps_gf 33 22 1 1 25 := ⟨79, 11, by decide +kernel, by decide +kernel, by decide +kernel⟩
theorem p33_25 : ps_j0 33 25 .eq 40 28 := ⟨15, by decide +kernel, by decide +kernel, by decide +kernel⟩
theorem p33_28 : ps_la 33 28 0 29 := ⟨.aload_n 0, by decide +kernel, fun _ _ => rfl⟩
theorem p33_29 : ps_gf 33 29 0 4 32 := ⟨32, 4, by decide +kernel, by decide +kernel, by decide +kernel⟩
theorem p33_32 : ps_vV 33 32 2 8 0 35 := ⟨96, 8, by decide +kernel, by decide +kernel, by decide +kernel, by decide +kernel, by decide +kernel⟩
theorem p33_35 : ps_k 33 35 (Int32.ofNat 12) 37 := ⟨.bipush 12, by decide +kernel, fun _ _ => rfl⟩
theorem p33_37 : ps_j 33 37 .lt 50 40 := ⟨13, by decide +kernel, by decide +kernel, by decide +kernel⟩
theorem p33_40 : ps_th 33 40 1 := ⟨82, 43, by decide +kernel, by decide +kernel, by decide +kernel, by decide +kernel⟩
theorem p33_43 : ps_pu 33 43 (.dup) 44 := (by decide +kernel : ps_i 33 43 = some (.dup, 44))
theorem p33_44 : ps_pu 33 44 (.ldc 99) 46 := (by decide +kernel : ps_i 33 44 = some (.ldc 99, 46))
theorem p33_49 : ps_pu 33 49 (.athrow) 50 := (by decide +kernel : ps_i 33 49 = some (.athrow, 50))
theorem p33_50 : ps_la 33 50 0 51 := ⟨.aload_n 0, by decide +kernel, fun _ _ => rfl⟩
theorem p33_51 : ps_gf 33 51 0 4 54 := ⟨32, 4, by decide +kernel, by decide +kernel, by decide +kernel⟩
theorem p33_54 : ps_nw 33 54 5 57 := ⟨101, by decide +kernel, by decide +kernel⟩
theorem p33_57 : ps_pu 33 57 (.dup) 58 := (by decide +kernel : ps_i 33 57 = some (.dup, 58))
theorem p33_58 : ps_ld 33 58 1 59 := ⟨.iload_n 1, by decide +kernel, fun _ _ => rfl⟩
theorem p33_59 : ps_la 33 59 0 60 := ⟨.aload_n 0, by decide +kernel, fun _ _ => rfl⟩
theorem p33_60 : ps_gf 33 60 0 1 63 := ⟨10, 1, by decide +kernel, by decide +kernel, by decide +kernel⟩
theorem p33_63 : ps_vP 33 63 37 2 66 := ⟨103, by decide +kernel, by decide +kernel, by decide +kernel, by decide +kernel⟩
theorem p33_66 : ps_vV 33 66 2 38 1 69 := ⟨106, 38, by decide +kernel, by decide +kernel, by decide +kernel, by decide +kernel, by decide +kernel⟩
theorem p33_69 : ps_pu 33 69 (.pop) 70 := (by decide +kernel : ps_i 33 69 = some (.pop, 70))
theorem p33_70 : ps_la 33 70 0 71 := ⟨.aload_n 0, by decide +kernel, fun _ _ => rfl⟩
theorem p33_71 : ps_gf 33 71 0 1 74 := ⟨10, 1, by decide +kernel, by decide +kernel, by decide +kernel⟩
theorem p33_74 : ps_vV 33 74 1 46 0 77 := ⟨110, 46, by decide +kernel, by decide +kernel, by decide +kernel, by decide +kernel, by decide +kernel⟩
theorem p33_77 : ps_la 33 77 0 78 := ⟨.aload_n 0, by decide +kernel, fun _ _ => rfl⟩
theorem p33_78 : ps_gf 33 78 0 4 81 := ⟨32, 4, by decide +kernel, by decide +kernel, by decide +kernel⟩
theorem p33_81 : ps_vV 33 81 2 8 0 84 := ⟨96, 8, by decide +kernel, by decide +kernel, by decide +kernel, by decide +kernel, by decide +kernel⟩
theorem p33_84 : ps_pu 33 84 (.ireturn) 85 := (by decide +kernel : ps_i 33 84 = some (.ireturn, 85))
theorem e33 : ∀ v0 v1 : Value, pm_ent 33 [v0, v1] = [some v0, some v1] := fun _ _ => rfl
theorem l33 : 2 ≤ pm_mx 33 := by decide +kernel
theorem t33 : pm_ret 33 = (some .int) := by decide +kernel
theorem p34_0 : ps_la 34 0 0 1 := ⟨.aload_n 0, by decide +kernel, fun _ _ => rfl⟩
theorem p34_1 : ps_gf 34 1 0 4 4 := ⟨32, 4, by decide +kernel, by decide +kernel, by decide +kernel⟩
theorem p34_4 : ps_vV 34 4 2 35 0 7 := ⟨130, 35, by decide +kernel, by decide +kernel, by decide +kernel, by decide +kernel, by decide +kernel⟩
theorem p34_7 : ps_j0 34 7 .ne 33 10 := ⟨26, by decide +kernel, by decide +kernel, by decide +kernel⟩
theorem p34_10 : ps_la 34 10 0 11 := ⟨.aload_n 0, by decide +kernel, fun _ _ => rfl⟩
theorem p34_11 : ps_gf 34 11 0 4 14 := ⟨32, 4, by decide +kernel, by decide +kernel, by decide +kernel⟩
theorem p34_14 : ps_la 34 14 0 15 := ⟨.aload_n 0, by decide +kernel, fun _ _ => rfl⟩
theorem p34_15 : ps_gf 34 15 0 4 18 := ⟨32, 4, by decide +kernel, by decide +kernel, by decide +kernel⟩
theorem p34_18 : ps_vV 34 18 2 8 0 21 := ⟨96, 8, by decide +kernel, by decide +kernel, by decide +kernel, by decide +kernel, by decide +kernel⟩
theorem p34_21 : ps_k 34 21 (Int32.ofNat 1) 22 := ⟨.iconst 1, by decide +kernel, fun _ _ => rfl⟩
theorem p34_22 : ps_b 34 22 (· - ·) 23 := ⟨.isub, by decide +kernel, fun _ _ => rfl⟩
theorem p34_23 : ps_vV 34 23 2 9 1 26 := ⟨113, 9, by decide +kernel, by decide +kernel, by decide +kernel, by decide +kernel, by decide +kernel⟩
theorem p34_26 : ps_ck 34 26 5 29 := ⟨101, by decide +kernel, by decide +kernel⟩
theorem p34_29 : ps_gf 34 29 5 0 32 := ⟨117, 19, by decide +kernel, by decide +kernel, by decide +kernel⟩
theorem p34_32 : ps_pu 34 32 (.ireturn) 33 := (by decide +kernel : ps_i 34 32 = some (.ireturn, 33))
theorem p34_33 : ps_la 34 33 0 34 := ⟨.aload_n 0, by decide +kernel, fun _ _ => rfl⟩
theorem p34_34 : ps_gf 34 34 0 5 37 := ⟨38, 5, by decide +kernel, by decide +kernel, by decide +kernel⟩
theorem p34_37 : ps_gf 34 37 4 0 40 := ⟨137, 17, by decide +kernel, by decide +kernel, by decide +kernel⟩
theorem p34_40 : ps_vV 34 40 2 35 0 43 := ⟨130, 35, by decide +kernel, by decide +kernel, by decide +kernel, by decide +kernel, by decide +kernel⟩
theorem p34_43 : ps_j0 34 43 .eq 50 46 := ⟨7, by decide +kernel, by decide +kernel, by decide +kernel⟩
theorem p34_46 : ps_k 34 46 (-1 : Int32) 47 := ⟨.iconst (-1), by decide +kernel, fun _ _ => rfl⟩
theorem p34_47 : ps_jg 34 47 78 := ⟨(31), 50, by decide +kernel, by decide +kernel, by decide +kernel⟩
theorem p34_50 : ps_la 34 50 0 51 := ⟨.aload_n 0, by decide +kernel, fun _ _ => rfl⟩
theorem p34_51 : ps_gf 34 51 0 5 54 := ⟨38, 5, by decide +kernel, by decide +kernel, by decide +kernel⟩
theorem p34_54 : ps_gf 34 54 4 0 57 := ⟨137, 17, by decide +kernel, by decide +kernel, by decide +kernel⟩
theorem p34_57 : ps_la 34 57 0 58 := ⟨.aload_n 0, by decide +kernel, fun _ _ => rfl⟩
theorem p34_58 : ps_gf 34 58 0 5 61 := ⟨38, 5, by decide +kernel, by decide +kernel, by decide +kernel⟩
theorem p34_61 : ps_gf 34 61 4 0 64 := ⟨137, 17, by decide +kernel, by decide +kernel, by decide +kernel⟩
theorem p34_64 : ps_vV 34 64 2 8 0 67 := ⟨96, 8, by decide +kernel, by decide +kernel, by decide +kernel, by decide +kernel, by decide +kernel⟩
theorem p34_67 : ps_k 34 67 (Int32.ofNat 1) 68 := ⟨.iconst 1, by decide +kernel, fun _ _ => rfl⟩
theorem p34_68 : ps_b 34 68 (· - ·) 69 := ⟨.isub, by decide +kernel, fun _ _ => rfl⟩
theorem p34_69 : ps_vV 34 69 2 9 1 72 := ⟨113, 9, by decide +kernel, by decide +kernel, by decide +kernel, by decide +kernel, by decide +kernel⟩
theorem p34_72 : ps_ck 34 72 6 75 := ⟨207, by decide +kernel, by decide +kernel⟩
theorem p34_75 : ps_vV 34 75 6 36 0 78 := ⟨239, 36, by decide +kernel, by decide +kernel, by decide +kernel, by decide +kernel, by decide +kernel⟩
theorem p34_78 : ps_pu 34 78 (.ireturn) 79 := (by decide +kernel : ps_i 34 78 = some (.ireturn, 79))
theorem e34 : ∀ v0 : Value, pm_ent 34 [v0] = [some v0] := fun _ => rfl
theorem l34 : 1 ≤ pm_mx 34 := by decide +kernel
theorem t34 : pm_ret 34 = (some .int) := by decide +kernel
theorem p35_0 : ps_la 35 0 0 1 := ⟨.aload_n 0, by decide +kernel, fun _ _ => rfl⟩
theorem p35_1 : ps_gf 35 1 2 1 4 := ⟨48, 13, by decide +kernel, by decide +kernel, by decide +kernel⟩
theorem p35_4 : ps_j0 35 4 .ne 11 7 := ⟨7, by decide +kernel, by decide +kernel, by decide +kernel⟩
theorem p35_7 : ps_k 35 7 (Int32.ofNat 1) 8 := ⟨.iconst 1, by decide +kernel, fun _ _ => rfl⟩
theorem p35_8 : ps_jg 35 8 12 := ⟨(4), 11, by decide +kernel, by decide +kernel, by decide +kernel⟩
theorem p35_11 : ps_k 35 11 (Int32.ofNat 0) 12 := ⟨.iconst 0, by decide +kernel, fun _ _ => rfl⟩
theorem p35_12 : ps_pu 35 12 (.ireturn) 13 := (by decide +kernel : ps_i 35 12 = some (.ireturn, 13))
theorem e35 : ∀ v0 : Value, pm_ent 35 [v0] = [some v0] := fun _ => rfl
theorem l35 : 1 ≤ pm_mx 35 := by decide +kernel
theorem t35 : pm_ret 35 = (some .boolean) := by decide +kernel
theorem p36_0 : ps_la 36 0 0 1 := ⟨.aload_n 0, by decide +kernel, fun _ _ => rfl⟩
theorem p36_1 : ps_gf 36 1 6 1 4 := ⟨13, 25, by decide +kernel, by decide +kernel, by decide +kernel⟩
theorem p36_4 : ps_vV 36 4 2 35 0 7 := ⟨21, 35, by decide +kernel, by decide +kernel, by decide +kernel, by decide +kernel, by decide +kernel⟩
theorem p36_7 : ps_j0 36 7 .eq 14 10 := ⟨7, by decide +kernel, by decide +kernel, by decide +kernel⟩
theorem p36_10 : ps_k 36 10 (-1 : Int32) 11 := ⟨.iconst (-1), by decide +kernel, fun _ _ => rfl⟩
theorem p36_11 : ps_jg 36 11 36 := ⟨(25), 14, by decide +kernel, by decide +kernel, by decide +kernel⟩
theorem p36_14 : ps_la 36 14 0 15 := ⟨.aload_n 0, by decide +kernel, fun _ _ => rfl⟩
theorem p36_15 : ps_gf 36 15 6 1 18 := ⟨13, 25, by decide +kernel, by decide +kernel, by decide +kernel⟩
theorem p36_18 : ps_la 36 18 0 19 := ⟨.aload_n 0, by decide +kernel, fun _ _ => rfl⟩
theorem p36_19 : ps_gf 36 19 6 1 22 := ⟨13, 25, by decide +kernel, by decide +kernel, by decide +kernel⟩
theorem p36_22 : ps_vV 36 22 2 8 0 25 := ⟨27, 8, by decide +kernel, by decide +kernel, by decide +kernel, by decide +kernel, by decide +kernel⟩
theorem p36_25 : ps_k 36 25 (Int32.ofNat 1) 26 := ⟨.iconst 1, by decide +kernel, fun _ _ => rfl⟩
theorem p36_26 : ps_b 36 26 (· - ·) 27 := ⟨.isub, by decide +kernel, fun _ _ => rfl⟩
theorem p36_27 : ps_vV 36 27 2 9 1 30 := ⟨31, 9, by decide +kernel, by decide +kernel, by decide +kernel, by decide +kernel, by decide +kernel⟩
theorem p36_30 : ps_ck 36 30 5 33 := ⟨35, by decide +kernel, by decide +kernel⟩
theorem p36_33 : ps_gf 36 33 5 0 36 := ⟨37, 19, by decide +kernel, by decide +kernel, by decide +kernel⟩
theorem p36_36 : ps_pu 36 36 (.ireturn) 37 := (by decide +kernel : ps_i 36 36 = some (.ireturn, 37))
theorem e36 : ∀ v0 : Value, pm_ent 36 [v0] = [some v0] := fun _ => rfl
theorem l36 : 1 ≤ pm_mx 36 := by decide +kernel
theorem t36 : pm_ret 36 = (some .int) := by decide +kernel
theorem p37_0 : ps_la 37 0 0 1 := ⟨.aload_n 0, by decide +kernel, fun _ _ => rfl⟩
theorem p37_1 : ps_vN 37 1 2 4 := ⟨.invokespecial 1, by decide +kernel, fun _ _ => rfl, fun _ => rfl, fun _ _ _ => rfl, by decide +kernel⟩
theorem p37_4 : ps_la 37 4 0 5 := ⟨.aload_n 0, by decide +kernel, fun _ _ => rfl⟩
theorem p37_5 : ps_k 37 5 (Int32.ofNat 0) 6 := ⟨.iconst 0, by decide +kernel, fun _ _ => rfl⟩
theorem p37_6 : ps_pf 37 6 5 3 (.boolean) 9 := ⟨7, 22, by decide +kernel, by decide +kernel, by decide +kernel, by decide +kernel, by decide +kernel⟩
theorem p37_9 : ps_la 37 9 0 10 := ⟨.aload_n 0, by decide +kernel, fun _ _ => rfl⟩
theorem p37_10 : ps_k 37 10 (Int32.ofNat 0) 11 := ⟨.iconst 0, by decide +kernel, fun _ _ => rfl⟩
theorem p37_11 : ps_pf 37 11 5 4 (.boolean) 14 := ⟨13, 23, by decide +kernel, by decide +kernel, by decide +kernel, by decide +kernel, by decide +kernel⟩
theorem p37_14 : ps_la 37 14 0 15 := ⟨.aload_n 0, by decide +kernel, fun _ _ => rfl⟩
theorem p37_15 : ps_ld 37 15 1 16 := ⟨.iload_n 1, by decide +kernel, fun _ _ => rfl⟩
theorem p37_16 : ps_pf 37 16 5 0 (.int) 19 := ⟨16, 19, by decide +kernel, by decide +kernel, by decide +kernel, by decide +kernel, by decide +kernel⟩
theorem p37_19 : ps_la 37 19 0 20 := ⟨.aload_n 0, by decide +kernel, fun _ _ => rfl⟩
theorem p37_20 : ps_la 37 20 2 21 := ⟨.aload_n 2, by decide +kernel, fun _ _ => rfl⟩
theorem p37_21 : ps_gf 37 21 1 1 24 := ⟨20, 11, by decide +kernel, by decide +kernel, by decide +kernel⟩
theorem p37_24 : ps_pf 37 24 5 1 (.int) 27 := ⟨25, 20, by decide +kernel, by decide +kernel, by decide +kernel, by decide +kernel, by decide +kernel⟩
theorem p37_27 : ps_la 37 27 0 28 := ⟨.aload_n 0, by decide +kernel, fun _ _ => rfl⟩
theorem p37_28 : ps_la 37 28 2 29 := ⟨.aload_n 2, by decide +kernel, fun _ _ => rfl⟩
theorem p37_29 : ps_gf 37 29 1 0 32 := ⟨26, 10, by decide +kernel, by decide +kernel, by decide +kernel⟩
theorem p37_32 : ps_vN 37 32 4 35 := ⟨.invokevirtual 30, by decide +kernel, fun _ _ => rfl, fun _ => rfl, fun _ _ _ => rfl, by decide +kernel⟩
theorem p37_35 : ps_cki 37 35 38 := ⟨31, by decide +kernel, by decide +kernel⟩
theorem p37_38 : ps_pf 37 38 5 2 (.array .int) 41 := ⟨35, 21, by decide +kernel, by decide +kernel, by decide +kernel, by decide +kernel, by decide +kernel⟩
theorem p37_41 : ps_pu 37 41 (.return_) 42 := (by decide +kernel : ps_i 37 41 = some (.return_, 42))
theorem e37 : ∀ v0 v1 v2 : Value, pm_ent 37 [v0, v1, v2] = [some v0, some v1, some v2] := fun _ _ _ => rfl
theorem l37 : 3 ≤ pm_mx 37 := by decide +kernel
theorem t37 : pm_ret 37 = none := by decide +kernel
theorem p38_0 : ps_la 38 0 0 1 := ⟨.aload_n 0, by decide +kernel, fun _ _ => rfl⟩
theorem p38_1 : ps_pu 38 1 (.dup) 2 := (by decide +kernel : ps_i 38 1 = some (.dup, 2))
theorem p38_2 : ps_gf 38 2 2 2 5 := ⟨63, 14, by decide +kernel, by decide +kernel, by decide +kernel⟩
theorem p38_5 : ps_k 38 5 (Int32.ofNat 1) 6 := ⟨.iconst 1, by decide +kernel, fun _ _ => rfl⟩
theorem p38_6 : ps_b 38 6 (· + ·) 7 := ⟨.iadd, by decide +kernel, fun _ _ => rfl⟩
theorem p38_7 : ps_pf 38 7 2 2 (.int) 10 := ⟨63, 14, by decide +kernel, by decide +kernel, by decide +kernel, by decide +kernel, by decide +kernel⟩
theorem p38_10 : ps_la 38 10 0 11 := ⟨.aload_n 0, by decide +kernel, fun _ _ => rfl⟩
theorem p38_11 : ps_la 38 11 1 12 := ⟨.aload_n 1, by decide +kernel, fun _ _ => rfl⟩
theorem p38_12 : ps_la 38 12 0 13 := ⟨.aload_n 0, by decide +kernel, fun _ _ => rfl⟩
theorem p38_13 : ps_gf 38 13 2 0 16 := ⟨9, 12, by decide +kernel, by decide +kernel, by decide +kernel⟩
theorem p38_16 : ps_la 38 16 0 17 := ⟨.aload_n 0, by decide +kernel, fun _ _ => rfl⟩
theorem p38_17 : ps_gf 38 17 2 1 20 := ⟨48, 13, by decide +kernel, by decide +kernel, by decide +kernel⟩
theorem p38_20 : ps_vV 38 20 2 39 3 23 := ⟨131, 39, by decide +kernel, by decide +kernel, by decide +kernel, by decide +kernel, by decide +kernel⟩
theorem p38_23 : ps_k 38 23 (Int32.ofNat 1) 24 := ⟨.iconst 1, by decide +kernel, fun _ _ => rfl⟩
theorem p38_24 : ps_pu 38 24 (.ireturn) 25 := (by decide +kernel : ps_i 38 24 = some (.ireturn, 25))
theorem e38 : ∀ v0 v1 : Value, pm_ent 38 [v0, v1] = [some v0, some v1] := fun _ _ => rfl
theorem l38 : 2 ≤ pm_mx 38 := by decide +kernel
theorem t38 : pm_ret 38 = (some .boolean) := by decide +kernel
theorem p39_0 : ps_ld 39 0 3 1 := ⟨.iload_n 3, by decide +kernel, fun _ _ => rfl⟩
theorem p39_1 : ps_la 39 1 2 2 := ⟨.aload_n 2, by decide +kernel, fun _ _ => rfl⟩
theorem p39_2 : ps_pu 39 2 (.arraylength) 3 := (by decide +kernel : ps_i 39 2 = some (.arraylength, 3))
theorem p39_3 : ps_j 39 3 .ne 11 6 := ⟨8, by decide +kernel, by decide +kernel, by decide +kernel⟩
theorem p39_6 : ps_la 39 6 0 7 := ⟨.aload_n 0, by decide +kernel, fun _ _ => rfl⟩
theorem p39_7 : ps_vV 39 7 2 40 0 10 := ⟨129, 40, by decide +kernel, by decide +kernel, by decide +kernel, by decide +kernel, by decide +kernel⟩
theorem p39_10 : ps_sa 39 10 2 11 := ⟨.astore_n 2, by decide +kernel, fun _ _ => rfl⟩
theorem p39_11 : ps_la 39 11 2 12 := ⟨.aload_n 2, by decide +kernel, fun _ _ => rfl⟩
theorem p39_12 : ps_ld 39 12 3 13 := ⟨.iload_n 3, by decide +kernel, fun _ _ => rfl⟩
theorem p39_13 : ps_la 39 13 1 14 := ⟨.aload_n 1, by decide +kernel, fun _ _ => rfl⟩
theorem p39_14 : ps_pu 39 14 (.aastore) 15 := (by decide +kernel : ps_i 39 14 = some (.aastore, 15))
theorem p39_15 : ps_la 39 15 0 16 := ⟨.aload_n 0, by decide +kernel, fun _ _ => rfl⟩
theorem p39_16 : ps_ld 39 16 3 17 := ⟨.iload_n 3, by decide +kernel, fun _ _ => rfl⟩
theorem p39_17 : ps_k 39 17 (Int32.ofNat 1) 18 := ⟨.iconst 1, by decide +kernel, fun _ _ => rfl⟩
theorem p39_18 : ps_b 39 18 (· + ·) 19 := ⟨.iadd, by decide +kernel, fun _ _ => rfl⟩
theorem p39_19 : ps_pf 39 19 2 1 (.int) 22 := ⟨48, 13, by decide +kernel, by decide +kernel, by decide +kernel, by decide +kernel, by decide +kernel⟩
theorem p39_22 : ps_pu 39 22 (.return_) 23 := (by decide +kernel : ps_i 39 22 = some (.return_, 23))
theorem e39 : ∀ v0 v1 v2 v3 : Value, pm_ent 39 [v0, v1, v2, v3] = [some v0, some v1, some v2, some v3] := fun _ _ _ _ => rfl
theorem l39 : 4 ≤ pm_mx 39 := by decide +kernel
theorem t39 : pm_ret 39 = none := by decide +kernel
theorem p40_0 : ps_la 40 0 0 1 := ⟨.aload_n 0, by decide +kernel, fun _ _ => rfl⟩
theorem p40_1 : ps_la 40 1 0 2 := ⟨.aload_n 0, by decide +kernel, fun _ _ => rfl⟩
theorem p40_2 : ps_gf 40 2 2 1 5 := ⟨48, 13, by decide +kernel, by decide +kernel, by decide +kernel⟩
theorem p40_5 : ps_k 40 5 (Int32.ofNat 1) 6 := ⟨.iconst 1, by decide +kernel, fun _ _ => rfl⟩
theorem p40_6 : ps_b 40 6 (· + ·) 7 := ⟨.iadd, by decide +kernel, fun _ _ => rfl⟩
theorem p40_7 : ps_vV 40 7 2 41 1 10 := ⟨69, 41, by decide +kernel, by decide +kernel, by decide +kernel, by decide +kernel, by decide +kernel⟩
theorem p40_10 : ps_pu 40 10 (.areturn) 11 := (by decide +kernel : ps_i 40 10 = some (.areturn, 11))
theorem e40 : ∀ v0 : Value, pm_ent 40 [v0] = [some v0] := fun _ => rfl
theorem l40 : 1 ≤ pm_mx 40 := by decide +kernel
theorem t40 : ps_isr (pm_ret 40) = true := by decide +kernel
theorem p41_0 : ps_la 41 0 0 1 := ⟨.aload_n 0, by decide +kernel, fun _ _ => rfl⟩
theorem p41_1 : ps_gf 41 1 2 0 4 := ⟨9, 12, by decide +kernel, by decide +kernel, by decide +kernel⟩
theorem p41_4 : ps_pu 41 4 (.arraylength) 5 := (by decide +kernel : ps_i 41 4 = some (.arraylength, 5))
theorem p41_5 : ps_si 41 5 2 6 := ⟨.istore_n 2, by decide +kernel, fun _ _ => rfl⟩
theorem p41_6 : ps_ld 41 6 2 7 := ⟨.iload_n 2, by decide +kernel, fun _ _ => rfl⟩
theorem p41_7 : ps_j0 41 7 .gt 20 10 := ⟨13, by decide +kernel, by decide +kernel, by decide +kernel⟩
theorem p41_10 : ps_la 41 10 0 11 := ⟨.aload_n 0, by decide +kernel, fun _ _ => rfl⟩
theorem p41_11 : ps_gf 41 11 2 0 14 := ⟨9, 12, by decide +kernel, by decide +kernel, by decide +kernel⟩
theorem p41_14 : ps_pu 41 14 (.getstatic 39) 17 := (by decide +kernel : ps_i 41 14 = some (.getstatic 39, 17))
theorem p41_17 : ps_ja 41 17 .eq 45 20 := ⟨28, by decide +kernel, by decide +kernel, by decide +kernel⟩
theorem p41_20 : ps_ld 41 20 2 21 := ⟨.iload_n 2, by decide +kernel, fun _ _ => rfl⟩
theorem p41_21 : ps_ld 41 21 1 22 := ⟨.iload_n 1, by decide +kernel, fun _ _ => rfl⟩
theorem p41_22 : ps_ld 41 22 2 23 := ⟨.iload_n 2, by decide +kernel, fun _ _ => rfl⟩
theorem p41_23 : ps_b 41 23 (· - ·) 24 := ⟨.isub, by decide +kernel, fun _ _ => rfl⟩
theorem p41_24 : ps_ld 41 24 2 25 := ⟨.iload_n 2, by decide +kernel, fun _ _ => rfl⟩
theorem p41_25 : ps_k 41 25 (Int32.ofNat 1) 26 := ⟨.iconst 1, by decide +kernel, fun _ _ => rfl⟩
theorem p41_26 : ps_b 41 26 (fun x y => x >>> (y &&& 31)) 27 := ⟨.ishr, by decide +kernel, fun _ _ => rfl⟩
theorem p41_27 : ps_vS 41 27 42 3 30 := ⟨73, by decide +kernel, by decide +kernel, by decide +kernel, by decide +kernel⟩
theorem p41_30 : ps_si 41 30 3 31 := ⟨.istore_n 3, by decide +kernel, fun _ _ => rfl⟩
theorem p41_31 : ps_la 41 31 0 32 := ⟨.aload_n 0, by decide +kernel, fun _ _ => rfl⟩
theorem p41_32 : ps_la 41 32 0 33 := ⟨.aload_n 0, by decide +kernel, fun _ _ => rfl⟩
theorem p41_33 : ps_gf 41 33 2 0 36 := ⟨9, 12, by decide +kernel, by decide +kernel, by decide +kernel⟩
theorem p41_36 : ps_ld 41 36 3 37 := ⟨.iload_n 3, by decide +kernel, fun _ _ => rfl⟩
theorem p41_37 : ps_vS 41 37 44 2 40 := ⟨66, by decide +kernel, by decide +kernel, by decide +kernel, by decide +kernel⟩
theorem p41_40 : ps_pu 41 40 (.dup_x1) 41 := (by decide +kernel : ps_i 41 40 = some (.dup_x1, 41))
theorem p41_41 : ps_pf 41 41 2 0 (.array (.object "java/lang/Object")) 44 := ⟨9, 12, by decide +kernel, by decide +kernel, by decide +kernel, by decide +kernel, by decide +kernel⟩
theorem p41_44 : ps_pu 41 44 (.areturn) 45 := (by decide +kernel : ps_i 41 44 = some (.areturn, 45))
theorem p41_45 : ps_la 41 45 0 46 := ⟨.aload_n 0, by decide +kernel, fun _ _ => rfl⟩
theorem p41_46 : ps_k 41 46 (Int32.ofNat 10) 48 := ⟨.bipush 10, by decide +kernel, fun _ _ => rfl⟩
theorem p41_48 : ps_ld 41 48 1 49 := ⟨.iload_n 1, by decide +kernel, fun _ _ => rfl⟩
theorem p41_49 : ps_vN 41 49 0 52 := ⟨.invokestatic 79, by decide +kernel, fun _ _ => rfl, fun _ => rfl, fun _ _ _ => rfl, by decide +kernel⟩
theorem p41_52 : ps_pu 41 52 (.anewarray 7) 55 := (by decide +kernel : ps_i 41 52 = some (.anewarray 7, 55))
theorem p41_55 : ps_pu 41 55 (.dup_x1) 56 := (by decide +kernel : ps_i 41 55 = some (.dup_x1, 56))
theorem p41_56 : ps_pf 41 56 2 0 (.array (.object "java/lang/Object")) 59 := ⟨9, 12, by decide +kernel, by decide +kernel, by decide +kernel, by decide +kernel, by decide +kernel⟩
theorem p41_59 : ps_pu 41 59 (.areturn) 60 := (by decide +kernel : ps_i 41 59 = some (.areturn, 60))
theorem e41 : ∀ v0 v1 : Value, pm_ent 41 [v0, v1] = [some v0, some v1, none, none] := fun _ _ => rfl
theorem l41 : 2 ≤ pm_mx 41 := by decide +kernel
theorem t41 : ps_isr (pm_ret 41) = true := by decide +kernel
theorem p42_0 : ps_ld 42 0 0 1 := ⟨.iload_n 0, by decide +kernel, fun _ _ => rfl⟩
theorem p42_1 : ps_ld 42 1 1 2 := ⟨.iload_n 1, by decide +kernel, fun _ _ => rfl⟩
theorem p42_2 : ps_ld 42 2 2 3 := ⟨.iload_n 2, by decide +kernel, fun _ _ => rfl⟩
theorem p42_3 : ps_vN 42 3 0 6 := ⟨.invokestatic 194, by decide +kernel, fun _ _ => rfl, fun _ => rfl, fun _ _ _ => rfl, by decide +kernel⟩
theorem p42_6 : ps_b 42 6 (· + ·) 7 := ⟨.iadd, by decide +kernel, fun _ _ => rfl⟩
theorem p42_7 : ps_si 42 7 3 8 := ⟨.istore_n 3, by decide +kernel, fun _ _ => rfl⟩
theorem p42_8 : ps_k 42 8 (Int32.ofNat 0) 9 := ⟨.iconst 0, by decide +kernel, fun _ _ => rfl⟩
theorem p42_9 : ps_ld 42 9 3 10 := ⟨.iload_n 3, by decide +kernel, fun _ _ => rfl⟩
theorem p42_10 : ps_j 42 10 .ge 21 13 := ⟨11, by decide +kernel, by decide +kernel, by decide +kernel⟩
theorem p42_13 : ps_ld 42 13 3 14 := ⟨.iload_n 3, by decide +kernel, fun _ _ => rfl⟩
theorem p42_14 : ps_pu 42 14 (.ldc 200) 16 := (by decide +kernel : ps_i 42 14 = some (.ldc 200, 16))
theorem p42_16 : ps_j 42 16 .gt 21 19 := ⟨5, by decide +kernel, by decide +kernel, by decide +kernel⟩
theorem p42_19 : ps_ld 42 19 3 20 := ⟨.iload_n 3, by decide +kernel, fun _ _ => rfl⟩
theorem p42_20 : ps_pu 42 20 (.ireturn) 21 := (by decide +kernel : ps_i 42 20 = some (.ireturn, 21))
theorem p42_21 : ps_ld 42 21 0 22 := ⟨.iload_n 0, by decide +kernel, fun _ _ => rfl⟩
theorem p42_22 : ps_ld 42 22 1 23 := ⟨.iload_n 1, by decide +kernel, fun _ _ => rfl⟩
theorem p42_23 : ps_vS 42 23 43 2 26 := ⟨201, by decide +kernel, by decide +kernel, by decide +kernel, by decide +kernel⟩
theorem p42_26 : ps_pu 42 26 (.ireturn) 27 := (by decide +kernel : ps_i 42 26 = some (.ireturn, 27))
theorem e42 : ∀ v0 v1 v2 : Value, pm_ent 42 [v0, v1, v2] = [some v0, some v1, some v2, none] := fun _ _ _ => rfl
theorem l42 : 3 ≤ pm_mx 42 := by decide +kernel
theorem t42 : pm_ret 42 = (some .int) := by decide +kernel
theorem p43_0 : ps_ld 43 0 0 1 := ⟨.iload_n 0, by decide +kernel, fun _ _ => rfl⟩
theorem p43_1 : ps_ld 43 1 1 2 := ⟨.iload_n 1, by decide +kernel, fun _ _ => rfl⟩
theorem p43_2 : ps_b 43 2 (· + ·) 3 := ⟨.iadd, by decide +kernel, fun _ _ => rfl⟩
theorem p43_3 : ps_si 43 3 2 4 := ⟨.istore_n 2, by decide +kernel, fun _ _ => rfl⟩
theorem p43_4 : ps_ld 43 4 2 5 := ⟨.iload_n 2, by decide +kernel, fun _ _ => rfl⟩
theorem p43_5 : ps_j0 43 5 .ge 49 8 := ⟨44, by decide +kernel, by decide +kernel, by decide +kernel⟩
theorem p43_11 : ps_pu 43 11 (.dup) 12 := (by decide +kernel : ps_i 43 11 = some (.dup, 12))
theorem p43_15 : ps_pu 43 15 (.dup) 16 := (by decide +kernel : ps_i 43 15 = some (.dup, 16))
theorem p43_19 : ps_pu 43 19 (.ldc 206) 21 := (by decide +kernel : ps_i 43 19 = some (.ldc 206, 21))
theorem p43_24 : ps_ld 43 24 0 25 := ⟨.iload_n 0, by decide +kernel, fun _ _ => rfl⟩
theorem p43_28 : ps_pu 43 28 (.ldc 208) 30 := (by decide +kernel : ps_i 43 28 = some (.ldc 208, 30))
theorem p43_33 : ps_ld 43 33 1 34 := ⟨.iload_n 1, by decide +kernel, fun _ _ => rfl⟩
theorem p43_37 : ps_pu 43 37 (.ldc 210) 39 := (by decide +kernel : ps_i 43 37 = some (.ldc 210, 39))
theorem p43_48 : ps_pu 43 48 (.athrow) 49 := (by decide +kernel : ps_i 43 48 = some (.athrow, 49))
theorem p43_49 : ps_ld 43 49 2 50 := ⟨.iload_n 2, by decide +kernel, fun _ _ => rfl⟩
theorem p43_50 : ps_pu 43 50 (.ldc 200) 52 := (by decide +kernel : ps_i 43 50 = some (.ldc 200, 52))
theorem p43_52 : ps_j 43 52 .gt 58 55 := ⟨6, by decide +kernel, by decide +kernel, by decide +kernel⟩
theorem p43_55 : ps_pu 43 55 (.ldc 200) 57 := (by decide +kernel : ps_i 43 55 = some (.ldc 200, 57))
theorem p43_57 : ps_pu 43 57 (.ireturn) 58 := (by decide +kernel : ps_i 43 57 = some (.ireturn, 58))
theorem p43_58 : ps_ld 43 58 2 59 := ⟨.iload_n 2, by decide +kernel, fun _ _ => rfl⟩
theorem p43_59 : ps_pu 43 59 (.ireturn) 60 := (by decide +kernel : ps_i 43 59 = some (.ireturn, 60))
theorem e43 : ∀ v0 v1 : Value, pm_ent 43 [v0, v1] = [some v0, some v1, none] := fun _ _ => rfl
theorem l43 : 2 ≤ pm_mx 43 := by decide +kernel
theorem t43 : pm_ret 43 = (some .int) := by decide +kernel
theorem p44_0 : ps_la 44 0 0 1 := ⟨.aload_n 0, by decide +kernel, fun _ _ => rfl⟩
theorem p44_1 : ps_ld 44 1 1 2 := ⟨.iload_n 1, by decide +kernel, fun _ _ => rfl⟩
theorem p44_2 : ps_la 44 2 0 3 := ⟨.aload_n 0, by decide +kernel, fun _ _ => rfl⟩
theorem p44_3 : ps_vN 44 3 5 6 := ⟨.invokevirtual 86, by decide +kernel, fun _ _ => rfl, fun _ => rfl, fun _ _ _ => rfl, by decide +kernel⟩
theorem p44_6 : ps_vS 44 6 45 3 9 := ⟨300, by decide +kernel, by decide +kernel, by decide +kernel, by decide +kernel⟩
theorem p44_9 : ps_pu 44 9 (.areturn) 10 := (by decide +kernel : ps_i 44 9 = some (.areturn, 10))
theorem e44 : ∀ v0 v1 : Value, pm_ent 44 [v0, v1] = [some v0, some v1] := fun _ _ => rfl
theorem l44 : 2 ≤ pm_mx 44 := by decide +kernel
theorem t44 : ps_isr (pm_ret 44) = true := by decide +kernel
theorem p45_0 : ps_la 45 0 2 1 := ⟨.aload_n 2, by decide +kernel, fun _ _ => rfl⟩
theorem p45_1 : ps_pu 45 1 (.ldc 110) 3 := (by decide +kernel : ps_i 45 1 = some (.ldc 110, 3))
theorem p45_3 : ps_ja 45 3 .ne 13 6 := ⟨10, by decide +kernel, by decide +kernel, by decide +kernel⟩
theorem p45_6 : ps_ld 45 6 1 7 := ⟨.iload_n 1, by decide +kernel, fun _ _ => rfl⟩
theorem p45_7 : ps_pu 45 7 (.anewarray 2) 10 := (by decide +kernel : ps_i 45 7 = some (.anewarray 2, 10))
theorem p45_10 : ps_jg 45 10 24 := ⟨(14), 13, by decide +kernel, by decide +kernel, by decide +kernel⟩
theorem p45_13 : ps_la 45 13 2 14 := ⟨.aload_n 2, by decide +kernel, fun _ _ => rfl⟩
theorem p45_17 : ps_ld 45 17 1 18 := ⟨.iload_n 1, by decide +kernel, fun _ _ => rfl⟩
theorem p45_21 : ps_cko 45 21 24 := ⟨110, by decide +kernel, by decide +kernel⟩
theorem p45_24 : ps_sa 45 24 3 25 := ⟨.astore_n 3, by decide +kernel, fun _ _ => rfl⟩
theorem p45_25 : ps_la 45 25 0 26 := ⟨.aload_n 0, by decide +kernel, fun _ _ => rfl⟩
theorem p45_26 : ps_k 45 26 (Int32.ofNat 0) 27 := ⟨.iconst 0, by decide +kernel, fun _ _ => rfl⟩
theorem p45_27 : ps_la 45 27 3 28 := ⟨.aload_n 3, by decide +kernel, fun _ _ => rfl⟩
theorem p45_28 : ps_k 45 28 (Int32.ofNat 0) 29 := ⟨.iconst 0, by decide +kernel, fun _ _ => rfl⟩
theorem p45_29 : ps_la 45 29 0 30 := ⟨.aload_n 0, by decide +kernel, fun _ _ => rfl⟩
theorem p45_30 : ps_pu 45 30 (.arraylength) 31 := (by decide +kernel : ps_i 45 30 = some (.arraylength, 31))
theorem p45_31 : ps_ld 45 31 1 32 := ⟨.iload_n 1, by decide +kernel, fun _ _ => rfl⟩
theorem p45_32 : ps_vN 45 32 1 35 := ⟨.invokestatic 304, by decide +kernel, fun _ _ => rfl, fun _ => rfl, fun _ _ _ => rfl, by decide +kernel⟩
theorem p45_35 : ps_vN 45 35 3 38 := ⟨.invokestatic 150, by decide +kernel, fun _ _ => rfl, fun _ => rfl, fun _ _ _ => rfl, by decide +kernel⟩
theorem p45_38 : ps_la 45 38 3 39 := ⟨.aload_n 3, by decide +kernel, fun _ _ => rfl⟩
theorem p45_39 : ps_pu 45 39 (.areturn) 40 := (by decide +kernel : ps_i 45 39 = some (.areturn, 40))
theorem e45 : ∀ v0 v1 v2 : Value, pm_ent 45 [v0, v1, v2] = [some v0, some v1, some v2, none] := fun _ _ _ => rfl
theorem l45 : 3 ≤ pm_mx 45 := by decide +kernel
theorem t45 : ps_isr (pm_ret 45) = true := by decide +kernel
theorem p46_0 : ps_la 46 0 0 1 := ⟨.aload_n 0, by decide +kernel, fun _ _ => rfl⟩
theorem p46_1 : ps_gf 46 1 1 0 4 := ⟨9, 10, by decide +kernel, by decide +kernel, by decide +kernel⟩
theorem p46_4 : ps_k 46 4 (Int32.ofNat 0) 5 := ⟨.iconst 0, by decide +kernel, fun _ _ => rfl⟩
theorem p46_5 : ps_vS 46 5 47 2 8 := ⟨19, by decide +kernel, by decide +kernel, by decide +kernel, by decide +kernel⟩
theorem p46_8 : ps_la 46 8 0 9 := ⟨.aload_n 0, by decide +kernel, fun _ _ => rfl⟩
theorem p46_9 : ps_k 46 9 (Int32.ofNat 0) 10 := ⟨.iconst 0, by decide +kernel, fun _ _ => rfl⟩
theorem p46_10 : ps_pf 46 10 1 1 (.int) 13 := ⟨15, 11, by decide +kernel, by decide +kernel, by decide +kernel, by decide +kernel, by decide +kernel⟩
theorem p46_13 : ps_pu 46 13 (.return_) 14 := (by decide +kernel : ps_i 46 13 = some (.return_, 14))
theorem e46 : ∀ v0 : Value, pm_ent 46 [v0] = [some v0] := fun _ => rfl
theorem l46 : 1 ≤ pm_mx 46 := by decide +kernel
theorem t46 : pm_ret 46 = none := by decide +kernel
theorem p47_0 : ps_k 47 0 (Int32.ofNat 0) 1 := ⟨.iconst 0, by decide +kernel, fun _ _ => rfl⟩
theorem p47_1 : ps_si 47 1 2 2 := ⟨.istore_n 2, by decide +kernel, fun _ _ => rfl⟩
theorem p47_2 : ps_la 47 2 0 3 := ⟨.aload_n 0, by decide +kernel, fun _ _ => rfl⟩
theorem p47_3 : ps_pu 47 3 (.arraylength) 4 := (by decide +kernel : ps_i 47 3 = some (.arraylength, 4))
theorem p47_4 : ps_si 47 4 3 5 := ⟨.istore_n 3, by decide +kernel, fun _ _ => rfl⟩
theorem p47_5 : ps_ld 47 5 2 6 := ⟨.iload_n 2, by decide +kernel, fun _ _ => rfl⟩
theorem p47_6 : ps_ld 47 6 3 7 := ⟨.iload_n 3, by decide +kernel, fun _ _ => rfl⟩
theorem p47_7 : ps_j 47 7 .ge 20 10 := ⟨13, by decide +kernel, by decide +kernel, by decide +kernel⟩
theorem p47_10 : ps_la 47 10 0 11 := ⟨.aload_n 0, by decide +kernel, fun _ _ => rfl⟩
theorem p47_11 : ps_ld 47 11 2 12 := ⟨.iload_n 2, by decide +kernel, fun _ _ => rfl⟩
theorem p47_12 : ps_ld 47 12 1 13 := ⟨.iload_n 1, by decide +kernel, fun _ _ => rfl⟩
theorem p47_13 : ps_pu 47 13 (.iastore) 14 := (by decide +kernel : ps_i 47 13 = some (.iastore, 14))
theorem p47_14 : ps_pu 47 14 (.iinc 2 ((1 : Nat) : Int)) 17 := (by decide +kernel : ps_i 47 14 = some (.iinc 2 ((1 : Nat) : Int), 17))
theorem p47_17 : ps_jg 47 17 5 := ⟨(-12), 20, by decide +kernel, by decide +kernel, by decide +kernel⟩
theorem p47_20 : ps_pu 47 20 (.return_) 21 := (by decide +kernel : ps_i 47 20 = some (.return_, 21))
theorem e47 : ∀ v0 v1 : Value, pm_ent 47 [v0, v1] = [some v0, some v1, none, none] := fun _ _ => rfl
theorem l47 : 2 ≤ pm_mx 47 := by decide +kernel
theorem t47 : pm_ret 47 = none := by decide +kernel
theorem p48_0 : ps_la 48 0 1 1 := ⟨.aload_n 1, by decide +kernel, fun _ _ => rfl⟩
theorem p48_1 : ps_k 48 1 (Int32.ofNat 0) 2 := ⟨.iconst 0, by decide +kernel, fun _ _ => rfl⟩
theorem p48_2 : ps_la 48 2 0 3 := ⟨.aload_n 0, by decide +kernel, fun _ _ => rfl⟩
theorem p48_3 : ps_vV 48 3 0 49 0 6 := ⟨20, 49, by decide +kernel, by decide +kernel, by decide +kernel, by decide +kernel, by decide +kernel⟩
theorem p48_6 : ps_pu 48 6 (.i2l) 7 := (by decide +kernel : ps_i 48 6 = some (.i2l, 7))
theorem p48_7 : ps_pu 48 7 (.lastore) 8 := (by decide +kernel : ps_i 48 7 = some (.lastore, 8))
theorem p48_8 : ps_jg 48 8 14 := ⟨(6), 11, by decide +kernel, by decide +kernel, by decide +kernel⟩
theorem p48_11 : ps_sa 48 11 2 12 := ⟨.astore_n 2, by decide +kernel, fun _ _ => rfl⟩
theorem p48_12 : ps_k 48 12 (Int32.ofNat 1) 13 := ⟨.iconst 1, by decide +kernel, fun _ _ => rfl⟩
theorem p48_13 : ps_pu 48 13 (.ireturn) 14 := (by decide +kernel : ps_i 48 13 = some (.ireturn, 14))
theorem p48_14 : ps_k 48 14 (Int32.ofNat 0) 15 := ⟨.iconst 0, by decide +kernel, fun _ _ => rfl⟩
theorem p48_15 : ps_pu 48 15 (.ireturn) 16 := (by decide +kernel : ps_i 48 15 = some (.ireturn, 16))
theorem e48 : ∀ v0 v1 : Value, pm_ent 48 [v0, v1] = [some v0, some v1, none] := fun _ _ => rfl
theorem l48 : 2 ≤ pm_mx 48 := by decide +kernel
theorem t48 : pm_ret 48 = (some .int) := by decide +kernel
theorem p49_0 : ps_la 49 0 0 1 := ⟨.aload_n 0, by decide +kernel, fun _ _ => rfl⟩
theorem p49_1 : ps_gf 49 1 0 4 4 := ⟨32, 4, by decide +kernel, by decide +kernel, by decide +kernel⟩
theorem p49_4 : ps_vV 49 4 2 35 0 7 := ⟨130, 35, by decide +kernel, by decide +kernel, by decide +kernel, by decide +kernel, by decide +kernel⟩
theorem p49_7 : ps_j0 49 7 .eq 22 10 := ⟨15, by decide +kernel, by decide +kernel, by decide +kernel⟩
theorem p49_10 : ps_la 49 10 0 11 := ⟨.aload_n 0, by decide +kernel, fun _ _ => rfl⟩
theorem p49_11 : ps_gf 49 11 0 5 14 := ⟨38, 5, by decide +kernel, by decide +kernel, by decide +kernel⟩
theorem p49_14 : ps_vV 49 14 4 50 0 17 := ⟨134, 50, by decide +kernel, by decide +kernel, by decide +kernel, by decide +kernel, by decide +kernel⟩
theorem p49_17 : ps_j0 49 17 .ne 22 20 := ⟨5, by decide +kernel, by decide +kernel, by decide +kernel⟩
theorem p49_20 : ps_k 49 20 (Int32.ofNat 0) 21 := ⟨.iconst 0, by decide +kernel, fun _ _ => rfl⟩
theorem p49_21 : ps_pu 49 21 (.ireturn) 22 := (by decide +kernel : ps_i 49 21 = some (.ireturn, 22))
theorem p49_22 : ps_la 49 22 0 23 := ⟨.aload_n 0, by decide +kernel, fun _ _ => rfl⟩
theorem p49_23 : ps_gf 49 23 0 6 26 := ⟨42, 6, by decide +kernel, by decide +kernel, by decide +kernel⟩
theorem p49_26 : ps_gf 49 26 4 0 29 := ⟨137, 17, by decide +kernel, by decide +kernel, by decide +kernel⟩
theorem p49_29 : ps_vV 49 29 2 51 0 32 := ⟨140, 51, by decide +kernel, by decide +kernel, by decide +kernel, by decide +kernel, by decide +kernel⟩
theorem p49_32 : ps_la 49 32 0 33 := ⟨.aload_n 0, by decide +kernel, fun _ _ => rfl⟩
theorem p49_33 : ps_k 49 33 (Int32.ofNat 0) 34 := ⟨.iconst 0, by decide +kernel, fun _ _ => rfl⟩
theorem p49_34 : ps_la 49 34 0 35 := ⟨.aload_n 0, by decide +kernel, fun _ _ => rfl⟩
theorem p49_35 : ps_gf 49 35 0 5 38 := ⟨38, 5, by decide +kernel, by decide +kernel, by decide +kernel⟩
theorem p49_38 : ps_gf 49 38 4 0 41 := ⟨137, 17, by decide +kernel, by decide +kernel, by decide +kernel⟩
theorem p49_41 : ps_vV 49 41 2 8 0 44 := ⟨96, 8, by decide +kernel, by decide +kernel, by decide +kernel, by decide +kernel, by decide +kernel⟩
theorem p49_44 : ps_k 49 44 (Int32.ofNat 1) 45 := ⟨.iconst 1, by decide +kernel, fun _ _ => rfl⟩
theorem p49_45 : ps_vV 49 45 0 52 3 48 := ⟨141, 52, by decide +kernel, by decide +kernel, by decide +kernel, by decide +kernel, by decide +kernel⟩
theorem p49_48 : ps_la 49 48 0 49 := ⟨.aload_n 0, by decide +kernel, fun _ _ => rfl⟩
theorem p49_49 : ps_la 49 49 0 50 := ⟨.aload_n 0, by decide +kernel, fun _ _ => rfl⟩
theorem p49_50 : ps_gf 49 50 0 4 53 := ⟨32, 4, by decide +kernel, by decide +kernel, by decide +kernel⟩
theorem p49_53 : ps_vV 49 53 0 53 1 56 := ⟨145, 53, by decide +kernel, by decide +kernel, by decide +kernel, by decide +kernel, by decide +kernel⟩
theorem p49_56 : ps_si 49 56 1 57 := ⟨.istore_n 1, by decide +kernel, fun _ _ => rfl⟩
theorem p49_57 : ps_la 49 57 0 58 := ⟨.aload_n 0, by decide +kernel, fun _ _ => rfl⟩
theorem p49_58 : ps_gf 49 58 0 6 61 := ⟨42, 6, by decide +kernel, by decide +kernel, by decide +kernel⟩
theorem p49_61 : ps_k 49 61 (Int32.ofNat 1) 62 := ⟨.iconst 1, by decide +kernel, fun _ _ => rfl⟩
theorem p49_62 : ps_vV 49 62 4 64 1 65 := ⟨149, 64, by decide +kernel, by decide +kernel, by decide +kernel, by decide +kernel, by decide +kernel⟩
theorem p49_65 : ps_la 49 65 0 66 := ⟨.aload_n 0, by decide +kernel, fun _ _ => rfl⟩
theorem p49_66 : ps_gf 49 66 0 6 69 := ⟨42, 6, by decide +kernel, by decide +kernel, by decide +kernel⟩
theorem p49_69 : ps_gf 49 69 4 0 72 := ⟨137, 17, by decide +kernel, by decide +kernel, by decide +kernel⟩
theorem p49_72 : ps_vV 49 72 2 8 0 75 := ⟨96, 8, by decide +kernel, by decide +kernel, by decide +kernel, by decide +kernel, by decide +kernel⟩
theorem p49_75 : ps_k 49 75 (Int32.ofNat 10) 77 := ⟨.bipush 10, by decide +kernel, fun _ _ => rfl⟩
theorem p49_77 : ps_j 49 77 .gt 88 80 := ⟨11, by decide +kernel, by decide +kernel, by decide +kernel⟩
theorem p49_80 : ps_la 49 80 0 81 := ⟨.aload_n 0, by decide +kernel, fun _ _ => rfl⟩
theorem p49_81 : ps_ld 49 81 1 82 := ⟨.iload_n 1, by decide +kernel, fun _ _ => rfl⟩
theorem p49_82 : ps_vV 49 82 0 66 1 85 := ⟨153, 66, by decide +kernel, by decide +kernel, by decide +kernel, by decide +kernel, by decide +kernel⟩
theorem p49_85 : ps_j0 49 85 .ne 98 88 := ⟨13, by decide +kernel, by decide +kernel, by decide +kernel⟩
theorem p49_88 : ps_th 49 88 1 := ⟨82, 91, by decide +kernel, by decide +kernel, by decide +kernel, by decide +kernel⟩
theorem p49_91 : ps_pu 49 91 (.dup) 92 := (by decide +kernel : ps_i 49 91 = some (.dup, 92))
theorem p49_92 : ps_pu 49 92 (.ldc 156) 94 := (by decide +kernel : ps_i 49 92 = some (.ldc 156, 94))
theorem p49_97 : ps_pu 49 97 (.athrow) 98 := (by decide +kernel : ps_i 49 97 = some (.athrow, 98))
theorem p49_98 : ps_la 49 98 0 99 := ⟨.aload_n 0, by decide +kernel, fun _ _ => rfl⟩
theorem p49_99 : ps_ld 49 99 1 100 := ⟨.iload_n 1, by decide +kernel, fun _ _ => rfl⟩
theorem p49_100 : ps_vV 49 100 0 67 1 103 := ⟨158, 67, by decide +kernel, by decide +kernel, by decide +kernel, by decide +kernel, by decide +kernel⟩
theorem p49_103 : ps_si 49 103 2 104 := ⟨.istore_n 2, by decide +kernel, fun _ _ => rfl⟩
theorem p49_104 : ps_ld 49 104 2 105 := ⟨.iload_n 2, by decide +kernel, fun _ _ => rfl⟩
theorem p49_105 : ps_k 49 105 (-1 : Int32) 106 := ⟨.iconst (-1), by decide +kernel, fun _ _ => rfl⟩
theorem p49_106 : ps_j 49 106 .eq 127 109 := ⟨21, by decide +kernel, by decide +kernel, by decide +kernel⟩
theorem p49_109 : ps_la 49 109 0 110 := ⟨.aload_n 0, by decide +kernel, fun _ _ => rfl⟩
theorem p49_110 : ps_gf 49 110 0 5 113 := ⟨38, 5, by decide +kernel, by decide +kernel, by decide +kernel⟩
theorem p49_113 : ps_vV 49 113 4 70 0 116 := ⟨162, 70, by decide +kernel, by decide +kernel, by decide +kernel, by decide +kernel, by decide +kernel⟩
theorem p49_116 : ps_la 49 116 0 117 := ⟨.aload_n 0, by decide +kernel, fun _ _ => rfl⟩
theorem p49_117 : ps_nw 49 117 2 120 := ⟨16, by decide +kernel, by decide +kernel⟩
theorem p49_120 : ps_pu 49 120 (.dup) 121 := (by decide +kernel : ps_i 49 120 = some (.dup, 121))
theorem p49_121 : ps_vP 49 121 2 0 124 := ⟨18, by decide +kernel, by decide +kernel, by decide +kernel, by decide +kernel⟩
theorem p49_124 : ps_pf 49 124 0 4 (.object "java/util/ArrayList") 127 := ⟨32, 4, by decide +kernel, by decide +kernel, by decide +kernel, by decide +kernel, by decide +kernel⟩
theorem p49_127 : ps_ld 49 127 2 128 := ⟨.iload_n 2, by decide +kernel, fun _ _ => rfl⟩
theorem p49_128 : ps_pu 49 128 (.ireturn) 129 := (by decide +kernel : ps_i 49 128 = some (.ireturn, 129))
theorem e49 : ∀ v0 : Value, pm_ent 49 [v0] = [some v0, none, none] := fun _ => rfl
theorem l49 : 1 ≤ pm_mx 49 := by decide +kernel
theorem t49 : pm_ret 49 = (some .int) := by decide +kernel
theorem p50_0 : ps_k 50 0 (Int32.ofNat 0) 1 := ⟨.iconst 0, by decide +kernel, fun _ _ => rfl⟩
theorem p50_1 : ps_si 50 1 1 2 := ⟨.istore_n 1, by decide +kernel, fun _ _ => rfl⟩
theorem p50_2 : ps_ld 50 2 1 3 := ⟨.iload_n 1, by decide +kernel, fun _ _ => rfl⟩
theorem p50_3 : ps_la 50 3 0 4 := ⟨.aload_n 0, by decide +kernel, fun _ _ => rfl⟩
theorem p50_4 : ps_gf 50 4 4 0 7 := ⟨12, 17, by decide +kernel, by decide +kernel, by decide +kernel⟩
theorem p50_7 : ps_vV 50 7 2 8 0 10 := ⟨31, 8, by decide +kernel, by decide +kernel, by decide +kernel, by decide +kernel, by decide +kernel⟩
theorem p50_10 : ps_j 50 10 .ge 54 13 := ⟨44, by decide +kernel, by decide +kernel, by decide +kernel⟩
theorem p50_13 : ps_la 50 13 0 14 := ⟨.aload_n 0, by decide +kernel, fun _ _ => rfl⟩
theorem p50_14 : ps_gf 50 14 4 0 17 := ⟨12, 17, by decide +kernel, by decide +kernel, by decide +kernel⟩
theorem p50_17 : ps_ld 50 17 1 18 := ⟨.iload_n 1, by decide +kernel, fun _ _ => rfl⟩
theorem p50_18 : ps_vV 50 18 2 9 1 21 := ⟨35, 9, by decide +kernel, by decide +kernel, by decide +kernel, by decide +kernel, by decide +kernel⟩
theorem p50_21 : ps_ck 50 21 6 24 := ⟨39, by decide +kernel, by decide +kernel⟩
theorem p50_24 : ps_k 50 24 (Int32.ofNat 1) 25 := ⟨.iconst 1, by decide +kernel, fun _ _ => rfl⟩
theorem p50_25 : ps_vV 50 25 6 18 1 28 := ⟨76, 18, by decide +kernel, by decide +kernel, by decide +kernel, by decide +kernel, by decide +kernel⟩
theorem p50_28 : ps_la 50 28 0 29 := ⟨.aload_n 0, by decide +kernel, fun _ _ => rfl⟩
theorem p50_29 : ps_gf 50 29 4 0 32 := ⟨12, 17, by decide +kernel, by decide +kernel, by decide +kernel⟩
theorem p50_32 : ps_ld 50 32 1 33 := ⟨.iload_n 1, by decide +kernel, fun _ _ => rfl⟩
theorem p50_33 : ps_vV 50 33 2 9 1 36 := ⟨35, 9, by decide +kernel, by decide +kernel, by decide +kernel, by decide +kernel, by decide +kernel⟩
theorem p50_36 : ps_ck 50 36 6 39 := ⟨39, by decide +kernel, by decide +kernel⟩
theorem p50_39 : ps_k 50 39 (Int32.ofNat 0) 40 := ⟨.iconst 0, by decide +kernel, fun _ _ => rfl⟩
theorem p50_40 : ps_vV 50 40 6 18 1 43 := ⟨76, 18, by decide +kernel, by decide +kernel, by decide +kernel, by decide +kernel, by decide +kernel⟩
theorem p50_43 : ps_j 50 43 .ge 48 46 := ⟨5, by decide +kernel, by decide +kernel, by decide +kernel⟩
theorem p50_46 : ps_k 50 46 (Int32.ofNat 1) 47 := ⟨.iconst 1, by decide +kernel, fun _ _ => rfl⟩
theorem p50_47 : ps_pu 50 47 (.ireturn) 48 := (by decide +kernel : ps_i 50 47 = some (.ireturn, 48))
theorem p50_48 : ps_pu 50 48 (.iinc 1 ((1 : Nat) : Int)) 51 := (by decide +kernel : ps_i 50 48 = some (.iinc 1 ((1 : Nat) : Int), 51))
theorem p50_51 : ps_jg 50 51 2 := ⟨(-49), 54, by decide +kernel, by decide +kernel, by decide +kernel⟩
theorem p50_54 : ps_k 50 54 (Int32.ofNat 0) 55 := ⟨.iconst 0, by decide +kernel, fun _ _ => rfl⟩
theorem p50_55 : ps_pu 50 55 (.ireturn) 56 := (by decide +kernel : ps_i 50 55 = some (.ireturn, 56))
theorem e50 : ∀ v0 : Value, pm_ent 50 [v0] = [some v0, none] := fun _ => rfl
theorem l50 : 1 ≤ pm_mx 50 := by decide +kernel
theorem t50 : pm_ret 50 = (some .boolean) := by decide +kernel
theorem p51_0 : ps_la 51 0 0 1 := ⟨.aload_n 0, by decide +kernel, fun _ _ => rfl⟩
theorem p51_1 : ps_pu 51 1 (.dup) 2 := (by decide +kernel : ps_i 51 1 = some (.dup, 2))
theorem p51_2 : ps_gf 51 2 2 2 5 := ⟨63, 14, by decide +kernel, by decide +kernel, by decide +kernel⟩
theorem p51_5 : ps_k 51 5 (Int32.ofNat 1) 6 := ⟨.iconst 1, by decide +kernel, fun _ _ => rfl⟩
theorem p51_6 : ps_b 51 6 (· + ·) 7 := ⟨.iadd, by decide +kernel, fun _ _ => rfl⟩
theorem p51_7 : ps_pf 51 7 2 2 (.int) 10 := ⟨63, 14, by decide +kernel, by decide +kernel, by decide +kernel, by decide +kernel, by decide +kernel⟩
theorem p51_10 : ps_la 51 10 0 11 := ⟨.aload_n 0, by decide +kernel, fun _ _ => rfl⟩
theorem p51_11 : ps_gf 51 11 2 0 14 := ⟨9, 12, by decide +kernel, by decide +kernel, by decide +kernel⟩
theorem p51_14 : ps_sa 51 14 1 15 := ⟨.astore_n 1, by decide +kernel, fun _ _ => rfl⟩
theorem p51_15 : ps_la 51 15 0 16 := ⟨.aload_n 0, by decide +kernel, fun _ _ => rfl⟩
theorem p51_16 : ps_gf 51 16 2 1 19 := ⟨48, 13, by decide +kernel, by decide +kernel, by decide +kernel⟩
theorem p51_19 : ps_si 51 19 2 20 := ⟨.istore_n 2, by decide +kernel, fun _ _ => rfl⟩
theorem p51_20 : ps_la 51 20 0 21 := ⟨.aload_n 0, by decide +kernel, fun _ _ => rfl⟩
theorem p51_21 : ps_k 51 21 (Int32.ofNat 0) 22 := ⟨.iconst 0, by decide +kernel, fun _ _ => rfl⟩
theorem p51_22 : ps_pu 51 22 (.dup_x1) 23 := (by decide +kernel : ps_i 51 22 = some (.dup_x1, 23))
theorem p51_23 : ps_pf 51 23 2 1 (.int) 26 := ⟨48, 13, by decide +kernel, by decide +kernel, by decide +kernel, by decide +kernel, by decide +kernel⟩
theorem p51_26 : ps_si 51 26 3 27 := ⟨.istore_n 3, by decide +kernel, fun _ _ => rfl⟩
theorem p51_27 : ps_ld 51 27 3 28 := ⟨.iload_n 3, by decide +kernel, fun _ _ => rfl⟩
theorem p51_28 : ps_ld 51 28 2 29 := ⟨.iload_n 2, by decide +kernel, fun _ _ => rfl⟩
theorem p51_29 : ps_j 51 29 .ge 42 32 := ⟨13, by decide +kernel, by decide +kernel, by decide +kernel⟩
theorem p51_32 : ps_la 51 32 1 33 := ⟨.aload_n 1, by decide +kernel, fun _ _ => rfl⟩
theorem p51_33 : ps_ld 51 33 3 34 := ⟨.iload_n 3, by decide +kernel, fun _ _ => rfl⟩
theorem p51_34 : ps_pu 51 34 (.aconst_null) 35 := (by decide +kernel : ps_i 51 34 = some (.aconst_null, 35))
theorem p51_35 : ps_pu 51 35 (.aastore) 36 := (by decide +kernel : ps_i 51 35 = some (.aastore, 36))
theorem p51_36 : ps_pu 51 36 (.iinc 3 ((1 : Nat) : Int)) 39 := (by decide +kernel : ps_i 51 36 = some (.iinc 3 ((1 : Nat) : Int), 39))
theorem p51_39 : ps_jg 51 39 27 := ⟨(-12), 42, by decide +kernel, by decide +kernel, by decide +kernel⟩
theorem p51_42 : ps_pu 51 42 (.return_) 43 := (by decide +kernel : ps_i 51 42 = some (.return_, 43))
theorem e51 : ∀ v0 : Value, pm_ent 51 [v0] = [some v0, none, none, none] := fun _ => rfl
theorem l51 : 1 ≤ pm_mx 51 := by decide +kernel
theorem t51 : pm_ret 51 = none := by decide +kernel
theorem p52_0 : ps_ld 52 0 1 1 := ⟨.iload_n 1, by decide +kernel, fun _ _ => rfl⟩
theorem p52_1 : ps_si 52 1 4 3 := ⟨.istore 4, by decide +kernel, fun _ _ => rfl⟩
theorem p52_3 : ps_ld 52 3 4 5 := ⟨.iload 4, by decide +kernel, fun _ _ => rfl⟩
theorem p52_5 : ps_ld 52 5 2 6 := ⟨.iload_n 2, by decide +kernel, fun _ _ => rfl⟩
theorem p52_6 : ps_j 52 6 .ge 69 9 := ⟨63, by decide +kernel, by decide +kernel, by decide +kernel⟩
theorem p52_9 : ps_ld 52 9 4 11 := ⟨.iload 4, by decide +kernel, fun _ _ => rfl⟩
theorem p52_11 : ps_la 52 11 0 12 := ⟨.aload_n 0, by decide +kernel, fun _ _ => rfl⟩
theorem p52_12 : ps_gf 52 12 0 5 15 := ⟨38, 5, by decide +kernel, by decide +kernel, by decide +kernel⟩
theorem p52_15 : ps_gf 52 15 4 0 18 := ⟨137, 17, by decide +kernel, by decide +kernel, by decide +kernel⟩
theorem p52_18 : ps_vV 52 18 2 8 0 21 := ⟨96, 8, by decide +kernel, by decide +kernel, by decide +kernel, by decide +kernel, by decide +kernel⟩
theorem p52_21 : ps_j 52 21 .ge 69 24 := ⟨48, by decide +kernel, by decide +kernel, by decide +kernel⟩
theorem p52_24 : ps_la 52 24 0 25 := ⟨.aload_n 0, by decide +kernel, fun _ _ => rfl⟩
theorem p52_25 : ps_gf 52 25 0 5 28 := ⟨38, 5, by decide +kernel, by decide +kernel, by decide +kernel⟩
theorem p52_28 : ps_gf 52 28 4 0 31 := ⟨137, 17, by decide +kernel, by decide +kernel, by decide +kernel⟩
theorem p52_31 : ps_ld 52 31 4 33 := ⟨.iload 4, by decide +kernel, fun _ _ => rfl⟩
theorem p52_33 : ps_vV 52 33 2 9 1 36 := ⟨113, 9, by decide +kernel, by decide +kernel, by decide +kernel, by decide +kernel, by decide +kernel⟩
theorem p52_36 : ps_ck 52 36 6 39 := ⟨207, by decide +kernel, by decide +kernel⟩
theorem p52_39 : ps_sa 52 39 5 41 := ⟨.astore 5, by decide +kernel, fun _ _ => rfl⟩
theorem p52_41 : ps_la 52 41 5 43 := ⟨.aload 5, by decide +kernel, fun _ _ => rfl⟩
theorem p52_43 : ps_ld 52 43 3 44 := ⟨.iload_n 3, by decide +kernel, fun _ _ => rfl⟩
theorem p52_44 : ps_vV 52 44 6 18 1 47 := ⟨223, 18, by decide +kernel, by decide +kernel, by decide +kernel, by decide +kernel, by decide +kernel⟩
theorem p52_47 : ps_j0 52 47 .le 63 50 := ⟨16, by decide +kernel, by decide +kernel, by decide +kernel⟩
theorem p52_50 : ps_la 52 50 0 51 := ⟨.aload_n 0, by decide +kernel, fun _ _ => rfl⟩
theorem p52_51 : ps_gf 52 51 0 6 54 := ⟨42, 6, by decide +kernel, by decide +kernel, by decide +kernel⟩
theorem p52_54 : ps_gf 52 54 4 0 57 := ⟨137, 17, by decide +kernel, by decide +kernel, by decide +kernel⟩
theorem p52_57 : ps_la 52 57 5 59 := ⟨.aload 5, by decide +kernel, fun _ _ => rfl⟩
theorem p52_59 : ps_vV 52 59 2 38 1 62 := ⟨106, 38, by decide +kernel, by decide +kernel, by decide +kernel, by decide +kernel, by decide +kernel⟩
theorem p52_62 : ps_pu 52 62 (.pop) 63 := (by decide +kernel : ps_i 52 62 = some (.pop, 63))
theorem p52_63 : ps_pu 52 63 (.iinc 4 ((1 : Nat) : Int)) 66 := (by decide +kernel : ps_i 52 63 = some (.iinc 4 ((1 : Nat) : Int), 66))
theorem p52_66 : ps_jg 52 66 3 := ⟨(-63), 69, by decide +kernel, by decide +kernel, by decide +kernel⟩
theorem p52_69 : ps_pu 52 69 (.return_) 70 := (by decide +kernel : ps_i 52 69 = some (.return_, 70))
theorem e52 : ∀ v0 v1 v2 v3 : Value, pm_ent 52 [v0, v1, v2, v3] = [some v0, some v1, some v2, some v3, none, none] := fun _ _ _ _ => rfl
theorem l52 : 4 ≤ pm_mx 52 := by decide +kernel
theorem t52 : pm_ret 52 = none := by decide +kernel
theorem p53_0 : ps_la 53 0 1 1 := ⟨.aload_n 1, by decide +kernel, fun _ _ => rfl⟩
theorem p53_1 : ps_vV 53 1 2 35 0 4 := ⟨130, 35, by decide +kernel, by decide +kernel, by decide +kernel, by decide +kernel, by decide +kernel⟩
theorem p53_4 : ps_j0 53 4 .eq 9 7 := ⟨5, by decide +kernel, by decide +kernel, by decide +kernel⟩
theorem p53_7 : ps_k 53 7 (Int32.ofNat 0) 8 := ⟨.iconst 0, by decide +kernel, fun _ _ => rfl⟩
theorem p53_8 : ps_pu 53 8 (.ireturn) 9 := (by decide +kernel : ps_i 53 8 = some (.ireturn, 9))
theorem p53_9 : ps_la 53 9 0 10 := ⟨.aload_n 0, by decide +kernel, fun _ _ => rfl⟩
theorem p53_10 : ps_gf 53 10 0 3 13 := ⟨28, 3, by decide +kernel, by decide +kernel, by decide +kernel⟩
theorem p53_13 : ps_la 53 13 1 14 := ⟨.aload_n 1, by decide +kernel, fun _ _ => rfl⟩
theorem p53_14 : ps_vV 53 14 3 54 1 17 := ⟨248, 54, by decide +kernel, by decide +kernel, by decide +kernel, by decide +kernel, by decide +kernel⟩
theorem p53_17 : ps_la 53 17 0 18 := ⟨.aload_n 0, by decide +kernel, fun _ _ => rfl⟩
theorem p53_18 : ps_gf 53 18 0 6 21 := ⟨42, 6, by decide +kernel, by decide +kernel, by decide +kernel⟩
theorem p53_21 : ps_gf 53 21 4 0 24 := ⟨137, 17, by decide +kernel, by decide +kernel, by decide +kernel⟩
theorem p53_24 : ps_nw 53 24 6 27 := ⟨207, by decide +kernel, by decide +kernel⟩
theorem p53_27 : ps_pu 53 27 (.dup) 28 := (by decide +kernel : ps_i 53 27 = some (.dup, 28))
theorem p53_28 : ps_la 53 28 0 29 := ⟨.aload_n 0, by decide +kernel, fun _ _ => rfl⟩
theorem p53_29 : ps_gf 53 29 0 7 32 := ⟨45, 7, by decide +kernel, by decide +kernel, by decide +kernel⟩
theorem p53_32 : ps_k 53 32 (Int32.ofNat 1) 33 := ⟨.iconst 1, by decide +kernel, fun _ _ => rfl⟩
theorem p53_33 : ps_b 53 33 (· + ·) 34 := ⟨.iadd, by decide +kernel, fun _ _ => rfl⟩
theorem p53_34 : ps_la 53 34 1 35 := ⟨.aload_n 1, by decide +kernel, fun _ _ => rfl⟩
theorem p53_35 : ps_nw 53 35 3 38 := ⟨23, by decide +kernel, by decide +kernel⟩
theorem p53_38 : ps_pu 53 38 (.dup) 39 := (by decide +kernel : ps_i 53 38 = some (.dup, 39))
theorem p53_39 : ps_la 53 39 0 40 := ⟨.aload_n 0, by decide +kernel, fun _ _ => rfl⟩
theorem p53_40 : ps_gf 53 40 0 3 43 := ⟨28, 3, by decide +kernel, by decide +kernel, by decide +kernel⟩
theorem p53_43 : ps_vP 53 43 61 1 46 := ⟨252, by decide +kernel, by decide +kernel, by decide +kernel, by decide +kernel⟩
theorem p53_46 : ps_vP 53 46 63 3 49 := ⟨255, by decide +kernel, by decide +kernel, by decide +kernel, by decide +kernel⟩
theorem p53_49 : ps_vV 53 49 2 38 1 52 := ⟨106, 38, by decide +kernel, by decide +kernel, by decide +kernel, by decide +kernel, by decide +kernel⟩
theorem p53_52 : ps_pu 53 52 (.pop) 53 := (by decide +kernel : ps_i 53 52 = some (.pop, 53))
theorem p53_53 : ps_la 53 53 0 54 := ⟨.aload_n 0, by decide +kernel, fun _ _ => rfl⟩
theorem p53_54 : ps_gf 53 54 0 3 57 := ⟨28, 3, by decide +kernel, by decide +kernel, by decide +kernel⟩
theorem p53_57 : ps_gf 53 57 3 1 60 := ⟨231, 16, by decide +kernel, by decide +kernel, by decide +kernel⟩
theorem p53_60 : ps_pu 53 60 (.ireturn) 61 := (by decide +kernel : ps_i 53 60 = some (.ireturn, 61))
theorem e53 : ∀ v0 v1 : Value, pm_ent 53 [v0, v1] = [some v0, some v1] := fun _ _ => rfl
theorem l53 : 2 ≤ pm_mx 53 := by decide +kernel
theorem t53 : pm_ret 53 = (some .int) := by decide +kernel
theorem p54_0 : ps_la 54 0 0 1 := ⟨.aload_n 0, by decide +kernel, fun _ _ => rfl⟩
theorem p54_1 : ps_vV 54 1 3 55 0 4 := ⟨25, 55, by decide +kernel, by decide +kernel, by decide +kernel, by decide +kernel, by decide +kernel⟩
theorem p54_4 : ps_la 54 4 0 5 := ⟨.aload_n 0, by decide +kernel, fun _ _ => rfl⟩
theorem p54_5 : ps_la 54 5 1 6 := ⟨.aload_n 1, by decide +kernel, fun _ _ => rfl⟩
theorem p54_6 : ps_vV 54 6 2 8 0 9 := ⟨28, 8, by decide +kernel, by decide +kernel, by decide +kernel, by decide +kernel, by decide +kernel⟩
theorem p54_9 : ps_vV 54 9 3 56 1 12 := ⟨34, 56, by decide +kernel, by decide +kernel, by decide +kernel, by decide +kernel, by decide +kernel⟩
theorem p54_12 : ps_k 54 12 (Int32.ofNat 0) 13 := ⟨.iconst 0, by decide +kernel, fun _ _ => rfl⟩
theorem p54_13 : ps_si 54 13 2 14 := ⟨.istore_n 2, by decide +kernel, fun _ _ => rfl⟩
theorem p54_14 : ps_k 54 14 (Int32.ofNat 0) 15 := ⟨.iconst 0, by decide +kernel, fun _ _ => rfl⟩
theorem p54_15 : ps_si 54 15 3 16 := ⟨.istore_n 3, by decide +kernel, fun _ _ => rfl⟩
theorem p54_16 : ps_ld 54 16 3 17 := ⟨.iload_n 3, by decide +kernel, fun _ _ => rfl⟩
theorem p54_17 : ps_la 54 17 1 18 := ⟨.aload_n 1, by decide +kernel, fun _ _ => rfl⟩
theorem p54_18 : ps_vV 54 18 2 8 0 21 := ⟨28, 8, by decide +kernel, by decide +kernel, by decide +kernel, by decide +kernel, by decide +kernel⟩
theorem p54_21 : ps_j 54 21 .ge 66 24 := ⟨45, by decide +kernel, by decide +kernel, by decide +kernel⟩
theorem p54_24 : ps_la 54 24 1 25 := ⟨.aload_n 1, by decide +kernel, fun _ _ => rfl⟩
theorem p54_25 : ps_ld 54 25 3 26 := ⟨.iload_n 3, by decide +kernel, fun _ _ => rfl⟩
theorem p54_26 : ps_vV 54 26 2 9 1 29 := ⟨38, 9, by decide +kernel, by decide +kernel, by decide +kernel, by decide +kernel, by decide +kernel⟩
theorem p54_29 : ps_ck 54 29 5 32 := ⟨42, by decide +kernel, by decide +kernel⟩
theorem p54_32 : ps_sa 54 32 4 34 := ⟨.astore 4, by decide +kernel, fun _ _ => rfl⟩
theorem p54_34 : ps_la 54 34 0 35 := ⟨.aload_n 0, by decide +kernel, fun _ _ => rfl⟩
theorem p54_35 : ps_la 54 35 4 37 := ⟨.aload 4, by decide +kernel, fun _ _ => rfl⟩
theorem p54_37 : ps_gf 54 37 5 0 40 := ⟨44, 19, by decide +kernel, by decide +kernel, by decide +kernel⟩
theorem p54_40 : ps_ld 54 40 2 41 := ⟨.iload_n 2, by decide +kernel, fun _ _ => rfl⟩
theorem p54_41 : ps_b 54 41 (· - ·) 42 := ⟨.isub, by decide +kernel, fun _ _ => rfl⟩
theorem p54_42 : ps_vV 54 42 3 56 1 45 := ⟨34, 56, by decide +kernel, by decide +kernel, by decide +kernel, by decide +kernel, by decide +kernel⟩
theorem p54_45 : ps_la 54 45 0 46 := ⟨.aload_n 0, by decide +kernel, fun _ _ => rfl⟩
theorem p54_46 : ps_la 54 46 4 48 := ⟨.aload 4, by decide +kernel, fun _ _ => rfl⟩
theorem p54_48 : ps_gf 54 48 5 1 51 := ⟨47, 20, by decide +kernel, by decide +kernel, by decide +kernel⟩
theorem p54_51 : ps_vV 54 51 3 56 1 54 := ⟨34, 56, by decide +kernel, by decide +kernel, by decide +kernel, by decide +kernel, by decide +kernel⟩
theorem p54_54 : ps_la 54 54 4 56 := ⟨.aload 4, by decide +kernel, fun _ _ => rfl⟩
theorem p54_56 : ps_gf 54 56 5 0 59 := ⟨44, 19, by decide +kernel, by decide +kernel, by decide +kernel⟩
theorem p54_59 : ps_si 54 59 2 60 := ⟨.istore_n 2, by decide +kernel, fun _ _ => rfl⟩
theorem p54_60 : ps_pu 54 60 (.iinc 3 ((1 : Nat) : Int)) 63 := (by decide +kernel : ps_i 54 60 = some (.iinc 3 ((1 : Nat) : Int), 63))
theorem p54_63 : ps_jg 54 63 16 := ⟨(-47), 66, by decide +kernel, by decide +kernel, by decide +kernel⟩
theorem p54_66 : ps_k 54 66 (Int32.ofNat 0) 67 := ⟨.iconst 0, by decide +kernel, fun _ _ => rfl⟩
theorem p54_67 : ps_si 54 67 3 68 := ⟨.istore_n 3, by decide +kernel, fun _ _ => rfl⟩
theorem p54_68 : ps_ld 54 68 3 69 := ⟨.iload_n 3, by decide +kernel, fun _ _ => rfl⟩
theorem p54_69 : ps_k 54 69 (Int32.ofNat 16) 71 := ⟨.bipush 16, by decide +kernel, fun _ _ => rfl⟩
theorem p54_71 : ps_j 54 71 .ge 86 74 := ⟨15, by decide +kernel, by decide +kernel, by decide +kernel⟩
theorem p54_74 : ps_la 54 74 0 75 := ⟨.aload_n 0, by decide +kernel, fun _ _ => rfl⟩
theorem p54_75 : ps_ld 54 75 3 76 := ⟨.iload_n 3, by decide +kernel, fun _ _ => rfl⟩
theorem p54_76 : ps_la 54 76 1 77 := ⟨.aload_n 1, by decide +kernel, fun _ _ => rfl⟩
theorem p54_77 : ps_vV 54 77 3 58 2 80 := ⟨48, 58, by decide +kernel, by decide +kernel, by decide +kernel, by decide +kernel, by decide +kernel⟩
theorem p54_80 : ps_pu 54 80 (.iinc 3 ((1 : Nat) : Int)) 83 := (by decide +kernel : ps_i 54 80 = some (.iinc 3 ((1 : Nat) : Int), 83))
theorem p54_83 : ps_jg 54 83 68 := ⟨(-15), 86, by decide +kernel, by decide +kernel, by decide +kernel⟩
theorem p54_86 : ps_pu 54 86 (.return_) 87 := (by decide +kernel : ps_i 54 86 = some (.return_, 87))
theorem e54 : ∀ v0 v1 : Value, pm_ent 54 [v0, v1] = [some v0, some v1, none, none, none] := fun _ _ => rfl
theorem l54 : 2 ≤ pm_mx 54 := by decide +kernel
theorem t54 : pm_ret 54 = none := by decide +kernel
theorem p55_0 : ps_la 55 0 0 1 := ⟨.aload_n 0, by decide +kernel, fun _ _ => rfl⟩
theorem p55_1 : ps_k 55 1 (Int32.ofNat 0) 2 := ⟨.iconst 0, by decide +kernel, fun _ _ => rfl⟩
theorem p55_2 : ps_pf 55 2 3 1 (.int) 5 := ⟨15, 16, by decide +kernel, by decide +kernel, by decide +kernel, by decide +kernel, by decide +kernel⟩
theorem p55_5 : ps_pu 55 5 (.return_) 6 := (by decide +kernel : ps_i 55 5 = some (.return_, 6))
theorem e55 : ∀ v0 : Value, pm_ent 55 [v0] = [some v0] := fun _ => rfl
theorem l55 : 1 ≤ pm_mx 55 := by decide +kernel
theorem t55 : pm_ret 55 = none := by decide +kernel
theorem p56_0 : ps_ld 56 0 1 1 := ⟨.iload_n 1, by decide +kernel, fun _ _ => rfl⟩
theorem p56_1 : ps_si 56 1 2 2 := ⟨.istore_n 2, by decide +kernel, fun _ _ => rfl⟩
theorem p56_2 : ps_k 56 2 (Int32.ofNat 0) 3 := ⟨.iconst 0, by decide +kernel, fun _ _ => rfl⟩
theorem p56_3 : ps_si 56 3 3 4 := ⟨.istore_n 3, by decide +kernel, fun _ _ => rfl⟩
theorem p56_4 : ps_ld 56 4 3 5 := ⟨.iload_n 3, by decide +kernel, fun _ _ => rfl⟩
theorem p56_5 : ps_k 56 5 (Int32.ofNat 4) 6 := ⟨.iconst 4, by decide +kernel, fun _ _ => rfl⟩
theorem p56_6 : ps_j 56 6 .ge 41 9 := ⟨35, by decide +kernel, by decide +kernel, by decide +kernel⟩
theorem p56_9 : ps_ld 56 9 2 10 := ⟨.iload_n 2, by decide +kernel, fun _ _ => rfl⟩
theorem p56_10 : ps_k 56 10 (Int32.ofNat 128) 13 := ⟨.sipush 128, by decide +kernel, fun _ _ => rfl⟩
theorem p56_13 : ps_j 56 13 .lt 41 16 := ⟨28, by decide +kernel, by decide +kernel, by decide +kernel⟩
theorem p56_16 : ps_la 56 16 0 17 := ⟨.aload_n 0, by decide +kernel, fun _ _ => rfl⟩
theorem p56_17 : ps_k 56 17 (Int32.ofNat 128) 20 := ⟨.sipush 128, by decide +kernel, fun _ _ => rfl⟩
theorem p56_20 : ps_ld 56 20 2 21 := ⟨.iload_n 2, by decide +kernel, fun _ _ => rfl⟩
theorem p56_21 : ps_k 56 21 (Int32.ofNat 128) 24 := ⟨.sipush 128, by decide +kernel, fun _ _ => rfl⟩
theorem p56_24 : ps_pu 56 24 (.irem) 25 := (by decide +kernel : ps_i 56 24 = some (.irem, 25))
theorem p56_25 : ps_b 56 25 (· + ·) 26 := ⟨.iadd, by decide +kernel, fun _ _ => rfl⟩
theorem p56_26 : ps_vV 56 26 3 57 1 29 := ⟨81, 57, by decide +kernel, by decide +kernel, by decide +kernel, by decide +kernel, by decide +kernel⟩
theorem p56_29 : ps_ld 56 29 2 30 := ⟨.iload_n 2, by decide +kernel, fun _ _ => rfl⟩
theorem p56_30 : ps_k 56 30 (Int32.ofNat 128) 33 := ⟨.sipush 128, by decide +kernel, fun _ _ => rfl⟩
theorem p56_33 : ps_pu 56 33 (.idiv) 34 := (by decide +kernel : ps_i 56 33 = some (.idiv, 34))
theorem p56_34 : ps_si 56 34 2 35 := ⟨.istore_n 2, by decide +kernel, fun _ _ => rfl⟩
theorem p56_35 : ps_pu 56 35 (.iinc 3 ((1 : Nat) : Int)) 38 := (by decide +kernel : ps_i 56 35 = some (.iinc 3 ((1 : Nat) : Int), 38))
theorem p56_38 : ps_jg 56 38 4 := ⟨(-34), 41, by decide +kernel, by decide +kernel, by decide +kernel⟩
theorem p56_41 : ps_la 56 41 0 42 := ⟨.aload_n 0, by decide +kernel, fun _ _ => rfl⟩
theorem p56_42 : ps_ld 56 42 2 43 := ⟨.iload_n 2, by decide +kernel, fun _ _ => rfl⟩
theorem p56_43 : ps_vV 56 43 3 57 1 46 := ⟨81, 57, by decide +kernel, by decide +kernel, by decide +kernel, by decide +kernel, by decide +kernel⟩
theorem p56_46 : ps_pu 56 46 (.return_) 47 := (by decide +kernel : ps_i 56 46 = some (.return_, 47))
theorem e56 : ∀ v0 v1 : Value, pm_ent 56 [v0, v1] = [some v0, some v1, none, none] := fun _ _ => rfl
theorem l56 : 2 ≤ pm_mx 56 := by decide +kernel
theorem t56 : pm_ret 56 = none := by decide +kernel
theorem p57_0 : ps_la 57 0 0 1 := ⟨.aload_n 0, by decide +kernel, fun _ _ => rfl⟩
theorem p57_1 : ps_gf 57 1 3 1 4 := ⟨15, 16, by decide +kernel, by decide +kernel, by decide +kernel⟩
theorem p57_4 : ps_la 57 4 0 5 := ⟨.aload_n 0, by decide +kernel, fun _ _ => rfl⟩
theorem p57_5 : ps_gf 57 5 3 0 8 := ⟨9, 15, by decide +kernel, by decide +kernel, by decide +kernel⟩
theorem p57_8 : ps_pu 57 8 (.arraylength) 9 := (by decide +kernel : ps_i 57 8 = some (.arraylength, 9))
theorem p57_9 : ps_j 57 9 .ge 22 12 := ⟨13, by decide +kernel, by decide +kernel, by decide +kernel⟩
theorem p57_12 : ps_la 57 12 0 13 := ⟨.aload_n 0, by decide +kernel, fun _ _ => rfl⟩
theorem p57_13 : ps_gf 57 13 3 0 16 := ⟨9, 15, by decide +kernel, by decide +kernel, by decide +kernel⟩
theorem p57_16 : ps_la 57 16 0 17 := ⟨.aload_n 0, by decide +kernel, fun _ _ => rfl⟩
theorem p57_17 : ps_gf 57 17 3 1 20 := ⟨15, 16, by decide +kernel, by decide +kernel, by decide +kernel⟩
theorem p57_20 : ps_ld 57 20 1 21 := ⟨.iload_n 1, by decide +kernel, fun _ _ => rfl⟩
theorem p57_21 : ps_pu 57 21 (.iastore) 22 := (by decide +kernel : ps_i 57 21 = some (.iastore, 22))
theorem p57_22 : ps_la 57 22 0 23 := ⟨.aload_n 0, by decide +kernel, fun _ _ => rfl⟩
theorem p57_23 : ps_pu 57 23 (.dup) 24 := (by decide +kernel : ps_i 57 23 = some (.dup, 24))
theorem p57_24 : ps_gf 57 24 3 1 27 := ⟨15, 16, by decide +kernel, by decide +kernel, by decide +kernel⟩
theorem p57_27 : ps_k 57 27 (Int32.ofNat 1) 28 := ⟨.iconst 1, by decide +kernel, fun _ _ => rfl⟩
theorem p57_28 : ps_b 57 28 (· + ·) 29 := ⟨.iadd, by decide +kernel, fun _ _ => rfl⟩
theorem p57_29 : ps_pf 57 29 3 1 (.int) 32 := ⟨15, 16, by decide +kernel, by decide +kernel, by decide +kernel, by decide +kernel, by decide +kernel⟩
theorem p57_32 : ps_pu 57 32 (.return_) 33 := (by decide +kernel : ps_i 57 32 = some (.return_, 33))
theorem e57 : ∀ v0 v1 : Value, pm_ent 57 [v0, v1] = [some v0, some v1] := fun _ _ => rfl
theorem l57 : 2 ≤ pm_mx 57 := by decide +kernel
theorem t57 : pm_ret 57 = none := by decide +kernel
theorem p58_0 : ps_k 58 0 (Int32.ofNat 0) 1 := ⟨.iconst 0, by decide +kernel, fun _ _ => rfl⟩
theorem p58_1 : ps_si 58 1 3 2 := ⟨.istore_n 3, by decide +kernel, fun _ _ => rfl⟩
theorem p58_2 : ps_k 58 2 (Int32.ofNat 0) 3 := ⟨.iconst 0, by decide +kernel, fun _ _ => rfl⟩
theorem p58_3 : ps_si 58 3 4 5 := ⟨.istore 4, by decide +kernel, fun _ _ => rfl⟩
theorem p58_5 : ps_ld 58 5 4 7 := ⟨.iload 4, by decide +kernel, fun _ _ => rfl⟩
theorem p58_7 : ps_la 58 7 2 8 := ⟨.aload_n 2, by decide +kernel, fun _ _ => rfl⟩
theorem p58_8 : ps_vV 58 8 2 8 0 11 := ⟨28, 8, by decide +kernel, by decide +kernel, by decide +kernel, by decide +kernel, by decide +kernel⟩
theorem p58_11 : ps_j 58 11 .ge 45 14 := ⟨34, by decide +kernel, by decide +kernel, by decide +kernel⟩
theorem p58_14 : ps_ld 58 14 3 15 := ⟨.iload_n 3, by decide +kernel, fun _ _ => rfl⟩
theorem p58_15 : ps_la 58 15 2 16 := ⟨.aload_n 2, by decide +kernel, fun _ _ => rfl⟩
theorem p58_16 : ps_ld 58 16 4 18 := ⟨.iload 4, by decide +kernel, fun _ _ => rfl⟩
theorem p58_18 : ps_vV 58 18 2 9 1 21 := ⟨38, 9, by decide +kernel, by decide +kernel, by decide +kernel, by decide +kernel, by decide +kernel⟩
theorem p58_21 : ps_ck 58 21 5 24 := ⟨42, by decide +kernel, by decide +kernel⟩
theorem p58_24 : ps_gf 58 24 5 2 27 := ⟨52, 21, by decide +kernel, by decide +kernel, by decide +kernel⟩
theorem p58_27 : ps_ld 58 27 1 28 := ⟨.iload_n 1, by decide +kernel, fun _ _ => rfl⟩
theorem p58_28 : ps_pu 58 28 (.iaload) 29 := (by decide +kernel : ps_i 58 28 = some (.iaload, 29))
theorem p58_29 : ps_j0 58 29 .eq 36 32 := ⟨7, by decide +kernel, by decide +kernel, by decide +kernel⟩
theorem p58_32 : ps_k 58 32 (Int32.ofNat 1) 33 := ⟨.iconst 1, by decide +kernel, fun _ _ => rfl⟩
theorem p58_33 : ps_jg 58 33 37 := ⟨(4), 36, by decide +kernel, by decide +kernel, by decide +kernel⟩
theorem p58_36 : ps_k 58 36 (Int32.ofNat 0) 37 := ⟨.iconst 0, by decide +kernel, fun _ _ => rfl⟩
theorem p58_37 : ps_b 58 37 (· + ·) 38 := ⟨.iadd, by decide +kernel, fun _ _ => rfl⟩
theorem p58_38 : ps_si 58 38 3 39 := ⟨.istore_n 3, by decide +kernel, fun _ _ => rfl⟩
theorem p58_39 : ps_pu 58 39 (.iinc 4 ((1 : Nat) : Int)) 42 := (by decide +kernel : ps_i 58 39 = some (.iinc 4 ((1 : Nat) : Int), 42))
theorem p58_42 : ps_jg 58 42 5 := ⟨(-37), 45, by decide +kernel, by decide +kernel, by decide +kernel⟩
theorem p58_45 : ps_ld 58 45 3 46 := ⟨.iload_n 3, by decide +kernel, fun _ _ => rfl⟩
theorem p58_46 : ps_j0 58 46 .ne 50 49 := ⟨4, by decide +kernel, by decide +kernel, by decide +kernel⟩
theorem p58_49 : ps_pu 58 49 (.return_) 50 := (by decide +kernel : ps_i 58 49 = some (.return_, 50))
theorem p58_50 : ps_la 58 50 0 51 := ⟨.aload_n 0, by decide +kernel, fun _ _ => rfl⟩
theorem p58_51 : ps_ld 58 51 1 52 := ⟨.iload_n 1, by decide +kernel, fun _ _ => rfl⟩
theorem p58_52 : ps_vV 58 52 3 56 1 55 := ⟨34, 56, by decide +kernel, by decide +kernel, by decide +kernel, by decide +kernel, by decide +kernel⟩
theorem p58_55 : ps_la 58 55 0 56 := ⟨.aload_n 0, by decide +kernel, fun _ _ => rfl⟩
theorem p58_56 : ps_ld 58 56 3 57 := ⟨.iload_n 3, by decide +kernel, fun _ _ => rfl⟩
theorem p58_57 : ps_vV 58 57 3 56 1 60 := ⟨34, 56, by decide +kernel, by decide +kernel, by decide +kernel, by decide +kernel, by decide +kernel⟩
theorem p58_60 : ps_k 58 60 (Int32.ofNat 0) 61 := ⟨.iconst 0, by decide +kernel, fun _ _ => rfl⟩
theorem p58_61 : ps_si 58 61 4 63 := ⟨.istore 4, by decide +kernel, fun _ _ => rfl⟩
theorem p58_63 : ps_k 58 63 (Int32.ofNat 0) 64 := ⟨.iconst 0, by decide +kernel, fun _ _ => rfl⟩
theorem p58_64 : ps_si 58 64 5 66 := ⟨.istore 5, by decide +kernel, fun _ _ => rfl⟩
theorem p58_66 : ps_ld 58 66 5 68 := ⟨.iload 5, by decide +kernel, fun _ _ => rfl⟩
theorem p58_68 : ps_la 58 68 2 69 := ⟨.aload_n 2, by decide +kernel, fun _ _ => rfl⟩
theorem p58_69 : ps_vV 58 69 2 8 0 72 := ⟨28, 8, by decide +kernel, by decide +kernel, by decide +kernel, by decide +kernel, by decide +kernel⟩
theorem p58_72 : ps_j 58 72 .ge 121 75 := ⟨49, by decide +kernel, by decide +kernel, by decide +kernel⟩
theorem p58_75 : ps_la 58 75 2 76 := ⟨.aload_n 2, by decide +kernel, fun _ _ => rfl⟩
theorem p58_76 : ps_ld 58 76 5 78 := ⟨.iload 5, by decide +kernel, fun _ _ => rfl⟩
theorem p58_78 : ps_vV 58 78 2 9 1 81 := ⟨38, 9, by decide +kernel, by decide +kernel, by decide +kernel, by decide +kernel, by decide +kernel⟩
theorem p58_81 : ps_ck 58 81 5 84 := ⟨42, by decide +kernel, by decide +kernel⟩
theorem p58_84 : ps_gf 58 84 5 2 87 := ⟨52, 21, by decide +kernel, by decide +kernel, by decide +kernel⟩
theorem p58_87 : ps_ld 58 87 1 88 := ⟨.iload_n 1, by decide +kernel, fun _ _ => rfl⟩
theorem p58_88 : ps_pu 58 88 (.iaload) 89 := (by decide +kernel : ps_i 58 88 = some (.iaload, 89))
theorem p58_89 : ps_si 58 89 6 91 := ⟨.istore 6, by decide +kernel, fun _ _ => rfl⟩
theorem p58_91 : ps_ld 58 91 6 93 := ⟨.iload 6, by decide +kernel, fun _ _ => rfl⟩
theorem p58_93 : ps_j0 58 93 .eq 115 96 := ⟨22, by decide +kernel, by decide +kernel, by decide +kernel⟩
theorem p58_96 : ps_la 58 96 0 97 := ⟨.aload_n 0, by decide +kernel, fun _ _ => rfl⟩
theorem p58_97 : ps_ld 58 97 5 99 := ⟨.iload 5, by decide +kernel, fun _ _ => rfl⟩
theorem p58_99 : ps_ld 58 99 4 101 := ⟨.iload 4, by decide +kernel, fun _ _ => rfl⟩
theorem p58_101 : ps_b 58 101 (· - ·) 102 := ⟨.isub, by decide +kernel, fun _ _ => rfl⟩
theorem p58_102 : ps_vV 58 102 3 56 1 105 := ⟨34, 56, by decide +kernel, by decide +kernel, by decide +kernel, by decide +kernel, by decide +kernel⟩
theorem p58_105 : ps_la 58 105 0 106 := ⟨.aload_n 0, by decide +kernel, fun _ _ => rfl⟩
theorem p58_106 : ps_ld 58 106 6 108 := ⟨.iload 6, by decide +kernel, fun _ _ => rfl⟩
theorem p58_108 : ps_vV 58 108 3 59 1 111 := ⟨55, 59, by decide +kernel, by decide +kernel, by decide +kernel, by decide +kernel, by decide +kernel⟩
theorem p58_111 : ps_ld 58 111 5 113 := ⟨.iload 5, by decide +kernel, fun _ _ => rfl⟩
theorem p58_113 : ps_si 58 113 4 115 := ⟨.istore 4, by decide +kernel, fun _ _ => rfl⟩
theorem p58_115 : ps_pu 58 115 (.iinc 5 ((1 : Nat) : Int)) 118 := (by decide +kernel : ps_i 58 115 = some (.iinc 5 ((1 : Nat) : Int), 118))
theorem p58_118 : ps_jg 58 118 66 := ⟨(-52), 121, by decide +kernel, by decide +kernel, by decide +kernel⟩
theorem p58_121 : ps_pu 58 121 (.return_) 122 := (by decide +kernel : ps_i 58 121 = some (.return_, 122))
theorem e58 : ∀ v0 v1 v2 : Value, pm_ent 58 [v0, v1, v2] = [some v0, some v1, some v2, none, none, none, none] := fun _ _ _ => rfl
theorem l58 : 3 ≤ pm_mx 58 := by decide +kernel
theorem t58 : pm_ret 58 = none := by decide +kernel
theorem p59_0 : ps_la 59 0 0 1 := ⟨.aload_n 0, by decide +kernel, fun _ _ => rfl⟩
theorem p59_1 : ps_ld 59 1 1 2 := ⟨.iload_n 1, by decide +kernel, fun _ _ => rfl⟩
theorem p59_2 : ps_vS 59 2 60 1 5 := ⟨58, by decide +kernel, by decide +kernel, by decide +kernel, by decide +kernel⟩
theorem p59_5 : ps_vV 59 5 3 56 1 8 := ⟨34, 56, by decide +kernel, by decide +kernel, by decide +kernel, by decide +kernel, by decide +kernel⟩
theorem p59_8 : ps_k 59 8 (Int32.ofNat 0) 9 := ⟨.iconst 0, by decide +kernel, fun _ _ => rfl⟩
theorem p59_9 : ps_si 59 9 2 10 := ⟨.istore_n 2, by decide +kernel, fun _ _ => rfl⟩
theorem p59_10 : ps_k 59 10 (Int32.ofNat 0) 11 := ⟨.iconst 0, by decide +kernel, fun _ _ => rfl⟩
theorem p59_11 : ps_si 59 11 3 12 := ⟨.istore_n 3, by decide +kernel, fun _ _ => rfl⟩
theorem p59_12 : ps_ld 59 12 3 13 := ⟨.iload_n 3, by decide +kernel, fun _ _ => rfl⟩
theorem p59_13 : ps_k 59 13 (Int32.ofNat 8) 15 := ⟨.bipush 8, by decide +kernel, fun _ _ => rfl⟩
theorem p59_15 : ps_j 59 15 .ge 41 18 := ⟨26, by decide +kernel, by decide +kernel, by decide +kernel⟩
theorem p59_18 : ps_ld 59 18 1 19 := ⟨.iload_n 1, by decide +kernel, fun _ _ => rfl⟩
theorem p59_19 : ps_ld 59 19 3 20 := ⟨.iload_n 3, by decide +kernel, fun _ _ => rfl⟩
theorem p59_20 : ps_b 59 20 (fun x y => x >>> (y &&& 31)) 21 := ⟨.ishr, by decide +kernel, fun _ _ => rfl⟩
theorem p59_21 : ps_k 59 21 (Int32.ofNat 1) 22 := ⟨.iconst 1, by decide +kernel, fun _ _ => rfl⟩
theorem p59_22 : ps_b 59 22 (· &&& ·) 23 := ⟨.iand, by decide +kernel, fun _ _ => rfl⟩
theorem p59_23 : ps_j0 59 23 .eq 35 26 := ⟨12, by decide +kernel, by decide +kernel, by decide +kernel⟩
theorem p59_26 : ps_la 59 26 0 27 := ⟨.aload_n 0, by decide +kernel, fun _ _ => rfl⟩
theorem p59_27 : ps_ld 59 27 3 28 := ⟨.iload_n 3, by decide +kernel, fun _ _ => rfl⟩
theorem p59_28 : ps_ld 59 28 2 29 := ⟨.iload_n 2, by decide +kernel, fun _ _ => rfl⟩
theorem p59_29 : ps_b 59 29 (· - ·) 30 := ⟨.isub, by decide +kernel, fun _ _ => rfl⟩
theorem p59_30 : ps_vV 59 30 3 56 1 33 := ⟨34, 56, by decide +kernel, by decide +kernel, by decide +kernel, by decide +kernel, by decide +kernel⟩
theorem p59_33 : ps_ld 59 33 3 34 := ⟨.iload_n 3, by decide +kernel, fun _ _ => rfl⟩
theorem p59_34 : ps_si 59 34 2 35 := ⟨.istore_n 2, by decide +kernel, fun _ _ => rfl⟩
theorem p59_35 : ps_pu 59 35 (.iinc 3 ((1 : Nat) : Int)) 38 := (by decide +kernel : ps_i 59 35 = some (.iinc 3 ((1 : Nat) : Int), 38))
theorem p59_38 : ps_jg 59 38 12 := ⟨(-26), 41, by decide +kernel, by decide +kernel, by decide +kernel⟩
theorem p59_41 : ps_pu 59 41 (.return_) 42 := (by decide +kernel : ps_i 59 41 = some (.return_, 42))
theorem e59 : ∀ v0 v1 : Value, pm_ent 59 [v0, v1] = [some v0, some v1, none, none] := fun _ _ => rfl
theorem l59 : 2 ≤ pm_mx 59 := by decide +kernel
theorem t59 : pm_ret 59 = none := by decide +kernel
theorem p60_0 : ps_ld 60 0 0 1 := ⟨.iload_n 0, by decide +kernel, fun _ _ => rfl⟩
theorem p60_1 : ps_ld 60 1 0 2 := ⟨.iload_n 0, by decide +kernel, fun _ _ => rfl⟩
theorem p60_2 : ps_k 60 2 (Int32.ofNat 1) 3 := ⟨.iconst 1, by decide +kernel, fun _ _ => rfl⟩
theorem p60_3 : ps_b 60 3 (fun x y => (x.toUInt32 >>> (y.toUInt32 &&& Int32.toUInt32 31)).toInt32) 4 := ⟨.iushr, by decide +kernel, fun _ _ => rfl⟩
theorem p60_4 : ps_pu 60 4 (.ldc_w 265) 7 := (by decide +kernel : ps_i 60 4 = some (.ldc_w 265, 7))
theorem p60_7 : ps_b 60 7 (· &&& ·) 8 := ⟨.iand, by decide +kernel, fun _ _ => rfl⟩
theorem p60_8 : ps_b 60 8 (· - ·) 9 := ⟨.isub, by decide +kernel, fun _ _ => rfl⟩
theorem p60_9 : ps_si 60 9 0 10 := ⟨.istore_n 0, by decide +kernel, fun _ _ => rfl⟩
theorem p60_10 : ps_ld 60 10 0 11 := ⟨.iload_n 0, by decide +kernel, fun _ _ => rfl⟩
theorem p60_11 : ps_pu 60 11 (.ldc_w 266) 14 := (by decide +kernel : ps_i 60 11 = some (.ldc_w 266, 14))
theorem p60_14 : ps_b 60 14 (· &&& ·) 15 := ⟨.iand, by decide +kernel, fun _ _ => rfl⟩
theorem p60_15 : ps_ld 60 15 0 16 := ⟨.iload_n 0, by decide +kernel, fun _ _ => rfl⟩
theorem p60_16 : ps_k 60 16 (Int32.ofNat 2) 17 := ⟨.iconst 2, by decide +kernel, fun _ _ => rfl⟩
theorem p60_17 : ps_b 60 17 (fun x y => (x.toUInt32 >>> (y.toUInt32 &&& Int32.toUInt32 31)).toInt32) 18 := ⟨.iushr, by decide +kernel, fun _ _ => rfl⟩
theorem p60_18 : ps_pu 60 18 (.ldc_w 266) 21 := (by decide +kernel : ps_i 60 18 = some (.ldc_w 266, 21))
theorem p60_21 : ps_b 60 21 (· &&& ·) 22 := ⟨.iand, by decide +kernel, fun _ _ => rfl⟩
theorem p60_22 : ps_b 60 22 (· + ·) 23 := ⟨.iadd, by decide +kernel, fun _ _ => rfl⟩
theorem p60_23 : ps_si 60 23 0 24 := ⟨.istore_n 0, by decide +kernel, fun _ _ => rfl⟩
theorem p60_24 : ps_ld 60 24 0 25 := ⟨.iload_n 0, by decide +kernel, fun _ _ => rfl⟩
theorem p60_25 : ps_ld 60 25 0 26 := ⟨.iload_n 0, by decide +kernel, fun _ _ => rfl⟩
theorem p60_26 : ps_k 60 26 (Int32.ofNat 4) 27 := ⟨.iconst 4, by decide +kernel, fun _ _ => rfl⟩
theorem p60_27 : ps_b 60 27 (fun x y => (x.toUInt32 >>> (y.toUInt32 &&& Int32.toUInt32 31)).toInt32) 28 := ⟨.iushr, by decide +kernel, fun _ _ => rfl⟩
theorem p60_28 : ps_b 60 28 (· + ·) 29 := ⟨.iadd, by decide +kernel, fun _ _ => rfl⟩
theorem p60_29 : ps_pu 60 29 (.ldc_w 267) 32 := (by decide +kernel : ps_i 60 29 = some (.ldc_w 267, 32))
theorem p60_32 : ps_b 60 32 (· &&& ·) 33 := ⟨.iand, by decide +kernel, fun _ _ => rfl⟩
theorem p60_33 : ps_si 60 33 0 34 := ⟨.istore_n 0, by decide +kernel, fun _ _ => rfl⟩
theorem p60_34 : ps_ld 60 34 0 35 := ⟨.iload_n 0, by decide +kernel, fun _ _ => rfl⟩
theorem p60_35 : ps_ld 60 35 0 36 := ⟨.iload_n 0, by decide +kernel, fun _ _ => rfl⟩
theorem p60_36 : ps_k 60 36 (Int32.ofNat 8) 38 := ⟨.bipush 8, by decide +kernel, fun _ _ => rfl⟩
theorem p60_38 : ps_b 60 38 (fun x y => (x.toUInt32 >>> (y.toUInt32 &&& Int32.toUInt32 31)).toInt32) 39 := ⟨.iushr, by decide +kernel, fun _ _ => rfl⟩
theorem p60_39 : ps_b 60 39 (· + ·) 40 := ⟨.iadd, by decide +kernel, fun _ _ => rfl⟩
theorem p60_40 : ps_si 60 40 0 41 := ⟨.istore_n 0, by decide +kernel, fun _ _ => rfl⟩
theorem p60_41 : ps_ld 60 41 0 42 := ⟨.iload_n 0, by decide +kernel, fun _ _ => rfl⟩
theorem p60_42 : ps_ld 60 42 0 43 := ⟨.iload_n 0, by decide +kernel, fun _ _ => rfl⟩
theorem p60_43 : ps_k 60 43 (Int32.ofNat 16) 45 := ⟨.bipush 16, by decide +kernel, fun _ _ => rfl⟩
theorem p60_45 : ps_b 60 45 (fun x y => (x.toUInt32 >>> (y.toUInt32 &&& Int32.toUInt32 31)).toInt32) 46 := ⟨.iushr, by decide +kernel, fun _ _ => rfl⟩
theorem p60_46 : ps_b 60 46 (· + ·) 47 := ⟨.iadd, by decide +kernel, fun _ _ => rfl⟩
theorem p60_47 : ps_si 60 47 0 48 := ⟨.istore_n 0, by decide +kernel, fun _ _ => rfl⟩
theorem p60_48 : ps_ld 60 48 0 49 := ⟨.iload_n 0, by decide +kernel, fun _ _ => rfl⟩
theorem p60_49 : ps_k 60 49 (Int32.ofNat 63) 51 := ⟨.bipush 63, by decide +kernel, fun _ _ => rfl⟩
theorem p60_51 : ps_b 60 51 (· &&& ·) 52 := ⟨.iand, by decide +kernel, fun _ _ => rfl⟩
theorem p60_52 : ps_pu 60 52 (.ireturn) 53 := (by decide +kernel : ps_i 60 52 = some (.ireturn, 53))
theorem e60 : ∀ v0 : Value, pm_ent 60 [v0] = [some v0] := fun _ => rfl
theorem l60 : 1 ≤ pm_mx 60 := by decide +kernel
theorem t60 : pm_ret 60 = (some .int) := by decide +kernel
theorem p61_0 : ps_la 61 0 0 1 := ⟨.aload_n 0, by decide +kernel, fun _ _ => rfl⟩
theorem p61_1 : ps_vN 61 1 2 4 := ⟨.invokespecial 3, by decide +kernel, fun _ _ => rfl, fun _ => rfl, fun _ _ _ => rfl, by decide +kernel⟩
theorem p61_4 : ps_la 61 4 0 5 := ⟨.aload_n 0, by decide +kernel, fun _ _ => rfl⟩
theorem p61_5 : ps_la 61 5 1 6 := ⟨.aload_n 1, by decide +kernel, fun _ _ => rfl⟩
theorem p61_6 : ps_gf 61 6 3 0 9 := ⟨9, 15, by decide +kernel, by decide +kernel, by decide +kernel⟩
theorem p61_9 : ps_la 61 9 1 10 := ⟨.aload_n 1, by decide +kernel, fun _ _ => rfl⟩
theorem p61_10 : ps_gf 61 10 3 1 13 := ⟨15, 16, by decide +kernel, by decide +kernel, by decide +kernel⟩
theorem p61_13 : ps_vS 61 13 62 2 16 := ⟨19, by decide +kernel, by decide +kernel, by decide +kernel, by decide +kernel⟩
theorem p61_16 : ps_pf 61 16 3 0 (.array .int) 19 := ⟨9, 15, by decide +kernel, by decide +kernel, by decide +kernel, by decide +kernel, by decide +kernel⟩
theorem p61_19 : ps_la 61 19 0 20 := ⟨.aload_n 0, by decide +kernel, fun _ _ => rfl⟩
theorem p61_20 : ps_la 61 20 1 21 := ⟨.aload_n 1, by decide +kernel, fun _ _ => rfl⟩
theorem p61_21 : ps_gf 61 21 3 1 24 := ⟨15, 16, by decide +kernel, by decide +kernel, by decide +kernel⟩
theorem p61_24 : ps_pf 61 24 3 1 (.int) 27 := ⟨15, 16, by decide +kernel, by decide +kernel, by decide +kernel, by decide +kernel, by decide +kernel⟩
theorem p61_27 : ps_pu 61 27 (.return_) 28 := (by decide +kernel : ps_i 61 27 = some (.return_, 28))
theorem e61 : ∀ v0 v1 : Value, pm_ent 61 [v0, v1] = [some v0, some v1] := fun _ _ => rfl
theorem l61 : 2 ≤ pm_mx 61 := by decide +kernel
theorem t61 : pm_ret 61 = none := by decide +kernel
theorem p62_0 : ps_ld 62 0 1 1 := ⟨.iload_n 1, by decide +kernel, fun _ _ => rfl⟩
theorem p62_1 : ps_la 62 1 0 2 := ⟨.aload_n 0, by decide +kernel, fun _ _ => rfl⟩
theorem p62_2 : ps_pu 62 2 (.arraylength) 3 := (by decide +kernel : ps_i 62 2 = some (.arraylength, 3))
theorem p62_3 : ps_j 62 3 .ne 14 6 := ⟨11, by decide +kernel, by decide +kernel, by decide +kernel⟩
theorem p62_6 : ps_la 62 6 0 7 := ⟨.aload_n 0, by decide +kernel, fun _ _ => rfl⟩
theorem p62_7 : ps_vN 62 7 4 10 := ⟨.invokevirtual 316, by decide +kernel, fun _ _ => rfl, fun _ => rfl, fun _ _ _ => rfl, by decide +kernel⟩
theorem p62_10 : ps_cki 62 10 13 := ⟨317, by decide +kernel, by decide +kernel⟩
theorem p62_13 : ps_pu 62 13 (.areturn) 14 := (by decide +kernel : ps_i 62 13 = some (.areturn, 14))
theorem p62_14 : ps_ld 62 14 1 15 := ⟨.iload_n 1, by decide +kernel, fun _ _ => rfl⟩
theorem p62_15 : ps_pu 62 15 (.newarray .int) 17 := (by decide +kernel : ps_i 62 15 = some (.newarray .int, 17))
theorem p62_17 : ps_sa 62 17 2 18 := ⟨.astore_n 2, by decide +kernel, fun _ _ => rfl⟩
theorem p62_18 : ps_la 62 18 0 19 := ⟨.aload_n 0, by decide +kernel, fun _ _ => rfl⟩
theorem p62_19 : ps_k 62 19 (Int32.ofNat 0) 20 := ⟨.iconst 0, by decide +kernel, fun _ _ => rfl⟩
theorem p62_20 : ps_la 62 20 2 21 := ⟨.aload_n 2, by decide +kernel, fun _ _ => rfl⟩
theorem p62_21 : ps_k 62 21 (Int32.ofNat 0) 22 := ⟨.iconst 0, by decide +kernel, fun _ _ => rfl⟩
theorem p62_22 : ps_la 62 22 0 23 := ⟨.aload_n 0, by decide +kernel, fun _ _ => rfl⟩
theorem p62_23 : ps_pu 62 23 (.arraylength) 24 := (by decide +kernel : ps_i 62 23 = some (.arraylength, 24))
theorem p62_24 : ps_ld 62 24 1 25 := ⟨.iload_n 1, by decide +kernel, fun _ _ => rfl⟩
theorem p62_25 : ps_vN 62 25 1 28 := ⟨.invokestatic 304, by decide +kernel, fun _ _ => rfl, fun _ => rfl, fun _ _ _ => rfl, by decide +kernel⟩
theorem p62_28 : ps_vN 62 28 3 31 := ⟨.invokestatic 150, by decide +kernel, fun _ _ => rfl, fun _ => rfl, fun _ _ _ => rfl, by decide +kernel⟩
theorem p62_31 : ps_la 62 31 2 32 := ⟨.aload_n 2, by decide +kernel, fun _ _ => rfl⟩
theorem p62_32 : ps_pu 62 32 (.areturn) 33 := (by decide +kernel : ps_i 62 32 = some (.areturn, 33))
theorem e62 : ∀ v0 v1 : Value, pm_ent 62 [v0, v1] = [some v0, some v1, none] := fun _ _ => rfl
theorem l62 : 2 ≤ pm_mx 62 := by decide +kernel
theorem t62 : ps_isr (pm_ret 62) = true := by decide +kernel
theorem p63_0 : ps_la 63 0 0 1 := ⟨.aload_n 0, by decide +kernel, fun _ _ => rfl⟩
theorem p63_1 : ps_vN 63 1 2 4 := ⟨.invokespecial 1, by decide +kernel, fun _ _ => rfl, fun _ => rfl, fun _ _ _ => rfl, by decide +kernel⟩
theorem p63_4 : ps_la 63 4 0 5 := ⟨.aload_n 0, by decide +kernel, fun _ _ => rfl⟩
theorem p63_5 : ps_ld 63 5 1 6 := ⟨.iload_n 1, by decide +kernel, fun _ _ => rfl⟩
theorem p63_6 : ps_pf 63 6 6 0 (.int) 9 := ⟨7, 24, by decide +kernel, by decide +kernel, by decide +kernel, by decide +kernel, by decide +kernel⟩
theorem p63_9 : ps_la 63 9 0 10 := ⟨.aload_n 0, by decide +kernel, fun _ _ => rfl⟩
theorem p63_10 : ps_la 63 10 2 11 := ⟨.aload_n 2, by decide +kernel, fun _ _ => rfl⟩
theorem p63_11 : ps_pf 63 11 6 1 (.object "java/util/ArrayList") 14 := ⟨13, 25, by decide +kernel, by decide +kernel, by decide +kernel, by decide +kernel, by decide +kernel⟩
theorem p63_14 : ps_la 63 14 0 15 := ⟨.aload_n 0, by decide +kernel, fun _ _ => rfl⟩
theorem p63_15 : ps_la 63 15 3 16 := ⟨.aload_n 3, by decide +kernel, fun _ _ => rfl⟩
theorem p63_16 : ps_pf 63 16 6 2 (.object "PostingShelf$ByteRow") 19 := ⟨17, 26, by decide +kernel, by decide +kernel, by decide +kernel, by decide +kernel, by decide +kernel⟩
theorem p63_19 : ps_pu 63 19 (.return_) 20 := (by decide +kernel : ps_i 63 19 = some (.return_, 20))
theorem e63 : ∀ v0 v1 v2 v3 : Value, pm_ent 63 [v0, v1, v2, v3] = [some v0, some v1, some v2, some v3] := fun _ _ _ _ => rfl
theorem l63 : 4 ≤ pm_mx 63 := by decide +kernel
theorem t63 : pm_ret 63 = none := by decide +kernel
theorem p64_0 : ps_la 64 0 0 1 := ⟨.aload_n 0, by decide +kernel, fun _ _ => rfl⟩
theorem p64_1 : ps_gf 64 1 4 1 4 := ⟨23, 18, by decide +kernel, by decide +kernel, by decide +kernel⟩
theorem p64_4 : ps_vV 64 4 3 55 0 7 := ⟨44, 55, by decide +kernel, by decide +kernel, by decide +kernel, by decide +kernel, by decide +kernel⟩
theorem p64_7 : ps_la 64 7 0 8 := ⟨.aload_n 0, by decide +kernel, fun _ _ => rfl⟩
theorem p64_8 : ps_gf 64 8 4 1 11 := ⟨23, 18, by decide +kernel, by decide +kernel, by decide +kernel⟩
theorem p64_11 : ps_la 64 11 0 12 := ⟨.aload_n 0, by decide +kernel, fun _ _ => rfl⟩
theorem p64_12 : ps_gf 64 12 4 0 15 := ⟨12, 17, by decide +kernel, by decide +kernel, by decide +kernel⟩
theorem p64_15 : ps_vV 64 15 2 8 0 18 := ⟨31, 8, by decide +kernel, by decide +kernel, by decide +kernel, by decide +kernel, by decide +kernel⟩
theorem p64_18 : ps_vV 64 18 3 56 1 21 := ⟨47, 56, by decide +kernel, by decide +kernel, by decide +kernel, by decide +kernel, by decide +kernel⟩
theorem p64_21 : ps_k 64 21 (Int32.ofNat 0) 22 := ⟨.iconst 0, by decide +kernel, fun _ _ => rfl⟩
theorem p64_22 : ps_si 64 22 2 23 := ⟨.istore_n 2, by decide +kernel, fun _ _ => rfl⟩
theorem p64_23 : ps_ld 64 23 2 24 := ⟨.iload_n 2, by decide +kernel, fun _ _ => rfl⟩
theorem p64_24 : ps_la 64 24 0 25 := ⟨.aload_n 0, by decide +kernel, fun _ _ => rfl⟩
theorem p64_25 : ps_gf 64 25 4 0 28 := ⟨12, 17, by decide +kernel, by decide +kernel, by decide +kernel⟩
theorem p64_28 : ps_vV 64 28 2 8 0 31 := ⟨31, 8, by decide +kernel, by decide +kernel, by decide +kernel, by decide +kernel, by decide +kernel⟩
theorem p64_31 : ps_j 64 31 .ge 59 34 := ⟨28, by decide +kernel, by decide +kernel, by decide +kernel⟩
theorem p64_34 : ps_la 64 34 0 35 := ⟨.aload_n 0, by decide +kernel, fun _ _ => rfl⟩
theorem p64_35 : ps_gf 64 35 4 1 38 := ⟨23, 18, by decide +kernel, by decide +kernel, by decide +kernel⟩
theorem p64_38 : ps_la 64 38 0 39 := ⟨.aload_n 0, by decide +kernel, fun _ _ => rfl⟩
theorem p64_39 : ps_gf 64 39 4 0 42 := ⟨12, 17, by decide +kernel, by decide +kernel, by decide +kernel⟩
theorem p64_42 : ps_ld 64 42 2 43 := ⟨.iload_n 2, by decide +kernel, fun _ _ => rfl⟩
theorem p64_43 : ps_vV 64 43 2 9 1 46 := ⟨35, 9, by decide +kernel, by decide +kernel, by decide +kernel, by decide +kernel, by decide +kernel⟩
theorem p64_46 : ps_ck 64 46 6 49 := ⟨39, by decide +kernel, by decide +kernel⟩
theorem p64_49 : ps_ld 64 49 1 50 := ⟨.iload_n 1, by decide +kernel, fun _ _ => rfl⟩
theorem p64_50 : ps_vV 64 50 3 65 2 53 := ⟨50, 65, by decide +kernel, by decide +kernel, by decide +kernel, by decide +kernel, by decide +kernel⟩
theorem p64_53 : ps_pu 64 53 (.iinc 2 ((1 : Nat) : Int)) 56 := (by decide +kernel : ps_i 64 53 = some (.iinc 2 ((1 : Nat) : Int), 56))
theorem p64_56 : ps_jg 64 56 23 := ⟨(-33), 59, by decide +kernel, by decide +kernel, by decide +kernel⟩
theorem p64_59 : ps_pu 64 59 (.return_) 60 := (by decide +kernel : ps_i 64 59 = some (.return_, 60))
theorem e64 : ∀ v0 v1 : Value, pm_ent 64 [v0, v1] = [some v0, some v1, none] := fun _ _ => rfl
theorem l64 : 2 ≤ pm_mx 64 := by decide +kernel
theorem t64 : pm_ret 64 = none := by decide +kernel
theorem p65_0 : ps_la 65 0 1 1 := ⟨.aload_n 1, by decide +kernel, fun _ _ => rfl⟩
theorem p65_1 : ps_gf 65 1 6 1 4 := ⟨64, 25, by decide +kernel, by decide +kernel, by decide +kernel⟩
theorem p65_4 : ps_sa 65 4 3 5 := ⟨.astore_n 3, by decide +kernel, fun _ _ => rfl⟩
theorem p65_5 : ps_la 65 5 0 6 := ⟨.aload_n 0, by decide +kernel, fun _ _ => rfl⟩
theorem p65_6 : ps_la 65 6 1 7 := ⟨.aload_n 1, by decide +kernel, fun _ _ => rfl⟩
theorem p65_7 : ps_gf 65 7 6 0 10 := ⟨70, 24, by decide +kernel, by decide +kernel, by decide +kernel⟩
theorem p65_10 : ps_vV 65 10 3 56 1 13 := ⟨34, 56, by decide +kernel, by decide +kernel, by decide +kernel, by decide +kernel, by decide +kernel⟩
theorem p65_13 : ps_la 65 13 0 14 := ⟨.aload_n 0, by decide +kernel, fun _ _ => rfl⟩
theorem p65_14 : ps_la 65 14 3 15 := ⟨.aload_n 3, by decide +kernel, fun _ _ => rfl⟩
theorem p65_15 : ps_vV 65 15 2 8 0 18 := ⟨28, 8, by decide +kernel, by decide +kernel, by decide +kernel, by decide +kernel, by decide +kernel⟩
theorem p65_18 : ps_la 65 18 1 19 := ⟨.aload_n 1, by decide +kernel, fun _ _ => rfl⟩
theorem p65_19 : ps_ld 65 19 2 20 := ⟨.iload_n 2, by decide +kernel, fun _ _ => rfl⟩
theorem p65_20 : ps_vV 65 20 6 18 1 23 := ⟨73, 18, by decide +kernel, by decide +kernel, by decide +kernel, by decide +kernel, by decide +kernel⟩
theorem p65_23 : ps_b 65 23 (· - ·) 24 := ⟨.isub, by decide +kernel, fun _ _ => rfl⟩
theorem p65_24 : ps_vV 65 24 3 56 1 27 := ⟨34, 56, by decide +kernel, by decide +kernel, by decide +kernel, by decide +kernel, by decide +kernel⟩
theorem p65_27 : ps_k 65 27 (Int32.ofNat 0) 28 := ⟨.iconst 0, by decide +kernel, fun _ _ => rfl⟩
theorem p65_28 : ps_si 65 28 4 30 := ⟨.istore 4, by decide +kernel, fun _ _ => rfl⟩
theorem p65_30 : ps_k 65 30 (Int32.ofNat 0) 31 := ⟨.iconst 0, by decide +kernel, fun _ _ => rfl⟩
theorem p65_31 : ps_si 65 31 5 33 := ⟨.istore 5, by decide +kernel, fun _ _ => rfl⟩
theorem p65_33 : ps_ld 65 33 5 35 := ⟨.iload 5, by decide +kernel, fun _ _ => rfl⟩
theorem p65_35 : ps_la 65 35 3 36 := ⟨.aload_n 3, by decide +kernel, fun _ _ => rfl⟩
theorem p65_36 : ps_vV 65 36 2 8 0 39 := ⟨28, 8, by decide +kernel, by decide +kernel, by decide +kernel, by decide +kernel, by decide +kernel⟩
theorem p65_39 : ps_j 65 39 .ge 77 42 := ⟨38, by decide +kernel, by decide +kernel, by decide +kernel⟩
theorem p65_42 : ps_la 65 42 3 43 := ⟨.aload_n 3, by decide +kernel, fun _ _ => rfl⟩
theorem p65_43 : ps_ld 65 43 5 45 := ⟨.iload 5, by decide +kernel, fun _ _ => rfl⟩
theorem p65_45 : ps_vV 65 45 2 9 1 48 := ⟨38, 9, by decide +kernel, by decide +kernel, by decide +kernel, by decide +kernel, by decide +kernel⟩
theorem p65_48 : ps_ck 65 48 5 51 := ⟨42, by decide +kernel, by decide +kernel⟩
theorem p65_51 : ps_ld 65 51 2 52 := ⟨.iload_n 2, by decide +kernel, fun _ _ => rfl⟩
theorem p65_52 : ps_vV 65 52 5 19 1 55 := ⟨77, 19, by decide +kernel, by decide +kernel, by decide +kernel, by decide +kernel, by decide +kernel⟩
theorem p65_55 : ps_j0 65 55 .eq 71 58 := ⟨16, by decide +kernel, by decide +kernel, by decide +kernel⟩
theorem p65_58 : ps_la 65 58 0 59 := ⟨.aload_n 0, by decide +kernel, fun _ _ => rfl⟩
theorem p65_59 : ps_ld 65 59 5 61 := ⟨.iload 5, by decide +kernel, fun _ _ => rfl⟩
theorem p65_61 : ps_ld 65 61 4 63 := ⟨.iload 4, by decide +kernel, fun _ _ => rfl⟩
theorem p65_63 : ps_b 65 63 (· - ·) 64 := ⟨.isub, by decide +kernel, fun _ _ => rfl⟩
theorem p65_64 : ps_vV 65 64 3 56 1 67 := ⟨34, 56, by decide +kernel, by decide +kernel, by decide +kernel, by decide +kernel, by decide +kernel⟩
theorem p65_67 : ps_ld 65 67 5 69 := ⟨.iload 5, by decide +kernel, fun _ _ => rfl⟩
theorem p65_69 : ps_si 65 69 4 71 := ⟨.istore 4, by decide +kernel, fun _ _ => rfl⟩
theorem p65_71 : ps_pu 65 71 (.iinc 5 ((1 : Nat) : Int)) 74 := (by decide +kernel : ps_i 65 71 = some (.iinc 5 ((1 : Nat) : Int), 74))
theorem p65_74 : ps_jg 65 74 33 := ⟨(-41), 77, by decide +kernel, by decide +kernel, by decide +kernel⟩
theorem p65_77 : ps_pu 65 77 (.return_) 78 := (by decide +kernel : ps_i 65 77 = some (.return_, 78))
theorem e65 : ∀ v0 v1 v2 : Value, pm_ent 65 [v0, v1, v2] = [some v0, some v1, some v2, none, none, none] := fun _ _ _ => rfl
theorem l65 : 3 ≤ pm_mx 65 := by decide +kernel
theorem t65 : pm_ret 65 = none := by decide +kernel
theorem p66_0 : ps_ld 66 0 1 1 := ⟨.iload_n 1, by decide +kernel, fun _ _ => rfl⟩
theorem p66_1 : ps_la 66 1 0 2 := ⟨.aload_n 0, by decide +kernel, fun _ _ => rfl⟩
theorem p66_2 : ps_gf 66 2 0 6 5 := ⟨42, 6, by decide +kernel, by decide +kernel, by decide +kernel⟩
theorem p66_5 : ps_gf 66 5 4 1 8 := ⟨242, 18, by decide +kernel, by decide +kernel, by decide +kernel⟩
theorem p66_8 : ps_gf 66 8 3 1 11 := ⟨231, 16, by decide +kernel, by decide +kernel, by decide +kernel⟩
theorem p66_11 : ps_b 66 11 (· + ·) 12 := ⟨.iadd, by decide +kernel, fun _ _ => rfl⟩
theorem p66_12 : ps_la 66 12 0 13 := ⟨.aload_n 0, by decide +kernel, fun _ _ => rfl⟩
theorem p66_13 : ps_vV 66 13 0 25 0 16 := ⟨258, 25, by decide +kernel, by decide +kernel, by decide +kernel, by decide +kernel, by decide +kernel⟩
theorem p66_16 : ps_j 66 16 .gt 23 19 := ⟨7, by decide +kernel, by decide +kernel, by decide +kernel⟩
theorem p66_19 : ps_k 66 19 (Int32.ofNat 1) 20 := ⟨.iconst 1, by decide +kernel, fun _ _ => rfl⟩
theorem p66_20 : ps_jg 66 20 24 := ⟨(4), 23, by decide +kernel, by decide +kernel, by decide +kernel⟩
theorem p66_23 : ps_k 66 23 (Int32.ofNat 0) 24 := ⟨.iconst 0, by decide +kernel, fun _ _ => rfl⟩
theorem p66_24 : ps_pu 66 24 (.ireturn) 25 := (by decide +kernel : ps_i 66 24 = some (.ireturn, 25))
theorem e66 : ∀ v0 v1 : Value, pm_ent 66 [v0, v1] = [some v0, some v1] := fun _ _ => rfl
theorem l66 : 2 ≤ pm_mx 66 := by decide +kernel
theorem t66 : pm_ret 66 = (some .boolean) := by decide +kernel
theorem p67_0 : ps_ld 67 0 1 1 := ⟨.iload_n 1, by decide +kernel, fun _ _ => rfl⟩
theorem p67_1 : ps_la 67 1 0 2 := ⟨.aload_n 0, by decide +kernel, fun _ _ => rfl⟩
theorem p67_2 : ps_gf 67 2 0 6 5 := ⟨42, 6, by decide +kernel, by decide +kernel, by decide +kernel⟩
theorem p67_5 : ps_gf 67 5 4 1 8 := ⟨242, 18, by decide +kernel, by decide +kernel, by decide +kernel⟩
theorem p67_8 : ps_gf 67 8 3 1 11 := ⟨231, 16, by decide +kernel, by decide +kernel, by decide +kernel⟩
theorem p67_11 : ps_b 67 11 (· + ·) 12 := ⟨.iadd, by decide +kernel, fun _ _ => rfl⟩
theorem p67_12 : ps_si 67 12 2 13 := ⟨.istore_n 2, by decide +kernel, fun _ _ => rfl⟩
theorem p67_13 : ps_la 67 13 0 14 := ⟨.aload_n 0, by decide +kernel, fun _ _ => rfl⟩
theorem p67_14 : ps_gf 67 14 0 8 17 := ⟨49, 8, by decide +kernel, by decide +kernel, by decide +kernel⟩
theorem p67_17 : ps_j0 67 17 .eq 34 20 := ⟨17, by decide +kernel, by decide +kernel, by decide +kernel⟩
theorem p67_20 : ps_ld 67 20 2 21 := ⟨.iload_n 2, by decide +kernel, fun _ _ => rfl⟩
theorem p67_21 : ps_la 67 21 0 22 := ⟨.aload_n 0, by decide +kernel, fun _ _ => rfl⟩
theorem p67_22 : ps_gf 67 22 0 9 25 := ⟨53, 9, by decide +kernel, by decide +kernel, by decide +kernel⟩
theorem p67_25 : ps_j 67 25 .le 34 28 := ⟨9, by decide +kernel, by decide +kernel, by decide +kernel⟩
theorem p67_28 : ps_la 67 28 0 29 := ⟨.aload_n 0, by decide +kernel, fun _ _ => rfl⟩
theorem p67_29 : ps_vV 67 29 0 68 0 32 := ⟨261, 68, by decide +kernel, by decide +kernel, by decide +kernel, by decide +kernel, by decide +kernel⟩
theorem p67_32 : ps_k 67 32 (-1 : Int32) 33 := ⟨.iconst (-1), by decide +kernel, fun _ _ => rfl⟩
theorem p67_33 : ps_pu 67 33 (.ireturn) 34 := (by decide +kernel : ps_i 67 33 = some (.ireturn, 34))
theorem p67_34 : ps_la 67 34 0 35 := ⟨.aload_n 0, by decide +kernel, fun _ _ => rfl⟩
theorem p67_35 : ps_gf 67 35 0 8 38 := ⟨49, 8, by decide +kernel, by decide +kernel, by decide +kernel⟩
theorem p67_38 : ps_j0 67 38 .eq 51 41 := ⟨13, by decide +kernel, by decide +kernel, by decide +kernel⟩
theorem p67_41 : ps_la 67 41 0 42 := ⟨.aload_n 0, by decide +kernel, fun _ _ => rfl⟩
theorem p67_42 : ps_pu 67 42 (.dup) 43 := (by decide +kernel : ps_i 67 42 = some (.dup, 43))
theorem p67_43 : ps_gf 67 43 0 9 46 := ⟨53, 9, by decide +kernel, by decide +kernel, by decide +kernel⟩
theorem p67_46 : ps_ld 67 46 2 47 := ⟨.iload_n 2, by decide +kernel, fun _ _ => rfl⟩
theorem p67_47 : ps_b 67 47 (· - ·) 48 := ⟨.isub, by decide +kernel, fun _ _ => rfl⟩
theorem p67_48 : ps_pf 67 48 0 9 (.int) 51 := ⟨53, 9, by decide +kernel, by decide +kernel, by decide +kernel, by decide +kernel, by decide +kernel⟩
theorem p67_51 : ps_ld 67 51 1 52 := ⟨.iload_n 1, by decide +kernel, fun _ _ => rfl⟩
theorem p67_52 : ps_j0 67 52 .le 65 55 := ⟨13, by decide +kernel, by decide +kernel, by decide +kernel⟩
theorem p67_55 : ps_la 67 55 0 56 := ⟨.aload_n 0, by decide +kernel, fun _ _ => rfl⟩
theorem p67_56 : ps_pu 67 56 (.dup) 57 := (by decide +kernel : ps_i 67 56 = some (.dup, 57))
theorem p67_57 : ps_gf 67 57 0 7 60 := ⟨45, 7, by decide +kernel, by decide +kernel, by decide +kernel⟩
theorem p67_60 : ps_k 67 60 (Int32.ofNat 1) 61 := ⟨.iconst 1, by decide +kernel, fun _ _ => rfl⟩
theorem p67_61 : ps_b 67 61 (· + ·) 62 := ⟨.iadd, by decide +kernel, fun _ _ => rfl⟩
theorem p67_62 : ps_pf 67 62 0 7 (.int) 65 := ⟨45, 7, by decide +kernel, by decide +kernel, by decide +kernel, by decide +kernel, by decide +kernel⟩
theorem p67_65 : ps_la 67 65 0 66 := ⟨.aload_n 0, by decide +kernel, fun _ _ => rfl⟩
theorem p67_66 : ps_gf 67 66 0 5 69 := ⟨38, 5, by decide +kernel, by decide +kernel, by decide +kernel⟩
theorem p67_69 : ps_sa 67 69 3 70 := ⟨.astore_n 3, by decide +kernel, fun _ _ => rfl⟩
theorem p67_70 : ps_la 67 70 0 71 := ⟨.aload_n 0, by decide +kernel, fun _ _ => rfl⟩
theorem p67_71 : ps_la 67 71 0 72 := ⟨.aload_n 0, by decide +kernel, fun _ _ => rfl⟩
theorem p67_72 : ps_gf 67 72 0 6 75 := ⟨42, 6, by decide +kernel, by decide +kernel, by decide +kernel⟩
theorem p67_75 : ps_pf 67 75 0 5 (.object "PostingShelf$Catalog") 78 := ⟨38, 5, by decide +kernel, by decide +kernel, by decide +kernel, by decide +kernel, by decide +kernel⟩
theorem p67_78 : ps_la 67 78 0 79 := ⟨.aload_n 0, by decide +kernel, fun _ _ => rfl⟩
theorem p67_79 : ps_la 67 79 3 80 := ⟨.aload_n 3, by decide +kernel, fun _ _ => rfl⟩
theorem p67_80 : ps_pf 67 80 0 6 (.object "PostingShelf$Catalog") 83 := ⟨42, 6, by decide +kernel, by decide +kernel, by decide +kernel, by decide +kernel, by decide +kernel⟩
theorem p67_83 : ps_ld 67 83 2 84 := ⟨.iload_n 2, by decide +kernel, fun _ _ => rfl⟩
theorem p67_84 : ps_pu 67 84 (.ireturn) 85 := (by decide +kernel : ps_i 67 84 = some (.ireturn, 85))
theorem e67 : ∀ v0 v1 : Value, pm_ent 67 [v0, v1] = [some v0, some v1, none, none] := fun _ _ => rfl
theorem l67 : 2 ≤ pm_mx 67 := by decide +kernel
theorem t67 : pm_ret 67 = (some .int) := by decide +kernel
theorem p68_0 : ps_la 68 0 0 1 := ⟨.aload_n 0, by decide +kernel, fun _ _ => rfl⟩
theorem p68_1 : ps_gf 68 1 0 1 4 := ⟨10, 1, by decide +kernel, by decide +kernel, by decide +kernel⟩
theorem p68_4 : ps_vV 68 4 1 46 0 7 := ⟨110, 46, by decide +kernel, by decide +kernel, by decide +kernel, by decide +kernel, by decide +kernel⟩
theorem p68_7 : ps_la 68 7 0 8 := ⟨.aload_n 0, by decide +kernel, fun _ _ => rfl⟩
theorem p68_8 : ps_gf 68 8 0 4 11 := ⟨32, 4, by decide +kernel, by decide +kernel, by decide +kernel⟩
theorem p68_11 : ps_vV 68 11 2 51 0 14 := ⟨140, 51, by decide +kernel, by decide +kernel, by decide +kernel, by decide +kernel, by decide +kernel⟩
theorem p68_14 : ps_la 68 14 0 15 := ⟨.aload_n 0, by decide +kernel, fun _ _ => rfl⟩
theorem p68_15 : ps_gf 68 15 0 5 18 := ⟨38, 5, by decide +kernel, by decide +kernel, by decide +kernel⟩
theorem p68_18 : ps_vV 68 18 4 69 0 21 := ⟨264, 69, by decide +kernel, by decide +kernel, by decide +kernel, by decide +kernel, by decide +kernel⟩
theorem p68_21 : ps_la 68 21 0 22 := ⟨.aload_n 0, by decide +kernel, fun _ _ => rfl⟩
theorem p68_22 : ps_k 68 22 (Int32.ofNat 0) 23 := ⟨.iconst 0, by decide +kernel, fun _ _ => rfl⟩
theorem p68_23 : ps_pf 68 23 0 8 (.boolean) 26 := ⟨49, 8, by decide +kernel, by decide +kernel, by decide +kernel, by decide +kernel, by decide +kernel⟩
theorem p68_26 : ps_pu 68 26 (.return_) 27 := (by decide +kernel : ps_i 68 26 = some (.return_, 27))
theorem e68 : ∀ v0 : Value, pm_ent 68 [v0] = [some v0] := fun _ => rfl
theorem l68 : 1 ≤ pm_mx 68 := by decide +kernel
theorem t68 : pm_ret 68 = none := by decide +kernel
theorem p69_0 : ps_k 69 0 (Int32.ofNat 0) 1 := ⟨.iconst 0, by decide +kernel, fun _ _ => rfl⟩
theorem p69_1 : ps_si 69 1 1 2 := ⟨.istore_n 1, by decide +kernel, fun _ _ => rfl⟩
theorem p69_2 : ps_ld 69 2 1 3 := ⟨.iload_n 1, by decide +kernel, fun _ _ => rfl⟩
theorem p69_3 : ps_la 69 3 0 4 := ⟨.aload_n 0, by decide +kernel, fun _ _ => rfl⟩
theorem p69_4 : ps_gf 69 4 4 0 7 := ⟨12, 17, by decide +kernel, by decide +kernel, by decide +kernel⟩
theorem p69_7 : ps_vV 69 7 2 8 0 10 := ⟨31, 8, by decide +kernel, by decide +kernel, by decide +kernel, by decide +kernel, by decide +kernel⟩
theorem p69_10 : ps_j 69 10 .ge 62 13 := ⟨52, by decide +kernel, by decide +kernel, by decide +kernel⟩
theorem p69_13 : ps_la 69 13 0 14 := ⟨.aload_n 0, by decide +kernel, fun _ _ => rfl⟩
theorem p69_14 : ps_gf 69 14 4 0 17 := ⟨12, 17, by decide +kernel, by decide +kernel, by decide +kernel⟩
theorem p69_17 : ps_ld 69 17 1 18 := ⟨.iload_n 1, by decide +kernel, fun _ _ => rfl⟩
theorem p69_18 : ps_vV 69 18 2 9 1 21 := ⟨35, 9, by decide +kernel, by decide +kernel, by decide +kernel, by decide +kernel, by decide +kernel⟩
theorem p69_21 : ps_ck 69 21 6 24 := ⟨39, by decide +kernel, by decide +kernel⟩
theorem p69_24 : ps_gf 69 24 6 1 27 := ⟨54, 25, by decide +kernel, by decide +kernel, by decide +kernel⟩
theorem p69_27 : ps_sa 69 27 2 28 := ⟨.astore_n 2, by decide +kernel, fun _ _ => rfl⟩
theorem p69_28 : ps_k 69 28 (Int32.ofNat 0) 29 := ⟨.iconst 0, by decide +kernel, fun _ _ => rfl⟩
theorem p69_29 : ps_si 69 29 3 30 := ⟨.istore_n 3, by decide +kernel, fun _ _ => rfl⟩
theorem p69_30 : ps_ld 69 30 3 31 := ⟨.iload_n 3, by decide +kernel, fun _ _ => rfl⟩
theorem p69_31 : ps_la 69 31 2 32 := ⟨.aload_n 2, by decide +kernel, fun _ _ => rfl⟩
theorem p69_32 : ps_vV 69 32 2 8 0 35 := ⟨31, 8, by decide +kernel, by decide +kernel, by decide +kernel, by decide +kernel, by decide +kernel⟩
theorem p69_35 : ps_j 69 35 .ge 56 38 := ⟨21, by decide +kernel, by decide +kernel, by decide +kernel⟩
theorem p69_38 : ps_la 69 38 2 39 := ⟨.aload_n 2, by decide +kernel, fun _ _ => rfl⟩
theorem p69_39 : ps_ld 69 39 3 40 := ⟨.iload_n 3, by decide +kernel, fun _ _ => rfl⟩
theorem p69_40 : ps_vV 69 40 2 9 1 43 := ⟨35, 9, by decide +kernel, by decide +kernel, by decide +kernel, by decide +kernel, by decide +kernel⟩
theorem p69_43 : ps_ck 69 43 5 46 := ⟨57, by decide +kernel, by decide +kernel⟩
theorem p69_46 : ps_k 69 46 (Int32.ofNat 0) 47 := ⟨.iconst 0, by decide +kernel, fun _ _ => rfl⟩
theorem p69_47 : ps_pf 69 47 5 3 (.boolean) 50 := ⟨84, 22, by decide +kernel, by decide +kernel, by decide +kernel, by decide +kernel, by decide +kernel⟩
theorem p69_50 : ps_pu 69 50 (.iinc 3 ((1 : Nat) : Int)) 53 := (by decide +kernel : ps_i 69 50 = some (.iinc 3 ((1 : Nat) : Int), 53))
theorem p69_53 : ps_jg 69 53 30 := ⟨(-23), 56, by decide +kernel, by decide +kernel, by decide +kernel⟩
theorem p69_56 : ps_pu 69 56 (.iinc 1 ((1 : Nat) : Int)) 59 := (by decide +kernel : ps_i 69 56 = some (.iinc 1 ((1 : Nat) : Int), 59))
theorem p69_59 : ps_jg 69 59 2 := ⟨(-57), 62, by decide +kernel, by decide +kernel, by decide +kernel⟩
theorem p69_62 : ps_pu 69 62 (.return_) 63 := (by decide +kernel : ps_i 69 62 = some (.return_, 63))
theorem e69 : ∀ v0 : Value, pm_ent 69 [v0] = [some v0, none, none, none] := fun _ => rfl
theorem l69 : 1 ≤ pm_mx 69 := by decide +kernel
theorem t69 : pm_ret 69 = none := by decide +kernel
theorem p70_0 : ps_k 70 0 (Int32.ofNat 0) 1 := ⟨.iconst 0, by decide +kernel, fun _ _ => rfl⟩
theorem p70_1 : ps_si 70 1 1 2 := ⟨.istore_n 1, by decide +kernel, fun _ _ => rfl⟩
theorem p70_2 : ps_ld 70 2 1 3 := ⟨.iload_n 1, by decide +kernel, fun _ _ => rfl⟩
theorem p70_3 : ps_la 70 3 0 4 := ⟨.aload_n 0, by decide +kernel, fun _ _ => rfl⟩
theorem p70_4 : ps_gf 70 4 4 0 7 := ⟨12, 17, by decide +kernel, by decide +kernel, by decide +kernel⟩
theorem p70_7 : ps_vV 70 7 2 8 0 10 := ⟨31, 8, by decide +kernel, by decide +kernel, by decide +kernel, by decide +kernel, by decide +kernel⟩
theorem p70_10 : ps_j 70 10 .ge 77 13 := ⟨67, by decide +kernel, by decide +kernel, by decide +kernel⟩
theorem p70_13 : ps_la 70 13 0 14 := ⟨.aload_n 0, by decide +kernel, fun _ _ => rfl⟩
theorem p70_14 : ps_gf 70 14 4 0 17 := ⟨12, 17, by decide +kernel, by decide +kernel, by decide +kernel⟩
theorem p70_17 : ps_ld 70 17 1 18 := ⟨.iload_n 1, by decide +kernel, fun _ _ => rfl⟩
theorem p70_18 : ps_vV 70 18 2 9 1 21 := ⟨35, 9, by decide +kernel, by decide +kernel, by decide +kernel, by decide +kernel, by decide +kernel⟩
theorem p70_21 : ps_ck 70 21 6 24 := ⟨39, by decide +kernel, by decide +kernel⟩
theorem p70_24 : ps_gf 70 24 6 1 27 := ⟨54, 25, by decide +kernel, by decide +kernel, by decide +kernel⟩
theorem p70_27 : ps_sa 70 27 2 28 := ⟨.astore_n 2, by decide +kernel, fun _ _ => rfl⟩
theorem p70_28 : ps_k 70 28 (Int32.ofNat 0) 29 := ⟨.iconst 0, by decide +kernel, fun _ _ => rfl⟩
theorem p70_29 : ps_si 70 29 3 30 := ⟨.istore_n 3, by decide +kernel, fun _ _ => rfl⟩
theorem p70_30 : ps_ld 70 30 3 31 := ⟨.iload_n 3, by decide +kernel, fun _ _ => rfl⟩
theorem p70_31 : ps_la 70 31 2 32 := ⟨.aload_n 2, by decide +kernel, fun _ _ => rfl⟩
theorem p70_32 : ps_vV 70 32 2 8 0 35 := ⟨31, 8, by decide +kernel, by decide +kernel, by decide +kernel, by decide +kernel, by decide +kernel⟩
theorem p70_35 : ps_j 70 35 .ge 71 38 := ⟨36, by decide +kernel, by decide +kernel, by decide +kernel⟩
theorem p70_38 : ps_la 70 38 2 39 := ⟨.aload_n 2, by decide +kernel, fun _ _ => rfl⟩
theorem p70_39 : ps_ld 70 39 3 40 := ⟨.iload_n 3, by decide +kernel, fun _ _ => rfl⟩
theorem p70_40 : ps_vV 70 40 2 9 1 43 := ⟨35, 9, by decide +kernel, by decide +kernel, by decide +kernel, by decide +kernel, by decide +kernel⟩
theorem p70_43 : ps_ck 70 43 5 46 := ⟨57, by decide +kernel, by decide +kernel⟩
theorem p70_46 : ps_sa 70 46 4 48 := ⟨.astore 4, by decide +kernel, fun _ _ => rfl⟩
theorem p70_48 : ps_la 70 48 4 50 := ⟨.aload 4, by decide +kernel, fun _ _ => rfl⟩
theorem p70_50 : ps_la 70 50 4 52 := ⟨.aload 4, by decide +kernel, fun _ _ => rfl⟩
theorem p70_52 : ps_k 70 52 (Int32.ofNat 1) 53 := ⟨.iconst 1, by decide +kernel, fun _ _ => rfl⟩
theorem p70_53 : ps_vV 70 53 5 19 1 56 := ⟨80, 19, by decide +kernel, by decide +kernel, by decide +kernel, by decide +kernel, by decide +kernel⟩
theorem p70_56 : ps_pf 70 56 5 4 (.boolean) 59 := ⟨62, 23, by decide +kernel, by decide +kernel, by decide +kernel, by decide +kernel, by decide +kernel⟩
theorem p70_59 : ps_la 70 59 4 61 := ⟨.aload 4, by decide +kernel, fun _ _ => rfl⟩
theorem p70_61 : ps_k 70 61 (Int32.ofNat 0) 62 := ⟨.iconst 0, by decide +kernel, fun _ _ => rfl⟩
theorem p70_62 : ps_pf 70 62 5 3 (.boolean) 65 := ⟨84, 22, by decide +kernel, by decide +kernel, by decide +kernel, by decide +kernel, by decide +kernel⟩
theorem p70_65 : ps_pu 70 65 (.iinc 3 ((1 : Nat) : Int)) 68 := (by decide +kernel : ps_i 70 65 = some (.iinc 3 ((1 : Nat) : Int), 68))
theorem p70_68 : ps_jg 70 68 30 := ⟨(-38), 71, by decide +kernel, by decide +kernel, by decide +kernel⟩
theorem p70_71 : ps_pu 70 71 (.iinc 1 ((1 : Nat) : Int)) 74 := (by decide +kernel : ps_i 70 71 = some (.iinc 1 ((1 : Nat) : Int), 74))
theorem p70_74 : ps_jg 70 74 2 := ⟨(-72), 77, by decide +kernel, by decide +kernel, by decide +kernel⟩
theorem p70_77 : ps_pu 70 77 (.return_) 78 := (by decide +kernel : ps_i 70 77 = some (.return_, 78))
theorem e70 : ∀ v0 : Value, pm_ent 70 [v0] = [some v0, none, none, none, none] := fun _ => rfl
theorem l70 : 1 ≤ pm_mx 70 := by decide +kernel
theorem t70 : pm_ret 70 = none := by decide +kernel
theorem p71_0 : ps_la 71 0 3 1 := ⟨.aload_n 3, by decide +kernel, fun _ _ => rfl⟩
theorem p71_1 : ps_k 71 1 (Int32.ofNat 0) 2 := ⟨.iconst 0, by decide +kernel, fun _ _ => rfl⟩
theorem p71_2 : ps_la 71 2 0 3 := ⟨.aload_n 0, by decide +kernel, fun _ _ => rfl⟩
theorem p71_3 : ps_ld 71 3 1 4 := ⟨.iload_n 1, by decide +kernel, fun _ _ => rfl⟩
theorem p71_4 : ps_ld 71 4 2 5 := ⟨.iload_n 2, by decide +kernel, fun _ _ => rfl⟩
theorem p71_5 : ps_vV 71 5 0 72 2 8 := ⟨24, 72, by decide +kernel, by decide +kernel, by decide +kernel, by decide +kernel, by decide +kernel⟩
theorem p71_8 : ps_pu 71 8 (.i2l) 9 := (by decide +kernel : ps_i 71 8 = some (.i2l, 9))
theorem p71_9 : ps_pu 71 9 (.lastore) 10 := (by decide +kernel : ps_i 71 9 = some (.lastore, 10))
theorem p71_10 : ps_jg 71 10 21 := ⟨(11), 13, by decide +kernel, by decide +kernel, by decide +kernel⟩
theorem p71_13 : ps_sa 71 13 4 15 := ⟨.astore 4, by decide +kernel, fun _ _ => rfl⟩
theorem p71_15 : ps_k 71 15 (Int32.ofNat 1) 16 := ⟨.iconst 1, by decide +kernel, fun _ _ => rfl⟩
theorem p71_16 : ps_pu 71 16 (.ireturn) 17 := (by decide +kernel : ps_i 71 16 = some (.ireturn, 17))
theorem p71_17 : ps_sa 71 17 4 19 := ⟨.astore 4, by decide +kernel, fun _ _ => rfl⟩
theorem p71_19 : ps_k 71 19 (Int32.ofNat 2) 20 := ⟨.iconst 2, by decide +kernel, fun _ _ => rfl⟩
theorem p71_20 : ps_pu 71 20 (.ireturn) 21 := (by decide +kernel : ps_i 71 20 = some (.ireturn, 21))
theorem p71_21 : ps_k 71 21 (Int32.ofNat 0) 22 := ⟨.iconst 0, by decide +kernel, fun _ _ => rfl⟩
theorem p71_22 : ps_pu 71 22 (.ireturn) 23 := (by decide +kernel : ps_i 71 22 = some (.ireturn, 23))
theorem e71 : ∀ v0 v1 v2 v3 : Value, pm_ent 71 [v0, v1, v2, v3] = [some v0, some v1, some v2, some v3, none] := fun _ _ _ _ => rfl
theorem l71 : 4 ≤ pm_mx 71 := by decide +kernel
theorem t71 : pm_ret 71 = (some .int) := by decide +kernel
theorem p72_0 : ps_ld 72 0 1 1 := ⟨.iload_n 1, by decide +kernel, fun _ _ => rfl⟩
theorem p72_1 : ps_j0 72 1 .lt 23 4 := ⟨22, by decide +kernel, by decide +kernel, by decide +kernel⟩
theorem p72_4 : ps_ld 72 4 2 5 := ⟨.iload_n 2, by decide +kernel, fun _ _ => rfl⟩
theorem p72_5 : ps_la 72 5 0 6 := ⟨.aload_n 0, by decide +kernel, fun _ _ => rfl⟩
theorem p72_6 : ps_gf 72 6 0 5 9 := ⟨38, 5, by decide +kernel, by decide +kernel, by decide +kernel⟩
theorem p72_9 : ps_gf 72 9 4 0 12 := ⟨137, 17, by decide +kernel, by decide +kernel, by decide +kernel⟩
theorem p72_12 : ps_vV 72 12 2 8 0 15 := ⟨96, 8, by decide +kernel, by decide +kernel, by decide +kernel, by decide +kernel, by decide +kernel⟩
theorem p72_15 : ps_j 72 15 .ge 23 18 := ⟨8, by decide +kernel, by decide +kernel, by decide +kernel⟩
theorem p72_18 : ps_ld 72 18 1 19 := ⟨.iload_n 1, by decide +kernel, fun _ _ => rfl⟩
theorem p72_19 : ps_ld 72 19 2 20 := ⟨.iload_n 2, by decide +kernel, fun _ _ => rfl⟩
theorem p72_20 : ps_j 72 20 .lt 33 23 := ⟨13, by decide +kernel, by decide +kernel, by decide +kernel⟩
theorem p72_23 : ps_th 72 23 0 := ⟨72, 26, by decide +kernel, by decide +kernel, by decide +kernel, by decide +kernel⟩
theorem p72_26 : ps_pu 72 26 (.dup) 27 := (by decide +kernel : ps_i 72 26 = some (.dup, 27))
theorem p72_27 : ps_pu 72 27 (.ldc 165) 29 := (by decide +kernel : ps_i 72 27 = some (.ldc 165, 29))
theorem p72_32 : ps_pu 72 32 (.athrow) 33 := (by decide +kernel : ps_i 72 32 = some (.athrow, 33))
theorem p72_33 : ps_la 72 33 0 34 := ⟨.aload_n 0, by decide +kernel, fun _ _ => rfl⟩
theorem p72_34 : ps_gf 72 34 0 6 37 := ⟨42, 6, by decide +kernel, by decide +kernel, by decide +kernel⟩
theorem p72_37 : ps_gf 72 37 4 0 40 := ⟨137, 17, by decide +kernel, by decide +kernel, by decide +kernel⟩
theorem p72_40 : ps_vV 72 40 2 51 0 43 := ⟨140, 51, by decide +kernel, by decide +kernel, by decide +kernel, by decide +kernel, by decide +kernel⟩
theorem p72_43 : ps_la 72 43 0 44 := ⟨.aload_n 0, by decide +kernel, fun _ _ => rfl⟩
theorem p72_44 : ps_k 72 44 (Int32.ofNat 0) 45 := ⟨.iconst 0, by decide +kernel, fun _ _ => rfl⟩
theorem p72_45 : ps_ld 72 45 1 46 := ⟨.iload_n 1, by decide +kernel, fun _ _ => rfl⟩
theorem p72_46 : ps_k 72 46 (Int32.ofNat 0) 47 := ⟨.iconst 0, by decide +kernel, fun _ _ => rfl⟩
theorem p72_47 : ps_vV 72 47 0 52 3 50 := ⟨141, 52, by decide +kernel, by decide +kernel, by decide +kernel, by decide +kernel, by decide +kernel⟩
theorem p72_50 : ps_la 72 50 0 51 := ⟨.aload_n 0, by decide +kernel, fun _ _ => rfl⟩
theorem p72_51 : ps_la 72 51 0 52 := ⟨.aload_n 0, by decide +kernel, fun _ _ => rfl⟩
theorem p72_52 : ps_gf 72 52 0 5 55 := ⟨38, 5, by decide +kernel, by decide +kernel, by decide +kernel⟩
theorem p72_55 : ps_ld 72 55 1 56 := ⟨.iload_n 1, by decide +kernel, fun _ _ => rfl⟩
theorem p72_56 : ps_ld 72 56 2 57 := ⟨.iload_n 2, by decide +kernel, fun _ _ => rfl⟩
theorem p72_57 : ps_vV 72 57 4 73 2 60 := ⟨167, 73, by decide +kernel, by decide +kernel, by decide +kernel, by decide +kernel, by decide +kernel⟩
theorem p72_60 : ps_vV 72 60 0 53 1 63 := ⟨145, 53, by decide +kernel, by decide +kernel, by decide +kernel, by decide +kernel, by decide +kernel⟩
theorem p72_63 : ps_si 72 63 3 64 := ⟨.istore_n 3, by decide +kernel, fun _ _ => rfl⟩
theorem p72_64 : ps_la 72 64 0 65 := ⟨.aload_n 0, by decide +kernel, fun _ _ => rfl⟩
theorem p72_65 : ps_ld 72 65 2 66 := ⟨.iload_n 2, by decide +kernel, fun _ _ => rfl⟩
theorem p72_66 : ps_k 72 66 (Int32.ofNat 1) 67 := ⟨.iconst 1, by decide +kernel, fun _ _ => rfl⟩
theorem p72_67 : ps_b 72 67 (· + ·) 68 := ⟨.iadd, by decide +kernel, fun _ _ => rfl⟩
theorem p72_68 : ps_la 72 68 0 69 := ⟨.aload_n 0, by decide +kernel, fun _ _ => rfl⟩
theorem p72_69 : ps_gf 72 69 0 5 72 := ⟨38, 5, by decide +kernel, by decide +kernel, by decide +kernel⟩
theorem p72_72 : ps_gf 72 72 4 0 75 := ⟨137, 17, by decide +kernel, by decide +kernel, by decide +kernel⟩
theorem p72_75 : ps_vV 72 75 2 8 0 78 := ⟨96, 8, by decide +kernel, by decide +kernel, by decide +kernel, by decide +kernel, by decide +kernel⟩
theorem p72_78 : ps_k 72 78 (Int32.ofNat 0) 79 := ⟨.iconst 0, by decide +kernel, fun _ _ => rfl⟩
theorem p72_79 : ps_vV 72 79 0 52 3 82 := ⟨141, 52, by decide +kernel, by decide +kernel, by decide +kernel, by decide +kernel, by decide +kernel⟩
theorem p72_82 : ps_la 72 82 0 83 := ⟨.aload_n 0, by decide +kernel, fun _ _ => rfl⟩
theorem p72_83 : ps_gf 72 83 0 6 86 := ⟨42, 6, by decide +kernel, by decide +kernel, by decide +kernel⟩
theorem p72_86 : ps_k 72 86 (Int32.ofNat 0) 87 := ⟨.iconst 0, by decide +kernel, fun _ _ => rfl⟩
theorem p72_87 : ps_vV 72 87 4 64 1 90 := ⟨149, 64, by decide +kernel, by decide +kernel, by decide +kernel, by decide +kernel, by decide +kernel⟩
theorem p72_90 : ps_la 72 90 0 91 := ⟨.aload_n 0, by decide +kernel, fun _ _ => rfl⟩
theorem p72_91 : ps_ld 72 91 3 92 := ⟨.iload_n 3, by decide +kernel, fun _ _ => rfl⟩
theorem p72_92 : ps_vV 72 92 0 66 1 95 := ⟨153, 66, by decide +kernel, by decide +kernel, by decide +kernel, by decide +kernel, by decide +kernel⟩
theorem p72_95 : ps_j0 72 95 .ne 108 98 := ⟨13, by decide +kernel, by decide +kernel, by decide +kernel⟩
theorem p72_98 : ps_th 72 98 1 := ⟨82, 101, by decide +kernel, by decide +kernel, by decide +kernel, by decide +kernel⟩
theorem p72_101 : ps_pu 72 101 (.dup) 102 := (by decide +kernel : ps_i 72 101 = some (.dup, 102))
theorem p72_102 : ps_pu 72 102 (.ldc 171) 104 := (by decide +kernel : ps_i 72 102 = some (.ldc 171, 104))
theorem p72_107 : ps_pu 72 107 (.athrow) 108 := (by decide +kernel : ps_i 72 107 = some (.athrow, 108))
theorem p72_108 : ps_la 72 108 0 109 := ⟨.aload_n 0, by decide +kernel, fun _ _ => rfl⟩
theorem p72_109 : ps_ld 72 109 3 110 := ⟨.iload_n 3, by decide +kernel, fun _ _ => rfl⟩
theorem p72_110 : ps_vV 72 110 0 67 1 113 := ⟨158, 67, by decide +kernel, by decide +kernel, by decide +kernel, by decide +kernel, by decide +kernel⟩
theorem p72_113 : ps_pu 72 113 (.ireturn) 114 := (by decide +kernel : ps_i 72 113 = some (.ireturn, 114))
theorem e72 : ∀ v0 v1 v2 : Value, pm_ent 72 [v0, v1, v2] = [some v0, some v1, some v2, none] := fun _ _ _ => rfl
theorem l72 : 3 ≤ pm_mx 72 := by decide +kernel
theorem t72 : pm_ret 72 = (some .int) := by decide +kernel
theorem p73_0 : ps_nw 73 0 2 3 := ⟨9, by decide +kernel, by decide +kernel⟩
theorem p73_3 : ps_pu 73 3 (.dup) 4 := (by decide +kernel : ps_i 73 3 = some (.dup, 4))
theorem p73_4 : ps_vP 73 4 2 0 7 := ⟨11, by decide +kernel, by decide +kernel, by decide +kernel, by decide +kernel⟩
theorem p73_7 : ps_sa 73 7 3 8 := ⟨.astore_n 3, by decide +kernel, fun _ _ => rfl⟩
theorem p73_8 : ps_ld 73 8 1 9 := ⟨.iload_n 1, by decide +kernel, fun _ _ => rfl⟩
theorem p73_9 : ps_si 73 9 4 11 := ⟨.istore 4, by decide +kernel, fun _ _ => rfl⟩
theorem p73_11 : ps_ld 73 11 4 13 := ⟨.iload 4, by decide +kernel, fun _ _ => rfl⟩
theorem p73_13 : ps_ld 73 13 2 14 := ⟨.iload_n 2, by decide +kernel, fun _ _ => rfl⟩
theorem p73_14 : ps_j 73 14 .gt 102 17 := ⟨88, by decide +kernel, by decide +kernel, by decide +kernel⟩
theorem p73_17 : ps_ld 73 17 4 19 := ⟨.iload 4, by decide +kernel, fun _ _ => rfl⟩
theorem p73_19 : ps_la 73 19 0 20 := ⟨.aload_n 0, by decide +kernel, fun _ _ => rfl⟩
theorem p73_20 : ps_gf 73 20 4 0 23 := ⟨12, 17, by decide +kernel, by decide +kernel, by decide +kernel⟩
theorem p73_23 : ps_vV 73 23 2 8 0 26 := ⟨31, 8, by decide +kernel, by decide +kernel, by decide +kernel, by decide +kernel, by decide +kernel⟩
theorem p73_26 : ps_j 73 26 .ge 102 29 := ⟨76, by decide +kernel, by decide +kernel, by decide +kernel⟩
theorem p73_29 : ps_la 73 29 0 30 := ⟨.aload_n 0, by decide +kernel, fun _ _ => rfl⟩
theorem p73_30 : ps_gf 73 30 4 0 33 := ⟨12, 17, by decide +kernel, by decide +kernel, by decide +kernel⟩
theorem p73_33 : ps_ld 73 33 4 35 := ⟨.iload 4, by decide +kernel, fun _ _ => rfl⟩
theorem p73_35 : ps_vV 73 35 2 9 1 38 := ⟨35, 9, by decide +kernel, by decide +kernel, by decide +kernel, by decide +kernel, by decide +kernel⟩
theorem p73_38 : ps_ck 73 38 6 41 := ⟨39, by decide +kernel, by decide +kernel⟩
theorem p73_41 : ps_gf 73 41 6 1 44 := ⟨54, 25, by decide +kernel, by decide +kernel, by decide +kernel⟩
theorem p73_44 : ps_sa 73 44 5 46 := ⟨.astore 5, by decide +kernel, fun _ _ => rfl⟩
theorem p73_46 : ps_k 73 46 (Int32.ofNat 0) 47 := ⟨.iconst 0, by decide +kernel, fun _ _ => rfl⟩
theorem p73_47 : ps_si 73 47 6 49 := ⟨.istore 6, by decide +kernel, fun _ _ => rfl⟩
theorem p73_49 : ps_ld 73 49 6 51 := ⟨.iload 6, by decide +kernel, fun _ _ => rfl⟩
theorem p73_51 : ps_la 73 51 5 53 := ⟨.aload 5, by decide +kernel, fun _ _ => rfl⟩
theorem p73_53 : ps_vV 73 53 2 8 0 56 := ⟨31, 8, by decide +kernel, by decide +kernel, by decide +kernel, by decide +kernel, by decide +kernel⟩
theorem p73_56 : ps_j 73 56 .ge 96 59 := ⟨40, by decide +kernel, by decide +kernel, by decide +kernel⟩
theorem p73_59 : ps_la 73 59 5 61 := ⟨.aload 5, by decide +kernel, fun _ _ => rfl⟩
theorem p73_61 : ps_ld 73 61 6 63 := ⟨.iload 6, by decide +kernel, fun _ _ => rfl⟩
theorem p73_63 : ps_vV 73 63 2 9 1 66 := ⟨35, 9, by decide +kernel, by decide +kernel, by decide +kernel, by decide +kernel, by decide +kernel⟩
theorem p73_66 : ps_ck 73 66 5 69 := ⟨57, by decide +kernel, by decide +kernel⟩
theorem p73_69 : ps_gf 73 69 5 4 72 := ⟨62, 23, by decide +kernel, by decide +kernel, by decide +kernel⟩
theorem p73_72 : ps_j0 73 72 .ne 90 75 := ⟨18, by decide +kernel, by decide +kernel, by decide +kernel⟩
theorem p73_75 : ps_la 73 75 3 76 := ⟨.aload_n 3, by decide +kernel, fun _ _ => rfl⟩
theorem p73_76 : ps_la 73 76 5 78 := ⟨.aload 5, by decide +kernel, fun _ _ => rfl⟩
theorem p73_78 : ps_ld 73 78 6 80 := ⟨.iload 6, by decide +kernel, fun _ _ => rfl⟩
theorem p73_80 : ps_vV 73 80 2 9 1 83 := ⟨35, 9, by decide +kernel, by decide +kernel, by decide +kernel, by decide +kernel, by decide +kernel⟩
theorem p73_83 : ps_ck 73 83 5 86 := ⟨57, by decide +kernel, by decide +kernel⟩
theorem p73_86 : ps_vV 73 86 2 38 1 89 := ⟨72, 38, by decide +kernel, by decide +kernel, by decide +kernel, by decide +kernel, by decide +kernel⟩
theorem p73_89 : ps_pu 73 89 (.pop) 90 := (by decide +kernel : ps_i 73 89 = some (.pop, 90))
theorem p73_90 : ps_pu 73 90 (.iinc 6 ((1 : Nat) : Int)) 93 := (by decide +kernel : ps_i 73 90 = some (.iinc 6 ((1 : Nat) : Int), 93))
theorem p73_93 : ps_jg 73 93 49 := ⟨(-44), 96, by decide +kernel, by decide +kernel, by decide +kernel⟩
theorem p73_96 : ps_pu 73 96 (.iinc 4 ((1 : Nat) : Int)) 99 := (by decide +kernel : ps_i 73 96 = some (.iinc 4 ((1 : Nat) : Int), 99))
theorem p73_99 : ps_jg 73 99 11 := ⟨(-88), 102, by decide +kernel, by decide +kernel, by decide +kernel⟩
theorem p73_102 : ps_la 73 102 3 103 := ⟨.aload_n 3, by decide +kernel, fun _ _ => rfl⟩
theorem p73_103 : ps_pu 73 103 (.areturn) 104 := (by decide +kernel : ps_i 73 103 = some (.areturn, 104))
theorem e73 : ∀ v0 v1 v2 : Value, pm_ent 73 [v0, v1, v2] = [some v0, some v1, some v2, none, none, none, none] := fun _ _ _ => rfl
theorem l73 : 3 ≤ pm_mx 73 := by decide +kernel
theorem t73 : ps_isr (pm_ret 73) = true := by decide +kernel
theorem p74_0 : ps_la 74 0 2 1 := ⟨.aload_n 2, by decide +kernel, fun _ _ => rfl⟩
theorem p74_1 : ps_k 74 1 (Int32.ofNat 0) 2 := ⟨.iconst 0, by decide +kernel, fun _ _ => rfl⟩
theorem p74_2 : ps_la 74 2 0 3 := ⟨.aload_n 0, by decide +kernel, fun _ _ => rfl⟩
theorem p74_3 : ps_ld 74 3 1 4 := ⟨.iload_n 1, by decide +kernel, fun _ _ => rfl⟩
theorem p74_4 : ps_vV 74 4 0 75 1 7 := ⟨28, 75, by decide +kernel, by decide +kernel, by decide +kernel, by decide +kernel, by decide +kernel⟩
theorem p74_7 : ps_pu 74 7 (.i2l) 8 := (by decide +kernel : ps_i 74 7 = some (.i2l, 8))
theorem p74_8 : ps_pu 74 8 (.lastore) 9 := (by decide +kernel : ps_i 74 8 = some (.lastore, 9))
theorem p74_9 : ps_jg 74 9 18 := ⟨(9), 12, by decide +kernel, by decide +kernel, by decide +kernel⟩
theorem p74_12 : ps_sa 74 12 3 13 := ⟨.astore_n 3, by decide +kernel, fun _ _ => rfl⟩
theorem p74_13 : ps_k 74 13 (Int32.ofNat 1) 14 := ⟨.iconst 1, by decide +kernel, fun _ _ => rfl⟩
theorem p74_14 : ps_pu 74 14 (.ireturn) 15 := (by decide +kernel : ps_i 74 14 = some (.ireturn, 15))
theorem p74_15 : ps_sa 74 15 3 16 := ⟨.astore_n 3, by decide +kernel, fun _ _ => rfl⟩
theorem p74_16 : ps_k 74 16 (Int32.ofNat 2) 17 := ⟨.iconst 2, by decide +kernel, fun _ _ => rfl⟩
theorem p74_17 : ps_pu 74 17 (.ireturn) 18 := (by decide +kernel : ps_i 74 17 = some (.ireturn, 18))
theorem p74_18 : ps_k 74 18 (Int32.ofNat 0) 19 := ⟨.iconst 0, by decide +kernel, fun _ _ => rfl⟩
theorem p74_19 : ps_pu 74 19 (.ireturn) 20 := (by decide +kernel : ps_i 74 19 = some (.ireturn, 20))
theorem e74 : ∀ v0 v1 v2 : Value, pm_ent 74 [v0, v1, v2] = [some v0, some v1, some v2, none] := fun _ _ _ => rfl
theorem l74 : 3 ≤ pm_mx 74 := by decide +kernel
theorem t74 : pm_ret 74 = (some .int) := by decide +kernel
theorem p75_0 : ps_ld 75 0 1 1 := ⟨.iload_n 1, by decide +kernel, fun _ _ => rfl⟩
theorem p75_1 : ps_vS 75 1 30 1 4 := ⟨68, by decide +kernel, by decide +kernel, by decide +kernel, by decide +kernel⟩
theorem p75_4 : ps_j0 75 4 .ne 17 7 := ⟨13, by decide +kernel, by decide +kernel, by decide +kernel⟩
theorem p75_7 : ps_th 75 7 0 := ⟨72, 10, by decide +kernel, by decide +kernel, by decide +kernel, by decide +kernel⟩
theorem p75_10 : ps_pu 75 10 (.dup) 11 := (by decide +kernel : ps_i 75 10 = some (.dup, 11))
theorem p75_11 : ps_pu 75 11 (.ldc 74) 13 := (by decide +kernel : ps_i 75 11 = some (.ldc 74, 13))
theorem p75_16 : ps_pu 75 16 (.athrow) 17 := (by decide +kernel : ps_i 75 16 = some (.athrow, 17))
theorem p75_17 : ps_la 75 17 0 18 := ⟨.aload_n 0, by decide +kernel, fun _ _ => rfl⟩
theorem p75_18 : ps_gf 75 18 0 2 21 := ⟨19, 2, by decide +kernel, by decide +kernel, by decide +kernel⟩
theorem p75_21 : ps_vV 75 21 2 8 0 24 := ⟨96, 8, by decide +kernel, by decide +kernel, by decide +kernel, by decide +kernel, by decide +kernel⟩
theorem p75_24 : ps_k 75 24 (Int32.ofNat 8) 26 := ⟨.bipush 8, by decide +kernel, fun _ _ => rfl⟩
theorem p75_26 : ps_j 75 26 .lt 39 29 := ⟨13, by decide +kernel, by decide +kernel, by decide +kernel⟩
theorem p75_29 : ps_th 75 29 1 := ⟨82, 32, by decide +kernel, by decide +kernel, by decide +kernel, by decide +kernel⟩
theorem p75_32 : ps_pu 75 32 (.dup) 33 := (by decide +kernel : ps_i 75 32 = some (.dup, 33))
theorem p75_33 : ps_pu 75 33 (.ldc 173) 35 := (by decide +kernel : ps_i 75 33 = some (.ldc 173, 35))
theorem p75_38 : ps_pu 75 38 (.athrow) 39 := (by decide +kernel : ps_i 75 38 = some (.athrow, 39))
theorem p75_39 : ps_la 75 39 0 40 := ⟨.aload_n 0, by decide +kernel, fun _ _ => rfl⟩
theorem p75_40 : ps_gf 75 40 0 2 43 := ⟨19, 2, by decide +kernel, by decide +kernel, by decide +kernel⟩
theorem p75_43 : ps_nw 75 43 7 46 := ⟨175, by decide +kernel, by decide +kernel⟩
theorem p75_46 : ps_pu 75 46 (.dup) 47 := (by decide +kernel : ps_i 75 46 = some (.dup, 47))
theorem p75_47 : ps_ld 75 47 1 48 := ⟨.iload_n 1, by decide +kernel, fun _ _ => rfl⟩
theorem p75_48 : ps_vP 75 48 76 1 51 := ⟨177, by decide +kernel, by decide +kernel, by decide +kernel, by decide +kernel⟩
theorem p75_51 : ps_vV 75 51 2 38 1 54 := ⟨106, 38, by decide +kernel, by decide +kernel, by decide +kernel, by decide +kernel, by decide +kernel⟩
theorem p75_54 : ps_pu 75 54 (.pop) 55 := (by decide +kernel : ps_i 75 54 = some (.pop, 55))
theorem p75_55 : ps_la 75 55 0 56 := ⟨.aload_n 0, by decide +kernel, fun _ _ => rfl⟩
theorem p75_56 : ps_gf 75 56 0 2 59 := ⟨19, 2, by decide +kernel, by decide +kernel, by decide +kernel⟩
theorem p75_59 : ps_vV 75 59 2 8 0 62 := ⟨96, 8, by decide +kernel, by decide +kernel, by decide +kernel, by decide +kernel, by decide +kernel⟩
theorem p75_62 : ps_pu 75 62 (.ireturn) 63 := (by decide +kernel : ps_i 75 62 = some (.ireturn, 63))
theorem e75 : ∀ v0 v1 : Value, pm_ent 75 [v0, v1] = [some v0, some v1] := fun _ _ => rfl
theorem l75 : 2 ≤ pm_mx 75 := by decide +kernel
theorem t75 : pm_ret 75 = (some .int) := by decide +kernel
theorem p76_0 : ps_la 76 0 0 1 := ⟨.aload_n 0, by decide +kernel, fun _ _ => rfl⟩
theorem p76_1 : ps_k 76 1 (Int32.ofNat 1) 2 := ⟨.iconst 1, by decide +kernel, fun _ _ => rfl⟩
theorem p76_2 : ps_vP 76 2 77 1 5 := ⟨1, by decide +kernel, by decide +kernel, by decide +kernel, by decide +kernel⟩
theorem p76_5 : ps_la 76 5 0 6 := ⟨.aload_n 0, by decide +kernel, fun _ _ => rfl⟩
theorem p76_6 : ps_ld 76 6 1 7 := ⟨.iload_n 1, by decide +kernel, fun _ _ => rfl⟩
theorem p76_7 : ps_pf 76 7 7 0 (.int) 10 := ⟨7, 27, by decide +kernel, by decide +kernel, by decide +kernel, by decide +kernel, by decide +kernel⟩
theorem p76_10 : ps_pu 76 10 (.return_) 11 := (by decide +kernel : ps_i 76 10 = some (.return_, 11))
theorem e76 : ∀ v0 v1 : Value, pm_ent 76 [v0, v1] = [some v0, some v1] := fun _ _ => rfl
theorem l76 : 2 ≤ pm_mx 76 := by decide +kernel
theorem t76 : pm_ret 76 = none := by decide +kernel
theorem p77_0 : ps_la 77 0 0 1 := ⟨.aload_n 0, by decide +kernel, fun _ _ => rfl⟩
theorem p77_1 : ps_vN 77 1 2 4 := ⟨.invokespecial 1, by decide +kernel, fun _ _ => rfl, fun _ => rfl, fun _ _ _ => rfl, by decide +kernel⟩
theorem p77_4 : ps_la 77 4 0 5 := ⟨.aload_n 0, by decide +kernel, fun _ _ => rfl⟩
theorem p77_5 : ps_ld 77 5 1 6 := ⟨.iload_n 1, by decide +kernel, fun _ _ => rfl⟩
theorem p77_6 : ps_pf 77 6 7 1 (.int) 9 := ⟨7, 28, by decide +kernel, by decide +kernel, by decide +kernel, by decide +kernel, by decide +kernel⟩
theorem p77_6b : ps_pf 77 6 8 3 (.int) 9 := ⟨7, 28, by decide +kernel, by decide +kernel, by decide +kernel, by decide +kernel, by decide +kernel⟩
theorem p77_9 : ps_pu 77 9 (.return_) 10 := (by decide +kernel : ps_i 77 9 = some (.return_, 10))
theorem e77 : ∀ v0 v1 : Value, pm_ent 77 [v0, v1] = [some v0, some v1] := fun _ _ => rfl
theorem l77 : 2 ≤ pm_mx 77 := by decide +kernel
theorem t77 : pm_ret 77 = none := by decide +kernel
theorem p78_0 : ps_la 78 0 2 1 := ⟨.aload_n 2, by decide +kernel, fun _ _ => rfl⟩
theorem p78_1 : ps_k 78 1 (Int32.ofNat 0) 2 := ⟨.iconst 0, by decide +kernel, fun _ _ => rfl⟩
theorem p78_2 : ps_la 78 2 0 3 := ⟨.aload_n 0, by decide +kernel, fun _ _ => rfl⟩
theorem p78_3 : ps_ld 78 3 1 4 := ⟨.iload_n 1, by decide +kernel, fun _ _ => rfl⟩
theorem p78_4 : ps_vV 78 4 0 79 1 7 := ⟨31, 79, by decide +kernel, by decide +kernel, by decide +kernel, by decide +kernel, by decide +kernel⟩
theorem p78_7 : ps_pu 78 7 (.i2l) 8 := (by decide +kernel : ps_i 78 7 = some (.i2l, 8))
theorem p78_8 : ps_pu 78 8 (.lastore) 9 := (by decide +kernel : ps_i 78 8 = some (.lastore, 9))
theorem p78_9 : ps_jg 78 9 21 := ⟨(12), 12, by decide +kernel, by decide +kernel, by decide +kernel⟩
theorem p78_12 : ps_sa 78 12 3 13 := ⟨.astore_n 3, by decide +kernel, fun _ _ => rfl⟩
theorem p78_13 : ps_k 78 13 (Int32.ofNat 1) 14 := ⟨.iconst 1, by decide +kernel, fun _ _ => rfl⟩
theorem p78_14 : ps_pu 78 14 (.ireturn) 15 := (by decide +kernel : ps_i 78 14 = some (.ireturn, 15))
theorem p78_15 : ps_sa 78 15 3 16 := ⟨.astore_n 3, by decide +kernel, fun _ _ => rfl⟩
theorem p78_16 : ps_k 78 16 (Int32.ofNat 2) 17 := ⟨.iconst 2, by decide +kernel, fun _ _ => rfl⟩
theorem p78_17 : ps_pu 78 17 (.ireturn) 18 := (by decide +kernel : ps_i 78 17 = some (.ireturn, 18))
theorem p78_18 : ps_sa 78 18 3 19 := ⟨.astore_n 3, by decide +kernel, fun _ _ => rfl⟩
theorem p78_19 : ps_k 78 19 (Int32.ofNat 3) 20 := ⟨.iconst 3, by decide +kernel, fun _ _ => rfl⟩
theorem p78_20 : ps_pu 78 20 (.ireturn) 21 := (by decide +kernel : ps_i 78 20 = some (.ireturn, 21))
theorem p78_21 : ps_k 78 21 (Int32.ofNat 0) 22 := ⟨.iconst 0, by decide +kernel, fun _ _ => rfl⟩
theorem p78_22 : ps_pu 78 22 (.ireturn) 23 := (by decide +kernel : ps_i 78 22 = some (.ireturn, 23))
theorem e78 : ∀ v0 v1 v2 : Value, pm_ent 78 [v0, v1, v2] = [some v0, some v1, some v2, none] := fun _ _ _ => rfl
theorem l78 : 3 ≤ pm_mx 78 := by decide +kernel
theorem t78 : pm_ret 78 = (some .int) := by decide +kernel
theorem p79_0 : ps_ld 79 0 1 1 := ⟨.iload_n 1, by decide +kernel, fun _ _ => rfl⟩
theorem p79_1 : ps_j0 79 1 .lt 10 4 := ⟨9, by decide +kernel, by decide +kernel, by decide +kernel⟩
theorem p79_4 : ps_ld 79 4 1 5 := ⟨.iload_n 1, by decide +kernel, fun _ _ => rfl⟩
theorem p79_5 : ps_k 79 5 (Int32.ofNat 10) 7 := ⟨.bipush 10, by decide +kernel, fun _ _ => rfl⟩
theorem p79_7 : ps_j 79 7 .le 20 10 := ⟨13, by decide +kernel, by decide +kernel, by decide +kernel⟩
theorem p79_10 : ps_th 79 10 0 := ⟨72, 13, by decide +kernel, by decide +kernel, by decide +kernel, by decide +kernel⟩
theorem p79_13 : ps_pu 79 13 (.dup) 14 := (by decide +kernel : ps_i 79 13 = some (.dup, 14))
theorem p79_14 : ps_pu 79 14 (.ldc 178) 16 := (by decide +kernel : ps_i 79 14 = some (.ldc 178, 16))
theorem p79_19 : ps_pu 79 19 (.athrow) 20 := (by decide +kernel : ps_i 79 19 = some (.athrow, 20))
theorem p79_20 : ps_la 79 20 0 21 := ⟨.aload_n 0, by decide +kernel, fun _ _ => rfl⟩
theorem p79_21 : ps_gf 79 21 0 2 24 := ⟨19, 2, by decide +kernel, by decide +kernel, by decide +kernel⟩
theorem p79_24 : ps_vV 79 24 2 8 0 27 := ⟨96, 8, by decide +kernel, by decide +kernel, by decide +kernel, by decide +kernel, by decide +kernel⟩
theorem p79_27 : ps_si 79 27 2 28 := ⟨.istore_n 2, by decide +kernel, fun _ _ => rfl⟩
theorem p79_28 : ps_ld 79 28 2 29 := ⟨.iload_n 2, by decide +kernel, fun _ _ => rfl⟩
theorem p79_29 : ps_k 79 29 (Int32.ofNat 2) 30 := ⟨.iconst 2, by decide +kernel, fun _ _ => rfl⟩
theorem p79_30 : ps_j 79 30 .ge 43 33 := ⟨13, by decide +kernel, by decide +kernel, by decide +kernel⟩
theorem p79_33 : ps_th 79 33 2 := ⟨180, 36, by decide +kernel, by decide +kernel, by decide +kernel, by decide +kernel⟩
theorem p79_36 : ps_pu 79 36 (.dup) 37 := (by decide +kernel : ps_i 79 36 = some (.dup, 37))
theorem p79_37 : ps_pu 79 37 (.ldc 182) 39 := (by decide +kernel : ps_i 79 37 = some (.ldc 182, 39))
theorem p79_42 : ps_pu 79 42 (.athrow) 43 := (by decide +kernel : ps_i 79 42 = some (.athrow, 43))
theorem p79_43 : ps_la 79 43 0 44 := ⟨.aload_n 0, by decide +kernel, fun _ _ => rfl⟩
theorem p79_44 : ps_gf 79 44 0 2 47 := ⟨19, 2, by decide +kernel, by decide +kernel, by decide +kernel⟩
theorem p79_47 : ps_ld 79 47 2 48 := ⟨.iload_n 2, by decide +kernel, fun _ _ => rfl⟩
theorem p79_48 : ps_k 79 48 (Int32.ofNat 2) 49 := ⟨.iconst 2, by decide +kernel, fun _ _ => rfl⟩
theorem p79_49 : ps_b 79 49 (· - ·) 50 := ⟨.isub, by decide +kernel, fun _ _ => rfl⟩
theorem p79_50 : ps_vV 79 50 2 9 1 53 := ⟨113, 9, by decide +kernel, by decide +kernel, by decide +kernel, by decide +kernel, by decide +kernel⟩
theorem p79_53 : ps_ck 79 53 7 56 := ⟨185, by decide +kernel, by decide +kernel⟩
theorem p79_53b : ps_ck 79 53 8 56 := ⟨185, by decide +kernel, by decide +kernel⟩
theorem p79_56 : ps_sa 79 56 3 57 := ⟨.astore_n 3, by decide +kernel, fun _ _ => rfl⟩
theorem p79_57 : ps_la 79 57 0 58 := ⟨.aload_n 0, by decide +kernel, fun _ _ => rfl⟩
theorem p79_58 : ps_gf 79 58 0 2 61 := ⟨19, 2, by decide +kernel, by decide +kernel, by decide +kernel⟩
theorem p79_61 : ps_ld 79 61 2 62 := ⟨.iload_n 2, by decide +kernel, fun _ _ => rfl⟩
theorem p79_62 : ps_k 79 62 (Int32.ofNat 1) 63 := ⟨.iconst 1, by decide +kernel, fun _ _ => rfl⟩
theorem p79_63 : ps_b 79 63 (· - ·) 64 := ⟨.isub, by decide +kernel, fun _ _ => rfl⟩
theorem p79_64 : ps_vV 79 64 2 9 1 67 := ⟨113, 9, by decide +kernel, by decide +kernel, by decide +kernel, by decide +kernel, by decide +kernel⟩
theorem p79_67 : ps_ck 79 67 7 70 := ⟨185, by decide +kernel, by decide +kernel⟩
theorem p79_67b : ps_ck 79 67 8 70 := ⟨185, by decide +kernel, by decide +kernel⟩
theorem p79_70 : ps_sa 79 70 4 72 := ⟨.astore 4, by decide +kernel, fun _ _ => rfl⟩
theorem p79_72 : ps_la 79 72 3 73 := ⟨.aload_n 3, by decide +kernel, fun _ _ => rfl⟩
theorem p79_73 : ps_gf 79 73 7 1 76 := ⟨187, 28, by decide +kernel, by decide +kernel, by decide +kernel⟩
theorem p79_73b : ps_gf 79 73 8 3 76 := ⟨187, 28, by decide +kernel, by decide +kernel, by decide +kernel⟩
theorem p79_76 : ps_la 79 76 4 78 := ⟨.aload 4, by decide +kernel, fun _ _ => rfl⟩
theorem p79_78 : ps_gf 79 78 7 1 81 := ⟨187, 28, by decide +kernel, by decide +kernel, by decide +kernel⟩
theorem p79_78b : ps_gf 79 78 8 3 81 := ⟨187, 28, by decide +kernel, by decide +kernel, by decide +kernel⟩
theorem p79_81 : ps_b 79 81 (· + ·) 82 := ⟨.iadd, by decide +kernel, fun _ _ => rfl⟩
theorem p79_82 : ps_k 79 82 (Int32.ofNat 8) 84 := ⟨.bipush 8, by decide +kernel, fun _ _ => rfl⟩
theorem p79_84 : ps_j 79 84 .le 97 87 := ⟨13, by decide +kernel, by decide +kernel, by decide +kernel⟩
theorem p79_87 : ps_th 79 87 1 := ⟨82, 90, by decide +kernel, by decide +kernel, by decide +kernel, by decide +kernel⟩
theorem p79_90 : ps_pu 79 90 (.dup) 91 := (by decide +kernel : ps_i 79 90 = some (.dup, 91))
theorem p79_91 : ps_pu 79 91 (.ldc 190) 93 := (by decide +kernel : ps_i 79 91 = some (.ldc 190, 93))
theorem p79_96 : ps_pu 79 96 (.athrow) 97 := (by decide +kernel : ps_i 79 96 = some (.athrow, 97))
theorem p79_97 : ps_la 79 97 0 98 := ⟨.aload_n 0, by decide +kernel, fun _ _ => rfl⟩
theorem p79_98 : ps_gf 79 98 0 2 101 := ⟨19, 2, by decide +kernel, by decide +kernel, by decide +kernel⟩
theorem p79_101 : ps_ld 79 101 2 102 := ⟨.iload_n 2, by decide +kernel, fun _ _ => rfl⟩
theorem p79_102 : ps_k 79 102 (Int32.ofNat 1) 103 := ⟨.iconst 1, by decide +kernel, fun _ _ => rfl⟩
theorem p79_103 : ps_b 79 103 (· - ·) 104 := ⟨.isub, by decide +kernel, fun _ _ => rfl⟩
theorem p79_104 : ps_vV 79 104 2 13 1 107 := ⟨120, 13, by decide +kernel, by decide +kernel, by decide +kernel, by decide +kernel, by decide +kernel⟩
theorem p79_107 : ps_pu 79 107 (.pop) 108 := (by decide +kernel : ps_i 79 107 = some (.pop, 108))
theorem p79_108 : ps_la 79 108 0 109 := ⟨.aload_n 0, by decide +kernel, fun _ _ => rfl⟩
theorem p79_109 : ps_gf 79 109 0 2 112 := ⟨19, 2, by decide +kernel, by decide +kernel, by decide +kernel⟩
theorem p79_112 : ps_ld 79 112 2 113 := ⟨.iload_n 2, by decide +kernel, fun _ _ => rfl⟩
theorem p79_113 : ps_k 79 113 (Int32.ofNat 2) 114 := ⟨.iconst 2, by decide +kernel, fun _ _ => rfl⟩
theorem p79_114 : ps_b 79 114 (· - ·) 115 := ⟨.isub, by decide +kernel, fun _ _ => rfl⟩
theorem p79_115 : ps_nw 79 115 8 118 := ⟨192, by decide +kernel, by decide +kernel⟩
theorem p79_118 : ps_pu 79 118 (.dup) 119 := (by decide +kernel : ps_i 79 118 = some (.dup, 119))
theorem p79_119 : ps_ld 79 119 1 120 := ⟨.iload_n 1, by decide +kernel, fun _ _ => rfl⟩
theorem p79_120 : ps_la 79 120 3 121 := ⟨.aload_n 3, by decide +kernel, fun _ _ => rfl⟩
theorem p79_121 : ps_la 79 121 4 123 := ⟨.aload 4, by decide +kernel, fun _ _ => rfl⟩
theorem p79_123 : ps_vP 79 123 80 3 126 := ⟨194, by decide +kernel, by decide +kernel, by decide +kernel, by decide +kernel⟩
theorem p79_126 : ps_vV 79 126 2 81 2 129 := ⟨197, 81, by decide +kernel, by decide +kernel, by decide +kernel, by decide +kernel, by decide +kernel⟩
theorem p79_129 : ps_pu 79 129 (.pop) 130 := (by decide +kernel : ps_i 79 129 = some (.pop, 130))
theorem p79_130 : ps_la 79 130 0 131 := ⟨.aload_n 0, by decide +kernel, fun _ _ => rfl⟩
theorem p79_131 : ps_gf 79 131 0 2 134 := ⟨19, 2, by decide +kernel, by decide +kernel, by decide +kernel⟩
theorem p79_134 : ps_vV 79 134 2 8 0 137 := ⟨96, 8, by decide +kernel, by decide +kernel, by decide +kernel, by decide +kernel, by decide +kernel⟩
theorem p79_137 : ps_pu 79 137 (.ireturn) 138 := (by decide +kernel : ps_i 79 137 = some (.ireturn, 138))
theorem e79 : ∀ v0 v1 : Value, pm_ent 79 [v0, v1] = [some v0, some v1, none, none, none] := fun _ _ => rfl
theorem l79 : 2 ≤ pm_mx 79 := by decide +kernel
theorem t79 : pm_ret 79 = (some .int) := by decide +kernel
theorem p80_0 : ps_la 80 0 0 1 := ⟨.aload_n 0, by decide +kernel, fun _ _ => rfl⟩
theorem p80_1 : ps_la 80 1 2 2 := ⟨.aload_n 2, by decide +kernel, fun _ _ => rfl⟩
theorem p80_2 : ps_gf 80 2 7 1 5 := ⟨3, 28, by decide +kernel, by decide +kernel, by decide +kernel⟩
theorem p80_2b : ps_gf 80 2 8 3 5 := ⟨3, 28, by decide +kernel, by decide +kernel, by decide +kernel⟩
theorem p80_5 : ps_la 80 5 3 6 := ⟨.aload_n 3, by decide +kernel, fun _ _ => rfl⟩
theorem p80_6 : ps_gf 80 6 7 1 9 := ⟨3, 28, by decide +kernel, by decide +kernel, by decide +kernel⟩
theorem p80_6b : ps_gf 80 6 8 3 9 := ⟨3, 28, by decide +kernel, by decide +kernel, by decide +kernel⟩
theorem p80_9 : ps_b 80 9 (· + ·) 10 := ⟨.iadd, by decide +kernel, fun _ _ => rfl⟩
theorem p80_10 : ps_vP 80 10 77 1 13 := ⟨9, by decide +kernel, by decide +kernel, by decide +kernel, by decide +kernel⟩
theorem p80_13 : ps_la 80 13 0 14 := ⟨.aload_n 0, by decide +kernel, fun _ _ => rfl⟩
theorem p80_14 : ps_ld 80 14 1 15 := ⟨.iload_n 1, by decide +kernel, fun _ _ => rfl⟩
theorem p80_15 : ps_pf 80 15 8 0 (.int) 18 := ⟨13, 29, by decide +kernel, by decide +kernel, by decide +kernel, by decide +kernel, by decide +kernel⟩
theorem p80_18 : ps_la 80 18 0 19 := ⟨.aload_n 0, by decide +kernel, fun _ _ => rfl⟩
theorem p80_19 : ps_la 80 19 2 20 := ⟨.aload_n 2, by decide +kernel, fun _ _ => rfl⟩
theorem p80_20 : ps_pf 80 20 8 1 (.object "PostingShelf$Query") 23 := ⟨18, 30, by decide +kernel, by decide +kernel, by decide +kernel, by decide +kernel, by decide +kernel⟩
theorem p80_23 : ps_la 80 23 0 24 := ⟨.aload_n 0, by decide +kernel, fun _ _ => rfl⟩
theorem p80_24 : ps_la 80 24 3 25 := ⟨.aload_n 3, by decide +kernel, fun _ _ => rfl⟩
theorem p80_25 : ps_pf 80 25 8 2 (.object "PostingShelf$Query") 28 := ⟨22, 31, by decide +kernel, by decide +kernel, by decide +kernel, by decide +kernel, by decide +kernel⟩
theorem p80_28 : ps_pu 80 28 (.return_) 29 := (by decide +kernel : ps_i 80 28 = some (.return_, 29))
theorem e80 : ∀ v0 v1 v2 v3 : Value, pm_ent 80 [v0, v1, v2, v3] = [some v0, some v1, some v2, some v3] := fun _ _ _ _ => rfl
theorem l80 : 4 ≤ pm_mx 80 := by decide +kernel
theorem t80 : pm_ret 80 = none := by decide +kernel
theorem p81_0 : ps_ld 81 0 1 1 := ⟨.iload_n 1, by decide +kernel, fun _ _ => rfl⟩
theorem p81_1 : ps_la 81 1 0 2 := ⟨.aload_n 0, by decide +kernel, fun _ _ => rfl⟩
theorem p81_2 : ps_gf 81 2 2 1 5 := ⟨48, 13, by decide +kernel, by decide +kernel, by decide +kernel⟩
theorem p81_5 : ps_vS 81 5 10 2 8 := ⟨118, by decide +kernel, by decide +kernel, by decide +kernel, by decide +kernel⟩
theorem p81_8 : ps_pu 81 8 (.pop) 9 := (by decide +kernel : ps_i 81 8 = some (.pop, 9))
theorem p81_9 : ps_la 81 9 0 10 := ⟨.aload_n 0, by decide +kernel, fun _ _ => rfl⟩
theorem p81_10 : ps_ld 81 10 1 11 := ⟨.iload_n 1, by decide +kernel, fun _ _ => rfl⟩
theorem p81_11 : ps_vV 81 11 2 12 1 14 := ⟨123, 12, by decide +kernel, by decide +kernel, by decide +kernel, by decide +kernel, by decide +kernel⟩
theorem p81_14 : ps_sa 81 14 3 15 := ⟨.astore_n 3, by decide +kernel, fun _ _ => rfl⟩
theorem p81_15 : ps_la 81 15 0 16 := ⟨.aload_n 0, by decide +kernel, fun _ _ => rfl⟩
theorem p81_16 : ps_gf 81 16 2 0 19 := ⟨9, 12, by decide +kernel, by decide +kernel, by decide +kernel⟩
theorem p81_19 : ps_ld 81 19 1 20 := ⟨.iload_n 1, by decide +kernel, fun _ _ => rfl⟩
theorem p81_20 : ps_la 81 20 2 21 := ⟨.aload_n 2, by decide +kernel, fun _ _ => rfl⟩
theorem p81_21 : ps_pu 81 21 (.aastore) 22 := (by decide +kernel : ps_i 81 21 = some (.aastore, 22))
theorem p81_22 : ps_la 81 22 3 23 := ⟨.aload_n 3, by decide +kernel, fun _ _ => rfl⟩
theorem p81_23 : ps_pu 81 23 (.areturn) 24 := (by decide +kernel : ps_i 81 23 = some (.areturn, 24))
theorem e81 : ∀ v0 v1 v2 : Value, pm_ent 81 [v0, v1, v2] = [some v0, some v1, some v2, none] := fun _ _ _ => rfl
theorem l81 : 3 ≤ pm_mx 81 := by decide +kernel
theorem t81 : ps_isr (pm_ret 81) = true := by decide +kernel
theorem p82_0 : ps_la 82 0 1 1 := ⟨.aload_n 1, by decide +kernel, fun _ _ => rfl⟩
theorem p82_1 : ps_k 82 1 (Int32.ofNat 0) 2 := ⟨.iconst 0, by decide +kernel, fun _ _ => rfl⟩
theorem p82_2 : ps_la 82 2 0 3 := ⟨.aload_n 0, by decide +kernel, fun _ _ => rfl⟩
theorem p82_3 : ps_vV 82 3 0 83 0 6 := ⟨36, 83, by decide +kernel, by decide +kernel, by decide +kernel, by decide +kernel, by decide +kernel⟩
theorem p82_6 : ps_pu 82 6 (.i2l) 7 := (by decide +kernel : ps_i 82 6 = some (.i2l, 7))
theorem p82_7 : ps_pu 82 7 (.lastore) 8 := (by decide +kernel : ps_i 82 7 = some (.lastore, 8))
theorem p82_8 : ps_jg 82 8 14 := ⟨(6), 11, by decide +kernel, by decide +kernel, by decide +kernel⟩
theorem p82_11 : ps_sa 82 11 2 12 := ⟨.astore_n 2, by decide +kernel, fun _ _ => rfl⟩
theorem p82_12 : ps_k 82 12 (Int32.ofNat 1) 13 := ⟨.iconst 1, by decide +kernel, fun _ _ => rfl⟩
theorem p82_13 : ps_pu 82 13 (.ireturn) 14 := (by decide +kernel : ps_i 82 13 = some (.ireturn, 14))
theorem p82_14 : ps_k 82 14 (Int32.ofNat 0) 15 := ⟨.iconst 0, by decide +kernel, fun _ _ => rfl⟩
theorem p82_15 : ps_pu 82 15 (.ireturn) 16 := (by decide +kernel : ps_i 82 15 = some (.ireturn, 16))
theorem e82 : ∀ v0 v1 : Value, pm_ent 82 [v0, v1] = [some v0, some v1, none] := fun _ _ => rfl
theorem l82 : 2 ≤ pm_mx 82 := by decide +kernel
theorem t82 : pm_ret 82 = (some .int) := by decide +kernel
theorem p83_0 : ps_la 83 0 0 1 := ⟨.aload_n 0, by decide +kernel, fun _ _ => rfl⟩
theorem p83_1 : ps_gf 83 1 0 2 4 := ⟨19, 2, by decide +kernel, by decide +kernel, by decide +kernel⟩
theorem p83_4 : ps_vV 83 4 2 35 0 7 := ⟨130, 35, by decide +kernel, by decide +kernel, by decide +kernel, by decide +kernel, by decide +kernel⟩
theorem p83_7 : ps_j0 83 7 .eq 20 10 := ⟨13, by decide +kernel, by decide +kernel, by decide +kernel⟩
theorem p83_10 : ps_th 83 10 2 := ⟨180, 13, by decide +kernel, by decide +kernel, by decide +kernel, by decide +kernel⟩
theorem p83_13 : ps_pu 83 13 (.dup) 14 := (by decide +kernel : ps_i 83 13 = some (.dup, 14))
theorem p83_14 : ps_pu 83 14 (.ldc 201) 16 := (by decide +kernel : ps_i 83 14 = some (.ldc 201, 16))
theorem p83_19 : ps_pu 83 19 (.athrow) 20 := (by decide +kernel : ps_i 83 19 = some (.athrow, 20))
theorem p83_20 : ps_la 83 20 0 21 := ⟨.aload_n 0, by decide +kernel, fun _ _ => rfl⟩
theorem p83_21 : ps_gf 83 21 0 2 24 := ⟨19, 2, by decide +kernel, by decide +kernel, by decide +kernel⟩
theorem p83_24 : ps_la 83 24 0 25 := ⟨.aload_n 0, by decide +kernel, fun _ _ => rfl⟩
theorem p83_25 : ps_gf 83 25 0 2 28 := ⟨19, 2, by decide +kernel, by decide +kernel, by decide +kernel⟩
theorem p83_28 : ps_vV 83 28 2 8 0 31 := ⟨96, 8, by decide +kernel, by decide +kernel, by decide +kernel, by decide +kernel, by decide +kernel⟩
theorem p83_31 : ps_k 83 31 (Int32.ofNat 1) 32 := ⟨.iconst 1, by decide +kernel, fun _ _ => rfl⟩
theorem p83_32 : ps_b 83 32 (· - ·) 33 := ⟨.isub, by decide +kernel, fun _ _ => rfl⟩
theorem p83_33 : ps_vV 83 33 2 13 1 36 := ⟨120, 13, by decide +kernel, by decide +kernel, by decide +kernel, by decide +kernel, by decide +kernel⟩
theorem p83_36 : ps_pu 83 36 (.pop) 37 := (by decide +kernel : ps_i 83 36 = some (.pop, 37))
theorem p83_37 : ps_la 83 37 0 38 := ⟨.aload_n 0, by decide +kernel, fun _ _ => rfl⟩
theorem p83_38 : ps_gf 83 38 0 2 41 := ⟨19, 2, by decide +kernel, by decide +kernel, by decide +kernel⟩
theorem p83_41 : ps_vV 83 41 2 8 0 44 := ⟨96, 8, by decide +kernel, by decide +kernel, by decide +kernel, by decide +kernel, by decide +kernel⟩
theorem p83_44 : ps_pu 83 44 (.ireturn) 45 := (by decide +kernel : ps_i 83 44 = some (.ireturn, 45))
theorem e83 : ∀ v0 : Value, pm_ent 83 [v0] = [some v0] := fun _ => rfl
theorem l83 : 1 ≤ pm_mx 83 := by decide +kernel
theorem t83 : pm_ret 83 = (some .int) := by decide +kernel
theorem p84_0 : ps_la 84 0 1 1 := ⟨.aload_n 1, by decide +kernel, fun _ _ => rfl⟩
theorem p84_1 : ps_k 84 1 (Int32.ofNat 0) 2 := ⟨.iconst 0, by decide +kernel, fun _ _ => rfl⟩
theorem p84_2 : ps_la 84 2 0 3 := ⟨.aload_n 0, by decide +kernel, fun _ _ => rfl⟩
theorem p84_3 : ps_vV 84 3 0 85 0 6 := ⟨39, 85, by decide +kernel, by decide +kernel, by decide +kernel, by decide +kernel, by decide +kernel⟩
theorem p84_6 : ps_pu 84 6 (.i2l) 7 := (by decide +kernel : ps_i 84 6 = some (.i2l, 7))
theorem p84_7 : ps_pu 84 7 (.lastore) 8 := (by decide +kernel : ps_i 84 7 = some (.lastore, 8))
theorem p84_8 : ps_jg 84 8 14 := ⟨(6), 11, by decide +kernel, by decide +kernel, by decide +kernel⟩
theorem p84_11 : ps_sa 84 11 2 12 := ⟨.astore_n 2, by decide +kernel, fun _ _ => rfl⟩
theorem p84_12 : ps_k 84 12 (Int32.ofNat 1) 13 := ⟨.iconst 1, by decide +kernel, fun _ _ => rfl⟩
theorem p84_13 : ps_pu 84 13 (.ireturn) 14 := (by decide +kernel : ps_i 84 13 = some (.ireturn, 14))
theorem p84_14 : ps_k 84 14 (Int32.ofNat 0) 15 := ⟨.iconst 0, by decide +kernel, fun _ _ => rfl⟩
theorem p84_15 : ps_pu 84 15 (.ireturn) 16 := (by decide +kernel : ps_i 84 15 = some (.ireturn, 16))
theorem e84 : ∀ v0 v1 : Value, pm_ent 84 [v0, v1] = [some v0, some v1, none] := fun _ _ => rfl
theorem l84 : 2 ≤ pm_mx 84 := by decide +kernel
theorem t84 : pm_ret 84 = (some .int) := by decide +kernel
theorem p85_0 : ps_la 85 0 0 1 := ⟨.aload_n 0, by decide +kernel, fun _ _ => rfl⟩
theorem p85_1 : ps_vV 85 1 0 86 0 4 := ⟨203, 86, by decide +kernel, by decide +kernel, by decide +kernel, by decide +kernel, by decide +kernel⟩
theorem p85_4 : ps_sa 85 4 1 5 := ⟨.astore_n 1, by decide +kernel, fun _ _ => rfl⟩
theorem p85_5 : ps_la 85 5 1 6 := ⟨.aload_n 1, by decide +kernel, fun _ _ => rfl⟩
theorem p85_6 : ps_jn 85 6 false 19 9 := ⟨(13), by decide +kernel, by decide +kernel, by decide +kernel⟩
theorem p85_9 : ps_th 85 9 2 := ⟨180, 12, by decide +kernel, by decide +kernel, by decide +kernel, by decide +kernel⟩
theorem p85_12 : ps_pu 85 12 (.dup) 13 := (by decide +kernel : ps_i 85 12 = some (.dup, 13))
theorem p85_13 : ps_pu 85 13 (.ldc 201) 15 := (by decide +kernel : ps_i 85 13 = some (.ldc 201, 15))
theorem p85_18 : ps_pu 85 18 (.athrow) 19 := (by decide +kernel : ps_i 85 18 = some (.athrow, 19))
theorem p85_19 : ps_k 85 19 (Int32.ofNat 0) 20 := ⟨.iconst 0, by decide +kernel, fun _ _ => rfl⟩
theorem p85_20 : ps_si 85 20 2 21 := ⟨.istore_n 2, by decide +kernel, fun _ _ => rfl⟩
theorem p85_21 : ps_k 85 21 (Int32.ofNat 0) 22 := ⟨.iconst 0, by decide +kernel, fun _ _ => rfl⟩
theorem p85_22 : ps_si 85 22 3 23 := ⟨.istore_n 3, by decide +kernel, fun _ _ => rfl⟩
theorem p85_23 : ps_ld 85 23 3 24 := ⟨.iload_n 3, by decide +kernel, fun _ _ => rfl⟩
theorem p85_24 : ps_la 85 24 0 25 := ⟨.aload_n 0, by decide +kernel, fun _ _ => rfl⟩
theorem p85_25 : ps_gf 85 25 0 5 28 := ⟨38, 5, by decide +kernel, by decide +kernel, by decide +kernel⟩
theorem p85_28 : ps_gf 85 28 4 0 31 := ⟨137, 17, by decide +kernel, by decide +kernel, by decide +kernel⟩
theorem p85_31 : ps_vV 85 31 2 8 0 34 := ⟨96, 8, by decide +kernel, by decide +kernel, by decide +kernel, by decide +kernel, by decide +kernel⟩
theorem p85_34 : ps_j 85 34 .ge 64 37 := ⟨30, by decide +kernel, by decide +kernel, by decide +kernel⟩
theorem p85_37 : ps_ld 85 37 2 38 := ⟨.iload_n 2, by decide +kernel, fun _ _ => rfl⟩
theorem p85_38 : ps_la 85 38 0 39 := ⟨.aload_n 0, by decide +kernel, fun _ _ => rfl⟩
theorem p85_39 : ps_gf 85 39 0 5 42 := ⟨38, 5, by decide +kernel, by decide +kernel, by decide +kernel⟩
theorem p85_42 : ps_gf 85 42 4 0 45 := ⟨137, 17, by decide +kernel, by decide +kernel, by decide +kernel⟩
theorem p85_45 : ps_ld 85 45 3 46 := ⟨.iload_n 3, by decide +kernel, fun _ _ => rfl⟩
theorem p85_46 : ps_vV 85 46 2 9 1 49 := ⟨113, 9, by decide +kernel, by decide +kernel, by decide +kernel, by decide +kernel, by decide +kernel⟩
theorem p85_49 : ps_ck 85 49 6 52 := ⟨207, by decide +kernel, by decide +kernel⟩
theorem p85_52 : ps_la 85 52 1 53 := ⟨.aload_n 1, by decide +kernel, fun _ _ => rfl⟩
theorem p85_53 : ps_vV 85 53 6 87 1 56 := ⟨209, 87, by decide +kernel, by decide +kernel, by decide +kernel, by decide +kernel, by decide +kernel⟩
theorem p85_56 : ps_b 85 56 (· + ·) 57 := ⟨.iadd, by decide +kernel, fun _ _ => rfl⟩
theorem p85_57 : ps_si 85 57 2 58 := ⟨.istore_n 2, by decide +kernel, fun _ _ => rfl⟩
theorem p85_58 : ps_pu 85 58 (.iinc 3 ((1 : Nat) : Int)) 61 := (by decide +kernel : ps_i 85 58 = some (.iinc 3 ((1 : Nat) : Int), 61))
theorem p85_61 : ps_jg 85 61 23 := ⟨(-38), 64, by decide +kernel, by decide +kernel, by decide +kernel⟩
theorem p85_64 : ps_ld 85 64 2 65 := ⟨.iload_n 2, by decide +kernel, fun _ _ => rfl⟩
theorem p85_65 : ps_pu 85 65 (.ireturn) 66 := (by decide +kernel : ps_i 85 65 = some (.ireturn, 66))
theorem e85 : ∀ v0 : Value, pm_ent 85 [v0] = [some v0, none, none, none] := fun _ => rfl
theorem l85 : 1 ≤ pm_mx 85 := by decide +kernel
theorem t85 : pm_ret 85 = (some .int) := by decide +kernel
theorem p86_0 : ps_la 86 0 0 1 := ⟨.aload_n 0, by decide +kernel, fun _ _ => rfl⟩
theorem p86_1 : ps_gf 86 1 0 2 4 := ⟨19, 2, by decide +kernel, by decide +kernel, by decide +kernel⟩
theorem p86_4 : ps_vV 86 4 2 35 0 7 := ⟨130, 35, by decide +kernel, by decide +kernel, by decide +kernel, by decide +kernel, by decide +kernel⟩
theorem p86_7 : ps_j0 86 7 .eq 14 10 := ⟨7, by decide +kernel, by decide +kernel, by decide +kernel⟩
theorem p86_10 : ps_pu 86 10 (.aconst_null) 11 := (by decide +kernel : ps_i 86 10 = some (.aconst_null, 11))
theorem p86_11 : ps_jg 86 11 33 := ⟨(22), 14, by decide +kernel, by decide +kernel, by decide +kernel⟩
theorem p86_14 : ps_la 86 14 0 15 := ⟨.aload_n 0, by decide +kernel, fun _ _ => rfl⟩
theorem p86_15 : ps_gf 86 15 0 2 18 := ⟨19, 2, by decide +kernel, by decide +kernel, by decide +kernel⟩
theorem p86_18 : ps_la 86 18 0 19 := ⟨.aload_n 0, by decide +kernel, fun _ _ => rfl⟩
theorem p86_19 : ps_gf 86 19 0 2 22 := ⟨19, 2, by decide +kernel, by decide +kernel, by decide +kernel⟩
theorem p86_22 : ps_vV 86 22 2 8 0 25 := ⟨96, 8, by decide +kernel, by decide +kernel, by decide +kernel, by decide +kernel, by decide +kernel⟩
theorem p86_25 : ps_k 86 25 (Int32.ofNat 1) 26 := ⟨.iconst 1, by decide +kernel, fun _ _ => rfl⟩
theorem p86_26 : ps_b 86 26 (· - ·) 27 := ⟨.isub, by decide +kernel, fun _ _ => rfl⟩
theorem p86_27 : ps_vV 86 27 2 9 1 30 := ⟨113, 9, by decide +kernel, by decide +kernel, by decide +kernel, by decide +kernel, by decide +kernel⟩
theorem p86_30 : ps_ck 86 30 7 33 := ⟨185, by decide +kernel, by decide +kernel⟩
theorem p86_30b : ps_ck 86 30 8 33 := ⟨185, by decide +kernel, by decide +kernel⟩
theorem p86_33 : ps_pu 86 33 (.areturn) 34 := (by decide +kernel : ps_i 86 33 = some (.areturn, 34))
theorem e86 : ∀ v0 : Value, pm_ent 86 [v0] = [some v0] := fun _ => rfl
theorem l86 : 1 ≤ pm_mx 86 := by decide +kernel
theorem t86 : ps_isr (pm_ret 86) = true := by decide +kernel
theorem p87_0 : ps_k 87 0 (Int32.ofNat 0) 1 := ⟨.iconst 0, by decide +kernel, fun _ _ => rfl⟩
theorem p87_1 : ps_si 87 1 2 2 := ⟨.istore_n 2, by decide +kernel, fun _ _ => rfl⟩
theorem p87_2 : ps_k 87 2 (Int32.ofNat 0) 3 := ⟨.iconst 0, by decide +kernel, fun _ _ => rfl⟩
theorem p87_3 : ps_si 87 3 3 4 := ⟨.istore_n 3, by decide +kernel, fun _ _ => rfl⟩
theorem p87_4 : ps_ld 87 4 3 5 := ⟨.iload_n 3, by decide +kernel, fun _ _ => rfl⟩
theorem p87_5 : ps_la 87 5 0 6 := ⟨.aload_n 0, by decide +kernel, fun _ _ => rfl⟩
theorem p87_6 : ps_gf 87 6 6 1 9 := ⟨13, 25, by decide +kernel, by decide +kernel, by decide +kernel⟩
theorem p87_9 : ps_vV 87 9 2 8 0 12 := ⟨27, 8, by decide +kernel, by decide +kernel, by decide +kernel, by decide +kernel, by decide +kernel⟩
theorem p87_12 : ps_j 87 12 .ge 47 15 := ⟨35, by decide +kernel, by decide +kernel, by decide +kernel⟩
theorem p87_15 : ps_ld 87 15 2 16 := ⟨.iload_n 2, by decide +kernel, fun _ _ => rfl⟩
theorem p87_16 : ps_la 87 16 1 17 := ⟨.aload_n 1, by decide +kernel, fun _ _ => rfl⟩
theorem p87_17 : ps_la 87 17 0 18 := ⟨.aload_n 0, by decide +kernel, fun _ _ => rfl⟩
theorem p87_18 : ps_gf 87 18 6 1 21 := ⟨13, 25, by decide +kernel, by decide +kernel, by decide +kernel⟩
theorem p87_21 : ps_ld 87 21 3 22 := ⟨.iload_n 3, by decide +kernel, fun _ _ => rfl⟩
theorem p87_22 : ps_vV 87 22 2 9 1 25 := ⟨31, 9, by decide +kernel, by decide +kernel, by decide +kernel, by decide +kernel, by decide +kernel⟩
theorem p87_25 : ps_ck 87 25 5 28 := ⟨35, by decide +kernel, by decide +kernel⟩
theorem p87_28 : ps_vV 87 28 7 88 1 31 := ⟨44, 88, by decide +kernel, by decide +kernel, by decide +kernel, by decide +kernel, by decide +kernel⟩
theorem p87_28b : ps_vV 87 28 8 88 1 31 := ⟨44, 88, by decide +kernel, by decide +kernel, by decide +kernel, by decide +kernel, by decide +kernel⟩
theorem p87_31 : ps_j0 87 31 .eq 38 34 := ⟨7, by decide +kernel, by decide +kernel, by decide +kernel⟩
theorem p87_34 : ps_k 87 34 (Int32.ofNat 1) 35 := ⟨.iconst 1, by decide +kernel, fun _ _ => rfl⟩
theorem p87_35 : ps_jg 87 35 39 := ⟨(4), 38, by decide +kernel, by decide +kernel, by decide +kernel⟩
theorem p87_38 : ps_k 87 38 (Int32.ofNat 0) 39 := ⟨.iconst 0, by decide +kernel, fun _ _ => rfl⟩
theorem p87_39 : ps_b 87 39 (· + ·) 40 := ⟨.iadd, by decide +kernel, fun _ _ => rfl⟩
theorem p87_40 : ps_si 87 40 2 41 := ⟨.istore_n 2, by decide +kernel, fun _ _ => rfl⟩
theorem p87_41 : ps_pu 87 41 (.iinc 3 ((1 : Nat) : Int)) 44 := (by decide +kernel : ps_i 87 41 = some (.iinc 3 ((1 : Nat) : Int), 44))
theorem p87_44 : ps_jg 87 44 4 := ⟨(-40), 47, by decide +kernel, by decide +kernel, by decide +kernel⟩
theorem p87_47 : ps_ld 87 47 2 48 := ⟨.iload_n 2, by decide +kernel, fun _ _ => rfl⟩
theorem p87_48 : ps_pu 87 48 (.ireturn) 49 := (by decide +kernel : ps_i 87 48 = some (.ireturn, 49))
theorem e87 : ∀ v0 v1 : Value, pm_ent 87 [v0, v1] = [some v0, some v1, none, none] := fun _ _ => rfl
theorem l87 : 2 ≤ pm_mx 87 := by decide +kernel
theorem t87 : pm_ret 87 = (some .int) := by decide +kernel
theorem p88_0 : ps_la 88 0 1 1 := ⟨.aload_n 1, by decide +kernel, fun _ _ => rfl⟩
theorem p88_1 : ps_gf 88 1 5 4 4 := ⟨13, 23, by decide +kernel, by decide +kernel, by decide +kernel⟩
theorem p88_4 : ps_j0 88 4 .ne 19 7 := ⟨15, by decide +kernel, by decide +kernel, by decide +kernel⟩
theorem p88_7 : ps_la 88 7 0 8 := ⟨.aload_n 0, by decide +kernel, fun _ _ => rfl⟩
theorem p88_8 : ps_la 88 8 1 9 := ⟨.aload_n 1, by decide +kernel, fun _ _ => rfl⟩
theorem p88_9 : ps_vV 88 9 7 90 1 12 := ⟨19, 141, by decide +kernel, by decide +kernel, by decide +kernel, by decide +kernel, by decide +kernel⟩
theorem p88_9b : ps_vV 88 9 8 89 1 12 := ⟨19, 141, by decide +kernel, by decide +kernel, by decide +kernel, by decide +kernel, by decide +kernel⟩
theorem p88_12 : ps_j0 88 12 .eq 19 15 := ⟨7, by decide +kernel, by decide +kernel, by decide +kernel⟩
theorem p88_15 : ps_k 88 15 (Int32.ofNat 1) 16 := ⟨.iconst 1, by decide +kernel, fun _ _ => rfl⟩
theorem p88_16 : ps_jg 88 16 20 := ⟨(4), 19, by decide +kernel, by decide +kernel, by decide +kernel⟩
theorem p88_19 : ps_k 88 19 (Int32.ofNat 0) 20 := ⟨.iconst 0, by decide +kernel, fun _ _ => rfl⟩
theorem p88_20 : ps_pu 88 20 (.ireturn) 21 := (by decide +kernel : ps_i 88 20 = some (.ireturn, 21))
theorem e88 : ∀ v0 v1 : Value, pm_ent 88 [v0, v1] = [some v0, some v1] := fun _ _ => rfl
theorem l88 : 2 ≤ pm_mx 88 := by decide +kernel
theorem t88 : pm_ret 88 = (some .boolean) := by decide +kernel
theorem p89_0 : ps_la 89 0 0 1 := ⟨.aload_n 0, by decide +kernel, fun _ _ => rfl⟩
theorem p89_1 : ps_gf 89 1 8 1 4 := ⟨18, 30, by decide +kernel, by decide +kernel, by decide +kernel⟩
theorem p89_4 : ps_la 89 4 1 5 := ⟨.aload_n 1, by decide +kernel, fun _ _ => rfl⟩
theorem p89_5 : ps_vV 89 5 7 90 1 8 := ⟨25, 141, by decide +kernel, by decide +kernel, by decide +kernel, by decide +kernel, by decide +kernel⟩
theorem p89_5b : ps_vV 89 5 8 89 1 8 := ⟨25, 141, by decide +kernel, by decide +kernel, by decide +kernel, by decide +kernel, by decide +kernel⟩
theorem p89_8 : ps_si 89 8 2 9 := ⟨.istore_n 2, by decide +kernel, fun _ _ => rfl⟩
theorem p89_9 : ps_la 89 9 0 10 := ⟨.aload_n 0, by decide +kernel, fun _ _ => rfl⟩
theorem p89_10 : ps_gf 89 10 8 2 13 := ⟨22, 31, by decide +kernel, by decide +kernel, by decide +kernel⟩
theorem p89_13 : ps_la 89 13 1 14 := ⟨.aload_n 1, by decide +kernel, fun _ _ => rfl⟩
theorem p89_14 : ps_vV 89 14 7 90 1 17 := ⟨25, 141, by decide +kernel, by decide +kernel, by decide +kernel, by decide +kernel, by decide +kernel⟩
theorem p89_14b : ps_vV 89 14 8 89 1 17 := ⟨25, 141, by decide +kernel, by decide +kernel, by decide +kernel, by decide +kernel, by decide +kernel⟩
theorem p89_17 : ps_si 89 17 3 18 := ⟨.istore_n 3, by decide +kernel, fun _ _ => rfl⟩
theorem p89_18 : ps_la 89 18 0 19 := ⟨.aload_n 0, by decide +kernel, fun _ _ => rfl⟩
theorem p89_19 : ps_gf 89 19 8 0 22 := ⟨13, 29, by decide +kernel, by decide +kernel, by decide +kernel⟩
theorem p89_22 : ps_pu 89 22 (.tableswitch 66 0 3 #[30, 46, 50, 60]) 52 := (by decide +kernel : ps_i 89 22 = some (.tableswitch 66 0 3 #[30, 46, 50, 60], 52))
theorem p89_52 : ps_ld 89 52 2 53 := ⟨.iload_n 2, by decide +kernel, fun _ _ => rfl⟩
theorem p89_53 : ps_j0 89 53 .eq 66 56 := ⟨13, by decide +kernel, by decide +kernel, by decide +kernel⟩
theorem p89_56 : ps_ld 89 56 3 57 := ⟨.iload_n 3, by decide +kernel, fun _ _ => rfl⟩
theorem p89_57 : ps_j0 89 57 .eq 66 60 := ⟨9, by decide +kernel, by decide +kernel, by decide +kernel⟩
theorem p89_60 : ps_ld 89 60 2 61 := ⟨.iload_n 2, by decide +kernel, fun _ _ => rfl⟩
theorem p89_61 : ps_ld 89 61 3 62 := ⟨.iload_n 3, by decide +kernel, fun _ _ => rfl⟩
theorem p89_62 : ps_b 89 62 (· ||| ·) 63 := ⟨.ior, by decide +kernel, fun _ _ => rfl⟩
theorem p89_63 : ps_jg 89 63 67 := ⟨(4), 66, by decide +kernel, by decide +kernel, by decide +kernel⟩
theorem p89_66 : ps_k 89 66 (Int32.ofNat 0) 67 := ⟨.iconst 0, by decide +kernel, fun _ _ => rfl⟩
theorem p89_67 : ps_pu 89 67 (.ireturn) 68 := (by decide +kernel : ps_i 89 67 = some (.ireturn, 68))
theorem p89_68 : ps_ld 89 68 2 69 := ⟨.iload_n 2, by decide +kernel, fun _ _ => rfl⟩
theorem p89_69 : ps_ld 89 69 3 70 := ⟨.iload_n 3, by decide +kernel, fun _ _ => rfl⟩
theorem p89_70 : ps_b 89 70 (· ||| ·) 71 := ⟨.ior, by decide +kernel, fun _ _ => rfl⟩
theorem p89_71 : ps_pu 89 71 (.ireturn) 72 := (by decide +kernel : ps_i 89 71 = some (.ireturn, 72))
theorem p89_72 : ps_ld 89 72 3 73 := ⟨.iload_n 3, by decide +kernel, fun _ _ => rfl⟩
theorem p89_73 : ps_j0 89 73 .ne 80 76 := ⟨7, by decide +kernel, by decide +kernel, by decide +kernel⟩
theorem p89_76 : ps_ld 89 76 2 77 := ⟨.iload_n 2, by decide +kernel, fun _ _ => rfl⟩
theorem p89_77 : ps_jg 89 77 81 := ⟨(4), 80, by decide +kernel, by decide +kernel, by decide +kernel⟩
theorem p89_80 : ps_k 89 80 (Int32.ofNat 0) 81 := ⟨.iconst 0, by decide +kernel, fun _ _ => rfl⟩
theorem p89_81 : ps_pu 89 81 (.ireturn) 82 := (by decide +kernel : ps_i 89 81 = some (.ireturn, 82))
theorem p89_82 : ps_ld 89 82 3 83 := ⟨.iload_n 3, by decide +kernel, fun _ _ => rfl⟩
theorem p89_83 : ps_ld 89 83 2 84 := ⟨.iload_n 2, by decide +kernel, fun _ _ => rfl⟩
theorem p89_84 : ps_k 89 84 (Int32.ofNat 1) 85 := ⟨.iconst 1, by decide +kernel, fun _ _ => rfl⟩
theorem p89_85 : ps_b 89 85 (fun x y => x <<< (y &&& 31)) 86 := ⟨.ishl, by decide +kernel, fun _ _ => rfl⟩
theorem p89_86 : ps_b 89 86 (· &&& ·) 87 := ⟨.iand, by decide +kernel, fun _ _ => rfl⟩
theorem p89_87 : ps_pu 89 87 (.ireturn) 88 := (by decide +kernel : ps_i 89 87 = some (.ireturn, 88))
theorem p89_88 : ps_ld 89 88 3 89 := ⟨.iload_n 3, by decide +kernel, fun _ _ => rfl⟩
theorem p89_89 : ps_ld 89 89 2 90 := ⟨.iload_n 2, by decide +kernel, fun _ _ => rfl⟩
theorem p89_90 : ps_la 89 90 0 91 := ⟨.aload_n 0, by decide +kernel, fun _ _ => rfl⟩
theorem p89_91 : ps_gf 89 91 8 0 94 := ⟨13, 29, by decide +kernel, by decide +kernel, by decide +kernel⟩
theorem p89_94 : ps_k 89 94 (Int32.ofNat 3) 95 := ⟨.iconst 3, by decide +kernel, fun _ _ => rfl⟩
theorem p89_95 : ps_b 89 95 (· - ·) 96 := ⟨.isub, by decide +kernel, fun _ _ => rfl⟩
theorem p89_96 : ps_vS 89 96 91 2 99 := ⟨29, by decide +kernel, by decide +kernel, by decide +kernel, by decide +kernel⟩
theorem p89_99 : ps_b 89 99 (· &&& ·) 100 := ⟨.iand, by decide +kernel, fun _ _ => rfl⟩
theorem p89_100 : ps_pu 89 100 (.ireturn) 101 := (by decide +kernel : ps_i 89 100 = some (.ireturn, 101))
theorem e89 : ∀ v0 v1 : Value, pm_ent 89 [v0, v1] = [some v0, some v1, none, none] := fun _ _ => rfl
theorem l89 : 2 ≤ pm_mx 89 := by decide +kernel
theorem t89 : pm_ret 89 = (some .int) := by decide +kernel
theorem p90_0 : ps_la 90 0 1 1 := ⟨.aload_n 1, by decide +kernel, fun _ _ => rfl⟩
theorem p90_1 : ps_gf 90 1 5 2 4 := ⟨13, 21, by decide +kernel, by decide +kernel, by decide +kernel⟩
theorem p90_4 : ps_la 90 4 0 5 := ⟨.aload_n 0, by decide +kernel, fun _ _ => rfl⟩
theorem p90_5 : ps_gf 90 5 7 0 8 := ⟨7, 27, by decide +kernel, by decide +kernel, by decide +kernel⟩
theorem p90_8 : ps_pu 90 8 (.iaload) 9 := (by decide +kernel : ps_i 90 8 = some (.iaload, 9))
theorem p90_9 : ps_pu 90 9 (.ireturn) 10 := (by decide +kernel : ps_i 90 9 = some (.ireturn, 10))
theorem e90 : ∀ v0 v1 : Value, pm_ent 90 [v0, v1] = [some v0, some v1] := fun _ _ => rfl
theorem l90 : 2 ≤ pm_mx 90 := by decide +kernel
theorem t90 : pm_ret 90 = (some .int) := by decide +kernel
theorem p91_0 : ps_k 91 0 (Int32.ofNat 0) 1 := ⟨.iconst 0, by decide +kernel, fun _ _ => rfl⟩
theorem p91_1 : ps_si 91 1 2 2 := ⟨.istore_n 2, by decide +kernel, fun _ _ => rfl⟩
theorem p91_2 : ps_k 91 2 (Int32.ofNat 1) 3 := ⟨.iconst 1, by decide +kernel, fun _ _ => rfl⟩
theorem p91_3 : ps_si 91 3 3 4 := ⟨.istore_n 3, by decide +kernel, fun _ _ => rfl⟩
theorem p91_4 : ps_ld 91 4 3 5 := ⟨.iload_n 3, by decide +kernel, fun _ _ => rfl⟩
theorem p91_5 : ps_ld 91 5 1 6 := ⟨.iload_n 1, by decide +kernel, fun _ _ => rfl⟩
theorem p91_6 : ps_j 91 6 .gt 25 9 := ⟨19, by decide +kernel, by decide +kernel, by decide +kernel⟩
theorem p91_9 : ps_ld 91 9 2 10 := ⟨.iload_n 2, by decide +kernel, fun _ _ => rfl⟩
theorem p91_10 : ps_ld 91 10 0 11 := ⟨.iload_n 0, by decide +kernel, fun _ _ => rfl⟩
theorem p91_11 : ps_ld 91 11 3 12 := ⟨.iload_n 3, by decide +kernel, fun _ _ => rfl⟩
theorem p91_12 : ps_b 91 12 (fun x y => x <<< (y &&& 31)) 13 := ⟨.ishl, by decide +kernel, fun _ _ => rfl⟩
theorem p91_13 : ps_ld 91 13 0 14 := ⟨.iload_n 0, by decide +kernel, fun _ _ => rfl⟩
theorem p91_14 : ps_ld 91 14 3 15 := ⟨.iload_n 3, by decide +kernel, fun _ _ => rfl⟩
theorem p91_15 : ps_b 91 15 (fun x y => x >>> (y &&& 31)) 16 := ⟨.ishr, by decide +kernel, fun _ _ => rfl⟩
theorem p91_16 : ps_b 91 16 (· ||| ·) 17 := ⟨.ior, by decide +kernel, fun _ _ => rfl⟩
theorem p91_17 : ps_b 91 17 (· ||| ·) 18 := ⟨.ior, by decide +kernel, fun _ _ => rfl⟩
theorem p91_18 : ps_si 91 18 2 19 := ⟨.istore_n 2, by decide +kernel, fun _ _ => rfl⟩
theorem p91_19 : ps_pu 91 19 (.iinc 3 ((1 : Nat) : Int)) 22 := (by decide +kernel : ps_i 91 19 = some (.iinc 3 ((1 : Nat) : Int), 22))
theorem p91_22 : ps_jg 91 22 4 := ⟨(-18), 25, by decide +kernel, by decide +kernel, by decide +kernel⟩
theorem p91_25 : ps_ld 91 25 2 26 := ⟨.iload_n 2, by decide +kernel, fun _ _ => rfl⟩
theorem p91_26 : ps_pu 91 26 (.ireturn) 27 := (by decide +kernel : ps_i 91 26 = some (.ireturn, 27))
theorem e91 : ∀ v0 v1 : Value, pm_ent 91 [v0, v1] = [some v0, some v1, none, none] := fun _ _ => rfl
theorem l91 : 2 ≤ pm_mx 91 := by decide +kernel
theorem t91 : pm_ret 91 = (some .int) := by decide +kernel
theorem p92_0 : ps_la 92 0 2 1 := ⟨.aload_n 2, by decide +kernel, fun _ _ => rfl⟩
theorem p92_1 : ps_k 92 1 (Int32.ofNat 0) 2 := ⟨.iconst 0, by decide +kernel, fun _ _ => rfl⟩
theorem p92_2 : ps_la 92 2 0 3 := ⟨.aload_n 0, by decide +kernel, fun _ _ => rfl⟩
theorem p92_3 : ps_ld 92 3 1 4 := ⟨.iload_n 1, by decide +kernel, fun _ _ => rfl⟩
theorem p92_4 : ps_vV 92 4 0 93 1 7 := ⟨42, 93, by decide +kernel, by decide +kernel, by decide +kernel, by decide +kernel, by decide +kernel⟩
theorem p92_7 : ps_pu 92 7 (.i2l) 8 := (by decide +kernel : ps_i 92 7 = some (.i2l, 8))
theorem p92_8 : ps_pu 92 8 (.lastore) 9 := (by decide +kernel : ps_i 92 8 = some (.lastore, 9))
theorem p92_9 : ps_jg 92 9 15 := ⟨(6), 12, by decide +kernel, by decide +kernel, by decide +kernel⟩
theorem p92_12 : ps_sa 92 12 3 13 := ⟨.astore_n 3, by decide +kernel, fun _ _ => rfl⟩
theorem p92_13 : ps_k 92 13 (Int32.ofNat 1) 14 := ⟨.iconst 1, by decide +kernel, fun _ _ => rfl⟩
theorem p92_14 : ps_pu 92 14 (.ireturn) 15 := (by decide +kernel : ps_i 92 14 = some (.ireturn, 15))
theorem p92_15 : ps_k 92 15 (Int32.ofNat 0) 16 := ⟨.iconst 0, by decide +kernel, fun _ _ => rfl⟩
theorem p92_16 : ps_pu 92 16 (.ireturn) 17 := (by decide +kernel : ps_i 92 16 = some (.ireturn, 17))
theorem e92 : ∀ v0 v1 v2 : Value, pm_ent 92 [v0, v1, v2] = [some v0, some v1, some v2, none] := fun _ _ _ => rfl
theorem l92 : 3 ≤ pm_mx 92 := by decide +kernel
theorem t92 : pm_ret 92 = (some .int) := by decide +kernel
theorem p93_0 : ps_la 93 0 0 1 := ⟨.aload_n 0, by decide +kernel, fun _ _ => rfl⟩
theorem p93_1 : ps_vV 93 1 0 86 0 4 := ⟨203, 86, by decide +kernel, by decide +kernel, by decide +kernel, by decide +kernel, by decide +kernel⟩
theorem p93_4 : ps_sa 93 4 2 5 := ⟨.astore_n 2, by decide +kernel, fun _ _ => rfl⟩
theorem p93_5 : ps_la 93 5 2 6 := ⟨.aload_n 2, by decide +kernel, fun _ _ => rfl⟩
theorem p93_6 : ps_jn 93 6 true 13 9 := ⟨(7), by decide +kernel, by decide +kernel, by decide +kernel⟩
theorem p93_9 : ps_ld 93 9 1 10 := ⟨.iload_n 1, by decide +kernel, fun _ _ => rfl⟩
theorem p93_10 : ps_j0 93 10 .ge 17 13 := ⟨7, by decide +kernel, by decide +kernel, by decide +kernel⟩
theorem p93_13 : ps_pu 93 13 (.aconst_null) 14 := (by decide +kernel : ps_i 93 13 = some (.aconst_null, 14))
theorem p93_14 : ps_jg 93 14 26 := ⟨(12), 17, by decide +kernel, by decide +kernel, by decide +kernel⟩
theorem p93_17 : ps_la 93 17 0 18 := ⟨.aload_n 0, by decide +kernel, fun _ _ => rfl⟩
theorem p93_18 : ps_gf 93 18 0 5 21 := ⟨38, 5, by decide +kernel, by decide +kernel, by decide +kernel⟩
theorem p93_21 : ps_la 93 21 2 22 := ⟨.aload_n 2, by decide +kernel, fun _ _ => rfl⟩
theorem p93_22 : ps_ld 93 22 1 23 := ⟨.iload_n 1, by decide +kernel, fun _ _ => rfl⟩
theorem p93_23 : ps_vV 93 23 4 94 2 26 := ⟨213, 94, by decide +kernel, by decide +kernel, by decide +kernel, by decide +kernel, by decide +kernel⟩
theorem p93_26 : ps_sa 93 26 3 27 := ⟨.astore_n 3, by decide +kernel, fun _ _ => rfl⟩
theorem p93_27 : ps_la 93 27 3 28 := ⟨.aload_n 3, by decide +kernel, fun _ _ => rfl⟩
theorem p93_28 : ps_jn 93 28 false 41 31 := ⟨(13), by decide +kernel, by decide +kernel, by decide +kernel⟩
theorem p93_31 : ps_th 93 31 2 := ⟨180, 34, by decide +kernel, by decide +kernel, by decide +kernel, by decide +kernel⟩
theorem p93_34 : ps_pu 93 34 (.dup) 35 := (by decide +kernel : ps_i 93 34 = some (.dup, 35))
theorem p93_35 : ps_pu 93 35 (.ldc 217) 37 := (by decide +kernel : ps_i 93 35 = some (.ldc 217, 37))
theorem p93_40 : ps_pu 93 40 (.athrow) 41 := (by decide +kernel : ps_i 93 40 = some (.athrow, 41))
theorem p93_41 : ps_la 93 41 3 42 := ⟨.aload_n 3, by decide +kernel, fun _ _ => rfl⟩
theorem p93_42 : ps_gf 93 42 5 0 45 := ⟨117, 19, by decide +kernel, by decide +kernel, by decide +kernel⟩
theorem p93_45 : ps_pu 93 45 (.ireturn) 46 := (by decide +kernel : ps_i 93 45 = some (.ireturn, 46))
theorem e93 : ∀ v0 v1 : Value, pm_ent 93 [v0, v1] = [some v0, some v1, none, none] := fun _ _ => rfl
theorem l93 : 2 ≤ pm_mx 93 := by decide +kernel
theorem t93 : pm_ret 93 = (some .int) := by decide +kernel
theorem p94_0 : ps_ld 94 0 2 1 := ⟨.iload_n 2, by decide +kernel, fun _ _ => rfl⟩
theorem p94_1 : ps_si 94 1 3 2 := ⟨.istore_n 3, by decide +kernel, fun _ _ => rfl⟩
theorem p94_2 : ps_k 94 2 (Int32.ofNat 0) 3 := ⟨.iconst 0, by decide +kernel, fun _ _ => rfl⟩
theorem p94_3 : ps_si 94 3 4 5 := ⟨.istore 4, by decide +kernel, fun _ _ => rfl⟩
theorem p94_5 : ps_ld 94 5 4 7 := ⟨.iload 4, by decide +kernel, fun _ _ => rfl⟩
theorem p94_7 : ps_la 94 7 0 8 := ⟨.aload_n 0, by decide +kernel, fun _ _ => rfl⟩
theorem p94_8 : ps_gf 94 8 4 0 11 := ⟨12, 17, by decide +kernel, by decide +kernel, by decide +kernel⟩
theorem p94_11 : ps_vV 94 11 2 8 0 14 := ⟨31, 8, by decide +kernel, by decide +kernel, by decide +kernel, by decide +kernel, by decide +kernel⟩
theorem p94_14 : ps_j 94 14 .ge 94 17 := ⟨80, by decide +kernel, by decide +kernel, by decide +kernel⟩
theorem p94_17 : ps_la 94 17 0 18 := ⟨.aload_n 0, by decide +kernel, fun _ _ => rfl⟩
theorem p94_18 : ps_gf 94 18 4 0 21 := ⟨12, 17, by decide +kernel, by decide +kernel, by decide +kernel⟩
theorem p94_21 : ps_ld 94 21 4 23 := ⟨.iload 4, by decide +kernel, fun _ _ => rfl⟩
theorem p94_23 : ps_vV 94 23 2 9 1 26 := ⟨35, 9, by decide +kernel, by decide +kernel, by decide +kernel, by decide +kernel, by decide +kernel⟩
theorem p94_26 : ps_ck 94 26 6 29 := ⟨39, by decide +kernel, by decide +kernel⟩
theorem p94_29 : ps_gf 94 29 6 1 32 := ⟨54, 25, by decide +kernel, by decide +kernel, by decide +kernel⟩
theorem p94_32 : ps_sa 94 32 5 34 := ⟨.astore 5, by decide +kernel, fun _ _ => rfl⟩
theorem p94_34 : ps_k 94 34 (Int32.ofNat 0) 35 := ⟨.iconst 0, by decide +kernel, fun _ _ => rfl⟩
theorem p94_35 : ps_si 94 35 6 37 := ⟨.istore 6, by decide +kernel, fun _ _ => rfl⟩
theorem p94_37 : ps_ld 94 37 6 39 := ⟨.iload 6, by decide +kernel, fun _ _ => rfl⟩
theorem p94_39 : ps_la 94 39 5 41 := ⟨.aload 5, by decide +kernel, fun _ _ => rfl⟩
theorem p94_41 : ps_vV 94 41 2 8 0 44 := ⟨31, 8, by decide +kernel, by decide +kernel, by decide +kernel, by decide +kernel, by decide +kernel⟩
theorem p94_44 : ps_j 94 44 .ge 88 47 := ⟨44, by decide +kernel, by decide +kernel, by decide +kernel⟩
theorem p94_47 : ps_la 94 47 1 48 := ⟨.aload_n 1, by decide +kernel, fun _ _ => rfl⟩
theorem p94_48 : ps_la 94 48 5 50 := ⟨.aload 5, by decide +kernel, fun _ _ => rfl⟩
theorem p94_50 : ps_ld 94 50 6 52 := ⟨.iload 6, by decide +kernel, fun _ _ => rfl⟩
theorem p94_52 : ps_vV 94 52 2 9 1 55 := ⟨35, 9, by decide +kernel, by decide +kernel, by decide +kernel, by decide +kernel, by decide +kernel⟩
theorem p94_55 : ps_ck 94 55 5 58 := ⟨57, by decide +kernel, by decide +kernel⟩
theorem p94_58 : ps_vV 94 58 7 88 1 61 := ⟨66, 88, by decide +kernel, by decide +kernel, by decide +kernel, by decide +kernel, by decide +kernel⟩
theorem p94_58b : ps_vV 94 58 8 88 1 61 := ⟨66, 88, by decide +kernel, by decide +kernel, by decide +kernel, by decide +kernel, by decide +kernel⟩
theorem p94_61 : ps_j0 94 61 .eq 82 64 := ⟨21, by decide +kernel, by decide +kernel, by decide +kernel⟩
theorem p94_64 : ps_ld 94 64 3 65 := ⟨.iload_n 3, by decide +kernel, fun _ _ => rfl⟩
theorem p94_65 : ps_j0 94 65 .ne 79 68 := ⟨14, by decide +kernel, by decide +kernel, by decide +kernel⟩
theorem p94_68 : ps_la 94 68 5 70 := ⟨.aload 5, by decide +kernel, fun _ _ => rfl⟩
theorem p94_70 : ps_ld 94 70 6 72 := ⟨.iload 6, by decide +kernel, fun _ _ => rfl⟩
theorem p94_72 : ps_vV 94 72 2 9 1 75 := ⟨35, 9, by decide +kernel, by decide +kernel, by decide +kernel, by decide +kernel, by decide +kernel⟩
theorem p94_75 : ps_ck 94 75 5 78 := ⟨57, by decide +kernel, by decide +kernel⟩
theorem p94_78 : ps_pu 94 78 (.areturn) 79 := (by decide +kernel : ps_i 94 78 = some (.areturn, 79))
theorem p94_79 : ps_pu 94 79 (.iinc 3 (-1)) 82 := (by decide +kernel : ps_i 94 79 = some (.iinc 3 (-1), 82))
theorem p94_82 : ps_pu 94 82 (.iinc 6 ((1 : Nat) : Int)) 85 := (by decide +kernel : ps_i 94 82 = some (.iinc 6 ((1 : Nat) : Int), 85))
theorem p94_85 : ps_jg 94 85 37 := ⟨(-48), 88, by decide +kernel, by decide +kernel, by decide +kernel⟩
theorem p94_88 : ps_pu 94 88 (.iinc 4 ((1 : Nat) : Int)) 91 := (by decide +kernel : ps_i 94 88 = some (.iinc 4 ((1 : Nat) : Int), 91))
theorem p94_91 : ps_jg 94 91 5 := ⟨(-86), 94, by decide +kernel, by decide +kernel, by decide +kernel⟩
theorem p94_94 : ps_pu 94 94 (.aconst_null) 95 := (by decide +kernel : ps_i 94 94 = some (.aconst_null, 95))
theorem p94_95 : ps_pu 94 95 (.areturn) 96 := (by decide +kernel : ps_i 94 95 = some (.areturn, 96))
theorem e94 : ∀ v0 v1 v2 : Value, pm_ent 94 [v0, v1, v2] = [some v0, some v1, some v2, none, none, none, none] := fun _ _ _ => rfl
theorem l94 : 3 ≤ pm_mx 94 := by decide +kernel
theorem t94 : ps_isr (pm_ret 94) = true := by decide +kernel
theorem p95_0 : ps_la 95 0 2 1 := ⟨.aload_n 2, by decide +kernel, fun _ _ => rfl⟩
theorem p95_1 : ps_k 95 1 (Int32.ofNat 0) 2 := ⟨.iconst 0, by decide +kernel, fun _ _ => rfl⟩
theorem p95_2 : ps_la 95 2 0 3 := ⟨.aload_n 0, by decide +kernel, fun _ _ => rfl⟩
theorem p95_3 : ps_ld 95 3 1 4 := ⟨.iload_n 1, by decide +kernel, fun _ _ => rfl⟩
theorem p95_4 : ps_vV 95 4 0 96 1 7 := ⟨45, 96, by decide +kernel, by decide +kernel, by decide +kernel, by decide +kernel, by decide +kernel⟩
theorem p95_7 : ps_pu 95 7 (.i2l) 8 := (by decide +kernel : ps_i 95 7 = some (.i2l, 8))
theorem p95_8 : ps_pu 95 8 (.lastore) 9 := (by decide +kernel : ps_i 95 8 = some (.lastore, 9))
theorem p95_9 : ps_jg 95 9 15 := ⟨(6), 12, by decide +kernel, by decide +kernel, by decide +kernel⟩
theorem p95_12 : ps_sa 95 12 3 13 := ⟨.astore_n 3, by decide +kernel, fun _ _ => rfl⟩
theorem p95_13 : ps_k 95 13 (Int32.ofNat 1) 14 := ⟨.iconst 1, by decide +kernel, fun _ _ => rfl⟩
theorem p95_14 : ps_pu 95 14 (.ireturn) 15 := (by decide +kernel : ps_i 95 14 = some (.ireturn, 15))
theorem p95_15 : ps_k 95 15 (Int32.ofNat 0) 16 := ⟨.iconst 0, by decide +kernel, fun _ _ => rfl⟩
theorem p95_16 : ps_pu 95 16 (.ireturn) 17 := (by decide +kernel : ps_i 95 16 = some (.ireturn, 17))
theorem e95 : ∀ v0 v1 v2 : Value, pm_ent 95 [v0, v1, v2] = [some v0, some v1, some v2, none] := fun _ _ _ => rfl
theorem l95 : 3 ≤ pm_mx 95 := by decide +kernel
theorem t95 : pm_ret 95 = (some .int) := by decide +kernel
theorem p96_0 : ps_la 96 0 0 1 := ⟨.aload_n 0, by decide +kernel, fun _ _ => rfl⟩
theorem p96_1 : ps_vV 96 1 0 86 0 4 := ⟨203, 86, by decide +kernel, by decide +kernel, by decide +kernel, by decide +kernel, by decide +kernel⟩
theorem p96_4 : ps_sa 96 4 2 5 := ⟨.astore_n 2, by decide +kernel, fun _ _ => rfl⟩
theorem p96_5 : ps_la 96 5 2 6 := ⟨.aload_n 2, by decide +kernel, fun _ _ => rfl⟩
theorem p96_6 : ps_jn 96 6 false 19 9 := ⟨(13), by decide +kernel, by decide +kernel, by decide +kernel⟩
theorem p96_9 : ps_th 96 9 2 := ⟨180, 12, by decide +kernel, by decide +kernel, by decide +kernel, by decide +kernel⟩
theorem p96_12 : ps_pu 96 12 (.dup) 13 := (by decide +kernel : ps_i 96 12 = some (.dup, 13))
theorem p96_13 : ps_pu 96 13 (.ldc 201) 15 := (by decide +kernel : ps_i 96 13 = some (.ldc 201, 15))
theorem p96_18 : ps_pu 96 18 (.athrow) 19 := (by decide +kernel : ps_i 96 18 = some (.athrow, 19))
theorem p96_19 : ps_la 96 19 0 20 := ⟨.aload_n 0, by decide +kernel, fun _ _ => rfl⟩
theorem p96_20 : ps_gf 96 20 0 5 23 := ⟨38, 5, by decide +kernel, by decide +kernel, by decide +kernel⟩
theorem p96_23 : ps_ld 96 23 1 24 := ⟨.iload_n 1, by decide +kernel, fun _ _ => rfl⟩
theorem p96_24 : ps_vV 96 24 4 15 1 27 := ⟨123, 15, by decide +kernel, by decide +kernel, by decide +kernel, by decide +kernel, by decide +kernel⟩
theorem p96_27 : ps_sa 96 27 3 28 := ⟨.astore_n 3, by decide +kernel, fun _ _ => rfl⟩
theorem p96_28 : ps_la 96 28 3 29 := ⟨.aload_n 3, by decide +kernel, fun _ _ => rfl⟩
theorem p96_29 : ps_jn 96 29 false 37 32 := ⟨(8), by decide +kernel, by decide +kernel, by decide +kernel⟩
theorem p96_32 : ps_k 96 32 (-2 : Int32) 34 := ⟨.bipush (-2), by decide +kernel, fun _ _ => rfl⟩
theorem p96_34 : ps_jg 96 34 42 := ⟨(8), 37, by decide +kernel, by decide +kernel, by decide +kernel⟩
theorem p96_37 : ps_la 96 37 2 38 := ⟨.aload_n 2, by decide +kernel, fun _ _ => rfl⟩
theorem p96_38 : ps_la 96 38 3 39 := ⟨.aload_n 3, by decide +kernel, fun _ _ => rfl⟩
theorem p96_39 : ps_vV 96 39 7 90 1 42 := ⟨219, 141, by decide +kernel, by decide +kernel, by decide +kernel, by decide +kernel, by decide +kernel⟩
theorem p96_39b : ps_vV 96 39 8 89 1 42 := ⟨219, 141, by decide +kernel, by decide +kernel, by decide +kernel, by decide +kernel, by decide +kernel⟩
theorem p96_42 : ps_pu 96 42 (.ireturn) 43 := (by decide +kernel : ps_i 96 42 = some (.ireturn, 43))
theorem e96 : ∀ v0 v1 : Value, pm_ent 96 [v0, v1] = [some v0, some v1, none, none] := fun _ _ => rfl
theorem l96 : 2 ≤ pm_mx 96 := by decide +kernel
theorem t96 : pm_ret 96 = (some .int) := by decide +kernel
