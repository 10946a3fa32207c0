/-! What stands at each place of the methods 97 to 139. Printed by a program. -/
theorem p97_0 : ps_la 97 0 0 1 := ⟨.aload_n 0, by decide +kernel, fun _ _ => rfl⟩
theorem p97_1 : ps_vN 97 1 2 4 := ⟨.invokespecial 1, by decide +kernel, fun _ _ => rfl, fun _ => rfl, fun _ _ _ => rfl, by decide +kernel⟩
theorem p97_4 : ps_la 97 4 0 5 := ⟨.aload_n 0, by decide +kernel, fun _ _ => rfl⟩
theorem p97_5 : ps_k 97 5 (Int32.ofNat 8) 7 := ⟨.bipush 8, by decide +kernel, fun _ _ => rfl⟩
theorem p97_7 : ps_pu 97 7 (.newarray .int) 9 := (by decide +kernel : ps_i 97 7 = some (.newarray .int, 9))
theorem p97_9 : ps_pf 97 9 9 3 (.array .int) 12 := ⟨7, 35, by decide +kernel, by decide +kernel, by decide +kernel, by decide +kernel, by decide +kernel⟩
theorem p97_12 : ps_la 97 12 0 13 := ⟨.aload_n 0, by decide +kernel, fun _ _ => rfl⟩
theorem p97_13 : ps_k 97 13 (Int32.ofNat 200) 16 := ⟨.sipush 200, by decide +kernel, fun _ _ => rfl⟩
theorem p97_16 : ps_pu 97 16 (.newarray .int) 18 := (by decide +kernel : ps_i 97 16 = some (.newarray .int, 18))
theorem p97_18 : ps_pf 97 18 9 6 (.array .int) 21 := ⟨13, 38, by decide +kernel, by decide +kernel, by decide +kernel, by decide +kernel, by decide +kernel⟩
theorem p97_21 : ps_la 97 21 0 22 := ⟨.aload_n 0, by decide +kernel, fun _ _ => rfl⟩
theorem p97_22 : ps_k 97 22 (Int32.ofNat 200) 25 := ⟨.sipush 200, by decide +kernel, fun _ _ => rfl⟩
theorem p97_25 : ps_pu 97 25 (.newarray .int) 27 := (by decide +kernel : ps_i 97 25 = some (.newarray .int, 27))
theorem p97_27 : ps_pf 97 27 9 7 (.array .int) 30 := ⟨16, 39, by decide +kernel, by decide +kernel, by decide +kernel, by decide +kernel, by decide +kernel⟩
theorem p97_30 : ps_la 97 30 0 31 := ⟨.aload_n 0, by decide +kernel, fun _ _ => rfl⟩
theorem p97_31 : ps_k 97 31 (Int32.ofNat 1600) 34 := ⟨.sipush 1600, by decide +kernel, fun _ _ => rfl⟩
theorem p97_34 : ps_pu 97 34 (.newarray .int) 36 := (by decide +kernel : ps_i 97 34 = some (.newarray .int, 36))
theorem p97_36 : ps_pf 97 36 9 8 (.array .int) 39 := ⟨19, 40, by decide +kernel, by decide +kernel, by decide +kernel, by decide +kernel, by decide +kernel⟩
theorem p97_39 : ps_la 97 39 0 40 := ⟨.aload_n 0, by decide +kernel, fun _ _ => rfl⟩
theorem p97_40 : ps_k 97 40 (Int32.ofNat 200) 43 := ⟨.sipush 200, by decide +kernel, fun _ _ => rfl⟩
theorem p97_43 : ps_pu 97 43 (.newarray .int) 45 := (by decide +kernel : ps_i 97 43 = some (.newarray .int, 45))
theorem p97_45 : ps_pf 97 45 9 9 (.array .int) 48 := ⟨22, 41, by decide +kernel, by decide +kernel, by decide +kernel, by decide +kernel, by decide +kernel⟩
theorem p97_48 : ps_la 97 48 0 49 := ⟨.aload_n 0, by decide +kernel, fun _ _ => rfl⟩
theorem p97_49 : ps_k 97 49 (Int32.ofNat 200) 52 := ⟨.sipush 200, by decide +kernel, fun _ _ => rfl⟩
theorem p97_52 : ps_pu 97 52 (.newarray .boolean) 54 := (by decide +kernel : ps_i 97 52 = some (.newarray .boolean, 54))
theorem p97_54 : ps_pf 97 54 9 10 (.array .boolean) 57 := ⟨25, 42, by decide +kernel, by decide +kernel, by decide +kernel, by decide +kernel, by decide +kernel⟩
theorem p97_57 : ps_la 97 57 0 58 := ⟨.aload_n 0, by decide +kernel, fun _ _ => rfl⟩
theorem p97_58 : ps_k 97 58 (Int32.ofNat 200) 61 := ⟨.sipush 200, by decide +kernel, fun _ _ => rfl⟩
theorem p97_61 : ps_pu 97 61 (.newarray .boolean) 63 := (by decide +kernel : ps_i 97 61 = some (.newarray .boolean, 63))
theorem p97_63 : ps_pf 97 63 9 11 (.array .boolean) 66 := ⟨29, 43, by decide +kernel, by decide +kernel, by decide +kernel, by decide +kernel, by decide +kernel⟩
theorem p97_66 : ps_la 97 66 0 67 := ⟨.aload_n 0, by decide +kernel, fun _ _ => rfl⟩
theorem p97_67 : ps_k 97 67 (Int32.ofNat 200) 70 := ⟨.sipush 200, by decide +kernel, fun _ _ => rfl⟩
theorem p97_70 : ps_pu 97 70 (.newarray .boolean) 72 := (by decide +kernel : ps_i 97 70 = some (.newarray .boolean, 72))
theorem p97_72 : ps_pf 97 72 9 12 (.array .boolean) 75 := ⟨32, 44, by decide +kernel, by decide +kernel, by decide +kernel, by decide +kernel, by decide +kernel⟩
theorem p97_75 : ps_la 97 75 0 76 := ⟨.aload_n 0, by decide +kernel, fun _ _ => rfl⟩
theorem p97_76 : ps_k 97 76 (Int32.ofNat 12) 78 := ⟨.bipush 12, by decide +kernel, fun _ _ => rfl⟩
theorem p97_78 : ps_pu 97 78 (.newarray .int) 80 := (by decide +kernel : ps_i 97 78 = some (.newarray .int, 80))
theorem p97_80 : ps_pf 97 80 9 14 (.array .int) 83 := ⟨35, 46, by decide +kernel, by decide +kernel, by decide +kernel, by decide +kernel, by decide +kernel⟩
theorem p97_83 : ps_la 97 83 0 84 := ⟨.aload_n 0, by decide +kernel, fun _ _ => rfl⟩
theorem p97_84 : ps_k 97 84 (Int32.ofNat 1) 85 := ⟨.iconst 1, by decide +kernel, fun _ _ => rfl⟩
theorem p97_85 : ps_pf 97 85 9 15 (.int) 88 := ⟨38, 47, by decide +kernel, by decide +kernel, by decide +kernel, by decide +kernel, by decide +kernel⟩
theorem p97_88 : ps_la 97 88 0 89 := ⟨.aload_n 0, by decide +kernel, fun _ _ => rfl⟩
theorem p97_89 : ps_k 97 89 (-1 : Int32) 90 := ⟨.iconst (-1), by decide +kernel, fun _ _ => rfl⟩
theorem p97_90 : ps_pf 97 90 9 17 (.int) 93 := ⟨42, 49, by decide +kernel, by decide +kernel, by decide +kernel, by decide +kernel, by decide +kernel⟩
theorem p97_93 : ps_la 97 93 0 94 := ⟨.aload_n 0, by decide +kernel, fun _ _ => rfl⟩
theorem p97_94 : ps_k 97 94 (Int32.ofNat 1400) 97 := ⟨.sipush 1400, by decide +kernel, fun _ _ => rfl⟩
theorem p97_97 : ps_pu 97 97 (.newarray .int) 99 := (by decide +kernel : ps_i 97 97 = some (.newarray .int, 99))
theorem p97_99 : ps_pf 97 99 9 18 (.array .int) 102 := ⟨45, 50, by decide +kernel, by decide +kernel, by decide +kernel, by decide +kernel, by decide +kernel⟩
theorem p97_102 : ps_la 97 102 0 103 := ⟨.aload_n 0, by decide +kernel, fun _ _ => rfl⟩
theorem p97_103 : ps_k 97 103 (Int32.ofNat 120) 105 := ⟨.bipush 120, by decide +kernel, fun _ _ => rfl⟩
theorem p97_105 : ps_pu 97 105 (.newarray .int) 107 := (by decide +kernel : ps_i 97 105 = some (.newarray .int, 107))
theorem p97_107 : ps_pf 97 107 9 21 (.array .int) 110 := ⟨48, 53, by decide +kernel, by decide +kernel, by decide +kernel, by decide +kernel, by decide +kernel⟩
theorem p97_110 : ps_la 97 110 0 111 := ⟨.aload_n 0, by decide +kernel, fun _ _ => rfl⟩
theorem p97_111 : ps_k 97 111 (Int32.ofNat 8) 113 := ⟨.bipush 8, by decide +kernel, fun _ _ => rfl⟩
theorem p97_113 : ps_pu 97 113 (.newarray .int) 115 := (by decide +kernel : ps_i 97 113 = some (.newarray .int, 115))
theorem p97_115 : ps_pf 97 115 9 22 (.array .int) 118 := ⟨51, 54, by decide +kernel, by decide +kernel, by decide +kernel, by decide +kernel, by decide +kernel⟩
theorem p97_118 : ps_la 97 118 0 119 := ⟨.aload_n 0, by decide +kernel, fun _ _ => rfl⟩
theorem p97_119 : ps_k 97 119 (Int32.ofNat 8) 121 := ⟨.bipush 8, by decide +kernel, fun _ _ => rfl⟩
theorem p97_121 : ps_pu 97 121 (.newarray .int) 123 := (by decide +kernel : ps_i 97 121 = some (.newarray .int, 123))
theorem p97_123 : ps_pf 97 123 9 23 (.array .int) 126 := ⟨54, 55, by decide +kernel, by decide +kernel, by decide +kernel, by decide +kernel, by decide +kernel⟩
theorem p97_126 : ps_la 97 126 0 127 := ⟨.aload_n 0, by decide +kernel, fun _ _ => rfl⟩
theorem p97_127 : ps_k 97 127 (Int32.ofNat 9) 129 := ⟨.bipush 9, by decide +kernel, fun _ _ => rfl⟩
theorem p97_129 : ps_pu 97 129 (.newarray .int) 131 := (by decide +kernel : ps_i 97 129 = some (.newarray .int, 131))
theorem p97_131 : ps_pf 97 131 9 24 (.array .int) 134 := ⟨57, 56, by decide +kernel, by decide +kernel, by decide +kernel, by decide +kernel, by decide +kernel⟩
theorem p97_134 : ps_la 97 134 0 135 := ⟨.aload_n 0, by decide +kernel, fun _ _ => rfl⟩
theorem p97_135 : ps_ld 97 135 1 136 := ⟨.iload_n 1, by decide +kernel, fun _ _ => rfl⟩
theorem p97_136 : ps_k 97 136 (Int32.ofNat 64) 138 := ⟨.bipush 64, by decide +kernel, fun _ _ => rfl⟩
theorem p97_138 : ps_j 97 138 .ge 146 141 := ⟨8, by decide +kernel, by decide +kernel, by decide +kernel⟩
theorem p97_141 : ps_k 97 141 (Int32.ofNat 64) 143 := ⟨.bipush 64, by decide +kernel, fun _ _ => rfl⟩
theorem p97_143 : ps_jg 97 143 160 := ⟨(17), 146, by decide +kernel, by decide +kernel, by decide +kernel⟩
theorem p97_146 : ps_ld 97 146 1 147 := ⟨.iload_n 1, by decide +kernel, fun _ _ => rfl⟩
theorem p97_147 : ps_k 97 147 (Int32.ofNat 800) 150 := ⟨.sipush 800, by decide +kernel, fun _ _ => rfl⟩
theorem p97_150 : ps_j 97 150 .le 159 153 := ⟨9, by decide +kernel, by decide +kernel, by decide +kernel⟩
theorem p97_153 : ps_k 97 153 (Int32.ofNat 800) 156 := ⟨.sipush 800, by decide +kernel, fun _ _ => rfl⟩
theorem p97_156 : ps_jg 97 156 160 := ⟨(4), 159, by decide +kernel, by decide +kernel, by decide +kernel⟩
theorem p97_159 : ps_ld 97 159 1 160 := ⟨.iload_n 1, by decide +kernel, fun _ _ => rfl⟩
theorem p97_160 : ps_pf 97 160 9 0 (.int) 163 := ⟨60, 32, by decide +kernel, by decide +kernel, by decide +kernel, by decide +kernel, by decide +kernel⟩
theorem p97_163 : ps_pu 97 163 (.return_) 164 := (by decide +kernel : ps_i 97 163 = some (.return_, 164))
theorem e97 : ∀ v0 v1 : Value, pm_ent 97 [v0, v1] = [some v0, some v1] := fun _ _ => rfl
theorem l97 : 2 ≤ pm_mx 97 := by decide +kernel
theorem t97 : pm_ret 97 = none := by decide +kernel
theorem p98_0 : ps_la 98 0 0 1 := ⟨.aload_n 0, by decide +kernel, fun _ _ => rfl⟩
theorem p98_1 : ps_gf 98 1 9 1 4 := ⟨63, 33, by decide +kernel, by decide +kernel, by decide +kernel⟩
theorem p98_4 : ps_pu 98 4 (.ireturn) 5 := (by decide +kernel : ps_i 98 4 = some (.ireturn, 5))
theorem e98 : ∀ v0 : Value, pm_ent 98 [v0] = [some v0] := fun _ => rfl
theorem l98 : 1 ≤ pm_mx 98 := by decide +kernel
theorem t98 : pm_ret 98 = (some .int) := by decide +kernel
theorem p99_0 : ps_la 99 0 0 1 := ⟨.aload_n 0, by decide +kernel, fun _ _ => rfl⟩
theorem p99_1 : ps_k 99 1 (Int32.ofNat 0) 2 := ⟨.iconst 0, by decide +kernel, fun _ _ => rfl⟩
theorem p99_2 : ps_pf 99 2 9 1 (.int) 5 := ⟨63, 33, by decide +kernel, by decide +kernel, by decide +kernel, by decide +kernel, by decide +kernel⟩
theorem p99_5 : ps_ld 99 5 1 6 := ⟨.iload_n 1, by decide +kernel, fun _ _ => rfl⟩
theorem p99_6 : ps_j0 99 6 .lt 15 9 := ⟨9, by decide +kernel, by decide +kernel, by decide +kernel⟩
theorem p99_9 : ps_ld 99 9 1 10 := ⟨.iload_n 1, by decide +kernel, fun _ _ => rfl⟩
theorem p99_10 : ps_k 99 10 (Int32.ofNat 15) 12 := ⟨.bipush 15, by decide +kernel, fun _ _ => rfl⟩
theorem p99_12 : ps_j 99 12 .le 21 15 := ⟨9, by decide +kernel, by decide +kernel, by decide +kernel⟩
theorem p99_15 : ps_la 99 15 0 16 := ⟨.aload_n 0, by decide +kernel, fun _ _ => rfl⟩
theorem p99_16 : ps_k 99 16 (Int32.ofNat 1) 17 := ⟨.iconst 1, by decide +kernel, fun _ _ => rfl⟩
theorem p99_17 : ps_vV 99 17 9 100 1 20 := ⟨66, 100, by decide +kernel, by decide +kernel, by decide +kernel, by decide +kernel, by decide +kernel⟩
theorem p99_20 : ps_pu 99 20 (.ireturn) 21 := (by decide +kernel : ps_i 99 20 = some (.ireturn, 21))
theorem p99_21 : ps_la 99 21 0 22 := ⟨.aload_n 0, by decide +kernel, fun _ _ => rfl⟩
theorem p99_22 : ps_gf 99 22 9 2 25 := ⟨70, 34, by decide +kernel, by decide +kernel, by decide +kernel⟩
theorem p99_25 : ps_k 99 25 (Int32.ofNat 8) 27 := ⟨.bipush 8, by decide +kernel, fun _ _ => rfl⟩
theorem p99_27 : ps_j 99 27 .ne 36 30 := ⟨9, by decide +kernel, by decide +kernel, by decide +kernel⟩
theorem p99_30 : ps_la 99 30 0 31 := ⟨.aload_n 0, by decide +kernel, fun _ _ => rfl⟩
theorem p99_31 : ps_k 99 31 (Int32.ofNat 2) 32 := ⟨.iconst 2, by decide +kernel, fun _ _ => rfl⟩
theorem p99_32 : ps_vV 99 32 9 100 1 35 := ⟨66, 100, by decide +kernel, by decide +kernel, by decide +kernel, by decide +kernel, by decide +kernel⟩
theorem p99_35 : ps_pu 99 35 (.ireturn) 36 := (by decide +kernel : ps_i 99 35 = some (.ireturn, 36))
theorem p99_36 : ps_la 99 36 0 37 := ⟨.aload_n 0, by decide +kernel, fun _ _ => rfl⟩
theorem p99_37 : ps_gf 99 37 9 3 40 := ⟨7, 35, by decide +kernel, by decide +kernel, by decide +kernel⟩
theorem p99_40 : ps_la 99 40 0 41 := ⟨.aload_n 0, by decide +kernel, fun _ _ => rfl⟩
theorem p99_41 : ps_gf 99 41 9 2 44 := ⟨70, 34, by decide +kernel, by decide +kernel, by decide +kernel⟩
theorem p99_44 : ps_ld 99 44 1 45 := ⟨.iload_n 1, by decide +kernel, fun _ _ => rfl⟩
theorem p99_45 : ps_pu 99 45 (.iastore) 46 := (by decide +kernel : ps_i 99 45 = some (.iastore, 46))
theorem p99_46 : ps_la 99 46 0 47 := ⟨.aload_n 0, by decide +kernel, fun _ _ => rfl⟩
theorem p99_47 : ps_pu 99 47 (.dup) 48 := (by decide +kernel : ps_i 99 47 = some (.dup, 48))
theorem p99_48 : ps_gf 99 48 9 2 51 := ⟨70, 34, by decide +kernel, by decide +kernel, by decide +kernel⟩
theorem p99_51 : ps_k 99 51 (Int32.ofNat 1) 52 := ⟨.iconst 1, by decide +kernel, fun _ _ => rfl⟩
theorem p99_52 : ps_b 99 52 (· + ·) 53 := ⟨.iadd, by decide +kernel, fun _ _ => rfl⟩
theorem p99_53 : ps_pf 99 53 9 2 (.int) 56 := ⟨70, 34, by decide +kernel, by decide +kernel, by decide +kernel, by decide +kernel, by decide +kernel⟩
theorem p99_56 : ps_la 99 56 0 57 := ⟨.aload_n 0, by decide +kernel, fun _ _ => rfl⟩
theorem p99_57 : ps_gf 99 57 9 2 60 := ⟨70, 34, by decide +kernel, by decide +kernel, by decide +kernel⟩
theorem p99_60 : ps_pu 99 60 (.ireturn) 61 := (by decide +kernel : ps_i 99 60 = some (.ireturn, 61))
theorem e99 : ∀ v0 v1 : Value, pm_ent 99 [v0, v1] = [some v0, some v1] := fun _ _ => rfl
theorem l99 : 2 ≤ pm_mx 99 := by decide +kernel
theorem t99 : pm_ret 99 = (some .int) := by decide +kernel
theorem p100_0 : ps_la 100 0 0 1 := ⟨.aload_n 0, by decide +kernel, fun _ _ => rfl⟩
theorem p100_1 : ps_ld 100 1 1 2 := ⟨.iload_n 1, by decide +kernel, fun _ _ => rfl⟩
theorem p100_2 : ps_pf 100 2 9 1 (.int) 5 := ⟨63, 33, by decide +kernel, by decide +kernel, by decide +kernel, by decide +kernel, by decide +kernel⟩
theorem p100_5 : ps_k 100 5 (Int32.ofNat 0) 6 := ⟨.iconst 0, by decide +kernel, fun _ _ => rfl⟩
theorem p100_6 : ps_pu 100 6 (.ireturn) 7 := (by decide +kernel : ps_i 100 6 = some (.ireturn, 7))
theorem e100 : ∀ v0 v1 : Value, pm_ent 100 [v0, v1] = [some v0, some v1] := fun _ _ => rfl
theorem l100 : 2 ≤ pm_mx 100 := by decide +kernel
theorem t100 : pm_ret 100 = (some .int) := by decide +kernel
theorem p101_0 : ps_la 101 0 0 1 := ⟨.aload_n 0, by decide +kernel, fun _ _ => rfl⟩
theorem p101_1 : ps_k 101 1 (Int32.ofNat 0) 2 := ⟨.iconst 0, by decide +kernel, fun _ _ => rfl⟩
theorem p101_2 : ps_pf 101 2 9 1 (.int) 5 := ⟨63, 33, by decide +kernel, by decide +kernel, by decide +kernel, by decide +kernel, by decide +kernel⟩
theorem p101_5 : ps_la 101 5 0 6 := ⟨.aload_n 0, by decide +kernel, fun _ _ => rfl⟩
theorem p101_6 : ps_gf 101 6 9 4 9 := ⟨73, 36, by decide +kernel, by decide +kernel, by decide +kernel⟩
theorem p101_9 : ps_la 101 9 0 10 := ⟨.aload_n 0, by decide +kernel, fun _ _ => rfl⟩
theorem p101_10 : ps_gf 101 10 9 5 13 := ⟨76, 37, by decide +kernel, by decide +kernel, by decide +kernel⟩
theorem p101_13 : ps_b 101 13 (· + ·) 14 := ⟨.iadd, by decide +kernel, fun _ _ => rfl⟩
theorem p101_14 : ps_si 101 14 2 15 := ⟨.istore_n 2, by decide +kernel, fun _ _ => rfl⟩
theorem p101_15 : ps_ld 101 15 1 16 := ⟨.iload_n 1, by decide +kernel, fun _ _ => rfl⟩
theorem p101_16 : ps_j0 101 16 .lt 35 19 := ⟨19, by decide +kernel, by decide +kernel, by decide +kernel⟩
theorem p101_19 : ps_ld 101 19 2 20 := ⟨.iload_n 2, by decide +kernel, fun _ _ => rfl⟩
theorem p101_20 : ps_j0 101 20 .le 41 23 := ⟨21, by decide +kernel, by decide +kernel, by decide +kernel⟩
theorem p101_23 : ps_ld 101 23 1 24 := ⟨.iload_n 1, by decide +kernel, fun _ _ => rfl⟩
theorem p101_24 : ps_la 101 24 0 25 := ⟨.aload_n 0, by decide +kernel, fun _ _ => rfl⟩
theorem p101_25 : ps_gf 101 25 9 6 28 := ⟨13, 38, by decide +kernel, by decide +kernel, by decide +kernel⟩
theorem p101_28 : ps_ld 101 28 2 29 := ⟨.iload_n 2, by decide +kernel, fun _ _ => rfl⟩
theorem p101_29 : ps_k 101 29 (Int32.ofNat 1) 30 := ⟨.iconst 1, by decide +kernel, fun _ _ => rfl⟩
theorem p101_30 : ps_b 101 30 (· - ·) 31 := ⟨.isub, by decide +kernel, fun _ _ => rfl⟩
theorem p101_31 : ps_pu 101 31 (.iaload) 32 := (by decide +kernel : ps_i 101 31 = some (.iaload, 32))
theorem p101_32 : ps_j 101 32 .gt 41 35 := ⟨9, by decide +kernel, by decide +kernel, by decide +kernel⟩
theorem p101_35 : ps_la 101 35 0 36 := ⟨.aload_n 0, by decide +kernel, fun _ _ => rfl⟩
theorem p101_36 : ps_k 101 36 (Int32.ofNat 1) 37 := ⟨.iconst 1, by decide +kernel, fun _ _ => rfl⟩
theorem p101_37 : ps_vV 101 37 9 100 1 40 := ⟨66, 100, by decide +kernel, by decide +kernel, by decide +kernel, by decide +kernel, by decide +kernel⟩
theorem p101_40 : ps_pu 101 40 (.ireturn) 41 := (by decide +kernel : ps_i 101 40 = some (.ireturn, 41))
theorem p101_41 : ps_la 101 41 0 42 := ⟨.aload_n 0, by decide +kernel, fun _ _ => rfl⟩
theorem p101_42 : ps_gf 101 42 9 2 45 := ⟨70, 34, by decide +kernel, by decide +kernel, by decide +kernel⟩
theorem p101_45 : ps_j0 101 45 .eq 57 48 := ⟨12, by decide +kernel, by decide +kernel, by decide +kernel⟩
theorem p101_48 : ps_la 101 48 0 49 := ⟨.aload_n 0, by decide +kernel, fun _ _ => rfl⟩
theorem p101_49 : ps_gf 101 49 9 5 52 := ⟨76, 37, by decide +kernel, by decide +kernel, by decide +kernel⟩
theorem p101_52 : ps_k 101 52 (Int32.ofNat 12) 54 := ⟨.bipush 12, by decide +kernel, fun _ _ => rfl⟩
theorem p101_54 : ps_j 101 54 .ne 63 57 := ⟨9, by decide +kernel, by decide +kernel, by decide +kernel⟩
theorem p101_57 : ps_la 101 57 0 58 := ⟨.aload_n 0, by decide +kernel, fun _ _ => rfl⟩
theorem p101_58 : ps_k 101 58 (Int32.ofNat 2) 59 := ⟨.iconst 2, by decide +kernel, fun _ _ => rfl⟩
theorem p101_59 : ps_vV 101 59 9 100 1 62 := ⟨66, 100, by decide +kernel, by decide +kernel, by decide +kernel, by decide +kernel, by decide +kernel⟩
theorem p101_62 : ps_pu 101 62 (.ireturn) 63 := (by decide +kernel : ps_i 101 62 = some (.ireturn, 63))
theorem p101_63 : ps_la 101 63 0 64 := ⟨.aload_n 0, by decide +kernel, fun _ _ => rfl⟩
theorem p101_64 : ps_gf 101 64 9 6 67 := ⟨13, 38, by decide +kernel, by decide +kernel, by decide +kernel⟩
theorem p101_67 : ps_ld 101 67 2 68 := ⟨.iload_n 2, by decide +kernel, fun _ _ => rfl⟩
theorem p101_68 : ps_ld 101 68 1 69 := ⟨.iload_n 1, by decide +kernel, fun _ _ => rfl⟩
theorem p101_69 : ps_pu 101 69 (.iastore) 70 := (by decide +kernel : ps_i 101 69 = some (.iastore, 70))
theorem p101_70 : ps_la 101 70 0 71 := ⟨.aload_n 0, by decide +kernel, fun _ _ => rfl⟩
theorem p101_71 : ps_gf 101 71 9 7 74 := ⟨16, 39, by decide +kernel, by decide +kernel, by decide +kernel⟩
theorem p101_74 : ps_ld 101 74 2 75 := ⟨.iload_n 2, by decide +kernel, fun _ _ => rfl⟩
theorem p101_75 : ps_la 101 75 0 76 := ⟨.aload_n 0, by decide +kernel, fun _ _ => rfl⟩
theorem p101_76 : ps_gf 101 76 9 2 79 := ⟨70, 34, by decide +kernel, by decide +kernel, by decide +kernel⟩
theorem p101_79 : ps_pu 101 79 (.iastore) 80 := (by decide +kernel : ps_i 101 79 = some (.iastore, 80))
theorem p101_80 : ps_k 101 80 (Int32.ofNat 0) 81 := ⟨.iconst 0, by decide +kernel, fun _ _ => rfl⟩
theorem p101_81 : ps_si 101 81 3 82 := ⟨.istore_n 3, by decide +kernel, fun _ _ => rfl⟩
theorem p101_82 : ps_ld 101 82 3 83 := ⟨.iload_n 3, by decide +kernel, fun _ _ => rfl⟩
theorem p101_83 : ps_la 101 83 0 84 := ⟨.aload_n 0, by decide +kernel, fun _ _ => rfl⟩
theorem p101_84 : ps_gf 101 84 9 2 87 := ⟨70, 34, by decide +kernel, by decide +kernel, by decide +kernel⟩
theorem p101_87 : ps_j 101 87 .ge 113 90 := ⟨26, by decide +kernel, by decide +kernel, by decide +kernel⟩
theorem p101_90 : ps_la 101 90 0 91 := ⟨.aload_n 0, by decide +kernel, fun _ _ => rfl⟩
theorem p101_91 : ps_gf 101 91 9 8 94 := ⟨19, 40, by decide +kernel, by decide +kernel, by decide +kernel⟩
theorem p101_94 : ps_k 101 94 (Int32.ofNat 8) 96 := ⟨.bipush 8, by decide +kernel, fun _ _ => rfl⟩
theorem p101_96 : ps_ld 101 96 2 97 := ⟨.iload_n 2, by decide +kernel, fun _ _ => rfl⟩
theorem p101_97 : ps_b 101 97 (· * ·) 98 := ⟨.imul, by decide +kernel, fun _ _ => rfl⟩
theorem p101_98 : ps_ld 101 98 3 99 := ⟨.iload_n 3, by decide +kernel, fun _ _ => rfl⟩
theorem p101_99 : ps_b 101 99 (· + ·) 100 := ⟨.iadd, by decide +kernel, fun _ _ => rfl⟩
theorem p101_100 : ps_la 101 100 0 101 := ⟨.aload_n 0, by decide +kernel, fun _ _ => rfl⟩
theorem p101_101 : ps_gf 101 101 9 3 104 := ⟨7, 35, by decide +kernel, by decide +kernel, by decide +kernel⟩
theorem p101_104 : ps_ld 101 104 3 105 := ⟨.iload_n 3, by decide +kernel, fun _ _ => rfl⟩
theorem p101_105 : ps_pu 101 105 (.iaload) 106 := (by decide +kernel : ps_i 101 105 = some (.iaload, 106))
theorem p101_106 : ps_pu 101 106 (.iastore) 107 := (by decide +kernel : ps_i 101 106 = some (.iastore, 107))
theorem p101_107 : ps_pu 101 107 (.iinc 3 ((1 : Nat) : Int)) 110 := (by decide +kernel : ps_i 101 107 = some (.iinc 3 ((1 : Nat) : Int), 110))
theorem p101_110 : ps_jg 101 110 82 := ⟨(-28), 113, by decide +kernel, by decide +kernel, by decide +kernel⟩
theorem p101_113 : ps_la 101 113 0 114 := ⟨.aload_n 0, by decide +kernel, fun _ _ => rfl⟩
theorem p101_114 : ps_gf 101 114 9 10 117 := ⟨25, 42, by decide +kernel, by decide +kernel, by decide +kernel⟩
theorem p101_117 : ps_ld 101 117 2 118 := ⟨.iload_n 2, by decide +kernel, fun _ _ => rfl⟩
theorem p101_118 : ps_k 101 118 (Int32.ofNat 0) 119 := ⟨.iconst 0, by decide +kernel, fun _ _ => rfl⟩
theorem p101_119 : ps_pu 101 119 (.bastore) 120 := (by decide +kernel : ps_i 101 119 = some (.bastore, 120))
theorem p101_120 : ps_la 101 120 0 121 := ⟨.aload_n 0, by decide +kernel, fun _ _ => rfl⟩
theorem p101_121 : ps_gf 101 121 9 11 124 := ⟨29, 43, by decide +kernel, by decide +kernel, by decide +kernel⟩
theorem p101_124 : ps_ld 101 124 2 125 := ⟨.iload_n 2, by decide +kernel, fun _ _ => rfl⟩
theorem p101_125 : ps_k 101 125 (Int32.ofNat 0) 126 := ⟨.iconst 0, by decide +kernel, fun _ _ => rfl⟩
theorem p101_126 : ps_pu 101 126 (.bastore) 127 := (by decide +kernel : ps_i 101 126 = some (.bastore, 127))
theorem p101_127 : ps_la 101 127 0 128 := ⟨.aload_n 0, by decide +kernel, fun _ _ => rfl⟩
theorem p101_128 : ps_k 101 128 (Int32.ofNat 0) 129 := ⟨.iconst 0, by decide +kernel, fun _ _ => rfl⟩
theorem p101_129 : ps_pf 101 129 9 2 (.int) 132 := ⟨70, 34, by decide +kernel, by decide +kernel, by decide +kernel, by decide +kernel, by decide +kernel⟩
theorem p101_132 : ps_la 101 132 0 133 := ⟨.aload_n 0, by decide +kernel, fun _ _ => rfl⟩
theorem p101_133 : ps_pu 101 133 (.dup) 134 := (by decide +kernel : ps_i 101 133 = some (.dup, 134))
theorem p101_134 : ps_gf 101 134 9 5 137 := ⟨76, 37, by decide +kernel, by decide +kernel, by decide +kernel⟩
theorem p101_137 : ps_k 101 137 (Int32.ofNat 1) 138 := ⟨.iconst 1, by decide +kernel, fun _ _ => rfl⟩
theorem p101_138 : ps_b 101 138 (· + ·) 139 := ⟨.iadd, by decide +kernel, fun _ _ => rfl⟩
theorem p101_139 : ps_pf 101 139 9 5 (.int) 142 := ⟨76, 37, by decide +kernel, by decide +kernel, by decide +kernel, by decide +kernel, by decide +kernel⟩
theorem p101_142 : ps_la 101 142 0 143 := ⟨.aload_n 0, by decide +kernel, fun _ _ => rfl⟩
theorem p101_143 : ps_gf 101 143 9 5 146 := ⟨76, 37, by decide +kernel, by decide +kernel, by decide +kernel⟩
theorem p101_146 : ps_pu 101 146 (.ireturn) 147 := (by decide +kernel : ps_i 101 146 = some (.ireturn, 147))
theorem e101 : ∀ v0 v1 : Value, pm_ent 101 [v0, v1] = [some v0, some v1, none, none] := fun _ _ => rfl
theorem l101 : 2 ≤ pm_mx 101 := by decide +kernel
theorem t101 : pm_ret 101 = (some .int) := by decide +kernel
theorem p102_0 : ps_la 102 0 0 1 := ⟨.aload_n 0, by decide +kernel, fun _ _ => rfl⟩
theorem p102_1 : ps_k 102 1 (Int32.ofNat 0) 2 := ⟨.iconst 0, by decide +kernel, fun _ _ => rfl⟩
theorem p102_2 : ps_pf 102 2 9 1 (.int) 5 := ⟨63, 33, by decide +kernel, by decide +kernel, by decide +kernel, by decide +kernel, by decide +kernel⟩
theorem p102_5 : ps_k 102 5 (Int32.ofNat 0) 6 := ⟨.iconst 0, by decide +kernel, fun _ _ => rfl⟩
theorem p102_6 : ps_si 102 6 2 7 := ⟨.istore_n 2, by decide +kernel, fun _ _ => rfl⟩
theorem p102_7 : ps_ld 102 7 2 8 := ⟨.iload_n 2, by decide +kernel, fun _ _ => rfl⟩
theorem p102_8 : ps_la 102 8 0 9 := ⟨.aload_n 0, by decide +kernel, fun _ _ => rfl⟩
theorem p102_9 : ps_gf 102 9 9 4 12 := ⟨73, 36, by decide +kernel, by decide +kernel, by decide +kernel⟩
theorem p102_12 : ps_la 102 12 0 13 := ⟨.aload_n 0, by decide +kernel, fun _ _ => rfl⟩
theorem p102_13 : ps_gf 102 13 9 5 16 := ⟨76, 37, by decide +kernel, by decide +kernel, by decide +kernel⟩
theorem p102_16 : ps_b 102 16 (· + ·) 17 := ⟨.iadd, by decide +kernel, fun _ _ => rfl⟩
theorem p102_17 : ps_j 102 17 .ge 131 20 := ⟨114, by decide +kernel, by decide +kernel, by decide +kernel⟩
theorem p102_20 : ps_la 102 20 0 21 := ⟨.aload_n 0, by decide +kernel, fun _ _ => rfl⟩
theorem p102_21 : ps_gf 102 21 9 6 24 := ⟨13, 38, by decide +kernel, by decide +kernel, by decide +kernel⟩
theorem p102_24 : ps_ld 102 24 2 25 := ⟨.iload_n 2, by decide +kernel, fun _ _ => rfl⟩
theorem p102_25 : ps_pu 102 25 (.iaload) 26 := (by decide +kernel : ps_i 102 25 = some (.iaload, 26))
theorem p102_26 : ps_ld 102 26 1 27 := ⟨.iload_n 1, by decide +kernel, fun _ _ => rfl⟩
theorem p102_27 : ps_j 102 27 .ne 125 30 := ⟨98, by decide +kernel, by decide +kernel, by decide +kernel⟩
theorem p102_30 : ps_ld 102 30 2 31 := ⟨.iload_n 2, by decide +kernel, fun _ _ => rfl⟩
theorem p102_31 : ps_la 102 31 0 32 := ⟨.aload_n 0, by decide +kernel, fun _ _ => rfl⟩
theorem p102_32 : ps_gf 102 32 9 4 35 := ⟨73, 36, by decide +kernel, by decide +kernel, by decide +kernel⟩
theorem p102_35 : ps_j 102 35 .ge 84 38 := ⟨49, by decide +kernel, by decide +kernel, by decide +kernel⟩
theorem p102_38 : ps_la 102 38 0 39 := ⟨.aload_n 0, by decide +kernel, fun _ _ => rfl⟩
theorem p102_39 : ps_gf 102 39 9 10 42 := ⟨25, 42, by decide +kernel, by decide +kernel, by decide +kernel⟩
theorem p102_42 : ps_ld 102 42 2 43 := ⟨.iload_n 2, by decide +kernel, fun _ _ => rfl⟩
theorem p102_43 : ps_pu 102 43 (.baload) 44 := (by decide +kernel : ps_i 102 43 = some (.baload, 44))
theorem p102_44 : ps_j0 102 44 .ne 60 47 := ⟨16, by decide +kernel, by decide +kernel, by decide +kernel⟩
theorem p102_47 : ps_la 102 47 0 48 := ⟨.aload_n 0, by decide +kernel, fun _ _ => rfl⟩
theorem p102_48 : ps_gf 102 48 9 11 51 := ⟨29, 43, by decide +kernel, by decide +kernel, by decide +kernel⟩
theorem p102_51 : ps_ld 102 51 2 52 := ⟨.iload_n 2, by decide +kernel, fun _ _ => rfl⟩
theorem p102_52 : ps_pu 102 52 (.baload) 53 := (by decide +kernel : ps_i 102 52 = some (.baload, 53))
theorem p102_53 : ps_j0 102 53 .ne 60 56 := ⟨7, by decide +kernel, by decide +kernel, by decide +kernel⟩
theorem p102_56 : ps_k 102 56 (Int32.ofNat 1) 57 := ⟨.iconst 1, by decide +kernel, fun _ _ => rfl⟩
theorem p102_57 : ps_jg 102 57 61 := ⟨(4), 60, by decide +kernel, by decide +kernel, by decide +kernel⟩
theorem p102_60 : ps_k 102 60 (Int32.ofNat 0) 61 := ⟨.iconst 0, by decide +kernel, fun _ _ => rfl⟩
theorem p102_61 : ps_si 102 61 3 62 := ⟨.istore_n 3, by decide +kernel, fun _ _ => rfl⟩
theorem p102_62 : ps_la 102 62 0 63 := ⟨.aload_n 0, by decide +kernel, fun _ _ => rfl⟩
theorem p102_63 : ps_gf 102 63 9 11 66 := ⟨29, 43, by decide +kernel, by decide +kernel, by decide +kernel⟩
theorem p102_66 : ps_ld 102 66 2 67 := ⟨.iload_n 2, by decide +kernel, fun _ _ => rfl⟩
theorem p102_67 : ps_la 102 67 0 68 := ⟨.aload_n 0, by decide +kernel, fun _ _ => rfl⟩
theorem p102_68 : ps_gf 102 68 9 10 71 := ⟨25, 42, by decide +kernel, by decide +kernel, by decide +kernel⟩
theorem p102_71 : ps_ld 102 71 2 72 := ⟨.iload_n 2, by decide +kernel, fun _ _ => rfl⟩
theorem p102_72 : ps_pu 102 72 (.baload) 73 := (by decide +kernel : ps_i 102 72 = some (.baload, 73))
theorem p102_73 : ps_j0 102 73 .ne 80 76 := ⟨7, by decide +kernel, by decide +kernel, by decide +kernel⟩
theorem p102_76 : ps_k 102 76 (Int32.ofNat 1) 77 := ⟨.iconst 1, by decide +kernel, fun _ _ => rfl⟩
theorem p102_77 : ps_jg 102 77 81 := ⟨(4), 80, by decide +kernel, by decide +kernel, by decide +kernel⟩
theorem p102_80 : ps_k 102 80 (Int32.ofNat 0) 81 := ⟨.iconst 0, by decide +kernel, fun _ _ => rfl⟩
theorem p102_81 : ps_pu 102 81 (.bastore) 82 := (by decide +kernel : ps_i 102 81 = some (.bastore, 82))
theorem p102_82 : ps_ld 102 82 3 83 := ⟨.iload_n 3, by decide +kernel, fun _ _ => rfl⟩
theorem p102_83 : ps_pu 102 83 (.ireturn) 84 := (by decide +kernel : ps_i 102 83 = some (.ireturn, 84))
theorem p102_84 : ps_la 102 84 0 85 := ⟨.aload_n 0, by decide +kernel, fun _ _ => rfl⟩
theorem p102_85 : ps_pu 102 85 (.dup) 86 := (by decide +kernel : ps_i 102 85 = some (.dup, 86))
theorem p102_86 : ps_gf 102 86 9 5 89 := ⟨76, 37, by decide +kernel, by decide +kernel, by decide +kernel⟩
theorem p102_89 : ps_k 102 89 (Int32.ofNat 1) 90 := ⟨.iconst 1, by decide +kernel, fun _ _ => rfl⟩
theorem p102_90 : ps_b 102 90 (· - ·) 91 := ⟨.isub, by decide +kernel, fun _ _ => rfl⟩
theorem p102_91 : ps_pf 102 91 9 5 (.int) 94 := ⟨76, 37, by decide +kernel, by decide +kernel, by decide +kernel, by decide +kernel, by decide +kernel⟩
theorem p102_94 : ps_ld 102 94 2 95 := ⟨.iload_n 2, by decide +kernel, fun _ _ => rfl⟩
theorem p102_95 : ps_si 102 95 3 96 := ⟨.istore_n 3, by decide +kernel, fun _ _ => rfl⟩
theorem p102_96 : ps_ld 102 96 3 97 := ⟨.iload_n 3, by decide +kernel, fun _ _ => rfl⟩
theorem p102_97 : ps_la 102 97 0 98 := ⟨.aload_n 0, by decide +kernel, fun _ _ => rfl⟩
theorem p102_98 : ps_gf 102 98 9 4 101 := ⟨73, 36, by decide +kernel, by decide +kernel, by decide +kernel⟩
theorem p102_101 : ps_la 102 101 0 102 := ⟨.aload_n 0, by decide +kernel, fun _ _ => rfl⟩
theorem p102_102 : ps_gf 102 102 9 5 105 := ⟨76, 37, by decide +kernel, by decide +kernel, by decide +kernel⟩
theorem p102_105 : ps_b 102 105 (· + ·) 106 := ⟨.iadd, by decide +kernel, fun _ _ => rfl⟩
theorem p102_106 : ps_j 102 106 .ge 123 109 := ⟨17, by decide +kernel, by decide +kernel, by decide +kernel⟩
theorem p102_109 : ps_la 102 109 0 110 := ⟨.aload_n 0, by decide +kernel, fun _ _ => rfl⟩
theorem p102_110 : ps_ld 102 110 3 111 := ⟨.iload_n 3, by decide +kernel, fun _ _ => rfl⟩
theorem p102_111 : ps_k 102 111 (Int32.ofNat 1) 112 := ⟨.iconst 1, by decide +kernel, fun _ _ => rfl⟩
theorem p102_112 : ps_b 102 112 (· + ·) 113 := ⟨.iadd, by decide +kernel, fun _ _ => rfl⟩
theorem p102_113 : ps_ld 102 113 3 114 := ⟨.iload_n 3, by decide +kernel, fun _ _ => rfl⟩
theorem p102_114 : ps_vV 102 114 9 103 2 117 := ⟨79, 103, by decide +kernel, by decide +kernel, by decide +kernel, by decide +kernel, by decide +kernel⟩
theorem p102_117 : ps_pu 102 117 (.iinc 3 ((1 : Nat) : Int)) 120 := (by decide +kernel : ps_i 102 117 = some (.iinc 3 ((1 : Nat) : Int), 120))
theorem p102_120 : ps_jg 102 120 96 := ⟨(-24), 123, by decide +kernel, by decide +kernel, by decide +kernel⟩
theorem p102_123 : ps_k 102 123 (Int32.ofNat 1) 124 := ⟨.iconst 1, by decide +kernel, fun _ _ => rfl⟩
theorem p102_124 : ps_pu 102 124 (.ireturn) 125 := (by decide +kernel : ps_i 102 124 = some (.ireturn, 125))
theorem p102_125 : ps_pu 102 125 (.iinc 2 ((1 : Nat) : Int)) 128 := (by decide +kernel : ps_i 102 125 = some (.iinc 2 ((1 : Nat) : Int), 128))
theorem p102_128 : ps_jg 102 128 7 := ⟨(-121), 131, by decide +kernel, by decide +kernel, by decide +kernel⟩
theorem p102_131 : ps_k 102 131 (Int32.ofNat 0) 132 := ⟨.iconst 0, by decide +kernel, fun _ _ => rfl⟩
theorem p102_132 : ps_pu 102 132 (.ireturn) 133 := (by decide +kernel : ps_i 102 132 = some (.ireturn, 133))
theorem e102 : ∀ v0 v1 : Value, pm_ent 102 [v0, v1] = [some v0, some v1, none, none] := fun _ _ => rfl
theorem l102 : 2 ≤ pm_mx 102 := by decide +kernel
theorem t102 : pm_ret 102 = (some .boolean) := by decide +kernel
theorem p103_0 : ps_la 103 0 0 1 := ⟨.aload_n 0, by decide +kernel, fun _ _ => rfl⟩
theorem p103_1 : ps_gf 103 1 9 6 4 := ⟨13, 38, by decide +kernel, by decide +kernel, by decide +kernel⟩
theorem p103_4 : ps_ld 103 4 2 5 := ⟨.iload_n 2, by decide +kernel, fun _ _ => rfl⟩
theorem p103_5 : ps_la 103 5 0 6 := ⟨.aload_n 0, by decide +kernel, fun _ _ => rfl⟩
theorem p103_6 : ps_gf 103 6 9 6 9 := ⟨13, 38, by decide +kernel, by decide +kernel, by decide +kernel⟩
theorem p103_9 : ps_ld 103 9 1 10 := ⟨.iload_n 1, by decide +kernel, fun _ _ => rfl⟩
theorem p103_10 : ps_pu 103 10 (.iaload) 11 := (by decide +kernel : ps_i 103 10 = some (.iaload, 11))
theorem p103_11 : ps_pu 103 11 (.iastore) 12 := (by decide +kernel : ps_i 103 11 = some (.iastore, 12))
theorem p103_12 : ps_la 103 12 0 13 := ⟨.aload_n 0, by decide +kernel, fun _ _ => rfl⟩
theorem p103_13 : ps_gf 103 13 9 7 16 := ⟨16, 39, by decide +kernel, by decide +kernel, by decide +kernel⟩
theorem p103_16 : ps_ld 103 16 2 17 := ⟨.iload_n 2, by decide +kernel, fun _ _ => rfl⟩
theorem p103_17 : ps_la 103 17 0 18 := ⟨.aload_n 0, by decide +kernel, fun _ _ => rfl⟩
theorem p103_18 : ps_gf 103 18 9 7 21 := ⟨16, 39, by decide +kernel, by decide +kernel, by decide +kernel⟩
theorem p103_21 : ps_ld 103 21 1 22 := ⟨.iload_n 1, by decide +kernel, fun _ _ => rfl⟩
theorem p103_22 : ps_pu 103 22 (.iaload) 23 := (by decide +kernel : ps_i 103 22 = some (.iaload, 23))
theorem p103_23 : ps_pu 103 23 (.iastore) 24 := (by decide +kernel : ps_i 103 23 = some (.iastore, 24))
theorem p103_24 : ps_k 103 24 (Int32.ofNat 0) 25 := ⟨.iconst 0, by decide +kernel, fun _ _ => rfl⟩
theorem p103_25 : ps_si 103 25 3 26 := ⟨.istore_n 3, by decide +kernel, fun _ _ => rfl⟩
theorem p103_26 : ps_ld 103 26 3 27 := ⟨.iload_n 3, by decide +kernel, fun _ _ => rfl⟩
theorem p103_27 : ps_k 103 27 (Int32.ofNat 8) 29 := ⟨.bipush 8, by decide +kernel, fun _ _ => rfl⟩
theorem p103_29 : ps_j 103 29 .ge 60 32 := ⟨31, by decide +kernel, by decide +kernel, by decide +kernel⟩
theorem p103_32 : ps_la 103 32 0 33 := ⟨.aload_n 0, by decide +kernel, fun _ _ => rfl⟩
theorem p103_33 : ps_gf 103 33 9 8 36 := ⟨19, 40, by decide +kernel, by decide +kernel, by decide +kernel⟩
theorem p103_36 : ps_k 103 36 (Int32.ofNat 8) 38 := ⟨.bipush 8, by decide +kernel, fun _ _ => rfl⟩
theorem p103_38 : ps_ld 103 38 2 39 := ⟨.iload_n 2, by decide +kernel, fun _ _ => rfl⟩
theorem p103_39 : ps_b 103 39 (· * ·) 40 := ⟨.imul, by decide +kernel, fun _ _ => rfl⟩
theorem p103_40 : ps_ld 103 40 3 41 := ⟨.iload_n 3, by decide +kernel, fun _ _ => rfl⟩
theorem p103_41 : ps_b 103 41 (· + ·) 42 := ⟨.iadd, by decide +kernel, fun _ _ => rfl⟩
theorem p103_42 : ps_la 103 42 0 43 := ⟨.aload_n 0, by decide +kernel, fun _ _ => rfl⟩
theorem p103_43 : ps_gf 103 43 9 8 46 := ⟨19, 40, by decide +kernel, by decide +kernel, by decide +kernel⟩
theorem p103_46 : ps_k 103 46 (Int32.ofNat 8) 48 := ⟨.bipush 8, by decide +kernel, fun _ _ => rfl⟩
theorem p103_48 : ps_ld 103 48 1 49 := ⟨.iload_n 1, by decide +kernel, fun _ _ => rfl⟩
theorem p103_49 : ps_b 103 49 (· * ·) 50 := ⟨.imul, by decide +kernel, fun _ _ => rfl⟩
theorem p103_50 : ps_ld 103 50 3 51 := ⟨.iload_n 3, by decide +kernel, fun _ _ => rfl⟩
theorem p103_51 : ps_b 103 51 (· + ·) 52 := ⟨.iadd, by decide +kernel, fun _ _ => rfl⟩
theorem p103_52 : ps_pu 103 52 (.iaload) 53 := (by decide +kernel : ps_i 103 52 = some (.iaload, 53))
theorem p103_53 : ps_pu 103 53 (.iastore) 54 := (by decide +kernel : ps_i 103 53 = some (.iastore, 54))
theorem p103_54 : ps_pu 103 54 (.iinc 3 ((1 : Nat) : Int)) 57 := (by decide +kernel : ps_i 103 54 = some (.iinc 3 ((1 : Nat) : Int), 57))
theorem p103_57 : ps_jg 103 57 26 := ⟨(-31), 60, by decide +kernel, by decide +kernel, by decide +kernel⟩
theorem p103_60 : ps_la 103 60 0 61 := ⟨.aload_n 0, by decide +kernel, fun _ _ => rfl⟩
theorem p103_61 : ps_gf 103 61 9 9 64 := ⟨22, 41, by decide +kernel, by decide +kernel, by decide +kernel⟩
theorem p103_64 : ps_ld 103 64 2 65 := ⟨.iload_n 2, by decide +kernel, fun _ _ => rfl⟩
theorem p103_65 : ps_la 103 65 0 66 := ⟨.aload_n 0, by decide +kernel, fun _ _ => rfl⟩
theorem p103_66 : ps_gf 103 66 9 9 69 := ⟨22, 41, by decide +kernel, by decide +kernel, by decide +kernel⟩
theorem p103_69 : ps_ld 103 69 1 70 := ⟨.iload_n 1, by decide +kernel, fun _ _ => rfl⟩
theorem p103_70 : ps_pu 103 70 (.iaload) 71 := (by decide +kernel : ps_i 103 70 = some (.iaload, 71))
theorem p103_71 : ps_pu 103 71 (.iastore) 72 := (by decide +kernel : ps_i 103 71 = some (.iastore, 72))
theorem p103_72 : ps_la 103 72 0 73 := ⟨.aload_n 0, by decide +kernel, fun _ _ => rfl⟩
theorem p103_73 : ps_gf 103 73 9 10 76 := ⟨25, 42, by decide +kernel, by decide +kernel, by decide +kernel⟩
theorem p103_76 : ps_ld 103 76 2 77 := ⟨.iload_n 2, by decide +kernel, fun _ _ => rfl⟩
theorem p103_77 : ps_la 103 77 0 78 := ⟨.aload_n 0, by decide +kernel, fun _ _ => rfl⟩
theorem p103_78 : ps_gf 103 78 9 10 81 := ⟨25, 42, by decide +kernel, by decide +kernel, by decide +kernel⟩
theorem p103_81 : ps_ld 103 81 1 82 := ⟨.iload_n 1, by decide +kernel, fun _ _ => rfl⟩
theorem p103_82 : ps_pu 103 82 (.baload) 83 := (by decide +kernel : ps_i 103 82 = some (.baload, 83))
theorem p103_83 : ps_pu 103 83 (.bastore) 84 := (by decide +kernel : ps_i 103 83 = some (.bastore, 84))
theorem p103_84 : ps_la 103 84 0 85 := ⟨.aload_n 0, by decide +kernel, fun _ _ => rfl⟩
theorem p103_85 : ps_gf 103 85 9 11 88 := ⟨29, 43, by decide +kernel, by decide +kernel, by decide +kernel⟩
theorem p103_88 : ps_ld 103 88 2 89 := ⟨.iload_n 2, by decide +kernel, fun _ _ => rfl⟩
theorem p103_89 : ps_la 103 89 0 90 := ⟨.aload_n 0, by decide +kernel, fun _ _ => rfl⟩
theorem p103_90 : ps_gf 103 90 9 11 93 := ⟨29, 43, by decide +kernel, by decide +kernel, by decide +kernel⟩
theorem p103_93 : ps_ld 103 93 1 94 := ⟨.iload_n 1, by decide +kernel, fun _ _ => rfl⟩
theorem p103_94 : ps_pu 103 94 (.baload) 95 := (by decide +kernel : ps_i 103 94 = some (.baload, 95))
theorem p103_95 : ps_pu 103 95 (.bastore) 96 := (by decide +kernel : ps_i 103 95 = some (.bastore, 96))
theorem p103_96 : ps_pu 103 96 (.return_) 97 := (by decide +kernel : ps_i 103 96 = some (.return_, 97))
theorem e103 : ∀ v0 v1 v2 : Value, pm_ent 103 [v0, v1, v2] = [some v0, some v1, some v2, none] := fun _ _ _ => rfl
theorem l103 : 3 ≤ pm_mx 103 := by decide +kernel
theorem t103 : pm_ret 103 = none := by decide +kernel
theorem p104_0 : ps_la 104 0 0 1 := ⟨.aload_n 0, by decide +kernel, fun _ _ => rfl⟩
theorem p104_1 : ps_k 104 1 (Int32.ofNat 0) 2 := ⟨.iconst 0, by decide +kernel, fun _ _ => rfl⟩
theorem p104_2 : ps_pf 104 2 9 1 (.int) 5 := ⟨63, 33, by decide +kernel, by decide +kernel, by decide +kernel, by decide +kernel, by decide +kernel⟩
theorem p104_5 : ps_la 104 5 0 6 := ⟨.aload_n 0, by decide +kernel, fun _ _ => rfl⟩
theorem p104_6 : ps_gf 104 6 9 0 9 := ⟨60, 32, by decide +kernel, by decide +kernel, by decide +kernel⟩
theorem p104_9 : ps_la 104 9 0 10 := ⟨.aload_n 0, by decide +kernel, fun _ _ => rfl⟩
theorem p104_10 : ps_vV 104 10 9 105 0 13 := ⟨124, 105, by decide +kernel, by decide +kernel, by decide +kernel, by decide +kernel, by decide +kernel⟩
theorem p104_13 : ps_b 104 13 (· - ·) 14 := ⟨.isub, by decide +kernel, fun _ _ => rfl⟩
theorem p104_14 : ps_pu 104 14 (.ireturn) 15 := (by decide +kernel : ps_i 104 14 = some (.ireturn, 15))
theorem e104 : ∀ v0 : Value, pm_ent 104 [v0] = [some v0] := fun _ => rfl
theorem l104 : 1 ≤ pm_mx 104 := by decide +kernel
theorem t104 : pm_ret 104 = (some .int) := by decide +kernel
theorem p105_0 : ps_la 105 0 0 1 := ⟨.aload_n 0, by decide +kernel, fun _ _ => rfl⟩
theorem p105_1 : ps_vV 105 1 9 106 0 4 := ⟨115, 106, by decide +kernel, by decide +kernel, by decide +kernel, by decide +kernel, by decide +kernel⟩
theorem p105_4 : ps_la 105 4 0 5 := ⟨.aload_n 0, by decide +kernel, fun _ _ => rfl⟩
theorem p105_5 : ps_gf 105 5 9 19 8 := ⟨83, 51, by decide +kernel, by decide +kernel, by decide +kernel⟩
theorem p105_8 : ps_si 105 8 1 9 := ⟨.istore_n 1, by decide +kernel, fun _ _ => rfl⟩
theorem p105_9 : ps_k 105 9 (Int32.ofNat 0) 10 := ⟨.iconst 0, by decide +kernel, fun _ _ => rfl⟩
theorem p105_10 : ps_si 105 10 2 11 := ⟨.istore_n 2, by decide +kernel, fun _ _ => rfl⟩
theorem p105_11 : ps_ld 105 11 2 12 := ⟨.iload_n 2, by decide +kernel, fun _ _ => rfl⟩
theorem p105_12 : ps_la 105 12 0 13 := ⟨.aload_n 0, by decide +kernel, fun _ _ => rfl⟩
theorem p105_13 : ps_gf 105 13 9 13 16 := ⟨108, 45, by decide +kernel, by decide +kernel, by decide +kernel⟩
theorem p105_16 : ps_j 105 16 .ge 41 19 := ⟨25, by decide +kernel, by decide +kernel, by decide +kernel⟩
theorem p105_19 : ps_la 105 19 0 20 := ⟨.aload_n 0, by decide +kernel, fun _ _ => rfl⟩
theorem p105_20 : ps_ld 105 20 2 21 := ⟨.iload_n 2, by decide +kernel, fun _ _ => rfl⟩
theorem p105_21 : ps_vV 105 21 9 110 1 24 := ⟨118, 110, by decide +kernel, by decide +kernel, by decide +kernel, by decide +kernel, by decide +kernel⟩
theorem p105_24 : ps_la 105 24 0 25 := ⟨.aload_n 0, by decide +kernel, fun _ _ => rfl⟩
theorem p105_25 : ps_vV 105 25 9 111 0 28 := ⟨121, 111, by decide +kernel, by decide +kernel, by decide +kernel, by decide +kernel, by decide +kernel⟩
theorem p105_28 : ps_ld 105 28 1 29 := ⟨.iload_n 1, by decide +kernel, fun _ _ => rfl⟩
theorem p105_29 : ps_la 105 29 0 30 := ⟨.aload_n 0, by decide +kernel, fun _ _ => rfl⟩
theorem p105_30 : ps_gf 105 30 9 19 33 := ⟨83, 51, by decide +kernel, by decide +kernel, by decide +kernel⟩
theorem p105_33 : ps_b 105 33 (· + ·) 34 := ⟨.iadd, by decide +kernel, fun _ _ => rfl⟩
theorem p105_34 : ps_si 105 34 1 35 := ⟨.istore_n 1, by decide +kernel, fun _ _ => rfl⟩
theorem p105_35 : ps_pu 105 35 (.iinc 2 ((1 : Nat) : Int)) 38 := (by decide +kernel : ps_i 105 35 = some (.iinc 2 ((1 : Nat) : Int), 38))
theorem p105_38 : ps_jg 105 38 11 := ⟨(-27), 41, by decide +kernel, by decide +kernel, by decide +kernel⟩
theorem p105_41 : ps_ld 105 41 1 42 := ⟨.iload_n 1, by decide +kernel, fun _ _ => rfl⟩
theorem p105_42 : ps_pu 105 42 (.ireturn) 43 := (by decide +kernel : ps_i 105 42 = some (.ireturn, 43))
theorem e105 : ∀ v0 : Value, pm_ent 105 [v0] = [some v0, none, none] := fun _ => rfl
theorem l105 : 1 ≤ pm_mx 105 := by decide +kernel
theorem t105 : pm_ret 105 = (some .int) := by decide +kernel
theorem p106_0 : ps_la 106 0 0 1 := ⟨.aload_n 0, by decide +kernel, fun _ _ => rfl⟩
theorem p106_1 : ps_k 106 1 (Int32.ofNat 0) 2 := ⟨.iconst 0, by decide +kernel, fun _ _ => rfl⟩
theorem p106_2 : ps_pf 106 2 9 19 (.int) 5 := ⟨83, 51, by decide +kernel, by decide +kernel, by decide +kernel, by decide +kernel, by decide +kernel⟩
theorem p106_5 : ps_la 106 5 0 6 := ⟨.aload_n 0, by decide +kernel, fun _ _ => rfl⟩
theorem p106_6 : ps_gf 106 6 9 16 9 := ⟨104, 48, by decide +kernel, by decide +kernel, by decide +kernel⟩
theorem p106_9 : ps_j0 106 9 .eq 42 12 := ⟨33, by decide +kernel, by decide +kernel, by decide +kernel⟩
theorem p106_12 : ps_la 106 12 0 13 := ⟨.aload_n 0, by decide +kernel, fun _ _ => rfl⟩
theorem p106_13 : ps_la 106 13 0 14 := ⟨.aload_n 0, by decide +kernel, fun _ _ => rfl⟩
theorem p106_14 : ps_gf 106 14 9 13 17 := ⟨108, 45, by decide +kernel, by decide +kernel, by decide +kernel⟩
theorem p106_17 : ps_vV 106 17 9 107 1 20 := ⟨90, 107, by decide +kernel, by decide +kernel, by decide +kernel, by decide +kernel, by decide +kernel⟩
theorem p106_20 : ps_k 106 20 (Int32.ofNat 0) 21 := ⟨.iconst 0, by decide +kernel, fun _ _ => rfl⟩
theorem p106_21 : ps_si 106 21 1 22 := ⟨.istore_n 1, by decide +kernel, fun _ _ => rfl⟩
theorem p106_22 : ps_ld 106 22 1 23 := ⟨.iload_n 1, by decide +kernel, fun _ _ => rfl⟩
theorem p106_23 : ps_la 106 23 0 24 := ⟨.aload_n 0, by decide +kernel, fun _ _ => rfl⟩
theorem p106_24 : ps_gf 106 24 9 13 27 := ⟨108, 45, by decide +kernel, by decide +kernel, by decide +kernel⟩
theorem p106_27 : ps_j 106 27 .ge 42 30 := ⟨15, by decide +kernel, by decide +kernel, by decide +kernel⟩
theorem p106_30 : ps_la 106 30 0 31 := ⟨.aload_n 0, by decide +kernel, fun _ _ => rfl⟩
theorem p106_31 : ps_ld 106 31 1 32 := ⟨.iload_n 1, by decide +kernel, fun _ _ => rfl⟩
theorem p106_32 : ps_k 106 32 (Int32.ofNat 0) 33 := ⟨.iconst 0, by decide +kernel, fun _ _ => rfl⟩
theorem p106_33 : ps_vV 106 33 9 108 2 36 := ⟨111, 108, by decide +kernel, by decide +kernel, by decide +kernel, by decide +kernel, by decide +kernel⟩
theorem p106_36 : ps_pu 106 36 (.iinc 1 ((1 : Nat) : Int)) 39 := (by decide +kernel : ps_i 106 36 = some (.iinc 1 ((1 : Nat) : Int), 39))
theorem p106_39 : ps_jg 106 39 22 := ⟨(-17), 42, by decide +kernel, by decide +kernel, by decide +kernel⟩
theorem p106_42 : ps_pu 106 42 (.return_) 43 := (by decide +kernel : ps_i 106 42 = some (.return_, 43))
theorem e106 : ∀ v0 : Value, pm_ent 106 [v0] = [some v0, none] := fun _ => rfl
theorem l106 : 1 ≤ pm_mx 106 := by decide +kernel
theorem t106 : pm_ret 106 = none := by decide +kernel
theorem p107_0 : ps_ld 107 0 1 1 := ⟨.iload_n 1, by decide +kernel, fun _ _ => rfl⟩
theorem p107_1 : ps_si 107 1 2 2 := ⟨.istore_n 2, by decide +kernel, fun _ _ => rfl⟩
theorem p107_2 : ps_ld 107 2 2 3 := ⟨.iload_n 2, by decide +kernel, fun _ _ => rfl⟩
theorem p107_3 : ps_k 107 3 (Int32.ofNat 127) 5 := ⟨.bipush 127, by decide +kernel, fun _ _ => rfl⟩
theorem p107_5 : ps_j 107 5 .le 45 8 := ⟨40, by decide +kernel, by decide +kernel, by decide +kernel⟩
theorem p107_8 : ps_la 107 8 0 9 := ⟨.aload_n 0, by decide +kernel, fun _ _ => rfl⟩
theorem p107_9 : ps_gf 107 9 9 18 12 := ⟨45, 50, by decide +kernel, by decide +kernel, by decide +kernel⟩
theorem p107_12 : ps_la 107 12 0 13 := ⟨.aload_n 0, by decide +kernel, fun _ _ => rfl⟩
theorem p107_13 : ps_gf 107 13 9 19 16 := ⟨83, 51, by decide +kernel, by decide +kernel, by decide +kernel⟩
theorem p107_16 : ps_k 107 16 (Int32.ofNat 128) 19 := ⟨.sipush 128, by decide +kernel, fun _ _ => rfl⟩
theorem p107_19 : ps_ld 107 19 2 20 := ⟨.iload_n 2, by decide +kernel, fun _ _ => rfl⟩
theorem p107_20 : ps_k 107 20 (Int32.ofNat 128) 23 := ⟨.sipush 128, by decide +kernel, fun _ _ => rfl⟩
theorem p107_23 : ps_pu 107 23 (.irem) 24 := (by decide +kernel : ps_i 107 23 = some (.irem, 24))
theorem p107_24 : ps_b 107 24 (· + ·) 25 := ⟨.iadd, by decide +kernel, fun _ _ => rfl⟩
theorem p107_25 : ps_pu 107 25 (.iastore) 26 := (by decide +kernel : ps_i 107 25 = some (.iastore, 26))
theorem p107_26 : ps_la 107 26 0 27 := ⟨.aload_n 0, by decide +kernel, fun _ _ => rfl⟩
theorem p107_27 : ps_pu 107 27 (.dup) 28 := (by decide +kernel : ps_i 107 27 = some (.dup, 28))
theorem p107_28 : ps_gf 107 28 9 19 31 := ⟨83, 51, by decide +kernel, by decide +kernel, by decide +kernel⟩
theorem p107_31 : ps_k 107 31 (Int32.ofNat 1) 32 := ⟨.iconst 1, by decide +kernel, fun _ _ => rfl⟩
theorem p107_32 : ps_b 107 32 (· + ·) 33 := ⟨.iadd, by decide +kernel, fun _ _ => rfl⟩
theorem p107_33 : ps_pf 107 33 9 19 (.int) 36 := ⟨83, 51, by decide +kernel, by decide +kernel, by decide +kernel, by decide +kernel, by decide +kernel⟩
theorem p107_36 : ps_ld 107 36 2 37 := ⟨.iload_n 2, by decide +kernel, fun _ _ => rfl⟩
theorem p107_37 : ps_k 107 37 (Int32.ofNat 128) 40 := ⟨.sipush 128, by decide +kernel, fun _ _ => rfl⟩
theorem p107_40 : ps_pu 107 40 (.idiv) 41 := (by decide +kernel : ps_i 107 40 = some (.idiv, 41))
theorem p107_41 : ps_si 107 41 2 42 := ⟨.istore_n 2, by decide +kernel, fun _ _ => rfl⟩
theorem p107_42 : ps_jg 107 42 2 := ⟨(-40), 45, by decide +kernel, by decide +kernel, by decide +kernel⟩
theorem p107_45 : ps_la 107 45 0 46 := ⟨.aload_n 0, by decide +kernel, fun _ _ => rfl⟩
theorem p107_46 : ps_gf 107 46 9 18 49 := ⟨45, 50, by decide +kernel, by decide +kernel, by decide +kernel⟩
theorem p107_49 : ps_la 107 49 0 50 := ⟨.aload_n 0, by decide +kernel, fun _ _ => rfl⟩
theorem p107_50 : ps_gf 107 50 9 19 53 := ⟨83, 51, by decide +kernel, by decide +kernel, by decide +kernel⟩
theorem p107_53 : ps_ld 107 53 2 54 := ⟨.iload_n 2, by decide +kernel, fun _ _ => rfl⟩
theorem p107_54 : ps_pu 107 54 (.iastore) 55 := (by decide +kernel : ps_i 107 54 = some (.iastore, 55))
theorem p107_55 : ps_la 107 55 0 56 := ⟨.aload_n 0, by decide +kernel, fun _ _ => rfl⟩
theorem p107_56 : ps_pu 107 56 (.dup) 57 := (by decide +kernel : ps_i 107 56 = some (.dup, 57))
theorem p107_57 : ps_gf 107 57 9 19 60 := ⟨83, 51, by decide +kernel, by decide +kernel, by decide +kernel⟩
theorem p107_60 : ps_k 107 60 (Int32.ofNat 1) 61 := ⟨.iconst 1, by decide +kernel, fun _ _ => rfl⟩
theorem p107_61 : ps_b 107 61 (· + ·) 62 := ⟨.iadd, by decide +kernel, fun _ _ => rfl⟩
theorem p107_62 : ps_pf 107 62 9 19 (.int) 65 := ⟨83, 51, by decide +kernel, by decide +kernel, by decide +kernel, by decide +kernel, by decide +kernel⟩
theorem p107_65 : ps_pu 107 65 (.return_) 66 := (by decide +kernel : ps_i 107 65 = some (.return_, 66))
theorem e107 : ∀ v0 v1 : Value, pm_ent 107 [v0, v1] = [some v0, some v1, none] := fun _ _ => rfl
theorem l107 : 2 ≤ pm_mx 107 := by decide +kernel
theorem t107 : pm_ret 107 = none := by decide +kernel
theorem p108_0 : ps_k 108 0 (Int32.ofNat 0) 1 := ⟨.iconst 0, by decide +kernel, fun _ _ => rfl⟩
theorem p108_1 : ps_si 108 1 3 2 := ⟨.istore_n 3, by decide +kernel, fun _ _ => rfl⟩
theorem p108_2 : ps_k 108 2 (Int32.ofNat 0) 3 := ⟨.iconst 0, by decide +kernel, fun _ _ => rfl⟩
theorem p108_3 : ps_si 108 3 4 5 := ⟨.istore 4, by decide +kernel, fun _ _ => rfl⟩
theorem p108_5 : ps_ld 108 5 4 7 := ⟨.iload 4, by decide +kernel, fun _ _ => rfl⟩
theorem p108_7 : ps_la 108 7 0 8 := ⟨.aload_n 0, by decide +kernel, fun _ _ => rfl⟩
theorem p108_8 : ps_gf 108 8 9 4 11 := ⟨73, 36, by decide +kernel, by decide +kernel, by decide +kernel⟩
theorem p108_11 : ps_j 108 11 .ge 49 14 := ⟨38, by decide +kernel, by decide +kernel, by decide +kernel⟩
theorem p108_14 : ps_la 108 14 0 15 := ⟨.aload_n 0, by decide +kernel, fun _ _ => rfl⟩
theorem p108_15 : ps_gf 108 15 9 9 18 := ⟨22, 41, by decide +kernel, by decide +kernel, by decide +kernel⟩
theorem p108_18 : ps_ld 108 18 4 20 := ⟨.iload 4, by decide +kernel, fun _ _ => rfl⟩
theorem p108_20 : ps_pu 108 20 (.iaload) 21 := (by decide +kernel : ps_i 108 20 = some (.iaload, 21))
theorem p108_21 : ps_ld 108 21 1 22 := ⟨.iload_n 1, by decide +kernel, fun _ _ => rfl⟩
theorem p108_22 : ps_j 108 22 .ne 41 25 := ⟨19, by decide +kernel, by decide +kernel, by decide +kernel⟩
theorem p108_25 : ps_la 108 25 0 26 := ⟨.aload_n 0, by decide +kernel, fun _ _ => rfl⟩
theorem p108_26 : ps_ld 108 26 4 28 := ⟨.iload 4, by decide +kernel, fun _ _ => rfl⟩
theorem p108_28 : ps_ld 108 28 2 29 := ⟨.iload_n 2, by decide +kernel, fun _ _ => rfl⟩
theorem p108_29 : ps_vV 108 29 9 109 2 32 := ⟨100, 109, by decide +kernel, by decide +kernel, by decide +kernel, by decide +kernel, by decide +kernel⟩
theorem p108_32 : ps_j0 108 32 .eq 41 35 := ⟨9, by decide +kernel, by decide +kernel, by decide +kernel⟩
theorem p108_35 : ps_ld 108 35 3 36 := ⟨.iload_n 3, by decide +kernel, fun _ _ => rfl⟩
theorem p108_36 : ps_k 108 36 (Int32.ofNat 1) 37 := ⟨.iconst 1, by decide +kernel, fun _ _ => rfl⟩
theorem p108_37 : ps_b 108 37 (· + ·) 38 := ⟨.iadd, by decide +kernel, fun _ _ => rfl⟩
theorem p108_38 : ps_jg 108 38 42 := ⟨(4), 41, by decide +kernel, by decide +kernel, by decide +kernel⟩
theorem p108_41 : ps_ld 108 41 3 42 := ⟨.iload_n 3, by decide +kernel, fun _ _ => rfl⟩
theorem p108_42 : ps_si 108 42 3 43 := ⟨.istore_n 3, by decide +kernel, fun _ _ => rfl⟩
theorem p108_43 : ps_pu 108 43 (.iinc 4 ((1 : Nat) : Int)) 46 := (by decide +kernel : ps_i 108 43 = some (.iinc 4 ((1 : Nat) : Int), 46))
theorem p108_46 : ps_jg 108 46 5 := ⟨(-41), 49, by decide +kernel, by decide +kernel, by decide +kernel⟩
theorem p108_49 : ps_la 108 49 0 50 := ⟨.aload_n 0, by decide +kernel, fun _ _ => rfl⟩
theorem p108_50 : ps_la 108 50 0 51 := ⟨.aload_n 0, by decide +kernel, fun _ _ => rfl⟩
theorem p108_51 : ps_gf 108 51 9 14 54 := ⟨35, 46, by decide +kernel, by decide +kernel, by decide +kernel⟩
theorem p108_54 : ps_ld 108 54 1 55 := ⟨.iload_n 1, by decide +kernel, fun _ _ => rfl⟩
theorem p108_55 : ps_pu 108 55 (.iaload) 56 := (by decide +kernel : ps_i 108 55 = some (.iaload, 56))
theorem p108_56 : ps_vV 108 56 9 107 1 59 := ⟨90, 107, by decide +kernel, by decide +kernel, by decide +kernel, by decide +kernel, by decide +kernel⟩
theorem p108_59 : ps_la 108 59 0 60 := ⟨.aload_n 0, by decide +kernel, fun _ _ => rfl⟩
theorem p108_60 : ps_ld 108 60 3 61 := ⟨.iload_n 3, by decide +kernel, fun _ _ => rfl⟩
theorem p108_61 : ps_vV 108 61 9 107 1 64 := ⟨90, 107, by decide +kernel, by decide +kernel, by decide +kernel, by decide +kernel, by decide +kernel⟩
theorem p108_64 : ps_k 108 64 (Int32.ofNat 0) 65 := ⟨.iconst 0, by decide +kernel, fun _ _ => rfl⟩
theorem p108_65 : ps_si 108 65 4 67 := ⟨.istore 4, by decide +kernel, fun _ _ => rfl⟩
theorem p108_67 : ps_k 108 67 (Int32.ofNat 0) 68 := ⟨.iconst 0, by decide +kernel, fun _ _ => rfl⟩
theorem p108_68 : ps_si 108 68 5 70 := ⟨.istore 5, by decide +kernel, fun _ _ => rfl⟩
theorem p108_70 : ps_k 108 70 (Int32.ofNat 0) 71 := ⟨.iconst 0, by decide +kernel, fun _ _ => rfl⟩
theorem p108_71 : ps_si 108 71 6 73 := ⟨.istore 6, by decide +kernel, fun _ _ => rfl⟩
theorem p108_73 : ps_ld 108 73 6 75 := ⟨.iload 6, by decide +kernel, fun _ _ => rfl⟩
theorem p108_75 : ps_la 108 75 0 76 := ⟨.aload_n 0, by decide +kernel, fun _ _ => rfl⟩
theorem p108_76 : ps_gf 108 76 9 4 79 := ⟨73, 36, by decide +kernel, by decide +kernel, by decide +kernel⟩
theorem p108_79 : ps_j 108 79 .ge 125 82 := ⟨46, by decide +kernel, by decide +kernel, by decide +kernel⟩
theorem p108_82 : ps_la 108 82 0 83 := ⟨.aload_n 0, by decide +kernel, fun _ _ => rfl⟩
theorem p108_83 : ps_gf 108 83 9 9 86 := ⟨22, 41, by decide +kernel, by decide +kernel, by decide +kernel⟩
theorem p108_86 : ps_ld 108 86 6 88 := ⟨.iload 6, by decide +kernel, fun _ _ => rfl⟩
theorem p108_88 : ps_pu 108 88 (.iaload) 89 := (by decide +kernel : ps_i 108 88 = some (.iaload, 89))
theorem p108_89 : ps_ld 108 89 1 90 := ⟨.iload_n 1, by decide +kernel, fun _ _ => rfl⟩
theorem p108_90 : ps_j 108 90 .ne 119 93 := ⟨29, by decide +kernel, by decide +kernel, by decide +kernel⟩
theorem p108_93 : ps_la 108 93 0 94 := ⟨.aload_n 0, by decide +kernel, fun _ _ => rfl⟩
theorem p108_94 : ps_ld 108 94 6 96 := ⟨.iload 6, by decide +kernel, fun _ _ => rfl⟩
theorem p108_96 : ps_ld 108 96 2 97 := ⟨.iload_n 2, by decide +kernel, fun _ _ => rfl⟩
theorem p108_97 : ps_vV 108 97 9 109 2 100 := ⟨100, 109, by decide +kernel, by decide +kernel, by decide +kernel, by decide +kernel, by decide +kernel⟩
theorem p108_100 : ps_j0 108 100 .eq 116 103 := ⟨16, by decide +kernel, by decide +kernel, by decide +kernel⟩
theorem p108_103 : ps_la 108 103 0 104 := ⟨.aload_n 0, by decide +kernel, fun _ _ => rfl⟩
theorem p108_104 : ps_ld 108 104 4 106 := ⟨.iload 4, by decide +kernel, fun _ _ => rfl⟩
theorem p108_106 : ps_ld 108 106 5 108 := ⟨.iload 5, by decide +kernel, fun _ _ => rfl⟩
theorem p108_108 : ps_b 108 108 (· - ·) 109 := ⟨.isub, by decide +kernel, fun _ _ => rfl⟩
theorem p108_109 : ps_vV 108 109 9 107 1 112 := ⟨90, 107, by decide +kernel, by decide +kernel, by decide +kernel, by decide +kernel, by decide +kernel⟩
theorem p108_112 : ps_ld 108 112 4 114 := ⟨.iload 4, by decide +kernel, fun _ _ => rfl⟩
theorem p108_114 : ps_si 108 114 5 116 := ⟨.istore 5, by decide +kernel, fun _ _ => rfl⟩
theorem p108_116 : ps_pu 108 116 (.iinc 4 ((1 : Nat) : Int)) 119 := (by decide +kernel : ps_i 108 116 = some (.iinc 4 ((1 : Nat) : Int), 119))
theorem p108_119 : ps_pu 108 119 (.iinc 6 ((1 : Nat) : Int)) 122 := (by decide +kernel : ps_i 108 119 = some (.iinc 6 ((1 : Nat) : Int), 122))
theorem p108_122 : ps_jg 108 122 73 := ⟨(-49), 125, by decide +kernel, by decide +kernel, by decide +kernel⟩
theorem p108_125 : ps_pu 108 125 (.return_) 126 := (by decide +kernel : ps_i 108 125 = some (.return_, 126))
theorem e108 : ∀ v0 v1 v2 : Value, pm_ent 108 [v0, v1, v2] = [some v0, some v1, some v2, none, none, none, none] := fun _ _ _ => rfl
theorem l108 : 3 ≤ pm_mx 108 := by decide +kernel
theorem t108 : pm_ret 108 = none := by decide +kernel
theorem p109_0 : ps_la 109 0 0 1 := ⟨.aload_n 0, by decide +kernel, fun _ _ => rfl⟩
theorem p109_1 : ps_gf 109 1 9 10 4 := ⟨25, 42, by decide +kernel, by decide +kernel, by decide +kernel⟩
theorem p109_4 : ps_ld 109 4 1 5 := ⟨.iload_n 1, by decide +kernel, fun _ _ => rfl⟩
theorem p109_5 : ps_pu 109 5 (.baload) 6 := (by decide +kernel : ps_i 109 5 = some (.baload, 6))
theorem p109_6 : ps_j0 109 6 .ne 22 9 := ⟨16, by decide +kernel, by decide +kernel, by decide +kernel⟩
theorem p109_9 : ps_ld 109 9 2 10 := ⟨.iload_n 2, by decide +kernel, fun _ _ => rfl⟩
theorem p109_10 : ps_j0 109 10 .eq 26 13 := ⟨16, by decide +kernel, by decide +kernel, by decide +kernel⟩
theorem p109_13 : ps_la 109 13 0 14 := ⟨.aload_n 0, by decide +kernel, fun _ _ => rfl⟩
theorem p109_14 : ps_gf 109 14 9 11 17 := ⟨29, 43, by decide +kernel, by decide +kernel, by decide +kernel⟩
theorem p109_17 : ps_ld 109 17 1 18 := ⟨.iload_n 1, by decide +kernel, fun _ _ => rfl⟩
theorem p109_18 : ps_pu 109 18 (.baload) 19 := (by decide +kernel : ps_i 109 18 = some (.baload, 19))
theorem p109_19 : ps_j0 109 19 .eq 26 22 := ⟨7, by decide +kernel, by decide +kernel, by decide +kernel⟩
theorem p109_22 : ps_k 109 22 (Int32.ofNat 1) 23 := ⟨.iconst 1, by decide +kernel, fun _ _ => rfl⟩
theorem p109_23 : ps_jg 109 23 27 := ⟨(4), 26, by decide +kernel, by decide +kernel, by decide +kernel⟩
theorem p109_26 : ps_k 109 26 (Int32.ofNat 0) 27 := ⟨.iconst 0, by decide +kernel, fun _ _ => rfl⟩
theorem p109_27 : ps_pu 109 27 (.ireturn) 28 := (by decide +kernel : ps_i 109 27 = some (.ireturn, 28))
theorem e109 : ∀ v0 v1 v2 : Value, pm_ent 109 [v0, v1, v2] = [some v0, some v1, some v2] := fun _ _ _ => rfl
theorem l109 : 3 ≤ pm_mx 109 := by decide +kernel
theorem t109 : pm_ret 109 = (some .boolean) := by decide +kernel
theorem p110_0 : ps_k 110 0 (Int32.ofNat 0) 1 := ⟨.iconst 0, by decide +kernel, fun _ _ => rfl⟩
theorem p110_1 : ps_si 110 1 2 2 := ⟨.istore_n 2, by decide +kernel, fun _ _ => rfl⟩
theorem p110_2 : ps_ld 110 2 2 3 := ⟨.iload_n 2, by decide +kernel, fun _ _ => rfl⟩
theorem p110_3 : ps_k 110 3 (Int32.ofNat 200) 6 := ⟨.sipush 200, by decide +kernel, fun _ _ => rfl⟩
theorem p110_6 : ps_j 110 6 .ge 44 9 := ⟨38, by decide +kernel, by decide +kernel, by decide +kernel⟩
theorem p110_9 : ps_la 110 9 0 10 := ⟨.aload_n 0, by decide +kernel, fun _ _ => rfl⟩
theorem p110_10 : ps_gf 110 10 9 12 13 := ⟨32, 44, by decide +kernel, by decide +kernel, by decide +kernel⟩
theorem p110_13 : ps_ld 110 13 2 14 := ⟨.iload_n 2, by decide +kernel, fun _ _ => rfl⟩
theorem p110_14 : ps_ld 110 14 2 15 := ⟨.iload_n 2, by decide +kernel, fun _ _ => rfl⟩
theorem p110_15 : ps_la 110 15 0 16 := ⟨.aload_n 0, by decide +kernel, fun _ _ => rfl⟩
theorem p110_16 : ps_gf 110 16 9 4 19 := ⟨73, 36, by decide +kernel, by decide +kernel, by decide +kernel⟩
theorem p110_19 : ps_j 110 19 .ge 36 22 := ⟨17, by decide +kernel, by decide +kernel, by decide +kernel⟩
theorem p110_22 : ps_la 110 22 0 23 := ⟨.aload_n 0, by decide +kernel, fun _ _ => rfl⟩
theorem p110_23 : ps_gf 110 23 9 9 26 := ⟨22, 41, by decide +kernel, by decide +kernel, by decide +kernel⟩
theorem p110_26 : ps_ld 110 26 2 27 := ⟨.iload_n 2, by decide +kernel, fun _ _ => rfl⟩
theorem p110_27 : ps_pu 110 27 (.iaload) 28 := (by decide +kernel : ps_i 110 27 = some (.iaload, 28))
theorem p110_28 : ps_ld 110 28 1 29 := ⟨.iload_n 1, by decide +kernel, fun _ _ => rfl⟩
theorem p110_29 : ps_j 110 29 .ne 36 32 := ⟨7, by decide +kernel, by decide +kernel, by decide +kernel⟩
theorem p110_32 : ps_k 110 32 (Int32.ofNat 1) 33 := ⟨.iconst 1, by decide +kernel, fun _ _ => rfl⟩
theorem p110_33 : ps_jg 110 33 37 := ⟨(4), 36, by decide +kernel, by decide +kernel, by decide +kernel⟩
theorem p110_36 : ps_k 110 36 (Int32.ofNat 0) 37 := ⟨.iconst 0, by decide +kernel, fun _ _ => rfl⟩
theorem p110_37 : ps_pu 110 37 (.bastore) 38 := (by decide +kernel : ps_i 110 37 = some (.bastore, 38))
theorem p110_38 : ps_pu 110 38 (.iinc 2 ((1 : Nat) : Int)) 41 := (by decide +kernel : ps_i 110 38 = some (.iinc 2 ((1 : Nat) : Int), 41))
theorem p110_41 : ps_jg 110 41 2 := ⟨(-39), 44, by decide +kernel, by decide +kernel, by decide +kernel⟩
theorem p110_44 : ps_pu 110 44 (.return_) 45 := (by decide +kernel : ps_i 110 44 = some (.return_, 45))
theorem e110 : ∀ v0 v1 : Value, pm_ent 110 [v0, v1] = [some v0, some v1, none] := fun _ _ => rfl
theorem l110 : 2 ≤ pm_mx 110 := by decide +kernel
theorem t110 : pm_ret 110 = none := by decide +kernel
theorem p111_0 : ps_la 111 0 0 1 := ⟨.aload_n 0, by decide +kernel, fun _ _ => rfl⟩
theorem p111_1 : ps_k 111 1 (Int32.ofNat 0) 2 := ⟨.iconst 0, by decide +kernel, fun _ _ => rfl⟩
theorem p111_2 : ps_pf 111 2 9 19 (.int) 5 := ⟨83, 51, by decide +kernel, by decide +kernel, by decide +kernel, by decide +kernel, by decide +kernel⟩
theorem p111_5 : ps_la 111 5 0 6 := ⟨.aload_n 0, by decide +kernel, fun _ _ => rfl⟩
theorem p111_6 : ps_la 111 6 0 7 := ⟨.aload_n 0, by decide +kernel, fun _ _ => rfl⟩
theorem p111_7 : ps_k 111 7 (Int32.ofNat 0) 8 := ⟨.iconst 0, by decide +kernel, fun _ _ => rfl⟩
theorem p111_8 : ps_la 111 8 0 9 := ⟨.aload_n 0, by decide +kernel, fun _ _ => rfl⟩
theorem p111_9 : ps_gf 111 9 9 4 12 := ⟨73, 36, by decide +kernel, by decide +kernel, by decide +kernel⟩
theorem p111_12 : ps_la 111 12 0 13 := ⟨.aload_n 0, by decide +kernel, fun _ _ => rfl⟩
theorem p111_13 : ps_gf 111 13 9 5 16 := ⟨76, 37, by decide +kernel, by decide +kernel, by decide +kernel⟩
theorem p111_16 : ps_b 111 16 (· + ·) 17 := ⟨.iadd, by decide +kernel, fun _ _ => rfl⟩
theorem p111_17 : ps_vV 111 17 9 112 2 20 := ⟨94, 112, by decide +kernel, by decide +kernel, by decide +kernel, by decide +kernel, by decide +kernel⟩
theorem p111_20 : ps_vV 111 20 9 107 1 23 := ⟨90, 107, by decide +kernel, by decide +kernel, by decide +kernel, by decide +kernel, by decide +kernel⟩
theorem p111_23 : ps_k 111 23 (Int32.ofNat 0) 24 := ⟨.iconst 0, by decide +kernel, fun _ _ => rfl⟩
theorem p111_24 : ps_si 111 24 1 25 := ⟨.istore_n 1, by decide +kernel, fun _ _ => rfl⟩
theorem p111_25 : ps_k 111 25 (Int32.ofNat 0) 26 := ⟨.iconst 0, by decide +kernel, fun _ _ => rfl⟩
theorem p111_26 : ps_si 111 26 2 27 := ⟨.istore_n 2, by decide +kernel, fun _ _ => rfl⟩
theorem p111_27 : ps_ld 111 27 2 28 := ⟨.iload_n 2, by decide +kernel, fun _ _ => rfl⟩
theorem p111_28 : ps_la 111 28 0 29 := ⟨.aload_n 0, by decide +kernel, fun _ _ => rfl⟩
theorem p111_29 : ps_gf 111 29 9 4 32 := ⟨73, 36, by decide +kernel, by decide +kernel, by decide +kernel⟩
theorem p111_32 : ps_la 111 32 0 33 := ⟨.aload_n 0, by decide +kernel, fun _ _ => rfl⟩
theorem p111_33 : ps_gf 111 33 9 5 36 := ⟨76, 37, by decide +kernel, by decide +kernel, by decide +kernel⟩
theorem p111_36 : ps_b 111 36 (· + ·) 37 := ⟨.iadd, by decide +kernel, fun _ _ => rfl⟩
theorem p111_37 : ps_j 111 37 .ge 84 40 := ⟨47, by decide +kernel, by decide +kernel, by decide +kernel⟩
theorem p111_40 : ps_la 111 40 0 41 := ⟨.aload_n 0, by decide +kernel, fun _ _ => rfl⟩
theorem p111_41 : ps_gf 111 41 9 12 44 := ⟨32, 44, by decide +kernel, by decide +kernel, by decide +kernel⟩
theorem p111_44 : ps_ld 111 44 2 45 := ⟨.iload_n 2, by decide +kernel, fun _ _ => rfl⟩
theorem p111_45 : ps_pu 111 45 (.baload) 46 := (by decide +kernel : ps_i 111 45 = some (.baload, 46))
theorem p111_46 : ps_j0 111 46 .eq 78 49 := ⟨32, by decide +kernel, by decide +kernel, by decide +kernel⟩
theorem p111_49 : ps_la 111 49 0 50 := ⟨.aload_n 0, by decide +kernel, fun _ _ => rfl⟩
theorem p111_50 : ps_la 111 50 0 51 := ⟨.aload_n 0, by decide +kernel, fun _ _ => rfl⟩
theorem p111_51 : ps_gf 111 51 9 6 54 := ⟨13, 38, by decide +kernel, by decide +kernel, by decide +kernel⟩
theorem p111_54 : ps_ld 111 54 2 55 := ⟨.iload_n 2, by decide +kernel, fun _ _ => rfl⟩
theorem p111_55 : ps_pu 111 55 (.iaload) 56 := (by decide +kernel : ps_i 111 55 = some (.iaload, 56))
theorem p111_56 : ps_ld 111 56 1 57 := ⟨.iload_n 1, by decide +kernel, fun _ _ => rfl⟩
theorem p111_57 : ps_b 111 57 (· - ·) 58 := ⟨.isub, by decide +kernel, fun _ _ => rfl⟩
theorem p111_58 : ps_vV 111 58 9 107 1 61 := ⟨90, 107, by decide +kernel, by decide +kernel, by decide +kernel, by decide +kernel, by decide +kernel⟩
theorem p111_61 : ps_la 111 61 0 62 := ⟨.aload_n 0, by decide +kernel, fun _ _ => rfl⟩
theorem p111_62 : ps_gf 111 62 9 6 65 := ⟨13, 38, by decide +kernel, by decide +kernel, by decide +kernel⟩
theorem p111_65 : ps_ld 111 65 2 66 := ⟨.iload_n 2, by decide +kernel, fun _ _ => rfl⟩
theorem p111_66 : ps_pu 111 66 (.iaload) 67 := (by decide +kernel : ps_i 111 66 = some (.iaload, 67))
theorem p111_67 : ps_si 111 67 1 68 := ⟨.istore_n 1, by decide +kernel, fun _ _ => rfl⟩
theorem p111_68 : ps_la 111 68 0 69 := ⟨.aload_n 0, by decide +kernel, fun _ _ => rfl⟩
theorem p111_69 : ps_la 111 69 0 70 := ⟨.aload_n 0, by decide +kernel, fun _ _ => rfl⟩
theorem p111_70 : ps_gf 111 70 9 7 73 := ⟨16, 39, by decide +kernel, by decide +kernel, by decide +kernel⟩
theorem p111_73 : ps_ld 111 73 2 74 := ⟨.iload_n 2, by decide +kernel, fun _ _ => rfl⟩
theorem p111_74 : ps_pu 111 74 (.iaload) 75 := (by decide +kernel : ps_i 111 74 = some (.iaload, 75))
theorem p111_75 : ps_vV 111 75 9 107 1 78 := ⟨90, 107, by decide +kernel, by decide +kernel, by decide +kernel, by decide +kernel, by decide +kernel⟩
theorem p111_78 : ps_pu 111 78 (.iinc 2 ((1 : Nat) : Int)) 81 := (by decide +kernel : ps_i 111 78 = some (.iinc 2 ((1 : Nat) : Int), 81))
theorem p111_81 : ps_jg 111 81 27 := ⟨(-54), 84, by decide +kernel, by decide +kernel, by decide +kernel⟩
theorem p111_84 : ps_k 111 84 (Int32.ofNat 0) 85 := ⟨.iconst 0, by decide +kernel, fun _ _ => rfl⟩
theorem p111_85 : ps_si 111 85 2 86 := ⟨.istore_n 2, by decide +kernel, fun _ _ => rfl⟩
theorem p111_86 : ps_ld 111 86 2 87 := ⟨.iload_n 2, by decide +kernel, fun _ _ => rfl⟩
theorem p111_87 : ps_k 111 87 (Int32.ofNat 16) 89 := ⟨.bipush 16, by decide +kernel, fun _ _ => rfl⟩
theorem p111_89 : ps_j 111 89 .ge 103 92 := ⟨14, by decide +kernel, by decide +kernel, by decide +kernel⟩
theorem p111_92 : ps_la 111 92 0 93 := ⟨.aload_n 0, by decide +kernel, fun _ _ => rfl⟩
theorem p111_93 : ps_ld 111 93 2 94 := ⟨.iload_n 2, by decide +kernel, fun _ _ => rfl⟩
theorem p111_94 : ps_vV 111 94 9 113 1 97 := ⟨97, 113, by decide +kernel, by decide +kernel, by decide +kernel, by decide +kernel, by decide +kernel⟩
theorem p111_97 : ps_pu 111 97 (.iinc 2 ((1 : Nat) : Int)) 100 := (by decide +kernel : ps_i 111 97 = some (.iinc 2 ((1 : Nat) : Int), 100))
theorem p111_100 : ps_jg 111 100 86 := ⟨(-14), 103, by decide +kernel, by decide +kernel, by decide +kernel⟩
theorem p111_103 : ps_pu 111 103 (.return_) 104 := (by decide +kernel : ps_i 111 103 = some (.return_, 104))
theorem e111 : ∀ v0 : Value, pm_ent 111 [v0] = [some v0, none, none] := fun _ => rfl
theorem l111 : 1 ≤ pm_mx 111 := by decide +kernel
theorem t111 : pm_ret 111 = none := by decide +kernel
theorem p112_0 : ps_k 112 0 (Int32.ofNat 0) 1 := ⟨.iconst 0, by decide +kernel, fun _ _ => rfl⟩
theorem p112_1 : ps_si 112 1 3 2 := ⟨.istore_n 3, by decide +kernel, fun _ _ => rfl⟩
theorem p112_2 : ps_ld 112 2 1 3 := ⟨.iload_n 1, by decide +kernel, fun _ _ => rfl⟩
theorem p112_3 : ps_si 112 3 4 5 := ⟨.istore 4, by decide +kernel, fun _ _ => rfl⟩
theorem p112_5 : ps_ld 112 5 4 7 := ⟨.iload 4, by decide +kernel, fun _ _ => rfl⟩
theorem p112_7 : ps_ld 112 7 2 8 := ⟨.iload_n 2, by decide +kernel, fun _ _ => rfl⟩
theorem p112_8 : ps_j 112 8 .ge 35 11 := ⟨27, by decide +kernel, by decide +kernel, by decide +kernel⟩
theorem p112_11 : ps_la 112 11 0 12 := ⟨.aload_n 0, by decide +kernel, fun _ _ => rfl⟩
theorem p112_12 : ps_gf 112 12 9 12 15 := ⟨32, 44, by decide +kernel, by decide +kernel, by decide +kernel⟩
theorem p112_15 : ps_ld 112 15 4 17 := ⟨.iload 4, by decide +kernel, fun _ _ => rfl⟩
theorem p112_17 : ps_pu 112 17 (.baload) 18 := (by decide +kernel : ps_i 112 17 = some (.baload, 18))
theorem p112_18 : ps_j0 112 18 .eq 27 21 := ⟨9, by decide +kernel, by decide +kernel, by decide +kernel⟩
theorem p112_21 : ps_ld 112 21 3 22 := ⟨.iload_n 3, by decide +kernel, fun _ _ => rfl⟩
theorem p112_22 : ps_k 112 22 (Int32.ofNat 1) 23 := ⟨.iconst 1, by decide +kernel, fun _ _ => rfl⟩
theorem p112_23 : ps_b 112 23 (· + ·) 24 := ⟨.iadd, by decide +kernel, fun _ _ => rfl⟩
theorem p112_24 : ps_jg 112 24 28 := ⟨(4), 27, by decide +kernel, by decide +kernel, by decide +kernel⟩
theorem p112_27 : ps_ld 112 27 3 28 := ⟨.iload_n 3, by decide +kernel, fun _ _ => rfl⟩
theorem p112_28 : ps_si 112 28 3 29 := ⟨.istore_n 3, by decide +kernel, fun _ _ => rfl⟩
theorem p112_29 : ps_pu 112 29 (.iinc 4 ((1 : Nat) : Int)) 32 := (by decide +kernel : ps_i 112 29 = some (.iinc 4 ((1 : Nat) : Int), 32))
theorem p112_32 : ps_jg 112 32 5 := ⟨(-27), 35, by decide +kernel, by decide +kernel, by decide +kernel⟩
theorem p112_35 : ps_ld 112 35 3 36 := ⟨.iload_n 3, by decide +kernel, fun _ _ => rfl⟩
theorem p112_36 : ps_pu 112 36 (.ireturn) 37 := (by decide +kernel : ps_i 112 36 = some (.ireturn, 37))
theorem e112 : ∀ v0 v1 v2 : Value, pm_ent 112 [v0, v1, v2] = [some v0, some v1, some v2, none, none] := fun _ _ _ => rfl
theorem l112 : 3 ≤ pm_mx 112 := by decide +kernel
theorem t112 : pm_ret 112 = (some .int) := by decide +kernel
theorem p113_0 : ps_k 113 0 (Int32.ofNat 0) 1 := ⟨.iconst 0, by decide +kernel, fun _ _ => rfl⟩
theorem p113_1 : ps_si 113 1 2 2 := ⟨.istore_n 2, by decide +kernel, fun _ _ => rfl⟩
theorem p113_2 : ps_k 113 2 (Int32.ofNat 0) 3 := ⟨.iconst 0, by decide +kernel, fun _ _ => rfl⟩
theorem p113_3 : ps_si 113 3 3 4 := ⟨.istore_n 3, by decide +kernel, fun _ _ => rfl⟩
theorem p113_4 : ps_ld 113 4 3 5 := ⟨.iload_n 3, by decide +kernel, fun _ _ => rfl⟩
theorem p113_5 : ps_la 113 5 0 6 := ⟨.aload_n 0, by decide +kernel, fun _ _ => rfl⟩
theorem p113_6 : ps_gf 113 6 9 4 9 := ⟨73, 36, by decide +kernel, by decide +kernel, by decide +kernel⟩
theorem p113_9 : ps_la 113 9 0 10 := ⟨.aload_n 0, by decide +kernel, fun _ _ => rfl⟩
theorem p113_10 : ps_gf 113 10 9 5 13 := ⟨76, 37, by decide +kernel, by decide +kernel, by decide +kernel⟩
theorem p113_13 : ps_b 113 13 (· + ·) 14 := ⟨.iadd, by decide +kernel, fun _ _ => rfl⟩
theorem p113_14 : ps_j 113 14 .ge 49 17 := ⟨35, by decide +kernel, by decide +kernel, by decide +kernel⟩
theorem p113_17 : ps_la 113 17 0 18 := ⟨.aload_n 0, by decide +kernel, fun _ _ => rfl⟩
theorem p113_18 : ps_gf 113 18 9 12 21 := ⟨32, 44, by decide +kernel, by decide +kernel, by decide +kernel⟩
theorem p113_21 : ps_ld 113 21 3 22 := ⟨.iload_n 3, by decide +kernel, fun _ _ => rfl⟩
theorem p113_22 : ps_pu 113 22 (.baload) 23 := (by decide +kernel : ps_i 113 22 = some (.baload, 23))
theorem p113_23 : ps_j0 113 23 .eq 41 26 := ⟨18, by decide +kernel, by decide +kernel, by decide +kernel⟩
theorem p113_26 : ps_la 113 26 0 27 := ⟨.aload_n 0, by decide +kernel, fun _ _ => rfl⟩
theorem p113_27 : ps_ld 113 27 3 28 := ⟨.iload_n 3, by decide +kernel, fun _ _ => rfl⟩
theorem p113_28 : ps_ld 113 28 1 29 := ⟨.iload_n 1, by decide +kernel, fun _ _ => rfl⟩
theorem p113_29 : ps_vV 113 29 9 114 2 32 := ⟨86, 114, by decide +kernel, by decide +kernel, by decide +kernel, by decide +kernel, by decide +kernel⟩
theorem p113_32 : ps_j0 113 32 .le 41 35 := ⟨9, by decide +kernel, by decide +kernel, by decide +kernel⟩
theorem p113_35 : ps_ld 113 35 2 36 := ⟨.iload_n 2, by decide +kernel, fun _ _ => rfl⟩
theorem p113_36 : ps_k 113 36 (Int32.ofNat 1) 37 := ⟨.iconst 1, by decide +kernel, fun _ _ => rfl⟩
theorem p113_37 : ps_b 113 37 (· + ·) 38 := ⟨.iadd, by decide +kernel, fun _ _ => rfl⟩
theorem p113_38 : ps_jg 113 38 42 := ⟨(4), 41, by decide +kernel, by decide +kernel, by decide +kernel⟩
theorem p113_41 : ps_ld 113 41 2 42 := ⟨.iload_n 2, by decide +kernel, fun _ _ => rfl⟩
theorem p113_42 : ps_si 113 42 2 43 := ⟨.istore_n 2, by decide +kernel, fun _ _ => rfl⟩
theorem p113_43 : ps_pu 113 43 (.iinc 3 ((1 : Nat) : Int)) 46 := (by decide +kernel : ps_i 113 43 = some (.iinc 3 ((1 : Nat) : Int), 46))
theorem p113_46 : ps_jg 113 46 4 := ⟨(-42), 49, by decide +kernel, by decide +kernel, by decide +kernel⟩
theorem p113_49 : ps_ld 113 49 2 50 := ⟨.iload_n 2, by decide +kernel, fun _ _ => rfl⟩
theorem p113_50 : ps_j0 113 50 .ne 54 53 := ⟨4, by decide +kernel, by decide +kernel, by decide +kernel⟩
theorem p113_53 : ps_pu 113 53 (.return_) 54 := (by decide +kernel : ps_i 113 53 = some (.return_, 54))
theorem p113_54 : ps_la 113 54 0 55 := ⟨.aload_n 0, by decide +kernel, fun _ _ => rfl⟩
theorem p113_55 : ps_ld 113 55 1 56 := ⟨.iload_n 1, by decide +kernel, fun _ _ => rfl⟩
theorem p113_56 : ps_vV 113 56 9 107 1 59 := ⟨90, 107, by decide +kernel, by decide +kernel, by decide +kernel, by decide +kernel, by decide +kernel⟩
theorem p113_59 : ps_la 113 59 0 60 := ⟨.aload_n 0, by decide +kernel, fun _ _ => rfl⟩
theorem p113_60 : ps_ld 113 60 2 61 := ⟨.iload_n 2, by decide +kernel, fun _ _ => rfl⟩
theorem p113_61 : ps_vV 113 61 9 107 1 64 := ⟨90, 107, by decide +kernel, by decide +kernel, by decide +kernel, by decide +kernel, by decide +kernel⟩
theorem p113_64 : ps_k 113 64 (Int32.ofNat 0) 65 := ⟨.iconst 0, by decide +kernel, fun _ _ => rfl⟩
theorem p113_65 : ps_si 113 65 3 66 := ⟨.istore_n 3, by decide +kernel, fun _ _ => rfl⟩
theorem p113_66 : ps_k 113 66 (Int32.ofNat 0) 67 := ⟨.iconst 0, by decide +kernel, fun _ _ => rfl⟩
theorem p113_67 : ps_si 113 67 4 69 := ⟨.istore 4, by decide +kernel, fun _ _ => rfl⟩
theorem p113_69 : ps_k 113 69 (Int32.ofNat 0) 70 := ⟨.iconst 0, by decide +kernel, fun _ _ => rfl⟩
theorem p113_70 : ps_si 113 70 5 72 := ⟨.istore 5, by decide +kernel, fun _ _ => rfl⟩
theorem p113_72 : ps_ld 113 72 5 74 := ⟨.iload 5, by decide +kernel, fun _ _ => rfl⟩
theorem p113_74 : ps_la 113 74 0 75 := ⟨.aload_n 0, by decide +kernel, fun _ _ => rfl⟩
theorem p113_75 : ps_gf 113 75 9 4 78 := ⟨73, 36, by decide +kernel, by decide +kernel, by decide +kernel⟩
theorem p113_78 : ps_la 113 78 0 79 := ⟨.aload_n 0, by decide +kernel, fun _ _ => rfl⟩
theorem p113_79 : ps_gf 113 79 9 5 82 := ⟨76, 37, by decide +kernel, by decide +kernel, by decide +kernel⟩
theorem p113_82 : ps_b 113 82 (· + ·) 83 := ⟨.iadd, by decide +kernel, fun _ _ => rfl⟩
theorem p113_83 : ps_j 113 83 .ge 209 86 := ⟨126, by decide +kernel, by decide +kernel, by decide +kernel⟩
theorem p113_86 : ps_la 113 86 0 87 := ⟨.aload_n 0, by decide +kernel, fun _ _ => rfl⟩
theorem p113_87 : ps_gf 113 87 9 12 90 := ⟨32, 44, by decide +kernel, by decide +kernel, by decide +kernel⟩
theorem p113_90 : ps_ld 113 90 5 92 := ⟨.iload 5, by decide +kernel, fun _ _ => rfl⟩
theorem p113_92 : ps_pu 113 92 (.baload) 93 := (by decide +kernel : ps_i 113 92 = some (.baload, 93))
theorem p113_93 : ps_j0 113 93 .eq 106 96 := ⟨13, by decide +kernel, by decide +kernel, by decide +kernel⟩
theorem p113_96 : ps_la 113 96 0 97 := ⟨.aload_n 0, by decide +kernel, fun _ _ => rfl⟩
theorem p113_97 : ps_ld 113 97 5 99 := ⟨.iload 5, by decide +kernel, fun _ _ => rfl⟩
theorem p113_99 : ps_ld 113 99 1 100 := ⟨.iload_n 1, by decide +kernel, fun _ _ => rfl⟩
theorem p113_100 : ps_vV 113 100 9 114 2 103 := ⟨86, 114, by decide +kernel, by decide +kernel, by decide +kernel, by decide +kernel, by decide +kernel⟩
theorem p113_103 : ps_jg 113 103 107 := ⟨(4), 106, by decide +kernel, by decide +kernel, by decide +kernel⟩
theorem p113_106 : ps_k 113 106 (Int32.ofNat 0) 107 := ⟨.iconst 0, by decide +kernel, fun _ _ => rfl⟩
theorem p113_107 : ps_si 113 107 6 109 := ⟨.istore 6, by decide +kernel, fun _ _ => rfl⟩
theorem p113_109 : ps_ld 113 109 6 111 := ⟨.iload 6, by decide +kernel, fun _ _ => rfl⟩
theorem p113_111 : ps_j0 113 111 .le 185 114 := ⟨74, by decide +kernel, by decide +kernel, by decide +kernel⟩
theorem p113_114 : ps_la 113 114 0 115 := ⟨.aload_n 0, by decide +kernel, fun _ _ => rfl⟩
theorem p113_115 : ps_ld 113 115 3 116 := ⟨.iload_n 3, by decide +kernel, fun _ _ => rfl⟩
theorem p113_116 : ps_ld 113 116 4 118 := ⟨.iload 4, by decide +kernel, fun _ _ => rfl⟩
theorem p113_118 : ps_b 113 118 (· - ·) 119 := ⟨.isub, by decide +kernel, fun _ _ => rfl⟩
theorem p113_119 : ps_vV 113 119 9 107 1 122 := ⟨90, 107, by decide +kernel, by decide +kernel, by decide +kernel, by decide +kernel, by decide +kernel⟩
theorem p113_122 : ps_ld 113 122 3 123 := ⟨.iload_n 3, by decide +kernel, fun _ _ => rfl⟩
theorem p113_123 : ps_si 113 123 4 125 := ⟨.istore 4, by decide +kernel, fun _ _ => rfl⟩
theorem p113_125 : ps_la 113 125 0 126 := ⟨.aload_n 0, by decide +kernel, fun _ _ => rfl⟩
theorem p113_126 : ps_ld 113 126 6 128 := ⟨.iload 6, by decide +kernel, fun _ _ => rfl⟩
theorem p113_128 : ps_vV 113 128 9 107 1 131 := ⟨90, 107, by decide +kernel, by decide +kernel, by decide +kernel, by decide +kernel, by decide +kernel⟩
theorem p113_131 : ps_k 113 131 (Int32.ofNat 0) 132 := ⟨.iconst 0, by decide +kernel, fun _ _ => rfl⟩
theorem p113_132 : ps_si 113 132 7 134 := ⟨.istore 7, by decide +kernel, fun _ _ => rfl⟩
theorem p113_134 : ps_k 113 134 (Int32.ofNat 0) 135 := ⟨.iconst 0, by decide +kernel, fun _ _ => rfl⟩
theorem p113_135 : ps_si 113 135 8 137 := ⟨.istore 8, by decide +kernel, fun _ _ => rfl⟩
theorem p113_137 : ps_ld 113 137 8 139 := ⟨.iload 8, by decide +kernel, fun _ _ => rfl⟩
theorem p113_139 : ps_la 113 139 0 140 := ⟨.aload_n 0, by decide +kernel, fun _ _ => rfl⟩
theorem p113_140 : ps_gf 113 140 9 7 143 := ⟨16, 39, by decide +kernel, by decide +kernel, by decide +kernel⟩
theorem p113_143 : ps_ld 113 143 5 145 := ⟨.iload 5, by decide +kernel, fun _ _ => rfl⟩
theorem p113_145 : ps_pu 113 145 (.iaload) 146 := (by decide +kernel : ps_i 113 145 = some (.iaload, 146))
theorem p113_146 : ps_j 113 146 .ge 185 149 := ⟨39, by decide +kernel, by decide +kernel, by decide +kernel⟩
theorem p113_149 : ps_la 113 149 0 150 := ⟨.aload_n 0, by decide +kernel, fun _ _ => rfl⟩
theorem p113_150 : ps_gf 113 150 9 8 153 := ⟨19, 40, by decide +kernel, by decide +kernel, by decide +kernel⟩
theorem p113_153 : ps_k 113 153 (Int32.ofNat 8) 155 := ⟨.bipush 8, by decide +kernel, fun _ _ => rfl⟩
theorem p113_155 : ps_ld 113 155 5 157 := ⟨.iload 5, by decide +kernel, fun _ _ => rfl⟩
theorem p113_157 : ps_b 113 157 (· * ·) 158 := ⟨.imul, by decide +kernel, fun _ _ => rfl⟩
theorem p113_158 : ps_ld 113 158 8 160 := ⟨.iload 8, by decide +kernel, fun _ _ => rfl⟩
theorem p113_160 : ps_b 113 160 (· + ·) 161 := ⟨.iadd, by decide +kernel, fun _ _ => rfl⟩
theorem p113_161 : ps_pu 113 161 (.iaload) 162 := (by decide +kernel : ps_i 113 161 = some (.iaload, 162))
theorem p113_162 : ps_ld 113 162 1 163 := ⟨.iload_n 1, by decide +kernel, fun _ _ => rfl⟩
theorem p113_163 : ps_j 113 163 .ne 179 166 := ⟨16, by decide +kernel, by decide +kernel, by decide +kernel⟩
theorem p113_166 : ps_la 113 166 0 167 := ⟨.aload_n 0, by decide +kernel, fun _ _ => rfl⟩
theorem p113_167 : ps_ld 113 167 8 169 := ⟨.iload 8, by decide +kernel, fun _ _ => rfl⟩
theorem p113_169 : ps_ld 113 169 7 171 := ⟨.iload 7, by decide +kernel, fun _ _ => rfl⟩
theorem p113_171 : ps_b 113 171 (· - ·) 172 := ⟨.isub, by decide +kernel, fun _ _ => rfl⟩
theorem p113_172 : ps_vV 113 172 9 107 1 175 := ⟨90, 107, by decide +kernel, by decide +kernel, by decide +kernel, by decide +kernel, by decide +kernel⟩
theorem p113_175 : ps_ld 113 175 8 177 := ⟨.iload 8, by decide +kernel, fun _ _ => rfl⟩
theorem p113_177 : ps_si 113 177 7 179 := ⟨.istore 7, by decide +kernel, fun _ _ => rfl⟩
theorem p113_179 : ps_pu 113 179 (.iinc 8 ((1 : Nat) : Int)) 182 := (by decide +kernel : ps_i 113 179 = some (.iinc 8 ((1 : Nat) : Int), 182))
theorem p113_182 : ps_jg 113 182 137 := ⟨(-45), 185, by decide +kernel, by decide +kernel, by decide +kernel⟩
theorem p113_185 : ps_la 113 185 0 186 := ⟨.aload_n 0, by decide +kernel, fun _ _ => rfl⟩
theorem p113_186 : ps_gf 113 186 9 12 189 := ⟨32, 44, by decide +kernel, by decide +kernel, by decide +kernel⟩
theorem p113_189 : ps_ld 113 189 5 191 := ⟨.iload 5, by decide +kernel, fun _ _ => rfl⟩
theorem p113_191 : ps_pu 113 191 (.baload) 192 := (by decide +kernel : ps_i 113 191 = some (.baload, 192))
theorem p113_192 : ps_j0 113 192 .eq 201 195 := ⟨9, by decide +kernel, by decide +kernel, by decide +kernel⟩
theorem p113_195 : ps_ld 113 195 3 196 := ⟨.iload_n 3, by decide +kernel, fun _ _ => rfl⟩
theorem p113_196 : ps_k 113 196 (Int32.ofNat 1) 197 := ⟨.iconst 1, by decide +kernel, fun _ _ => rfl⟩
theorem p113_197 : ps_b 113 197 (· + ·) 198 := ⟨.iadd, by decide +kernel, fun _ _ => rfl⟩
theorem p113_198 : ps_jg 113 198 202 := ⟨(4), 201, by decide +kernel, by decide +kernel, by decide +kernel⟩
theorem p113_201 : ps_ld 113 201 3 202 := ⟨.iload_n 3, by decide +kernel, fun _ _ => rfl⟩
theorem p113_202 : ps_si 113 202 3 203 := ⟨.istore_n 3, by decide +kernel, fun _ _ => rfl⟩
theorem p113_203 : ps_pu 113 203 (.iinc 5 ((1 : Nat) : Int)) 206 := (by decide +kernel : ps_i 113 203 = some (.iinc 5 ((1 : Nat) : Int), 206))
theorem p113_206 : ps_jg 113 206 72 := ⟨(-134), 209, by decide +kernel, by decide +kernel, by decide +kernel⟩
theorem p113_209 : ps_pu 113 209 (.return_) 210 := (by decide +kernel : ps_i 113 209 = some (.return_, 210))
theorem e113 : ∀ v0 v1 : Value, pm_ent 113 [v0, v1] = [some v0, some v1, none, none, none, none, none, none, none] := fun _ _ => rfl
theorem l113 : 2 ≤ pm_mx 113 := by decide +kernel
theorem t113 : pm_ret 113 = none := by decide +kernel
theorem p114_0 : ps_k 114 0 (Int32.ofNat 0) 1 := ⟨.iconst 0, by decide +kernel, fun _ _ => rfl⟩
theorem p114_1 : ps_si 114 1 3 2 := ⟨.istore_n 3, by decide +kernel, fun _ _ => rfl⟩
theorem p114_2 : ps_k 114 2 (Int32.ofNat 0) 3 := ⟨.iconst 0, by decide +kernel, fun _ _ => rfl⟩
theorem p114_3 : ps_si 114 3 4 5 := ⟨.istore 4, by decide +kernel, fun _ _ => rfl⟩
theorem p114_5 : ps_ld 114 5 4 7 := ⟨.iload 4, by decide +kernel, fun _ _ => rfl⟩
theorem p114_7 : ps_la 114 7 0 8 := ⟨.aload_n 0, by decide +kernel, fun _ _ => rfl⟩
theorem p114_8 : ps_gf 114 8 9 7 11 := ⟨16, 39, by decide +kernel, by decide +kernel, by decide +kernel⟩
theorem p114_11 : ps_ld 114 11 1 12 := ⟨.iload_n 1, by decide +kernel, fun _ _ => rfl⟩
theorem p114_12 : ps_pu 114 12 (.iaload) 13 := (by decide +kernel : ps_i 114 12 = some (.iaload, 13))
theorem p114_13 : ps_j 114 13 .ge 46 16 := ⟨33, by decide +kernel, by decide +kernel, by decide +kernel⟩
theorem p114_16 : ps_la 114 16 0 17 := ⟨.aload_n 0, by decide +kernel, fun _ _ => rfl⟩
theorem p114_17 : ps_gf 114 17 9 8 20 := ⟨19, 40, by decide +kernel, by decide +kernel, by decide +kernel⟩
theorem p114_20 : ps_k 114 20 (Int32.ofNat 8) 22 := ⟨.bipush 8, by decide +kernel, fun _ _ => rfl⟩
theorem p114_22 : ps_ld 114 22 1 23 := ⟨.iload_n 1, by decide +kernel, fun _ _ => rfl⟩
theorem p114_23 : ps_b 114 23 (· * ·) 24 := ⟨.imul, by decide +kernel, fun _ _ => rfl⟩
theorem p114_24 : ps_ld 114 24 4 26 := ⟨.iload 4, by decide +kernel, fun _ _ => rfl⟩
theorem p114_26 : ps_b 114 26 (· + ·) 27 := ⟨.iadd, by decide +kernel, fun _ _ => rfl⟩
theorem p114_27 : ps_pu 114 27 (.iaload) 28 := (by decide +kernel : ps_i 114 27 = some (.iaload, 28))
theorem p114_28 : ps_ld 114 28 2 29 := ⟨.iload_n 2, by decide +kernel, fun _ _ => rfl⟩
theorem p114_29 : ps_j 114 29 .ne 38 32 := ⟨9, by decide +kernel, by decide +kernel, by decide +kernel⟩
theorem p114_32 : ps_ld 114 32 3 33 := ⟨.iload_n 3, by decide +kernel, fun _ _ => rfl⟩
theorem p114_33 : ps_k 114 33 (Int32.ofNat 1) 34 := ⟨.iconst 1, by decide +kernel, fun _ _ => rfl⟩
theorem p114_34 : ps_b 114 34 (· + ·) 35 := ⟨.iadd, by decide +kernel, fun _ _ => rfl⟩
theorem p114_35 : ps_jg 114 35 39 := ⟨(4), 38, by decide +kernel, by decide +kernel, by decide +kernel⟩
theorem p114_38 : ps_ld 114 38 3 39 := ⟨.iload_n 3, by decide +kernel, fun _ _ => rfl⟩
theorem p114_39 : ps_si 114 39 3 40 := ⟨.istore_n 3, by decide +kernel, fun _ _ => rfl⟩
theorem p114_40 : ps_pu 114 40 (.iinc 4 ((1 : Nat) : Int)) 43 := (by decide +kernel : ps_i 114 40 = some (.iinc 4 ((1 : Nat) : Int), 43))
theorem p114_43 : ps_jg 114 43 5 := ⟨(-38), 46, by decide +kernel, by decide +kernel, by decide +kernel⟩
theorem p114_46 : ps_ld 114 46 3 47 := ⟨.iload_n 3, by decide +kernel, fun _ _ => rfl⟩
theorem p114_47 : ps_pu 114 47 (.ireturn) 48 := (by decide +kernel : ps_i 114 47 = some (.ireturn, 48))
theorem e114 : ∀ v0 v1 v2 : Value, pm_ent 114 [v0, v1, v2] = [some v0, some v1, some v2, none, none] := fun _ _ _ => rfl
theorem l114 : 3 ≤ pm_mx 114 := by decide +kernel
theorem t114 : pm_ret 114 = (some .int) := by decide +kernel
theorem p115_0 : ps_la 115 0 0 1 := ⟨.aload_n 0, by decide +kernel, fun _ _ => rfl⟩
theorem p115_1 : ps_k 115 1 (Int32.ofNat 0) 2 := ⟨.iconst 0, by decide +kernel, fun _ _ => rfl⟩
theorem p115_2 : ps_pf 115 2 9 1 (.int) 5 := ⟨63, 33, by decide +kernel, by decide +kernel, by decide +kernel, by decide +kernel, by decide +kernel⟩
theorem p115_5 : ps_ld 115 5 1 6 := ⟨.iload_n 1, by decide +kernel, fun _ _ => rfl⟩
theorem p115_6 : ps_j0 115 6 .ge 11 9 := ⟨5, by decide +kernel, by decide +kernel, by decide +kernel⟩
theorem p115_9 : ps_k 115 9 (Int32.ofNat 0) 10 := ⟨.iconst 0, by decide +kernel, fun _ _ => rfl⟩
theorem p115_10 : ps_pu 115 10 (.ireturn) 11 := (by decide +kernel : ps_i 115 10 = some (.ireturn, 11))
theorem p115_11 : ps_la 115 11 0 12 := ⟨.aload_n 0, by decide +kernel, fun _ _ => rfl⟩
theorem p115_12 : ps_ld 115 12 1 13 := ⟨.iload_n 1, by decide +kernel, fun _ _ => rfl⟩
theorem p115_13 : ps_pf 115 13 9 17 (.int) 16 := ⟨42, 49, by decide +kernel, by decide +kernel, by decide +kernel, by decide +kernel, by decide +kernel⟩
theorem p115_16 : ps_k 115 16 (Int32.ofNat 1) 17 := ⟨.iconst 1, by decide +kernel, fun _ _ => rfl⟩
theorem p115_17 : ps_pu 115 17 (.ireturn) 18 := (by decide +kernel : ps_i 115 17 = some (.ireturn, 18))
theorem e115 : ∀ v0 v1 : Value, pm_ent 115 [v0, v1] = [some v0, some v1] := fun _ _ => rfl
theorem l115 : 2 ≤ pm_mx 115 := by decide +kernel
theorem t115 : pm_ret 115 = (some .boolean) := by decide +kernel
theorem p116_0 : ps_la 116 0 0 1 := ⟨.aload_n 0, by decide +kernel, fun _ _ => rfl⟩
theorem p116_1 : ps_k 116 1 (Int32.ofNat 0) 2 := ⟨.iconst 0, by decide +kernel, fun _ _ => rfl⟩
theorem p116_2 : ps_pf 116 2 9 1 (.int) 5 := ⟨63, 33, by decide +kernel, by decide +kernel, by decide +kernel, by decide +kernel, by decide +kernel⟩
theorem p116_5 : ps_la 116 5 0 6 := ⟨.aload_n 0, by decide +kernel, fun _ _ => rfl⟩
theorem p116_6 : ps_gf 116 6 9 5 9 := ⟨76, 37, by decide +kernel, by decide +kernel, by decide +kernel⟩
theorem p116_9 : ps_j0 116 9 .ne 21 12 := ⟨12, by decide +kernel, by decide +kernel, by decide +kernel⟩
theorem p116_12 : ps_la 116 12 0 13 := ⟨.aload_n 0, by decide +kernel, fun _ _ => rfl⟩
theorem p116_13 : ps_vV 116 13 9 117 0 16 := ⟨128, 117, by decide +kernel, by decide +kernel, by decide +kernel, by decide +kernel, by decide +kernel⟩
theorem p116_16 : ps_j0 116 16 .ne 21 19 := ⟨5, by decide +kernel, by decide +kernel, by decide +kernel⟩
theorem p116_19 : ps_k 116 19 (Int32.ofNat 0) 20 := ⟨.iconst 0, by decide +kernel, fun _ _ => rfl⟩
theorem p116_20 : ps_pu 116 20 (.ireturn) 21 := (by decide +kernel : ps_i 116 20 = some (.ireturn, 21))
theorem p116_21 : ps_la 116 21 0 22 := ⟨.aload_n 0, by decide +kernel, fun _ _ => rfl⟩
theorem p116_22 : ps_gf 116 22 9 0 25 := ⟨60, 32, by decide +kernel, by decide +kernel, by decide +kernel⟩
theorem p116_25 : ps_la 116 25 0 26 := ⟨.aload_n 0, by decide +kernel, fun _ _ => rfl⟩
theorem p116_26 : ps_vV 116 26 9 105 0 29 := ⟨124, 105, by decide +kernel, by decide +kernel, by decide +kernel, by decide +kernel, by decide +kernel⟩
theorem p116_29 : ps_b 116 29 (· - ·) 30 := ⟨.isub, by decide +kernel, fun _ _ => rfl⟩
theorem p116_30 : ps_si 116 30 1 31 := ⟨.istore_n 1, by decide +kernel, fun _ _ => rfl⟩
theorem p116_31 : ps_k 116 31 (Int32.ofNat 0) 32 := ⟨.iconst 0, by decide +kernel, fun _ _ => rfl⟩
theorem p116_32 : ps_si 116 32 2 33 := ⟨.istore_n 2, by decide +kernel, fun _ _ => rfl⟩
theorem p116_33 : ps_la 116 33 0 34 := ⟨.aload_n 0, by decide +kernel, fun _ _ => rfl⟩
theorem p116_34 : ps_gf 116 34 9 5 37 := ⟨76, 37, by decide +kernel, by decide +kernel, by decide +kernel⟩
theorem p116_37 : ps_j0 116 37 .le 96 40 := ⟨59, by decide +kernel, by decide +kernel, by decide +kernel⟩
theorem p116_40 : ps_k 116 40 (Int32.ofNat 0) 41 := ⟨.iconst 0, by decide +kernel, fun _ _ => rfl⟩
theorem p116_41 : ps_si 116 41 3 42 := ⟨.istore_n 3, by decide +kernel, fun _ _ => rfl⟩
theorem p116_42 : ps_ld 116 42 3 43 := ⟨.iload_n 3, by decide +kernel, fun _ _ => rfl⟩
theorem p116_43 : ps_k 116 43 (Int32.ofNat 200) 46 := ⟨.sipush 200, by decide +kernel, fun _ _ => rfl⟩
theorem p116_46 : ps_j 116 46 .ge 87 49 := ⟨41, by decide +kernel, by decide +kernel, by decide +kernel⟩
theorem p116_49 : ps_la 116 49 0 50 := ⟨.aload_n 0, by decide +kernel, fun _ _ => rfl⟩
theorem p116_50 : ps_gf 116 50 9 12 53 := ⟨32, 44, by decide +kernel, by decide +kernel, by decide +kernel⟩
theorem p116_53 : ps_ld 116 53 3 54 := ⟨.iload_n 3, by decide +kernel, fun _ _ => rfl⟩
theorem p116_54 : ps_ld 116 54 3 55 := ⟨.iload_n 3, by decide +kernel, fun _ _ => rfl⟩
theorem p116_55 : ps_la 116 55 0 56 := ⟨.aload_n 0, by decide +kernel, fun _ _ => rfl⟩
theorem p116_56 : ps_gf 116 56 9 4 59 := ⟨73, 36, by decide +kernel, by decide +kernel, by decide +kernel⟩
theorem p116_59 : ps_j 116 59 .lt 79 62 := ⟨20, by decide +kernel, by decide +kernel, by decide +kernel⟩
theorem p116_62 : ps_ld 116 62 3 63 := ⟨.iload_n 3, by decide +kernel, fun _ _ => rfl⟩
theorem p116_63 : ps_la 116 63 0 64 := ⟨.aload_n 0, by decide +kernel, fun _ _ => rfl⟩
theorem p116_64 : ps_gf 116 64 9 4 67 := ⟨73, 36, by decide +kernel, by decide +kernel, by decide +kernel⟩
theorem p116_67 : ps_la 116 67 0 68 := ⟨.aload_n 0, by decide +kernel, fun _ _ => rfl⟩
theorem p116_68 : ps_gf 116 68 9 5 71 := ⟨76, 37, by decide +kernel, by decide +kernel, by decide +kernel⟩
theorem p116_71 : ps_b 116 71 (· + ·) 72 := ⟨.iadd, by decide +kernel, fun _ _ => rfl⟩
theorem p116_72 : ps_j 116 72 .ge 79 75 := ⟨7, by decide +kernel, by decide +kernel, by decide +kernel⟩
theorem p116_75 : ps_k 116 75 (Int32.ofNat 1) 76 := ⟨.iconst 1, by decide +kernel, fun _ _ => rfl⟩
theorem p116_76 : ps_jg 116 76 80 := ⟨(4), 79, by decide +kernel, by decide +kernel, by decide +kernel⟩
theorem p116_79 : ps_k 116 79 (Int32.ofNat 0) 80 := ⟨.iconst 0, by decide +kernel, fun _ _ => rfl⟩
theorem p116_80 : ps_pu 116 80 (.bastore) 81 := (by decide +kernel : ps_i 116 80 = some (.bastore, 81))
theorem p116_81 : ps_pu 116 81 (.iinc 3 ((1 : Nat) : Int)) 84 := (by decide +kernel : ps_i 116 81 = some (.iinc 3 ((1 : Nat) : Int), 84))
theorem p116_84 : ps_jg 116 84 42 := ⟨(-42), 87, by decide +kernel, by decide +kernel, by decide +kernel⟩
theorem p116_87 : ps_la 116 87 0 88 := ⟨.aload_n 0, by decide +kernel, fun _ _ => rfl⟩
theorem p116_88 : ps_vV 116 88 9 111 0 91 := ⟨121, 111, by decide +kernel, by decide +kernel, by decide +kernel, by decide +kernel, by decide +kernel⟩
theorem p116_91 : ps_la 116 91 0 92 := ⟨.aload_n 0, by decide +kernel, fun _ _ => rfl⟩
theorem p116_92 : ps_gf 116 92 9 19 95 := ⟨83, 51, by decide +kernel, by decide +kernel, by decide +kernel⟩
theorem p116_95 : ps_si 116 95 2 96 := ⟨.istore_n 2, by decide +kernel, fun _ _ => rfl⟩
theorem p116_96 : ps_k 116 96 (Int32.ofNat 0) 97 := ⟨.iconst 0, by decide +kernel, fun _ _ => rfl⟩
theorem p116_97 : ps_si 116 97 3 98 := ⟨.istore_n 3, by decide +kernel, fun _ _ => rfl⟩
theorem p116_98 : ps_k 116 98 (Int32.ofNat 0) 99 := ⟨.iconst 0, by decide +kernel, fun _ _ => rfl⟩
theorem p116_99 : ps_si 116 99 4 101 := ⟨.istore 4, by decide +kernel, fun _ _ => rfl⟩
theorem p116_101 : ps_ld 116 101 4 103 := ⟨.iload 4, by decide +kernel, fun _ _ => rfl⟩
theorem p116_103 : ps_la 116 103 0 104 := ⟨.aload_n 0, by decide +kernel, fun _ _ => rfl⟩
theorem p116_104 : ps_gf 116 104 9 13 107 := ⟨108, 45, by decide +kernel, by decide +kernel, by decide +kernel⟩
theorem p116_107 : ps_j 116 107 .ge 133 110 := ⟨26, by decide +kernel, by decide +kernel, by decide +kernel⟩
theorem p116_110 : ps_la 116 110 0 111 := ⟨.aload_n 0, by decide +kernel, fun _ _ => rfl⟩
theorem p116_111 : ps_ld 116 111 4 113 := ⟨.iload 4, by decide +kernel, fun _ _ => rfl⟩
theorem p116_113 : ps_vV 116 113 9 118 1 116 := ⟨132, 118, by decide +kernel, by decide +kernel, by decide +kernel, by decide +kernel, by decide +kernel⟩
theorem p116_116 : ps_j0 116 116 .eq 123 119 := ⟨7, by decide +kernel, by decide +kernel, by decide +kernel⟩
theorem p116_119 : ps_ld 116 119 3 120 := ⟨.iload_n 3, by decide +kernel, fun _ _ => rfl⟩
theorem p116_120 : ps_jg 116 120 126 := ⟨(6), 123, by decide +kernel, by decide +kernel, by decide +kernel⟩
theorem p116_123 : ps_ld 116 123 3 124 := ⟨.iload_n 3, by decide +kernel, fun _ _ => rfl⟩
theorem p116_124 : ps_k 116 124 (Int32.ofNat 1) 125 := ⟨.iconst 1, by decide +kernel, fun _ _ => rfl⟩
theorem p116_125 : ps_b 116 125 (· + ·) 126 := ⟨.iadd, by decide +kernel, fun _ _ => rfl⟩
theorem p116_126 : ps_si 116 126 3 127 := ⟨.istore_n 3, by decide +kernel, fun _ _ => rfl⟩
theorem p116_127 : ps_pu 116 127 (.iinc 4 ((1 : Nat) : Int)) 130 := (by decide +kernel : ps_i 116 127 = some (.iinc 4 ((1 : Nat) : Int), 130))
theorem p116_130 : ps_jg 116 130 101 := ⟨(-29), 133, by decide +kernel, by decide +kernel, by decide +kernel⟩
theorem p116_133 : ps_la 116 133 0 134 := ⟨.aload_n 0, by decide +kernel, fun _ _ => rfl⟩
theorem p116_134 : ps_gf 116 134 9 5 137 := ⟨76, 37, by decide +kernel, by decide +kernel, by decide +kernel⟩
theorem p116_137 : ps_j0 116 137 .le 146 140 := ⟨9, by decide +kernel, by decide +kernel, by decide +kernel⟩
theorem p116_140 : ps_ld 116 140 3 141 := ⟨.iload_n 3, by decide +kernel, fun _ _ => rfl⟩
theorem p116_141 : ps_k 116 141 (Int32.ofNat 1) 142 := ⟨.iconst 1, by decide +kernel, fun _ _ => rfl⟩
theorem p116_142 : ps_b 116 142 (· + ·) 143 := ⟨.iadd, by decide +kernel, fun _ _ => rfl⟩
theorem p116_143 : ps_jg 116 143 147 := ⟨(4), 146, by decide +kernel, by decide +kernel, by decide +kernel⟩
theorem p116_146 : ps_ld 116 146 3 147 := ⟨.iload_n 3, by decide +kernel, fun _ _ => rfl⟩
theorem p116_147 : ps_si 116 147 3 148 := ⟨.istore_n 3, by decide +kernel, fun _ _ => rfl⟩
theorem p116_148 : ps_la 116 148 0 149 := ⟨.aload_n 0, by decide +kernel, fun _ _ => rfl⟩
theorem p116_149 : ps_k 116 149 (Int32.ofNat 0) 150 := ⟨.iconst 0, by decide +kernel, fun _ _ => rfl⟩
theorem p116_150 : ps_pf 116 150 9 19 (.int) 153 := ⟨83, 51, by decide +kernel, by decide +kernel, by decide +kernel, by decide +kernel, by decide +kernel⟩
theorem p116_153 : ps_la 116 153 0 154 := ⟨.aload_n 0, by decide +kernel, fun _ _ => rfl⟩
theorem p116_154 : ps_ld 116 154 3 155 := ⟨.iload_n 3, by decide +kernel, fun _ _ => rfl⟩
theorem p116_155 : ps_vV 116 155 9 107 1 158 := ⟨90, 107, by decide +kernel, by decide +kernel, by decide +kernel, by decide +kernel, by decide +kernel⟩
theorem p116_158 : ps_k 116 158 (Int32.ofNat 0) 159 := ⟨.iconst 0, by decide +kernel, fun _ _ => rfl⟩
theorem p116_159 : ps_si 116 159 4 161 := ⟨.istore 4, by decide +kernel, fun _ _ => rfl⟩
theorem p116_161 : ps_ld 116 161 4 163 := ⟨.iload 4, by decide +kernel, fun _ _ => rfl⟩
theorem p116_163 : ps_la 116 163 0 164 := ⟨.aload_n 0, by decide +kernel, fun _ _ => rfl⟩
theorem p116_164 : ps_gf 116 164 9 13 167 := ⟨108, 45, by decide +kernel, by decide +kernel, by decide +kernel⟩
theorem p116_167 : ps_j 116 167 .ge 192 170 := ⟨25, by decide +kernel, by decide +kernel, by decide +kernel⟩
theorem p116_170 : ps_la 116 170 0 171 := ⟨.aload_n 0, by decide +kernel, fun _ _ => rfl⟩
theorem p116_171 : ps_ld 116 171 4 173 := ⟨.iload 4, by decide +kernel, fun _ _ => rfl⟩
theorem p116_173 : ps_vV 116 173 9 118 1 176 := ⟨132, 118, by decide +kernel, by decide +kernel, by decide +kernel, by decide +kernel, by decide +kernel⟩
theorem p116_176 : ps_j0 116 176 .ne 186 179 := ⟨10, by decide +kernel, by decide +kernel, by decide +kernel⟩
theorem p116_179 : ps_la 116 179 0 180 := ⟨.aload_n 0, by decide +kernel, fun _ _ => rfl⟩
theorem p116_180 : ps_ld 116 180 4 182 := ⟨.iload 4, by decide +kernel, fun _ _ => rfl⟩
theorem p116_182 : ps_k 116 182 (Int32.ofNat 1) 183 := ⟨.iconst 1, by decide +kernel, fun _ _ => rfl⟩
theorem p116_183 : ps_vV 116 183 9 108 2 186 := ⟨111, 108, by decide +kernel, by decide +kernel, by decide +kernel, by decide +kernel, by decide +kernel⟩
theorem p116_186 : ps_pu 116 186 (.iinc 4 ((1 : Nat) : Int)) 189 := (by decide +kernel : ps_i 116 186 = some (.iinc 4 ((1 : Nat) : Int), 189))
theorem p116_189 : ps_jg 116 189 161 := ⟨(-28), 192, by decide +kernel, by decide +kernel, by decide +kernel⟩
theorem p116_192 : ps_la 116 192 0 193 := ⟨.aload_n 0, by decide +kernel, fun _ _ => rfl⟩
theorem p116_193 : ps_gf 116 193 9 5 196 := ⟨76, 37, by decide +kernel, by decide +kernel, by decide +kernel⟩
theorem p116_196 : ps_j0 116 196 .le 212 199 := ⟨16, by decide +kernel, by decide +kernel, by decide +kernel⟩
theorem p116_199 : ps_la 116 199 0 200 := ⟨.aload_n 0, by decide +kernel, fun _ _ => rfl⟩
theorem p116_200 : ps_la 116 200 0 201 := ⟨.aload_n 0, by decide +kernel, fun _ _ => rfl⟩
theorem p116_201 : ps_gf 116 201 9 15 204 := ⟨38, 47, by decide +kernel, by decide +kernel, by decide +kernel⟩
theorem p116_204 : ps_vV 116 204 9 107 1 207 := ⟨90, 107, by decide +kernel, by decide +kernel, by decide +kernel, by decide +kernel, by decide +kernel⟩
theorem p116_207 : ps_la 116 207 0 208 := ⟨.aload_n 0, by decide +kernel, fun _ _ => rfl⟩
theorem p116_208 : ps_k 116 208 (Int32.ofNat 0) 209 := ⟨.iconst 0, by decide +kernel, fun _ _ => rfl⟩
theorem p116_209 : ps_vV 116 209 9 107 1 212 := ⟨90, 107, by decide +kernel, by decide +kernel, by decide +kernel, by decide +kernel, by decide +kernel⟩
theorem p116_212 : ps_ld 116 212 2 213 := ⟨.iload_n 2, by decide +kernel, fun _ _ => rfl⟩
theorem p116_213 : ps_la 116 213 0 214 := ⟨.aload_n 0, by decide +kernel, fun _ _ => rfl⟩
theorem p116_214 : ps_gf 116 214 9 19 217 := ⟨83, 51, by decide +kernel, by decide +kernel, by decide +kernel⟩
theorem p116_217 : ps_b 116 217 (· + ·) 218 := ⟨.iadd, by decide +kernel, fun _ _ => rfl⟩
theorem p116_218 : ps_si 116 218 2 219 := ⟨.istore_n 2, by decide +kernel, fun _ _ => rfl⟩
theorem p116_219 : ps_ld 116 219 2 220 := ⟨.iload_n 2, by decide +kernel, fun _ _ => rfl⟩
theorem p116_220 : ps_ld 116 220 1 221 := ⟨.iload_n 1, by decide +kernel, fun _ _ => rfl⟩
theorem p116_221 : ps_j 116 221 .gt 230 224 := ⟨9, by decide +kernel, by decide +kernel, by decide +kernel⟩
theorem p116_224 : ps_ld 116 224 3 225 := ⟨.iload_n 3, by decide +kernel, fun _ _ => rfl⟩
theorem p116_225 : ps_k 116 225 (Int32.ofNat 10) 227 := ⟨.bipush 10, by decide +kernel, fun _ _ => rfl⟩
theorem p116_227 : ps_j 116 227 .le 236 230 := ⟨9, by decide +kernel, by decide +kernel, by decide +kernel⟩
theorem p116_230 : ps_la 116 230 0 231 := ⟨.aload_n 0, by decide +kernel, fun _ _ => rfl⟩
theorem p116_231 : ps_k 116 231 (Int32.ofNat 1) 232 := ⟨.iconst 1, by decide +kernel, fun _ _ => rfl⟩
theorem p116_232 : ps_vV 116 232 9 100 1 235 := ⟨66, 100, by decide +kernel, by decide +kernel, by decide +kernel, by decide +kernel, by decide +kernel⟩
theorem p116_235 : ps_pu 116 235 (.ireturn) 236 := (by decide +kernel : ps_i 116 235 = some (.ireturn, 236))
theorem p116_236 : ps_la 116 236 0 237 := ⟨.aload_n 0, by decide +kernel, fun _ _ => rfl⟩
theorem p116_237 : ps_ld 116 237 2 238 := ⟨.iload_n 2, by decide +kernel, fun _ _ => rfl⟩
theorem p116_238 : ps_vV 116 238 9 119 1 241 := ⟨136, 119, by decide +kernel, by decide +kernel, by decide +kernel, by decide +kernel, by decide +kernel⟩
theorem p116_241 : ps_j0 116 241 .eq 246 244 := ⟨5, by decide +kernel, by decide +kernel, by decide +kernel⟩
theorem p116_244 : ps_k 116 244 (-1 : Int32) 245 := ⟨.iconst (-1), by decide +kernel, fun _ _ => rfl⟩
theorem p116_245 : ps_pu 116 245 (.ireturn) 246 := (by decide +kernel : ps_i 116 245 = some (.ireturn, 246))
theorem p116_246 : ps_la 116 246 0 247 := ⟨.aload_n 0, by decide +kernel, fun _ _ => rfl⟩
theorem p116_247 : ps_vV 116 247 9 120 0 250 := ⟨139, 120, by decide +kernel, by decide +kernel, by decide +kernel, by decide +kernel, by decide +kernel⟩
theorem p116_250 : ps_ld 116 250 2 251 := ⟨.iload_n 2, by decide +kernel, fun _ _ => rfl⟩
theorem p116_251 : ps_pu 116 251 (.ireturn) 252 := (by decide +kernel : ps_i 116 251 = some (.ireturn, 252))
theorem e116 : ∀ v0 : Value, pm_ent 116 [v0] = [some v0, none, none, none, none] := fun _ => rfl
theorem l116 : 1 ≤ pm_mx 116 := by decide +kernel
theorem t116 : pm_ret 116 = (some .int) := by decide +kernel
theorem p117_0 : ps_k 117 0 (Int32.ofNat 0) 1 := ⟨.iconst 0, by decide +kernel, fun _ _ => rfl⟩
theorem p117_1 : ps_si 117 1 1 2 := ⟨.istore_n 1, by decide +kernel, fun _ _ => rfl⟩
theorem p117_2 : ps_k 117 2 (Int32.ofNat 0) 3 := ⟨.iconst 0, by decide +kernel, fun _ _ => rfl⟩
theorem p117_3 : ps_si 117 3 2 4 := ⟨.istore_n 2, by decide +kernel, fun _ _ => rfl⟩
theorem p117_4 : ps_ld 117 4 2 5 := ⟨.iload_n 2, by decide +kernel, fun _ _ => rfl⟩
theorem p117_5 : ps_la 117 5 0 6 := ⟨.aload_n 0, by decide +kernel, fun _ _ => rfl⟩
theorem p117_6 : ps_gf 117 6 9 4 9 := ⟨73, 36, by decide +kernel, by decide +kernel, by decide +kernel⟩
theorem p117_9 : ps_j 117 9 .ge 37 12 := ⟨28, by decide +kernel, by decide +kernel, by decide +kernel⟩
theorem p117_12 : ps_ld 117 12 1 13 := ⟨.iload_n 1, by decide +kernel, fun _ _ => rfl⟩
theorem p117_13 : ps_j0 117 13 .ne 25 16 := ⟨12, by decide +kernel, by decide +kernel, by decide +kernel⟩
theorem p117_16 : ps_la 117 16 0 17 := ⟨.aload_n 0, by decide +kernel, fun _ _ => rfl⟩
theorem p117_17 : ps_gf 117 17 9 11 20 := ⟨29, 43, by decide +kernel, by decide +kernel, by decide +kernel⟩
theorem p117_20 : ps_ld 117 20 2 21 := ⟨.iload_n 2, by decide +kernel, fun _ _ => rfl⟩
theorem p117_21 : ps_pu 117 21 (.baload) 22 := (by decide +kernel : ps_i 117 21 = some (.baload, 22))
theorem p117_22 : ps_j0 117 22 .eq 29 25 := ⟨7, by decide +kernel, by decide +kernel, by decide +kernel⟩
theorem p117_25 : ps_k 117 25 (Int32.ofNat 1) 26 := ⟨.iconst 1, by decide +kernel, fun _ _ => rfl⟩
theorem p117_26 : ps_jg 117 26 30 := ⟨(4), 29, by decide +kernel, by decide +kernel, by decide +kernel⟩
theorem p117_29 : ps_k 117 29 (Int32.ofNat 0) 30 := ⟨.iconst 0, by decide +kernel, fun _ _ => rfl⟩
theorem p117_30 : ps_si 117 30 1 31 := ⟨.istore_n 1, by decide +kernel, fun _ _ => rfl⟩
theorem p117_31 : ps_pu 117 31 (.iinc 2 ((1 : Nat) : Int)) 34 := (by decide +kernel : ps_i 117 31 = some (.iinc 2 ((1 : Nat) : Int), 34))
theorem p117_34 : ps_jg 117 34 4 := ⟨(-30), 37, by decide +kernel, by decide +kernel, by decide +kernel⟩
theorem p117_37 : ps_ld 117 37 1 38 := ⟨.iload_n 1, by decide +kernel, fun _ _ => rfl⟩
theorem p117_38 : ps_pu 117 38 (.ireturn) 39 := (by decide +kernel : ps_i 117 38 = some (.ireturn, 39))
theorem e117 : ∀ v0 : Value, pm_ent 117 [v0] = [some v0, none, none] := fun _ => rfl
theorem l117 : 1 ≤ pm_mx 117 := by decide +kernel
theorem t117 : pm_ret 117 = (some .boolean) := by decide +kernel
theorem p118_0 : ps_k 118 0 (Int32.ofNat 0) 1 := ⟨.iconst 0, by decide +kernel, fun _ _ => rfl⟩
theorem p118_1 : ps_si 118 1 2 2 := ⟨.istore_n 2, by decide +kernel, fun _ _ => rfl⟩
theorem p118_2 : ps_k 118 2 (Int32.ofNat 0) 3 := ⟨.iconst 0, by decide +kernel, fun _ _ => rfl⟩
theorem p118_3 : ps_si 118 3 3 4 := ⟨.istore_n 3, by decide +kernel, fun _ _ => rfl⟩
theorem p118_4 : ps_ld 118 4 3 5 := ⟨.iload_n 3, by decide +kernel, fun _ _ => rfl⟩
theorem p118_5 : ps_la 118 5 0 6 := ⟨.aload_n 0, by decide +kernel, fun _ _ => rfl⟩
theorem p118_6 : ps_gf 118 6 9 4 9 := ⟨73, 36, by decide +kernel, by decide +kernel, by decide +kernel⟩
theorem p118_9 : ps_j 118 9 .ge 47 12 := ⟨38, by decide +kernel, by decide +kernel, by decide +kernel⟩
theorem p118_12 : ps_ld 118 12 2 13 := ⟨.iload_n 2, by decide +kernel, fun _ _ => rfl⟩
theorem p118_13 : ps_j0 118 13 .ne 35 16 := ⟨22, by decide +kernel, by decide +kernel, by decide +kernel⟩
theorem p118_16 : ps_la 118 16 0 17 := ⟨.aload_n 0, by decide +kernel, fun _ _ => rfl⟩
theorem p118_17 : ps_gf 118 17 9 9 20 := ⟨22, 41, by decide +kernel, by decide +kernel, by decide +kernel⟩
theorem p118_20 : ps_ld 118 20 3 21 := ⟨.iload_n 3, by decide +kernel, fun _ _ => rfl⟩
theorem p118_21 : ps_pu 118 21 (.iaload) 22 := (by decide +kernel : ps_i 118 21 = some (.iaload, 22))
theorem p118_22 : ps_ld 118 22 1 23 := ⟨.iload_n 1, by decide +kernel, fun _ _ => rfl⟩
theorem p118_23 : ps_j 118 23 .ne 39 26 := ⟨16, by decide +kernel, by decide +kernel, by decide +kernel⟩
theorem p118_26 : ps_la 118 26 0 27 := ⟨.aload_n 0, by decide +kernel, fun _ _ => rfl⟩
theorem p118_27 : ps_ld 118 27 3 28 := ⟨.iload_n 3, by decide +kernel, fun _ _ => rfl⟩
theorem p118_28 : ps_k 118 28 (Int32.ofNat 1) 29 := ⟨.iconst 1, by decide +kernel, fun _ _ => rfl⟩
theorem p118_29 : ps_vV 118 29 9 109 2 32 := ⟨100, 109, by decide +kernel, by decide +kernel, by decide +kernel, by decide +kernel, by decide +kernel⟩
theorem p118_32 : ps_j0 118 32 .ne 39 35 := ⟨7, by decide +kernel, by decide +kernel, by decide +kernel⟩
theorem p118_35 : ps_k 118 35 (Int32.ofNat 1) 36 := ⟨.iconst 1, by decide +kernel, fun _ _ => rfl⟩
theorem p118_36 : ps_jg 118 36 40 := ⟨(4), 39, by decide +kernel, by decide +kernel, by decide +kernel⟩
theorem p118_39 : ps_k 118 39 (Int32.ofNat 0) 40 := ⟨.iconst 0, by decide +kernel, fun _ _ => rfl⟩
theorem p118_40 : ps_si 118 40 2 41 := ⟨.istore_n 2, by decide +kernel, fun _ _ => rfl⟩
theorem p118_41 : ps_pu 118 41 (.iinc 3 ((1 : Nat) : Int)) 44 := (by decide +kernel : ps_i 118 41 = some (.iinc 3 ((1 : Nat) : Int), 44))
theorem p118_44 : ps_jg 118 44 4 := ⟨(-40), 47, by decide +kernel, by decide +kernel, by decide +kernel⟩
theorem p118_47 : ps_ld 118 47 2 48 := ⟨.iload_n 2, by decide +kernel, fun _ _ => rfl⟩
theorem p118_48 : ps_j0 118 48 .ne 55 51 := ⟨7, by decide +kernel, by decide +kernel, by decide +kernel⟩
theorem p118_51 : ps_k 118 51 (Int32.ofNat 1) 52 := ⟨.iconst 1, by decide +kernel, fun _ _ => rfl⟩
theorem p118_52 : ps_jg 118 52 56 := ⟨(4), 55, by decide +kernel, by decide +kernel, by decide +kernel⟩
theorem p118_55 : ps_k 118 55 (Int32.ofNat 0) 56 := ⟨.iconst 0, by decide +kernel, fun _ _ => rfl⟩
theorem p118_56 : ps_pu 118 56 (.ireturn) 57 := (by decide +kernel : ps_i 118 56 = some (.ireturn, 57))
theorem e118 : ∀ v0 v1 : Value, pm_ent 118 [v0, v1] = [some v0, some v1, none, none] := fun _ _ => rfl
theorem l118 : 2 ≤ pm_mx 118 := by decide +kernel
theorem t118 : pm_ret 118 = (some .boolean) := by decide +kernel
theorem p119_0 : ps_la 119 0 0 1 := ⟨.aload_n 0, by decide +kernel, fun _ _ => rfl⟩
theorem p119_1 : ps_gf 119 1 9 17 4 := ⟨42, 49, by decide +kernel, by decide +kernel, by decide +kernel⟩
theorem p119_4 : ps_j0 119 4 .ge 9 7 := ⟨5, by decide +kernel, by decide +kernel, by decide +kernel⟩
theorem p119_7 : ps_k 119 7 (Int32.ofNat 0) 8 := ⟨.iconst 0, by decide +kernel, fun _ _ => rfl⟩
theorem p119_8 : ps_pu 119 8 (.ireturn) 9 := (by decide +kernel : ps_i 119 8 = some (.ireturn, 9))
theorem p119_9 : ps_ld 119 9 1 10 := ⟨.iload_n 1, by decide +kernel, fun _ _ => rfl⟩
theorem p119_10 : ps_la 119 10 0 11 := ⟨.aload_n 0, by decide +kernel, fun _ _ => rfl⟩
theorem p119_11 : ps_gf 119 11 9 17 14 := ⟨42, 49, by decide +kernel, by decide +kernel, by decide +kernel⟩
theorem p119_14 : ps_j 119 14 .gt 29 17 := ⟨15, by decide +kernel, by decide +kernel, by decide +kernel⟩
theorem p119_17 : ps_la 119 17 0 18 := ⟨.aload_n 0, by decide +kernel, fun _ _ => rfl⟩
theorem p119_18 : ps_la 119 18 0 19 := ⟨.aload_n 0, by decide +kernel, fun _ _ => rfl⟩
theorem p119_19 : ps_gf 119 19 9 17 22 := ⟨42, 49, by decide +kernel, by decide +kernel, by decide +kernel⟩
theorem p119_22 : ps_ld 119 22 1 23 := ⟨.iload_n 1, by decide +kernel, fun _ _ => rfl⟩
theorem p119_23 : ps_b 119 23 (· - ·) 24 := ⟨.isub, by decide +kernel, fun _ _ => rfl⟩
theorem p119_24 : ps_pf 119 24 9 17 (.int) 27 := ⟨42, 49, by decide +kernel, by decide +kernel, by decide +kernel, by decide +kernel, by decide +kernel⟩
theorem p119_27 : ps_k 119 27 (Int32.ofNat 0) 28 := ⟨.iconst 0, by decide +kernel, fun _ _ => rfl⟩
theorem p119_28 : ps_pu 119 28 (.ireturn) 29 := (by decide +kernel : ps_i 119 28 = some (.ireturn, 29))
theorem p119_29 : ps_la 119 29 0 30 := ⟨.aload_n 0, by decide +kernel, fun _ _ => rfl⟩
theorem p119_30 : ps_k 119 30 (-1 : Int32) 31 := ⟨.iconst (-1), by decide +kernel, fun _ _ => rfl⟩
theorem p119_31 : ps_pf 119 31 9 17 (.int) 34 := ⟨42, 49, by decide +kernel, by decide +kernel, by decide +kernel, by decide +kernel, by decide +kernel⟩
theorem p119_34 : ps_la 119 34 0 35 := ⟨.aload_n 0, by decide +kernel, fun _ _ => rfl⟩
theorem p119_35 : ps_k 119 35 (Int32.ofNat 0) 36 := ⟨.iconst 0, by decide +kernel, fun _ _ => rfl⟩
theorem p119_36 : ps_pf 119 36 9 5 (.int) 39 := ⟨76, 37, by decide +kernel, by decide +kernel, by decide +kernel, by decide +kernel, by decide +kernel⟩
theorem p119_39 : ps_la 119 39 0 40 := ⟨.aload_n 0, by decide +kernel, fun _ _ => rfl⟩
theorem p119_40 : ps_k 119 40 (Int32.ofNat 0) 41 := ⟨.iconst 0, by decide +kernel, fun _ _ => rfl⟩
theorem p119_41 : ps_pf 119 41 9 2 (.int) 44 := ⟨70, 34, by decide +kernel, by decide +kernel, by decide +kernel, by decide +kernel, by decide +kernel⟩
theorem p119_44 : ps_k 119 44 (Int32.ofNat 0) 45 := ⟨.iconst 0, by decide +kernel, fun _ _ => rfl⟩
theorem p119_45 : ps_si 119 45 2 46 := ⟨.istore_n 2, by decide +kernel, fun _ _ => rfl⟩
theorem p119_46 : ps_ld 119 46 2 47 := ⟨.iload_n 2, by decide +kernel, fun _ _ => rfl⟩
theorem p119_47 : ps_la 119 47 0 48 := ⟨.aload_n 0, by decide +kernel, fun _ _ => rfl⟩
theorem p119_48 : ps_gf 119 48 9 4 51 := ⟨73, 36, by decide +kernel, by decide +kernel, by decide +kernel⟩
theorem p119_51 : ps_j 119 51 .ge 67 54 := ⟨16, by decide +kernel, by decide +kernel, by decide +kernel⟩
theorem p119_54 : ps_la 119 54 0 55 := ⟨.aload_n 0, by decide +kernel, fun _ _ => rfl⟩
theorem p119_55 : ps_gf 119 55 9 11 58 := ⟨29, 43, by decide +kernel, by decide +kernel, by decide +kernel⟩
theorem p119_58 : ps_ld 119 58 2 59 := ⟨.iload_n 2, by decide +kernel, fun _ _ => rfl⟩
theorem p119_59 : ps_k 119 59 (Int32.ofNat 0) 60 := ⟨.iconst 0, by decide +kernel, fun _ _ => rfl⟩
theorem p119_60 : ps_pu 119 60 (.bastore) 61 := (by decide +kernel : ps_i 119 60 = some (.bastore, 61))
theorem p119_61 : ps_pu 119 61 (.iinc 2 ((1 : Nat) : Int)) 64 := (by decide +kernel : ps_i 119 61 = some (.iinc 2 ((1 : Nat) : Int), 64))
theorem p119_64 : ps_jg 119 64 46 := ⟨(-18), 67, by decide +kernel, by decide +kernel, by decide +kernel⟩
theorem p119_67 : ps_k 119 67 (Int32.ofNat 1) 68 := ⟨.iconst 1, by decide +kernel, fun _ _ => rfl⟩
theorem p119_68 : ps_pu 119 68 (.ireturn) 69 := (by decide +kernel : ps_i 119 68 = some (.ireturn, 69))
theorem e119 : ∀ v0 v1 : Value, pm_ent 119 [v0, v1] = [some v0, some v1, none] := fun _ _ => rfl
theorem l119 : 2 ≤ pm_mx 119 := by decide +kernel
theorem t119 : pm_ret 119 = (some .boolean) := by decide +kernel
theorem p120_0 : ps_la 120 0 0 1 := ⟨.aload_n 0, by decide +kernel, fun _ _ => rfl⟩
theorem p120_1 : ps_k 120 1 (Int32.ofNat 1) 2 := ⟨.iconst 1, by decide +kernel, fun _ _ => rfl⟩
theorem p120_2 : ps_pf 120 2 9 16 (.boolean) 5 := ⟨104, 48, by decide +kernel, by decide +kernel, by decide +kernel, by decide +kernel, by decide +kernel⟩
theorem p120_5 : ps_la 120 5 0 6 := ⟨.aload_n 0, by decide +kernel, fun _ _ => rfl⟩
theorem p120_6 : ps_gf 120 6 9 13 9 := ⟨108, 45, by decide +kernel, by decide +kernel, by decide +kernel⟩
theorem p120_9 : ps_k 120 9 (Int32.ofNat 1) 10 := ⟨.iconst 1, by decide +kernel, fun _ _ => rfl⟩
theorem p120_10 : ps_b 120 10 (· - ·) 11 := ⟨.isub, by decide +kernel, fun _ _ => rfl⟩
theorem p120_11 : ps_si 120 11 1 12 := ⟨.istore_n 1, by decide +kernel, fun _ _ => rfl⟩
theorem p120_12 : ps_ld 120 12 1 13 := ⟨.iload_n 1, by decide +kernel, fun _ _ => rfl⟩
theorem p120_13 : ps_j0 120 13 .lt 35 16 := ⟨22, by decide +kernel, by decide +kernel, by decide +kernel⟩
theorem p120_16 : ps_la 120 16 0 17 := ⟨.aload_n 0, by decide +kernel, fun _ _ => rfl⟩
theorem p120_17 : ps_ld 120 17 1 18 := ⟨.iload_n 1, by decide +kernel, fun _ _ => rfl⟩
theorem p120_18 : ps_vV 120 18 9 118 1 21 := ⟨132, 118, by decide +kernel, by decide +kernel, by decide +kernel, by decide +kernel, by decide +kernel⟩
theorem p120_21 : ps_j0 120 21 .eq 29 24 := ⟨8, by decide +kernel, by decide +kernel, by decide +kernel⟩
theorem p120_24 : ps_la 120 24 0 25 := ⟨.aload_n 0, by decide +kernel, fun _ _ => rfl⟩
theorem p120_25 : ps_ld 120 25 1 26 := ⟨.iload_n 1, by decide +kernel, fun _ _ => rfl⟩
theorem p120_26 : ps_vV 120 26 9 121 1 29 := ⟨142, 121, by decide +kernel, by decide +kernel, by decide +kernel, by decide +kernel, by decide +kernel⟩
theorem p120_29 : ps_pu 120 29 (.iinc 1 (-1)) 32 := (by decide +kernel : ps_i 120 29 = some (.iinc 1 (-1), 32))
theorem p120_32 : ps_jg 120 32 12 := ⟨(-20), 35, by decide +kernel, by decide +kernel, by decide +kernel⟩
theorem p120_35 : ps_k 120 35 (Int32.ofNat 0) 36 := ⟨.iconst 0, by decide +kernel, fun _ _ => rfl⟩
theorem p120_36 : ps_si 120 36 1 37 := ⟨.istore_n 1, by decide +kernel, fun _ _ => rfl⟩
theorem p120_37 : ps_ld 120 37 1 38 := ⟨.iload_n 1, by decide +kernel, fun _ _ => rfl⟩
theorem p120_38 : ps_la 120 38 0 39 := ⟨.aload_n 0, by decide +kernel, fun _ _ => rfl⟩
theorem p120_39 : ps_gf 120 39 9 4 42 := ⟨73, 36, by decide +kernel, by decide +kernel, by decide +kernel⟩
theorem p120_42 : ps_j 120 42 .ge 87 45 := ⟨45, by decide +kernel, by decide +kernel, by decide +kernel⟩
theorem p120_45 : ps_la 120 45 0 46 := ⟨.aload_n 0, by decide +kernel, fun _ _ => rfl⟩
theorem p120_46 : ps_gf 120 46 9 10 49 := ⟨25, 42, by decide +kernel, by decide +kernel, by decide +kernel⟩
theorem p120_49 : ps_ld 120 49 1 50 := ⟨.iload_n 1, by decide +kernel, fun _ _ => rfl⟩
theorem p120_50 : ps_la 120 50 0 51 := ⟨.aload_n 0, by decide +kernel, fun _ _ => rfl⟩
theorem p120_51 : ps_gf 120 51 9 10 54 := ⟨25, 42, by decide +kernel, by decide +kernel, by decide +kernel⟩
theorem p120_54 : ps_ld 120 54 1 55 := ⟨.iload_n 1, by decide +kernel, fun _ _ => rfl⟩
theorem p120_55 : ps_pu 120 55 (.baload) 56 := (by decide +kernel : ps_i 120 55 = some (.baload, 56))
theorem p120_56 : ps_j0 120 56 .ne 68 59 := ⟨12, by decide +kernel, by decide +kernel, by decide +kernel⟩
theorem p120_59 : ps_la 120 59 0 60 := ⟨.aload_n 0, by decide +kernel, fun _ _ => rfl⟩
theorem p120_60 : ps_gf 120 60 9 11 63 := ⟨29, 43, by decide +kernel, by decide +kernel, by decide +kernel⟩
theorem p120_63 : ps_ld 120 63 1 64 := ⟨.iload_n 1, by decide +kernel, fun _ _ => rfl⟩
theorem p120_64 : ps_pu 120 64 (.baload) 65 := (by decide +kernel : ps_i 120 64 = some (.baload, 65))
theorem p120_65 : ps_j0 120 65 .eq 72 68 := ⟨7, by decide +kernel, by decide +kernel, by decide +kernel⟩
theorem p120_68 : ps_k 120 68 (Int32.ofNat 1) 69 := ⟨.iconst 1, by decide +kernel, fun _ _ => rfl⟩
theorem p120_69 : ps_jg 120 69 73 := ⟨(4), 72, by decide +kernel, by decide +kernel, by decide +kernel⟩
theorem p120_72 : ps_k 120 72 (Int32.ofNat 0) 73 := ⟨.iconst 0, by decide +kernel, fun _ _ => rfl⟩
theorem p120_73 : ps_pu 120 73 (.bastore) 74 := (by decide +kernel : ps_i 120 73 = some (.bastore, 74))
theorem p120_74 : ps_la 120 74 0 75 := ⟨.aload_n 0, by decide +kernel, fun _ _ => rfl⟩
theorem p120_75 : ps_gf 120 75 9 11 78 := ⟨29, 43, by decide +kernel, by decide +kernel, by decide +kernel⟩
theorem p120_78 : ps_ld 120 78 1 79 := ⟨.iload_n 1, by decide +kernel, fun _ _ => rfl⟩
theorem p120_79 : ps_k 120 79 (Int32.ofNat 0) 80 := ⟨.iconst 0, by decide +kernel, fun _ _ => rfl⟩
theorem p120_80 : ps_pu 120 80 (.bastore) 81 := (by decide +kernel : ps_i 120 80 = some (.bastore, 81))
theorem p120_81 : ps_pu 120 81 (.iinc 1 ((1 : Nat) : Int)) 84 := (by decide +kernel : ps_i 120 81 = some (.iinc 1 ((1 : Nat) : Int), 84))
theorem p120_84 : ps_jg 120 84 37 := ⟨(-47), 87, by decide +kernel, by decide +kernel, by decide +kernel⟩
theorem p120_87 : ps_la 120 87 0 88 := ⟨.aload_n 0, by decide +kernel, fun _ _ => rfl⟩
theorem p120_88 : ps_gf 120 88 9 5 91 := ⟨76, 37, by decide +kernel, by decide +kernel, by decide +kernel⟩
theorem p120_91 : ps_j0 120 91 .le 179 94 := ⟨88, by decide +kernel, by decide +kernel, by decide +kernel⟩
theorem p120_94 : ps_la 120 94 0 95 := ⟨.aload_n 0, by decide +kernel, fun _ _ => rfl⟩
theorem p120_95 : ps_gf 120 95 9 4 98 := ⟨73, 36, by decide +kernel, by decide +kernel, by decide +kernel⟩
theorem p120_98 : ps_si 120 98 1 99 := ⟨.istore_n 1, by decide +kernel, fun _ _ => rfl⟩
theorem p120_99 : ps_ld 120 99 1 100 := ⟨.iload_n 1, by decide +kernel, fun _ _ => rfl⟩
theorem p120_100 : ps_la 120 100 0 101 := ⟨.aload_n 0, by decide +kernel, fun _ _ => rfl⟩
theorem p120_101 : ps_gf 120 101 9 4 104 := ⟨73, 36, by decide +kernel, by decide +kernel, by decide +kernel⟩
theorem p120_104 : ps_la 120 104 0 105 := ⟨.aload_n 0, by decide +kernel, fun _ _ => rfl⟩
theorem p120_105 : ps_gf 120 105 9 5 108 := ⟨76, 37, by decide +kernel, by decide +kernel, by decide +kernel⟩
theorem p120_108 : ps_b 120 108 (· + ·) 109 := ⟨.iadd, by decide +kernel, fun _ _ => rfl⟩
theorem p120_109 : ps_j 120 109 .ge 128 112 := ⟨19, by decide +kernel, by decide +kernel, by decide +kernel⟩
theorem p120_112 : ps_la 120 112 0 113 := ⟨.aload_n 0, by decide +kernel, fun _ _ => rfl⟩
theorem p120_113 : ps_gf 120 113 9 9 116 := ⟨22, 41, by decide +kernel, by decide +kernel, by decide +kernel⟩
theorem p120_116 : ps_ld 120 116 1 117 := ⟨.iload_n 1, by decide +kernel, fun _ _ => rfl⟩
theorem p120_117 : ps_la 120 117 0 118 := ⟨.aload_n 0, by decide +kernel, fun _ _ => rfl⟩
theorem p120_118 : ps_gf 120 118 9 13 121 := ⟨108, 45, by decide +kernel, by decide +kernel, by decide +kernel⟩
theorem p120_121 : ps_pu 120 121 (.iastore) 122 := (by decide +kernel : ps_i 120 121 = some (.iastore, 122))
theorem p120_122 : ps_pu 120 122 (.iinc 1 ((1 : Nat) : Int)) 125 := (by decide +kernel : ps_i 120 122 = some (.iinc 1 ((1 : Nat) : Int), 125))
theorem p120_125 : ps_jg 120 125 99 := ⟨(-26), 128, by decide +kernel, by decide +kernel, by decide +kernel⟩
theorem p120_128 : ps_la 120 128 0 129 := ⟨.aload_n 0, by decide +kernel, fun _ _ => rfl⟩
theorem p120_129 : ps_la 120 129 0 130 := ⟨.aload_n 0, by decide +kernel, fun _ _ => rfl⟩
theorem p120_130 : ps_gf 120 130 9 4 133 := ⟨73, 36, by decide +kernel, by decide +kernel, by decide +kernel⟩
theorem p120_133 : ps_la 120 133 0 134 := ⟨.aload_n 0, by decide +kernel, fun _ _ => rfl⟩
theorem p120_134 : ps_gf 120 134 9 5 137 := ⟨76, 37, by decide +kernel, by decide +kernel, by decide +kernel⟩
theorem p120_137 : ps_b 120 137 (· + ·) 138 := ⟨.iadd, by decide +kernel, fun _ _ => rfl⟩
theorem p120_138 : ps_pf 120 138 9 4 (.int) 141 := ⟨73, 36, by decide +kernel, by decide +kernel, by decide +kernel, by decide +kernel, by decide +kernel⟩
theorem p120_141 : ps_la 120 141 0 142 := ⟨.aload_n 0, by decide +kernel, fun _ _ => rfl⟩
theorem p120_142 : ps_k 120 142 (Int32.ofNat 0) 143 := ⟨.iconst 0, by decide +kernel, fun _ _ => rfl⟩
theorem p120_143 : ps_pf 120 143 9 5 (.int) 146 := ⟨76, 37, by decide +kernel, by decide +kernel, by decide +kernel, by decide +kernel, by decide +kernel⟩
theorem p120_146 : ps_la 120 146 0 147 := ⟨.aload_n 0, by decide +kernel, fun _ _ => rfl⟩
theorem p120_147 : ps_gf 120 147 9 14 150 := ⟨35, 46, by decide +kernel, by decide +kernel, by decide +kernel⟩
theorem p120_150 : ps_la 120 150 0 151 := ⟨.aload_n 0, by decide +kernel, fun _ _ => rfl⟩
theorem p120_151 : ps_gf 120 151 9 13 154 := ⟨108, 45, by decide +kernel, by decide +kernel, by decide +kernel⟩
theorem p120_154 : ps_la 120 154 0 155 := ⟨.aload_n 0, by decide +kernel, fun _ _ => rfl⟩
theorem p120_155 : ps_gf 120 155 9 15 158 := ⟨38, 47, by decide +kernel, by decide +kernel, by decide +kernel⟩
theorem p120_158 : ps_pu 120 158 (.iastore) 159 := (by decide +kernel : ps_i 120 158 = some (.iastore, 159))
theorem p120_159 : ps_la 120 159 0 160 := ⟨.aload_n 0, by decide +kernel, fun _ _ => rfl⟩
theorem p120_160 : ps_pu 120 160 (.dup) 161 := (by decide +kernel : ps_i 120 160 = some (.dup, 161))
theorem p120_161 : ps_gf 120 161 9 13 164 := ⟨108, 45, by decide +kernel, by decide +kernel, by decide +kernel⟩
theorem p120_164 : ps_k 120 164 (Int32.ofNat 1) 165 := ⟨.iconst 1, by decide +kernel, fun _ _ => rfl⟩
theorem p120_165 : ps_b 120 165 (· + ·) 166 := ⟨.iadd, by decide +kernel, fun _ _ => rfl⟩
theorem p120_166 : ps_pf 120 166 9 13 (.int) 169 := ⟨108, 45, by decide +kernel, by decide +kernel, by decide +kernel, by decide +kernel, by decide +kernel⟩
theorem p120_169 : ps_la 120 169 0 170 := ⟨.aload_n 0, by decide +kernel, fun _ _ => rfl⟩
theorem p120_170 : ps_pu 120 170 (.dup) 171 := (by decide +kernel : ps_i 120 170 = some (.dup, 171))
theorem p120_171 : ps_gf 120 171 9 15 174 := ⟨38, 47, by decide +kernel, by decide +kernel, by decide +kernel⟩
theorem p120_174 : ps_k 120 174 (Int32.ofNat 1) 175 := ⟨.iconst 1, by decide +kernel, fun _ _ => rfl⟩
theorem p120_175 : ps_b 120 175 (· + ·) 176 := ⟨.iadd, by decide +kernel, fun _ _ => rfl⟩
theorem p120_176 : ps_pf 120 176 9 15 (.int) 179 := ⟨38, 47, by decide +kernel, by decide +kernel, by decide +kernel, by decide +kernel, by decide +kernel⟩
theorem p120_179 : ps_pu 120 179 (.return_) 180 := (by decide +kernel : ps_i 120 179 = some (.return_, 180))
theorem e120 : ∀ v0 : Value, pm_ent 120 [v0] = [some v0, none] := fun _ => rfl
theorem l120 : 1 ≤ pm_mx 120 := by decide +kernel
theorem t120 : pm_ret 120 = none := by decide +kernel
theorem p121_0 : ps_k 121 0 (Int32.ofNat 0) 1 := ⟨.iconst 0, by decide +kernel, fun _ _ => rfl⟩
theorem p121_1 : ps_si 121 1 2 2 := ⟨.istore_n 2, by decide +kernel, fun _ _ => rfl⟩
theorem p121_2 : ps_la 121 2 0 3 := ⟨.aload_n 0, by decide +kernel, fun _ _ => rfl⟩
theorem p121_3 : ps_gf 121 3 9 4 6 := ⟨73, 36, by decide +kernel, by decide +kernel, by decide +kernel⟩
theorem p121_6 : ps_la 121 6 0 7 := ⟨.aload_n 0, by decide +kernel, fun _ _ => rfl⟩
theorem p121_7 : ps_gf 121 7 9 5 10 := ⟨76, 37, by decide +kernel, by decide +kernel, by decide +kernel⟩
theorem p121_10 : ps_b 121 10 (· + ·) 11 := ⟨.iadd, by decide +kernel, fun _ _ => rfl⟩
theorem p121_11 : ps_si 121 11 3 12 := ⟨.istore_n 3, by decide +kernel, fun _ _ => rfl⟩
theorem p121_12 : ps_k 121 12 (Int32.ofNat 0) 13 := ⟨.iconst 0, by decide +kernel, fun _ _ => rfl⟩
theorem p121_13 : ps_si 121 13 4 15 := ⟨.istore 4, by decide +kernel, fun _ _ => rfl⟩
theorem p121_15 : ps_k 121 15 (Int32.ofNat 0) 16 := ⟨.iconst 0, by decide +kernel, fun _ _ => rfl⟩
theorem p121_16 : ps_si 121 16 5 18 := ⟨.istore 5, by decide +kernel, fun _ _ => rfl⟩
theorem p121_18 : ps_ld 121 18 5 20 := ⟨.iload 5, by decide +kernel, fun _ _ => rfl⟩
theorem p121_20 : ps_ld 121 20 3 21 := ⟨.iload_n 3, by decide +kernel, fun _ _ => rfl⟩
theorem p121_21 : ps_j 121 21 .ge 147 24 := ⟨126, by decide +kernel, by decide +kernel, by decide +kernel⟩
theorem p121_24 : ps_ld 121 24 5 26 := ⟨.iload 5, by decide +kernel, fun _ _ => rfl⟩
theorem p121_26 : ps_la 121 26 0 27 := ⟨.aload_n 0, by decide +kernel, fun _ _ => rfl⟩
theorem p121_27 : ps_gf 121 27 9 4 30 := ⟨73, 36, by decide +kernel, by decide +kernel, by decide +kernel⟩
theorem p121_30 : ps_j 121 30 .ge 48 33 := ⟨18, by decide +kernel, by decide +kernel, by decide +kernel⟩
theorem p121_33 : ps_la 121 33 0 34 := ⟨.aload_n 0, by decide +kernel, fun _ _ => rfl⟩
theorem p121_34 : ps_gf 121 34 9 9 37 := ⟨22, 41, by decide +kernel, by decide +kernel, by decide +kernel⟩
theorem p121_37 : ps_ld 121 37 5 39 := ⟨.iload 5, by decide +kernel, fun _ _ => rfl⟩
theorem p121_39 : ps_pu 121 39 (.iaload) 40 := (by decide +kernel : ps_i 121 39 = some (.iaload, 40))
theorem p121_40 : ps_ld 121 40 1 41 := ⟨.iload_n 1, by decide +kernel, fun _ _ => rfl⟩
theorem p121_41 : ps_j 121 41 .ne 48 44 := ⟨7, by decide +kernel, by decide +kernel, by decide +kernel⟩
theorem p121_44 : ps_k 121 44 (Int32.ofNat 1) 45 := ⟨.iconst 1, by decide +kernel, fun _ _ => rfl⟩
theorem p121_45 : ps_jg 121 45 49 := ⟨(4), 48, by decide +kernel, by decide +kernel, by decide +kernel⟩
theorem p121_48 : ps_k 121 48 (Int32.ofNat 0) 49 := ⟨.iconst 0, by decide +kernel, fun _ _ => rfl⟩
theorem p121_49 : ps_si 121 49 6 51 := ⟨.istore 6, by decide +kernel, fun _ _ => rfl⟩
theorem p121_51 : ps_ld 121 51 6 53 := ⟨.iload 6, by decide +kernel, fun _ _ => rfl⟩
theorem p121_53 : ps_j0 121 53 .ne 141 56 := ⟨88, by decide +kernel, by decide +kernel, by decide +kernel⟩
theorem p121_56 : ps_ld 121 56 5 58 := ⟨.iload 5, by decide +kernel, fun _ _ => rfl⟩
theorem p121_58 : ps_la 121 58 0 59 := ⟨.aload_n 0, by decide +kernel, fun _ _ => rfl⟩
theorem p121_59 : ps_gf 121 59 9 4 62 := ⟨73, 36, by decide +kernel, by decide +kernel, by decide +kernel⟩
theorem p121_62 : ps_j 121 62 .ge 80 65 := ⟨18, by decide +kernel, by decide +kernel, by decide +kernel⟩
theorem p121_65 : ps_la 121 65 0 66 := ⟨.aload_n 0, by decide +kernel, fun _ _ => rfl⟩
theorem p121_66 : ps_gf 121 66 9 9 69 := ⟨22, 41, by decide +kernel, by decide +kernel, by decide +kernel⟩
theorem p121_69 : ps_ld 121 69 5 71 := ⟨.iload 5, by decide +kernel, fun _ _ => rfl⟩
theorem p121_71 : ps_pu 121 71 (.iaload) 72 := (by decide +kernel : ps_i 121 71 = some (.iaload, 72))
theorem p121_72 : ps_ld 121 72 1 73 := ⟨.iload_n 1, by decide +kernel, fun _ _ => rfl⟩
theorem p121_73 : ps_j 121 73 .le 80 76 := ⟨7, by decide +kernel, by decide +kernel, by decide +kernel⟩
theorem p121_76 : ps_k 121 76 (Int32.ofNat 1) 77 := ⟨.iconst 1, by decide +kernel, fun _ _ => rfl⟩
theorem p121_77 : ps_jg 121 77 81 := ⟨(4), 80, by decide +kernel, by decide +kernel, by decide +kernel⟩
theorem p121_80 : ps_k 121 80 (Int32.ofNat 0) 81 := ⟨.iconst 0, by decide +kernel, fun _ _ => rfl⟩
theorem p121_81 : ps_si 121 81 7 83 := ⟨.istore 7, by decide +kernel, fun _ _ => rfl⟩
theorem p121_83 : ps_la 121 83 0 84 := ⟨.aload_n 0, by decide +kernel, fun _ _ => rfl⟩
theorem p121_84 : ps_ld 121 84 5 86 := ⟨.iload 5, by decide +kernel, fun _ _ => rfl⟩
theorem p121_86 : ps_ld 121 86 2 87 := ⟨.iload_n 2, by decide +kernel, fun _ _ => rfl⟩
theorem p121_87 : ps_vV 121 87 9 103 2 90 := ⟨79, 103, by decide +kernel, by decide +kernel, by decide +kernel, by decide +kernel, by decide +kernel⟩
theorem p121_90 : ps_la 121 90 0 91 := ⟨.aload_n 0, by decide +kernel, fun _ _ => rfl⟩
theorem p121_91 : ps_gf 121 91 9 9 94 := ⟨22, 41, by decide +kernel, by decide +kernel, by decide +kernel⟩
theorem p121_94 : ps_ld 121 94 2 95 := ⟨.iload_n 2, by decide +kernel, fun _ _ => rfl⟩
theorem p121_95 : ps_ld 121 95 7 97 := ⟨.iload 7, by decide +kernel, fun _ _ => rfl⟩
theorem p121_97 : ps_j0 121 97 .eq 111 100 := ⟨14, by decide +kernel, by decide +kernel, by decide +kernel⟩
theorem p121_100 : ps_la 121 100 0 101 := ⟨.aload_n 0, by decide +kernel, fun _ _ => rfl⟩
theorem p121_101 : ps_gf 121 101 9 9 104 := ⟨22, 41, by decide +kernel, by decide +kernel, by decide +kernel⟩
theorem p121_104 : ps_ld 121 104 2 105 := ⟨.iload_n 2, by decide +kernel, fun _ _ => rfl⟩
theorem p121_105 : ps_pu 121 105 (.iaload) 106 := (by decide +kernel : ps_i 121 105 = some (.iaload, 106))
theorem p121_106 : ps_k 121 106 (Int32.ofNat 1) 107 := ⟨.iconst 1, by decide +kernel, fun _ _ => rfl⟩
theorem p121_107 : ps_b 121 107 (· - ·) 108 := ⟨.isub, by decide +kernel, fun _ _ => rfl⟩
theorem p121_108 : ps_jg 121 108 117 := ⟨(9), 111, by decide +kernel, by decide +kernel, by decide +kernel⟩
theorem p121_111 : ps_la 121 111 0 112 := ⟨.aload_n 0, by decide +kernel, fun _ _ => rfl⟩
theorem p121_112 : ps_gf 121 112 9 9 115 := ⟨22, 41, by decide +kernel, by decide +kernel, by decide +kernel⟩
theorem p121_115 : ps_ld 121 115 2 116 := ⟨.iload_n 2, by decide +kernel, fun _ _ => rfl⟩
theorem p121_116 : ps_pu 121 116 (.iaload) 117 := (by decide +kernel : ps_i 121 116 = some (.iaload, 117))
theorem p121_117 : ps_pu 121 117 (.iastore) 118 := (by decide +kernel : ps_i 121 117 = some (.iastore, 118))
theorem p121_118 : ps_pu 121 118 (.iinc 2 ((1 : Nat) : Int)) 121 := (by decide +kernel : ps_i 121 118 = some (.iinc 2 ((1 : Nat) : Int), 121))
theorem p121_121 : ps_ld 121 121 5 123 := ⟨.iload 5, by decide +kernel, fun _ _ => rfl⟩
theorem p121_123 : ps_la 121 123 0 124 := ⟨.aload_n 0, by decide +kernel, fun _ _ => rfl⟩
theorem p121_124 : ps_gf 121 124 9 4 127 := ⟨73, 36, by decide +kernel, by decide +kernel, by decide +kernel⟩
theorem p121_127 : ps_j 121 127 .ge 137 130 := ⟨10, by decide +kernel, by decide +kernel, by decide +kernel⟩
theorem p121_130 : ps_ld 121 130 4 132 := ⟨.iload 4, by decide +kernel, fun _ _ => rfl⟩
theorem p121_132 : ps_k 121 132 (Int32.ofNat 1) 133 := ⟨.iconst 1, by decide +kernel, fun _ _ => rfl⟩
theorem p121_133 : ps_b 121 133 (· + ·) 134 := ⟨.iadd, by decide +kernel, fun _ _ => rfl⟩
theorem p121_134 : ps_jg 121 134 139 := ⟨(5), 137, by decide +kernel, by decide +kernel, by decide +kernel⟩
theorem p121_137 : ps_ld 121 137 4 139 := ⟨.iload 4, by decide +kernel, fun _ _ => rfl⟩
theorem p121_139 : ps_si 121 139 4 141 := ⟨.istore 4, by decide +kernel, fun _ _ => rfl⟩
theorem p121_141 : ps_pu 121 141 (.iinc 5 ((1 : Nat) : Int)) 144 := (by decide +kernel : ps_i 121 141 = some (.iinc 5 ((1 : Nat) : Int), 144))
theorem p121_144 : ps_jg 121 144 18 := ⟨(-126), 147, by decide +kernel, by decide +kernel, by decide +kernel⟩
theorem p121_147 : ps_la 121 147 0 148 := ⟨.aload_n 0, by decide +kernel, fun _ _ => rfl⟩
theorem p121_148 : ps_ld 121 148 4 150 := ⟨.iload 4, by decide +kernel, fun _ _ => rfl⟩
theorem p121_150 : ps_pf 121 150 9 4 (.int) 153 := ⟨73, 36, by decide +kernel, by decide +kernel, by decide +kernel, by decide +kernel, by decide +kernel⟩
theorem p121_153 : ps_la 121 153 0 154 := ⟨.aload_n 0, by decide +kernel, fun _ _ => rfl⟩
theorem p121_154 : ps_pu 121 154 (.dup) 155 := (by decide +kernel : ps_i 121 154 = some (.dup, 155))
theorem p121_155 : ps_gf 121 155 9 13 158 := ⟨108, 45, by decide +kernel, by decide +kernel, by decide +kernel⟩
theorem p121_158 : ps_k 121 158 (Int32.ofNat 1) 159 := ⟨.iconst 1, by decide +kernel, fun _ _ => rfl⟩
theorem p121_159 : ps_b 121 159 (· - ·) 160 := ⟨.isub, by decide +kernel, fun _ _ => rfl⟩
theorem p121_160 : ps_pf 121 160 9 13 (.int) 163 := ⟨108, 45, by decide +kernel, by decide +kernel, by decide +kernel, by decide +kernel, by decide +kernel⟩
theorem p121_163 : ps_ld 121 163 1 164 := ⟨.iload_n 1, by decide +kernel, fun _ _ => rfl⟩
theorem p121_164 : ps_si 121 164 5 166 := ⟨.istore 5, by decide +kernel, fun _ _ => rfl⟩
theorem p121_166 : ps_ld 121 166 5 168 := ⟨.iload 5, by decide +kernel, fun _ _ => rfl⟩
theorem p121_168 : ps_la 121 168 0 169 := ⟨.aload_n 0, by decide +kernel, fun _ _ => rfl⟩
theorem p121_169 : ps_gf 121 169 9 13 172 := ⟨108, 45, by decide +kernel, by decide +kernel, by decide +kernel⟩
theorem p121_172 : ps_j 121 172 .ge 197 175 := ⟨25, by decide +kernel, by decide +kernel, by decide +kernel⟩
theorem p121_175 : ps_la 121 175 0 176 := ⟨.aload_n 0, by decide +kernel, fun _ _ => rfl⟩
theorem p121_176 : ps_gf 121 176 9 14 179 := ⟨35, 46, by decide +kernel, by decide +kernel, by decide +kernel⟩
theorem p121_179 : ps_ld 121 179 5 181 := ⟨.iload 5, by decide +kernel, fun _ _ => rfl⟩
theorem p121_181 : ps_la 121 181 0 182 := ⟨.aload_n 0, by decide +kernel, fun _ _ => rfl⟩
theorem p121_182 : ps_gf 121 182 9 14 185 := ⟨35, 46, by decide +kernel, by decide +kernel, by decide +kernel⟩
theorem p121_185 : ps_ld 121 185 5 187 := ⟨.iload 5, by decide +kernel, fun _ _ => rfl⟩
theorem p121_187 : ps_k 121 187 (Int32.ofNat 1) 188 := ⟨.iconst 1, by decide +kernel, fun _ _ => rfl⟩
theorem p121_188 : ps_b 121 188 (· + ·) 189 := ⟨.iadd, by decide +kernel, fun _ _ => rfl⟩
theorem p121_189 : ps_pu 121 189 (.iaload) 190 := (by decide +kernel : ps_i 121 189 = some (.iaload, 190))
theorem p121_190 : ps_pu 121 190 (.iastore) 191 := (by decide +kernel : ps_i 121 190 = some (.iastore, 191))
theorem p121_191 : ps_pu 121 191 (.iinc 5 ((1 : Nat) : Int)) 194 := (by decide +kernel : ps_i 121 191 = some (.iinc 5 ((1 : Nat) : Int), 194))
theorem p121_194 : ps_jg 121 194 166 := ⟨(-28), 197, by decide +kernel, by decide +kernel, by decide +kernel⟩
theorem p121_197 : ps_pu 121 197 (.return_) 198 := (by decide +kernel : ps_i 121 197 = some (.return_, 198))
theorem e121 : ∀ v0 v1 : Value, pm_ent 121 [v0, v1] = [some v0, some v1, none, none, none, none, none, none] := fun _ _ => rfl
theorem l121 : 2 ≤ pm_mx 121 := by decide +kernel
theorem t121 : pm_ret 121 = none := by decide +kernel
theorem p122_0 : ps_la 122 0 0 1 := ⟨.aload_n 0, by decide +kernel, fun _ _ => rfl⟩
theorem p122_1 : ps_k 122 1 (Int32.ofNat 0) 2 := ⟨.iconst 0, by decide +kernel, fun _ _ => rfl⟩
theorem p122_2 : ps_pf 122 2 9 1 (.int) 5 := ⟨63, 33, by decide +kernel, by decide +kernel, by decide +kernel, by decide +kernel, by decide +kernel⟩
theorem p122_5 : ps_ld 122 5 1 6 := ⟨.iload_n 1, by decide +kernel, fun _ _ => rfl⟩
theorem p122_6 : ps_j0 122 6 .lt 26 9 := ⟨20, by decide +kernel, by decide +kernel, by decide +kernel⟩
theorem p122_9 : ps_ld 122 9 2 10 := ⟨.iload_n 2, by decide +kernel, fun _ _ => rfl⟩
theorem p122_10 : ps_j0 122 10 .lt 26 13 := ⟨16, by decide +kernel, by decide +kernel, by decide +kernel⟩
theorem p122_13 : ps_ld 122 13 2 14 := ⟨.iload_n 2, by decide +kernel, fun _ _ => rfl⟩
theorem p122_14 : ps_la 122 14 0 15 := ⟨.aload_n 0, by decide +kernel, fun _ _ => rfl⟩
theorem p122_15 : ps_gf 122 15 9 13 18 := ⟨108, 45, by decide +kernel, by decide +kernel, by decide +kernel⟩
theorem p122_18 : ps_j 122 18 .ge 26 21 := ⟨8, by decide +kernel, by decide +kernel, by decide +kernel⟩
theorem p122_21 : ps_ld 122 21 1 22 := ⟨.iload_n 1, by decide +kernel, fun _ _ => rfl⟩
theorem p122_22 : ps_ld 122 22 2 23 := ⟨.iload_n 2, by decide +kernel, fun _ _ => rfl⟩
theorem p122_23 : ps_j 122 23 .lt 32 26 := ⟨9, by decide +kernel, by decide +kernel, by decide +kernel⟩
theorem p122_26 : ps_la 122 26 0 27 := ⟨.aload_n 0, by decide +kernel, fun _ _ => rfl⟩
theorem p122_27 : ps_k 122 27 (Int32.ofNat 1) 28 := ⟨.iconst 1, by decide +kernel, fun _ _ => rfl⟩
theorem p122_28 : ps_vV 122 28 9 100 1 31 := ⟨66, 100, by decide +kernel, by decide +kernel, by decide +kernel, by decide +kernel, by decide +kernel⟩
theorem p122_31 : ps_pu 122 31 (.ireturn) 32 := (by decide +kernel : ps_i 122 31 = some (.ireturn, 32))
theorem p122_32 : ps_la 122 32 0 33 := ⟨.aload_n 0, by decide +kernel, fun _ _ => rfl⟩
theorem p122_33 : ps_gf 122 33 9 0 36 := ⟨60, 32, by decide +kernel, by decide +kernel, by decide +kernel⟩
theorem p122_36 : ps_la 122 36 0 37 := ⟨.aload_n 0, by decide +kernel, fun _ _ => rfl⟩
theorem p122_37 : ps_vV 122 37 9 105 0 40 := ⟨124, 105, by decide +kernel, by decide +kernel, by decide +kernel, by decide +kernel, by decide +kernel⟩
theorem p122_40 : ps_b 122 40 (· - ·) 41 := ⟨.isub, by decide +kernel, fun _ _ => rfl⟩
theorem p122_41 : ps_si 122 41 3 42 := ⟨.istore_n 3, by decide +kernel, fun _ _ => rfl⟩
theorem p122_42 : ps_k 122 42 (Int32.ofNat 0) 43 := ⟨.iconst 0, by decide +kernel, fun _ _ => rfl⟩
theorem p122_43 : ps_si 122 43 4 45 := ⟨.istore 4, by decide +kernel, fun _ _ => rfl⟩
theorem p122_45 : ps_ld 122 45 4 47 := ⟨.iload 4, by decide +kernel, fun _ _ => rfl⟩
theorem p122_47 : ps_k 122 47 (Int32.ofNat 200) 50 := ⟨.sipush 200, by decide +kernel, fun _ _ => rfl⟩
theorem p122_50 : ps_j 122 50 .ge 112 53 := ⟨62, by decide +kernel, by decide +kernel, by decide +kernel⟩
theorem p122_53 : ps_la 122 53 0 54 := ⟨.aload_n 0, by decide +kernel, fun _ _ => rfl⟩
theorem p122_54 : ps_gf 122 54 9 12 57 := ⟨32, 44, by decide +kernel, by decide +kernel, by decide +kernel⟩
theorem p122_57 : ps_ld 122 57 4 59 := ⟨.iload 4, by decide +kernel, fun _ _ => rfl⟩
theorem p122_59 : ps_ld 122 59 4 61 := ⟨.iload 4, by decide +kernel, fun _ _ => rfl⟩
theorem p122_61 : ps_la 122 61 0 62 := ⟨.aload_n 0, by decide +kernel, fun _ _ => rfl⟩
theorem p122_62 : ps_gf 122 62 9 4 65 := ⟨73, 36, by decide +kernel, by decide +kernel, by decide +kernel⟩
theorem p122_65 : ps_j 122 65 .ge 104 68 := ⟨39, by decide +kernel, by decide +kernel, by decide +kernel⟩
theorem p122_68 : ps_la 122 68 0 69 := ⟨.aload_n 0, by decide +kernel, fun _ _ => rfl⟩
theorem p122_69 : ps_gf 122 69 9 9 72 := ⟨22, 41, by decide +kernel, by decide +kernel, by decide +kernel⟩
theorem p122_72 : ps_ld 122 72 4 74 := ⟨.iload 4, by decide +kernel, fun _ _ => rfl⟩
theorem p122_74 : ps_pu 122 74 (.iaload) 75 := (by decide +kernel : ps_i 122 74 = some (.iaload, 75))
theorem p122_75 : ps_ld 122 75 1 76 := ⟨.iload_n 1, by decide +kernel, fun _ _ => rfl⟩
theorem p122_76 : ps_j 122 76 .lt 104 79 := ⟨28, by decide +kernel, by decide +kernel, by decide +kernel⟩
theorem p122_79 : ps_la 122 79 0 80 := ⟨.aload_n 0, by decide +kernel, fun _ _ => rfl⟩
theorem p122_80 : ps_gf 122 80 9 9 83 := ⟨22, 41, by decide +kernel, by decide +kernel, by decide +kernel⟩
theorem p122_83 : ps_ld 122 83 4 85 := ⟨.iload 4, by decide +kernel, fun _ _ => rfl⟩
theorem p122_85 : ps_pu 122 85 (.iaload) 86 := (by decide +kernel : ps_i 122 85 = some (.iaload, 86))
theorem p122_86 : ps_ld 122 86 2 87 := ⟨.iload_n 2, by decide +kernel, fun _ _ => rfl⟩
theorem p122_87 : ps_j 122 87 .gt 104 90 := ⟨17, by decide +kernel, by decide +kernel, by decide +kernel⟩
theorem p122_90 : ps_la 122 90 0 91 := ⟨.aload_n 0, by decide +kernel, fun _ _ => rfl⟩
theorem p122_91 : ps_gf 122 91 9 10 94 := ⟨25, 42, by decide +kernel, by decide +kernel, by decide +kernel⟩
theorem p122_94 : ps_ld 122 94 4 96 := ⟨.iload 4, by decide +kernel, fun _ _ => rfl⟩
theorem p122_96 : ps_pu 122 96 (.baload) 97 := (by decide +kernel : ps_i 122 96 = some (.baload, 97))
theorem p122_97 : ps_j0 122 97 .ne 104 100 := ⟨7, by decide +kernel, by decide +kernel, by decide +kernel⟩
theorem p122_100 : ps_k 122 100 (Int32.ofNat 1) 101 := ⟨.iconst 1, by decide +kernel, fun _ _ => rfl⟩
theorem p122_101 : ps_jg 122 101 105 := ⟨(4), 104, by decide +kernel, by decide +kernel, by decide +kernel⟩
theorem p122_104 : ps_k 122 104 (Int32.ofNat 0) 105 := ⟨.iconst 0, by decide +kernel, fun _ _ => rfl⟩
theorem p122_105 : ps_pu 122 105 (.bastore) 106 := (by decide +kernel : ps_i 122 105 = some (.bastore, 106))
theorem p122_106 : ps_pu 122 106 (.iinc 4 ((1 : Nat) : Int)) 109 := (by decide +kernel : ps_i 122 106 = some (.iinc 4 ((1 : Nat) : Int), 109))
theorem p122_109 : ps_jg 122 109 45 := ⟨(-64), 112, by decide +kernel, by decide +kernel, by decide +kernel⟩
theorem p122_112 : ps_la 122 112 0 113 := ⟨.aload_n 0, by decide +kernel, fun _ _ => rfl⟩
theorem p122_113 : ps_k 122 113 (Int32.ofNat 0) 114 := ⟨.iconst 0, by decide +kernel, fun _ _ => rfl⟩
theorem p122_114 : ps_la 122 114 0 115 := ⟨.aload_n 0, by decide +kernel, fun _ _ => rfl⟩
theorem p122_115 : ps_gf 122 115 9 4 118 := ⟨73, 36, by decide +kernel, by decide +kernel, by decide +kernel⟩
theorem p122_118 : ps_vV 122 118 9 112 2 121 := ⟨94, 112, by decide +kernel, by decide +kernel, by decide +kernel, by decide +kernel, by decide +kernel⟩
theorem p122_121 : ps_si 122 121 4 123 := ⟨.istore 4, by decide +kernel, fun _ _ => rfl⟩
theorem p122_123 : ps_k 122 123 (Int32.ofNat 0) 124 := ⟨.iconst 0, by decide +kernel, fun _ _ => rfl⟩
theorem p122_124 : ps_si 122 124 5 126 := ⟨.istore 5, by decide +kernel, fun _ _ => rfl⟩
theorem p122_126 : ps_ld 122 126 4 128 := ⟨.iload 4, by decide +kernel, fun _ _ => rfl⟩
theorem p122_128 : ps_j0 122 128 .le 141 131 := ⟨13, by decide +kernel, by decide +kernel, by decide +kernel⟩
theorem p122_131 : ps_la 122 131 0 132 := ⟨.aload_n 0, by decide +kernel, fun _ _ => rfl⟩
theorem p122_132 : ps_vV 122 132 9 111 0 135 := ⟨121, 111, by decide +kernel, by decide +kernel, by decide +kernel, by decide +kernel, by decide +kernel⟩
theorem p122_135 : ps_la 122 135 0 136 := ⟨.aload_n 0, by decide +kernel, fun _ _ => rfl⟩
theorem p122_136 : ps_gf 122 136 9 19 139 := ⟨83, 51, by decide +kernel, by decide +kernel, by decide +kernel⟩
theorem p122_139 : ps_si 122 139 5 141 := ⟨.istore 5, by decide +kernel, fun _ _ => rfl⟩
theorem p122_141 : ps_la 122 141 0 142 := ⟨.aload_n 0, by decide +kernel, fun _ _ => rfl⟩
theorem p122_142 : ps_k 122 142 (Int32.ofNat 0) 143 := ⟨.iconst 0, by decide +kernel, fun _ _ => rfl⟩
theorem p122_143 : ps_pf 122 143 9 19 (.int) 146 := ⟨83, 51, by decide +kernel, by decide +kernel, by decide +kernel, by decide +kernel, by decide +kernel⟩
theorem p122_146 : ps_la 122 146 0 147 := ⟨.aload_n 0, by decide +kernel, fun _ _ => rfl⟩
theorem p122_147 : ps_ld 122 147 4 149 := ⟨.iload 4, by decide +kernel, fun _ _ => rfl⟩
theorem p122_149 : ps_j0 122 149 .le 163 152 := ⟨14, by decide +kernel, by decide +kernel, by decide +kernel⟩
theorem p122_152 : ps_la 122 152 0 153 := ⟨.aload_n 0, by decide +kernel, fun _ _ => rfl⟩
theorem p122_153 : ps_gf 122 153 9 13 156 := ⟨108, 45, by decide +kernel, by decide +kernel, by decide +kernel⟩
theorem p122_156 : ps_ld 122 156 2 157 := ⟨.iload_n 2, by decide +kernel, fun _ _ => rfl⟩
theorem p122_157 : ps_b 122 157 (· - ·) 158 := ⟨.isub, by decide +kernel, fun _ _ => rfl⟩
theorem p122_158 : ps_ld 122 158 1 159 := ⟨.iload_n 1, by decide +kernel, fun _ _ => rfl⟩
theorem p122_159 : ps_b 122 159 (· + ·) 160 := ⟨.iadd, by decide +kernel, fun _ _ => rfl⟩
theorem p122_160 : ps_jg 122 160 173 := ⟨(13), 163, by decide +kernel, by decide +kernel, by decide +kernel⟩
theorem p122_163 : ps_la 122 163 0 164 := ⟨.aload_n 0, by decide +kernel, fun _ _ => rfl⟩
theorem p122_164 : ps_gf 122 164 9 13 167 := ⟨108, 45, by decide +kernel, by decide +kernel, by decide +kernel⟩
theorem p122_167 : ps_ld 122 167 2 168 := ⟨.iload_n 2, by decide +kernel, fun _ _ => rfl⟩
theorem p122_168 : ps_b 122 168 (· - ·) 169 := ⟨.isub, by decide +kernel, fun _ _ => rfl⟩
theorem p122_169 : ps_ld 122 169 1 170 := ⟨.iload_n 1, by decide +kernel, fun _ _ => rfl⟩
theorem p122_170 : ps_b 122 170 (· + ·) 171 := ⟨.iadd, by decide +kernel, fun _ _ => rfl⟩
theorem p122_171 : ps_k 122 171 (Int32.ofNat 1) 172 := ⟨.iconst 1, by decide +kernel, fun _ _ => rfl⟩
theorem p122_172 : ps_b 122 172 (· - ·) 173 := ⟨.isub, by decide +kernel, fun _ _ => rfl⟩
theorem p122_173 : ps_vV 122 173 9 107 1 176 := ⟨90, 107, by decide +kernel, by decide +kernel, by decide +kernel, by decide +kernel, by decide +kernel⟩
theorem p122_176 : ps_k 122 176 (Int32.ofNat 0) 177 := ⟨.iconst 0, by decide +kernel, fun _ _ => rfl⟩
theorem p122_177 : ps_si 122 177 6 179 := ⟨.istore 6, by decide +kernel, fun _ _ => rfl⟩
theorem p122_179 : ps_ld 122 179 6 181 := ⟨.iload 6, by decide +kernel, fun _ _ => rfl⟩
theorem p122_181 : ps_la 122 181 0 182 := ⟨.aload_n 0, by decide +kernel, fun _ _ => rfl⟩
theorem p122_182 : ps_gf 122 182 9 13 185 := ⟨108, 45, by decide +kernel, by decide +kernel, by decide +kernel⟩
theorem p122_185 : ps_j 122 185 .ge 240 188 := ⟨55, by decide +kernel, by decide +kernel, by decide +kernel⟩
theorem p122_188 : ps_ld 122 188 6 190 := ⟨.iload 6, by decide +kernel, fun _ _ => rfl⟩
theorem p122_190 : ps_ld 122 190 1 191 := ⟨.iload_n 1, by decide +kernel, fun _ _ => rfl⟩
theorem p122_191 : ps_j 122 191 .lt 200 194 := ⟨9, by decide +kernel, by decide +kernel, by decide +kernel⟩
theorem p122_194 : ps_ld 122 194 6 196 := ⟨.iload 6, by decide +kernel, fun _ _ => rfl⟩
theorem p122_196 : ps_ld 122 196 2 197 := ⟨.iload_n 2, by decide +kernel, fun _ _ => rfl⟩
theorem p122_197 : ps_j 122 197 .le 210 200 := ⟨13, by decide +kernel, by decide +kernel, by decide +kernel⟩
theorem p122_200 : ps_la 122 200 0 201 := ⟨.aload_n 0, by decide +kernel, fun _ _ => rfl⟩
theorem p122_201 : ps_ld 122 201 6 203 := ⟨.iload 6, by decide +kernel, fun _ _ => rfl⟩
theorem p122_203 : ps_k 122 203 (Int32.ofNat 0) 204 := ⟨.iconst 0, by decide +kernel, fun _ _ => rfl⟩
theorem p122_204 : ps_vV 122 204 9 108 2 207 := ⟨111, 108, by decide +kernel, by decide +kernel, by decide +kernel, by decide +kernel, by decide +kernel⟩
theorem p122_207 : ps_jg 122 207 234 := ⟨(27), 210, by decide +kernel, by decide +kernel, by decide +kernel⟩
theorem p122_210 : ps_ld 122 210 6 212 := ⟨.iload 6, by decide +kernel, fun _ _ => rfl⟩
theorem p122_212 : ps_ld 122 212 1 213 := ⟨.iload_n 1, by decide +kernel, fun _ _ => rfl⟩
theorem p122_213 : ps_j 122 213 .ne 234 216 := ⟨21, by decide +kernel, by decide +kernel, by decide +kernel⟩
theorem p122_216 : ps_ld 122 216 4 218 := ⟨.iload 4, by decide +kernel, fun _ _ => rfl⟩
theorem p122_218 : ps_j0 122 218 .le 234 221 := ⟨16, by decide +kernel, by decide +kernel, by decide +kernel⟩
theorem p122_221 : ps_la 122 221 0 222 := ⟨.aload_n 0, by decide +kernel, fun _ _ => rfl⟩
theorem p122_222 : ps_la 122 222 0 223 := ⟨.aload_n 0, by decide +kernel, fun _ _ => rfl⟩
theorem p122_223 : ps_gf 122 223 9 15 226 := ⟨38, 47, by decide +kernel, by decide +kernel, by decide +kernel⟩
theorem p122_226 : ps_vV 122 226 9 107 1 229 := ⟨90, 107, by decide +kernel, by decide +kernel, by decide +kernel, by decide +kernel, by decide +kernel⟩
theorem p122_229 : ps_la 122 229 0 230 := ⟨.aload_n 0, by decide +kernel, fun _ _ => rfl⟩
theorem p122_230 : ps_k 122 230 (Int32.ofNat 0) 231 := ⟨.iconst 0, by decide +kernel, fun _ _ => rfl⟩
theorem p122_231 : ps_vV 122 231 9 107 1 234 := ⟨90, 107, by decide +kernel, by decide +kernel, by decide +kernel, by decide +kernel, by decide +kernel⟩
theorem p122_234 : ps_pu 122 234 (.iinc 6 ((1 : Nat) : Int)) 237 := (by decide +kernel : ps_i 122 234 = some (.iinc 6 ((1 : Nat) : Int), 237))
theorem p122_237 : ps_jg 122 237 179 := ⟨(-58), 240, by decide +kernel, by decide +kernel, by decide +kernel⟩
theorem p122_240 : ps_ld 122 240 5 242 := ⟨.iload 5, by decide +kernel, fun _ _ => rfl⟩
theorem p122_242 : ps_la 122 242 0 243 := ⟨.aload_n 0, by decide +kernel, fun _ _ => rfl⟩
theorem p122_243 : ps_gf 122 243 9 19 246 := ⟨83, 51, by decide +kernel, by decide +kernel, by decide +kernel⟩
theorem p122_246 : ps_b 122 246 (· + ·) 247 := ⟨.iadd, by decide +kernel, fun _ _ => rfl⟩
theorem p122_247 : ps_si 122 247 5 249 := ⟨.istore 5, by decide +kernel, fun _ _ => rfl⟩
theorem p122_249 : ps_ld 122 249 5 251 := ⟨.iload 5, by decide +kernel, fun _ _ => rfl⟩
theorem p122_251 : ps_ld 122 251 3 252 := ⟨.iload_n 3, by decide +kernel, fun _ _ => rfl⟩
theorem p122_252 : ps_j 122 252 .le 261 255 := ⟨9, by decide +kernel, by decide +kernel, by decide +kernel⟩
theorem p122_255 : ps_la 122 255 0 256 := ⟨.aload_n 0, by decide +kernel, fun _ _ => rfl⟩
theorem p122_256 : ps_k 122 256 (Int32.ofNat 2) 257 := ⟨.iconst 2, by decide +kernel, fun _ _ => rfl⟩
theorem p122_257 : ps_vV 122 257 9 100 1 260 := ⟨66, 100, by decide +kernel, by decide +kernel, by decide +kernel, by decide +kernel, by decide +kernel⟩
theorem p122_260 : ps_pu 122 260 (.ireturn) 261 := (by decide +kernel : ps_i 122 260 = some (.ireturn, 261))
theorem p122_261 : ps_la 122 261 0 262 := ⟨.aload_n 0, by decide +kernel, fun _ _ => rfl⟩
theorem p122_262 : ps_ld 122 262 5 264 := ⟨.iload 5, by decide +kernel, fun _ _ => rfl⟩
theorem p122_264 : ps_vV 122 264 9 119 1 267 := ⟨136, 119, by decide +kernel, by decide +kernel, by decide +kernel, by decide +kernel, by decide +kernel⟩
theorem p122_267 : ps_j0 122 267 .eq 272 270 := ⟨5, by decide +kernel, by decide +kernel, by decide +kernel⟩
theorem p122_270 : ps_k 122 270 (-1 : Int32) 271 := ⟨.iconst (-1), by decide +kernel, fun _ _ => rfl⟩
theorem p122_271 : ps_pu 122 271 (.ireturn) 272 := (by decide +kernel : ps_i 122 271 = some (.ireturn, 272))
theorem p122_272 : ps_la 122 272 0 273 := ⟨.aload_n 0, by decide +kernel, fun _ _ => rfl⟩
theorem p122_273 : ps_ld 122 273 1 274 := ⟨.iload_n 1, by decide +kernel, fun _ _ => rfl⟩
theorem p122_274 : ps_ld 122 274 2 275 := ⟨.iload_n 2, by decide +kernel, fun _ _ => rfl⟩
theorem p122_275 : ps_ld 122 275 4 277 := ⟨.iload 4, by decide +kernel, fun _ _ => rfl⟩
theorem p122_277 : ps_j0 122 277 .le 284 280 := ⟨7, by decide +kernel, by decide +kernel, by decide +kernel⟩
theorem p122_280 : ps_k 122 280 (Int32.ofNat 1) 281 := ⟨.iconst 1, by decide +kernel, fun _ _ => rfl⟩
theorem p122_281 : ps_jg 122 281 285 := ⟨(4), 284, by decide +kernel, by decide +kernel, by decide +kernel⟩
theorem p122_284 : ps_k 122 284 (Int32.ofNat 0) 285 := ⟨.iconst 0, by decide +kernel, fun _ _ => rfl⟩
theorem p122_285 : ps_vV 122 285 9 123 3 288 := ⟨145, 123, by decide +kernel, by decide +kernel, by decide +kernel, by decide +kernel, by decide +kernel⟩
theorem p122_288 : ps_ld 122 288 5 290 := ⟨.iload 5, by decide +kernel, fun _ _ => rfl⟩
theorem p122_290 : ps_pu 122 290 (.ireturn) 291 := (by decide +kernel : ps_i 122 290 = some (.ireturn, 291))
theorem e122 : ∀ v0 v1 v2 : Value, pm_ent 122 [v0, v1, v2] = [some v0, some v1, some v2, none, none, none, none] := fun _ _ _ => rfl
theorem l122 : 3 ≤ pm_mx 122 := by decide +kernel
theorem t122 : pm_ret 122 = (some .int) := by decide +kernel
theorem p123_0 : ps_la 123 0 0 1 := ⟨.aload_n 0, by decide +kernel, fun _ _ => rfl⟩
theorem p123_1 : ps_k 123 1 (Int32.ofNat 1) 2 := ⟨.iconst 1, by decide +kernel, fun _ _ => rfl⟩
theorem p123_2 : ps_pf 123 2 9 16 (.boolean) 5 := ⟨104, 48, by decide +kernel, by decide +kernel, by decide +kernel, by decide +kernel, by decide +kernel⟩
theorem p123_5 : ps_k 123 5 (Int32.ofNat 0) 6 := ⟨.iconst 0, by decide +kernel, fun _ _ => rfl⟩
theorem p123_6 : ps_si 123 6 4 8 := ⟨.istore 4, by decide +kernel, fun _ _ => rfl⟩
theorem p123_8 : ps_k 123 8 (Int32.ofNat 0) 9 := ⟨.iconst 0, by decide +kernel, fun _ _ => rfl⟩
theorem p123_9 : ps_si 123 9 5 11 := ⟨.istore 5, by decide +kernel, fun _ _ => rfl⟩
theorem p123_11 : ps_la 123 11 0 12 := ⟨.aload_n 0, by decide +kernel, fun _ _ => rfl⟩
theorem p123_12 : ps_gf 123 12 9 4 15 := ⟨73, 36, by decide +kernel, by decide +kernel, by decide +kernel⟩
theorem p123_15 : ps_la 123 15 0 16 := ⟨.aload_n 0, by decide +kernel, fun _ _ => rfl⟩
theorem p123_16 : ps_gf 123 16 9 5 19 := ⟨76, 37, by decide +kernel, by decide +kernel, by decide +kernel⟩
theorem p123_19 : ps_b 123 19 (· + ·) 20 := ⟨.iadd, by decide +kernel, fun _ _ => rfl⟩
theorem p123_20 : ps_si 123 20 6 22 := ⟨.istore 6, by decide +kernel, fun _ _ => rfl⟩
theorem p123_22 : ps_k 123 22 (Int32.ofNat 0) 23 := ⟨.iconst 0, by decide +kernel, fun _ _ => rfl⟩
theorem p123_23 : ps_si 123 23 7 25 := ⟨.istore 7, by decide +kernel, fun _ _ => rfl⟩
theorem p123_25 : ps_ld 123 25 7 27 := ⟨.iload 7, by decide +kernel, fun _ _ => rfl⟩
theorem p123_27 : ps_ld 123 27 6 29 := ⟨.iload 6, by decide +kernel, fun _ _ => rfl⟩
theorem p123_29 : ps_j 123 29 .ge 145 32 := ⟨116, by decide +kernel, by decide +kernel, by decide +kernel⟩
theorem p123_32 : ps_ld 123 32 7 34 := ⟨.iload 7, by decide +kernel, fun _ _ => rfl⟩
theorem p123_34 : ps_la 123 34 0 35 := ⟨.aload_n 0, by decide +kernel, fun _ _ => rfl⟩
theorem p123_35 : ps_gf 123 35 9 4 38 := ⟨73, 36, by decide +kernel, by decide +kernel, by decide +kernel⟩
theorem p123_38 : ps_j 123 38 .ge 67 41 := ⟨29, by decide +kernel, by decide +kernel, by decide +kernel⟩
theorem p123_41 : ps_la 123 41 0 42 := ⟨.aload_n 0, by decide +kernel, fun _ _ => rfl⟩
theorem p123_42 : ps_gf 123 42 9 9 45 := ⟨22, 41, by decide +kernel, by decide +kernel, by decide +kernel⟩
theorem p123_45 : ps_ld 123 45 7 47 := ⟨.iload 7, by decide +kernel, fun _ _ => rfl⟩
theorem p123_47 : ps_pu 123 47 (.iaload) 48 := (by decide +kernel : ps_i 123 47 = some (.iaload, 48))
theorem p123_48 : ps_ld 123 48 1 49 := ⟨.iload_n 1, by decide +kernel, fun _ _ => rfl⟩
theorem p123_49 : ps_j 123 49 .lt 67 52 := ⟨18, by decide +kernel, by decide +kernel, by decide +kernel⟩
theorem p123_52 : ps_la 123 52 0 53 := ⟨.aload_n 0, by decide +kernel, fun _ _ => rfl⟩
theorem p123_53 : ps_gf 123 53 9 9 56 := ⟨22, 41, by decide +kernel, by decide +kernel, by decide +kernel⟩
theorem p123_56 : ps_ld 123 56 7 58 := ⟨.iload 7, by decide +kernel, fun _ _ => rfl⟩
theorem p123_58 : ps_pu 123 58 (.iaload) 59 := (by decide +kernel : ps_i 123 58 = some (.iaload, 59))
theorem p123_59 : ps_ld 123 59 2 60 := ⟨.iload_n 2, by decide +kernel, fun _ _ => rfl⟩
theorem p123_60 : ps_j 123 60 .gt 67 63 := ⟨7, by decide +kernel, by decide +kernel, by decide +kernel⟩
theorem p123_63 : ps_k 123 63 (Int32.ofNat 1) 64 := ⟨.iconst 1, by decide +kernel, fun _ _ => rfl⟩
theorem p123_64 : ps_jg 123 64 68 := ⟨(4), 67, by decide +kernel, by decide +kernel, by decide +kernel⟩
theorem p123_67 : ps_k 123 67 (Int32.ofNat 0) 68 := ⟨.iconst 0, by decide +kernel, fun _ _ => rfl⟩
theorem p123_68 : ps_si 123 68 8 70 := ⟨.istore 8, by decide +kernel, fun _ _ => rfl⟩
theorem p123_70 : ps_ld 123 70 8 72 := ⟨.iload 8, by decide +kernel, fun _ _ => rfl⟩
theorem p123_72 : ps_j0 123 72 .eq 85 75 := ⟨13, by decide +kernel, by decide +kernel, by decide +kernel⟩
theorem p123_75 : ps_la 123 75 0 76 := ⟨.aload_n 0, by decide +kernel, fun _ _ => rfl⟩
theorem p123_76 : ps_gf 123 76 9 10 79 := ⟨25, 42, by decide +kernel, by decide +kernel, by decide +kernel⟩
theorem p123_79 : ps_ld 123 79 7 81 := ⟨.iload 7, by decide +kernel, fun _ _ => rfl⟩
theorem p123_81 : ps_pu 123 81 (.baload) 82 := (by decide +kernel : ps_i 123 81 = some (.baload, 82))
theorem p123_82 : ps_j0 123 82 .ne 139 85 := ⟨57, by decide +kernel, by decide +kernel, by decide +kernel⟩
theorem p123_85 : ps_la 123 85 0 86 := ⟨.aload_n 0, by decide +kernel, fun _ _ => rfl⟩
theorem p123_86 : ps_ld 123 86 7 88 := ⟨.iload 7, by decide +kernel, fun _ _ => rfl⟩
theorem p123_88 : ps_ld 123 88 4 90 := ⟨.iload 4, by decide +kernel, fun _ _ => rfl⟩
theorem p123_90 : ps_vV 123 90 9 103 2 93 := ⟨79, 103, by decide +kernel, by decide +kernel, by decide +kernel, by decide +kernel, by decide +kernel⟩
theorem p123_93 : ps_la 123 93 0 94 := ⟨.aload_n 0, by decide +kernel, fun _ _ => rfl⟩
theorem p123_94 : ps_gf 123 94 9 9 97 := ⟨22, 41, by decide +kernel, by decide +kernel, by decide +kernel⟩
theorem p123_97 : ps_ld 123 97 4 99 := ⟨.iload 4, by decide +kernel, fun _ _ => rfl⟩
theorem p123_99 : ps_ld 123 99 8 101 := ⟨.iload 8, by decide +kernel, fun _ _ => rfl⟩
theorem p123_101 : ps_j0 123 101 .eq 108 104 := ⟨7, by decide +kernel, by decide +kernel, by decide +kernel⟩
theorem p123_104 : ps_ld 123 104 1 105 := ⟨.iload_n 1, by decide +kernel, fun _ _ => rfl⟩
theorem p123_105 : ps_jg 123 105 115 := ⟨(10), 108, by decide +kernel, by decide +kernel, by decide +kernel⟩
theorem p123_108 : ps_la 123 108 0 109 := ⟨.aload_n 0, by decide +kernel, fun _ _ => rfl⟩
theorem p123_109 : ps_gf 123 109 9 9 112 := ⟨22, 41, by decide +kernel, by decide +kernel, by decide +kernel⟩
theorem p123_112 : ps_ld 123 112 4 114 := ⟨.iload 4, by decide +kernel, fun _ _ => rfl⟩
theorem p123_114 : ps_pu 123 114 (.iaload) 115 := (by decide +kernel : ps_i 123 114 = some (.iaload, 115))
theorem p123_115 : ps_pu 123 115 (.iastore) 116 := (by decide +kernel : ps_i 123 115 = some (.iastore, 116))
theorem p123_116 : ps_pu 123 116 (.iinc 4 ((1 : Nat) : Int)) 119 := (by decide +kernel : ps_i 123 116 = some (.iinc 4 ((1 : Nat) : Int), 119))
theorem p123_119 : ps_ld 123 119 7 121 := ⟨.iload 7, by decide +kernel, fun _ _ => rfl⟩
theorem p123_121 : ps_la 123 121 0 122 := ⟨.aload_n 0, by decide +kernel, fun _ _ => rfl⟩
theorem p123_122 : ps_gf 123 122 9 4 125 := ⟨73, 36, by decide +kernel, by decide +kernel, by decide +kernel⟩
theorem p123_125 : ps_j 123 125 .ge 135 128 := ⟨10, by decide +kernel, by decide +kernel, by decide +kernel⟩
theorem p123_128 : ps_ld 123 128 5 130 := ⟨.iload 5, by decide +kernel, fun _ _ => rfl⟩
theorem p123_130 : ps_k 123 130 (Int32.ofNat 1) 131 := ⟨.iconst 1, by decide +kernel, fun _ _ => rfl⟩
theorem p123_131 : ps_b 123 131 (· + ·) 132 := ⟨.iadd, by decide +kernel, fun _ _ => rfl⟩
theorem p123_132 : ps_jg 123 132 137 := ⟨(5), 135, by decide +kernel, by decide +kernel, by decide +kernel⟩
theorem p123_135 : ps_ld 123 135 5 137 := ⟨.iload 5, by decide +kernel, fun _ _ => rfl⟩
theorem p123_137 : ps_si 123 137 5 139 := ⟨.istore 5, by decide +kernel, fun _ _ => rfl⟩
theorem p123_139 : ps_pu 123 139 (.iinc 7 ((1 : Nat) : Int)) 142 := (by decide +kernel : ps_i 123 139 = some (.iinc 7 ((1 : Nat) : Int), 142))
theorem p123_142 : ps_jg 123 142 25 := ⟨(-117), 145, by decide +kernel, by decide +kernel, by decide +kernel⟩
theorem p123_145 : ps_la 123 145 0 146 := ⟨.aload_n 0, by decide +kernel, fun _ _ => rfl⟩
theorem p123_146 : ps_ld 123 146 5 148 := ⟨.iload 5, by decide +kernel, fun _ _ => rfl⟩
theorem p123_148 : ps_pf 123 148 9 4 (.int) 151 := ⟨73, 36, by decide +kernel, by decide +kernel, by decide +kernel, by decide +kernel, by decide +kernel⟩
theorem p123_151 : ps_ld 123 151 2 152 := ⟨.iload_n 2, by decide +kernel, fun _ _ => rfl⟩
theorem p123_152 : ps_si 123 152 7 154 := ⟨.istore 7, by decide +kernel, fun _ _ => rfl⟩
theorem p123_154 : ps_ld 123 154 7 156 := ⟨.iload 7, by decide +kernel, fun _ _ => rfl⟩
theorem p123_156 : ps_ld 123 156 1 157 := ⟨.iload_n 1, by decide +kernel, fun _ _ => rfl⟩
theorem p123_157 : ps_j 123 157 .le 172 160 := ⟨15, by decide +kernel, by decide +kernel, by decide +kernel⟩
theorem p123_160 : ps_la 123 160 0 161 := ⟨.aload_n 0, by decide +kernel, fun _ _ => rfl⟩
theorem p123_161 : ps_ld 123 161 7 163 := ⟨.iload 7, by decide +kernel, fun _ _ => rfl⟩
theorem p123_163 : ps_vV 123 163 9 121 1 166 := ⟨142, 121, by decide +kernel, by decide +kernel, by decide +kernel, by decide +kernel, by decide +kernel⟩
theorem p123_166 : ps_pu 123 166 (.iinc 7 (-1)) 169 := (by decide +kernel : ps_i 123 166 = some (.iinc 7 (-1), 169))
theorem p123_169 : ps_jg 123 169 154 := ⟨(-15), 172, by decide +kernel, by decide +kernel, by decide +kernel⟩
theorem p123_172 : ps_ld 123 172 3 173 := ⟨.iload_n 3, by decide +kernel, fun _ _ => rfl⟩
theorem p123_173 : ps_j0 123 173 .eq 199 176 := ⟨26, by decide +kernel, by decide +kernel, by decide +kernel⟩
theorem p123_176 : ps_la 123 176 0 177 := ⟨.aload_n 0, by decide +kernel, fun _ _ => rfl⟩
theorem p123_177 : ps_gf 123 177 9 14 180 := ⟨35, 46, by decide +kernel, by decide +kernel, by decide +kernel⟩
theorem p123_180 : ps_ld 123 180 1 181 := ⟨.iload_n 1, by decide +kernel, fun _ _ => rfl⟩
theorem p123_181 : ps_la 123 181 0 182 := ⟨.aload_n 0, by decide +kernel, fun _ _ => rfl⟩
theorem p123_182 : ps_gf 123 182 9 15 185 := ⟨38, 47, by decide +kernel, by decide +kernel, by decide +kernel⟩
theorem p123_185 : ps_pu 123 185 (.iastore) 186 := (by decide +kernel : ps_i 123 185 = some (.iastore, 186))
theorem p123_186 : ps_la 123 186 0 187 := ⟨.aload_n 0, by decide +kernel, fun _ _ => rfl⟩
theorem p123_187 : ps_pu 123 187 (.dup) 188 := (by decide +kernel : ps_i 123 187 = some (.dup, 188))
theorem p123_188 : ps_gf 123 188 9 15 191 := ⟨38, 47, by decide +kernel, by decide +kernel, by decide +kernel⟩
theorem p123_191 : ps_k 123 191 (Int32.ofNat 1) 192 := ⟨.iconst 1, by decide +kernel, fun _ _ => rfl⟩
theorem p123_192 : ps_b 123 192 (· + ·) 193 := ⟨.iadd, by decide +kernel, fun _ _ => rfl⟩
theorem p123_193 : ps_pf 123 193 9 15 (.int) 196 := ⟨38, 47, by decide +kernel, by decide +kernel, by decide +kernel, by decide +kernel, by decide +kernel⟩
theorem p123_196 : ps_jg 123 196 204 := ⟨(8), 199, by decide +kernel, by decide +kernel, by decide +kernel⟩
theorem p123_199 : ps_la 123 199 0 200 := ⟨.aload_n 0, by decide +kernel, fun _ _ => rfl⟩
theorem p123_200 : ps_ld 123 200 1 201 := ⟨.iload_n 1, by decide +kernel, fun _ _ => rfl⟩
theorem p123_201 : ps_vV 123 201 9 121 1 204 := ⟨142, 121, by decide +kernel, by decide +kernel, by decide +kernel, by decide +kernel, by decide +kernel⟩
theorem p123_204 : ps_pu 123 204 (.return_) 205 := (by decide +kernel : ps_i 123 204 = some (.return_, 205))
theorem e123 : ∀ v0 v1 v2 v3 : Value, pm_ent 123 [v0, v1, v2, v3] = [some v0, some v1, some v2, some v3, none, none, none, none, none] := fun _ _ _ _ => rfl
theorem l123 : 4 ≤ pm_mx 123 := by decide +kernel
theorem t123 : pm_ret 123 = none := by decide +kernel
theorem p124_0 : ps_la 124 0 0 1 := ⟨.aload_n 0, by decide +kernel, fun _ _ => rfl⟩
theorem p124_1 : ps_k 124 1 (Int32.ofNat 0) 2 := ⟨.iconst 0, by decide +kernel, fun _ _ => rfl⟩
theorem p124_2 : ps_pf 124 2 9 1 (.int) 5 := ⟨63, 33, by decide +kernel, by decide +kernel, by decide +kernel, by decide +kernel, by decide +kernel⟩
theorem p124_5 : ps_ld 124 5 1 6 := ⟨.iload_n 1, by decide +kernel, fun _ _ => rfl⟩
theorem p124_6 : ps_j0 124 6 .lt 15 9 := ⟨9, by decide +kernel, by decide +kernel, by decide +kernel⟩
theorem p124_9 : ps_ld 124 9 1 10 := ⟨.iload_n 1, by decide +kernel, fun _ _ => rfl⟩
theorem p124_10 : ps_k 124 10 (Int32.ofNat 15) 12 := ⟨.bipush 15, by decide +kernel, fun _ _ => rfl⟩
theorem p124_12 : ps_j 124 12 .le 21 15 := ⟨9, by decide +kernel, by decide +kernel, by decide +kernel⟩
theorem p124_15 : ps_la 124 15 0 16 := ⟨.aload_n 0, by decide +kernel, fun _ _ => rfl⟩
theorem p124_16 : ps_k 124 16 (Int32.ofNat 1) 17 := ⟨.iconst 1, by decide +kernel, fun _ _ => rfl⟩
theorem p124_17 : ps_vV 124 17 9 100 1 20 := ⟨66, 100, by decide +kernel, by decide +kernel, by decide +kernel, by decide +kernel, by decide +kernel⟩
theorem p124_20 : ps_pu 124 20 (.ireturn) 21 := (by decide +kernel : ps_i 124 20 = some (.ireturn, 21))
theorem p124_21 : ps_la 124 21 0 22 := ⟨.aload_n 0, by decide +kernel, fun _ _ => rfl⟩
theorem p124_22 : ps_gf 124 22 9 20 25 := ⟨149, 52, by decide +kernel, by decide +kernel, by decide +kernel⟩
theorem p124_25 : ps_k 124 25 (Int32.ofNat 8) 27 := ⟨.bipush 8, by decide +kernel, fun _ _ => rfl⟩
theorem p124_27 : ps_j 124 27 .ne 36 30 := ⟨9, by decide +kernel, by decide +kernel, by decide +kernel⟩
theorem p124_30 : ps_la 124 30 0 31 := ⟨.aload_n 0, by decide +kernel, fun _ _ => rfl⟩
theorem p124_31 : ps_k 124 31 (Int32.ofNat 2) 32 := ⟨.iconst 2, by decide +kernel, fun _ _ => rfl⟩
theorem p124_32 : ps_vV 124 32 9 100 1 35 := ⟨66, 100, by decide +kernel, by decide +kernel, by decide +kernel, by decide +kernel, by decide +kernel⟩
theorem p124_35 : ps_pu 124 35 (.ireturn) 36 := (by decide +kernel : ps_i 124 35 = some (.ireturn, 36))
theorem p124_36 : ps_la 124 36 0 37 := ⟨.aload_n 0, by decide +kernel, fun _ _ => rfl⟩
theorem p124_37 : ps_gf 124 37 9 21 40 := ⟨48, 53, by decide +kernel, by decide +kernel, by decide +kernel⟩
theorem p124_40 : ps_k 124 40 (Int32.ofNat 15) 42 := ⟨.bipush 15, by decide +kernel, fun _ _ => rfl⟩
theorem p124_42 : ps_la 124 42 0 43 := ⟨.aload_n 0, by decide +kernel, fun _ _ => rfl⟩
theorem p124_43 : ps_gf 124 43 9 20 46 := ⟨149, 52, by decide +kernel, by decide +kernel, by decide +kernel⟩
theorem p124_46 : ps_b 124 46 (· * ·) 47 := ⟨.imul, by decide +kernel, fun _ _ => rfl⟩
theorem p124_47 : ps_ld 124 47 1 48 := ⟨.iload_n 1, by decide +kernel, fun _ _ => rfl⟩
theorem p124_48 : ps_pu 124 48 (.iastore) 49 := (by decide +kernel : ps_i 124 48 = some (.iastore, 49))
theorem p124_49 : ps_la 124 49 0 50 := ⟨.aload_n 0, by decide +kernel, fun _ _ => rfl⟩
theorem p124_50 : ps_gf 124 50 9 22 53 := ⟨51, 54, by decide +kernel, by decide +kernel, by decide +kernel⟩
theorem p124_53 : ps_la 124 53 0 54 := ⟨.aload_n 0, by decide +kernel, fun _ _ => rfl⟩
theorem p124_54 : ps_gf 124 54 9 20 57 := ⟨149, 52, by decide +kernel, by decide +kernel, by decide +kernel⟩
theorem p124_57 : ps_k 124 57 (Int32.ofNat 1) 58 := ⟨.iconst 1, by decide +kernel, fun _ _ => rfl⟩
theorem p124_58 : ps_pu 124 58 (.iastore) 59 := (by decide +kernel : ps_i 124 58 = some (.iastore, 59))
theorem p124_59 : ps_la 124 59 0 60 := ⟨.aload_n 0, by decide +kernel, fun _ _ => rfl⟩
theorem p124_60 : ps_gf 124 60 9 23 63 := ⟨54, 55, by decide +kernel, by decide +kernel, by decide +kernel⟩
theorem p124_63 : ps_la 124 63 0 64 := ⟨.aload_n 0, by decide +kernel, fun _ _ => rfl⟩
theorem p124_64 : ps_gf 124 64 9 20 67 := ⟨149, 52, by decide +kernel, by decide +kernel, by decide +kernel⟩
theorem p124_67 : ps_k 124 67 (Int32.ofNat 1) 68 := ⟨.iconst 1, by decide +kernel, fun _ _ => rfl⟩
theorem p124_68 : ps_pu 124 68 (.iastore) 69 := (by decide +kernel : ps_i 124 68 = some (.iastore, 69))
theorem p124_69 : ps_la 124 69 0 70 := ⟨.aload_n 0, by decide +kernel, fun _ _ => rfl⟩
theorem p124_70 : ps_pu 124 70 (.dup) 71 := (by decide +kernel : ps_i 124 70 = some (.dup, 71))
theorem p124_71 : ps_gf 124 71 9 20 74 := ⟨149, 52, by decide +kernel, by decide +kernel, by decide +kernel⟩
theorem p124_74 : ps_k 124 74 (Int32.ofNat 1) 75 := ⟨.iconst 1, by decide +kernel, fun _ _ => rfl⟩
theorem p124_75 : ps_b 124 75 (· + ·) 76 := ⟨.iadd, by decide +kernel, fun _ _ => rfl⟩
theorem p124_76 : ps_pf 124 76 9 20 (.int) 79 := ⟨149, 52, by decide +kernel, by decide +kernel, by decide +kernel, by decide +kernel, by decide +kernel⟩
theorem p124_79 : ps_la 124 79 0 80 := ⟨.aload_n 0, by decide +kernel, fun _ _ => rfl⟩
theorem p124_80 : ps_gf 124 80 9 20 83 := ⟨149, 52, by decide +kernel, by decide +kernel, by decide +kernel⟩
theorem p124_83 : ps_pu 124 83 (.ireturn) 84 := (by decide +kernel : ps_i 124 83 = some (.ireturn, 84))
theorem e124 : ∀ v0 v1 : Value, pm_ent 124 [v0, v1] = [some v0, some v1] := fun _ _ => rfl
theorem l124 : 2 ≤ pm_mx 124 := by decide +kernel
theorem t124 : pm_ret 124 = (some .int) := by decide +kernel
theorem p125_0 : ps_la 125 0 0 1 := ⟨.aload_n 0, by decide +kernel, fun _ _ => rfl⟩
theorem p125_1 : ps_k 125 1 (Int32.ofNat 0) 2 := ⟨.iconst 0, by decide +kernel, fun _ _ => rfl⟩
theorem p125_2 : ps_pf 125 2 9 1 (.int) 5 := ⟨63, 33, by decide +kernel, by decide +kernel, by decide +kernel, by decide +kernel, by decide +kernel⟩
theorem p125_5 : ps_ld 125 5 1 6 := ⟨.iload_n 1, by decide +kernel, fun _ _ => rfl⟩
theorem p125_6 : ps_j0 125 6 .lt 15 9 := ⟨9, by decide +kernel, by decide +kernel, by decide +kernel⟩
theorem p125_9 : ps_ld 125 9 1 10 := ⟨.iload_n 1, by decide +kernel, fun _ _ => rfl⟩
theorem p125_10 : ps_k 125 10 (Int32.ofNat 10) 12 := ⟨.bipush 10, by decide +kernel, fun _ _ => rfl⟩
theorem p125_12 : ps_j 125 12 .le 21 15 := ⟨9, by decide +kernel, by decide +kernel, by decide +kernel⟩
theorem p125_15 : ps_la 125 15 0 16 := ⟨.aload_n 0, by decide +kernel, fun _ _ => rfl⟩
theorem p125_16 : ps_k 125 16 (Int32.ofNat 1) 17 := ⟨.iconst 1, by decide +kernel, fun _ _ => rfl⟩
theorem p125_17 : ps_vV 125 17 9 100 1 20 := ⟨66, 100, by decide +kernel, by decide +kernel, by decide +kernel, by decide +kernel, by decide +kernel⟩
theorem p125_20 : ps_pu 125 20 (.ireturn) 21 := (by decide +kernel : ps_i 125 20 = some (.ireturn, 21))
theorem p125_21 : ps_la 125 21 0 22 := ⟨.aload_n 0, by decide +kernel, fun _ _ => rfl⟩
theorem p125_22 : ps_gf 125 22 9 20 25 := ⟨149, 52, by decide +kernel, by decide +kernel, by decide +kernel⟩
theorem p125_25 : ps_k 125 25 (Int32.ofNat 2) 26 := ⟨.iconst 2, by decide +kernel, fun _ _ => rfl⟩
theorem p125_26 : ps_j 125 26 .ge 35 29 := ⟨9, by decide +kernel, by decide +kernel, by decide +kernel⟩
theorem p125_29 : ps_la 125 29 0 30 := ⟨.aload_n 0, by decide +kernel, fun _ _ => rfl⟩
theorem p125_30 : ps_k 125 30 (Int32.ofNat 2) 31 := ⟨.iconst 2, by decide +kernel, fun _ _ => rfl⟩
theorem p125_31 : ps_vV 125 31 9 100 1 34 := ⟨66, 100, by decide +kernel, by decide +kernel, by decide +kernel, by decide +kernel, by decide +kernel⟩
theorem p125_34 : ps_pu 125 34 (.ireturn) 35 := (by decide +kernel : ps_i 125 34 = some (.ireturn, 35))
theorem p125_35 : ps_la 125 35 0 36 := ⟨.aload_n 0, by decide +kernel, fun _ _ => rfl⟩
theorem p125_36 : ps_gf 125 36 9 20 39 := ⟨149, 52, by decide +kernel, by decide +kernel, by decide +kernel⟩
theorem p125_39 : ps_k 125 39 (Int32.ofNat 2) 40 := ⟨.iconst 2, by decide +kernel, fun _ _ => rfl⟩
theorem p125_40 : ps_b 125 40 (· - ·) 41 := ⟨.isub, by decide +kernel, fun _ _ => rfl⟩
theorem p125_41 : ps_si 125 41 2 42 := ⟨.istore_n 2, by decide +kernel, fun _ _ => rfl⟩
theorem p125_42 : ps_la 125 42 0 43 := ⟨.aload_n 0, by decide +kernel, fun _ _ => rfl⟩
theorem p125_43 : ps_gf 125 43 9 23 46 := ⟨54, 55, by decide +kernel, by decide +kernel, by decide +kernel⟩
theorem p125_46 : ps_ld 125 46 2 47 := ⟨.iload_n 2, by decide +kernel, fun _ _ => rfl⟩
theorem p125_47 : ps_pu 125 47 (.iaload) 48 := (by decide +kernel : ps_i 125 47 = some (.iaload, 48))
theorem p125_48 : ps_la 125 48 0 49 := ⟨.aload_n 0, by decide +kernel, fun _ _ => rfl⟩
theorem p125_49 : ps_gf 125 49 9 23 52 := ⟨54, 55, by decide +kernel, by decide +kernel, by decide +kernel⟩
theorem p125_52 : ps_ld 125 52 2 53 := ⟨.iload_n 2, by decide +kernel, fun _ _ => rfl⟩
theorem p125_53 : ps_k 125 53 (Int32.ofNat 1) 54 := ⟨.iconst 1, by decide +kernel, fun _ _ => rfl⟩
theorem p125_54 : ps_b 125 54 (· + ·) 55 := ⟨.iadd, by decide +kernel, fun _ _ => rfl⟩
theorem p125_55 : ps_pu 125 55 (.iaload) 56 := (by decide +kernel : ps_i 125 55 = some (.iaload, 56))
theorem p125_56 : ps_b 125 56 (· + ·) 57 := ⟨.iadd, by decide +kernel, fun _ _ => rfl⟩
theorem p125_57 : ps_k 125 57 (Int32.ofNat 8) 59 := ⟨.bipush 8, by decide +kernel, fun _ _ => rfl⟩
theorem p125_59 : ps_j 125 59 .le 68 62 := ⟨9, by decide +kernel, by decide +kernel, by decide +kernel⟩
theorem p125_62 : ps_la 125 62 0 63 := ⟨.aload_n 0, by decide +kernel, fun _ _ => rfl⟩
theorem p125_63 : ps_k 125 63 (Int32.ofNat 3) 64 := ⟨.iconst 3, by decide +kernel, fun _ _ => rfl⟩
theorem p125_64 : ps_vV 125 64 9 100 1 67 := ⟨66, 100, by decide +kernel, by decide +kernel, by decide +kernel, by decide +kernel, by decide +kernel⟩
theorem p125_67 : ps_pu 125 67 (.ireturn) 68 := (by decide +kernel : ps_i 125 67 = some (.ireturn, 68))
theorem p125_68 : ps_k 125 68 (Int32.ofNat 0) 69 := ⟨.iconst 0, by decide +kernel, fun _ _ => rfl⟩
theorem p125_69 : ps_si 125 69 3 70 := ⟨.istore_n 3, by decide +kernel, fun _ _ => rfl⟩
theorem p125_70 : ps_ld 125 70 3 71 := ⟨.iload_n 3, by decide +kernel, fun _ _ => rfl⟩
theorem p125_71 : ps_la 125 71 0 72 := ⟨.aload_n 0, by decide +kernel, fun _ _ => rfl⟩
theorem p125_72 : ps_gf 125 72 9 22 75 := ⟨51, 54, by decide +kernel, by decide +kernel, by decide +kernel⟩
theorem p125_75 : ps_ld 125 75 2 76 := ⟨.iload_n 2, by decide +kernel, fun _ _ => rfl⟩
theorem p125_76 : ps_k 125 76 (Int32.ofNat 1) 77 := ⟨.iconst 1, by decide +kernel, fun _ _ => rfl⟩
theorem p125_77 : ps_b 125 77 (· + ·) 78 := ⟨.iadd, by decide +kernel, fun _ _ => rfl⟩
theorem p125_78 : ps_pu 125 78 (.iaload) 79 := (by decide +kernel : ps_i 125 78 = some (.iaload, 79))
theorem p125_79 : ps_j 125 79 .ge 120 82 := ⟨41, by decide +kernel, by decide +kernel, by decide +kernel⟩
theorem p125_82 : ps_la 125 82 0 83 := ⟨.aload_n 0, by decide +kernel, fun _ _ => rfl⟩
theorem p125_83 : ps_gf 125 83 9 21 86 := ⟨48, 53, by decide +kernel, by decide +kernel, by decide +kernel⟩
theorem p125_86 : ps_k 125 86 (Int32.ofNat 15) 88 := ⟨.bipush 15, by decide +kernel, fun _ _ => rfl⟩
theorem p125_88 : ps_ld 125 88 2 89 := ⟨.iload_n 2, by decide +kernel, fun _ _ => rfl⟩
theorem p125_89 : ps_b 125 89 (· * ·) 90 := ⟨.imul, by decide +kernel, fun _ _ => rfl⟩
theorem p125_90 : ps_la 125 90 0 91 := ⟨.aload_n 0, by decide +kernel, fun _ _ => rfl⟩
theorem p125_91 : ps_gf 125 91 9 22 94 := ⟨51, 54, by decide +kernel, by decide +kernel, by decide +kernel⟩
theorem p125_94 : ps_ld 125 94 2 95 := ⟨.iload_n 2, by decide +kernel, fun _ _ => rfl⟩
theorem p125_95 : ps_pu 125 95 (.iaload) 96 := (by decide +kernel : ps_i 125 95 = some (.iaload, 96))
theorem p125_96 : ps_b 125 96 (· + ·) 97 := ⟨.iadd, by decide +kernel, fun _ _ => rfl⟩
theorem p125_97 : ps_ld 125 97 3 98 := ⟨.iload_n 3, by decide +kernel, fun _ _ => rfl⟩
theorem p125_98 : ps_b 125 98 (· + ·) 99 := ⟨.iadd, by decide +kernel, fun _ _ => rfl⟩
theorem p125_99 : ps_la 125 99 0 100 := ⟨.aload_n 0, by decide +kernel, fun _ _ => rfl⟩
theorem p125_100 : ps_gf 125 100 9 21 103 := ⟨48, 53, by decide +kernel, by decide +kernel, by decide +kernel⟩
theorem p125_103 : ps_k 125 103 (Int32.ofNat 15) 105 := ⟨.bipush 15, by decide +kernel, fun _ _ => rfl⟩
theorem p125_105 : ps_ld 125 105 2 106 := ⟨.iload_n 2, by decide +kernel, fun _ _ => rfl⟩
theorem p125_106 : ps_b 125 106 (· * ·) 107 := ⟨.imul, by decide +kernel, fun _ _ => rfl⟩
theorem p125_107 : ps_k 125 107 (Int32.ofNat 15) 109 := ⟨.bipush 15, by decide +kernel, fun _ _ => rfl⟩
theorem p125_109 : ps_b 125 109 (· + ·) 110 := ⟨.iadd, by decide +kernel, fun _ _ => rfl⟩
theorem p125_110 : ps_ld 125 110 3 111 := ⟨.iload_n 3, by decide +kernel, fun _ _ => rfl⟩
theorem p125_111 : ps_b 125 111 (· + ·) 112 := ⟨.iadd, by decide +kernel, fun _ _ => rfl⟩
theorem p125_112 : ps_pu 125 112 (.iaload) 113 := (by decide +kernel : ps_i 125 112 = some (.iaload, 113))
theorem p125_113 : ps_pu 125 113 (.iastore) 114 := (by decide +kernel : ps_i 125 113 = some (.iastore, 114))
theorem p125_114 : ps_pu 125 114 (.iinc 3 ((1 : Nat) : Int)) 117 := (by decide +kernel : ps_i 125 114 = some (.iinc 3 ((1 : Nat) : Int), 117))
theorem p125_117 : ps_jg 125 117 70 := ⟨(-47), 120, by decide +kernel, by decide +kernel, by decide +kernel⟩
theorem p125_120 : ps_la 125 120 0 121 := ⟨.aload_n 0, by decide +kernel, fun _ _ => rfl⟩
theorem p125_121 : ps_gf 125 121 9 22 124 := ⟨51, 54, by decide +kernel, by decide +kernel, by decide +kernel⟩
theorem p125_124 : ps_ld 125 124 2 125 := ⟨.iload_n 2, by decide +kernel, fun _ _ => rfl⟩
theorem p125_125 : ps_la 125 125 0 126 := ⟨.aload_n 0, by decide +kernel, fun _ _ => rfl⟩
theorem p125_126 : ps_gf 125 126 9 22 129 := ⟨51, 54, by decide +kernel, by decide +kernel, by decide +kernel⟩
theorem p125_129 : ps_ld 125 129 2 130 := ⟨.iload_n 2, by decide +kernel, fun _ _ => rfl⟩
theorem p125_130 : ps_pu 125 130 (.iaload) 131 := (by decide +kernel : ps_i 125 130 = some (.iaload, 131))
theorem p125_131 : ps_la 125 131 0 132 := ⟨.aload_n 0, by decide +kernel, fun _ _ => rfl⟩
theorem p125_132 : ps_gf 125 132 9 22 135 := ⟨51, 54, by decide +kernel, by decide +kernel, by decide +kernel⟩
theorem p125_135 : ps_ld 125 135 2 136 := ⟨.iload_n 2, by decide +kernel, fun _ _ => rfl⟩
theorem p125_136 : ps_k 125 136 (Int32.ofNat 1) 137 := ⟨.iconst 1, by decide +kernel, fun _ _ => rfl⟩
theorem p125_137 : ps_b 125 137 (· + ·) 138 := ⟨.iadd, by decide +kernel, fun _ _ => rfl⟩
theorem p125_138 : ps_pu 125 138 (.iaload) 139 := (by decide +kernel : ps_i 125 138 = some (.iaload, 139))
theorem p125_139 : ps_b 125 139 (· + ·) 140 := ⟨.iadd, by decide +kernel, fun _ _ => rfl⟩
theorem p125_140 : ps_k 125 140 (Int32.ofNat 1) 141 := ⟨.iconst 1, by decide +kernel, fun _ _ => rfl⟩
theorem p125_141 : ps_b 125 141 (· + ·) 142 := ⟨.iadd, by decide +kernel, fun _ _ => rfl⟩
theorem p125_142 : ps_pu 125 142 (.iastore) 143 := (by decide +kernel : ps_i 125 142 = some (.iastore, 143))
theorem p125_143 : ps_la 125 143 0 144 := ⟨.aload_n 0, by decide +kernel, fun _ _ => rfl⟩
theorem p125_144 : ps_gf 125 144 9 21 147 := ⟨48, 53, by decide +kernel, by decide +kernel, by decide +kernel⟩
theorem p125_147 : ps_k 125 147 (Int32.ofNat 15) 149 := ⟨.bipush 15, by decide +kernel, fun _ _ => rfl⟩
theorem p125_149 : ps_ld 125 149 2 150 := ⟨.iload_n 2, by decide +kernel, fun _ _ => rfl⟩
theorem p125_150 : ps_b 125 150 (· * ·) 151 := ⟨.imul, by decide +kernel, fun _ _ => rfl⟩
theorem p125_151 : ps_la 125 151 0 152 := ⟨.aload_n 0, by decide +kernel, fun _ _ => rfl⟩
theorem p125_152 : ps_gf 125 152 9 22 155 := ⟨51, 54, by decide +kernel, by decide +kernel, by decide +kernel⟩
theorem p125_155 : ps_ld 125 155 2 156 := ⟨.iload_n 2, by decide +kernel, fun _ _ => rfl⟩
theorem p125_156 : ps_pu 125 156 (.iaload) 157 := (by decide +kernel : ps_i 125 156 = some (.iaload, 157))
theorem p125_157 : ps_b 125 157 (· + ·) 158 := ⟨.iadd, by decide +kernel, fun _ _ => rfl⟩
theorem p125_158 : ps_k 125 158 (Int32.ofNat 1) 159 := ⟨.iconst 1, by decide +kernel, fun _ _ => rfl⟩
theorem p125_159 : ps_b 125 159 (· - ·) 160 := ⟨.isub, by decide +kernel, fun _ _ => rfl⟩
theorem p125_160 : ps_k 125 160 (Int32.ofNat 16) 162 := ⟨.bipush 16, by decide +kernel, fun _ _ => rfl⟩
theorem p125_162 : ps_ld 125 162 1 163 := ⟨.iload_n 1, by decide +kernel, fun _ _ => rfl⟩
theorem p125_163 : ps_b 125 163 (· + ·) 164 := ⟨.iadd, by decide +kernel, fun _ _ => rfl⟩
theorem p125_164 : ps_pu 125 164 (.iastore) 165 := (by decide +kernel : ps_i 125 164 = some (.iastore, 165))
theorem p125_165 : ps_la 125 165 0 166 := ⟨.aload_n 0, by decide +kernel, fun _ _ => rfl⟩
theorem p125_166 : ps_gf 125 166 9 23 169 := ⟨54, 55, by decide +kernel, by decide +kernel, by decide +kernel⟩
theorem p125_169 : ps_ld 125 169 2 170 := ⟨.iload_n 2, by decide +kernel, fun _ _ => rfl⟩
theorem p125_170 : ps_la 125 170 0 171 := ⟨.aload_n 0, by decide +kernel, fun _ _ => rfl⟩
theorem p125_171 : ps_gf 125 171 9 23 174 := ⟨54, 55, by decide +kernel, by decide +kernel, by decide +kernel⟩
theorem p125_174 : ps_ld 125 174 2 175 := ⟨.iload_n 2, by decide +kernel, fun _ _ => rfl⟩
theorem p125_175 : ps_pu 125 175 (.iaload) 176 := (by decide +kernel : ps_i 125 175 = some (.iaload, 176))
theorem p125_176 : ps_la 125 176 0 177 := ⟨.aload_n 0, by decide +kernel, fun _ _ => rfl⟩
theorem p125_177 : ps_gf 125 177 9 23 180 := ⟨54, 55, by decide +kernel, by decide +kernel, by decide +kernel⟩
theorem p125_180 : ps_ld 125 180 2 181 := ⟨.iload_n 2, by decide +kernel, fun _ _ => rfl⟩
theorem p125_181 : ps_k 125 181 (Int32.ofNat 1) 182 := ⟨.iconst 1, by decide +kernel, fun _ _ => rfl⟩
theorem p125_182 : ps_b 125 182 (· + ·) 183 := ⟨.iadd, by decide +kernel, fun _ _ => rfl⟩
theorem p125_183 : ps_pu 125 183 (.iaload) 184 := (by decide +kernel : ps_i 125 183 = some (.iaload, 184))
theorem p125_184 : ps_b 125 184 (· + ·) 185 := ⟨.iadd, by decide +kernel, fun _ _ => rfl⟩
theorem p125_185 : ps_pu 125 185 (.iastore) 186 := (by decide +kernel : ps_i 125 185 = some (.iastore, 186))
theorem p125_186 : ps_la 125 186 0 187 := ⟨.aload_n 0, by decide +kernel, fun _ _ => rfl⟩
theorem p125_187 : ps_pu 125 187 (.dup) 188 := (by decide +kernel : ps_i 125 187 = some (.dup, 188))
theorem p125_188 : ps_gf 125 188 9 20 191 := ⟨149, 52, by decide +kernel, by decide +kernel, by decide +kernel⟩
theorem p125_191 : ps_k 125 191 (Int32.ofNat 1) 192 := ⟨.iconst 1, by decide +kernel, fun _ _ => rfl⟩
theorem p125_192 : ps_b 125 192 (· - ·) 193 := ⟨.isub, by decide +kernel, fun _ _ => rfl⟩
theorem p125_193 : ps_pf 125 193 9 20 (.int) 196 := ⟨149, 52, by decide +kernel, by decide +kernel, by decide +kernel, by decide +kernel, by decide +kernel⟩
theorem p125_196 : ps_la 125 196 0 197 := ⟨.aload_n 0, by decide +kernel, fun _ _ => rfl⟩
theorem p125_197 : ps_gf 125 197 9 20 200 := ⟨149, 52, by decide +kernel, by decide +kernel, by decide +kernel⟩
theorem p125_200 : ps_pu 125 200 (.ireturn) 201 := (by decide +kernel : ps_i 125 200 = some (.ireturn, 201))
theorem e125 : ∀ v0 v1 : Value, pm_ent 125 [v0, v1] = [some v0, some v1, none, none] := fun _ _ => rfl
theorem l125 : 2 ≤ pm_mx 125 := by decide +kernel
theorem t125 : pm_ret 125 = (some .int) := by decide +kernel
theorem p126_0 : ps_la 126 0 0 1 := ⟨.aload_n 0, by decide +kernel, fun _ _ => rfl⟩
theorem p126_1 : ps_k 126 1 (Int32.ofNat 0) 2 := ⟨.iconst 0, by decide +kernel, fun _ _ => rfl⟩
theorem p126_2 : ps_pf 126 2 9 1 (.int) 5 := ⟨63, 33, by decide +kernel, by decide +kernel, by decide +kernel, by decide +kernel, by decide +kernel⟩
theorem p126_5 : ps_la 126 5 0 6 := ⟨.aload_n 0, by decide +kernel, fun _ _ => rfl⟩
theorem p126_6 : ps_gf 126 6 9 20 9 := ⟨149, 52, by decide +kernel, by decide +kernel, by decide +kernel⟩
theorem p126_9 : ps_j0 126 9 .ne 18 12 := ⟨9, by decide +kernel, by decide +kernel, by decide +kernel⟩
theorem p126_12 : ps_la 126 12 0 13 := ⟨.aload_n 0, by decide +kernel, fun _ _ => rfl⟩
theorem p126_13 : ps_k 126 13 (Int32.ofNat 1) 14 := ⟨.iconst 1, by decide +kernel, fun _ _ => rfl⟩
theorem p126_14 : ps_vV 126 14 9 100 1 17 := ⟨66, 100, by decide +kernel, by decide +kernel, by decide +kernel, by decide +kernel, by decide +kernel⟩
theorem p126_17 : ps_pu 126 17 (.ireturn) 18 := (by decide +kernel : ps_i 126 17 = some (.ireturn, 18))
theorem p126_18 : ps_la 126 18 0 19 := ⟨.aload_n 0, by decide +kernel, fun _ _ => rfl⟩
theorem p126_19 : ps_pu 126 19 (.dup) 20 := (by decide +kernel : ps_i 126 19 = some (.dup, 20))
theorem p126_20 : ps_gf 126 20 9 20 23 := ⟨149, 52, by decide +kernel, by decide +kernel, by decide +kernel⟩
theorem p126_23 : ps_k 126 23 (Int32.ofNat 1) 24 := ⟨.iconst 1, by decide +kernel, fun _ _ => rfl⟩
theorem p126_24 : ps_b 126 24 (· - ·) 25 := ⟨.isub, by decide +kernel, fun _ _ => rfl⟩
theorem p126_25 : ps_pf 126 25 9 20 (.int) 28 := ⟨149, 52, by decide +kernel, by decide +kernel, by decide +kernel, by decide +kernel, by decide +kernel⟩
theorem p126_28 : ps_la 126 28 0 29 := ⟨.aload_n 0, by decide +kernel, fun _ _ => rfl⟩
theorem p126_29 : ps_gf 126 29 9 20 32 := ⟨149, 52, by decide +kernel, by decide +kernel, by decide +kernel⟩
theorem p126_32 : ps_pu 126 32 (.ireturn) 33 := (by decide +kernel : ps_i 126 32 = some (.ireturn, 33))
theorem e126 : ∀ v0 : Value, pm_ent 126 [v0] = [some v0] := fun _ => rfl
theorem l126 : 1 ≤ pm_mx 126 := by decide +kernel
theorem t126 : pm_ret 126 = (some .int) := by decide +kernel
theorem p127_0 : ps_la 127 0 0 1 := ⟨.aload_n 0, by decide +kernel, fun _ _ => rfl⟩
theorem p127_1 : ps_k 127 1 (Int32.ofNat 0) 2 := ⟨.iconst 0, by decide +kernel, fun _ _ => rfl⟩
theorem p127_2 : ps_pf 127 2 9 1 (.int) 5 := ⟨63, 33, by decide +kernel, by decide +kernel, by decide +kernel, by decide +kernel, by decide +kernel⟩
theorem p127_5 : ps_la 127 5 0 6 := ⟨.aload_n 0, by decide +kernel, fun _ _ => rfl⟩
theorem p127_6 : ps_gf 127 6 9 20 9 := ⟨149, 52, by decide +kernel, by decide +kernel, by decide +kernel⟩
theorem p127_9 : ps_j0 127 9 .ne 18 12 := ⟨9, by decide +kernel, by decide +kernel, by decide +kernel⟩
theorem p127_12 : ps_la 127 12 0 13 := ⟨.aload_n 0, by decide +kernel, fun _ _ => rfl⟩
theorem p127_13 : ps_k 127 13 (Int32.ofNat 1) 14 := ⟨.iconst 1, by decide +kernel, fun _ _ => rfl⟩
theorem p127_14 : ps_vV 127 14 9 100 1 17 := ⟨66, 100, by decide +kernel, by decide +kernel, by decide +kernel, by decide +kernel, by decide +kernel⟩
theorem p127_17 : ps_pu 127 17 (.ireturn) 18 := (by decide +kernel : ps_i 127 17 = some (.ireturn, 18))
theorem p127_18 : ps_k 127 18 (Int32.ofNat 0) 19 := ⟨.iconst 0, by decide +kernel, fun _ _ => rfl⟩
theorem p127_19 : ps_si 127 19 1 20 := ⟨.istore_n 1, by decide +kernel, fun _ _ => rfl⟩
theorem p127_20 : ps_k 127 20 (Int32.ofNat 0) 21 := ⟨.iconst 0, by decide +kernel, fun _ _ => rfl⟩
theorem p127_21 : ps_si 127 21 2 22 := ⟨.istore_n 2, by decide +kernel, fun _ _ => rfl⟩
theorem p127_22 : ps_ld 127 22 2 23 := ⟨.iload_n 2, by decide +kernel, fun _ _ => rfl⟩
theorem p127_23 : ps_la 127 23 0 24 := ⟨.aload_n 0, by decide +kernel, fun _ _ => rfl⟩
theorem p127_24 : ps_gf 127 24 9 4 27 := ⟨73, 36, by decide +kernel, by decide +kernel, by decide +kernel⟩
theorem p127_27 : ps_j 127 27 .ge 61 30 := ⟨34, by decide +kernel, by decide +kernel, by decide +kernel⟩
theorem p127_30 : ps_la 127 30 0 31 := ⟨.aload_n 0, by decide +kernel, fun _ _ => rfl⟩
theorem p127_31 : ps_gf 127 31 9 10 34 := ⟨25, 42, by decide +kernel, by decide +kernel, by decide +kernel⟩
theorem p127_34 : ps_ld 127 34 2 35 := ⟨.iload_n 2, by decide +kernel, fun _ _ => rfl⟩
theorem p127_35 : ps_pu 127 35 (.baload) 36 := (by decide +kernel : ps_i 127 35 = some (.baload, 36))
theorem p127_36 : ps_j0 127 36 .ne 53 39 := ⟨17, by decide +kernel, by decide +kernel, by decide +kernel⟩
theorem p127_39 : ps_la 127 39 0 40 := ⟨.aload_n 0, by decide +kernel, fun _ _ => rfl⟩
theorem p127_40 : ps_ld 127 40 2 41 := ⟨.iload_n 2, by decide +kernel, fun _ _ => rfl⟩
theorem p127_41 : ps_vV 127 41 9 128 1 44 := ⟨162, 128, by decide +kernel, by decide +kernel, by decide +kernel, by decide +kernel, by decide +kernel⟩
theorem p127_44 : ps_j0 127 44 .eq 53 47 := ⟨9, by decide +kernel, by decide +kernel, by decide +kernel⟩
theorem p127_47 : ps_ld 127 47 1 48 := ⟨.iload_n 1, by decide +kernel, fun _ _ => rfl⟩
theorem p127_48 : ps_k 127 48 (Int32.ofNat 1) 49 := ⟨.iconst 1, by decide +kernel, fun _ _ => rfl⟩
theorem p127_49 : ps_b 127 49 (· + ·) 50 := ⟨.iadd, by decide +kernel, fun _ _ => rfl⟩
theorem p127_50 : ps_jg 127 50 54 := ⟨(4), 53, by decide +kernel, by decide +kernel, by decide +kernel⟩
theorem p127_53 : ps_ld 127 53 1 54 := ⟨.iload_n 1, by decide +kernel, fun _ _ => rfl⟩
theorem p127_54 : ps_si 127 54 1 55 := ⟨.istore_n 1, by decide +kernel, fun _ _ => rfl⟩
theorem p127_55 : ps_pu 127 55 (.iinc 2 ((1 : Nat) : Int)) 58 := (by decide +kernel : ps_i 127 55 = some (.iinc 2 ((1 : Nat) : Int), 58))
theorem p127_58 : ps_jg 127 58 22 := ⟨(-36), 61, by decide +kernel, by decide +kernel, by decide +kernel⟩
theorem p127_61 : ps_ld 127 61 1 62 := ⟨.iload_n 1, by decide +kernel, fun _ _ => rfl⟩
theorem p127_62 : ps_pu 127 62 (.ireturn) 63 := (by decide +kernel : ps_i 127 62 = some (.ireturn, 63))
theorem e127 : ∀ v0 : Value, pm_ent 127 [v0] = [some v0, none, none] := fun _ => rfl
theorem l127 : 1 ≤ pm_mx 127 := by decide +kernel
theorem t127 : pm_ret 127 = (some .int) := by decide +kernel
theorem p128_0 : ps_la 128 0 0 1 := ⟨.aload_n 0, by decide +kernel, fun _ _ => rfl⟩
theorem p128_1 : ps_gf 128 1 9 20 4 := ⟨149, 52, by decide +kernel, by decide +kernel, by decide +kernel⟩
theorem p128_4 : ps_k 128 4 (Int32.ofNat 1) 5 := ⟨.iconst 1, by decide +kernel, fun _ _ => rfl⟩
theorem p128_5 : ps_b 128 5 (· - ·) 6 := ⟨.isub, by decide +kernel, fun _ _ => rfl⟩
theorem p128_6 : ps_si 128 6 2 7 := ⟨.istore_n 2, by decide +kernel, fun _ _ => rfl⟩
theorem p128_7 : ps_k 128 7 (Int32.ofNat 0) 8 := ⟨.iconst 0, by decide +kernel, fun _ _ => rfl⟩
theorem p128_8 : ps_si 128 8 3 9 := ⟨.istore_n 3, by decide +kernel, fun _ _ => rfl⟩
theorem p128_9 : ps_k 128 9 (Int32.ofNat 0) 10 := ⟨.iconst 0, by decide +kernel, fun _ _ => rfl⟩
theorem p128_10 : ps_si 128 10 4 12 := ⟨.istore 4, by decide +kernel, fun _ _ => rfl⟩
theorem p128_12 : ps_ld 128 12 4 14 := ⟨.iload 4, by decide +kernel, fun _ _ => rfl⟩
theorem p128_14 : ps_la 128 14 0 15 := ⟨.aload_n 0, by decide +kernel, fun _ _ => rfl⟩
theorem p128_15 : ps_gf 128 15 9 22 18 := ⟨51, 54, by decide +kernel, by decide +kernel, by decide +kernel⟩
theorem p128_18 : ps_ld 128 18 2 19 := ⟨.iload_n 2, by decide +kernel, fun _ _ => rfl⟩
theorem p128_19 : ps_pu 128 19 (.iaload) 20 := (by decide +kernel : ps_i 128 19 = some (.iaload, 20))
theorem p128_20 : ps_j 128 20 .ge 102 23 := ⟨82, by decide +kernel, by decide +kernel, by decide +kernel⟩
theorem p128_23 : ps_la 128 23 0 24 := ⟨.aload_n 0, by decide +kernel, fun _ _ => rfl⟩
theorem p128_24 : ps_gf 128 24 9 21 27 := ⟨48, 53, by decide +kernel, by decide +kernel, by decide +kernel⟩
theorem p128_27 : ps_k 128 27 (Int32.ofNat 15) 29 := ⟨.bipush 15, by decide +kernel, fun _ _ => rfl⟩
theorem p128_29 : ps_ld 128 29 2 30 := ⟨.iload_n 2, by decide +kernel, fun _ _ => rfl⟩
theorem p128_30 : ps_b 128 30 (· * ·) 31 := ⟨.imul, by decide +kernel, fun _ _ => rfl⟩
theorem p128_31 : ps_ld 128 31 4 33 := ⟨.iload 4, by decide +kernel, fun _ _ => rfl⟩
theorem p128_33 : ps_b 128 33 (· + ·) 34 := ⟨.iadd, by decide +kernel, fun _ _ => rfl⟩
theorem p128_34 : ps_pu 128 34 (.iaload) 35 := (by decide +kernel : ps_i 128 34 = some (.iaload, 35))
theorem p128_35 : ps_si 128 35 5 37 := ⟨.istore 5, by decide +kernel, fun _ _ => rfl⟩
theorem p128_37 : ps_ld 128 37 5 39 := ⟨.iload 5, by decide +kernel, fun _ _ => rfl⟩
theorem p128_39 : ps_k 128 39 (Int32.ofNat 16) 41 := ⟨.bipush 16, by decide +kernel, fun _ _ => rfl⟩
theorem p128_41 : ps_j 128 41 .ge 63 44 := ⟨22, by decide +kernel, by decide +kernel, by decide +kernel⟩
theorem p128_44 : ps_la 128 44 0 45 := ⟨.aload_n 0, by decide +kernel, fun _ _ => rfl⟩
theorem p128_45 : ps_gf 128 45 9 24 48 := ⟨57, 56, by decide +kernel, by decide +kernel, by decide +kernel⟩
theorem p128_48 : ps_ld 128 48 3 49 := ⟨.iload_n 3, by decide +kernel, fun _ _ => rfl⟩
theorem p128_49 : ps_la 128 49 0 50 := ⟨.aload_n 0, by decide +kernel, fun _ _ => rfl⟩
theorem p128_50 : ps_ld 128 50 1 51 := ⟨.iload_n 1, by decide +kernel, fun _ _ => rfl⟩
theorem p128_51 : ps_ld 128 51 5 53 := ⟨.iload 5, by decide +kernel, fun _ _ => rfl⟩
theorem p128_53 : ps_vV 128 53 9 129 2 56 := ⟨156, 129, by decide +kernel, by decide +kernel, by decide +kernel, by decide +kernel, by decide +kernel⟩
theorem p128_56 : ps_pu 128 56 (.iastore) 57 := (by decide +kernel : ps_i 128 56 = some (.iastore, 57))
theorem p128_57 : ps_pu 128 57 (.iinc 3 ((1 : Nat) : Int)) 60 := (by decide +kernel : ps_i 128 57 = some (.iinc 3 ((1 : Nat) : Int), 60))
theorem p128_60 : ps_jg 128 60 96 := ⟨(36), 63, by decide +kernel, by decide +kernel, by decide +kernel⟩
theorem p128_63 : ps_pu 128 63 (.iinc 3 (-1)) 66 := (by decide +kernel : ps_i 128 63 = some (.iinc 3 (-1), 66))
theorem p128_66 : ps_la 128 66 0 67 := ⟨.aload_n 0, by decide +kernel, fun _ _ => rfl⟩
theorem p128_67 : ps_gf 128 67 9 24 70 := ⟨57, 56, by decide +kernel, by decide +kernel, by decide +kernel⟩
theorem p128_70 : ps_ld 128 70 3 71 := ⟨.iload_n 3, by decide +kernel, fun _ _ => rfl⟩
theorem p128_71 : ps_k 128 71 (Int32.ofNat 1) 72 := ⟨.iconst 1, by decide +kernel, fun _ _ => rfl⟩
theorem p128_72 : ps_b 128 72 (· - ·) 73 := ⟨.isub, by decide +kernel, fun _ _ => rfl⟩
theorem p128_73 : ps_ld 128 73 5 75 := ⟨.iload 5, by decide +kernel, fun _ _ => rfl⟩
theorem p128_75 : ps_k 128 75 (Int32.ofNat 16) 77 := ⟨.bipush 16, by decide +kernel, fun _ _ => rfl⟩
theorem p128_77 : ps_b 128 77 (· - ·) 78 := ⟨.isub, by decide +kernel, fun _ _ => rfl⟩
theorem p128_78 : ps_la 128 78 0 79 := ⟨.aload_n 0, by decide +kernel, fun _ _ => rfl⟩
theorem p128_79 : ps_gf 128 79 9 24 82 := ⟨57, 56, by decide +kernel, by decide +kernel, by decide +kernel⟩
theorem p128_82 : ps_ld 128 82 3 83 := ⟨.iload_n 3, by decide +kernel, fun _ _ => rfl⟩
theorem p128_83 : ps_k 128 83 (Int32.ofNat 1) 84 := ⟨.iconst 1, by decide +kernel, fun _ _ => rfl⟩
theorem p128_84 : ps_b 128 84 (· - ·) 85 := ⟨.isub, by decide +kernel, fun _ _ => rfl⟩
theorem p128_85 : ps_pu 128 85 (.iaload) 86 := (by decide +kernel : ps_i 128 85 = some (.iaload, 86))
theorem p128_86 : ps_la 128 86 0 87 := ⟨.aload_n 0, by decide +kernel, fun _ _ => rfl⟩
theorem p128_87 : ps_gf 128 87 9 24 90 := ⟨57, 56, by decide +kernel, by decide +kernel, by decide +kernel⟩
theorem p128_90 : ps_ld 128 90 3 91 := ⟨.iload_n 3, by decide +kernel, fun _ _ => rfl⟩
theorem p128_91 : ps_pu 128 91 (.iaload) 92 := (by decide +kernel : ps_i 128 91 = some (.iaload, 92))
theorem p128_92 : ps_vS 128 92 130 3 95 := ⟨159, by decide +kernel, by decide +kernel, by decide +kernel, by decide +kernel⟩
theorem p128_95 : ps_pu 128 95 (.iastore) 96 := (by decide +kernel : ps_i 128 95 = some (.iastore, 96))
theorem p128_96 : ps_pu 128 96 (.iinc 4 ((1 : Nat) : Int)) 99 := (by decide +kernel : ps_i 128 96 = some (.iinc 4 ((1 : Nat) : Int), 99))
theorem p128_99 : ps_jg 128 99 12 := ⟨(-87), 102, by decide +kernel, by decide +kernel, by decide +kernel⟩
theorem p128_102 : ps_la 128 102 0 103 := ⟨.aload_n 0, by decide +kernel, fun _ _ => rfl⟩
theorem p128_103 : ps_gf 128 103 9 24 106 := ⟨57, 56, by decide +kernel, by decide +kernel, by decide +kernel⟩
theorem p128_106 : ps_k 128 106 (Int32.ofNat 0) 107 := ⟨.iconst 0, by decide +kernel, fun _ _ => rfl⟩
theorem p128_107 : ps_pu 128 107 (.iaload) 108 := (by decide +kernel : ps_i 128 107 = some (.iaload, 108))
theorem p128_108 : ps_pu 128 108 (.ireturn) 109 := (by decide +kernel : ps_i 128 108 = some (.ireturn, 109))
theorem e128 : ∀ v0 v1 : Value, pm_ent 128 [v0, v1] = [some v0, some v1, none, none, none, none] := fun _ _ => rfl
theorem l128 : 2 ≤ pm_mx 128 := by decide +kernel
theorem t128 : pm_ret 128 = (some .int) := by decide +kernel
theorem p129_0 : ps_k 129 0 (Int32.ofNat 0) 1 := ⟨.iconst 0, by decide +kernel, fun _ _ => rfl⟩
theorem p129_1 : ps_si 129 1 3 2 := ⟨.istore_n 3, by decide +kernel, fun _ _ => rfl⟩
theorem p129_2 : ps_k 129 2 (Int32.ofNat 0) 3 := ⟨.iconst 0, by decide +kernel, fun _ _ => rfl⟩
theorem p129_3 : ps_si 129 3 4 5 := ⟨.istore 4, by decide +kernel, fun _ _ => rfl⟩
theorem p129_5 : ps_ld 129 5 4 7 := ⟨.iload 4, by decide +kernel, fun _ _ => rfl⟩
theorem p129_7 : ps_la 129 7 0 8 := ⟨.aload_n 0, by decide +kernel, fun _ _ => rfl⟩
theorem p129_8 : ps_gf 129 8 9 7 11 := ⟨16, 39, by decide +kernel, by decide +kernel, by decide +kernel⟩
theorem p129_11 : ps_ld 129 11 1 12 := ⟨.iload_n 1, by decide +kernel, fun _ _ => rfl⟩
theorem p129_12 : ps_pu 129 12 (.iaload) 13 := (by decide +kernel : ps_i 129 12 = some (.iaload, 13))
theorem p129_13 : ps_j 129 13 .ge 49 16 := ⟨36, by decide +kernel, by decide +kernel, by decide +kernel⟩
theorem p129_16 : ps_la 129 16 0 17 := ⟨.aload_n 0, by decide +kernel, fun _ _ => rfl⟩
theorem p129_17 : ps_gf 129 17 9 8 20 := ⟨19, 40, by decide +kernel, by decide +kernel, by decide +kernel⟩
theorem p129_20 : ps_k 129 20 (Int32.ofNat 8) 22 := ⟨.bipush 8, by decide +kernel, fun _ _ => rfl⟩
theorem p129_22 : ps_ld 129 22 1 23 := ⟨.iload_n 1, by decide +kernel, fun _ _ => rfl⟩
theorem p129_23 : ps_b 129 23 (· * ·) 24 := ⟨.imul, by decide +kernel, fun _ _ => rfl⟩
theorem p129_24 : ps_ld 129 24 4 26 := ⟨.iload 4, by decide +kernel, fun _ _ => rfl⟩
theorem p129_26 : ps_b 129 26 (· + ·) 27 := ⟨.iadd, by decide +kernel, fun _ _ => rfl⟩
theorem p129_27 : ps_pu 129 27 (.iaload) 28 := (by decide +kernel : ps_i 129 27 = some (.iaload, 28))
theorem p129_28 : ps_ld 129 28 2 29 := ⟨.iload_n 2, by decide +kernel, fun _ _ => rfl⟩
theorem p129_29 : ps_j 129 29 .ne 41 32 := ⟨12, by decide +kernel, by decide +kernel, by decide +kernel⟩
theorem p129_32 : ps_ld 129 32 3 33 := ⟨.iload_n 3, by decide +kernel, fun _ _ => rfl⟩
theorem p129_33 : ps_k 129 33 (Int32.ofNat 1) 34 := ⟨.iconst 1, by decide +kernel, fun _ _ => rfl⟩
theorem p129_34 : ps_ld 129 34 4 36 := ⟨.iload 4, by decide +kernel, fun _ _ => rfl⟩
theorem p129_36 : ps_b 129 36 (fun x y => x <<< (y &&& 31)) 37 := ⟨.ishl, by decide +kernel, fun _ _ => rfl⟩
theorem p129_37 : ps_b 129 37 (· ||| ·) 38 := ⟨.ior, by decide +kernel, fun _ _ => rfl⟩
theorem p129_38 : ps_jg 129 38 42 := ⟨(4), 41, by decide +kernel, by decide +kernel, by decide +kernel⟩
theorem p129_41 : ps_ld 129 41 3 42 := ⟨.iload_n 3, by decide +kernel, fun _ _ => rfl⟩
theorem p129_42 : ps_si 129 42 3 43 := ⟨.istore_n 3, by decide +kernel, fun _ _ => rfl⟩
theorem p129_43 : ps_pu 129 43 (.iinc 4 ((1 : Nat) : Int)) 46 := (by decide +kernel : ps_i 129 43 = some (.iinc 4 ((1 : Nat) : Int), 46))
theorem p129_46 : ps_jg 129 46 5 := ⟨(-41), 49, by decide +kernel, by decide +kernel, by decide +kernel⟩
theorem p129_49 : ps_ld 129 49 3 50 := ⟨.iload_n 3, by decide +kernel, fun _ _ => rfl⟩
theorem p129_50 : ps_pu 129 50 (.ireturn) 51 := (by decide +kernel : ps_i 129 50 = some (.ireturn, 51))
theorem e129 : ∀ v0 v1 v2 : Value, pm_ent 129 [v0, v1, v2] = [some v0, some v1, some v2, none, none] := fun _ _ _ => rfl
theorem l129 : 3 ≤ pm_mx 129 := by decide +kernel
theorem t129 : pm_ret 129 = (some .int) := by decide +kernel
theorem p130_0 : ps_ld 130 0 0 1 := ⟨.iload_n 0, by decide +kernel, fun _ _ => rfl⟩
theorem p130_1 : ps_pu 130 1 (.tableswitch 67 0 3 #[31, 47, 51, 61]) 32 := (by decide +kernel : ps_i 130 1 = some (.tableswitch 67 0 3 #[31, 47, 51, 61], 32))
theorem p130_32 : ps_ld 130 32 1 33 := ⟨.iload_n 1, by decide +kernel, fun _ _ => rfl⟩
theorem p130_33 : ps_j0 130 33 .eq 40 36 := ⟨7, by decide +kernel, by decide +kernel, by decide +kernel⟩
theorem p130_36 : ps_ld 130 36 2 37 := ⟨.iload_n 2, by decide +kernel, fun _ _ => rfl⟩
theorem p130_37 : ps_j0 130 37 .ne 44 40 := ⟨7, by decide +kernel, by decide +kernel, by decide +kernel⟩
theorem p130_40 : ps_k 130 40 (Int32.ofNat 0) 41 := ⟨.iconst 0, by decide +kernel, fun _ _ => rfl⟩
theorem p130_41 : ps_jg 130 41 47 := ⟨(6), 44, by decide +kernel, by decide +kernel, by decide +kernel⟩
theorem p130_44 : ps_ld 130 44 1 45 := ⟨.iload_n 1, by decide +kernel, fun _ _ => rfl⟩
theorem p130_45 : ps_ld 130 45 2 46 := ⟨.iload_n 2, by decide +kernel, fun _ _ => rfl⟩
theorem p130_46 : ps_b 130 46 (· ||| ·) 47 := ⟨.ior, by decide +kernel, fun _ _ => rfl⟩
theorem p130_47 : ps_pu 130 47 (.ireturn) 48 := (by decide +kernel : ps_i 130 47 = some (.ireturn, 48))
theorem p130_48 : ps_ld 130 48 1 49 := ⟨.iload_n 1, by decide +kernel, fun _ _ => rfl⟩
theorem p130_49 : ps_ld 130 49 2 50 := ⟨.iload_n 2, by decide +kernel, fun _ _ => rfl⟩
theorem p130_50 : ps_b 130 50 (· ||| ·) 51 := ⟨.ior, by decide +kernel, fun _ _ => rfl⟩
theorem p130_51 : ps_pu 130 51 (.ireturn) 52 := (by decide +kernel : ps_i 130 51 = some (.ireturn, 52))
theorem p130_52 : ps_ld 130 52 2 53 := ⟨.iload_n 2, by decide +kernel, fun _ _ => rfl⟩
theorem p130_53 : ps_j0 130 53 .ne 60 56 := ⟨7, by decide +kernel, by decide +kernel, by decide +kernel⟩
theorem p130_56 : ps_ld 130 56 1 57 := ⟨.iload_n 1, by decide +kernel, fun _ _ => rfl⟩
theorem p130_57 : ps_jg 130 57 61 := ⟨(4), 60, by decide +kernel, by decide +kernel, by decide +kernel⟩
theorem p130_60 : ps_k 130 60 (Int32.ofNat 0) 61 := ⟨.iconst 0, by decide +kernel, fun _ _ => rfl⟩
theorem p130_61 : ps_pu 130 61 (.ireturn) 62 := (by decide +kernel : ps_i 130 61 = some (.ireturn, 62))
theorem p130_62 : ps_ld 130 62 2 63 := ⟨.iload_n 2, by decide +kernel, fun _ _ => rfl⟩
theorem p130_63 : ps_ld 130 63 1 64 := ⟨.iload_n 1, by decide +kernel, fun _ _ => rfl⟩
theorem p130_64 : ps_k 130 64 (Int32.ofNat 1) 65 := ⟨.iconst 1, by decide +kernel, fun _ _ => rfl⟩
theorem p130_65 : ps_b 130 65 (fun x y => x <<< (y &&& 31)) 66 := ⟨.ishl, by decide +kernel, fun _ _ => rfl⟩
theorem p130_66 : ps_b 130 66 (· &&& ·) 67 := ⟨.iand, by decide +kernel, fun _ _ => rfl⟩
theorem p130_67 : ps_pu 130 67 (.ireturn) 68 := (by decide +kernel : ps_i 130 67 = some (.ireturn, 68))
theorem p130_68 : ps_ld 130 68 1 69 := ⟨.iload_n 1, by decide +kernel, fun _ _ => rfl⟩
theorem p130_69 : ps_ld 130 69 2 70 := ⟨.iload_n 2, by decide +kernel, fun _ _ => rfl⟩
theorem p130_70 : ps_ld 130 70 0 71 := ⟨.iload_n 0, by decide +kernel, fun _ _ => rfl⟩
theorem p130_71 : ps_k 130 71 (Int32.ofNat 3) 72 := ⟨.iconst 3, by decide +kernel, fun _ _ => rfl⟩
theorem p130_72 : ps_b 130 72 (· - ·) 73 := ⟨.isub, by decide +kernel, fun _ _ => rfl⟩
theorem p130_73 : ps_vS 130 73 131 3 76 := ⟨152, by decide +kernel, by decide +kernel, by decide +kernel, by decide +kernel⟩
theorem p130_76 : ps_pu 130 76 (.ireturn) 77 := (by decide +kernel : ps_i 130 76 = some (.ireturn, 77))
theorem e130 : ∀ v0 v1 v2 : Value, pm_ent 130 [v0, v1, v2] = [some v0, some v1, some v2] := fun _ _ _ => rfl
theorem l130 : 3 ≤ pm_mx 130 := by decide +kernel
theorem t130 : pm_ret 130 = (some .int) := by decide +kernel
theorem p131_0 : ps_k 131 0 (Int32.ofNat 0) 1 := ⟨.iconst 0, by decide +kernel, fun _ _ => rfl⟩
theorem p131_1 : ps_si 131 1 3 2 := ⟨.istore_n 3, by decide +kernel, fun _ _ => rfl⟩
theorem p131_2 : ps_k 131 2 (Int32.ofNat 0) 3 := ⟨.iconst 0, by decide +kernel, fun _ _ => rfl⟩
theorem p131_3 : ps_si 131 3 4 5 := ⟨.istore 4, by decide +kernel, fun _ _ => rfl⟩
theorem p131_5 : ps_ld 131 5 4 7 := ⟨.iload 4, by decide +kernel, fun _ _ => rfl⟩
theorem p131_7 : ps_k 131 7 (Int32.ofNat 8) 9 := ⟨.bipush 8, by decide +kernel, fun _ _ => rfl⟩
theorem p131_9 : ps_j 131 9 .ge 110 12 := ⟨101, by decide +kernel, by decide +kernel, by decide +kernel⟩
theorem p131_12 : ps_k 131 12 (Int32.ofNat 0) 13 := ⟨.iconst 0, by decide +kernel, fun _ _ => rfl⟩
theorem p131_13 : ps_si 131 13 5 15 := ⟨.istore 5, by decide +kernel, fun _ _ => rfl⟩
theorem p131_15 : ps_ld 131 15 5 17 := ⟨.iload 5, by decide +kernel, fun _ _ => rfl⟩
theorem p131_17 : ps_k 131 17 (Int32.ofNat 8) 19 := ⟨.bipush 8, by decide +kernel, fun _ _ => rfl⟩
theorem p131_19 : ps_j 131 19 .ge 104 22 := ⟨85, by decide +kernel, by decide +kernel, by decide +kernel⟩
theorem p131_22 : ps_ld 131 22 4 24 := ⟨.iload 4, by decide +kernel, fun _ _ => rfl⟩
theorem p131_24 : ps_ld 131 24 5 26 := ⟨.iload 5, by decide +kernel, fun _ _ => rfl⟩
theorem p131_26 : ps_j 131 26 .ge 37 29 := ⟨11, by decide +kernel, by decide +kernel, by decide +kernel⟩
theorem p131_29 : ps_ld 131 29 5 31 := ⟨.iload 5, by decide +kernel, fun _ _ => rfl⟩
theorem p131_31 : ps_ld 131 31 4 33 := ⟨.iload 4, by decide +kernel, fun _ _ => rfl⟩
theorem p131_33 : ps_b 131 33 (· - ·) 34 := ⟨.isub, by decide +kernel, fun _ _ => rfl⟩
theorem p131_34 : ps_jg 131 34 42 := ⟨(8), 37, by decide +kernel, by decide +kernel, by decide +kernel⟩
theorem p131_37 : ps_ld 131 37 4 39 := ⟨.iload 4, by decide +kernel, fun _ _ => rfl⟩
theorem p131_39 : ps_ld 131 39 5 41 := ⟨.iload 5, by decide +kernel, fun _ _ => rfl⟩
theorem p131_41 : ps_b 131 41 (· - ·) 42 := ⟨.isub, by decide +kernel, fun _ _ => rfl⟩
theorem p131_42 : ps_si 131 42 6 44 := ⟨.istore 6, by decide +kernel, fun _ _ => rfl⟩
theorem p131_44 : ps_ld 131 44 1 45 := ⟨.iload_n 1, by decide +kernel, fun _ _ => rfl⟩
theorem p131_45 : ps_ld 131 45 4 47 := ⟨.iload 4, by decide +kernel, fun _ _ => rfl⟩
theorem p131_47 : ps_b 131 47 (fun x y => x >>> (y &&& 31)) 48 := ⟨.ishr, by decide +kernel, fun _ _ => rfl⟩
theorem p131_48 : ps_k 131 48 (Int32.ofNat 1) 49 := ⟨.iconst 1, by decide +kernel, fun _ _ => rfl⟩
theorem p131_49 : ps_b 131 49 (· &&& ·) 50 := ⟨.iand, by decide +kernel, fun _ _ => rfl⟩
theorem p131_50 : ps_k 131 50 (Int32.ofNat 1) 51 := ⟨.iconst 1, by decide +kernel, fun _ _ => rfl⟩
theorem p131_51 : ps_j 131 51 .ne 79 54 := ⟨28, by decide +kernel, by decide +kernel, by decide +kernel⟩
theorem p131_54 : ps_ld 131 54 0 55 := ⟨.iload_n 0, by decide +kernel, fun _ _ => rfl⟩
theorem p131_55 : ps_ld 131 55 5 57 := ⟨.iload 5, by decide +kernel, fun _ _ => rfl⟩
theorem p131_57 : ps_b 131 57 (fun x y => x >>> (y &&& 31)) 58 := ⟨.ishr, by decide +kernel, fun _ _ => rfl⟩
theorem p131_58 : ps_k 131 58 (Int32.ofNat 1) 59 := ⟨.iconst 1, by decide +kernel, fun _ _ => rfl⟩
theorem p131_59 : ps_b 131 59 (· &&& ·) 60 := ⟨.iand, by decide +kernel, fun _ _ => rfl⟩
theorem p131_60 : ps_k 131 60 (Int32.ofNat 1) 61 := ⟨.iconst 1, by decide +kernel, fun _ _ => rfl⟩
theorem p131_61 : ps_j 131 61 .ne 79 64 := ⟨18, by decide +kernel, by decide +kernel, by decide +kernel⟩
theorem p131_64 : ps_ld 131 64 6 66 := ⟨.iload 6, by decide +kernel, fun _ _ => rfl⟩
theorem p131_66 : ps_j0 131 66 .le 79 69 := ⟨13, by decide +kernel, by decide +kernel, by decide +kernel⟩
theorem p131_69 : ps_ld 131 69 6 71 := ⟨.iload 6, by decide +kernel, fun _ _ => rfl⟩
theorem p131_71 : ps_ld 131 71 2 72 := ⟨.iload_n 2, by decide +kernel, fun _ _ => rfl⟩
theorem p131_72 : ps_j 131 72 .gt 79 75 := ⟨7, by decide +kernel, by decide +kernel, by decide +kernel⟩
theorem p131_75 : ps_k 131 75 (Int32.ofNat 1) 76 := ⟨.iconst 1, by decide +kernel, fun _ _ => rfl⟩
theorem p131_76 : ps_jg 131 76 80 := ⟨(4), 79, by decide +kernel, by decide +kernel, by decide +kernel⟩
theorem p131_79 : ps_k 131 79 (Int32.ofNat 0) 80 := ⟨.iconst 0, by decide +kernel, fun _ _ => rfl⟩
theorem p131_80 : ps_si 131 80 7 82 := ⟨.istore 7, by decide +kernel, fun _ _ => rfl⟩
theorem p131_82 : ps_ld 131 82 7 84 := ⟨.iload 7, by decide +kernel, fun _ _ => rfl⟩
theorem p131_84 : ps_j0 131 84 .eq 96 87 := ⟨12, by decide +kernel, by decide +kernel, by decide +kernel⟩
theorem p131_87 : ps_ld 131 87 3 88 := ⟨.iload_n 3, by decide +kernel, fun _ _ => rfl⟩
theorem p131_88 : ps_k 131 88 (Int32.ofNat 1) 89 := ⟨.iconst 1, by decide +kernel, fun _ _ => rfl⟩
theorem p131_89 : ps_ld 131 89 4 91 := ⟨.iload 4, by decide +kernel, fun _ _ => rfl⟩
theorem p131_91 : ps_b 131 91 (fun x y => x <<< (y &&& 31)) 92 := ⟨.ishl, by decide +kernel, fun _ _ => rfl⟩
theorem p131_92 : ps_b 131 92 (· ||| ·) 93 := ⟨.ior, by decide +kernel, fun _ _ => rfl⟩
theorem p131_93 : ps_jg 131 93 97 := ⟨(4), 96, by decide +kernel, by decide +kernel, by decide +kernel⟩
theorem p131_96 : ps_ld 131 96 3 97 := ⟨.iload_n 3, by decide +kernel, fun _ _ => rfl⟩
theorem p131_97 : ps_si 131 97 3 98 := ⟨.istore_n 3, by decide +kernel, fun _ _ => rfl⟩
theorem p131_98 : ps_pu 131 98 (.iinc 5 ((1 : Nat) : Int)) 101 := (by decide +kernel : ps_i 131 98 = some (.iinc 5 ((1 : Nat) : Int), 101))
theorem p131_101 : ps_jg 131 101 15 := ⟨(-86), 104, by decide +kernel, by decide +kernel, by decide +kernel⟩
theorem p131_104 : ps_pu 131 104 (.iinc 4 ((1 : Nat) : Int)) 107 := (by decide +kernel : ps_i 131 104 = some (.iinc 4 ((1 : Nat) : Int), 107))
theorem p131_107 : ps_jg 131 107 5 := ⟨(-102), 110, by decide +kernel, by decide +kernel, by decide +kernel⟩
theorem p131_110 : ps_ld 131 110 3 111 := ⟨.iload_n 3, by decide +kernel, fun _ _ => rfl⟩
theorem p131_111 : ps_pu 131 111 (.ireturn) 112 := (by decide +kernel : ps_i 131 111 = some (.ireturn, 112))
theorem e131 : ∀ v0 v1 v2 : Value, pm_ent 131 [v0, v1, v2] = [some v0, some v1, some v2, none, none, none, none, none] := fun _ _ _ => rfl
theorem l131 : 3 ≤ pm_mx 131 := by decide +kernel
theorem t131 : pm_ret 131 = (some .int) := by decide +kernel
theorem p132_0 : ps_la 132 0 0 1 := ⟨.aload_n 0, by decide +kernel, fun _ _ => rfl⟩
theorem p132_1 : ps_k 132 1 (Int32.ofNat 0) 2 := ⟨.iconst 0, by decide +kernel, fun _ _ => rfl⟩
theorem p132_2 : ps_pf 132 2 9 1 (.int) 5 := ⟨63, 33, by decide +kernel, by decide +kernel, by decide +kernel, by decide +kernel, by decide +kernel⟩
theorem p132_5 : ps_k 132 5 (-1 : Int32) 6 := ⟨.iconst (-1), by decide +kernel, fun _ _ => rfl⟩
theorem p132_6 : ps_si 132 6 2 7 := ⟨.istore_n 2, by decide +kernel, fun _ _ => rfl⟩
theorem p132_7 : ps_k 132 7 (Int32.ofNat 0) 8 := ⟨.iconst 0, by decide +kernel, fun _ _ => rfl⟩
theorem p132_8 : ps_si 132 8 3 9 := ⟨.istore_n 3, by decide +kernel, fun _ _ => rfl⟩
theorem p132_9 : ps_ld 132 9 3 10 := ⟨.iload_n 3, by decide +kernel, fun _ _ => rfl⟩
theorem p132_10 : ps_la 132 10 0 11 := ⟨.aload_n 0, by decide +kernel, fun _ _ => rfl⟩
theorem p132_11 : ps_gf 132 11 9 4 14 := ⟨73, 36, by decide +kernel, by decide +kernel, by decide +kernel⟩
theorem p132_14 : ps_j 132 14 .ge 71 17 := ⟨57, by decide +kernel, by decide +kernel, by decide +kernel⟩
theorem p132_17 : ps_la 132 17 0 18 := ⟨.aload_n 0, by decide +kernel, fun _ _ => rfl⟩
theorem p132_18 : ps_gf 132 18 9 20 21 := ⟨149, 52, by decide +kernel, by decide +kernel, by decide +kernel⟩
theorem p132_21 : ps_j0 132 21 .le 71 24 := ⟨50, by decide +kernel, by decide +kernel, by decide +kernel⟩
theorem p132_24 : ps_la 132 24 0 25 := ⟨.aload_n 0, by decide +kernel, fun _ _ => rfl⟩
theorem p132_25 : ps_gf 132 25 9 10 28 := ⟨25, 42, by decide +kernel, by decide +kernel, by decide +kernel⟩
theorem p132_28 : ps_ld 132 28 3 29 := ⟨.iload_n 3, by decide +kernel, fun _ _ => rfl⟩
theorem p132_29 : ps_pu 132 29 (.baload) 30 := (by decide +kernel : ps_i 132 29 = some (.baload, 30))
theorem p132_30 : ps_j0 132 30 .ne 47 33 := ⟨17, by decide +kernel, by decide +kernel, by decide +kernel⟩
theorem p132_33 : ps_la 132 33 0 34 := ⟨.aload_n 0, by decide +kernel, fun _ _ => rfl⟩
theorem p132_34 : ps_ld 132 34 3 35 := ⟨.iload_n 3, by decide +kernel, fun _ _ => rfl⟩
theorem p132_35 : ps_vV 132 35 9 128 1 38 := ⟨162, 128, by decide +kernel, by decide +kernel, by decide +kernel, by decide +kernel, by decide +kernel⟩
theorem p132_38 : ps_j0 132 38 .eq 47 41 := ⟨9, by decide +kernel, by decide +kernel, by decide +kernel⟩
theorem p132_41 : ps_ld 132 41 2 42 := ⟨.iload_n 2, by decide +kernel, fun _ _ => rfl⟩
theorem p132_42 : ps_k 132 42 (Int32.ofNat 1) 43 := ⟨.iconst 1, by decide +kernel, fun _ _ => rfl⟩
theorem p132_43 : ps_b 132 43 (· + ·) 44 := ⟨.iadd, by decide +kernel, fun _ _ => rfl⟩
theorem p132_44 : ps_jg 132 44 48 := ⟨(4), 47, by decide +kernel, by decide +kernel, by decide +kernel⟩
theorem p132_47 : ps_ld 132 47 2 48 := ⟨.iload_n 2, by decide +kernel, fun _ _ => rfl⟩
theorem p132_48 : ps_si 132 48 2 49 := ⟨.istore_n 2, by decide +kernel, fun _ _ => rfl⟩
theorem p132_49 : ps_ld 132 49 2 50 := ⟨.iload_n 2, by decide +kernel, fun _ _ => rfl⟩
theorem p132_50 : ps_ld 132 50 1 51 := ⟨.iload_n 1, by decide +kernel, fun _ _ => rfl⟩
theorem p132_51 : ps_j 132 51 .ne 65 54 := ⟨14, by decide +kernel, by decide +kernel, by decide +kernel⟩
theorem p132_54 : ps_ld 132 54 1 55 := ⟨.iload_n 1, by decide +kernel, fun _ _ => rfl⟩
theorem p132_55 : ps_j0 132 55 .lt 65 58 := ⟨10, by decide +kernel, by decide +kernel, by decide +kernel⟩
theorem p132_58 : ps_la 132 58 0 59 := ⟨.aload_n 0, by decide +kernel, fun _ _ => rfl⟩
theorem p132_59 : ps_gf 132 59 9 6 62 := ⟨13, 38, by decide +kernel, by decide +kernel, by decide +kernel⟩
theorem p132_62 : ps_ld 132 62 3 63 := ⟨.iload_n 3, by decide +kernel, fun _ _ => rfl⟩
theorem p132_63 : ps_pu 132 63 (.iaload) 64 := (by decide +kernel : ps_i 132 63 = some (.iaload, 64))
theorem p132_64 : ps_pu 132 64 (.ireturn) 65 := (by decide +kernel : ps_i 132 64 = some (.ireturn, 65))
theorem p132_65 : ps_pu 132 65 (.iinc 3 ((1 : Nat) : Int)) 68 := (by decide +kernel : ps_i 132 65 = some (.iinc 3 ((1 : Nat) : Int), 68))
theorem p132_68 : ps_jg 132 68 9 := ⟨(-59), 71, by decide +kernel, by decide +kernel, by decide +kernel⟩
theorem p132_71 : ps_la 132 71 0 72 := ⟨.aload_n 0, by decide +kernel, fun _ _ => rfl⟩
theorem p132_72 : ps_k 132 72 (Int32.ofNat 1) 73 := ⟨.iconst 1, by decide +kernel, fun _ _ => rfl⟩
theorem p132_73 : ps_vV 132 73 9 100 1 76 := ⟨66, 100, by decide +kernel, by decide +kernel, by decide +kernel, by decide +kernel, by decide +kernel⟩
theorem p132_76 : ps_pu 132 76 (.ireturn) 77 := (by decide +kernel : ps_i 132 76 = some (.ireturn, 77))
theorem e132 : ∀ v0 v1 : Value, pm_ent 132 [v0, v1] = [some v0, some v1, none, none] := fun _ _ => rfl
theorem l132 : 2 ≤ pm_mx 132 := by decide +kernel
theorem t132 : pm_ret 132 = (some .int) := by decide +kernel
theorem p133_0 : ps_la 133 0 0 1 := ⟨.aload_n 0, by decide +kernel, fun _ _ => rfl⟩
theorem p133_1 : ps_k 133 1 (Int32.ofNat 0) 2 := ⟨.iconst 0, by decide +kernel, fun _ _ => rfl⟩
theorem p133_2 : ps_pf 133 2 9 1 (.int) 5 := ⟨63, 33, by decide +kernel, by decide +kernel, by decide +kernel, by decide +kernel, by decide +kernel⟩
theorem p133_5 : ps_la 133 5 0 6 := ⟨.aload_n 0, by decide +kernel, fun _ _ => rfl⟩
theorem p133_6 : ps_gf 133 6 9 20 9 := ⟨149, 52, by decide +kernel, by decide +kernel, by decide +kernel⟩
theorem p133_9 : ps_j0 133 9 .ne 18 12 := ⟨9, by decide +kernel, by decide +kernel, by decide +kernel⟩
theorem p133_12 : ps_la 133 12 0 13 := ⟨.aload_n 0, by decide +kernel, fun _ _ => rfl⟩
theorem p133_13 : ps_k 133 13 (Int32.ofNat 1) 14 := ⟨.iconst 1, by decide +kernel, fun _ _ => rfl⟩
theorem p133_14 : ps_vV 133 14 9 100 1 17 := ⟨66, 100, by decide +kernel, by decide +kernel, by decide +kernel, by decide +kernel, by decide +kernel⟩
theorem p133_17 : ps_pu 133 17 (.ireturn) 18 := (by decide +kernel : ps_i 133 17 = some (.ireturn, 18))
theorem p133_18 : ps_k 133 18 (Int32.ofNat 0) 19 := ⟨.iconst 0, by decide +kernel, fun _ _ => rfl⟩
theorem p133_19 : ps_si 133 19 2 20 := ⟨.istore_n 2, by decide +kernel, fun _ _ => rfl⟩
theorem p133_20 : ps_ld 133 20 2 21 := ⟨.iload_n 2, by decide +kernel, fun _ _ => rfl⟩
theorem p133_21 : ps_la 133 21 0 22 := ⟨.aload_n 0, by decide +kernel, fun _ _ => rfl⟩
theorem p133_22 : ps_gf 133 22 9 4 25 := ⟨73, 36, by decide +kernel, by decide +kernel, by decide +kernel⟩
theorem p133_25 : ps_j 133 25 .ge 59 28 := ⟨34, by decide +kernel, by decide +kernel, by decide +kernel⟩
theorem p133_28 : ps_la 133 28 0 29 := ⟨.aload_n 0, by decide +kernel, fun _ _ => rfl⟩
theorem p133_29 : ps_gf 133 29 9 6 32 := ⟨13, 38, by decide +kernel, by decide +kernel, by decide +kernel⟩
theorem p133_32 : ps_ld 133 32 2 33 := ⟨.iload_n 2, by decide +kernel, fun _ _ => rfl⟩
theorem p133_33 : ps_pu 133 33 (.iaload) 34 := (by decide +kernel : ps_i 133 33 = some (.iaload, 34))
theorem p133_34 : ps_ld 133 34 1 35 := ⟨.iload_n 1, by decide +kernel, fun _ _ => rfl⟩
theorem p133_35 : ps_j 133 35 .ne 53 38 := ⟨18, by decide +kernel, by decide +kernel, by decide +kernel⟩
theorem p133_38 : ps_la 133 38 0 39 := ⟨.aload_n 0, by decide +kernel, fun _ _ => rfl⟩
theorem p133_39 : ps_gf 133 39 9 10 42 := ⟨25, 42, by decide +kernel, by decide +kernel, by decide +kernel⟩
theorem p133_42 : ps_ld 133 42 2 43 := ⟨.iload_n 2, by decide +kernel, fun _ _ => rfl⟩
theorem p133_43 : ps_pu 133 43 (.baload) 44 := (by decide +kernel : ps_i 133 43 = some (.baload, 44))
theorem p133_44 : ps_j0 133 44 .ne 53 47 := ⟨9, by decide +kernel, by decide +kernel, by decide +kernel⟩
theorem p133_47 : ps_la 133 47 0 48 := ⟨.aload_n 0, by decide +kernel, fun _ _ => rfl⟩
theorem p133_48 : ps_ld 133 48 2 49 := ⟨.iload_n 2, by decide +kernel, fun _ _ => rfl⟩
theorem p133_49 : ps_vV 133 49 9 128 1 52 := ⟨162, 128, by decide +kernel, by decide +kernel, by decide +kernel, by decide +kernel, by decide +kernel⟩
theorem p133_52 : ps_pu 133 52 (.ireturn) 53 := (by decide +kernel : ps_i 133 52 = some (.ireturn, 53))
theorem p133_53 : ps_pu 133 53 (.iinc 2 ((1 : Nat) : Int)) 56 := (by decide +kernel : ps_i 133 53 = some (.iinc 2 ((1 : Nat) : Int), 56))
theorem p133_56 : ps_jg 133 56 20 := ⟨(-36), 59, by decide +kernel, by decide +kernel, by decide +kernel⟩
theorem p133_59 : ps_k 133 59 (-2 : Int32) 61 := ⟨.bipush (-2), by decide +kernel, fun _ _ => rfl⟩
theorem p133_61 : ps_pu 133 61 (.ireturn) 62 := (by decide +kernel : ps_i 133 61 = some (.ireturn, 62))
theorem e133 : ∀ v0 v1 : Value, pm_ent 133 [v0, v1] = [some v0, some v1, none] := fun _ _ => rfl
theorem l133 : 2 ≤ pm_mx 133 := by decide +kernel
theorem t133 : pm_ret 133 = (some .int) := by decide +kernel
theorem p134_0 : ps_la 134 0 0 1 := ⟨.aload_n 0, by decide +kernel, fun _ _ => rfl⟩
theorem p134_1 : ps_k 134 1 (Int32.ofNat 0) 2 := ⟨.iconst 0, by decide +kernel, fun _ _ => rfl⟩
theorem p134_2 : ps_pf 134 2 9 1 (.int) 5 := ⟨63, 33, by decide +kernel, by decide +kernel, by decide +kernel, by decide +kernel, by decide +kernel⟩
theorem p134_5 : ps_k 134 5 (Int32.ofNat 0) 6 := ⟨.iconst 0, by decide +kernel, fun _ _ => rfl⟩
theorem p134_6 : ps_si 134 6 1 7 := ⟨.istore_n 1, by decide +kernel, fun _ _ => rfl⟩
theorem p134_7 : ps_k 134 7 (Int32.ofNat 0) 8 := ⟨.iconst 0, by decide +kernel, fun _ _ => rfl⟩
theorem p134_8 : ps_si 134 8 2 9 := ⟨.istore_n 2, by decide +kernel, fun _ _ => rfl⟩
theorem p134_9 : ps_ld 134 9 2 10 := ⟨.iload_n 2, by decide +kernel, fun _ _ => rfl⟩
theorem p134_10 : ps_la 134 10 0 11 := ⟨.aload_n 0, by decide +kernel, fun _ _ => rfl⟩
theorem p134_11 : ps_gf 134 11 9 4 14 := ⟨73, 36, by decide +kernel, by decide +kernel, by decide +kernel⟩
theorem p134_14 : ps_j 134 14 .ge 40 17 := ⟨26, by decide +kernel, by decide +kernel, by decide +kernel⟩
theorem p134_17 : ps_la 134 17 0 18 := ⟨.aload_n 0, by decide +kernel, fun _ _ => rfl⟩
theorem p134_18 : ps_gf 134 18 9 10 21 := ⟨25, 42, by decide +kernel, by decide +kernel, by decide +kernel⟩
theorem p134_21 : ps_ld 134 21 2 22 := ⟨.iload_n 2, by decide +kernel, fun _ _ => rfl⟩
theorem p134_22 : ps_pu 134 22 (.baload) 23 := (by decide +kernel : ps_i 134 22 = some (.baload, 23))
theorem p134_23 : ps_j0 134 23 .eq 30 26 := ⟨7, by decide +kernel, by decide +kernel, by decide +kernel⟩
theorem p134_26 : ps_ld 134 26 1 27 := ⟨.iload_n 1, by decide +kernel, fun _ _ => rfl⟩
theorem p134_27 : ps_jg 134 27 33 := ⟨(6), 30, by decide +kernel, by decide +kernel, by decide +kernel⟩
theorem p134_30 : ps_ld 134 30 1 31 := ⟨.iload_n 1, by decide +kernel, fun _ _ => rfl⟩
theorem p134_31 : ps_k 134 31 (Int32.ofNat 1) 32 := ⟨.iconst 1, by decide +kernel, fun _ _ => rfl⟩
theorem p134_32 : ps_b 134 32 (· + ·) 33 := ⟨.iadd, by decide +kernel, fun _ _ => rfl⟩
theorem p134_33 : ps_si 134 33 1 34 := ⟨.istore_n 1, by decide +kernel, fun _ _ => rfl⟩
theorem p134_34 : ps_pu 134 34 (.iinc 2 ((1 : Nat) : Int)) 37 := (by decide +kernel : ps_i 134 34 = some (.iinc 2 ((1 : Nat) : Int), 37))
theorem p134_37 : ps_jg 134 37 9 := ⟨(-28), 40, by decide +kernel, by decide +kernel, by decide +kernel⟩
theorem p134_40 : ps_ld 134 40 1 41 := ⟨.iload_n 1, by decide +kernel, fun _ _ => rfl⟩
theorem p134_41 : ps_pu 134 41 (.ireturn) 42 := (by decide +kernel : ps_i 134 41 = some (.ireturn, 42))
theorem e134 : ∀ v0 : Value, pm_ent 134 [v0] = [some v0, none, none] := fun _ => rfl
theorem l134 : 1 ≤ pm_mx 134 := by decide +kernel
theorem t134 : pm_ret 134 = (some .int) := by decide +kernel
theorem p135_0 : ps_la 135 0 0 1 := ⟨.aload_n 0, by decide +kernel, fun _ _ => rfl⟩
theorem p135_1 : ps_k 135 1 (Int32.ofNat 0) 2 := ⟨.iconst 0, by decide +kernel, fun _ _ => rfl⟩
theorem p135_2 : ps_pf 135 2 9 1 (.int) 5 := ⟨63, 33, by decide +kernel, by decide +kernel, by decide +kernel, by decide +kernel, by decide +kernel⟩
theorem p135_5 : ps_la 135 5 0 6 := ⟨.aload_n 0, by decide +kernel, fun _ _ => rfl⟩
theorem p135_6 : ps_gf 135 6 9 5 9 := ⟨76, 37, by decide +kernel, by decide +kernel, by decide +kernel⟩
theorem p135_9 : ps_pu 135 9 (.ireturn) 10 := (by decide +kernel : ps_i 135 9 = some (.ireturn, 10))
theorem e135 : ∀ v0 : Value, pm_ent 135 [v0] = [some v0] := fun _ => rfl
theorem l135 : 1 ≤ pm_mx 135 := by decide +kernel
theorem t135 : pm_ret 135 = (some .int) := by decide +kernel
theorem p136_0 : ps_la 136 0 0 1 := ⟨.aload_n 0, by decide +kernel, fun _ _ => rfl⟩
theorem p136_1 : ps_k 136 1 (Int32.ofNat 0) 2 := ⟨.iconst 0, by decide +kernel, fun _ _ => rfl⟩
theorem p136_2 : ps_pf 136 2 9 1 (.int) 5 := ⟨63, 33, by decide +kernel, by decide +kernel, by decide +kernel, by decide +kernel, by decide +kernel⟩
theorem p136_5 : ps_la 136 5 0 6 := ⟨.aload_n 0, by decide +kernel, fun _ _ => rfl⟩
theorem p136_6 : ps_gf 136 6 9 13 9 := ⟨108, 45, by decide +kernel, by decide +kernel, by decide +kernel⟩
theorem p136_9 : ps_pu 136 9 (.ireturn) 10 := (by decide +kernel : ps_i 136 9 = some (.ireturn, 10))
theorem e136 : ∀ v0 : Value, pm_ent 136 [v0] = [some v0] := fun _ => rfl
theorem l136 : 1 ≤ pm_mx 136 := by decide +kernel
theorem t136 : pm_ret 136 = (some .int) := by decide +kernel
theorem p137_0 : ps_la 137 0 0 1 := ⟨.aload_n 0, by decide +kernel, fun _ _ => rfl⟩
theorem p137_1 : ps_k 137 1 (Int32.ofNat 0) 2 := ⟨.iconst 0, by decide +kernel, fun _ _ => rfl⟩
theorem p137_2 : ps_pf 137 2 9 1 (.int) 5 := ⟨63, 33, by decide +kernel, by decide +kernel, by decide +kernel, by decide +kernel, by decide +kernel⟩
theorem p137_5 : ps_la 137 5 0 6 := ⟨.aload_n 0, by decide +kernel, fun _ _ => rfl⟩
theorem p137_6 : ps_ld 137 6 1 7 := ⟨.iload_n 1, by decide +kernel, fun _ _ => rfl⟩
theorem p137_7 : ps_vV 137 7 9 138 1 10 := ⟨165, 138, by decide +kernel, by decide +kernel, by decide +kernel, by decide +kernel, by decide +kernel⟩
theorem p137_10 : ps_j0 137 10 .eq 20 13 := ⟨10, by decide +kernel, by decide +kernel, by decide +kernel⟩
theorem p137_13 : ps_la 137 13 0 14 := ⟨.aload_n 0, by decide +kernel, fun _ _ => rfl⟩
theorem p137_14 : ps_gf 137 14 9 19 17 := ⟨83, 51, by decide +kernel, by decide +kernel, by decide +kernel⟩
theorem p137_17 : ps_jg 137 17 22 := ⟨(5), 20, by decide +kernel, by decide +kernel, by decide +kernel⟩
theorem p137_20 : ps_k 137 20 (-2 : Int32) 22 := ⟨.bipush (-2), by decide +kernel, fun _ _ => rfl⟩
theorem p137_22 : ps_pu 137 22 (.ireturn) 23 := (by decide +kernel : ps_i 137 22 = some (.ireturn, 23))
theorem e137 : ∀ v0 v1 : Value, pm_ent 137 [v0, v1] = [some v0, some v1] := fun _ _ => rfl
theorem l137 : 2 ≤ pm_mx 137 := by decide +kernel
theorem t137 : pm_ret 137 = (some .int) := by decide +kernel
theorem p138_0 : ps_ld 138 0 1 1 := ⟨.iload_n 1, by decide +kernel, fun _ _ => rfl⟩
theorem p138_1 : ps_k 138 1 (-1 : Int32) 2 := ⟨.iconst (-1), by decide +kernel, fun _ _ => rfl⟩
theorem p138_2 : ps_j 138 2 .lt 13 5 := ⟨11, by decide +kernel, by decide +kernel, by decide +kernel⟩
theorem p138_5 : ps_ld 138 5 1 6 := ⟨.iload_n 1, by decide +kernel, fun _ _ => rfl⟩
theorem p138_6 : ps_la 138 6 0 7 := ⟨.aload_n 0, by decide +kernel, fun _ _ => rfl⟩
theorem p138_7 : ps_gf 138 7 9 13 10 := ⟨108, 45, by decide +kernel, by decide +kernel, by decide +kernel⟩
theorem p138_10 : ps_j 138 10 .lt 15 13 := ⟨5, by decide +kernel, by decide +kernel, by decide +kernel⟩
theorem p138_13 : ps_k 138 13 (Int32.ofNat 0) 14 := ⟨.iconst 0, by decide +kernel, fun _ _ => rfl⟩
theorem p138_14 : ps_pu 138 14 (.ireturn) 15 := (by decide +kernel : ps_i 138 14 = some (.ireturn, 15))
theorem p138_15 : ps_ld 138 15 1 16 := ⟨.iload_n 1, by decide +kernel, fun _ _ => rfl⟩
theorem p138_16 : ps_j0 138 16 .ge 26 19 := ⟨10, by decide +kernel, by decide +kernel, by decide +kernel⟩
theorem p138_19 : ps_la 138 19 0 20 := ⟨.aload_n 0, by decide +kernel, fun _ _ => rfl⟩
theorem p138_20 : ps_vV 138 20 9 106 0 23 := ⟨115, 106, by decide +kernel, by decide +kernel, by decide +kernel, by decide +kernel, by decide +kernel⟩
theorem p138_23 : ps_jg 138 23 35 := ⟨(12), 26, by decide +kernel, by decide +kernel, by decide +kernel⟩
theorem p138_26 : ps_la 138 26 0 27 := ⟨.aload_n 0, by decide +kernel, fun _ _ => rfl⟩
theorem p138_27 : ps_ld 138 27 1 28 := ⟨.iload_n 1, by decide +kernel, fun _ _ => rfl⟩
theorem p138_28 : ps_vV 138 28 9 110 1 31 := ⟨118, 110, by decide +kernel, by decide +kernel, by decide +kernel, by decide +kernel, by decide +kernel⟩
theorem p138_31 : ps_la 138 31 0 32 := ⟨.aload_n 0, by decide +kernel, fun _ _ => rfl⟩
theorem p138_32 : ps_vV 138 32 9 111 0 35 := ⟨121, 111, by decide +kernel, by decide +kernel, by decide +kernel, by decide +kernel, by decide +kernel⟩
theorem p138_35 : ps_k 138 35 (Int32.ofNat 1) 36 := ⟨.iconst 1, by decide +kernel, fun _ _ => rfl⟩
theorem p138_36 : ps_pu 138 36 (.ireturn) 37 := (by decide +kernel : ps_i 138 36 = some (.ireturn, 37))
theorem e138 : ∀ v0 v1 : Value, pm_ent 138 [v0, v1] = [some v0, some v1] := fun _ _ => rfl
theorem l138 : 2 ≤ pm_mx 138 := by decide +kernel
theorem t138 : pm_ret 138 = (some .boolean) := by decide +kernel
theorem p139_0 : ps_la 139 0 0 1 := ⟨.aload_n 0, by decide +kernel, fun _ _ => rfl⟩
theorem p139_1 : ps_k 139 1 (Int32.ofNat 0) 2 := ⟨.iconst 0, by decide +kernel, fun _ _ => rfl⟩
theorem p139_2 : ps_pf 139 2 9 1 (.int) 5 := ⟨63, 33, by decide +kernel, by decide +kernel, by decide +kernel, by decide +kernel, by decide +kernel⟩
theorem p139_5 : ps_la 139 5 0 6 := ⟨.aload_n 0, by decide +kernel, fun _ _ => rfl⟩
theorem p139_6 : ps_ld 139 6 1 7 := ⟨.iload_n 1, by decide +kernel, fun _ _ => rfl⟩
theorem p139_7 : ps_vV 139 7 9 138 1 10 := ⟨165, 138, by decide +kernel, by decide +kernel, by decide +kernel, by decide +kernel, by decide +kernel⟩
theorem p139_10 : ps_j0 139 10 .eq 34 13 := ⟨24, by decide +kernel, by decide +kernel, by decide +kernel⟩
theorem p139_13 : ps_ld 139 13 2 14 := ⟨.iload_n 2, by decide +kernel, fun _ _ => rfl⟩
theorem p139_14 : ps_j0 139 14 .lt 34 17 := ⟨20, by decide +kernel, by decide +kernel, by decide +kernel⟩
theorem p139_17 : ps_ld 139 17 2 18 := ⟨.iload_n 2, by decide +kernel, fun _ _ => rfl⟩
theorem p139_18 : ps_la 139 18 0 19 := ⟨.aload_n 0, by decide +kernel, fun _ _ => rfl⟩
theorem p139_19 : ps_gf 139 19 9 19 22 := ⟨83, 51, by decide +kernel, by decide +kernel, by decide +kernel⟩
theorem p139_22 : ps_j 139 22 .ge 34 25 := ⟨12, by decide +kernel, by decide +kernel, by decide +kernel⟩
theorem p139_25 : ps_la 139 25 0 26 := ⟨.aload_n 0, by decide +kernel, fun _ _ => rfl⟩
theorem p139_26 : ps_gf 139 26 9 18 29 := ⟨45, 50, by decide +kernel, by decide +kernel, by decide +kernel⟩
theorem p139_29 : ps_ld 139 29 2 30 := ⟨.iload_n 2, by decide +kernel, fun _ _ => rfl⟩
theorem p139_30 : ps_pu 139 30 (.iaload) 31 := (by decide +kernel : ps_i 139 30 = some (.iaload, 31))
theorem p139_31 : ps_jg 139 31 36 := ⟨(5), 34, by decide +kernel, by decide +kernel, by decide +kernel⟩
theorem p139_34 : ps_k 139 34 (-2 : Int32) 36 := ⟨.bipush (-2), by decide +kernel, fun _ _ => rfl⟩
theorem p139_36 : ps_pu 139 36 (.ireturn) 37 := (by decide +kernel : ps_i 139 36 = some (.ireturn, 37))
theorem e139 : ∀ v0 v1 v2 : Value, pm_ent 139 [v0, v1, v2] = [some v0, some v1, some v2] := fun _ _ _ => rfl
theorem l139 : 3 ≤ pm_mx 139 := by decide +kernel
theorem t139 : pm_ret 139 = (some .int) := by decide +kernel
