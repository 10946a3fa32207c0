/-! The instructions are those of the bytes: a row a method. -/
def pm_dok (q : pm_MT) : Prop := ∀ r ∈ q.2.2.2.2.2.2.1, decode q.2.1 r.1 = .ok (r.2.1, r.2.2) ∧ (pm_len r.2.1).getD r.2.2 = r.2.2
theorem pm_d0 : pm_dok pm_m0 := by unfold pm_dok; decide +kernel
theorem pm_d1 : pm_dok pm_m1 := by unfold pm_dok; decide +kernel
theorem pm_d2 : pm_dok pm_m2 := by unfold pm_dok; decide +kernel
theorem pm_d3 : pm_dok pm_m3 := by unfold pm_dok; decide +kernel
theorem pm_d4 : pm_dok pm_m4 := by unfold pm_dok; decide +kernel
theorem pm_d5 : pm_dok pm_m5 := by unfold pm_dok; decide +kernel
theorem pm_d6 : pm_dok pm_m6 := by unfold pm_dok; decide +kernel
theorem pm_d7 : pm_dok pm_m7 := by unfold pm_dok; decide +kernel
theorem pm_d8 : pm_dok pm_m8 := by unfold pm_dok; decide +kernel
theorem pm_d9 : pm_dok pm_m9 := by unfold pm_dok; decide +kernel
theorem pm_d10 : pm_dok pm_m10 := by unfold pm_dok; decide +kernel
theorem pm_d11 : pm_dok pm_m11 := by unfold pm_dok; decide +kernel
theorem pm_d12 : pm_dok pm_m12 := by unfold pm_dok; decide +kernel
theorem pm_d13 : pm_dok pm_m13 := by unfold pm_dok; decide +kernel
theorem pm_d14 : pm_dok pm_m14 := by unfold pm_dok; decide +kernel
theorem pm_d15 : pm_dok pm_m15 := by unfold pm_dok; decide +kernel
theorem pm_d16 : pm_dok pm_m16 := by unfold pm_dok; decide +kernel
theorem pm_d17 : pm_dok pm_m17 := by unfold pm_dok; decide +kernel
theorem pm_d18 : pm_dok pm_m18 := by unfold pm_dok; decide +kernel
theorem pm_d19 : pm_dok pm_m19 := by unfold pm_dok; decide +kernel
theorem pm_d20 : pm_dok pm_m20 := by unfold pm_dok; decide +kernel
theorem pm_d21 : pm_dok pm_m21 := by unfold pm_dok; decide +kernel
theorem pm_d22 : pm_dok pm_m22 := by unfold pm_dok; decide +kernel
theorem pm_d23 : pm_dok pm_m23 := by unfold pm_dok; decide +kernel
theorem pm_d24 : pm_dok pm_m24 := by unfold pm_dok; decide +kernel
theorem pm_d25 : pm_dok pm_m25 := by unfold pm_dok; decide +kernel
theorem pm_d26 : pm_dok pm_m26 := by unfold pm_dok; decide +kernel
theorem pm_d27 : pm_dok pm_m27 := by unfold pm_dok; decide +kernel
theorem pm_d28 : pm_dok pm_m28 := by unfold pm_dok; decide +kernel
theorem pm_d29 : pm_dok pm_m29 := by unfold pm_dok; decide +kernel
theorem pm_d30 : pm_dok pm_m30 := by unfold pm_dok; decide +kernel
theorem pm_d31 : pm_dok pm_m31 := by unfold pm_dok; decide +kernel
theorem pm_d32 : pm_dok pm_m32 := by unfold pm_dok; decide +kernel
theorem pm_d33 : pm_dok pm_m33 := by unfold pm_dok; decide +kernel
theorem pm_d34 : pm_dok pm_m34 := by unfold pm_dok; decide +kernel
theorem pm_d35 : pm_dok pm_m35 := by unfold pm_dok; decide +kernel
theorem pm_d36 : pm_dok pm_m36 := by unfold pm_dok; decide +kernel
theorem pm_d37 : pm_dok pm_m37 := by unfold pm_dok; decide +kernel
theorem pm_d38 : pm_dok pm_m38 := by unfold pm_dok; decide +kernel
theorem pm_d39 : pm_dok pm_m39 := by unfold pm_dok; decide +kernel
theorem pm_d40 : pm_dok pm_m40 := by unfold pm_dok; decide +kernel
theorem pm_d41 : pm_dok pm_m41 := by unfold pm_dok; decide +kernel
theorem pm_d42 : pm_dok pm_m42 := by unfold pm_dok; decide +kernel
theorem pm_d43 : pm_dok pm_m43 := by unfold pm_dok; decide +kernel
theorem pm_d44 : pm_dok pm_m44 := by unfold pm_dok; decide +kernel
theorem pm_d45 : pm_dok pm_m45 := by unfold pm_dok; decide +kernel
theorem pm_d46 : pm_dok pm_m46 := by unfold pm_dok; decide +kernel
theorem pm_d47 : pm_dok pm_m47 := by unfold pm_dok; decide +kernel
theorem pm_d48 : pm_dok pm_m48 := by unfold pm_dok; decide +kernel
theorem pm_d49 : pm_dok pm_m49 := by unfold pm_dok; decide +kernel
theorem pm_d50 : pm_dok pm_m50 := by unfold pm_dok; decide +kernel
theorem pm_d51 : pm_dok pm_m51 := by unfold pm_dok; decide +kernel
theorem pm_d52 : pm_dok pm_m52 := by unfold pm_dok; decide +kernel
theorem pm_d53 : pm_dok pm_m53 := by unfold pm_dok; decide +kernel
theorem pm_d54 : pm_dok pm_m54 := by unfold pm_dok; decide +kernel
theorem pm_d55 : pm_dok pm_m55 := by unfold pm_dok; decide +kernel
theorem pm_d56 : pm_dok pm_m56 := by unfold pm_dok; decide +kernel
theorem pm_d57 : pm_dok pm_m57 := by unfold pm_dok; decide +kernel
theorem pm_d58 : pm_dok pm_m58 := by unfold pm_dok; decide +kernel
theorem pm_d59 : pm_dok pm_m59 := by unfold pm_dok; decide +kernel
theorem pm_d60 : pm_dok pm_m60 := by unfold pm_dok; decide +kernel
theorem pm_d61 : pm_dok pm_m61 := by unfold pm_dok; decide +kernel
theorem pm_d62 : pm_dok pm_m62 := by unfold pm_dok; decide +kernel
theorem pm_d63 : pm_dok pm_m63 := by unfold pm_dok; decide +kernel
theorem pm_d64 : pm_dok pm_m64 := by unfold pm_dok; decide +kernel
theorem pm_d65 : pm_dok pm_m65 := by unfold pm_dok; decide +kernel
theorem pm_d66 : pm_dok pm_m66 := by unfold pm_dok; decide +kernel
theorem pm_d67 : pm_dok pm_m67 := by unfold pm_dok; decide +kernel
theorem pm_d68 : pm_dok pm_m68 := by unfold pm_dok; decide +kernel
theorem pm_d69 : pm_dok pm_m69 := by unfold pm_dok; decide +kernel
theorem pm_d70 : pm_dok pm_m70 := by unfold pm_dok; decide +kernel
theorem pm_d71 : pm_dok pm_m71 := by unfold pm_dok; decide +kernel
theorem pm_d72 : pm_dok pm_m72 := by unfold pm_dok; decide +kernel
theorem pm_d73 : pm_dok pm_m73 := by unfold pm_dok; decide +kernel
theorem pm_d74 : pm_dok pm_m74 := by unfold pm_dok; decide +kernel
theorem pm_d75 : pm_dok pm_m75 := by unfold pm_dok; decide +kernel
theorem pm_d76 : pm_dok pm_m76 := by unfold pm_dok; decide +kernel
theorem pm_d77 : pm_dok pm_m77 := by unfold pm_dok; decide +kernel
theorem pm_d78 : pm_dok pm_m78 := by unfold pm_dok; decide +kernel
theorem pm_d79 : pm_dok pm_m79 := by unfold pm_dok; decide +kernel
theorem pm_d80 : pm_dok pm_m80 := by unfold pm_dok; decide +kernel
theorem pm_d81 : pm_dok pm_m81 := by unfold pm_dok; decide +kernel
theorem pm_d82 : pm_dok pm_m82 := by unfold pm_dok; decide +kernel
theorem pm_d83 : pm_dok pm_m83 := by unfold pm_dok; decide +kernel
theorem pm_d84 : pm_dok pm_m84 := by unfold pm_dok; decide +kernel
theorem pm_d85 : pm_dok pm_m85 := by unfold pm_dok; decide +kernel
theorem pm_d86 : pm_dok pm_m86 := by unfold pm_dok; decide +kernel
theorem pm_d87 : pm_dok pm_m87 := by unfold pm_dok; decide +kernel
theorem pm_d88 : pm_dok pm_m88 := by unfold pm_dok; decide +kernel
theorem pm_d89 : pm_dok pm_m89 := by unfold pm_dok; decide +kernel
theorem pm_d90 : pm_dok pm_m90 := by unfold pm_dok; decide +kernel
theorem pm_d91 : pm_dok pm_m91 := by unfold pm_dok; decide +kernel
theorem pm_d92 : pm_dok pm_m92 := by unfold pm_dok; decide +kernel
theorem pm_d93 : pm_dok pm_m93 := by unfold pm_dok; decide +kernel
theorem pm_d94 : pm_dok pm_m94 := by unfold pm_dok; decide +kernel
theorem pm_d95 : pm_dok pm_m95 := by unfold pm_dok; decide +kernel
theorem pm_d96 : pm_dok pm_m96 := by unfold pm_dok; decide +kernel
theorem pm_d97 : pm_dok pm_m97 := by unfold pm_dok; decide +kernel
theorem pm_d98 : pm_dok pm_m98 := by unfold pm_dok; decide +kernel
theorem pm_d99 : pm_dok pm_m99 := by unfold pm_dok; decide +kernel
theorem pm_d100 : pm_dok pm_m100 := by unfold pm_dok; decide +kernel
theorem pm_d101 : pm_dok pm_m101 := by unfold pm_dok; decide +kernel
theorem pm_d102 : pm_dok pm_m102 := by unfold pm_dok; decide +kernel
theorem pm_d103 : pm_dok pm_m103 := by unfold pm_dok; decide +kernel
theorem pm_d104 : pm_dok pm_m104 := by unfold pm_dok; decide +kernel
theorem pm_d105 : pm_dok pm_m105 := by unfold pm_dok; decide +kernel
theorem pm_d106 : pm_dok pm_m106 := by unfold pm_dok; decide +kernel
theorem pm_d107 : pm_dok pm_m107 := by unfold pm_dok; decide +kernel
theorem pm_d108 : pm_dok pm_m108 := by unfold pm_dok; decide +kernel
theorem pm_d109 : pm_dok pm_m109 := by unfold pm_dok; decide +kernel
theorem pm_d110 : pm_dok pm_m110 := by unfold pm_dok; decide +kernel
theorem pm_d111 : pm_dok pm_m111 := by unfold pm_dok; decide +kernel
theorem pm_d112 : pm_dok pm_m112 := by unfold pm_dok; decide +kernel
theorem pm_d113 : pm_dok pm_m113 := by unfold pm_dok; decide +kernel
theorem pm_d114 : pm_dok pm_m114 := by unfold pm_dok; decide +kernel
theorem pm_d115 : pm_dok pm_m115 := by unfold pm_dok; decide +kernel
theorem pm_d116_0 : ∀ r ∈ pm_m116_0, decode prog_11_method_24_code r.1 = .ok (r.2.1, r.2.2) ∧ (pm_len r.2.1).getD r.2.2 = r.2.2 := by decide +kernel
theorem pm_d116_1 : ∀ r ∈ pm_m116_1, decode prog_11_method_24_code r.1 = .ok (r.2.1, r.2.2) ∧ (pm_len r.2.1).getD r.2.2 = r.2.2 := by decide +kernel
theorem pm_d116_2 : ∀ r ∈ pm_m116_2, decode prog_11_method_24_code r.1 = .ok (r.2.1, r.2.2) ∧ (pm_len r.2.1).getD r.2.2 = r.2.2 := by decide +kernel
theorem pm_d116_3 : ∀ r ∈ pm_m116_3, decode prog_11_method_24_code r.1 = .ok (r.2.1, r.2.2) ∧ (pm_len r.2.1).getD r.2.2 = r.2.2 := by decide +kernel
theorem pm_d116 : pm_dok pm_m116 := List.forall_mem_append.mpr ⟨pm_d116_0, List.forall_mem_append.mpr ⟨pm_d116_1, List.forall_mem_append.mpr ⟨pm_d116_2, pm_d116_3⟩⟩⟩
theorem pm_d117 : pm_dok pm_m117 := by unfold pm_dok; decide +kernel
theorem pm_d118 : pm_dok pm_m118 := by unfold pm_dok; decide +kernel
theorem pm_d119 : pm_dok pm_m119 := by unfold pm_dok; decide +kernel
theorem pm_d120 : pm_dok pm_m120 := by unfold pm_dok; decide +kernel
theorem pm_d121 : pm_dok pm_m121 := by unfold pm_dok; decide +kernel
theorem pm_d122_0 : ∀ r ∈ pm_m122_0, decode prog_11_method_26_code r.1 = .ok (r.2.1, r.2.2) ∧ (pm_len r.2.1).getD r.2.2 = r.2.2 := by decide +kernel
theorem pm_d122_1 : ∀ r ∈ pm_m122_1, decode prog_11_method_26_code r.1 = .ok (r.2.1, r.2.2) ∧ (pm_len r.2.1).getD r.2.2 = r.2.2 := by decide +kernel
theorem pm_d122_2 : ∀ r ∈ pm_m122_2, decode prog_11_method_26_code r.1 = .ok (r.2.1, r.2.2) ∧ (pm_len r.2.1).getD r.2.2 = r.2.2 := by decide +kernel
theorem pm_d122_3 : ∀ r ∈ pm_m122_3, decode prog_11_method_26_code r.1 = .ok (r.2.1, r.2.2) ∧ (pm_len r.2.1).getD r.2.2 = r.2.2 := by decide +kernel
theorem pm_d122 : pm_dok pm_m122 := List.forall_mem_append.mpr ⟨pm_d122_0, List.forall_mem_append.mpr ⟨pm_d122_1, List.forall_mem_append.mpr ⟨pm_d122_2, pm_d122_3⟩⟩⟩
theorem pm_d123 : pm_dok pm_m123 := by unfold pm_dok; decide +kernel
theorem pm_d124 : pm_dok pm_m124 := by unfold pm_dok; decide +kernel
theorem pm_d125_0 : ∀ r ∈ pm_m125_0, decode prog_11_method_29_code r.1 = .ok (r.2.1, r.2.2) ∧ (pm_len r.2.1).getD r.2.2 = r.2.2 := by decide +kernel
theorem pm_d125_1 : ∀ r ∈ pm_m125_1, decode prog_11_method_29_code r.1 = .ok (r.2.1, r.2.2) ∧ (pm_len r.2.1).getD r.2.2 = r.2.2 := by decide +kernel
theorem pm_d125_2 : ∀ r ∈ pm_m125_2, decode prog_11_method_29_code r.1 = .ok (r.2.1, r.2.2) ∧ (pm_len r.2.1).getD r.2.2 = r.2.2 := by decide +kernel
theorem pm_d125_3 : ∀ r ∈ pm_m125_3, decode prog_11_method_29_code r.1 = .ok (r.2.1, r.2.2) ∧ (pm_len r.2.1).getD r.2.2 = r.2.2 := by decide +kernel
theorem pm_d125 : pm_dok pm_m125 := List.forall_mem_append.mpr ⟨pm_d125_0, List.forall_mem_append.mpr ⟨pm_d125_1, List.forall_mem_append.mpr ⟨pm_d125_2, pm_d125_3⟩⟩⟩
theorem pm_d126 : pm_dok pm_m126 := by unfold pm_dok; decide +kernel
theorem pm_d127 : pm_dok pm_m127 := by unfold pm_dok; decide +kernel
theorem pm_d128 : pm_dok pm_m128 := by unfold pm_dok; decide +kernel
theorem pm_d129 : pm_dok pm_m129 := by unfold pm_dok; decide +kernel
theorem pm_d130 : pm_dok pm_m130 := by unfold pm_dok; decide +kernel
theorem pm_d131 : pm_dok pm_m131 := by unfold pm_dok; decide +kernel
theorem pm_d132 : pm_dok pm_m132 := by unfold pm_dok; decide +kernel
theorem pm_d133 : pm_dok pm_m133 := by unfold pm_dok; decide +kernel
theorem pm_d134 : pm_dok pm_m134 := by unfold pm_dok; decide +kernel
theorem pm_d135 : pm_dok pm_m135 := by unfold pm_dok; decide +kernel
theorem pm_d136 : pm_dok pm_m136 := by unfold pm_dok; decide +kernel
theorem pm_d137 : pm_dok pm_m137 := by unfold pm_dok; decide +kernel
theorem pm_d138 : pm_dok pm_m138 := by unfold pm_dok; decide +kernel
theorem pm_d139 : pm_dok pm_m139 := by unfold pm_dok; decide +kernel
theorem pm_d140_0 : ∀ r ∈ pm_m140_0, decode code r.1 = .ok (r.2.1, r.2.2) ∧ (pm_len r.2.1).getD r.2.2 = r.2.2 := by decide +kernel
theorem pm_d140_1 : ∀ r ∈ pm_m140_1, decode code r.1 = .ok (r.2.1, r.2.2) ∧ (pm_len r.2.1).getD r.2.2 = r.2.2 := by decide +kernel
theorem pm_d140_2 : ∀ r ∈ pm_m140_2, decode code r.1 = .ok (r.2.1, r.2.2) ∧ (pm_len r.2.1).getD r.2.2 = r.2.2 := by decide +kernel
theorem pm_d140_3 : ∀ r ∈ pm_m140_3, decode code r.1 = .ok (r.2.1, r.2.2) ∧ (pm_len r.2.1).getD r.2.2 = r.2.2 := by decide +kernel
theorem pm_d140_4 : ∀ r ∈ pm_m140_4, decode code r.1 = .ok (r.2.1, r.2.2) ∧ (pm_len r.2.1).getD r.2.2 = r.2.2 := by decide +kernel
theorem pm_d140_5 : ∀ r ∈ pm_m140_5, decode code r.1 = .ok (r.2.1, r.2.2) ∧ (pm_len r.2.1).getD r.2.2 = r.2.2 := by decide +kernel
theorem pm_d140_6 : ∀ r ∈ pm_m140_6, decode code r.1 = .ok (r.2.1, r.2.2) ∧ (pm_len r.2.1).getD r.2.2 = r.2.2 := by decide +kernel
theorem pm_d140_7 : ∀ r ∈ pm_m140_7, decode code r.1 = .ok (r.2.1, r.2.2) ∧ (pm_len r.2.1).getD r.2.2 = r.2.2 := by decide +kernel
theorem pm_d140_8 : ∀ r ∈ pm_m140_8, decode code r.1 = .ok (r.2.1, r.2.2) ∧ (pm_len r.2.1).getD r.2.2 = r.2.2 := by decide +kernel
theorem pm_d140_9 : ∀ r ∈ pm_m140_9, decode code r.1 = .ok (r.2.1, r.2.2) ∧ (pm_len r.2.1).getD r.2.2 = r.2.2 := by decide +kernel
theorem pm_d140_10 : ∀ r ∈ pm_m140_10, decode code r.1 = .ok (r.2.1, r.2.2) ∧ (pm_len r.2.1).getD r.2.2 = r.2.2 := by decide +kernel
theorem pm_d140_11 : ∀ r ∈ pm_m140_11, decode code r.1 = .ok (r.2.1, r.2.2) ∧ (pm_len r.2.1).getD r.2.2 = r.2.2 := by decide +kernel
theorem pm_d140 : pm_dok pm_m140 := List.forall_mem_append.mpr ⟨pm_d140_0, List.forall_mem_append.mpr ⟨pm_d140_1, List.forall_mem_append.mpr ⟨pm_d140_2, List.forall_mem_append.mpr ⟨pm_d140_3, List.forall_mem_append.mpr ⟨pm_d140_4, List.forall_mem_append.mpr ⟨pm_d140_5, List.forall_mem_append.mpr ⟨pm_d140_6, List.forall_mem_append.mpr ⟨pm_d140_7, List.forall_mem_append.mpr ⟨pm_d140_8, List.forall_mem_append.mpr ⟨pm_d140_9, List.forall_mem_append.mpr ⟨pm_d140_10, pm_d140_11⟩⟩⟩⟩⟩⟩⟩⟩⟩⟩⟩
theorem pm_dall : ∀ q ∈ pm_M, pm_dok q := List.forall_mem_cons.mpr ⟨pm_d0, List.forall_mem_cons.mpr ⟨pm_d1, List.forall_mem_cons.mpr ⟨pm_d2, List.forall_mem_cons.mpr ⟨pm_d3, List.forall_mem_cons.mpr ⟨pm_d4, List.forall_mem_cons.mpr ⟨pm_d5, List.forall_mem_cons.mpr ⟨pm_d6, List.forall_mem_cons.mpr ⟨pm_d7, List.forall_mem_cons.mpr ⟨pm_d8, List.forall_mem_cons.mpr ⟨pm_d9, List.forall_mem_cons.mpr ⟨pm_d10, List.forall_mem_cons.mpr ⟨pm_d11, List.forall_mem_cons.mpr ⟨pm_d12, List.forall_mem_cons.mpr ⟨pm_d13, List.forall_mem_cons.mpr ⟨pm_d14, List.forall_mem_cons.mpr ⟨pm_d15, List.forall_mem_cons.mpr ⟨pm_d16, List.forall_mem_cons.mpr ⟨pm_d17, List.forall_mem_cons.mpr ⟨pm_d18, List.forall_mem_cons.mpr ⟨pm_d19, List.forall_mem_cons.mpr ⟨pm_d20, List.forall_mem_cons.mpr ⟨pm_d21, List.forall_mem_cons.mpr ⟨pm_d22, List.forall_mem_cons.mpr ⟨pm_d23, List.forall_mem_cons.mpr ⟨pm_d24, List.forall_mem_cons.mpr ⟨pm_d25, List.forall_mem_cons.mpr ⟨pm_d26, List.forall_mem_cons.mpr ⟨pm_d27, List.forall_mem_cons.mpr ⟨pm_d28, List.forall_mem_cons.mpr ⟨pm_d29, List.forall_mem_cons.mpr ⟨pm_d30, List.forall_mem_cons.mpr ⟨pm_d31, List.forall_mem_cons.mpr ⟨pm_d32, List.forall_mem_cons.mpr ⟨pm_d33, List.forall_mem_cons.mpr ⟨pm_d34, List.forall_mem_cons.mpr ⟨pm_d35, List.forall_mem_cons.mpr ⟨pm_d36, List.forall_mem_cons.mpr ⟨pm_d37, List.forall_mem_cons.mpr ⟨pm_d38, List.forall_mem_cons.mpr ⟨pm_d39, List.forall_mem_cons.mpr ⟨pm_d40, List.forall_mem_cons.mpr ⟨pm_d41, List.forall_mem_cons.mpr ⟨pm_d42, List.forall_mem_cons.mpr ⟨pm_d43, List.forall_mem_cons.mpr ⟨pm_d44, List.forall_mem_cons.mpr ⟨pm_d45, List.forall_mem_cons.mpr ⟨pm_d46, List.forall_mem_cons.mpr ⟨pm_d47, List.forall_mem_cons.mpr ⟨pm_d48, List.forall_mem_cons.mpr ⟨pm_d49, List.forall_mem_cons.mpr ⟨pm_d50, List.forall_mem_cons.mpr ⟨pm_d51, List.forall_mem_cons.mpr ⟨pm_d52, List.forall_mem_cons.mpr ⟨pm_d53, List.forall_mem_cons.mpr ⟨pm_d54, List.forall_mem_cons.mpr ⟨pm_d55, List.forall_mem_cons.mpr ⟨pm_d56, List.forall_mem_cons.mpr ⟨pm_d57, List.forall_mem_cons.mpr ⟨pm_d58, List.forall_mem_cons.mpr ⟨pm_d59, List.forall_mem_cons.mpr ⟨pm_d60, List.forall_mem_cons.mpr ⟨pm_d61, List.forall_mem_cons.mpr ⟨pm_d62, List.forall_mem_cons.mpr ⟨pm_d63, List.forall_mem_cons.mpr ⟨pm_d64, List.forall_mem_cons.mpr ⟨pm_d65, List.forall_mem_cons.mpr ⟨pm_d66, List.forall_mem_cons.mpr ⟨pm_d67, List.forall_mem_cons.mpr ⟨pm_d68, List.forall_mem_cons.mpr ⟨pm_d69, List.forall_mem_cons.mpr ⟨pm_d70, List.forall_mem_cons.mpr ⟨pm_d71, List.forall_mem_cons.mpr ⟨pm_d72, List.forall_mem_cons.mpr ⟨pm_d73, List.forall_mem_cons.mpr ⟨pm_d74, List.forall_mem_cons.mpr ⟨pm_d75, List.forall_mem_cons.mpr ⟨pm_d76, List.forall_mem_cons.mpr ⟨pm_d77, List.forall_mem_cons.mpr ⟨pm_d78, List.forall_mem_cons.mpr ⟨pm_d79, List.forall_mem_cons.mpr ⟨pm_d80, List.forall_mem_cons.mpr ⟨pm_d81, List.forall_mem_cons.mpr ⟨pm_d82, List.forall_mem_cons.mpr ⟨pm_d83, List.forall_mem_cons.mpr ⟨pm_d84, List.forall_mem_cons.mpr ⟨pm_d85, List.forall_mem_cons.mpr ⟨pm_d86, List.forall_mem_cons.mpr ⟨pm_d87, List.forall_mem_cons.mpr ⟨pm_d88, List.forall_mem_cons.mpr ⟨pm_d89, List.forall_mem_cons.mpr ⟨pm_d90, List.forall_mem_cons.mpr ⟨pm_d91, List.forall_mem_cons.mpr ⟨pm_d92, List.forall_mem_cons.mpr ⟨pm_d93, List.forall_mem_cons.mpr ⟨pm_d94, List.forall_mem_cons.mpr ⟨pm_d95, List.forall_mem_cons.mpr ⟨pm_d96, List.forall_mem_cons.mpr ⟨pm_d97, List.forall_mem_cons.mpr ⟨pm_d98, List.forall_mem_cons.mpr ⟨pm_d99, List.forall_mem_cons.mpr ⟨pm_d100, List.forall_mem_cons.mpr ⟨pm_d101, List.forall_mem_cons.mpr ⟨pm_d102, List.forall_mem_cons.mpr ⟨pm_d103, List.forall_mem_cons.mpr ⟨pm_d104, List.forall_mem_cons.mpr ⟨pm_d105, List.forall_mem_cons.mpr ⟨pm_d106, List.forall_mem_cons.mpr ⟨pm_d107, List.forall_mem_cons.mpr ⟨pm_d108, List.forall_mem_cons.mpr ⟨pm_d109, List.forall_mem_cons.mpr ⟨pm_d110, List.forall_mem_cons.mpr ⟨pm_d111, List.forall_mem_cons.mpr ⟨pm_d112, List.forall_mem_cons.mpr ⟨pm_d113, List.forall_mem_cons.mpr ⟨pm_d114, List.forall_mem_cons.mpr ⟨pm_d115, List.forall_mem_cons.mpr ⟨pm_d116, List.forall_mem_cons.mpr ⟨pm_d117, List.forall_mem_cons.mpr ⟨pm_d118, List.forall_mem_cons.mpr ⟨pm_d119, List.forall_mem_cons.mpr ⟨pm_d120, List.forall_mem_cons.mpr ⟨pm_d121, List.forall_mem_cons.mpr ⟨pm_d122, List.forall_mem_cons.mpr ⟨pm_d123, List.forall_mem_cons.mpr ⟨pm_d124, List.forall_mem_cons.mpr ⟨pm_d125, List.forall_mem_cons.mpr ⟨pm_d126, List.forall_mem_cons.mpr ⟨pm_d127, List.forall_mem_cons.mpr ⟨pm_d128, List.forall_mem_cons.mpr ⟨pm_d129, List.forall_mem_cons.mpr ⟨pm_d130, List.forall_mem_cons.mpr ⟨pm_d131, List.forall_mem_cons.mpr ⟨pm_d132, List.forall_mem_cons.mpr ⟨pm_d133, List.forall_mem_cons.mpr ⟨pm_d134, List.forall_mem_cons.mpr ⟨pm_d135, List.forall_mem_cons.mpr ⟨pm_d136, List.forall_mem_cons.mpr ⟨pm_d137, List.forall_mem_cons.mpr ⟨pm_d138, List.forall_mem_cons.mpr ⟨pm_d139, List.forall_mem_cons.mpr ⟨pm_d140, fun _ h => absurd h List.not_mem_nil⟩⟩⟩⟩⟩⟩⟩⟩⟩⟩⟩⟩⟩⟩⟩⟩⟩⟩⟩⟩⟩⟩⟩⟩⟩⟩⟩⟩⟩⟩⟩⟩⟩⟩⟩⟩⟩⟩⟩⟩⟩⟩⟩⟩⟩⟩⟩⟩⟩⟩⟩⟩⟩⟩⟩⟩⟩⟩⟩⟩⟩⟩⟩⟩⟩⟩⟩⟩⟩⟩⟩⟩⟩⟩⟩⟩⟩⟩⟩⟩⟩⟩⟩⟩⟩⟩⟩⟩⟩⟩⟩⟩⟩⟩⟩⟩⟩⟩⟩⟩⟩⟩⟩⟩⟩⟩⟩⟩⟩⟩⟩⟩⟩⟩⟩⟩⟩⟩⟩⟩⟩⟩⟩⟩⟩⟩⟩⟩⟩⟩⟩⟩⟩⟩⟩⟩⟩⟩⟩⟩⟩
