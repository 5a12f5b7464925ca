-- THE DATA AGREE WITH THE STATEMENT: each code table decodes, each word stands in the tables.
theorem m_memL {big ws : List Cond} (ps : List Nat) (h : ws = ps.filterMap (fun i => big[i]?)) : ∀ w ∈ ws, w ∈ big := by
  intro w hw
  rw [h] at hw
  obtain ⟨i, -, hi⟩ := List.mem_filterMap.mp hw
  exact List.mem_of_getElem? hi
def m_dok (q : m_M) : Bool := q.1.all (fun e => decide (decode q.2.2.1 e.1 = .ok (e.2.1, e.2.2)))
def m_dk (b : ByteArray) (l : List m_I) : Bool := l.all (fun e => decide (decode b e.1 = .ok (e.2.1, e.2.2)))
theorem m_dapp {b : ByteArray} {l k : List m_I} (h1 : m_dk b l = true) (h2 : m_dk b k = true) : m_dk b (l ++ k) = true := by
  unfold m_dk at *
  rw [List.all_append, h1, h2]
  rfl
theorem m_k0_0 : m_dk code m_c0_0 = true := by decide +kernel
theorem m_k0_1 : m_dk code m_c0_1 = true := by decide +kernel
theorem m_k0_2 : m_dk code m_c0_2 = true := by decide +kernel
theorem m_k0_3 : m_dk code m_c0_3 = true := by decide +kernel
theorem m_k0_4 : m_dk code m_c0_4 = true := by decide +kernel
theorem m_k0_5 : m_dk code m_c0_5 = true := by decide +kernel
theorem m_k0_6 : m_dk code m_c0_6 = true := by decide +kernel
theorem m_k0_7 : m_dk code m_c0_7 = true := by decide +kernel
theorem m_k0_8 : m_dk code m_c0_8 = true := by decide +kernel
theorem m_k0_9 : m_dk code m_c0_9 = true := by decide +kernel
theorem m_k0_10 : m_dk code m_c0_10 = true := by decide +kernel
theorem m_k0_11 : m_dk code m_c0_11 = true := by decide +kernel
theorem m_k0_12 : m_dk code m_c0_12 = true := by decide +kernel
theorem m_k0_13 : m_dk code m_c0_13 = true := by decide +kernel
theorem m_k0_14 : m_dk code m_c0_14 = true := by decide +kernel
theorem m_k0_15 : m_dk code m_c0_15 = true := by decide +kernel
theorem m_k0_16 : m_dk code m_c0_16 = true := by decide +kernel
theorem m_k0_17 : m_dk code m_c0_17 = true := by decide +kernel
theorem m_k0_18 : m_dk code m_c0_18 = true := by decide +kernel
theorem m_k0_19 : m_dk code m_c0_19 = true := by decide +kernel
theorem m_k0_20 : m_dk code m_c0_20 = true := by decide +kernel
theorem m_k0_21 : m_dk code m_c0_21 = true := by decide +kernel
theorem m_k0_22 : m_dk code m_c0_22 = true := by decide +kernel
theorem m_k0_23 : m_dk code m_c0_23 = true := by decide +kernel
theorem m_k0_24 : m_dk code m_c0_24 = true := by decide +kernel
theorem m_k0_25 : m_dk code m_c0_25 = true := by decide +kernel
theorem m_k0_26 : m_dk code m_c0_26 = true := by decide +kernel
theorem m_k0_27 : m_dk code m_c0_27 = true := by decide +kernel
theorem m_k0_28 : m_dk code m_c0_28 = true := by decide +kernel
theorem m_k0_29 : m_dk code m_c0_29 = true := by decide +kernel
theorem m_k0_30 : m_dk code m_c0_30 = true := by decide +kernel
theorem m_k0 : m_dok m_d0 = true := (m_dapp m_k0_0 (m_dapp m_k0_1 (m_dapp m_k0_2 (m_dapp m_k0_3 (m_dapp m_k0_4 (m_dapp m_k0_5 (m_dapp m_k0_6 (m_dapp m_k0_7 (m_dapp m_k0_8 (m_dapp m_k0_9 (m_dapp m_k0_10 (m_dapp m_k0_11 (m_dapp m_k0_12 (m_dapp m_k0_13 (m_dapp m_k0_14 (m_dapp m_k0_15 (m_dapp m_k0_16 (m_dapp m_k0_17 (m_dapp m_k0_18 (m_dapp m_k0_19 (m_dapp m_k0_20 (m_dapp m_k0_21 (m_dapp m_k0_22 (m_dapp m_k0_23 (m_dapp m_k0_24 (m_dapp m_k0_25 (m_dapp m_k0_26 (m_dapp m_k0_27 (m_dapp m_k0_28 (m_dapp m_k0_29 m_k0_30))))))))))))))))))))))))))))))
theorem m_k1 : m_dok m_d1 = true := by decide +kernel
theorem m_k2 : m_dok m_d2 = true := by decide +kernel
theorem m_k3 : m_dok m_d3 = true := by decide +kernel
theorem m_k4 : m_dok m_d4 = true := by decide +kernel
theorem m_k5 : m_dok m_d5 = true := by decide +kernel
theorem m_k6 : m_dok m_d6 = true := by decide +kernel
theorem m_k7 : m_dok m_d7 = true := by decide +kernel
theorem m_k8 : m_dok m_d8 = true := by decide +kernel
theorem m_k9 : m_dok m_d9 = true := by decide +kernel
theorem m_k10_0 : m_dk prog_1_method_4_code m_c10_0 = true := by decide +kernel
theorem m_k10_1 : m_dk prog_1_method_4_code m_c10_1 = true := by decide +kernel
theorem m_k10_2 : m_dk prog_1_method_4_code m_c10_2 = true := by decide +kernel
theorem m_k10 : m_dok m_d10 = true := (m_dapp m_k10_0 (m_dapp m_k10_1 m_k10_2))
theorem m_k11 : m_dok m_d11 = true := by decide +kernel
theorem m_k12 : m_dok m_d12 = true := by decide +kernel
theorem m_k13 : m_dok m_d13 = true := by decide +kernel
theorem m_k14 : m_dok m_d14 = true := by decide +kernel
theorem m_k15_0 : m_dk prog_6_method_3_code m_c15_0 = true := by decide +kernel
theorem m_k15_1 : m_dk prog_6_method_3_code m_c15_1 = true := by decide +kernel
theorem m_k15_2 : m_dk prog_6_method_3_code m_c15_2 = true := by decide +kernel
theorem m_k15 : m_dok m_d15 = true := (m_dapp m_k15_0 (m_dapp m_k15_1 m_k15_2))
theorem m_k16_0 : m_dk prog_6_method_6_code m_c16_0 = true := by decide +kernel
theorem m_k16_1 : m_dk prog_6_method_6_code m_c16_1 = true := by decide +kernel
theorem m_k16 : m_dok m_d16 = true := (m_dapp m_k16_0 m_k16_1)
theorem m_k17 : m_dok m_d17 = true := by decide +kernel
theorem m_k18 : m_dok m_d18 = true := by decide +kernel
theorem m_k19 : m_dok m_d19 = true := by decide +kernel
theorem m_k20 : m_dok m_d20 = true := by decide +kernel
theorem m_k21 : m_dok m_d21 = true := by decide +kernel
theorem m_k22 : m_dok m_d22 = true := by decide +kernel
theorem m_k23 : m_dok m_d23 = true := by decide +kernel
theorem m_k24 : m_dok m_d24 = true := by decide +kernel
theorem m_k25 : m_dok m_d25 = true := by decide +kernel
theorem m_k26 : m_dok m_d26 = true := by decide +kernel
theorem m_k27 : m_dok m_d27 = true := by decide +kernel
theorem m_k28 : m_dok m_d28 = true := by decide +kernel
theorem m_k29 : m_dok m_d29 = true := by decide +kernel
theorem m_k30 : m_dok m_d30 = true := by decide +kernel
theorem m_k31 : m_dok m_d31 = true := by decide +kernel
theorem m_k32 : m_dok m_d32 = true := by decide +kernel
theorem m_k33 : m_dok m_d33 = true := by decide +kernel
theorem m_k34 : m_dok m_d34 = true := by decide +kernel
theorem m_k35 : m_dok m_d35 = true := by decide +kernel
theorem m_k36 : m_dok m_d36 = true := by decide +kernel
theorem m_k37 : m_dok m_d37 = true := by decide +kernel
theorem m_k38 : m_dok m_d38 = true := by decide +kernel
theorem m_k39 : m_dok m_d39 = true := by decide +kernel
theorem m_k40 : m_dok m_d40 = true := by decide +kernel
theorem m_k41 : m_dok m_d41 = true := by decide +kernel
theorem m_k42 : m_dok m_d42 = true := by decide +kernel
theorem m_k43 : m_dok m_d43 = true := by decide +kernel
theorem m_k44 : m_dok m_d44 = true := by decide +kernel
theorem m_k45_0 : m_dk prog_5_method_7_code m_c45_0 = true := by decide +kernel
theorem m_k45_1 : m_dk prog_5_method_7_code m_c45_1 = true := by decide +kernel
theorem m_k45 : m_dok m_d45 = true := (m_dapp m_k45_0 m_k45_1)
theorem m_k46 : m_dok m_d46 = true := by decide +kernel
theorem m_k47 : m_dok m_d47 = true := by decide +kernel
theorem m_k48 : m_dok m_d48 = true := by decide +kernel
theorem m_k49 : m_dok m_d49 = true := by decide +kernel
theorem m_k50 : m_dok m_d50 = true := by decide +kernel
theorem m_k51 : m_dok m_d51 = true := by decide +kernel
theorem m_k52 : m_dok m_d52 = true := by decide +kernel
theorem m_k53 : m_dok m_d53 = true := by decide +kernel
theorem m_k54 : m_dok m_d54 = true := by decide +kernel
theorem m_k55 : m_dok m_d55 = true := by decide +kernel
theorem m_k56_0 : m_dk prog_5_method_12_code m_c56_0 = true := by decide +kernel
theorem m_k56_1 : m_dk prog_5_method_12_code m_c56_1 = true := by decide +kernel
theorem m_k56 : m_dok m_d56 = true := (m_dapp m_k56_0 m_k56_1)
theorem m_k57 : m_dok m_d57 = true := by decide +kernel
theorem m_k58 : m_dok m_d58 = true := by decide +kernel
theorem m_k59 : m_dok m_d59 = true := by decide +kernel
theorem m_k60 : m_dok m_d60 = true := by decide +kernel
theorem m_k61_0 : m_dk prog_4_method_9_code m_c61_0 = true := by decide +kernel
theorem m_k61_1 : m_dk prog_4_method_9_code m_c61_1 = true := by decide +kernel
theorem m_k61 : m_dok m_d61 = true := (m_dapp m_k61_0 m_k61_1)
theorem m_k62 : m_dok m_d62 = true := by decide +kernel
theorem m_k63 : m_dok m_d63 = true := by decide +kernel
theorem m_k64_0 : m_dk prog_4_method_11_code m_c64_0 = true := by decide +kernel
theorem m_k64_1 : m_dk prog_4_method_11_code m_c64_1 = true := by decide +kernel
theorem m_k64 : m_dok m_d64 = true := (m_dapp m_k64_0 m_k64_1)
theorem m_k65_0 : m_dk prog_4_method_10_code m_c65_0 = true := by decide +kernel
theorem m_k65_1 : m_dk prog_4_method_10_code m_c65_1 = true := by decide +kernel
theorem m_k65 : m_dok m_d65 = true := (m_dapp m_k65_0 m_k65_1)
theorem m_k66 : m_dok m_d66 = true := by decide +kernel
theorem m_k67 : m_dok m_d67 = true := by decide +kernel
theorem m_k68 : m_dok m_d68 = true := by decide +kernel
theorem m_k69 : m_dok m_d69 = true := by decide +kernel
theorem m_k70 : m_dok m_d70 = true := by decide +kernel
theorem m_k71 : m_dok m_d71 = true := by decide +kernel
theorem m_k72 : m_dok m_d72 = true := by decide +kernel
theorem m_k73_0 : m_dk prog_4_method_15_code m_c73_0 = true := by decide +kernel
theorem m_k73_1 : m_dk prog_4_method_15_code m_c73_1 = true := by decide +kernel
theorem m_k73_2 : m_dk prog_4_method_15_code m_c73_2 = true := by decide +kernel
theorem m_k73_3 : m_dk prog_4_method_15_code m_c73_3 = true := by decide +kernel
theorem m_k73 : m_dok m_d73 = true := (m_dapp m_k73_0 (m_dapp m_k73_1 (m_dapp m_k73_2 m_k73_3)))
theorem m_k74_0 : m_dk prog_9_method_2_code m_c74_0 = true := by decide +kernel
theorem m_k74_1 : m_dk prog_9_method_2_code m_c74_1 = true := by decide +kernel
theorem m_k74_2 : m_dk prog_9_method_2_code m_c74_2 = true := by decide +kernel
theorem m_k74 : m_dok m_d74 = true := (m_dapp m_k74_0 (m_dapp m_k74_1 m_k74_2))
theorem m_k75 : m_dok m_d75 = true := by decide +kernel
theorem m_k76 : m_dok m_d76 = true := by decide +kernel
theorem m_k77 : m_dok m_d77 = true := by decide +kernel
theorem m_k78 : m_dok m_d78 = true := by decide +kernel
theorem m_k79 : m_dok m_d79 = true := by decide +kernel
theorem m_k80 : m_dok m_d80 = true := by decide +kernel
theorem m_k81_0 : m_dk prog_5_method_9_code m_c81_0 = true := by decide +kernel
theorem m_k81_1 : m_dk prog_5_method_9_code m_c81_1 = true := by decide +kernel
theorem m_k81 : m_dok m_d81 = true := (m_dapp m_k81_0 m_k81_1)
theorem m_k82 : m_dok m_d82 = true := by decide +kernel
theorem m_k83 : m_dok m_d83 = true := by decide +kernel
theorem m_k84 : m_dok m_d84 = true := by decide +kernel
theorem m_k85 : m_dok m_d85 = true := by decide +kernel
theorem m_k86 : m_dok m_d86 = true := by decide +kernel
theorem m_k87 : m_dok m_d87 = true := by decide +kernel
theorem m_k88 : m_dok m_d88 = true := by decide +kernel
theorem m_k89 : m_dok m_d89 = true := by decide +kernel
theorem m_k90 : m_dok m_d90 = true := by decide +kernel
theorem m_k91 : m_dok m_d91 = true := by decide +kernel
theorem m_k92 : m_dok m_d92 = true := by decide +kernel
theorem m_k93 : m_dok m_d93 = true := by decide +kernel
theorem m_k94 : m_dok m_d94 = true := by decide +kernel
theorem m_k95 : m_dok m_d95 = true := by decide +kernel
theorem m_k96 : m_dok m_d96 = true := by decide +kernel
theorem m_k97 : m_dok m_d97 = true := by decide +kernel
theorem m_k98 : m_dok m_d98 = true := by decide +kernel
theorem m_k99 : m_dok m_d99 = true := by decide +kernel
theorem m_k100 : m_dok m_d100 = true := by decide +kernel
theorem m_k101 : m_dok m_d101 = true := by decide +kernel
theorem m_k102 : m_dok m_d102 = true := by decide +kernel
theorem m_k103 : m_dok m_d103 = true := by decide +kernel
theorem m_k104 : m_dok m_d104 = true := by decide +kernel
theorem m_k105 : m_dok m_d105 = true := by decide +kernel
theorem m_k106 : m_dok m_d106 = true := by decide +kernel
theorem m_k107 : m_dok m_d107 = true := by decide +kernel
theorem m_k108_0 : m_dk prog_1_method_15_code m_c108_0 = true := by decide +kernel
theorem m_k108_1 : m_dk prog_1_method_15_code m_c108_1 = true := by decide +kernel
theorem m_k108 : m_dok m_d108 = true := (m_dapp m_k108_0 m_k108_1)
theorem m_k109 : m_dok m_d109 = true := by decide +kernel
theorem m_k110 : m_dok m_d110 = true := by decide +kernel
theorem m_k111 : m_dok m_d111 = true := by decide +kernel
theorem m_k112 : m_dok m_d112 = true := by decide +kernel
theorem m_k113 : m_dok m_d113 = true := by decide +kernel
theorem m_k114 : m_dok m_d114 = true := by decide +kernel
theorem m_k115 : m_dok m_d115 = true := by decide +kernel
theorem m_k116 : m_dok m_d116 = true := by decide +kernel
theorem m_k117 : m_dok m_d117 = true := by decide +kernel
theorem m_k118 : m_dok m_d118 = true := by decide +kernel
theorem m_k119 : m_dok m_d119 = true := by decide +kernel
theorem m_k120 : m_dok m_d120 = true := by decide +kernel
theorem m_k121 : m_dok m_d121 = true := by decide +kernel
theorem m_k122 : m_dok m_d122 = true := by decide +kernel
theorem m_k123 : m_dok m_d123 = true := by decide +kernel
theorem m_k124_0 : m_dk prog_9_method_18_code m_c124_0 = true := by decide +kernel
theorem m_k124_1 : m_dk prog_9_method_18_code m_c124_1 = true := by decide +kernel
theorem m_k124 : m_dok m_d124 = true := (m_dapp m_k124_0 m_k124_1)
theorem m_k125 : m_dok m_d125 = true := by decide +kernel
theorem m_k126 : m_dok m_d126 = true := by decide +kernel
theorem m_k127 : m_dok m_d127 = true := by decide +kernel
theorem m_k128 : m_dok m_d128 = true := by decide +kernel
theorem m_k129 : m_dok m_d129 = true := by decide +kernel
theorem m_k130 : m_dok m_d130 = true := by decide +kernel
theorem m_k131 : m_dok m_d131 = true := by decide +kernel
theorem m_k132 : m_dok m_d132 = true := by decide +kernel
theorem m_k133_0 : m_dk prog_3_method_9_code m_c133_0 = true := by decide +kernel
theorem m_k133_1 : m_dk prog_3_method_9_code m_c133_1 = true := by decide +kernel
theorem m_k133 : m_dok m_d133 = true := (m_dapp m_k133_0 m_k133_1)
theorem m_k134 : m_dok m_d134 = true := by decide +kernel
theorem m_k135 : m_dok m_d135 = true := by decide +kernel
theorem m_k136 : m_dok m_d136 = true := by decide +kernel
theorem m_k137 : m_dok m_d137 = true := by decide +kernel
theorem m_k138 : m_dok m_d138 = true := by decide +kernel
theorem m_k139 : m_dok m_d139 = true := by decide +kernel
theorem m_k140 : m_dok m_d140 = true := by decide +kernel
theorem m_k141 : m_dok m_d141 = true := by decide +kernel
theorem m_k142 : m_dok m_d142 = true := by decide +kernel
theorem m_k143 : m_dok m_d143 = true := by decide +kernel
theorem m_k144 : m_dok m_d144 = true := by decide +kernel
theorem m_k145 : m_dok m_d145 = true := by decide +kernel
theorem m_k146 : m_dok m_d146 = true := by decide +kernel
theorem m_k147 : m_dok m_d147 = true := by decide +kernel
theorem m_k148 : m_dok m_d148 = true := by decide +kernel
theorem m_k149 : m_dok m_d149 = true := by decide +kernel
theorem m_k150 : m_dok m_d150 = true := by decide +kernel
theorem m_k151 : m_dok m_d151 = true := by decide +kernel
theorem m_k152 : m_dok m_d152 = true := by decide +kernel
theorem m_k153_0 : m_dk prog_7_method_7_code m_c153_0 = true := by decide +kernel
theorem m_k153_1 : m_dk prog_7_method_7_code m_c153_1 = true := by decide +kernel
theorem m_k153 : m_dok m_d153 = true := (m_dapp m_k153_0 m_k153_1)
theorem m_k154 : m_dok m_d154 = true := by decide +kernel
theorem m_k155 : m_dok m_d155 = true := by decide +kernel
theorem m_k156 : m_dok m_d156 = true := by decide +kernel
theorem m_k157_0 : m_dk prog_7_method_12_code m_c157_0 = true := by decide +kernel
theorem m_k157_1 : m_dk prog_7_method_12_code m_c157_1 = true := by decide +kernel
theorem m_k157 : m_dok m_d157 = true := (m_dapp m_k157_0 m_k157_1)
theorem m_k158 : m_dok m_d158 = true := by decide +kernel
theorem m_k159 : m_dok m_d159 = true := by decide +kernel
theorem m_k160 : m_dok m_d160 = true := by decide +kernel
theorem m_k161 : m_dok m_d161 = true := by decide +kernel
theorem m_k162 : m_dok m_d162 = true := by decide +kernel
theorem m_k163_0 : m_dk prog_7_method_13_code m_c163_0 = true := by decide +kernel
theorem m_k163_1 : m_dk prog_7_method_13_code m_c163_1 = true := by decide +kernel
theorem m_k163 : m_dok m_d163 = true := (m_dapp m_k163_0 m_k163_1)
theorem m_k164 : m_dok m_d164 = true := by decide +kernel
theorem m_k165 : m_dok m_d165 = true := by decide +kernel
theorem m_k166 : m_dok m_d166 = true := by decide +kernel
theorem m_k167 : m_dok m_d167 = true := by decide +kernel
theorem m_k168 : m_dok m_d168 = true := by decide +kernel
theorem m_k169 : m_dok m_d169 = true := by decide +kernel
theorem m_k170 : m_dok m_d170 = true := by decide +kernel
theorem m_k171 : m_dok m_d171 = true := by decide +kernel
theorem m_k172_0 : m_dk prog_5_method_19_code m_c172_0 = true := by decide +kernel
theorem m_k172_1 : m_dk prog_5_method_19_code m_c172_1 = true := by decide +kernel
theorem m_k172 : m_dok m_d172 = true := (m_dapp m_k172_0 m_k172_1)
theorem m_k173 : m_dok m_d173 = true := by decide +kernel
theorem m_k174_0 : m_dk prog_5_method_21_code m_c174_0 = true := by decide +kernel
theorem m_k174_1 : m_dk prog_5_method_21_code m_c174_1 = true := by decide +kernel
theorem m_k174 : m_dok m_d174 = true := (m_dapp m_k174_0 m_k174_1)
theorem m_k175 : m_dok m_d175 = true := by decide +kernel
theorem m_k176 : m_dok m_d176 = true := by decide +kernel
theorem m_k177 : m_dok m_d177 = true := by decide +kernel
theorem m_k178 : m_dok m_d178 = true := by decide +kernel
theorem m_k179_0 : m_dk prog_5_method_25_code m_c179_0 = true := by decide +kernel
theorem m_k179_1 : m_dk prog_5_method_25_code m_c179_1 = true := by decide +kernel
theorem m_k179 : m_dok m_d179 = true := (m_dapp m_k179_0 m_k179_1)
theorem m_k180 : m_dok m_d180 = true := by decide +kernel
theorem m_k181 : m_dok m_d181 = true := by decide +kernel
theorem m_k182_0 : m_dk prog_11_method_1_code m_c182_0 = true := by decide +kernel
theorem m_k182_1 : m_dk prog_11_method_1_code m_c182_1 = true := by decide +kernel
theorem m_k182_2 : m_dk prog_11_method_1_code m_c182_2 = true := by decide +kernel
theorem m_k182_3 : m_dk prog_11_method_1_code m_c182_3 = true := by decide +kernel
theorem m_k182 : m_dok m_d182 = true := (m_dapp m_k182_0 (m_dapp m_k182_1 (m_dapp m_k182_2 m_k182_3)))
theorem m_k183 : m_dok m_d183 = true := by decide +kernel
theorem m_k184 : m_dok m_d184 = true := by decide +kernel
theorem m_k185 : m_dok m_d185 = true := by decide +kernel
theorem m_k186 : m_dok m_d186 = true := by decide +kernel
theorem m_k187_0 : m_dk prog_11_method_18_code m_c187_0 = true := by decide +kernel
theorem m_k187_1 : m_dk prog_11_method_18_code m_c187_1 = true := by decide +kernel
theorem m_k187 : m_dok m_d187 = true := (m_dapp m_k187_0 m_k187_1)
theorem m_k188 : m_dok m_d188 = true := by decide +kernel
theorem m_k189_0 : m_dk prog_11_method_17_code m_c189_0 = true := by decide +kernel
theorem m_k189_1 : m_dk prog_11_method_17_code m_c189_1 = true := by decide +kernel
theorem m_k189 : m_dok m_d189 = true := (m_dapp m_k189_0 m_k189_1)
theorem m_k190_0 : m_dk prog_11_method_12_code m_c190_0 = true := by decide +kernel
theorem m_k190_1 : m_dk prog_11_method_12_code m_c190_1 = true := by decide +kernel
theorem m_k190_2 : m_dk prog_11_method_12_code m_c190_2 = true := by decide +kernel
theorem m_k190 : m_dok m_d190 = true := (m_dapp m_k190_0 (m_dapp m_k190_1 m_k190_2))
theorem m_k191 : m_dok m_d191 = true := by decide +kernel
theorem m_k192_0 : m_dk prog_11_method_16_code m_c192_0 = true := by decide +kernel
theorem m_k192_1 : m_dk prog_11_method_16_code m_c192_1 = true := by decide +kernel
theorem m_k192_2 : m_dk prog_11_method_16_code m_c192_2 = true := by decide +kernel
theorem m_k192_3 : m_dk prog_11_method_16_code m_c192_3 = true := by decide +kernel
theorem m_k192 : m_dok m_d192 = true := (m_dapp m_k192_0 (m_dapp m_k192_1 (m_dapp m_k192_2 m_k192_3)))
theorem m_k193 : m_dok m_d193 = true := by decide +kernel
theorem m_k194 : m_dok m_d194 = true := by decide +kernel
theorem m_k195 : m_dok m_d195 = true := by decide +kernel
theorem m_k196 : m_dok m_d196 = true := by decide +kernel
theorem m_k197 : m_dok m_d197 = true := by decide +kernel
theorem m_k198 : m_dok m_d198 = true := by decide +kernel
theorem m_k199 : m_dok m_d199 = true := by decide +kernel
theorem m_k200 : m_dok m_d200 = true := by decide +kernel
theorem m_k201_0 : m_dk prog_11_method_44_code m_c201_0 = true := by decide +kernel
theorem m_k201_1 : m_dk prog_11_method_44_code m_c201_1 = true := by decide +kernel
theorem m_k201_2 : m_dk prog_11_method_44_code m_c201_2 = true := by decide +kernel
theorem m_k201 : m_dok m_d201 = true := (m_dapp m_k201_0 (m_dapp m_k201_1 m_k201_2))
theorem m_k202 : m_dok m_d202 = true := by decide +kernel
theorem m_k203_0 : m_dk prog_11_method_38_code m_c203_0 = true := by decide +kernel
theorem m_k203_1 : m_dk prog_11_method_38_code m_c203_1 = true := by decide +kernel
theorem m_k203 : m_dok m_d203 = true := (m_dapp m_k203_0 m_k203_1)
theorem m_k204 : m_dok m_d204 = true := by decide +kernel
theorem m_k205 : m_dok m_d205 = true := by decide +kernel
theorem m_k206 : m_dok m_d206 = true := by decide +kernel
theorem m_k207 : m_dok m_d207 = true := by decide +kernel
theorem m_k208 : m_dok m_d208 = true := by decide +kernel
theorem m_k209_0 : m_dk prog_11_method_26_code m_c209_0 = true := by decide +kernel
theorem m_k209_1 : m_dk prog_11_method_26_code m_c209_1 = true := by decide +kernel
theorem m_k209_2 : m_dk prog_11_method_26_code m_c209_2 = true := by decide +kernel
theorem m_k209 : m_dok m_d209 = true := (m_dapp m_k209_0 (m_dapp m_k209_1 m_k209_2))
theorem m_k210_0 : m_dk prog_11_method_25_code m_c210_0 = true := by decide +kernel
theorem m_k210_1 : m_dk prog_11_method_25_code m_c210_1 = true := by decide +kernel
theorem m_k210 : m_dok m_d210 = true := (m_dapp m_k210_0 m_k210_1)
theorem m_k211 : m_dok m_d211 = true := by decide +kernel
theorem m_k212 : m_dok m_d212 = true := by decide +kernel
theorem m_k213 : m_dok m_d213 = true := by decide +kernel
theorem m_k214 : m_dok m_d214 = true := by decide +kernel
theorem m_k215 : m_dok m_d215 = true := by decide +kernel
theorem m_k216 : m_dok m_d216 = true := by decide +kernel
theorem m_k217 : m_dok m_d217 = true := by decide +kernel
theorem m_k218_0 : m_dk prog_11_method_35_code m_c218_0 = true := by decide +kernel
theorem m_k218_1 : m_dk prog_11_method_35_code m_c218_1 = true := by decide +kernel
theorem m_k218_2 : m_dk prog_11_method_35_code m_c218_2 = true := by decide +kernel
theorem m_k218_3 : m_dk prog_11_method_35_code m_c218_3 = true := by decide +kernel
theorem m_k218 : m_dok m_d218 = true := (m_dapp m_k218_0 (m_dapp m_k218_1 (m_dapp m_k218_2 m_k218_3)))
theorem m_k219 : m_dok m_d219 = true := by decide +kernel
theorem m_k220_0 : m_dk prog_11_method_34_code m_c220_0 = true := by decide +kernel
theorem m_k220_1 : m_dk prog_11_method_34_code m_c220_1 = true := by decide +kernel
theorem m_k220 : m_dok m_d220 = true := (m_dapp m_k220_0 m_k220_1)
theorem m_k221_0 : m_dk prog_11_method_36_code m_c221_0 = true := by decide +kernel
theorem m_k221_1 : m_dk prog_11_method_36_code m_c221_1 = true := by decide +kernel
theorem m_k221 : m_dok m_d221 = true := (m_dapp m_k221_0 m_k221_1)
theorem m_k222 : m_dok m_d222 = true := by decide +kernel
theorem m_k223 : m_dok m_d223 = true := by decide +kernel
theorem m_k224 : m_dok m_d224 = true := by decide +kernel
theorem m_k225 : m_dok m_d225 = true := by decide +kernel
theorem m_k226 : m_dok m_d226 = true := by decide +kernel
theorem m_k227 : m_dok m_d227 = true := by decide +kernel
theorem m_k228 : m_dok m_d228 = true := by decide +kernel
theorem m_k229 : m_dok m_d229 = true := by decide +kernel
theorem m_k230_0 : m_dk prog_11_method_53_code m_c230_0 = true := by decide +kernel
theorem m_k230_1 : m_dk prog_11_method_53_code m_c230_1 = true := by decide +kernel
theorem m_k230 : m_dok m_d230 = true := (m_dapp m_k230_0 m_k230_1)
theorem m_k231 : m_dok m_d231 = true := by decide +kernel
theorem m_k232 : m_dok m_d232 = true := by decide +kernel
theorem m_k233 : m_dok m_d233 = true := by decide +kernel
theorem m_k234 : m_dok m_d234 = true := by decide +kernel
theorem m_k235 : m_dok m_d235 = true := by decide +kernel
theorem m_k236_0 : m_dk prog_11_method_59_code m_c236_0 = true := by decide +kernel
theorem m_k236_1 : m_dk prog_11_method_59_code m_c236_1 = true := by decide +kernel
theorem m_k236 : m_dok m_d236 = true := (m_dapp m_k236_0 m_k236_1)
theorem m_k237 : m_dok m_d237 = true := by decide +kernel
theorem m_k238 : m_dok m_d238 = true := by decide +kernel
theorem m_k239 : m_dok m_d239 = true := by decide +kernel
theorem m_k240 : m_dok m_d240 = true := by decide +kernel
theorem m_k241 : m_dok m_d241 = true := by decide +kernel
theorem m_k242_0 : m_dk prog_11_method_63_code m_c242_0 = true := by decide +kernel
theorem m_k242_1 : m_dk prog_11_method_63_code m_c242_1 = true := by decide +kernel
theorem m_k242 : m_dok m_d242 = true := (m_dapp m_k242_0 m_k242_1)
theorem m_k243 : m_dok m_d243 = true := by decide +kernel
theorem m_k244 : m_dok m_d244 = true := by decide +kernel
theorem m_k245 : m_dok m_d245 = true := by decide +kernel
theorem m_k246 : m_dok m_d246 = true := by decide +kernel
theorem m_k247 : m_dok m_d247 = true := by decide +kernel
theorem m_k248_0 : m_dk prog_11_method_74_code m_c248_0 = true := by decide +kernel
theorem m_k248_1 : m_dk prog_11_method_74_code m_c248_1 = true := by decide +kernel
theorem m_k248 : m_dok m_d248 = true := (m_dapp m_k248_0 m_k248_1)
theorem m_k249 : m_dok m_d249 = true := by decide +kernel
theorem m_k250 : m_dok m_d250 = true := by decide +kernel
theorem m_k251 : m_dok m_d251 = true := by decide +kernel
theorem m_k252 : m_dok m_d252 = true := by decide +kernel
theorem m_k253_0 : m_dk prog_11_method_83_code m_c253_0 = true := by decide +kernel
theorem m_k253_1 : m_dk prog_11_method_83_code m_c253_1 = true := by decide +kernel
theorem m_k253_2 : m_dk prog_11_method_83_code m_c253_2 = true := by decide +kernel
theorem m_k253 : m_dok m_d253 = true := (m_dapp m_k253_0 (m_dapp m_k253_1 m_k253_2))
theorem m_k254 : m_dok m_d254 = true := by decide +kernel
theorem m_k255_0 : m_dk prog_11_method_82_code m_c255_0 = true := by decide +kernel
theorem m_k255_1 : m_dk prog_11_method_82_code m_c255_1 = true := by decide +kernel
theorem m_k255_2 : m_dk prog_11_method_82_code m_c255_2 = true := by decide +kernel
theorem m_k255 : m_dok m_d255 = true := (m_dapp m_k255_0 (m_dapp m_k255_1 m_k255_2))
theorem m_k256 : m_dok m_d256 = true := by decide +kernel
theorem m_k257 : m_dok m_d257 = true := by decide +kernel
theorem m_k258 : m_dok m_d258 = true := by decide +kernel
theorem m_k259 : m_dok m_d259 = true := by decide +kernel
theorem m_k260 : m_dok m_d260 = true := by decide +kernel
theorem m_k261 : m_dok m_d261 = true := by decide +kernel
theorem m_k262_0 : m_dk prog_11_method_85_code m_c262_0 = true := by decide +kernel
theorem m_k262_1 : m_dk prog_11_method_85_code m_c262_1 = true := by decide +kernel
theorem m_k262 : m_dok m_d262 = true := (m_dapp m_k262_0 m_k262_1)
theorem m_k263 : m_dok m_d263 = true := by decide +kernel
theorem m_k264 : m_dok m_d264 = true := by decide +kernel
theorem m_k265_0 : m_dk prog_11_method_90_code m_c265_0 = true := by decide +kernel
theorem m_k265_1 : m_dk prog_11_method_90_code m_c265_1 = true := by decide +kernel
theorem m_k265_2 : m_dk prog_11_method_90_code m_c265_2 = true := by decide +kernel
theorem m_k265 : m_dok m_d265 = true := (m_dapp m_k265_0 (m_dapp m_k265_1 m_k265_2))
theorem m_k266 : m_dok m_d266 = true := by decide +kernel
theorem m_k267 : m_dok m_d267 = true := by decide +kernel
theorem m_k268_0 : m_dk prog_11_method_91_code m_c268_0 = true := by decide +kernel
theorem m_k268_1 : m_dk prog_11_method_91_code m_c268_1 = true := by decide +kernel
theorem m_k268 : m_dok m_d268 = true := (m_dapp m_k268_0 m_k268_1)
theorem m_k269 : m_dok m_d269 = true := by decide +kernel
theorem m_k270 : m_dok m_d270 = true := by decide +kernel
theorem m_k271 : m_dok m_d271 = true := by decide +kernel
theorem m_k272 : m_dok m_d272 = true := by decide +kernel
theorem m_k273 : m_dok m_d273 = true := by decide +kernel
theorem m_k274 : m_dok m_d274 = true := by decide +kernel
theorem m_k275_0 : m_dk prog_11_method_98_code m_c275_0 = true := by decide +kernel
theorem m_k275_1 : m_dk prog_11_method_98_code m_c275_1 = true := by decide +kernel
theorem m_k275 : m_dok m_d275 = true := (m_dapp m_k275_0 m_k275_1)
theorem m_k276 : m_dok m_d276 = true := by decide +kernel
theorem m_k277 : m_dok m_d277 = true := by decide +kernel
theorem m_k278_0 : m_dk prog_11_method_100_code m_c278_0 = true := by decide +kernel
theorem m_k278_1 : m_dk prog_11_method_100_code m_c278_1 = true := by decide +kernel
theorem m_k278 : m_dok m_d278 = true := (m_dapp m_k278_0 m_k278_1)
theorem m_k279 : m_dok m_d279 = true := by decide +kernel
theorem m_k280 : m_dok m_d280 = true := by decide +kernel
theorem m_k281_0 : m_dk prog_11_method_102_code m_c281_0 = true := by decide +kernel
theorem m_k281_1 : m_dk prog_11_method_102_code m_c281_1 = true := by decide +kernel
theorem m_k281_2 : m_dk prog_11_method_102_code m_c281_2 = true := by decide +kernel
theorem m_k281 : m_dok m_d281 = true := (m_dapp m_k281_0 (m_dapp m_k281_1 m_k281_2))
theorem m_k282 : m_dok m_d282 = true := by decide +kernel
theorem m_k283_0 : m_dk prog_11_method_104_code m_c283_0 = true := by decide +kernel
theorem m_k283_1 : m_dk prog_11_method_104_code m_c283_1 = true := by decide +kernel
theorem m_k283 : m_dok m_d283 = true := (m_dapp m_k283_0 m_k283_1)
theorem m_k284 : m_dok m_d284 = true := by decide +kernel
theorem m_k285_0 : m_dk prog_11_method_107_code m_c285_0 = true := by decide +kernel
theorem m_k285_1 : m_dk prog_11_method_107_code m_c285_1 = true := by decide +kernel
theorem m_k285_2 : m_dk prog_11_method_107_code m_c285_2 = true := by decide +kernel
theorem m_k285 : m_dok m_d285 = true := (m_dapp m_k285_0 (m_dapp m_k285_1 m_k285_2))
theorem m_k286 : m_dok m_d286 = true := by decide +kernel
theorem m_k287 : m_dok m_d287 = true := by decide +kernel
theorem m_k288 : m_dok m_d288 = true := by decide +kernel
theorem m_k289 : m_dok m_d289 = true := by decide +kernel
theorem m_k290 : m_dok m_d290 = true := by decide +kernel
theorem m_k291 : m_dok m_d291 = true := by decide +kernel
