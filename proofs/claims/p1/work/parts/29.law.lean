theorem dL_law_0 : decode cL_law 0 = .ok (.new 7, 3) := by decide +kernel
def fsX11 : List Value := [.null, .null, .null, .null, .null, .null, .null, .null, .null, .int 0, .int 0, .int 0, .int 0, .int 0, .int 0, .int 0, .int 0]
theorem nL_7 : h_nl RL 7 11 RX11 TX11 17 fsX11 := ⟨rfl, inX11, ⟨tyX11, tyX11_ok, by decide +kernel⟩, h_t1 22 rfl rfl, h_t1 23 rfl rfl, h_t1 1 rfl rfl⟩
theorem dL_law_3 : decode cL_law 3 = .ok (.dup, 1) := by decide +kernel
theorem dL_law_4 : decode cL_law 4 = .ok (.invokespecial 9, 3) := by decide +kernel
theorem kX11_init : h_ml mX11_init 0 := ⟨h_t1 26 rfl rfl, h_t1 1 rfl rfl, ⟨by decide, by decide, by decide +kernel⟩, by decide⟩
theorem sX11_init : mX11_init.1.name = "<init>" ∧ Cond.instanceMethod mX11_init.1 ∈ lw_g := ⟨rfl, h_t1 25 rfl rfl⟩
theorem lL_9 : Cond.methodLink RL 9 mX11_init.1 ∈ lw_g := h_t1 24 rfl rfl
theorem dL_law_7 : decode cL_law 7 = .ok (.astore_n 1, 1) := by decide +kernel
theorem dL_law_8 : decode cL_law 8 = .ok (.new 10, 3) := by decide +kernel
def fsX12 : List Value := [.int 0, .int 0, .int 0, .int 0, .null, .int 0, .null, .null, .null, .null, .null, .null, .null, .int 0, .int 0, .null, .null, .null, .null, .null, .null, .int 0, .null, .int 0, .int 0, .int 0, .null, .int 0, .null, .int 0, .int 0, .int 0, .int 0, .int 0, .int 0, .int 0, .null, .int 0, .int 0, .int 0, .int 0, .int 0, .int 0, .null, .null, .null, .null, .null, .null, .null, .null, .null, .null, .null, .null, .null, .null, .null, .null, .null, .null, .int 0, .null, .null, .int 0, .int 0, .int 0, .int 0, .null, .int 0, .int 0, .int 0, .null, .null, .null, .null, .null, .null, .null, .null, .null, .null, .null, .null, .null, .null, .null, .null, .null, .int 0, .null, .int 0, .null, .int 0, .int 0, .int 0, .int 0, .int 0, .null, .null, .int 0, .null, .int 0, .int 0, .int 0, .int 0, .int 0, .null, .null, .int 0, .int 0, .null, .int 0, .int 0, .int 0, .int 0, .int 0, .int 0, .null, .null, .null, .null, .int 0, .int 0, .int 0, .int 0, .int 0, .int 0, .int 0, .null, .int 0, .null, .null, .null, .null, .null, .null, .null, .null, .null, .null, .null, .null, .null, .null, .null, .null, .null, .null, .null, .null, .null, .null]
theorem nL_10 : h_nl RL 10 12 RX12 TX12 153 fsX12 := ⟨rfl, inX12, ⟨tyX12, tyX12_ok, by decide +kernel⟩, h_t11 195 rfl rfl, h_t7 206 rfl rfl, h_t1 16 rfl rfl⟩
theorem dL_law_11 : decode cL_law 11 = .ok (.dup, 1) := by decide +kernel
theorem dL_law_12 : decode cL_law 12 = .ok (.invokespecial 12, 3) := by decide +kernel
theorem kX12_init : h_ml mX12_init 0 := ⟨h_t11 198 rfl rfl, h_t1 16 rfl rfl, ⟨by decide, by decide, by decide +kernel⟩, by decide⟩
theorem sX12_init : mX12_init.1.name = "<init>" ∧ Cond.instanceMethod mX12_init.1 ∈ lw_g := ⟨rfl, h_t11 197 rfl rfl⟩
theorem lL_12 : Cond.methodLink RL 12 mX12_init.1 ∈ lw_g := h_t11 196 rfl rfl
theorem dL_law_15 : decode cL_law 15 = .ok (.astore_n 2, 1) := by decide +kernel
theorem dL_law_16 : decode cL_law 16 = .ok (.iconst 0, 1) := by decide +kernel
theorem dL_law_17 : decode cL_law 17 = .ok (.istore_n 3, 1) := by decide +kernel
theorem dL_law_18 : decode cL_law 18 = .ok (.iload_n 3, 1) := by decide +kernel
theorem dL_law_19 : decode cL_law 19 = .ok (.aload_n 0, 1) := by decide +kernel
theorem dL_law_20 : decode cL_law 20 = .ok (.arraylength, 1) := by decide +kernel
theorem dL_law_21 : decode cL_law 21 = .ok (.bipush 6, 2) := by decide +kernel
theorem dL_law_23 : decode cL_law 23 = .ok (.isub, 1) := by decide +kernel
theorem dL_law_24 : decode cL_law 24 = .ok (.if_icmp .gt 474, 3) := by decide +kernel
theorem dL_law_27 : decode cL_law 27 = .ok (.aload_n 0, 1) := by decide +kernel
theorem dL_law_28 : decode cL_law 28 = .ok (.iload_n 3, 1) := by decide +kernel
theorem dL_law_29 : decode cL_law 29 = .ok (.iaload, 1) := by decide +kernel
theorem dL_law_30 : decode cL_law 30 = .ok (.bipush 15, 2) := by decide +kernel
theorem dL_law_32 : decode cL_law 32 = .ok (.iand, 1) := by decide +kernel
theorem dL_law_33 : decode cL_law 33 = .ok (.tableswitch 459 0 12 #[67, 130, 143, 166, 199, 223, 236, 259, 272, 305, 358, 392, 436], 67) := by decide +kernel
theorem dL_law_100 : decode cL_law 100 = .ok (.aload_n 1, 1) := by decide +kernel
theorem dL_law_101 : decode cL_law 101 = .ok (.aload_n 0, 1) := by decide +kernel
theorem dL_law_102 : decode cL_law 102 = .ok (.iload_n 3, 1) := by decide +kernel
theorem dL_law_103 : decode cL_law 103 = .ok (.iconst 1, 1) := by decide +kernel
theorem dL_law_104 : decode cL_law 104 = .ok (.iadd, 1) := by decide +kernel
theorem dL_law_105 : decode cL_law 105 = .ok (.iaload, 1) := by decide +kernel
theorem dL_law_106 : decode cL_law 106 = .ok (.aload_n 0, 1) := by decide +kernel
theorem dL_law_107 : decode cL_law 107 = .ok (.iload_n 3, 1) := by decide +kernel
theorem dL_law_108 : decode cL_law 108 = .ok (.iconst 2, 1) := by decide +kernel
theorem dL_law_109 : decode cL_law 109 = .ok (.iadd, 1) := by decide +kernel
theorem dL_law_110 : decode cL_law 110 = .ok (.iaload, 1) := by decide +kernel
theorem dL_law_111 : decode cL_law 111 = .ok (.aload_n 0, 1) := by decide +kernel
theorem dL_law_112 : decode cL_law 112 = .ok (.iload_n 3, 1) := by decide +kernel
theorem dL_law_113 : decode cL_law 113 = .ok (.iconst 3, 1) := by decide +kernel
theorem dL_law_114 : decode cL_law 114 = .ok (.iadd, 1) := by decide +kernel
theorem dL_law_115 : decode cL_law 115 = .ok (.iaload, 1) := by decide +kernel
theorem dL_law_116 : decode cL_law 116 = .ok (.aload_n 0, 1) := by decide +kernel
theorem dL_law_117 : decode cL_law 117 = .ok (.iload_n 3, 1) := by decide +kernel
theorem dL_law_118 : decode cL_law 118 = .ok (.iconst 4, 1) := by decide +kernel
theorem dL_law_119 : decode cL_law 119 = .ok (.iadd, 1) := by decide +kernel
theorem dL_law_120 : decode cL_law 120 = .ok (.iaload, 1) := by decide +kernel
theorem dL_law_121 : decode cL_law 121 = .ok (.aload_n 0, 1) := by decide +kernel
theorem dL_law_122 : decode cL_law 122 = .ok (.iload_n 3, 1) := by decide +kernel
theorem dL_law_123 : decode cL_law 123 = .ok (.iconst 5, 1) := by decide +kernel
theorem dL_law_124 : decode cL_law 124 = .ok (.iadd, 1) := by decide +kernel
theorem dL_law_125 : decode cL_law 125 = .ok (.iaload, 1) := by decide +kernel
theorem dL_law_126 : decode cL_law 126 = .ok (.invokevirtual 13, 3) := by decide +kernel
theorem kX11_feed : h_ml mX11_feed 5 := ⟨h_t3 134 rfl rfl, h_t1 1 rfl rfl, ⟨by decide, by decide, by decide +kernel⟩, by decide⟩
theorem sX11_feed : Cond.instanceMethod mX11_feed.1 ∈ lw_g ∧ Cond.selects mX11_feed.1.cls mX11_feed.1 mX11_feed.1 ∈ lw_g := ⟨h_t3 132 rfl rfl, h_t3 133 rfl rfl⟩
theorem lL_13 : Cond.methodLink RL 13 mX11_feed.1 ∈ lw_g := h_t3 131 rfl rfl
theorem dL_law_129 : decode cL_law 129 = .ok (.aload_n 2, 1) := by decide +kernel
theorem dL_law_130 : decode cL_law 130 = .ok (.aload_n 0, 1) := by decide +kernel
theorem dL_law_131 : decode cL_law 131 = .ok (.iload_n 3, 1) := by decide +kernel
theorem dL_law_132 : decode cL_law 132 = .ok (.iconst 1, 1) := by decide +kernel
theorem dL_law_133 : decode cL_law 133 = .ok (.iadd, 1) := by decide +kernel
theorem dL_law_134 : decode cL_law 134 = .ok (.iaload, 1) := by decide +kernel
theorem dL_law_135 : decode cL_law 135 = .ok (.aload_n 0, 1) := by decide +kernel
theorem dL_law_136 : decode cL_law 136 = .ok (.iload_n 3, 1) := by decide +kernel
theorem dL_law_137 : decode cL_law 137 = .ok (.iconst 2, 1) := by decide +kernel
theorem dL_law_138 : decode cL_law 138 = .ok (.iadd, 1) := by decide +kernel
theorem dL_law_139 : decode cL_law 139 = .ok (.iaload, 1) := by decide +kernel
theorem dL_law_140 : decode cL_law 140 = .ok (.aload_n 0, 1) := by decide +kernel
theorem dL_law_141 : decode cL_law 141 = .ok (.iload_n 3, 1) := by decide +kernel
theorem dL_law_142 : decode cL_law 142 = .ok (.iconst 3, 1) := by decide +kernel
theorem dL_law_143 : decode cL_law 143 = .ok (.iadd, 1) := by decide +kernel
theorem dL_law_144 : decode cL_law 144 = .ok (.iaload, 1) := by decide +kernel
theorem dL_law_145 : decode cL_law 145 = .ok (.aload_n 0, 1) := by decide +kernel
theorem dL_law_146 : decode cL_law 146 = .ok (.iload_n 3, 1) := by decide +kernel
theorem dL_law_147 : decode cL_law 147 = .ok (.iconst 4, 1) := by decide +kernel
theorem dL_law_148 : decode cL_law 148 = .ok (.iadd, 1) := by decide +kernel
theorem dL_law_149 : decode cL_law 149 = .ok (.iaload, 1) := by decide +kernel
theorem dL_law_150 : decode cL_law 150 = .ok (.aload_n 0, 1) := by decide +kernel
theorem dL_law_151 : decode cL_law 151 = .ok (.iload_n 3, 1) := by decide +kernel
theorem dL_law_152 : decode cL_law 152 = .ok (.iconst 5, 1) := by decide +kernel
theorem dL_law_153 : decode cL_law 153 = .ok (.iadd, 1) := by decide +kernel
theorem dL_law_154 : decode cL_law 154 = .ok (.iaload, 1) := by decide +kernel
theorem dL_law_155 : decode cL_law 155 = .ok (.invokevirtual 17, 3) := by decide +kernel
theorem kX12_feed : h_ml mX12_feed 5 := ⟨h_t7 202 rfl rfl, h_t1 16 rfl rfl, ⟨by decide, by decide, by decide +kernel⟩, by decide⟩
theorem sX12_feed : Cond.instanceMethod mX12_feed.1 ∈ lw_g ∧ Cond.selects mX12_feed.1.cls mX12_feed.1 mX12_feed.1 ∈ lw_g := ⟨h_t7 200 rfl rfl, h_t7 201 rfl rfl⟩
theorem lL_17 : Cond.methodLink RL 17 mX12_feed.1 ∈ lw_g := h_t7 199 rfl rfl
theorem dL_law_158 : decode cL_law 158 = .ok (.if_icmp .eq 334, 3) := by decide +kernel
theorem dL_law_161 : decode cL_law 161 = .ok (.iconst 0, 1) := by decide +kernel
theorem dL_law_162 : decode cL_law 162 = .ok (.ireturn, 1) := by decide +kernel
theorem dL_law_163 : decode cL_law 163 = .ok (.aload_n 1, 1) := by decide +kernel
theorem dL_law_164 : decode cL_law 164 = .ok (.invokevirtual 18, 3) := by decide +kernel
theorem kX11_connect : h_ml mX11_connect 0 := ⟨h_t3 142 rfl rfl, h_t1 1 rfl rfl, ⟨by decide, by decide, by decide +kernel⟩, by decide⟩
theorem sX11_connect : Cond.instanceMethod mX11_connect.1 ∈ lw_g ∧ Cond.selects mX11_connect.1.cls mX11_connect.1 mX11_connect.1 ∈ lw_g := ⟨h_t3 140 rfl rfl, h_t3 141 rfl rfl⟩
theorem lL_18 : Cond.methodLink RL 18 mX11_connect.1 ∈ lw_g := h_t3 139 rfl rfl
theorem dL_law_167 : decode cL_law 167 = .ok (.aload_n 2, 1) := by decide +kernel
theorem dL_law_168 : decode cL_law 168 = .ok (.invokevirtual 22, 3) := by decide +kernel
theorem kX12_connect : h_ml mX12_connect 0 := ⟨h_t7 227 rfl rfl, h_t1 16 rfl rfl, ⟨by decide, by decide, by decide +kernel⟩, by decide⟩
theorem sX12_connect : Cond.instanceMethod mX12_connect.1 ∈ lw_g ∧ Cond.selects mX12_connect.1.cls mX12_connect.1 mX12_connect.1 ∈ lw_g := ⟨h_t7 225 rfl rfl, h_t7 226 rfl rfl⟩
theorem lL_22 : Cond.methodLink RL 22 mX12_connect.1 ∈ lw_g := h_t7 224 rfl rfl
theorem dL_law_171 : decode cL_law 171 = .ok (.if_icmp .eq 321, 3) := by decide +kernel
theorem dL_law_174 : decode cL_law 174 = .ok (.iconst 0, 1) := by decide +kernel
theorem dL_law_175 : decode cL_law 175 = .ok (.ireturn, 1) := by decide +kernel
theorem dL_law_176 : decode cL_law 176 = .ok (.aload_n 1, 1) := by decide +kernel
theorem dL_law_177 : decode cL_law 177 = .ok (.aload_n 0, 1) := by decide +kernel
theorem dL_law_178 : decode cL_law 178 = .ok (.iload_n 3, 1) := by decide +kernel
theorem dL_law_179 : decode cL_law 179 = .ok (.iconst 1, 1) := by decide +kernel
theorem dL_law_180 : decode cL_law 180 = .ok (.iadd, 1) := by decide +kernel
theorem dL_law_181 : decode cL_law 181 = .ok (.iaload, 1) := by decide +kernel
theorem dL_law_182 : decode cL_law 182 = .ok (.invokevirtual 23, 3) := by decide +kernel
theorem kX11_mail : h_ml mX11_mail 1 := ⟨h_t3 173 rfl rfl, h_t1 1 rfl rfl, ⟨by decide, by decide, by decide +kernel⟩, by decide⟩
theorem sX11_mail : Cond.instanceMethod mX11_mail.1 ∈ lw_g ∧ Cond.selects mX11_mail.1.cls mX11_mail.1 mX11_mail.1 ∈ lw_g := ⟨h_t3 171 rfl rfl, h_t3 172 rfl rfl⟩
theorem lL_23 : Cond.methodLink RL 23 mX11_mail.1 ∈ lw_g := h_t3 170 rfl rfl
theorem dL_law_185 : decode cL_law 185 = .ok (.aload_n 2, 1) := by decide +kernel
theorem dL_law_186 : decode cL_law 186 = .ok (.aload_n 0, 1) := by decide +kernel
theorem dL_law_187 : decode cL_law 187 = .ok (.iload_n 3, 1) := by decide +kernel
theorem dL_law_188 : decode cL_law 188 = .ok (.iconst 1, 1) := by decide +kernel
theorem dL_law_189 : decode cL_law 189 = .ok (.iadd, 1) := by decide +kernel
theorem dL_law_190 : decode cL_law 190 = .ok (.iaload, 1) := by decide +kernel
theorem dL_law_191 : decode cL_law 191 = .ok (.invokevirtual 27, 3) := by decide +kernel
theorem kX12_mail : h_ml mX12_mail 1 := ⟨h_t8 6 rfl rfl, h_t1 16 rfl rfl, ⟨by decide, by decide, by decide +kernel⟩, by decide⟩
theorem sX12_mail : Cond.instanceMethod mX12_mail.1 ∈ lw_g ∧ Cond.selects mX12_mail.1.cls mX12_mail.1 mX12_mail.1 ∈ lw_g := ⟨h_t8 4 rfl rfl, h_t8 5 rfl rfl⟩
theorem lL_27 : Cond.methodLink RL 27 mX12_mail.1 ∈ lw_g := h_t8 3 rfl rfl
theorem dL_law_194 : decode cL_law 194 = .ok (.if_icmp .eq 298, 3) := by decide +kernel
theorem dL_law_197 : decode cL_law 197 = .ok (.iconst 0, 1) := by decide +kernel
theorem dL_law_198 : decode cL_law 198 = .ok (.ireturn, 1) := by decide +kernel
theorem dL_law_199 : decode cL_law 199 = .ok (.aload_n 1, 1) := by decide +kernel
theorem dL_law_200 : decode cL_law 200 = .ok (.aload_n 0, 1) := by decide +kernel
theorem dL_law_201 : decode cL_law 201 = .ok (.iload_n 3, 1) := by decide +kernel
theorem dL_law_202 : decode cL_law 202 = .ok (.iconst 1, 1) := by decide +kernel
theorem dL_law_203 : decode cL_law 203 = .ok (.iadd, 1) := by decide +kernel
theorem dL_law_204 : decode cL_law 204 = .ok (.iaload, 1) := by decide +kernel
theorem dL_law_205 : decode cL_law 205 = .ok (.aload_n 0, 1) := by decide +kernel
theorem dL_law_206 : decode cL_law 206 = .ok (.iload_n 3, 1) := by decide +kernel
theorem dL_law_207 : decode cL_law 207 = .ok (.iconst 2, 1) := by decide +kernel
theorem dL_law_208 : decode cL_law 208 = .ok (.iadd, 1) := by decide +kernel
theorem dL_law_209 : decode cL_law 209 = .ok (.iaload, 1) := by decide +kernel
theorem dL_law_210 : decode cL_law 210 = .ok (.invokevirtual 28, 3) := by decide +kernel
theorem kX11_manage : h_ml mX11_manage 2 := ⟨h_t6 217 rfl rfl, h_t1 1 rfl rfl, ⟨by decide, by decide, by decide +kernel⟩, by decide⟩
theorem sX11_manage : Cond.instanceMethod mX11_manage.1 ∈ lw_g ∧ Cond.selects mX11_manage.1.cls mX11_manage.1 mX11_manage.1 ∈ lw_g := ⟨h_t6 215 rfl rfl, h_t6 216 rfl rfl⟩
theorem lL_28 : Cond.methodLink RL 28 mX11_manage.1 ∈ lw_g := h_t6 214 rfl rfl
theorem dL_law_213 : decode cL_law 213 = .ok (.aload_n 2, 1) := by decide +kernel
theorem dL_law_214 : decode cL_law 214 = .ok (.aload_n 0, 1) := by decide +kernel
theorem dL_law_215 : decode cL_law 215 = .ok (.iload_n 3, 1) := by decide +kernel
theorem dL_law_216 : decode cL_law 216 = .ok (.iconst 1, 1) := by decide +kernel
theorem dL_law_217 : decode cL_law 217 = .ok (.iadd, 1) := by decide +kernel
theorem dL_law_218 : decode cL_law 218 = .ok (.iaload, 1) := by decide +kernel
theorem dL_law_219 : decode cL_law 219 = .ok (.aload_n 0, 1) := by decide +kernel
theorem dL_law_220 : decode cL_law 220 = .ok (.iload_n 3, 1) := by decide +kernel
theorem dL_law_221 : decode cL_law 221 = .ok (.iconst 2, 1) := by decide +kernel
theorem dL_law_222 : decode cL_law 222 = .ok (.iadd, 1) := by decide +kernel
theorem dL_law_223 : decode cL_law 223 = .ok (.iaload, 1) := by decide +kernel
theorem dL_law_224 : decode cL_law 224 = .ok (.invokevirtual 32, 3) := by decide +kernel
theorem kX12_manage : h_ml mX12_manage 2 := ⟨h_t11 34 rfl rfl, h_t1 16 rfl rfl, ⟨by decide, by decide, by decide +kernel⟩, by decide⟩
theorem sX12_manage : Cond.instanceMethod mX12_manage.1 ∈ lw_g ∧ Cond.selects mX12_manage.1.cls mX12_manage.1 mX12_manage.1 ∈ lw_g := ⟨h_t11 32 rfl rfl, h_t11 33 rfl rfl⟩
theorem lL_32 : Cond.methodLink RL 32 mX12_manage.1 ∈ lw_g := h_t11 31 rfl rfl
theorem dL_law_227 : decode cL_law 227 = .ok (.if_icmp .eq 265, 3) := by decide +kernel
theorem dL_law_230 : decode cL_law 230 = .ok (.iconst 0, 1) := by decide +kernel
theorem dL_law_231 : decode cL_law 231 = .ok (.ireturn, 1) := by decide +kernel
theorem dL_law_232 : decode cL_law 232 = .ok (.aload_n 1, 1) := by decide +kernel
theorem dL_law_233 : decode cL_law 233 = .ok (.aload_n 0, 1) := by decide +kernel
theorem dL_law_234 : decode cL_law 234 = .ok (.iload_n 3, 1) := by decide +kernel
theorem dL_law_235 : decode cL_law 235 = .ok (.iconst 1, 1) := by decide +kernel
theorem dL_law_236 : decode cL_law 236 = .ok (.iadd, 1) := by decide +kernel
theorem dL_law_237 : decode cL_law 237 = .ok (.iaload, 1) := by decide +kernel
theorem dL_law_238 : decode cL_law 238 = .ok (.invokevirtual 33, 3) := by decide +kernel
theorem kX11_reply : h_ml mX11_reply 1 := ⟨h_t7 141 rfl rfl, h_t1 1 rfl rfl, ⟨by decide, by decide, by decide +kernel⟩, by decide⟩
theorem sX11_reply : Cond.instanceMethod mX11_reply.1 ∈ lw_g ∧ Cond.selects mX11_reply.1.cls mX11_reply.1 mX11_reply.1 ∈ lw_g := ⟨h_t7 139 rfl rfl, h_t7 140 rfl rfl⟩
theorem lL_33 : Cond.methodLink RL 33 mX11_reply.1 ∈ lw_g := h_t7 138 rfl rfl
theorem dL_law_241 : decode cL_law 241 = .ok (.aload_n 2, 1) := by decide +kernel
theorem dL_law_242 : decode cL_law 242 = .ok (.aload_n 0, 1) := by decide +kernel
theorem dL_law_243 : decode cL_law 243 = .ok (.iload_n 3, 1) := by decide +kernel
theorem dL_law_244 : decode cL_law 244 = .ok (.iconst 1, 1) := by decide +kernel
theorem dL_law_245 : decode cL_law 245 = .ok (.iadd, 1) := by decide +kernel
theorem dL_law_246 : decode cL_law 246 = .ok (.iaload, 1) := by decide +kernel
theorem dL_law_247 : decode cL_law 247 = .ok (.invokevirtual 37, 3) := by decide +kernel
theorem kX12_reply : h_ml mX12_reply 1 := ⟨h_t7 211 rfl rfl, h_t1 16 rfl rfl, ⟨by decide, by decide, by decide +kernel⟩, by decide⟩
theorem sX12_reply : Cond.instanceMethod mX12_reply.1 ∈ lw_g ∧ Cond.selects mX12_reply.1.cls mX12_reply.1 mX12_reply.1 ∈ lw_g := ⟨h_t7 209 rfl rfl, h_t7 210 rfl rfl⟩
theorem lL_37 : Cond.methodLink RL 37 mX12_reply.1 ∈ lw_g := h_t7 208 rfl rfl
theorem dL_law_250 : decode cL_law 250 = .ok (.lcmp, 1) := by decide +kernel
theorem dL_law_251 : decode cL_law 251 = .ok (.ifCond .eq 241, 3) := by decide +kernel
theorem dL_law_254 : decode cL_law 254 = .ok (.iconst 0, 1) := by decide +kernel
theorem dL_law_255 : decode cL_law 255 = .ok (.ireturn, 1) := by decide +kernel
theorem dL_law_256 : decode cL_law 256 = .ok (.aload_n 1, 1) := by decide +kernel
theorem dL_law_257 : decode cL_law 257 = .ok (.invokevirtual 38, 3) := by decide +kernel
theorem kX11_tick : h_ml mX11_tick 0 := ⟨h_t7 150 rfl rfl, h_t1 1 rfl rfl, ⟨by decide, by decide, by decide +kernel⟩, by decide⟩
theorem sX11_tick : Cond.instanceMethod mX11_tick.1 ∈ lw_g ∧ Cond.selects mX11_tick.1.cls mX11_tick.1 mX11_tick.1 ∈ lw_g := ⟨h_t7 148 rfl rfl, h_t7 149 rfl rfl⟩
theorem lL_38 : Cond.methodLink RL 38 mX11_tick.1 ∈ lw_g := h_t7 147 rfl rfl
theorem dL_law_260 : decode cL_law 260 = .ok (.aload_n 2, 1) := by decide +kernel
theorem dL_law_261 : decode cL_law 261 = .ok (.invokevirtual 42, 3) := by decide +kernel
theorem kX12_tick : h_ml mX12_tick 0 := ⟨h_t13 186 rfl rfl, h_t1 16 rfl rfl, ⟨by decide, by decide, by decide +kernel⟩, by decide⟩
theorem sX12_tick : Cond.instanceMethod mX12_tick.1 ∈ lw_g ∧ Cond.selects mX12_tick.1.cls mX12_tick.1 mX12_tick.1 ∈ lw_g := ⟨h_t13 184 rfl rfl, h_t13 185 rfl rfl⟩
theorem lL_42 : Cond.methodLink RL 42 mX12_tick.1 ∈ lw_g := h_t13 183 rfl rfl
theorem dL_law_264 : decode cL_law 264 = .ok (.if_icmp .eq 228, 3) := by decide +kernel
theorem dL_law_267 : decode cL_law 267 = .ok (.iconst 0, 1) := by decide +kernel
theorem dL_law_268 : decode cL_law 268 = .ok (.ireturn, 1) := by decide +kernel
theorem dL_law_269 : decode cL_law 269 = .ok (.aload_n 1, 1) := by decide +kernel
theorem dL_law_270 : decode cL_law 270 = .ok (.aload_n 0, 1) := by decide +kernel
theorem dL_law_271 : decode cL_law 271 = .ok (.iload_n 3, 1) := by decide +kernel
theorem dL_law_272 : decode cL_law 272 = .ok (.iconst 1, 1) := by decide +kernel
theorem dL_law_273 : decode cL_law 273 = .ok (.iadd, 1) := by decide +kernel
theorem dL_law_274 : decode cL_law 274 = .ok (.iaload, 1) := by decide +kernel
theorem dL_law_275 : decode cL_law 275 = .ok (.invokevirtual 43, 3) := by decide +kernel
theorem kX11_cut : h_ml mX11_cut 1 := ⟨h_t7 154 rfl rfl, h_t1 1 rfl rfl, ⟨by decide, by decide, by decide +kernel⟩, by decide⟩
theorem sX11_cut : Cond.instanceMethod mX11_cut.1 ∈ lw_g ∧ Cond.selects mX11_cut.1.cls mX11_cut.1 mX11_cut.1 ∈ lw_g := ⟨h_t7 152 rfl rfl, h_t7 153 rfl rfl⟩
theorem lL_43 : Cond.methodLink RL 43 mX11_cut.1 ∈ lw_g := h_t7 151 rfl rfl
theorem dL_law_278 : decode cL_law 278 = .ok (.aload_n 2, 1) := by decide +kernel
theorem dL_law_279 : decode cL_law 279 = .ok (.aload_n 0, 1) := by decide +kernel
theorem dL_law_280 : decode cL_law 280 = .ok (.iload_n 3, 1) := by decide +kernel
theorem dL_law_281 : decode cL_law 281 = .ok (.iconst 1, 1) := by decide +kernel
theorem dL_law_282 : decode cL_law 282 = .ok (.iadd, 1) := by decide +kernel
theorem dL_law_283 : decode cL_law 283 = .ok (.iaload, 1) := by decide +kernel
theorem dL_law_284 : decode cL_law 284 = .ok (.invokevirtual 47, 3) := by decide +kernel
theorem kX12_cut : h_ml mX12_cut 1 := ⟨h_t13 190 rfl rfl, h_t1 16 rfl rfl, ⟨by decide, by decide, by decide +kernel⟩, by decide⟩
theorem sX12_cut : Cond.instanceMethod mX12_cut.1 ∈ lw_g ∧ Cond.selects mX12_cut.1.cls mX12_cut.1 mX12_cut.1 ∈ lw_g := ⟨h_t13 188 rfl rfl, h_t13 189 rfl rfl⟩
theorem lL_47 : Cond.methodLink RL 47 mX12_cut.1 ∈ lw_g := h_t13 187 rfl rfl
theorem dL_law_287 : decode cL_law 287 = .ok (.if_icmp .eq 205, 3) := by decide +kernel
theorem dL_law_290 : decode cL_law 290 = .ok (.iconst 0, 1) := by decide +kernel
theorem dL_law_291 : decode cL_law 291 = .ok (.ireturn, 1) := by decide +kernel
theorem dL_law_292 : decode cL_law 292 = .ok (.aload_n 1, 1) := by decide +kernel
theorem dL_law_293 : decode cL_law 293 = .ok (.invokevirtual 48, 3) := by decide +kernel
theorem kX11_start : h_ml mX11_start 0 := ⟨h_t7 158 rfl rfl, h_t1 1 rfl rfl, ⟨by decide, by decide, by decide +kernel⟩, by decide⟩
theorem sX11_start : Cond.instanceMethod mX11_start.1 ∈ lw_g ∧ Cond.selects mX11_start.1.cls mX11_start.1 mX11_start.1 ∈ lw_g := ⟨h_t7 156 rfl rfl, h_t7 157 rfl rfl⟩
theorem lL_48 : Cond.methodLink RL 48 mX11_start.1 ∈ lw_g := h_t7 155 rfl rfl
theorem dL_law_296 : decode cL_law 296 = .ok (.aload_n 2, 1) := by decide +kernel
theorem dL_law_297 : decode cL_law 297 = .ok (.invokevirtual 51, 3) := by decide +kernel
theorem kX12_start : h_ml mX12_start 0 := ⟨h_t13 194 rfl rfl, h_t1 16 rfl rfl, ⟨by decide, by decide, by decide +kernel⟩, by decide⟩
theorem sX12_start : Cond.instanceMethod mX12_start.1 ∈ lw_g ∧ Cond.selects mX12_start.1.cls mX12_start.1 mX12_start.1 ∈ lw_g := ⟨h_t13 192 rfl rfl, h_t13 193 rfl rfl⟩
theorem lL_51 : Cond.methodLink RL 51 mX12_start.1 ∈ lw_g := h_t13 191 rfl rfl
theorem dL_law_300 : decode cL_law 300 = .ok (.if_icmp .eq 192, 3) := by decide +kernel
theorem dL_law_303 : decode cL_law 303 = .ok (.iconst 0, 1) := by decide +kernel
theorem dL_law_304 : decode cL_law 304 = .ok (.ireturn, 1) := by decide +kernel
theorem dL_law_305 : decode cL_law 305 = .ok (.aload_n 1, 1) := by decide +kernel
theorem dL_law_306 : decode cL_law 306 = .ok (.aload_n 0, 1) := by decide +kernel
theorem dL_law_307 : decode cL_law 307 = .ok (.iload_n 3, 1) := by decide +kernel
theorem dL_law_308 : decode cL_law 308 = .ok (.iconst 1, 1) := by decide +kernel
theorem dL_law_309 : decode cL_law 309 = .ok (.iadd, 1) := by decide +kernel
theorem dL_law_310 : decode cL_law 310 = .ok (.iaload, 1) := by decide +kernel
theorem dL_law_311 : decode cL_law 311 = .ok (.aload_n 0, 1) := by decide +kernel
theorem dL_law_312 : decode cL_law 312 = .ok (.iload_n 3, 1) := by decide +kernel
theorem dL_law_313 : decode cL_law 313 = .ok (.iconst 2, 1) := by decide +kernel
theorem dL_law_314 : decode cL_law 314 = .ok (.iadd, 1) := by decide +kernel
theorem dL_law_315 : decode cL_law 315 = .ok (.iaload, 1) := by decide +kernel
theorem dL_law_316 : decode cL_law 316 = .ok (.invokevirtual 52, 3) := by decide +kernel
theorem kX11_messages : h_ml mX11_messages 2 := ⟨h_t7 162 rfl rfl, h_t1 1 rfl rfl, ⟨by decide, by decide, by decide +kernel⟩, by decide⟩
theorem sX11_messages : Cond.instanceMethod mX11_messages.1 ∈ lw_g ∧ Cond.selects mX11_messages.1.cls mX11_messages.1 mX11_messages.1 ∈ lw_g := ⟨h_t7 160 rfl rfl, h_t7 161 rfl rfl⟩
theorem lL_52 : Cond.methodLink RL 52 mX11_messages.1 ∈ lw_g := h_t7 159 rfl rfl
theorem dL_law_319 : decode cL_law 319 = .ok (.aload_n 2, 1) := by decide +kernel
theorem dL_law_320 : decode cL_law 320 = .ok (.aload_n 0, 1) := by decide +kernel
theorem dL_law_321 : decode cL_law 321 = .ok (.iload_n 3, 1) := by decide +kernel
theorem dL_law_322 : decode cL_law 322 = .ok (.iconst 1, 1) := by decide +kernel
theorem dL_law_323 : decode cL_law 323 = .ok (.iadd, 1) := by decide +kernel
theorem dL_law_324 : decode cL_law 324 = .ok (.iaload, 1) := by decide +kernel
theorem dL_law_325 : decode cL_law 325 = .ok (.aload_n 0, 1) := by decide +kernel
theorem dL_law_326 : decode cL_law 326 = .ok (.iload_n 3, 1) := by decide +kernel
theorem dL_law_327 : decode cL_law 327 = .ok (.iconst 2, 1) := by decide +kernel
theorem dL_law_328 : decode cL_law 328 = .ok (.iadd, 1) := by decide +kernel
theorem dL_law_329 : decode cL_law 329 = .ok (.iaload, 1) := by decide +kernel
theorem dL_law_330 : decode cL_law 330 = .ok (.invokevirtual 55, 3) := by decide +kernel
theorem kX12_messages : h_ml mX12_messages 2 := ⟨h_t13 198 rfl rfl, h_t1 16 rfl rfl, ⟨by decide, by decide, by decide +kernel⟩, by decide⟩
theorem sX12_messages : Cond.instanceMethod mX12_messages.1 ∈ lw_g ∧ Cond.selects mX12_messages.1.cls mX12_messages.1 mX12_messages.1 ∈ lw_g := ⟨h_t13 196 rfl rfl, h_t13 197 rfl rfl⟩
theorem lL_55 : Cond.methodLink RL 55 mX12_messages.1 ∈ lw_g := h_t13 195 rfl rfl
theorem dL_law_333 : decode cL_law 333 = .ok (.if_icmp .eq 159, 3) := by decide +kernel
theorem dL_law_336 : decode cL_law 336 = .ok (.iconst 0, 1) := by decide +kernel
theorem dL_law_337 : decode cL_law 337 = .ok (.ireturn, 1) := by decide +kernel
theorem dL_law_338 : decode cL_law 338 = .ok (.aload_n 1, 1) := by decide +kernel
theorem dL_law_339 : decode cL_law 339 = .ok (.aload_n 0, 1) := by decide +kernel
theorem dL_law_340 : decode cL_law 340 = .ok (.iload_n 3, 1) := by decide +kernel
theorem dL_law_341 : decode cL_law 341 = .ok (.iconst 1, 1) := by decide +kernel
theorem dL_law_342 : decode cL_law 342 = .ok (.iadd, 1) := by decide +kernel
theorem dL_law_343 : decode cL_law 343 = .ok (.iaload, 1) := by decide +kernel
theorem dL_law_344 : decode cL_law 344 = .ok (.aload_n 0, 1) := by decide +kernel
theorem dL_law_345 : decode cL_law 345 = .ok (.iload_n 3, 1) := by decide +kernel
theorem dL_law_346 : decode cL_law 346 = .ok (.iconst 2, 1) := by decide +kernel
theorem dL_law_347 : decode cL_law 347 = .ok (.iadd, 1) := by decide +kernel
theorem dL_law_348 : decode cL_law 348 = .ok (.iaload, 1) := by decide +kernel
theorem dL_law_349 : decode cL_law 349 = .ok (.aload_n 0, 1) := by decide +kernel
theorem dL_law_350 : decode cL_law 350 = .ok (.iload_n 3, 1) := by decide +kernel
theorem dL_law_351 : decode cL_law 351 = .ok (.iconst 3, 1) := by decide +kernel
theorem dL_law_352 : decode cL_law 352 = .ok (.iadd, 1) := by decide +kernel
theorem dL_law_353 : decode cL_law 353 = .ok (.iaload, 1) := by decide +kernel
theorem dL_law_354 : decode cL_law 354 = .ok (.aload_n 0, 1) := by decide +kernel
theorem dL_law_355 : decode cL_law 355 = .ok (.iload_n 3, 1) := by decide +kernel
theorem dL_law_356 : decode cL_law 356 = .ok (.iconst 4, 1) := by decide +kernel
theorem dL_law_357 : decode cL_law 357 = .ok (.iadd, 1) := by decide +kernel
theorem dL_law_358 : decode cL_law 358 = .ok (.iaload, 1) := by decide +kernel
theorem dL_law_359 : decode cL_law 359 = .ok (.invokevirtual 56, 3) := by decide +kernel
theorem kX11_message : h_ml mX11_message 4 := ⟨h_t7 174 rfl rfl, h_t1 1 rfl rfl, ⟨by decide, by decide, by decide +kernel⟩, by decide⟩
theorem sX11_message : Cond.instanceMethod mX11_message.1 ∈ lw_g ∧ Cond.selects mX11_message.1.cls mX11_message.1 mX11_message.1 ∈ lw_g := ⟨h_t7 172 rfl rfl, h_t7 173 rfl rfl⟩
theorem lL_56 : Cond.methodLink RL 56 mX11_message.1 ∈ lw_g := h_t7 171 rfl rfl
theorem dL_law_362 : decode cL_law 362 = .ok (.aload_n 2, 1) := by decide +kernel
theorem dL_law_363 : decode cL_law 363 = .ok (.aload_n 0, 1) := by decide +kernel
theorem dL_law_364 : decode cL_law 364 = .ok (.iload_n 3, 1) := by decide +kernel
theorem dL_law_365 : decode cL_law 365 = .ok (.iconst 1, 1) := by decide +kernel
theorem dL_law_366 : decode cL_law 366 = .ok (.iadd, 1) := by decide +kernel
theorem dL_law_367 : decode cL_law 367 = .ok (.iaload, 1) := by decide +kernel
theorem dL_law_368 : decode cL_law 368 = .ok (.aload_n 0, 1) := by decide +kernel
theorem dL_law_369 : decode cL_law 369 = .ok (.iload_n 3, 1) := by decide +kernel
theorem dL_law_370 : decode cL_law 370 = .ok (.iconst 2, 1) := by decide +kernel
theorem dL_law_371 : decode cL_law 371 = .ok (.iadd, 1) := by decide +kernel
theorem dL_law_372 : decode cL_law 372 = .ok (.iaload, 1) := by decide +kernel
theorem dL_law_373 : decode cL_law 373 = .ok (.aload_n 0, 1) := by decide +kernel
theorem dL_law_374 : decode cL_law 374 = .ok (.iload_n 3, 1) := by decide +kernel
theorem dL_law_375 : decode cL_law 375 = .ok (.iconst 3, 1) := by decide +kernel
theorem dL_law_376 : decode cL_law 376 = .ok (.iadd, 1) := by decide +kernel
theorem dL_law_377 : decode cL_law 377 = .ok (.iaload, 1) := by decide +kernel
theorem dL_law_378 : decode cL_law 378 = .ok (.aload_n 0, 1) := by decide +kernel
theorem dL_law_379 : decode cL_law 379 = .ok (.iload_n 3, 1) := by decide +kernel
theorem dL_law_380 : decode cL_law 380 = .ok (.iconst 4, 1) := by decide +kernel
theorem dL_law_381 : decode cL_law 381 = .ok (.iadd, 1) := by decide +kernel
theorem dL_law_382 : decode cL_law 382 = .ok (.iaload, 1) := by decide +kernel
theorem dL_law_383 : decode cL_law 383 = .ok (.invokevirtual 60, 3) := by decide +kernel
theorem kX12_message : h_ml mX12_message 4 := ⟨h_t13 206 rfl rfl, h_t1 16 rfl rfl, ⟨by decide, by decide, by decide +kernel⟩, by decide⟩
theorem sX12_message : Cond.instanceMethod mX12_message.1 ∈ lw_g ∧ Cond.selects mX12_message.1.cls mX12_message.1 mX12_message.1 ∈ lw_g := ⟨h_t13 204 rfl rfl, h_t13 205 rfl rfl⟩
theorem lL_60 : Cond.methodLink RL 60 mX12_message.1 ∈ lw_g := h_t13 203 rfl rfl
theorem dL_law_386 : decode cL_law 386 = .ok (.if_icmp .eq 106, 3) := by decide +kernel
theorem dL_law_389 : decode cL_law 389 = .ok (.iconst 0, 1) := by decide +kernel
theorem dL_law_390 : decode cL_law 390 = .ok (.ireturn, 1) := by decide +kernel
theorem dL_law_391 : decode cL_law 391 = .ok (.aload_n 1, 1) := by decide +kernel
theorem dL_law_392 : decode cL_law 392 = .ok (.aload_n 0, 1) := by decide +kernel
theorem dL_law_393 : decode cL_law 393 = .ok (.iload_n 3, 1) := by decide +kernel
theorem dL_law_394 : decode cL_law 394 = .ok (.iconst 1, 1) := by decide +kernel
theorem dL_law_395 : decode cL_law 395 = .ok (.iadd, 1) := by decide +kernel
theorem dL_law_396 : decode cL_law 396 = .ok (.iaload, 1) := by decide +kernel
theorem dL_law_397 : decode cL_law 397 = .ok (.aload_n 0, 1) := by decide +kernel
theorem dL_law_398 : decode cL_law 398 = .ok (.iload_n 3, 1) := by decide +kernel
theorem dL_law_399 : decode cL_law 399 = .ok (.iconst 2, 1) := by decide +kernel
theorem dL_law_400 : decode cL_law 400 = .ok (.iadd, 1) := by decide +kernel
theorem dL_law_401 : decode cL_law 401 = .ok (.iaload, 1) := by decide +kernel
theorem dL_law_402 : decode cL_law 402 = .ok (.invokevirtual 61, 3) := by decide +kernel
theorem kX11_bytes : h_ml mX11_bytes 2 := ⟨h_t7 182 rfl rfl, h_t1 1 rfl rfl, ⟨by decide, by decide, by decide +kernel⟩, by decide⟩
theorem sX11_bytes : Cond.instanceMethod mX11_bytes.1 ∈ lw_g ∧ Cond.selects mX11_bytes.1.cls mX11_bytes.1 mX11_bytes.1 ∈ lw_g := ⟨h_t7 180 rfl rfl, h_t7 181 rfl rfl⟩
theorem lL_61 : Cond.methodLink RL 61 mX11_bytes.1 ∈ lw_g := h_t7 179 rfl rfl
theorem dL_law_405 : decode cL_law 405 = .ok (.aload_n 2, 1) := by decide +kernel
theorem dL_law_406 : decode cL_law 406 = .ok (.aload_n 0, 1) := by decide +kernel
theorem dL_law_407 : decode cL_law 407 = .ok (.iload_n 3, 1) := by decide +kernel
theorem dL_law_408 : decode cL_law 408 = .ok (.iconst 1, 1) := by decide +kernel
theorem dL_law_409 : decode cL_law 409 = .ok (.iadd, 1) := by decide +kernel
theorem dL_law_410 : decode cL_law 410 = .ok (.iaload, 1) := by decide +kernel
theorem dL_law_411 : decode cL_law 411 = .ok (.aload_n 0, 1) := by decide +kernel
theorem dL_law_412 : decode cL_law 412 = .ok (.iload_n 3, 1) := by decide +kernel
theorem dL_law_413 : decode cL_law 413 = .ok (.iconst 2, 1) := by decide +kernel
theorem dL_law_414 : decode cL_law 414 = .ok (.iadd, 1) := by decide +kernel
theorem dL_law_415 : decode cL_law 415 = .ok (.iaload, 1) := by decide +kernel
theorem dL_law_416 : decode cL_law 416 = .ok (.invokevirtual 65, 3) := by decide +kernel
theorem kX12_bytes : h_ml mX12_bytes 2 := ⟨h_t13 210 rfl rfl, h_t1 16 rfl rfl, ⟨by decide, by decide, by decide +kernel⟩, by decide⟩
theorem sX12_bytes : Cond.instanceMethod mX12_bytes.1 ∈ lw_g ∧ Cond.selects mX12_bytes.1.cls mX12_bytes.1 mX12_bytes.1 ∈ lw_g := ⟨h_t13 208 rfl rfl, h_t13 209 rfl rfl⟩
theorem lL_65 : Cond.methodLink RL 65 mX12_bytes.1 ∈ lw_g := h_t13 207 rfl rfl
theorem dL_law_419 : decode cL_law 419 = .ok (.lcmp, 1) := by decide +kernel
theorem dL_law_420 : decode cL_law 420 = .ok (.ifCond .eq 72, 3) := by decide +kernel
theorem dL_law_423 : decode cL_law 423 = .ok (.iconst 0, 1) := by decide +kernel
theorem dL_law_424 : decode cL_law 424 = .ok (.ireturn, 1) := by decide +kernel
theorem dL_law_425 : decode cL_law 425 = .ok (.aload_n 1, 1) := by decide +kernel
theorem dL_law_426 : decode cL_law 426 = .ok (.aload_n 0, 1) := by decide +kernel
theorem dL_law_427 : decode cL_law 427 = .ok (.iload_n 3, 1) := by decide +kernel
theorem dL_law_428 : decode cL_law 428 = .ok (.iconst 1, 1) := by decide +kernel
theorem dL_law_429 : decode cL_law 429 = .ok (.iadd, 1) := by decide +kernel
theorem dL_law_430 : decode cL_law 430 = .ok (.iaload, 1) := by decide +kernel
theorem dL_law_431 : decode cL_law 431 = .ok (.aload_n 0, 1) := by decide +kernel
theorem dL_law_432 : decode cL_law 432 = .ok (.iload_n 3, 1) := by decide +kernel
theorem dL_law_433 : decode cL_law 433 = .ok (.iconst 2, 1) := by decide +kernel
theorem dL_law_434 : decode cL_law 434 = .ok (.iadd, 1) := by decide +kernel
theorem dL_law_435 : decode cL_law 435 = .ok (.iaload, 1) := by decide +kernel
theorem dL_law_436 : decode cL_law 436 = .ok (.aload_n 0, 1) := by decide +kernel
theorem dL_law_437 : decode cL_law 437 = .ok (.iload_n 3, 1) := by decide +kernel
theorem dL_law_438 : decode cL_law 438 = .ok (.iconst 3, 1) := by decide +kernel
theorem dL_law_439 : decode cL_law 439 = .ok (.iadd, 1) := by decide +kernel
theorem dL_law_440 : decode cL_law 440 = .ok (.iaload, 1) := by decide +kernel
theorem dL_law_441 : decode cL_law 441 = .ok (.invokevirtual 66, 3) := by decide +kernel
theorem kX11_name : h_ml mX11_name 3 := ⟨h_t7 190 rfl rfl, h_t1 1 rfl rfl, ⟨by decide, by decide, by decide +kernel⟩, by decide⟩
theorem sX11_name : Cond.instanceMethod mX11_name.1 ∈ lw_g ∧ Cond.selects mX11_name.1.cls mX11_name.1 mX11_name.1 ∈ lw_g := ⟨h_t7 188 rfl rfl, h_t7 189 rfl rfl⟩
theorem lL_66 : Cond.methodLink RL 66 mX11_name.1 ∈ lw_g := h_t7 187 rfl rfl
theorem dL_law_444 : decode cL_law 444 = .ok (.aload_n 2, 1) := by decide +kernel
theorem dL_law_445 : decode cL_law 445 = .ok (.aload_n 0, 1) := by decide +kernel
theorem dL_law_446 : decode cL_law 446 = .ok (.iload_n 3, 1) := by decide +kernel
theorem dL_law_447 : decode cL_law 447 = .ok (.iconst 1, 1) := by decide +kernel
theorem dL_law_448 : decode cL_law 448 = .ok (.iadd, 1) := by decide +kernel
theorem dL_law_449 : decode cL_law 449 = .ok (.iaload, 1) := by decide +kernel
theorem dL_law_450 : decode cL_law 450 = .ok (.aload_n 0, 1) := by decide +kernel
theorem dL_law_451 : decode cL_law 451 = .ok (.iload_n 3, 1) := by decide +kernel
theorem dL_law_452 : decode cL_law 452 = .ok (.iconst 2, 1) := by decide +kernel
theorem dL_law_453 : decode cL_law 453 = .ok (.iadd, 1) := by decide +kernel
theorem dL_law_454 : decode cL_law 454 = .ok (.iaload, 1) := by decide +kernel
theorem dL_law_455 : decode cL_law 455 = .ok (.aload_n 0, 1) := by decide +kernel
theorem dL_law_456 : decode cL_law 456 = .ok (.iload_n 3, 1) := by decide +kernel
theorem dL_law_457 : decode cL_law 457 = .ok (.iconst 3, 1) := by decide +kernel
theorem dL_law_458 : decode cL_law 458 = .ok (.iadd, 1) := by decide +kernel
theorem dL_law_459 : decode cL_law 459 = .ok (.iaload, 1) := by decide +kernel
theorem dL_law_460 : decode cL_law 460 = .ok (.invokevirtual 70, 3) := by decide +kernel
theorem kX12_name : h_ml mX12_name 3 := ⟨h_t13 218 rfl rfl, h_t1 16 rfl rfl, ⟨by decide, by decide, by decide +kernel⟩, by decide⟩
theorem sX12_name : Cond.instanceMethod mX12_name.1 ∈ lw_g ∧ Cond.selects mX12_name.1.cls mX12_name.1 mX12_name.1 ∈ lw_g := ⟨h_t13 216 rfl rfl, h_t13 217 rfl rfl⟩
theorem lL_70 : Cond.methodLink RL 70 mX12_name.1 ∈ lw_g := h_t13 215 rfl rfl
theorem dL_law_463 : decode cL_law 463 = .ok (.lcmp, 1) := by decide +kernel
theorem dL_law_464 : decode cL_law 464 = .ok (.ifCond .eq 28, 3) := by decide +kernel
theorem dL_law_467 : decode cL_law 467 = .ok (.iconst 0, 1) := by decide +kernel
theorem dL_law_468 : decode cL_law 468 = .ok (.ireturn, 1) := by decide +kernel
theorem dL_law_469 : decode cL_law 469 = .ok (.aload_n 1, 1) := by decide +kernel
theorem dL_law_470 : decode cL_law 470 = .ok (.aload_n 0, 1) := by decide +kernel
theorem dL_law_471 : decode cL_law 471 = .ok (.iload_n 3, 1) := by decide +kernel
theorem dL_law_472 : decode cL_law 472 = .ok (.iconst 1, 1) := by decide +kernel
theorem dL_law_473 : decode cL_law 473 = .ok (.iadd, 1) := by decide +kernel
theorem dL_law_474 : decode cL_law 474 = .ok (.iaload, 1) := by decide +kernel
theorem dL_law_475 : decode cL_law 475 = .ok (.invokevirtual 71, 3) := by decide +kernel
theorem kX11_count : h_ml mX11_count 1 := ⟨h_t7 194 rfl rfl, h_t1 1 rfl rfl, ⟨by decide, by decide, by decide +kernel⟩, by decide⟩
theorem sX11_count : Cond.instanceMethod mX11_count.1 ∈ lw_g ∧ Cond.selects mX11_count.1.cls mX11_count.1 mX11_count.1 ∈ lw_g := ⟨h_t7 192 rfl rfl, h_t7 193 rfl rfl⟩
theorem lL_71 : Cond.methodLink RL 71 mX11_count.1 ∈ lw_g := h_t7 191 rfl rfl
theorem dL_law_478 : decode cL_law 478 = .ok (.aload_n 2, 1) := by decide +kernel
theorem dL_law_479 : decode cL_law 479 = .ok (.aload_n 0, 1) := by decide +kernel
theorem dL_law_480 : decode cL_law 480 = .ok (.iload_n 3, 1) := by decide +kernel
theorem dL_law_481 : decode cL_law 481 = .ok (.iconst 1, 1) := by decide +kernel
theorem dL_law_482 : decode cL_law 482 = .ok (.iadd, 1) := by decide +kernel
theorem dL_law_483 : decode cL_law 483 = .ok (.iaload, 1) := by decide +kernel
theorem dL_law_484 : decode cL_law 484 = .ok (.invokevirtual 74, 3) := by decide +kernel
theorem kX12_count : h_ml mX12_count 1 := ⟨h_t13 222 rfl rfl, h_t1 16 rfl rfl, ⟨by decide, by decide, by decide +kernel⟩, by decide⟩
theorem sX12_count : Cond.instanceMethod mX12_count.1 ∈ lw_g ∧ Cond.selects mX12_count.1.cls mX12_count.1 mX12_count.1 ∈ lw_g := ⟨h_t13 220 rfl rfl, h_t13 221 rfl rfl⟩
theorem lL_74 : Cond.methodLink RL 74 mX12_count.1 ∈ lw_g := h_t13 219 rfl rfl
theorem dL_law_487 : decode cL_law 487 = .ok (.if_icmp .eq 5, 3) := by decide +kernel
theorem dL_law_490 : decode cL_law 490 = .ok (.iconst 0, 1) := by decide +kernel
theorem dL_law_491 : decode cL_law 491 = .ok (.ireturn, 1) := by decide +kernel
theorem dL_law_492 : decode cL_law 492 = .ok (.iinc 3 6, 3) := by decide +kernel
theorem dL_law_495 : decode cL_law 495 = .ok (.goto (-477), 3) := by decide +kernel
theorem dL_law_498 : decode cL_law 498 = .ok (.iconst 1, 1) := by decide +kernel
theorem dL_law_499 : decode cL_law 499 = .ok (.ireturn, 1) := by decide +kernel
/-- the law's method, whatever its name -/
abbrev mL_law (nm : String) : hM := (⟨RL, nm, "([I)Z"⟩, cL_law, 4, some .boolean)
section HL
variable {l : Launch} {D : va_G} {ty : List (ClassId × FieldType)} {B : Nat} {Z : State → Heap → Prop} {M : hM} {d : Nat} {σ0 σ : hS} {P : hS → Option Value → Prop} {pc : Nat} {lv : List (Nat × Value)} {st : List Value}
/-- the law's script -/
theorem g_sld {b L : Nat} {xs : Nat → Int32} {i : Int32} (hX : ∀ (U : State) (H : Heap), Z U H → va_X b L xs U H) (hin : vp_in i L) (hd : decode M.2.1 pc = .ok (.iaload, 1)) (k9 : G l D ty B Z M d σ0 P σ (pc + 1) lv (.int (xs i.toNatClampNeg) :: st)) : G l D ty B Z M d σ0 P σ pc lv (.int i :: .ref b :: st) := by
  intro p e s m args below meth c C H locs ls hR hS h3 hl9
  obtain ⟨scr, h1, h2, h3', h4, h5⟩ := hX s H hR.2.1
  have hlt : i.toNatClampNeg < L := Nat.not_le.mp fun q => hin (Or.inr q)
  exact W.iald (v := .int (xs i.toNatClampNeg)) C.1 C.2.1 h1 h2 h3' (by rw [h4]; exact hin) (h5 _ hlt) rfl rfl hd (k9 p e s m args below meth c C H locs ls hR hS h3 hl9)
theorem g_slen {b L : Nat} {xs : Nat → Int32} (hX : ∀ (U : State) (H : Heap), Z U H → va_X b L xs U H) (hd : decode M.2.1 pc = .ok (.arraylength, 1)) (k9 : G l D ty B Z M d σ0 P σ (pc + 1) lv (.int (nI L) :: st)) : G l D ty B Z M d σ0 P σ pc lv (.ref b :: st) := by
  intro p e s m args below meth c C H locs ls hR hS h3 hl9
  obtain ⟨scr, h1, h2, h3', h4, h5⟩ := hX s H hR.2.1
  exact W.alen (n := nI L) C.1 C.2.1 h1 h2 (by rw [h4]; rfl) rfl rfl hd (k9 p e s m args below meth c C H locs ls hR hS h3 hl9)
end HL
/-- class and reference, called alike, answer alike; I before, I' behind -/
def l_stI (l : Launch) (D : va_G) (A : Nat → ClassId) (B : Nat) (Z : State → Heap → Prop) (d ax am : Nat) (I I' : hS → Prop) (Mc Mm : hM) (as : List Value) : Prop :=
  ∀ σ : hS, I σ → h_rc D (h_ty A) B Z σ RX11 ax ∧ ∃ P : hS → Option Value → Prop, Ct l D (h_ty A) B Z d Mc σ (.ref ax :: as) P ∧ ∀ (σ1 : hS) (v : Option Value), P σ1 v →
    ∃ x : Int32, v = some (.int x) ∧ h_rc D (h_ty A) B Z σ1 RX12 am ∧ ∃ P' : hS → Option Value → Prop, Ct l D (h_ty A) B Z d Mm σ1 (.ref am :: as) P' ∧ ∀ (σ2 : hS) (v' : Option Value), P' σ2 v' → v' = some (.int x) ∧ I' σ2
def l_stL (l : Launch) (D : va_G) (A : Nat → ClassId) (B : Nat) (Z : State → Heap → Prop) (d ax am : Nat) (I I' : hS → Prop) (Mc Mm : hM) (as : List Value) : Prop :=
  ∀ σ : hS, I σ → h_rc D (h_ty A) B Z σ RX11 ax ∧ ∃ P : hS → Option Value → Prop, Ct l D (h_ty A) B Z d Mc σ (.ref ax :: as) P ∧ ∀ (σ1 : hS) (v : Option Value), P σ1 v →
    ∃ x : Int64, v = some (.long x) ∧ h_rc D (h_ty A) B Z σ1 RX12 am ∧ ∃ P' : hS → Option Value → Prop, Ct l D (h_ty A) B Z d Mm σ1 (.ref am :: as) P' ∧ ∀ (σ2 : hS) (v' : Option Value), P' σ2 v' → v' = some (.long x) ∧ I' σ2
/-- all thirteen calls, and none -/
def l_all (l : Launch) (D : va_G) (A : Nat → ClassId) (B : Nat) (Z : State → Heap → Prop) (d ax am : Nat) (I I' : hS → Prop) : Prop := (∀ σ : hS, I σ → I' σ) ∧
  (∀ x0 x1 x2 x3 x4 : Int32, l_stI l D A B Z d ax am I I' mX11_feed mX12_feed [.int x0, .int x1, .int x2, .int x3, .int x4]) ∧
  (l_stI l D A B Z d ax am I I' mX11_connect mX12_connect []) ∧
  (∀ x0 : Int32, l_stI l D A B Z d ax am I I' mX11_mail mX12_mail [.int x0]) ∧
  (∀ x0 x1 : Int32, l_stI l D A B Z d ax am I I' mX11_manage mX12_manage [.int x0, .int x1]) ∧
  (∀ x0 : Int32, l_stL l D A B Z d ax am I I' mX11_reply mX12_reply [.int x0]) ∧
  (l_stI l D A B Z d ax am I I' mX11_tick mX12_tick []) ∧
  (∀ x0 : Int32, l_stI l D A B Z d ax am I I' mX11_cut mX12_cut [.int x0]) ∧
  (l_stI l D A B Z d ax am I I' mX11_start mX12_start []) ∧
  (∀ x0 x1 : Int32, l_stI l D A B Z d ax am I I' mX11_messages mX12_messages [.int x0, .int x1]) ∧
  (∀ x0 x1 x2 x3 : Int32, l_stI l D A B Z d ax am I I' mX11_message mX12_message [.int x0, .int x1, .int x2, .int x3]) ∧
  (∀ x0 x1 : Int32, l_stL l D A B Z d ax am I I' mX11_bytes mX12_bytes [.int x0, .int x1]) ∧
  (∀ x0 x1 x2 : Int32, l_stL l D A B Z d ax am I I' mX11_name mX12_name [.int x0, .int x1, .int x2]) ∧
  (∀ x0 : Int32, l_stI l D A B Z d ax am I I' mX11_count mX12_count [.int x0])
theorem lg_same (x : Int64) : lg_cmp x x = 0 := (lg_cmp_eq x x).mpr rfl
set_option maxRecDepth 100000 in
set_option maxHeartbeats 4000000 in
/-- the law: feed -/
theorem law_feed {l : Launch} {D : va_G} {A : Nat → ClassId} {B : Nat} {Z : State → Heap → Prop} (hZ : h_st B Z) {nm : String} {d d1 ax am b L : Nat} {xs : Nat → Int32} {I I' : hS → Prop} {σ0 : hS} {P : hS → Option Value → Prop} (hX : ∀ (U : State) (H : Heap), Z U H → va_X b L xs U H) (hL : L ≤ 3072) (hd : d1 + 1 ≤ d) (ha : l_all l D A B Z d1 ax am I I') {i : Nat} (hk : ∀ σ2 : hS, I' σ2 → G l D (h_ty A) B Z (mL_law nm) d σ0 P σ2 492 [(3, .int (nI i)), (0, .ref b), (1, .ref ax), (2, .ref am)] []) (hi : i + 6 ≤ L) {σ : hS} (hI : I σ) : G l D (h_ty A) B Z (mL_law nm) d σ0 P σ 100 [(3, .int (nI i)), (0, .ref b), (1, .ref ax), (2, .ref am)] [] := by
  refine g_aload_n dL_law_100 rfl (List.mem_of_getElem? (i := 2) rfl) ?_
  refine g_aload_n dL_law_101 rfl (List.mem_of_getElem? (i := 1) rfl) ?_
  refine g_iload_n dL_law_102 rfl (List.mem_of_getElem? (i := 0) rfl) ?_
  refine g_iconst (v := 1) dL_law_103 (by decide) ?_
  refine g_iadd dL_law_104 ?_
  refine g_eqi (nI (i + 1)) (nI_add i 1) ?_
  refine g_sld hX (vp_in_nI (by omega) (by omega)) dL_law_105 ?_
  refine g_eqi (xs (i + 1)) (by rw [nI_clamp (by omega)]) ?_
  refine g_aload_n dL_law_106 rfl (List.mem_of_getElem? (i := 1) rfl) ?_
  refine g_iload_n dL_law_107 rfl (List.mem_of_getElem? (i := 0) rfl) ?_
  refine g_iconst (v := 2) dL_law_108 (by decide) ?_
  refine g_iadd dL_law_109 ?_
  refine g_eqi (nI (i + 2)) (nI_add i 2) ?_
  refine g_sld hX (vp_in_nI (by omega) (by omega)) dL_law_110 ?_
  refine g_eqi (xs (i + 2)) (by rw [nI_clamp (by omega)]) ?_
  refine g_aload_n dL_law_111 rfl (List.mem_of_getElem? (i := 1) rfl) ?_
  refine g_iload_n dL_law_112 rfl (List.mem_of_getElem? (i := 0) rfl) ?_
  refine g_iconst (v := 3) dL_law_113 (by decide) ?_
  refine g_iadd dL_law_114 ?_
  refine g_eqi (nI (i + 3)) (nI_add i 3) ?_
  refine g_sld hX (vp_in_nI (by omega) (by omega)) dL_law_115 ?_
  refine g_eqi (xs (i + 3)) (by rw [nI_clamp (by omega)]) ?_
  refine g_aload_n dL_law_116 rfl (List.mem_of_getElem? (i := 1) rfl) ?_
  refine g_iload_n dL_law_117 rfl (List.mem_of_getElem? (i := 0) rfl) ?_
  refine g_iconst (v := 4) dL_law_118 (by decide) ?_
  refine g_iadd dL_law_119 ?_
  refine g_eqi (nI (i + 4)) (nI_add i 4) ?_
  refine g_sld hX (vp_in_nI (by omega) (by omega)) dL_law_120 ?_
  refine g_eqi (xs (i + 4)) (by rw [nI_clamp (by omega)]) ?_
  refine g_aload_n dL_law_121 rfl (List.mem_of_getElem? (i := 1) rfl) ?_
  refine g_iload_n dL_law_122 rfl (List.mem_of_getElem? (i := 0) rfl) ?_
  refine g_iconst (v := 5) dL_law_123 (by decide) ?_
  refine g_iadd dL_law_124 ?_
  refine g_eqi (nI (i + 5)) (nI_add i 5) ?_
  refine g_sld hX (vp_in_nI (by omega) (by omega)) dL_law_125 ?_
  refine g_eqi (xs (i + 5)) (by rw [nI_clamp (by omega)]) ?_
  obtain ⟨hr1, Pc, hc1, hc2⟩ := (ha.2.1 (xs (i + 1)) (xs (i + 2)) (xs (i + 3)) (xs (i + 4)) (xs (i + 5))) _ hI
  refine g_cv (d1 := d1) (As := [.int (xs (i + 1)), .int (xs (i + 2)), .int (xs (i + 3)), .int (xs (i + 4)), .int (xs (i + 5))]) (st := []) hc1 hr1 kX11_feed lL_13 sX11_feed (by omega) (Nat.le_of_ble_eq_true rfl) dL_law_126 (fun τ126 v126 h126 z126 => ?_)
  obtain ⟨x, rfl, hrm, Pm, hm1, hm2⟩ := hc2 _ _ h126
  show G _ _ _ _ _ _ _ _ _ _ 129 [(3, .int (nI i)), (0, .ref b), (1, .ref ax), (2, .ref am)] [.int x]
  refine g_aload_n dL_law_129 rfl (List.mem_of_getElem? (i := 3) rfl) ?_
  refine g_aload_n dL_law_130 rfl (List.mem_of_getElem? (i := 1) rfl) ?_
  refine g_iload_n dL_law_131 rfl (List.mem_of_getElem? (i := 0) rfl) ?_
  refine g_iconst (v := 1) dL_law_132 (by decide) ?_
  refine g_iadd dL_law_133 ?_
  refine g_eqi (nI (i + 1)) (nI_add i 1) ?_
  refine g_sld hX (vp_in_nI (by omega) (by omega)) dL_law_134 ?_
  refine g_eqi (xs (i + 1)) (by rw [nI_clamp (by omega)]) ?_
  refine g_aload_n dL_law_135 rfl (List.mem_of_getElem? (i := 1) rfl) ?_
  refine g_iload_n dL_law_136 rfl (List.mem_of_getElem? (i := 0) rfl) ?_
  refine g_iconst (v := 2) dL_law_137 (by decide) ?_
  refine g_iadd dL_law_138 ?_
  refine g_eqi (nI (i + 2)) (nI_add i 2) ?_
  refine g_sld hX (vp_in_nI (by omega) (by omega)) dL_law_139 ?_
  refine g_eqi (xs (i + 2)) (by rw [nI_clamp (by omega)]) ?_
  refine g_aload_n dL_law_140 rfl (List.mem_of_getElem? (i := 1) rfl) ?_
  refine g_iload_n dL_law_141 rfl (List.mem_of_getElem? (i := 0) rfl) ?_
  refine g_iconst (v := 3) dL_law_142 (by decide) ?_
  refine g_iadd dL_law_143 ?_
  refine g_eqi (nI (i + 3)) (nI_add i 3) ?_
  refine g_sld hX (vp_in_nI (by omega) (by omega)) dL_law_144 ?_
  refine g_eqi (xs (i + 3)) (by rw [nI_clamp (by omega)]) ?_
  refine g_aload_n dL_law_145 rfl (List.mem_of_getElem? (i := 1) rfl) ?_
  refine g_iload_n dL_law_146 rfl (List.mem_of_getElem? (i := 0) rfl) ?_
  refine g_iconst (v := 4) dL_law_147 (by decide) ?_
  refine g_iadd dL_law_148 ?_
  refine g_eqi (nI (i + 4)) (nI_add i 4) ?_
  refine g_sld hX (vp_in_nI (by omega) (by omega)) dL_law_149 ?_
  refine g_eqi (xs (i + 4)) (by rw [nI_clamp (by omega)]) ?_
  refine g_aload_n dL_law_150 rfl (List.mem_of_getElem? (i := 1) rfl) ?_
  refine g_iload_n dL_law_151 rfl (List.mem_of_getElem? (i := 0) rfl) ?_
  refine g_iconst (v := 5) dL_law_152 (by decide) ?_
  refine g_iadd dL_law_153 ?_
  refine g_eqi (nI (i + 5)) (nI_add i 5) ?_
  refine g_sld hX (vp_in_nI (by omega) (by omega)) dL_law_154 ?_
  refine g_eqi (xs (i + 5)) (by rw [nI_clamp (by omega)]) ?_
  refine g_cv (d1 := d1) (As := [.int (xs (i + 1)), .int (xs (i + 2)), .int (xs (i + 3)), .int (xs (i + 4)), .int (xs (i + 5))]) (st := [.int x]) hm1 hrm kX12_feed lL_17 sX12_feed (by omega) (Nat.le_of_ble_eq_true rfl) dL_law_155 (fun τ155 v155 h155 z155 => ?_)
  obtain ⟨rfl, hI2⟩ := hm2 _ _ h155
  show G _ _ _ _ _ _ _ _ _ _ 158 [(3, .int (nI i)), (0, .ref b), (1, .ref ax), (2, .ref am)] [.int x, .int x]
  refine g_icmp_eq (tgt := 492) dL_law_158 (by decide) (fun c158 => ?_) (fun c158 => absurd (rfl) c158)
  exact hk _ hI2
set_option maxRecDepth 100000 in
set_option maxHeartbeats 4000000 in
/-- the law: connect -/
theorem law_connect {l : Launch} {D : va_G} {A : Nat → ClassId} {B : Nat} {Z : State → Heap → Prop} (hZ : h_st B Z) {nm : String} {d d1 ax am b L : Nat} {xs : Nat → Int32} {I I' : hS → Prop} {σ0 : hS} {P : hS → Option Value → Prop} (hX : ∀ (U : State) (H : Heap), Z U H → va_X b L xs U H) (hL : L ≤ 3072) (hd : d1 + 1 ≤ d) (ha : l_all l D A B Z d1 ax am I I') {i : Nat} (hk : ∀ σ2 : hS, I' σ2 → G l D (h_ty A) B Z (mL_law nm) d σ0 P σ2 492 [(3, .int (nI i)), (0, .ref b), (1, .ref ax), (2, .ref am)] []) (hi : i + 6 ≤ L) {σ : hS} (hI : I σ) : G l D (h_ty A) B Z (mL_law nm) d σ0 P σ 163 [(3, .int (nI i)), (0, .ref b), (1, .ref ax), (2, .ref am)] [] := by
  refine g_aload_n dL_law_163 rfl (List.mem_of_getElem? (i := 2) rfl) ?_
  obtain ⟨hr1, Pc, hc1, hc2⟩ := (ha.2.2.1) _ hI
  refine g_cv (d1 := d1) (As := []) (st := []) hc1 hr1 kX11_connect lL_18 sX11_connect (by omega) (Nat.le_of_ble_eq_true rfl) dL_law_164 (fun τ164 v164 h164 z164 => ?_)
  obtain ⟨x, rfl, hrm, Pm, hm1, hm2⟩ := hc2 _ _ h164
  show G _ _ _ _ _ _ _ _ _ _ 167 [(3, .int (nI i)), (0, .ref b), (1, .ref ax), (2, .ref am)] [.int x]
  refine g_aload_n dL_law_167 rfl (List.mem_of_getElem? (i := 3) rfl) ?_
  refine g_cv (d1 := d1) (As := []) (st := [.int x]) hm1 hrm kX12_connect lL_22 sX12_connect (by omega) (Nat.le_of_ble_eq_true rfl) dL_law_168 (fun τ168 v168 h168 z168 => ?_)
  obtain ⟨rfl, hI2⟩ := hm2 _ _ h168
  show G _ _ _ _ _ _ _ _ _ _ 171 [(3, .int (nI i)), (0, .ref b), (1, .ref ax), (2, .ref am)] [.int x, .int x]
  refine g_icmp_eq (tgt := 492) dL_law_171 (by decide) (fun c171 => ?_) (fun c171 => absurd (rfl) c171)
  exact hk _ hI2
set_option maxRecDepth 100000 in
set_option maxHeartbeats 4000000 in
/-- the law: mail -/
theorem law_mail {l : Launch} {D : va_G} {A : Nat → ClassId} {B : Nat} {Z : State → Heap → Prop} (hZ : h_st B Z) {nm : String} {d d1 ax am b L : Nat} {xs : Nat → Int32} {I I' : hS → Prop} {σ0 : hS} {P : hS → Option Value → Prop} (hX : ∀ (U : State) (H : Heap), Z U H → va_X b L xs U H) (hL : L ≤ 3072) (hd : d1 + 1 ≤ d) (ha : l_all l D A B Z d1 ax am I I') {i : Nat} (hk : ∀ σ2 : hS, I' σ2 → G l D (h_ty A) B Z (mL_law nm) d σ0 P σ2 492 [(3, .int (nI i)), (0, .ref b), (1, .ref ax), (2, .ref am)] []) (hi : i + 6 ≤ L) {σ : hS} (hI : I σ) : G l D (h_ty A) B Z (mL_law nm) d σ0 P σ 176 [(3, .int (nI i)), (0, .ref b), (1, .ref ax), (2, .ref am)] [] := by
  refine g_aload_n dL_law_176 rfl (List.mem_of_getElem? (i := 2) rfl) ?_
  refine g_aload_n dL_law_177 rfl (List.mem_of_getElem? (i := 1) rfl) ?_
  refine g_iload_n dL_law_178 rfl (List.mem_of_getElem? (i := 0) rfl) ?_
  refine g_iconst (v := 1) dL_law_179 (by decide) ?_
  refine g_iadd dL_law_180 ?_
  refine g_eqi (nI (i + 1)) (nI_add i 1) ?_
  refine g_sld hX (vp_in_nI (by omega) (by omega)) dL_law_181 ?_
  refine g_eqi (xs (i + 1)) (by rw [nI_clamp (by omega)]) ?_
  obtain ⟨hr1, Pc, hc1, hc2⟩ := (ha.2.2.2.1 (xs (i + 1))) _ hI
  refine g_cv (d1 := d1) (As := [.int (xs (i + 1))]) (st := []) hc1 hr1 kX11_mail lL_23 sX11_mail (by omega) (Nat.le_of_ble_eq_true rfl) dL_law_182 (fun τ182 v182 h182 z182 => ?_)
  obtain ⟨x, rfl, hrm, Pm, hm1, hm2⟩ := hc2 _ _ h182
  show G _ _ _ _ _ _ _ _ _ _ 185 [(3, .int (nI i)), (0, .ref b), (1, .ref ax), (2, .ref am)] [.int x]
  refine g_aload_n dL_law_185 rfl (List.mem_of_getElem? (i := 3) rfl) ?_
  refine g_aload_n dL_law_186 rfl (List.mem_of_getElem? (i := 1) rfl) ?_
  refine g_iload_n dL_law_187 rfl (List.mem_of_getElem? (i := 0) rfl) ?_
  refine g_iconst (v := 1) dL_law_188 (by decide) ?_
  refine g_iadd dL_law_189 ?_
  refine g_eqi (nI (i + 1)) (nI_add i 1) ?_
  refine g_sld hX (vp_in_nI (by omega) (by omega)) dL_law_190 ?_
  refine g_eqi (xs (i + 1)) (by rw [nI_clamp (by omega)]) ?_
  refine g_cv (d1 := d1) (As := [.int (xs (i + 1))]) (st := [.int x]) hm1 hrm kX12_mail lL_27 sX12_mail (by omega) (Nat.le_of_ble_eq_true rfl) dL_law_191 (fun τ191 v191 h191 z191 => ?_)
  obtain ⟨rfl, hI2⟩ := hm2 _ _ h191
  show G _ _ _ _ _ _ _ _ _ _ 194 [(3, .int (nI i)), (0, .ref b), (1, .ref ax), (2, .ref am)] [.int x, .int x]
  refine g_icmp_eq (tgt := 492) dL_law_194 (by decide) (fun c194 => ?_) (fun c194 => absurd (rfl) c194)
  exact hk _ hI2
set_option maxRecDepth 100000 in
set_option maxHeartbeats 4000000 in
/-- the law: manage -/
theorem law_manage {l : Launch} {D : va_G} {A : Nat → ClassId} {B : Nat} {Z : State → Heap → Prop} (hZ : h_st B Z) {nm : String} {d d1 ax am b L : Nat} {xs : Nat → Int32} {I I' : hS → Prop} {σ0 : hS} {P : hS → Option Value → Prop} (hX : ∀ (U : State) (H : Heap), Z U H → va_X b L xs U H) (hL : L ≤ 3072) (hd : d1 + 1 ≤ d) (ha : l_all l D A B Z d1 ax am I I') {i : Nat} (hk : ∀ σ2 : hS, I' σ2 → G l D (h_ty A) B Z (mL_law nm) d σ0 P σ2 492 [(3, .int (nI i)), (0, .ref b), (1, .ref ax), (2, .ref am)] []) (hi : i + 6 ≤ L) {σ : hS} (hI : I σ) : G l D (h_ty A) B Z (mL_law nm) d σ0 P σ 199 [(3, .int (nI i)), (0, .ref b), (1, .ref ax), (2, .ref am)] [] := by
  refine g_aload_n dL_law_199 rfl (List.mem_of_getElem? (i := 2) rfl) ?_
  refine g_aload_n dL_law_200 rfl (List.mem_of_getElem? (i := 1) rfl) ?_
  refine g_iload_n dL_law_201 rfl (List.mem_of_getElem? (i := 0) rfl) ?_
  refine g_iconst (v := 1) dL_law_202 (by decide) ?_
  refine g_iadd dL_law_203 ?_
  refine g_eqi (nI (i + 1)) (nI_add i 1) ?_
  refine g_sld hX (vp_in_nI (by omega) (by omega)) dL_law_204 ?_
  refine g_eqi (xs (i + 1)) (by rw [nI_clamp (by omega)]) ?_
  refine g_aload_n dL_law_205 rfl (List.mem_of_getElem? (i := 1) rfl) ?_
  refine g_iload_n dL_law_206 rfl (List.mem_of_getElem? (i := 0) rfl) ?_
  refine g_iconst (v := 2) dL_law_207 (by decide) ?_
  refine g_iadd dL_law_208 ?_
  refine g_eqi (nI (i + 2)) (nI_add i 2) ?_
  refine g_sld hX (vp_in_nI (by omega) (by omega)) dL_law_209 ?_
  refine g_eqi (xs (i + 2)) (by rw [nI_clamp (by omega)]) ?_
  obtain ⟨hr1, Pc, hc1, hc2⟩ := (ha.2.2.2.2.1 (xs (i + 1)) (xs (i + 2))) _ hI
  refine g_cv (d1 := d1) (As := [.int (xs (i + 1)), .int (xs (i + 2))]) (st := []) hc1 hr1 kX11_manage lL_28 sX11_manage (by omega) (Nat.le_of_ble_eq_true rfl) dL_law_210 (fun τ210 v210 h210 z210 => ?_)
  obtain ⟨x, rfl, hrm, Pm, hm1, hm2⟩ := hc2 _ _ h210
  show G _ _ _ _ _ _ _ _ _ _ 213 [(3, .int (nI i)), (0, .ref b), (1, .ref ax), (2, .ref am)] [.int x]
  refine g_aload_n dL_law_213 rfl (List.mem_of_getElem? (i := 3) rfl) ?_
  refine g_aload_n dL_law_214 rfl (List.mem_of_getElem? (i := 1) rfl) ?_
  refine g_iload_n dL_law_215 rfl (List.mem_of_getElem? (i := 0) rfl) ?_
  refine g_iconst (v := 1) dL_law_216 (by decide) ?_
  refine g_iadd dL_law_217 ?_
  refine g_eqi (nI (i + 1)) (nI_add i 1) ?_
  refine g_sld hX (vp_in_nI (by omega) (by omega)) dL_law_218 ?_
  refine g_eqi (xs (i + 1)) (by rw [nI_clamp (by omega)]) ?_
  refine g_aload_n dL_law_219 rfl (List.mem_of_getElem? (i := 1) rfl) ?_
  refine g_iload_n dL_law_220 rfl (List.mem_of_getElem? (i := 0) rfl) ?_
  refine g_iconst (v := 2) dL_law_221 (by decide) ?_
  refine g_iadd dL_law_222 ?_
  refine g_eqi (nI (i + 2)) (nI_add i 2) ?_
  refine g_sld hX (vp_in_nI (by omega) (by omega)) dL_law_223 ?_
  refine g_eqi (xs (i + 2)) (by rw [nI_clamp (by omega)]) ?_
  refine g_cv (d1 := d1) (As := [.int (xs (i + 1)), .int (xs (i + 2))]) (st := [.int x]) hm1 hrm kX12_manage lL_32 sX12_manage (by omega) (Nat.le_of_ble_eq_true rfl) dL_law_224 (fun τ224 v224 h224 z224 => ?_)
  obtain ⟨rfl, hI2⟩ := hm2 _ _ h224
  show G _ _ _ _ _ _ _ _ _ _ 227 [(3, .int (nI i)), (0, .ref b), (1, .ref ax), (2, .ref am)] [.int x, .int x]
  refine g_icmp_eq (tgt := 492) dL_law_227 (by decide) (fun c227 => ?_) (fun c227 => absurd (rfl) c227)
  exact hk _ hI2
set_option maxRecDepth 100000 in
set_option maxHeartbeats 4000000 in
/-- the law: reply -/
theorem law_reply {l : Launch} {D : va_G} {A : Nat → ClassId} {B : Nat} {Z : State → Heap → Prop} (hZ : h_st B Z) {nm : String} {d d1 ax am b L : Nat} {xs : Nat → Int32} {I I' : hS → Prop} {σ0 : hS} {P : hS → Option Value → Prop} (hX : ∀ (U : State) (H : Heap), Z U H → va_X b L xs U H) (hL : L ≤ 3072) (hd : d1 + 1 ≤ d) (ha : l_all l D A B Z d1 ax am I I') {i : Nat} (hk : ∀ σ2 : hS, I' σ2 → G l D (h_ty A) B Z (mL_law nm) d σ0 P σ2 492 [(3, .int (nI i)), (0, .ref b), (1, .ref ax), (2, .ref am)] []) (hi : i + 6 ≤ L) {σ : hS} (hI : I σ) : G l D (h_ty A) B Z (mL_law nm) d σ0 P σ 232 [(3, .int (nI i)), (0, .ref b), (1, .ref ax), (2, .ref am)] [] := by
  refine g_aload_n dL_law_232 rfl (List.mem_of_getElem? (i := 2) rfl) ?_
  refine g_aload_n dL_law_233 rfl (List.mem_of_getElem? (i := 1) rfl) ?_
  refine g_iload_n dL_law_234 rfl (List.mem_of_getElem? (i := 0) rfl) ?_
  refine g_iconst (v := 1) dL_law_235 (by decide) ?_
  refine g_iadd dL_law_236 ?_
  refine g_eqi (nI (i + 1)) (nI_add i 1) ?_
  refine g_sld hX (vp_in_nI (by omega) (by omega)) dL_law_237 ?_
  refine g_eqi (xs (i + 1)) (by rw [nI_clamp (by omega)]) ?_
  obtain ⟨hr1, Pc, hc1, hc2⟩ := (ha.2.2.2.2.2.1 (xs (i + 1))) _ hI
  refine g_cv (d1 := d1) (As := [.int (xs (i + 1))]) (st := []) hc1 hr1 kX11_reply lL_33 sX11_reply (by omega) (Nat.le_of_ble_eq_true rfl) dL_law_238 (fun τ238 v238 h238 z238 => ?_)
  obtain ⟨x, rfl, hrm, Pm, hm1, hm2⟩ := hc2 _ _ h238
  show G _ _ _ _ _ _ _ _ _ _ 241 [(3, .int (nI i)), (0, .ref b), (1, .ref ax), (2, .ref am)] [.long x]
  refine g_aload_n dL_law_241 rfl (List.mem_of_getElem? (i := 3) rfl) ?_
  refine g_aload_n dL_law_242 rfl (List.mem_of_getElem? (i := 1) rfl) ?_
  refine g_iload_n dL_law_243 rfl (List.mem_of_getElem? (i := 0) rfl) ?_
  refine g_iconst (v := 1) dL_law_244 (by decide) ?_
  refine g_iadd dL_law_245 ?_
  refine g_eqi (nI (i + 1)) (nI_add i 1) ?_
  refine g_sld hX (vp_in_nI (by omega) (by omega)) dL_law_246 ?_
  refine g_eqi (xs (i + 1)) (by rw [nI_clamp (by omega)]) ?_
  refine g_cv (d1 := d1) (As := [.int (xs (i + 1))]) (st := [.long x]) hm1 hrm kX12_reply lL_37 sX12_reply (by omega) (Nat.le_of_ble_eq_true rfl) dL_law_247 (fun τ247 v247 h247 z247 => ?_)
  obtain ⟨rfl, hI2⟩ := hm2 _ _ h247
  show G _ _ _ _ _ _ _ _ _ _ 250 [(3, .int (nI i)), (0, .ref b), (1, .ref ax), (2, .ref am)] [.long x, .long x]
  refine g_lcmp dL_law_250 ?_
  refine g_if_eq (tgt := 492) dL_law_251 (by decide) (fun c251 => ?_) (fun c251 => absurd (lg_same x) c251)
  exact hk _ hI2
set_option maxRecDepth 100000 in
set_option maxHeartbeats 4000000 in
/-- the law: tick -/
theorem law_tick {l : Launch} {D : va_G} {A : Nat → ClassId} {B : Nat} {Z : State → Heap → Prop} (hZ : h_st B Z) {nm : String} {d d1 ax am b L : Nat} {xs : Nat → Int32} {I I' : hS → Prop} {σ0 : hS} {P : hS → Option Value → Prop} (hX : ∀ (U : State) (H : Heap), Z U H → va_X b L xs U H) (hL : L ≤ 3072) (hd : d1 + 1 ≤ d) (ha : l_all l D A B Z d1 ax am I I') {i : Nat} (hk : ∀ σ2 : hS, I' σ2 → G l D (h_ty A) B Z (mL_law nm) d σ0 P σ2 492 [(3, .int (nI i)), (0, .ref b), (1, .ref ax), (2, .ref am)] []) (hi : i + 6 ≤ L) {σ : hS} (hI : I σ) : G l D (h_ty A) B Z (mL_law nm) d σ0 P σ 256 [(3, .int (nI i)), (0, .ref b), (1, .ref ax), (2, .ref am)] [] := by
  refine g_aload_n dL_law_256 rfl (List.mem_of_getElem? (i := 2) rfl) ?_
  obtain ⟨hr1, Pc, hc1, hc2⟩ := (ha.2.2.2.2.2.2.1) _ hI
  refine g_cv (d1 := d1) (As := []) (st := []) hc1 hr1 kX11_tick lL_38 sX11_tick (by omega) (Nat.le_of_ble_eq_true rfl) dL_law_257 (fun τ257 v257 h257 z257 => ?_)
  obtain ⟨x, rfl, hrm, Pm, hm1, hm2⟩ := hc2 _ _ h257
  show G _ _ _ _ _ _ _ _ _ _ 260 [(3, .int (nI i)), (0, .ref b), (1, .ref ax), (2, .ref am)] [.int x]
  refine g_aload_n dL_law_260 rfl (List.mem_of_getElem? (i := 3) rfl) ?_
  refine g_cv (d1 := d1) (As := []) (st := [.int x]) hm1 hrm kX12_tick lL_42 sX12_tick (by omega) (Nat.le_of_ble_eq_true rfl) dL_law_261 (fun τ261 v261 h261 z261 => ?_)
  obtain ⟨rfl, hI2⟩ := hm2 _ _ h261
  show G _ _ _ _ _ _ _ _ _ _ 264 [(3, .int (nI i)), (0, .ref b), (1, .ref ax), (2, .ref am)] [.int x, .int x]
  refine g_icmp_eq (tgt := 492) dL_law_264 (by decide) (fun c264 => ?_) (fun c264 => absurd (rfl) c264)
  exact hk _ hI2
set_option maxRecDepth 100000 in
set_option maxHeartbeats 4000000 in
/-- the law: cut -/
theorem law_cut {l : Launch} {D : va_G} {A : Nat → ClassId} {B : Nat} {Z : State → Heap → Prop} (hZ : h_st B Z) {nm : String} {d d1 ax am b L : Nat} {xs : Nat → Int32} {I I' : hS → Prop} {σ0 : hS} {P : hS → Option Value → Prop} (hX : ∀ (U : State) (H : Heap), Z U H → va_X b L xs U H) (hL : L ≤ 3072) (hd : d1 + 1 ≤ d) (ha : l_all l D A B Z d1 ax am I I') {i : Nat} (hk : ∀ σ2 : hS, I' σ2 → G l D (h_ty A) B Z (mL_law nm) d σ0 P σ2 492 [(3, .int (nI i)), (0, .ref b), (1, .ref ax), (2, .ref am)] []) (hi : i + 6 ≤ L) {σ : hS} (hI : I σ) : G l D (h_ty A) B Z (mL_law nm) d σ0 P σ 269 [(3, .int (nI i)), (0, .ref b), (1, .ref ax), (2, .ref am)] [] := by
  refine g_aload_n dL_law_269 rfl (List.mem_of_getElem? (i := 2) rfl) ?_
  refine g_aload_n dL_law_270 rfl (List.mem_of_getElem? (i := 1) rfl) ?_
  refine g_iload_n dL_law_271 rfl (List.mem_of_getElem? (i := 0) rfl) ?_
  refine g_iconst (v := 1) dL_law_272 (by decide) ?_
  refine g_iadd dL_law_273 ?_
  refine g_eqi (nI (i + 1)) (nI_add i 1) ?_
  refine g_sld hX (vp_in_nI (by omega) (by omega)) dL_law_274 ?_
  refine g_eqi (xs (i + 1)) (by rw [nI_clamp (by omega)]) ?_
  obtain ⟨hr1, Pc, hc1, hc2⟩ := (ha.2.2.2.2.2.2.2.1 (xs (i + 1))) _ hI
  refine g_cv (d1 := d1) (As := [.int (xs (i + 1))]) (st := []) hc1 hr1 kX11_cut lL_43 sX11_cut (by omega) (Nat.le_of_ble_eq_true rfl) dL_law_275 (fun τ275 v275 h275 z275 => ?_)
  obtain ⟨x, rfl, hrm, Pm, hm1, hm2⟩ := hc2 _ _ h275
  show G _ _ _ _ _ _ _ _ _ _ 278 [(3, .int (nI i)), (0, .ref b), (1, .ref ax), (2, .ref am)] [.int x]
  refine g_aload_n dL_law_278 rfl (List.mem_of_getElem? (i := 3) rfl) ?_
  refine g_aload_n dL_law_279 rfl (List.mem_of_getElem? (i := 1) rfl) ?_
  refine g_iload_n dL_law_280 rfl (List.mem_of_getElem? (i := 0) rfl) ?_
  refine g_iconst (v := 1) dL_law_281 (by decide) ?_
  refine g_iadd dL_law_282 ?_
  refine g_eqi (nI (i + 1)) (nI_add i 1) ?_
  refine g_sld hX (vp_in_nI (by omega) (by omega)) dL_law_283 ?_
  refine g_eqi (xs (i + 1)) (by rw [nI_clamp (by omega)]) ?_
  refine g_cv (d1 := d1) (As := [.int (xs (i + 1))]) (st := [.int x]) hm1 hrm kX12_cut lL_47 sX12_cut (by omega) (Nat.le_of_ble_eq_true rfl) dL_law_284 (fun τ284 v284 h284 z284 => ?_)
  obtain ⟨rfl, hI2⟩ := hm2 _ _ h284
  show G _ _ _ _ _ _ _ _ _ _ 287 [(3, .int (nI i)), (0, .ref b), (1, .ref ax), (2, .ref am)] [.int x, .int x]
  refine g_icmp_eq (tgt := 492) dL_law_287 (by decide) (fun c287 => ?_) (fun c287 => absurd (rfl) c287)
  exact hk _ hI2
set_option maxRecDepth 100000 in
set_option maxHeartbeats 4000000 in
/-- the law: start -/
theorem law_start {l : Launch} {D : va_G} {A : Nat → ClassId} {B : Nat} {Z : State → Heap → Prop} (hZ : h_st B Z) {nm : String} {d d1 ax am b L : Nat} {xs : Nat → Int32} {I I' : hS → Prop} {σ0 : hS} {P : hS → Option Value → Prop} (hX : ∀ (U : State) (H : Heap), Z U H → va_X b L xs U H) (hL : L ≤ 3072) (hd : d1 + 1 ≤ d) (ha : l_all l D A B Z d1 ax am I I') {i : Nat} (hk : ∀ σ2 : hS, I' σ2 → G l D (h_ty A) B Z (mL_law nm) d σ0 P σ2 492 [(3, .int (nI i)), (0, .ref b), (1, .ref ax), (2, .ref am)] []) (hi : i + 6 ≤ L) {σ : hS} (hI : I σ) : G l D (h_ty A) B Z (mL_law nm) d σ0 P σ 292 [(3, .int (nI i)), (0, .ref b), (1, .ref ax), (2, .ref am)] [] := by
  refine g_aload_n dL_law_292 rfl (List.mem_of_getElem? (i := 2) rfl) ?_
  obtain ⟨hr1, Pc, hc1, hc2⟩ := (ha.2.2.2.2.2.2.2.2.1) _ hI
  refine g_cv (d1 := d1) (As := []) (st := []) hc1 hr1 kX11_start lL_48 sX11_start (by omega) (Nat.le_of_ble_eq_true rfl) dL_law_293 (fun τ293 v293 h293 z293 => ?_)
  obtain ⟨x, rfl, hrm, Pm, hm1, hm2⟩ := hc2 _ _ h293
  show G _ _ _ _ _ _ _ _ _ _ 296 [(3, .int (nI i)), (0, .ref b), (1, .ref ax), (2, .ref am)] [.int x]
  refine g_aload_n dL_law_296 rfl (List.mem_of_getElem? (i := 3) rfl) ?_
  refine g_cv (d1 := d1) (As := []) (st := [.int x]) hm1 hrm kX12_start lL_51 sX12_start (by omega) (Nat.le_of_ble_eq_true rfl) dL_law_297 (fun τ297 v297 h297 z297 => ?_)
  obtain ⟨rfl, hI2⟩ := hm2 _ _ h297
  show G _ _ _ _ _ _ _ _ _ _ 300 [(3, .int (nI i)), (0, .ref b), (1, .ref ax), (2, .ref am)] [.int x, .int x]
  refine g_icmp_eq (tgt := 492) dL_law_300 (by decide) (fun c300 => ?_) (fun c300 => absurd (rfl) c300)
  exact hk _ hI2
set_option maxRecDepth 100000 in
set_option maxHeartbeats 4000000 in
/-- the law: messages -/
theorem law_messages {l : Launch} {D : va_G} {A : Nat → ClassId} {B : Nat} {Z : State → Heap → Prop} (hZ : h_st B Z) {nm : String} {d d1 ax am b L : Nat} {xs : Nat → Int32} {I I' : hS → Prop} {σ0 : hS} {P : hS → Option Value → Prop} (hX : ∀ (U : State) (H : Heap), Z U H → va_X b L xs U H) (hL : L ≤ 3072) (hd : d1 + 1 ≤ d) (ha : l_all l D A B Z d1 ax am I I') {i : Nat} (hk : ∀ σ2 : hS, I' σ2 → G l D (h_ty A) B Z (mL_law nm) d σ0 P σ2 492 [(3, .int (nI i)), (0, .ref b), (1, .ref ax), (2, .ref am)] []) (hi : i + 6 ≤ L) {σ : hS} (hI : I σ) : G l D (h_ty A) B Z (mL_law nm) d σ0 P σ 305 [(3, .int (nI i)), (0, .ref b), (1, .ref ax), (2, .ref am)] [] := by
  refine g_aload_n dL_law_305 rfl (List.mem_of_getElem? (i := 2) rfl) ?_
  refine g_aload_n dL_law_306 rfl (List.mem_of_getElem? (i := 1) rfl) ?_
  refine g_iload_n dL_law_307 rfl (List.mem_of_getElem? (i := 0) rfl) ?_
  refine g_iconst (v := 1) dL_law_308 (by decide) ?_
  refine g_iadd dL_law_309 ?_
  refine g_eqi (nI (i + 1)) (nI_add i 1) ?_
  refine g_sld hX (vp_in_nI (by omega) (by omega)) dL_law_310 ?_
  refine g_eqi (xs (i + 1)) (by rw [nI_clamp (by omega)]) ?_
  refine g_aload_n dL_law_311 rfl (List.mem_of_getElem? (i := 1) rfl) ?_
  refine g_iload_n dL_law_312 rfl (List.mem_of_getElem? (i := 0) rfl) ?_
  refine g_iconst (v := 2) dL_law_313 (by decide) ?_
  refine g_iadd dL_law_314 ?_
  refine g_eqi (nI (i + 2)) (nI_add i 2) ?_
  refine g_sld hX (vp_in_nI (by omega) (by omega)) dL_law_315 ?_
  refine g_eqi (xs (i + 2)) (by rw [nI_clamp (by omega)]) ?_
  obtain ⟨hr1, Pc, hc1, hc2⟩ := (ha.2.2.2.2.2.2.2.2.2.1 (xs (i + 1)) (xs (i + 2))) _ hI
  refine g_cv (d1 := d1) (As := [.int (xs (i + 1)), .int (xs (i + 2))]) (st := []) hc1 hr1 kX11_messages lL_52 sX11_messages (by omega) (Nat.le_of_ble_eq_true rfl) dL_law_316 (fun τ316 v316 h316 z316 => ?_)
  obtain ⟨x, rfl, hrm, Pm, hm1, hm2⟩ := hc2 _ _ h316
  show G _ _ _ _ _ _ _ _ _ _ 319 [(3, .int (nI i)), (0, .ref b), (1, .ref ax), (2, .ref am)] [.int x]
  refine g_aload_n dL_law_319 rfl (List.mem_of_getElem? (i := 3) rfl) ?_
  refine g_aload_n dL_law_320 rfl (List.mem_of_getElem? (i := 1) rfl) ?_
  refine g_iload_n dL_law_321 rfl (List.mem_of_getElem? (i := 0) rfl) ?_
  refine g_iconst (v := 1) dL_law_322 (by decide) ?_
  refine g_iadd dL_law_323 ?_
  refine g_eqi (nI (i + 1)) (nI_add i 1) ?_
  refine g_sld hX (vp_in_nI (by omega) (by omega)) dL_law_324 ?_
  refine g_eqi (xs (i + 1)) (by rw [nI_clamp (by omega)]) ?_
  refine g_aload_n dL_law_325 rfl (List.mem_of_getElem? (i := 1) rfl) ?_
  refine g_iload_n dL_law_326 rfl (List.mem_of_getElem? (i := 0) rfl) ?_
  refine g_iconst (v := 2) dL_law_327 (by decide) ?_
  refine g_iadd dL_law_328 ?_
  refine g_eqi (nI (i + 2)) (nI_add i 2) ?_
  refine g_sld hX (vp_in_nI (by omega) (by omega)) dL_law_329 ?_
  refine g_eqi (xs (i + 2)) (by rw [nI_clamp (by omega)]) ?_
  refine g_cv (d1 := d1) (As := [.int (xs (i + 1)), .int (xs (i + 2))]) (st := [.int x]) hm1 hrm kX12_messages lL_55 sX12_messages (by omega) (Nat.le_of_ble_eq_true rfl) dL_law_330 (fun τ330 v330 h330 z330 => ?_)
  obtain ⟨rfl, hI2⟩ := hm2 _ _ h330
  show G _ _ _ _ _ _ _ _ _ _ 333 [(3, .int (nI i)), (0, .ref b), (1, .ref ax), (2, .ref am)] [.int x, .int x]
  refine g_icmp_eq (tgt := 492) dL_law_333 (by decide) (fun c333 => ?_) (fun c333 => absurd (rfl) c333)
  exact hk _ hI2
set_option maxRecDepth 100000 in
set_option maxHeartbeats 4000000 in
/-- the law: message -/
theorem law_message {l : Launch} {D : va_G} {A : Nat → ClassId} {B : Nat} {Z : State → Heap → Prop} (hZ : h_st B Z) {nm : String} {d d1 ax am b L : Nat} {xs : Nat → Int32} {I I' : hS → Prop} {σ0 : hS} {P : hS → Option Value → Prop} (hX : ∀ (U : State) (H : Heap), Z U H → va_X b L xs U H) (hL : L ≤ 3072) (hd : d1 + 1 ≤ d) (ha : l_all l D A B Z d1 ax am I I') {i : Nat} (hk : ∀ σ2 : hS, I' σ2 → G l D (h_ty A) B Z (mL_law nm) d σ0 P σ2 492 [(3, .int (nI i)), (0, .ref b), (1, .ref ax), (2, .ref am)] []) (hi : i + 6 ≤ L) {σ : hS} (hI : I σ) : G l D (h_ty A) B Z (mL_law nm) d σ0 P σ 338 [(3, .int (nI i)), (0, .ref b), (1, .ref ax), (2, .ref am)] [] := by
  refine g_aload_n dL_law_338 rfl (List.mem_of_getElem? (i := 2) rfl) ?_
  refine g_aload_n dL_law_339 rfl (List.mem_of_getElem? (i := 1) rfl) ?_
  refine g_iload_n dL_law_340 rfl (List.mem_of_getElem? (i := 0) rfl) ?_
  refine g_iconst (v := 1) dL_law_341 (by decide) ?_
  refine g_iadd dL_law_342 ?_
  refine g_eqi (nI (i + 1)) (nI_add i 1) ?_
  refine g_sld hX (vp_in_nI (by omega) (by omega)) dL_law_343 ?_
  refine g_eqi (xs (i + 1)) (by rw [nI_clamp (by omega)]) ?_
  refine g_aload_n dL_law_344 rfl (List.mem_of_getElem? (i := 1) rfl) ?_
  refine g_iload_n dL_law_345 rfl (List.mem_of_getElem? (i := 0) rfl) ?_
  refine g_iconst (v := 2) dL_law_346 (by decide) ?_
  refine g_iadd dL_law_347 ?_
  refine g_eqi (nI (i + 2)) (nI_add i 2) ?_
  refine g_sld hX (vp_in_nI (by omega) (by omega)) dL_law_348 ?_
  refine g_eqi (xs (i + 2)) (by rw [nI_clamp (by omega)]) ?_
  refine g_aload_n dL_law_349 rfl (List.mem_of_getElem? (i := 1) rfl) ?_
  refine g_iload_n dL_law_350 rfl (List.mem_of_getElem? (i := 0) rfl) ?_
  refine g_iconst (v := 3) dL_law_351 (by decide) ?_
  refine g_iadd dL_law_352 ?_
  refine g_eqi (nI (i + 3)) (nI_add i 3) ?_
  refine g_sld hX (vp_in_nI (by omega) (by omega)) dL_law_353 ?_
  refine g_eqi (xs (i + 3)) (by rw [nI_clamp (by omega)]) ?_
  refine g_aload_n dL_law_354 rfl (List.mem_of_getElem? (i := 1) rfl) ?_
  refine g_iload_n dL_law_355 rfl (List.mem_of_getElem? (i := 0) rfl) ?_
  refine g_iconst (v := 4) dL_law_356 (by decide) ?_
  refine g_iadd dL_law_357 ?_
  refine g_eqi (nI (i + 4)) (nI_add i 4) ?_
  refine g_sld hX (vp_in_nI (by omega) (by omega)) dL_law_358 ?_
  refine g_eqi (xs (i + 4)) (by rw [nI_clamp (by omega)]) ?_
  obtain ⟨hr1, Pc, hc1, hc2⟩ := (ha.2.2.2.2.2.2.2.2.2.2.1 (xs (i + 1)) (xs (i + 2)) (xs (i + 3)) (xs (i + 4))) _ hI
  refine g_cv (d1 := d1) (As := [.int (xs (i + 1)), .int (xs (i + 2)), .int (xs (i + 3)), .int (xs (i + 4))]) (st := []) hc1 hr1 kX11_message lL_56 sX11_message (by omega) (Nat.le_of_ble_eq_true rfl) dL_law_359 (fun τ359 v359 h359 z359 => ?_)
  obtain ⟨x, rfl, hrm, Pm, hm1, hm2⟩ := hc2 _ _ h359
  show G _ _ _ _ _ _ _ _ _ _ 362 [(3, .int (nI i)), (0, .ref b), (1, .ref ax), (2, .ref am)] [.int x]
  refine g_aload_n dL_law_362 rfl (List.mem_of_getElem? (i := 3) rfl) ?_
  refine g_aload_n dL_law_363 rfl (List.mem_of_getElem? (i := 1) rfl) ?_
  refine g_iload_n dL_law_364 rfl (List.mem_of_getElem? (i := 0) rfl) ?_
  refine g_iconst (v := 1) dL_law_365 (by decide) ?_
  refine g_iadd dL_law_366 ?_
  refine g_eqi (nI (i + 1)) (nI_add i 1) ?_
  refine g_sld hX (vp_in_nI (by omega) (by omega)) dL_law_367 ?_
  refine g_eqi (xs (i + 1)) (by rw [nI_clamp (by omega)]) ?_
  refine g_aload_n dL_law_368 rfl (List.mem_of_getElem? (i := 1) rfl) ?_
  refine g_iload_n dL_law_369 rfl (List.mem_of_getElem? (i := 0) rfl) ?_
  refine g_iconst (v := 2) dL_law_370 (by decide) ?_
  refine g_iadd dL_law_371 ?_
  refine g_eqi (nI (i + 2)) (nI_add i 2) ?_
  refine g_sld hX (vp_in_nI (by omega) (by omega)) dL_law_372 ?_
  refine g_eqi (xs (i + 2)) (by rw [nI_clamp (by omega)]) ?_
  refine g_aload_n dL_law_373 rfl (List.mem_of_getElem? (i := 1) rfl) ?_
  refine g_iload_n dL_law_374 rfl (List.mem_of_getElem? (i := 0) rfl) ?_
  refine g_iconst (v := 3) dL_law_375 (by decide) ?_
  refine g_iadd dL_law_376 ?_
  refine g_eqi (nI (i + 3)) (nI_add i 3) ?_
  refine g_sld hX (vp_in_nI (by omega) (by omega)) dL_law_377 ?_
  refine g_eqi (xs (i + 3)) (by rw [nI_clamp (by omega)]) ?_
  refine g_aload_n dL_law_378 rfl (List.mem_of_getElem? (i := 1) rfl) ?_
  refine g_iload_n dL_law_379 rfl (List.mem_of_getElem? (i := 0) rfl) ?_
  refine g_iconst (v := 4) dL_law_380 (by decide) ?_
  refine g_iadd dL_law_381 ?_
  refine g_eqi (nI (i + 4)) (nI_add i 4) ?_
  refine g_sld hX (vp_in_nI (by omega) (by omega)) dL_law_382 ?_
  refine g_eqi (xs (i + 4)) (by rw [nI_clamp (by omega)]) ?_
  refine g_cv (d1 := d1) (As := [.int (xs (i + 1)), .int (xs (i + 2)), .int (xs (i + 3)), .int (xs (i + 4))]) (st := [.int x]) hm1 hrm kX12_message lL_60 sX12_message (by omega) (Nat.le_of_ble_eq_true rfl) dL_law_383 (fun τ383 v383 h383 z383 => ?_)
  obtain ⟨rfl, hI2⟩ := hm2 _ _ h383
  show G _ _ _ _ _ _ _ _ _ _ 386 [(3, .int (nI i)), (0, .ref b), (1, .ref ax), (2, .ref am)] [.int x, .int x]
  refine g_icmp_eq (tgt := 492) dL_law_386 (by decide) (fun c386 => ?_) (fun c386 => absurd (rfl) c386)
  exact hk _ hI2
set_option maxRecDepth 100000 in
set_option maxHeartbeats 4000000 in
/-- the law: bytes -/
theorem law_bytes {l : Launch} {D : va_G} {A : Nat → ClassId} {B : Nat} {Z : State → Heap → Prop} (hZ : h_st B Z) {nm : String} {d d1 ax am b L : Nat} {xs : Nat → Int32} {I I' : hS → Prop} {σ0 : hS} {P : hS → Option Value → Prop} (hX : ∀ (U : State) (H : Heap), Z U H → va_X b L xs U H) (hL : L ≤ 3072) (hd : d1 + 1 ≤ d) (ha : l_all l D A B Z d1 ax am I I') {i : Nat} (hk : ∀ σ2 : hS, I' σ2 → G l D (h_ty A) B Z (mL_law nm) d σ0 P σ2 492 [(3, .int (nI i)), (0, .ref b), (1, .ref ax), (2, .ref am)] []) (hi : i + 6 ≤ L) {σ : hS} (hI : I σ) : G l D (h_ty A) B Z (mL_law nm) d σ0 P σ 391 [(3, .int (nI i)), (0, .ref b), (1, .ref ax), (2, .ref am)] [] := by
  refine g_aload_n dL_law_391 rfl (List.mem_of_getElem? (i := 2) rfl) ?_
  refine g_aload_n dL_law_392 rfl (List.mem_of_getElem? (i := 1) rfl) ?_
  refine g_iload_n dL_law_393 rfl (List.mem_of_getElem? (i := 0) rfl) ?_
  refine g_iconst (v := 1) dL_law_394 (by decide) ?_
  refine g_iadd dL_law_395 ?_
  refine g_eqi (nI (i + 1)) (nI_add i 1) ?_
  refine g_sld hX (vp_in_nI (by omega) (by omega)) dL_law_396 ?_
  refine g_eqi (xs (i + 1)) (by rw [nI_clamp (by omega)]) ?_
  refine g_aload_n dL_law_397 rfl (List.mem_of_getElem? (i := 1) rfl) ?_
  refine g_iload_n dL_law_398 rfl (List.mem_of_getElem? (i := 0) rfl) ?_
  refine g_iconst (v := 2) dL_law_399 (by decide) ?_
  refine g_iadd dL_law_400 ?_
  refine g_eqi (nI (i + 2)) (nI_add i 2) ?_
  refine g_sld hX (vp_in_nI (by omega) (by omega)) dL_law_401 ?_
  refine g_eqi (xs (i + 2)) (by rw [nI_clamp (by omega)]) ?_
  obtain ⟨hr1, Pc, hc1, hc2⟩ := (ha.2.2.2.2.2.2.2.2.2.2.2.1 (xs (i + 1)) (xs (i + 2))) _ hI
  refine g_cv (d1 := d1) (As := [.int (xs (i + 1)), .int (xs (i + 2))]) (st := []) hc1 hr1 kX11_bytes lL_61 sX11_bytes (by omega) (Nat.le_of_ble_eq_true rfl) dL_law_402 (fun τ402 v402 h402 z402 => ?_)
  obtain ⟨x, rfl, hrm, Pm, hm1, hm2⟩ := hc2 _ _ h402
  show G _ _ _ _ _ _ _ _ _ _ 405 [(3, .int (nI i)), (0, .ref b), (1, .ref ax), (2, .ref am)] [.long x]
  refine g_aload_n dL_law_405 rfl (List.mem_of_getElem? (i := 3) rfl) ?_
  refine g_aload_n dL_law_406 rfl (List.mem_of_getElem? (i := 1) rfl) ?_
  refine g_iload_n dL_law_407 rfl (List.mem_of_getElem? (i := 0) rfl) ?_
  refine g_iconst (v := 1) dL_law_408 (by decide) ?_
  refine g_iadd dL_law_409 ?_
  refine g_eqi (nI (i + 1)) (nI_add i 1) ?_
  refine g_sld hX (vp_in_nI (by omega) (by omega)) dL_law_410 ?_
  refine g_eqi (xs (i + 1)) (by rw [nI_clamp (by omega)]) ?_
  refine g_aload_n dL_law_411 rfl (List.mem_of_getElem? (i := 1) rfl) ?_
  refine g_iload_n dL_law_412 rfl (List.mem_of_getElem? (i := 0) rfl) ?_
  refine g_iconst (v := 2) dL_law_413 (by decide) ?_
  refine g_iadd dL_law_414 ?_
  refine g_eqi (nI (i + 2)) (nI_add i 2) ?_
  refine g_sld hX (vp_in_nI (by omega) (by omega)) dL_law_415 ?_
  refine g_eqi (xs (i + 2)) (by rw [nI_clamp (by omega)]) ?_
  refine g_cv (d1 := d1) (As := [.int (xs (i + 1)), .int (xs (i + 2))]) (st := [.long x]) hm1 hrm kX12_bytes lL_65 sX12_bytes (by omega) (Nat.le_of_ble_eq_true rfl) dL_law_416 (fun τ416 v416 h416 z416 => ?_)
  obtain ⟨rfl, hI2⟩ := hm2 _ _ h416
  show G _ _ _ _ _ _ _ _ _ _ 419 [(3, .int (nI i)), (0, .ref b), (1, .ref ax), (2, .ref am)] [.long x, .long x]
  refine g_lcmp dL_law_419 ?_
  refine g_if_eq (tgt := 492) dL_law_420 (by decide) (fun c420 => ?_) (fun c420 => absurd (lg_same x) c420)
  exact hk _ hI2
set_option maxRecDepth 100000 in
set_option maxHeartbeats 4000000 in
/-- the law: name -/
theorem law_name {l : Launch} {D : va_G} {A : Nat → ClassId} {B : Nat} {Z : State → Heap → Prop} (hZ : h_st B Z) {nm : String} {d d1 ax am b L : Nat} {xs : Nat → Int32} {I I' : hS → Prop} {σ0 : hS} {P : hS → Option Value → Prop} (hX : ∀ (U : State) (H : Heap), Z U H → va_X b L xs U H) (hL : L ≤ 3072) (hd : d1 + 1 ≤ d) (ha : l_all l D A B Z d1 ax am I I') {i : Nat} (hk : ∀ σ2 : hS, I' σ2 → G l D (h_ty A) B Z (mL_law nm) d σ0 P σ2 492 [(3, .int (nI i)), (0, .ref b), (1, .ref ax), (2, .ref am)] []) (hi : i + 6 ≤ L) {σ : hS} (hI : I σ) : G l D (h_ty A) B Z (mL_law nm) d σ0 P σ 425 [(3, .int (nI i)), (0, .ref b), (1, .ref ax), (2, .ref am)] [] := by
  refine g_aload_n dL_law_425 rfl (List.mem_of_getElem? (i := 2) rfl) ?_
  refine g_aload_n dL_law_426 rfl (List.mem_of_getElem? (i := 1) rfl) ?_
  refine g_iload_n dL_law_427 rfl (List.mem_of_getElem? (i := 0) rfl) ?_
  refine g_iconst (v := 1) dL_law_428 (by decide) ?_
  refine g_iadd dL_law_429 ?_
  refine g_eqi (nI (i + 1)) (nI_add i 1) ?_
  refine g_sld hX (vp_in_nI (by omega) (by omega)) dL_law_430 ?_
  refine g_eqi (xs (i + 1)) (by rw [nI_clamp (by omega)]) ?_
  refine g_aload_n dL_law_431 rfl (List.mem_of_getElem? (i := 1) rfl) ?_
  refine g_iload_n dL_law_432 rfl (List.mem_of_getElem? (i := 0) rfl) ?_
  refine g_iconst (v := 2) dL_law_433 (by decide) ?_
  refine g_iadd dL_law_434 ?_
  refine g_eqi (nI (i + 2)) (nI_add i 2) ?_
  refine g_sld hX (vp_in_nI (by omega) (by omega)) dL_law_435 ?_
  refine g_eqi (xs (i + 2)) (by rw [nI_clamp (by omega)]) ?_
  refine g_aload_n dL_law_436 rfl (List.mem_of_getElem? (i := 1) rfl) ?_
  refine g_iload_n dL_law_437 rfl (List.mem_of_getElem? (i := 0) rfl) ?_
  refine g_iconst (v := 3) dL_law_438 (by decide) ?_
  refine g_iadd dL_law_439 ?_
  refine g_eqi (nI (i + 3)) (nI_add i 3) ?_
  refine g_sld hX (vp_in_nI (by omega) (by omega)) dL_law_440 ?_
  refine g_eqi (xs (i + 3)) (by rw [nI_clamp (by omega)]) ?_
  obtain ⟨hr1, Pc, hc1, hc2⟩ := (ha.2.2.2.2.2.2.2.2.2.2.2.2.1 (xs (i + 1)) (xs (i + 2)) (xs (i + 3))) _ hI
  refine g_cv (d1 := d1) (As := [.int (xs (i + 1)), .int (xs (i + 2)), .int (xs (i + 3))]) (st := []) hc1 hr1 kX11_name lL_66 sX11_name (by omega) (Nat.le_of_ble_eq_true rfl) dL_law_441 (fun τ441 v441 h441 z441 => ?_)
  obtain ⟨x, rfl, hrm, Pm, hm1, hm2⟩ := hc2 _ _ h441
  show G _ _ _ _ _ _ _ _ _ _ 444 [(3, .int (nI i)), (0, .ref b), (1, .ref ax), (2, .ref am)] [.long x]
  refine g_aload_n dL_law_444 rfl (List.mem_of_getElem? (i := 3) rfl) ?_
  refine g_aload_n dL_law_445 rfl (List.mem_of_getElem? (i := 1) rfl) ?_
  refine g_iload_n dL_law_446 rfl (List.mem_of_getElem? (i := 0) rfl) ?_
  refine g_iconst (v := 1) dL_law_447 (by decide) ?_
  refine g_iadd dL_law_448 ?_
  refine g_eqi (nI (i + 1)) (nI_add i 1) ?_
  refine g_sld hX (vp_in_nI (by omega) (by omega)) dL_law_449 ?_
  refine g_eqi (xs (i + 1)) (by rw [nI_clamp (by omega)]) ?_
  refine g_aload_n dL_law_450 rfl (List.mem_of_getElem? (i := 1) rfl) ?_
  refine g_iload_n dL_law_451 rfl (List.mem_of_getElem? (i := 0) rfl) ?_
  refine g_iconst (v := 2) dL_law_452 (by decide) ?_
  refine g_iadd dL_law_453 ?_
  refine g_eqi (nI (i + 2)) (nI_add i 2) ?_
  refine g_sld hX (vp_in_nI (by omega) (by omega)) dL_law_454 ?_
  refine g_eqi (xs (i + 2)) (by rw [nI_clamp (by omega)]) ?_
  refine g_aload_n dL_law_455 rfl (List.mem_of_getElem? (i := 1) rfl) ?_
  refine g_iload_n dL_law_456 rfl (List.mem_of_getElem? (i := 0) rfl) ?_
  refine g_iconst (v := 3) dL_law_457 (by decide) ?_
  refine g_iadd dL_law_458 ?_
  refine g_eqi (nI (i + 3)) (nI_add i 3) ?_
  refine g_sld hX (vp_in_nI (by omega) (by omega)) dL_law_459 ?_
  refine g_eqi (xs (i + 3)) (by rw [nI_clamp (by omega)]) ?_
  refine g_cv (d1 := d1) (As := [.int (xs (i + 1)), .int (xs (i + 2)), .int (xs (i + 3))]) (st := [.long x]) hm1 hrm kX12_name lL_70 sX12_name (by omega) (Nat.le_of_ble_eq_true rfl) dL_law_460 (fun τ460 v460 h460 z460 => ?_)
  obtain ⟨rfl, hI2⟩ := hm2 _ _ h460
  show G _ _ _ _ _ _ _ _ _ _ 463 [(3, .int (nI i)), (0, .ref b), (1, .ref ax), (2, .ref am)] [.long x, .long x]
  refine g_lcmp dL_law_463 ?_
  refine g_if_eq (tgt := 492) dL_law_464 (by decide) (fun c464 => ?_) (fun c464 => absurd (lg_same x) c464)
  exact hk _ hI2
set_option maxRecDepth 100000 in
set_option maxHeartbeats 4000000 in
/-- the law: count -/
theorem law_count {l : Launch} {D : va_G} {A : Nat → ClassId} {B : Nat} {Z : State → Heap → Prop} (hZ : h_st B Z) {nm : String} {d d1 ax am b L : Nat} {xs : Nat → Int32} {I I' : hS → Prop} {σ0 : hS} {P : hS → Option Value → Prop} (hX : ∀ (U : State) (H : Heap), Z U H → va_X b L xs U H) (hL : L ≤ 3072) (hd : d1 + 1 ≤ d) (ha : l_all l D A B Z d1 ax am I I') {i : Nat} (hk : ∀ σ2 : hS, I' σ2 → G l D (h_ty A) B Z (mL_law nm) d σ0 P σ2 492 [(3, .int (nI i)), (0, .ref b), (1, .ref ax), (2, .ref am)] []) (hi : i + 6 ≤ L) {σ : hS} (hI : I σ) : G l D (h_ty A) B Z (mL_law nm) d σ0 P σ 469 [(3, .int (nI i)), (0, .ref b), (1, .ref ax), (2, .ref am)] [] := by
  refine g_aload_n dL_law_469 rfl (List.mem_of_getElem? (i := 2) rfl) ?_
  refine g_aload_n dL_law_470 rfl (List.mem_of_getElem? (i := 1) rfl) ?_
  refine g_iload_n dL_law_471 rfl (List.mem_of_getElem? (i := 0) rfl) ?_
  refine g_iconst (v := 1) dL_law_472 (by decide) ?_
  refine g_iadd dL_law_473 ?_
  refine g_eqi (nI (i + 1)) (nI_add i 1) ?_
  refine g_sld hX (vp_in_nI (by omega) (by omega)) dL_law_474 ?_
  refine g_eqi (xs (i + 1)) (by rw [nI_clamp (by omega)]) ?_
  obtain ⟨hr1, Pc, hc1, hc2⟩ := (ha.2.2.2.2.2.2.2.2.2.2.2.2.2 (xs (i + 1))) _ hI
  refine g_cv (d1 := d1) (As := [.int (xs (i + 1))]) (st := []) hc1 hr1 kX11_count lL_71 sX11_count (by omega) (Nat.le_of_ble_eq_true rfl) dL_law_475 (fun τ475 v475 h475 z475 => ?_)
  obtain ⟨x, rfl, hrm, Pm, hm1, hm2⟩ := hc2 _ _ h475
  show G _ _ _ _ _ _ _ _ _ _ 478 [(3, .int (nI i)), (0, .ref b), (1, .ref ax), (2, .ref am)] [.int x]
  refine g_aload_n dL_law_478 rfl (List.mem_of_getElem? (i := 3) rfl) ?_
  refine g_aload_n dL_law_479 rfl (List.mem_of_getElem? (i := 1) rfl) ?_
  refine g_iload_n dL_law_480 rfl (List.mem_of_getElem? (i := 0) rfl) ?_
  refine g_iconst (v := 1) dL_law_481 (by decide) ?_
  refine g_iadd dL_law_482 ?_
  refine g_eqi (nI (i + 1)) (nI_add i 1) ?_
  refine g_sld hX (vp_in_nI (by omega) (by omega)) dL_law_483 ?_
  refine g_eqi (xs (i + 1)) (by rw [nI_clamp (by omega)]) ?_
  refine g_cv (d1 := d1) (As := [.int (xs (i + 1))]) (st := [.int x]) hm1 hrm kX12_count lL_74 sX12_count (by omega) (Nat.le_of_ble_eq_true rfl) dL_law_484 (fun τ484 v484 h484 z484 => ?_)
  obtain ⟨rfl, hI2⟩ := hm2 _ _ h484
  show G _ _ _ _ _ _ _ _ _ _ 487 [(3, .int (nI i)), (0, .ref b), (1, .ref ax), (2, .ref am)] [.int x, .int x]
  refine g_icmp_eq (tgt := 492) dL_law_487 (by decide) (fun c487 => ?_) (fun c487 => absurd (rfl) c487)
  exact hk _ hI2
set_option maxRecDepth 100000 in
set_option maxHeartbeats 4000000 in
/-- the law: one call -/
theorem law_call {l : Launch} {D : va_G} {A : Nat → ClassId} {B : Nat} {Z : State → Heap → Prop} (hZ : h_st B Z) {nm : String} {d d1 ax am b L : Nat} {xs : Nat → Int32} {I I' : hS → Prop} {σ0 : hS} {P : hS → Option Value → Prop} (hX : ∀ (U : State) (H : Heap), Z U H → va_X b L xs U H) (hL : L ≤ 3072) (hd : d1 + 1 ≤ d) (ha : l_all l D A B Z d1 ax am I I') {i : Nat} (hk : ∀ σ2 : hS, I' σ2 → G l D (h_ty A) B Z (mL_law nm) d σ0 P σ2 492 [(3, .int (nI i)), (0, .ref b), (1, .ref ax), (2, .ref am)] []) (hi : i + 6 ≤ L) {σ : hS} (hI : I σ) : G l D (h_ty A) B Z (mL_law nm) d σ0 P σ 27 [(3, .int (nI i)), (0, .ref b), (1, .ref ax), (2, .ref am)] [] := by
  refine g_aload_n dL_law_27 rfl (List.mem_of_getElem? (i := 1) rfl) ?_
  refine g_iload_n dL_law_28 rfl (List.mem_of_getElem? (i := 0) rfl) ?_
  refine g_sld hX (vp_in_nI (by omega) (by omega)) dL_law_29 ?_
  refine g_eqi (xs i) (by rw [nI_clamp (by omega)]) ?_
  refine g_bipush (v := 15) dL_law_30 (by decide) ?_
  refine g_iand dL_law_32 ?_
  obtain ⟨q, hq⟩ : ∃ q, q = xs i &&& 15 := ⟨_, rfl⟩
  rw [← hq]
  rcases sw_n q 12 (by decide) with ⟨j33, hj33, rfl⟩ | hout33
  · rcases (show j33 = 0 ∨ j33 = 1 ∨ j33 = 2 ∨ j33 = 3 ∨ j33 = 4 ∨ j33 = 5 ∨ j33 = 6 ∨ j33 = 7 ∨ j33 = 8 ∨ j33 = 9 ∨ j33 = 10 ∨ j33 = 11 ∨ j33 = 12 by omega) with rfl | rfl | rfl | rfl | rfl | rfl | rfl | rfl | rfl | rfl | rfl | rfl | rfl
    · refine g_tableIn (tgt := 100) (off := 67) dL_law_33 (by decide) (by decide) rfl (by decide) ?_
      exact law_feed hZ hX hL hd ha hk hi hI
    · refine g_tableIn (tgt := 163) (off := 130) dL_law_33 (by decide) (by decide) rfl (by decide) ?_
      exact law_connect hZ hX hL hd ha hk hi hI
    · refine g_tableIn (tgt := 176) (off := 143) dL_law_33 (by decide) (by decide) rfl (by decide) ?_
      exact law_mail hZ hX hL hd ha hk hi hI
    · refine g_tableIn (tgt := 199) (off := 166) dL_law_33 (by decide) (by decide) rfl (by decide) ?_
      exact law_manage hZ hX hL hd ha hk hi hI
    · refine g_tableIn (tgt := 232) (off := 199) dL_law_33 (by decide) (by decide) rfl (by decide) ?_
      exact law_reply hZ hX hL hd ha hk hi hI
    · refine g_tableIn (tgt := 256) (off := 223) dL_law_33 (by decide) (by decide) rfl (by decide) ?_
      exact law_tick hZ hX hL hd ha hk hi hI
    · refine g_tableIn (tgt := 269) (off := 236) dL_law_33 (by decide) (by decide) rfl (by decide) ?_
      exact law_cut hZ hX hL hd ha hk hi hI
    · refine g_tableIn (tgt := 292) (off := 259) dL_law_33 (by decide) (by decide) rfl (by decide) ?_
      exact law_start hZ hX hL hd ha hk hi hI
    · refine g_tableIn (tgt := 305) (off := 272) dL_law_33 (by decide) (by decide) rfl (by decide) ?_
      exact law_messages hZ hX hL hd ha hk hi hI
    · refine g_tableIn (tgt := 338) (off := 305) dL_law_33 (by decide) (by decide) rfl (by decide) ?_
      exact law_message hZ hX hL hd ha hk hi hI
    · refine g_tableIn (tgt := 391) (off := 358) dL_law_33 (by decide) (by decide) rfl (by decide) ?_
      exact law_bytes hZ hX hL hd ha hk hi hI
    · refine g_tableIn (tgt := 425) (off := 392) dL_law_33 (by decide) (by decide) rfl (by decide) ?_
      exact law_name hZ hX hL hd ha hk hi hI
    · refine g_tableIn (tgt := 469) (off := 436) dL_law_33 (by decide) (by decide) rfl (by decide) ?_
      exact law_count hZ hX hL hd ha hk hi hI
  · refine g_tableOut (tgt := 492) dL_law_33 (by omega) (by decide) ?_
    exact hk _ (ha.1 _ hI)
theorem l_in {i L : Nat} (hL : L ≤ 3072) (hi : i ≤ 4000) (c : ¬ nI L - 6 < nI i) : i + 6 ≤ L := by
  have h := Int32.not_lt.mp c
  rw [Int32.le_iff_toInt_le, show nI L - 6 = nI L - nI 6 from rfl, pk_sub_toInt (by omega) (by decide), nI_toInt (by omega)] at h
  omega
set_option maxRecDepth 100000 in
set_option maxHeartbeats 4000000 in
/-- the law: the head of its loop -/
theorem law_head {l : Launch} {D : va_G} {A : Nat → ClassId} {B : Nat} {Z : State → Heap → Prop} (hZ : h_st B Z) {nm : String} {d d1 ax am b L : Nat} {xs : Nat → Int32} {I I' : hS → Prop} {σ0 : hS} {P : hS → Option Value → Prop} (hX : ∀ (U : State) (H : Heap), Z U H → va_X b L xs U H) (hL : L ≤ 3072) (hd : d1 + 1 ≤ d) (ha : l_all l D A B Z d1 ax am I I') (hP : ∀ σ : hS, P σ (some (.int 1))) {i : Nat} (hi0 : i ≤ 4000) (hk : i + 6 ≤ L → ∀ σ2 : hS, I' σ2 → G l D (h_ty A) B Z (mL_law nm) d σ0 P σ2 18 [(3, .int (nI (i + 6))), (0, .ref b), (1, .ref ax), (2, .ref am)] []) {σ : hS} (hI : I σ) : G l D (h_ty A) B Z (mL_law nm) d σ0 P σ 18 [(3, .int (nI i)), (0, .ref b), (1, .ref ax), (2, .ref am)] [] := by
  refine g_iload_n dL_law_18 rfl (List.mem_of_getElem? (i := 0) rfl) ?_
  refine g_aload_n dL_law_19 rfl (List.mem_of_getElem? (i := 1) rfl) ?_
  refine g_slen hX dL_law_20 ?_
  refine g_bipush (v := 6) dL_law_21 (by decide) ?_
  refine g_isub dL_law_23 ?_
  refine g_icmp_gt (tgt := 498) dL_law_24 (by decide) (fun c24 => ?_) (fun c24 => ?_)
  · have c24 := c24
    refine g_iconst (v := 1) dL_law_498 (by decide) ?_
    exact g_zret rfl rfl dL_law_499 (hP _)
  · have hi : i + 6 ≤ L := l_in hL hi0 c24
    exact law_call hZ hX hL hd ha (fun σ2 h2 => by
      refine g_iinc (v := nI (i + 6)) dL_law_492 (k := 0) rfl (nI_add i 6) (show 3 < 4 by decide) rfl ?_
      refine g_goto (tgt := 18) dL_law_495 (by decide) ?_
      exact hk hi σ2 h2) hi hI
