theorem dX6_addKind_44 : decode cX6_addKind 44 = .ok (.ifnull 8, 3) := by decide +kernel
theorem dX6_addKind_47 : decode cX6_addKind 47 = .ok (.aload_n 1, 1) := by decide +kernel
theorem dX6_addKind_48 : decode cX6_addKind 48 = .ok (.iconst 1, 1) := by decide +kernel
theorem dX6_addKind_49 : decode cX6_addKind 49 = .ok (.putfield 33, 3) := by decide +kernel
theorem dX6_addKind_52 : decode cX6_addKind 52 = .ok (.aload_n 0, 1) := by decide +kernel
theorem dX6_addKind_53 : decode cX6_addKind 53 = .ok (.getfield 23, 3) := by decide +kernel
theorem dX6_addKind_56 : decode cX6_addKind 56 = .ok (.iconst 1, 1) := by decide +kernel
theorem dX6_addKind_57 : decode cX6_addKind 57 = .ok (.isub, 1) := by decide +kernel
theorem dX6_addKind_58 : decode cX6_addKind 58 = .ok (.ireturn, 1) := by decide +kernel
theorem dX6_addMethod_0 : decode cX6_addMethod 0 = .ok (.aload_n 0, 1) := by decide +kernel
theorem dX6_addMethod_1 : decode cX6_addMethod 1 = .ok (.getfield 27, 3) := by decide +kernel
theorem dX6_addMethod_4 : decode cX6_addMethod 4 = .ok (.bipush 64, 2) := by decide +kernel
theorem dX6_addMethod_6 : decode cX6_addMethod 6 = .ok (.if_icmp .lt 6, 3) := by decide +kernel
theorem dX6_addMethod_9 : decode cX6_addMethod 9 = .ok (.bipush (-2), 2) := by decide +kernel
theorem dX6_addMethod_11 : decode cX6_addMethod 11 = .ok (.ireturn, 1) := by decide +kernel
theorem dX6_addMethod_12 : decode cX6_addMethod 12 = .ok (.aload_n 0, 1) := by decide +kernel
theorem dX6_addMethod_13 : decode cX6_addMethod 13 = .ok (.getfield 19, 3) := by decide +kernel
theorem dX6_addMethod_16 : decode cX6_addMethod 16 = .ok (.aload_n 0, 1) := by decide +kernel
theorem dX6_addMethod_17 : decode cX6_addMethod 17 = .ok (.getfield 27, 3) := by decide +kernel
theorem dX6_addMethod_20 : decode cX6_addMethod 20 = .ok (.new 17, 3) := by decide +kernel
theorem dX6_addMethod_23 : decode cX6_addMethod 23 = .ok (.dup, 1) := by decide +kernel
theorem dX6_addMethod_24 : decode cX6_addMethod 24 = .ok (.aload_n 1, 1) := by decide +kernel
theorem dX6_addMethod_25 : decode cX6_addMethod 25 = .ok (.iload_n 2, 1) := by decide +kernel
theorem dX6_addMethod_26 : decode cX6_addMethod 26 = .ok (.iload_n 3, 1) := by decide +kernel
theorem dX6_addMethod_27 : decode cX6_addMethod 27 = .ok (.iload 4, 2) := by decide +kernel
theorem dX6_addMethod_29 : decode cX6_addMethod 29 = .ok (.invokespecial 37, 3) := by decide +kernel
theorem dX6_addMethod_32 : decode cX6_addMethod 32 = .ok (.aastore, 1) := by decide +kernel
theorem dX6_addMethod_33 : decode cX6_addMethod 33 = .ok (.aload_n 0, 1) := by decide +kernel
theorem dX6_addMethod_34 : decode cX6_addMethod 34 = .ok (.dup, 1) := by decide +kernel
theorem dX6_addMethod_35 : decode cX6_addMethod 35 = .ok (.getfield 27, 3) := by decide +kernel
theorem dX6_addMethod_38 : decode cX6_addMethod 38 = .ok (.iconst 1, 1) := by decide +kernel
theorem dX6_addMethod_39 : decode cX6_addMethod 39 = .ok (.iadd, 1) := by decide +kernel
theorem dX6_addMethod_40 : decode cX6_addMethod 40 = .ok (.putfield 27, 3) := by decide +kernel
theorem dX6_addMethod_43 : decode cX6_addMethod 43 = .ok (.aload_n 1, 1) := by decide +kernel
theorem dX6_addMethod_44 : decode cX6_addMethod 44 = .ok (.ifnull 8, 3) := by decide +kernel
theorem dX6_addMethod_47 : decode cX6_addMethod 47 = .ok (.aload_n 1, 1) := by decide +kernel
theorem dX6_addMethod_48 : decode cX6_addMethod 48 = .ok (.iconst 1, 1) := by decide +kernel
theorem dX6_addMethod_49 : decode cX6_addMethod 49 = .ok (.putfield 40, 3) := by decide +kernel
theorem dX6_addMethod_52 : decode cX6_addMethod 52 = .ok (.aload_n 0, 1) := by decide +kernel
theorem dX6_addMethod_53 : decode cX6_addMethod 53 = .ok (.getfield 27, 3) := by decide +kernel
theorem dX6_addMethod_56 : decode cX6_addMethod 56 = .ok (.iconst 1, 1) := by decide +kernel
theorem dX6_addMethod_57 : decode cX6_addMethod 57 = .ok (.isub, 1) := by decide +kernel
theorem dX6_addMethod_58 : decode cX6_addMethod 58 = .ok (.ireturn, 1) := by decide +kernel
theorem dX6_isType_0 : decode cX6_isType 0 = .ok (.iload_n 1, 1) := by decide +kernel
theorem dX6_isType_1 : decode cX6_isType 1 = .ok (.invokestatic 43, 3) := by decide +kernel
theorem dX6_isType_4 : decode cX6_isType 4 = .ok (.ifCond .eq 26, 3) := by decide +kernel
theorem dX6_isType_7 : decode cX6_isType 7 = .ok (.iload_n 1, 1) := by decide +kernel
theorem dX6_isType_8 : decode cX6_isType 8 = .ok (.bipush 64, 2) := by decide +kernel
theorem dX6_isType_10 : decode cX6_isType 10 = .ok (.if_icmp .eq 14, 3) := by decide +kernel
theorem dX6_isType_13 : decode cX6_isType 13 = .ok (.aload_n 0, 1) := by decide +kernel
theorem dX6_isType_14 : decode cX6_isType 14 = .ok (.iload_n 1, 1) := by decide +kernel
theorem dX6_isType_15 : decode cX6_isType 15 = .ok (.invokestatic 47, 3) := by decide +kernel
theorem dX6_isType_18 : decode cX6_isType 18 = .ok (.invokevirtual 51, 3) := by decide +kernel
theorem dX6_isType_21 : decode cX6_isType 21 = .ok (.ifnull 7, 3) := by decide +kernel
theorem dX6_isType_24 : decode cX6_isType 24 = .ok (.iconst 1, 1) := by decide +kernel
theorem dX6_isType_25 : decode cX6_isType 25 = .ok (.goto 4, 3) := by decide +kernel
theorem dX6_isType_28 : decode cX6_isType 28 = .ok (.iconst 0, 1) := by decide +kernel
theorem dX6_isType_29 : decode cX6_isType 29 = .ok (.ireturn, 1) := by decide +kernel
theorem dX6_isType_30 : decode cX6_isType 30 = .ok (.iload_n 1, 1) := by decide +kernel
theorem dX6_isType_31 : decode cX6_isType 31 = .ok (.ifCond .eq 11, 3) := by decide +kernel
theorem dX6_isType_34 : decode cX6_isType 34 = .ok (.aload_n 0, 1) := by decide +kernel
theorem dX6_isType_35 : decode cX6_isType 35 = .ok (.iload_n 1, 1) := by decide +kernel
theorem dX6_isType_36 : decode cX6_isType 36 = .ok (.invokevirtual 51, 3) := by decide +kernel
theorem dX6_isType_39 : decode cX6_isType 39 = .ok (.ifnull 7, 3) := by decide +kernel
theorem dX6_isType_42 : decode cX6_isType 42 = .ok (.iconst 1, 1) := by decide +kernel
theorem dX6_isType_43 : decode cX6_isType 43 = .ok (.goto 4, 3) := by decide +kernel
theorem dX6_isType_46 : decode cX6_isType 46 = .ok (.iconst 0, 1) := by decide +kernel
theorem dX6_isType_47 : decode cX6_isType 47 = .ok (.ireturn, 1) := by decide +kernel
theorem dX6_areOperands_0 : decode cX6_areOperands 0 = .ok (.iload_n 2, 1) := by decide +kernel
theorem dX6_areOperands_1 : decode cX6_areOperands 1 = .ok (.bipush 19, 2) := by decide +kernel
theorem dX6_areOperands_3 : decode cX6_areOperands 3 = .ok (.if_icmp .lt 14, 3) := by decide +kernel
theorem dX6_areOperands_6 : decode cX6_areOperands 6 = .ok (.iload_n 2, 1) := by decide +kernel
theorem dX6_areOperands_7 : decode cX6_areOperands 7 = .ok (.bipush 25, 2) := by decide +kernel
theorem dX6_areOperands_9 : decode cX6_areOperands 9 = .ok (.if_icmp .gt 8, 3) := by decide +kernel
theorem dX6_areOperands_12 : decode cX6_areOperands 12 = .ok (.iload_n 3, 1) := by decide +kernel
theorem dX6_areOperands_13 : decode cX6_areOperands 13 = .ok (.invokestatic 55, 3) := by decide +kernel
theorem dX6_areOperands_16 : decode cX6_areOperands 16 = .ok (.ireturn, 1) := by decide +kernel
theorem dX6_areOperands_17 : decode cX6_areOperands 17 = .ok (.iload_n 2, 1) := by decide +kernel
theorem dX6_areOperands_18 : decode cX6_areOperands 18 = .ok (.tableswitch 251 2 36 #[154, 154, 251, 251, 251, 251, 251, 251, 251, 251, 251, 251, 251, 251, 251, 251, 251, 251, 251, 251, 251, 251, 251, 251, 172, 186, 186, 172, 172, 203, 251, 251, 251, 221, 235], 154) := by decide +kernel
theorem dX6_areOperands_172 : decode cX6_areOperands 172 = .ok (.iload_n 3, 1) := by decide +kernel
theorem dX6_areOperands_173 : decode cX6_areOperands 173 = .ok (.ifCond .lt 15, 3) := by decide +kernel
theorem dX6_areOperands_176 : decode cX6_areOperands 176 = .ok (.iload_n 3, 1) := by decide +kernel
theorem dX6_areOperands_177 : decode cX6_areOperands 177 = .ok (.aload_n 1, 1) := by decide +kernel
theorem dX6_areOperands_178 : decode cX6_areOperands 178 = .ok (.getfield 58, 3) := by decide +kernel
theorem dX6_areOperands_181 : decode cX6_areOperands 181 = .ok (.if_icmp .ge 7, 3) := by decide +kernel
theorem dX6_areOperands_184 : decode cX6_areOperands 184 = .ok (.iconst 1, 1) := by decide +kernel
theorem dX6_areOperands_185 : decode cX6_areOperands 185 = .ok (.goto 4, 3) := by decide +kernel
theorem dX6_areOperands_188 : decode cX6_areOperands 188 = .ok (.iconst 0, 1) := by decide +kernel
theorem dX6_areOperands_189 : decode cX6_areOperands 189 = .ok (.ireturn, 1) := by decide +kernel
theorem dX6_areOperands_190 : decode cX6_areOperands 190 = .ok (.aload_n 0, 1) := by decide +kernel
theorem dX6_areOperands_191 : decode cX6_areOperands 191 = .ok (.iload_n 3, 1) := by decide +kernel
theorem dX6_areOperands_192 : decode cX6_areOperands 192 = .ok (.invokevirtual 61, 3) := by decide +kernel
theorem dX6_areOperands_195 : decode cX6_areOperands 195 = .ok (.ifnull 7, 3) := by decide +kernel
theorem dX6_areOperands_198 : decode cX6_areOperands 198 = .ok (.iconst 1, 1) := by decide +kernel
theorem dX6_areOperands_199 : decode cX6_areOperands 199 = .ok (.goto 4, 3) := by decide +kernel
theorem dX6_areOperands_202 : decode cX6_areOperands 202 = .ok (.iconst 0, 1) := by decide +kernel
theorem dX6_areOperands_203 : decode cX6_areOperands 203 = .ok (.ireturn, 1) := by decide +kernel
theorem dX6_areOperands_204 : decode cX6_areOperands 204 = .ok (.aload_n 0, 1) := by decide +kernel
theorem dX6_areOperands_205 : decode cX6_areOperands 205 = .ok (.iload_n 3, 1) := by decide +kernel
theorem dX6_areOperands_206 : decode cX6_areOperands 206 = .ok (.iload 4, 2) := by decide +kernel
theorem dX6_areOperands_208 : decode cX6_areOperands 208 = .ok (.invokevirtual 64, 3) := by decide +kernel
theorem dX6_areOperands_211 : decode cX6_areOperands 211 = .ok (.iconst (-1), 1) := by decide +kernel
theorem dX6_areOperands_212 : decode cX6_areOperands 212 = .ok (.if_icmp .eq 7, 3) := by decide +kernel
theorem dX6_areOperands_215 : decode cX6_areOperands 215 = .ok (.iconst 1, 1) := by decide +kernel
theorem dX6_areOperands_216 : decode cX6_areOperands 216 = .ok (.goto 4, 3) := by decide +kernel
theorem dX6_areOperands_219 : decode cX6_areOperands 219 = .ok (.iconst 0, 1) := by decide +kernel
theorem dX6_areOperands_220 : decode cX6_areOperands 220 = .ok (.ireturn, 1) := by decide +kernel
theorem dX6_areOperands_221 : decode cX6_areOperands 221 = .ok (.iload_n 3, 1) := by decide +kernel
theorem dX6_areOperands_222 : decode cX6_areOperands 222 = .ok (.ifCond .lt 15, 3) := by decide +kernel
theorem dX6_areOperands_225 : decode cX6_areOperands 225 = .ok (.iload_n 3, 1) := by decide +kernel
theorem dX6_areOperands_226 : decode cX6_areOperands 226 = .ok (.aload_n 0, 1) := by decide +kernel
theorem dX6_areOperands_227 : decode cX6_areOperands 227 = .ok (.getfield 23, 3) := by decide +kernel
theorem dX6_areOperands_230 : decode cX6_areOperands 230 = .ok (.if_icmp .gt 7, 3) := by decide +kernel
theorem dX6_areOperands_233 : decode cX6_areOperands 233 = .ok (.iconst 1, 1) := by decide +kernel
theorem dX6_areOperands_234 : decode cX6_areOperands 234 = .ok (.goto 4, 3) := by decide +kernel
theorem dX6_areOperands_237 : decode cX6_areOperands 237 = .ok (.iconst 0, 1) := by decide +kernel
theorem dX6_areOperands_238 : decode cX6_areOperands 238 = .ok (.ireturn, 1) := by decide +kernel
theorem dX6_areOperands_239 : decode cX6_areOperands 239 = .ok (.aload_n 0, 1) := by decide +kernel
theorem dX6_areOperands_240 : decode cX6_areOperands 240 = .ok (.iload_n 3, 1) := by decide +kernel
theorem dX6_areOperands_241 : decode cX6_areOperands 241 = .ok (.invokevirtual 68, 3) := by decide +kernel
theorem dX6_areOperands_244 : decode cX6_areOperands 244 = .ok (.ifnull 7, 3) := by decide +kernel
theorem dX6_areOperands_247 : decode cX6_areOperands 247 = .ok (.iconst 1, 1) := by decide +kernel
theorem dX6_areOperands_248 : decode cX6_areOperands 248 = .ok (.goto 4, 3) := by decide +kernel
theorem dX6_areOperands_251 : decode cX6_areOperands 251 = .ok (.iconst 0, 1) := by decide +kernel
theorem dX6_areOperands_252 : decode cX6_areOperands 252 = .ok (.ireturn, 1) := by decide +kernel
theorem dX6_areOperands_253 : decode cX6_areOperands 253 = .ok (.aload_n 0, 1) := by decide +kernel
theorem dX6_areOperands_254 : decode cX6_areOperands 254 = .ok (.iload_n 3, 1) := by decide +kernel
theorem dX6_areOperands_255 : decode cX6_areOperands 255 = .ok (.iload 4, 2) := by decide +kernel
theorem dX6_areOperands_257 : decode cX6_areOperands 257 = .ok (.invokevirtual 72, 3) := by decide +kernel
theorem dX6_areOperands_260 : decode cX6_areOperands 260 = .ok (.ifnull 7, 3) := by decide +kernel
theorem dX6_areOperands_263 : decode cX6_areOperands 263 = .ok (.iconst 1, 1) := by decide +kernel
theorem dX6_areOperands_264 : decode cX6_areOperands 264 = .ok (.goto 4, 3) := by decide +kernel
theorem dX6_areOperands_267 : decode cX6_areOperands 267 = .ok (.iconst 0, 1) := by decide +kernel
theorem dX6_areOperands_268 : decode cX6_areOperands 268 = .ok (.ireturn, 1) := by decide +kernel
theorem dX6_areOperands_269 : decode cX6_areOperands 269 = .ok (.iload_n 2, 1) := by decide +kernel
theorem dX6_areOperands_270 : decode cX6_areOperands 270 = .ok (.ifCond .lt 13, 3) := by decide +kernel
theorem dX6_areOperands_273 : decode cX6_areOperands 273 = .ok (.iload_n 2, 1) := by decide +kernel
theorem dX6_areOperands_274 : decode cX6_areOperands 274 = .ok (.bipush 41, 2) := by decide +kernel
theorem dX6_areOperands_276 : decode cX6_areOperands 276 = .ok (.if_icmp .gt 7, 3) := by decide +kernel
theorem dX6_areOperands_279 : decode cX6_areOperands 279 = .ok (.iconst 1, 1) := by decide +kernel
theorem dX6_areOperands_280 : decode cX6_areOperands 280 = .ok (.goto 4, 3) := by decide +kernel
theorem dX6_areOperands_283 : decode cX6_areOperands 283 = .ok (.iconst 0, 1) := by decide +kernel
theorem dX6_areOperands_284 : decode cX6_areOperands 284 = .ok (.ireturn, 1) := by decide +kernel
theorem dX6_fieldType_0 : decode cX6_fieldType 0 = .ok (.aload_n 0, 1) := by decide +kernel
theorem dX6_fieldType_1 : decode cX6_fieldType 1 = .ok (.iload_n 1, 1) := by decide +kernel
theorem dX6_fieldType_2 : decode cX6_fieldType 2 = .ok (.invokevirtual 61, 3) := by decide +kernel
theorem dX6_fieldType_5 : decode cX6_fieldType 5 = .ok (.astore_n 3, 1) := by decide +kernel
theorem dX6_fieldType_6 : decode cX6_fieldType 6 = .ok (.aload_n 3, 1) := by decide +kernel
theorem dX6_fieldType_7 : decode cX6_fieldType 7 = .ok (.ifnonnull 7, 3) := by decide +kernel
theorem dX6_fieldType_10 : decode cX6_fieldType 10 = .ok (.iconst (-1), 1) := by decide +kernel
theorem dX6_fieldType_11 : decode cX6_fieldType 11 = .ok (.goto 8, 3) := by decide +kernel
theorem dX6_fieldType_14 : decode cX6_fieldType 14 = .ok (.aload_n 3, 1) := by decide +kernel
theorem dX6_fieldType_15 : decode cX6_fieldType 15 = .ok (.iload_n 2, 1) := by decide +kernel
theorem dX6_fieldType_16 : decode cX6_fieldType 16 = .ok (.invokevirtual 76, 3) := by decide +kernel
theorem dX6_fieldType_19 : decode cX6_fieldType 19 = .ok (.ireturn, 1) := by decide +kernel
theorem dX6_methodInSlot_0 : decode cX6_methodInSlot 0 = .ok (.aload_n 0, 1) := by decide +kernel
theorem dX6_methodInSlot_1 : decode cX6_methodInSlot 1 = .ok (.iload_n 1, 1) := by decide +kernel
theorem dX6_methodInSlot_2 : decode cX6_methodInSlot 2 = .ok (.invokevirtual 61, 3) := by decide +kernel
theorem dX6_methodInSlot_5 : decode cX6_methodInSlot 5 = .ok (.astore_n 3, 1) := by decide +kernel
theorem dX6_methodInSlot_6 : decode cX6_methodInSlot 6 = .ok (.aload_n 3, 1) := by decide +kernel
theorem dX6_methodInSlot_7 : decode cX6_methodInSlot 7 = .ok (.ifnonnull 7, 3) := by decide +kernel
theorem dX6_methodInSlot_10 : decode cX6_methodInSlot 10 = .ok (.aconst_null, 1) := by decide +kernel
theorem dX6_methodInSlot_11 : decode cX6_methodInSlot 11 = .ok (.goto 12, 3) := by decide +kernel
theorem dX6_methodInSlot_14 : decode cX6_methodInSlot 14 = .ok (.aload_n 0, 1) := by decide +kernel
theorem dX6_methodInSlot_15 : decode cX6_methodInSlot 15 = .ok (.aload_n 3, 1) := by decide +kernel
theorem dX6_methodInSlot_16 : decode cX6_methodInSlot 16 = .ok (.iload_n 2, 1) := by decide +kernel
theorem dX6_methodInSlot_17 : decode cX6_methodInSlot 17 = .ok (.invokevirtual 78, 3) := by decide +kernel
theorem dX6_methodInSlot_20 : decode cX6_methodInSlot 20 = .ok (.invokevirtual 68, 3) := by decide +kernel
theorem dX6_methodInSlot_23 : decode cX6_methodInSlot 23 = .ok (.areturn, 1) := by decide +kernel
theorem dX6_goesInto_0 : decode cX6_goesInto 0 = .ok (.iload_n 1, 1) := by decide +kernel
theorem dX6_goesInto_1 : decode cX6_goesInto 1 = .ok (.iload_n 2, 1) := by decide +kernel
theorem dX6_goesInto_2 : decode cX6_goesInto 2 = .ok (.if_icmp .ne 5, 3) := by decide +kernel
theorem dX6_goesInto_5 : decode cX6_goesInto 5 = .ok (.iconst 1, 1) := by decide +kernel
theorem dX6_goesInto_6 : decode cX6_goesInto 6 = .ok (.ireturn, 1) := by decide +kernel
theorem dX6_goesInto_7 : decode cX6_goesInto 7 = .ok (.iload_n 1, 1) := by decide +kernel
theorem dX6_goesInto_8 : decode cX6_goesInto 8 = .ok (.bipush 97, 2) := by decide +kernel
theorem dX6_goesInto_10 : decode cX6_goesInto 10 = .ok (.if_icmp .ne 22, 3) := by decide +kernel
theorem dX6_goesInto_13 : decode cX6_goesInto 13 = .ok (.iload_n 2, 1) := by decide +kernel
theorem dX6_goesInto_14 : decode cX6_goesInto 14 = .ok (.invokestatic 81, 3) := by decide +kernel
theorem dX6_goesInto_17 : decode cX6_goesInto 17 = .ok (.ifCond .eq 13, 3) := by decide +kernel
theorem dX6_goesInto_20 : decode cX6_goesInto 20 = .ok (.iload_n 2, 1) := by decide +kernel
theorem dX6_goesInto_21 : decode cX6_goesInto 21 = .ok (.bipush 98, 2) := by decide +kernel
theorem dX6_goesInto_23 : decode cX6_goesInto 23 = .ok (.if_icmp .eq 7, 3) := by decide +kernel
theorem dX6_goesInto_26 : decode cX6_goesInto 26 = .ok (.iconst 1, 1) := by decide +kernel
theorem dX6_goesInto_27 : decode cX6_goesInto 27 = .ok (.goto 4, 3) := by decide +kernel
theorem dX6_goesInto_30 : decode cX6_goesInto 30 = .ok (.iconst 0, 1) := by decide +kernel
theorem dX6_goesInto_31 : decode cX6_goesInto 31 = .ok (.ireturn, 1) := by decide +kernel
theorem dX6_goesInto_32 : decode cX6_goesInto 32 = .ok (.aload_n 0, 1) := by decide +kernel
theorem dX6_goesInto_33 : decode cX6_goesInto 33 = .ok (.iload_n 1, 1) := by decide +kernel
theorem dX6_goesInto_34 : decode cX6_goesInto 34 = .ok (.invokevirtual 51, 3) := by decide +kernel
theorem dX6_goesInto_37 : decode cX6_goesInto 37 = .ok (.astore_n 3, 1) := by decide +kernel
theorem dX6_goesInto_38 : decode cX6_goesInto 38 = .ok (.aload_n 0, 1) := by decide +kernel
theorem dX6_goesInto_39 : decode cX6_goesInto 39 = .ok (.iload_n 2, 1) := by decide +kernel
theorem dX6_goesInto_40 : decode cX6_goesInto 40 = .ok (.invokevirtual 51, 3) := by decide +kernel
theorem dX6_goesInto_43 : decode cX6_goesInto 43 = .ok (.astore 4, 2) := by decide +kernel
theorem dX6_goesInto_45 : decode cX6_goesInto 45 = .ok (.aload_n 3, 1) := by decide +kernel
theorem dX6_goesInto_46 : decode cX6_goesInto 46 = .ok (.ifnull 24, 3) := by decide +kernel
theorem dX6_goesInto_49 : decode cX6_goesInto 49 = .ok (.aload 4, 2) := by decide +kernel
theorem dX6_goesInto_51 : decode cX6_goesInto 51 = .ok (.ifnull 19, 3) := by decide +kernel
theorem dX6_goesInto_54 : decode cX6_goesInto 54 = .ok (.aload_n 3, 1) := by decide +kernel
theorem dX6_goesInto_55 : decode cX6_goesInto 55 = .ok (.aload 4, 2) := by decide +kernel
theorem dX6_goesInto_57 : decode cX6_goesInto 57 = .ok (.getfield 84, 3) := by decide +kernel
theorem dX6_goesInto_60 : decode cX6_goesInto 60 = .ok (.invokevirtual 87, 3) := by decide +kernel
theorem dX6_goesInto_63 : decode cX6_goesInto 63 = .ok (.ifCond .eq 7, 3) := by decide +kernel
theorem dX6_goesInto_66 : decode cX6_goesInto 66 = .ok (.iconst 1, 1) := by decide +kernel
theorem dX6_goesInto_67 : decode cX6_goesInto 67 = .ok (.goto 4, 3) := by decide +kernel
theorem dX6_goesInto_70 : decode cX6_goesInto 70 = .ok (.iconst 0, 1) := by decide +kernel
theorem dX6_goesInto_71 : decode cX6_goesInto 71 = .ok (.ireturn, 1) := by decide +kernel
theorem dX6_meeting_0 : decode cX6_meeting 0 = .ok (.iload_n 1, 1) := by decide +kernel
theorem dX6_meeting_1 : decode cX6_meeting 1 = .ok (.iload_n 2, 1) := by decide +kernel
theorem dX6_meeting_2 : decode cX6_meeting 2 = .ok (.if_icmp .ne 5, 3) := by decide +kernel
theorem dX6_meeting_5 : decode cX6_meeting 5 = .ok (.iload_n 1, 1) := by decide +kernel
theorem dX6_meeting_6 : decode cX6_meeting 6 = .ok (.ireturn, 1) := by decide +kernel
theorem dX6_meeting_7 : decode cX6_meeting 7 = .ok (.iload_n 1, 1) := by decide +kernel
theorem dX6_meeting_8 : decode cX6_meeting 8 = .ok (.invokestatic 81, 3) := by decide +kernel
theorem dX6_meeting_11 : decode cX6_meeting 11 = .ok (.ifCond .eq 10, 3) := by decide +kernel
theorem dX6_meeting_14 : decode cX6_meeting 14 = .ok (.iload_n 2, 1) := by decide +kernel
theorem dX6_meeting_15 : decode cX6_meeting 15 = .ok (.invokestatic 81, 3) := by decide +kernel
theorem dX6_meeting_18 : decode cX6_meeting 18 = .ok (.ifCond .ne 6, 3) := by decide +kernel
theorem dX6_meeting_21 : decode cX6_meeting 21 = .ok (.bipush 99, 2) := by decide +kernel
theorem dX6_meeting_23 : decode cX6_meeting 23 = .ok (.ireturn, 1) := by decide +kernel
theorem dX6_meeting_24 : decode cX6_meeting 24 = .ok (.iload_n 1, 1) := by decide +kernel
theorem dX6_meeting_25 : decode cX6_meeting 25 = .ok (.bipush 97, 2) := by decide +kernel
theorem dX6_meeting_27 : decode cX6_meeting 27 = .ok (.if_icmp .ne 5, 3) := by decide +kernel
theorem dX6_meeting_30 : decode cX6_meeting 30 = .ok (.iload_n 2, 1) := by decide +kernel
theorem dX6_meeting_31 : decode cX6_meeting 31 = .ok (.ireturn, 1) := by decide +kernel
theorem dX6_meeting_32 : decode cX6_meeting 32 = .ok (.iload_n 2, 1) := by decide +kernel
theorem dX6_meeting_33 : decode cX6_meeting 33 = .ok (.bipush 97, 2) := by decide +kernel
theorem dX6_meeting_35 : decode cX6_meeting 35 = .ok (.if_icmp .ne 5, 3) := by decide +kernel
theorem dX6_meeting_38 : decode cX6_meeting 38 = .ok (.iload_n 1, 1) := by decide +kernel
theorem dX6_meeting_39 : decode cX6_meeting 39 = .ok (.ireturn, 1) := by decide +kernel
theorem dX6_meeting_40 : decode cX6_meeting 40 = .ok (.aload_n 0, 1) := by decide +kernel
theorem dX6_meeting_41 : decode cX6_meeting 41 = .ok (.iload_n 1, 1) := by decide +kernel
theorem dX6_meeting_42 : decode cX6_meeting 42 = .ok (.invokevirtual 51, 3) := by decide +kernel
theorem dX6_meeting_45 : decode cX6_meeting 45 = .ok (.aload_n 0, 1) := by decide +kernel
theorem dX6_meeting_46 : decode cX6_meeting 46 = .ok (.iload_n 2, 1) := by decide +kernel
theorem dX6_meeting_47 : decode cX6_meeting 47 = .ok (.invokevirtual 51, 3) := by decide +kernel
theorem dX6_meeting_50 : decode cX6_meeting 50 = .ok (.invokestatic 90, 3) := by decide +kernel
theorem dX6_meeting_53 : decode cX6_meeting 53 = .ok (.ireturn, 1) := by decide +kernel
theorem dX6_lowestAboveBoth_0 : decode cX6_lowestAboveBoth 0 = .ok (.aload_n 0, 1) := by decide +kernel
theorem dX6_lowestAboveBoth_1 : decode cX6_lowestAboveBoth 1 = .ok (.ifnull 7, 3) := by decide +kernel
theorem dX6_lowestAboveBoth_4 : decode cX6_lowestAboveBoth 4 = .ok (.aload_n 1, 1) := by decide +kernel
theorem dX6_lowestAboveBoth_5 : decode cX6_lowestAboveBoth 5 = .ok (.ifnonnull 6, 3) := by decide +kernel
theorem dX6_lowestAboveBoth_8 : decode cX6_lowestAboveBoth 8 = .ok (.bipush 98, 2) := by decide +kernel
theorem dX6_lowestAboveBoth_10 : decode cX6_lowestAboveBoth 10 = .ok (.ireturn, 1) := by decide +kernel
theorem dX6_lowestAboveBoth_11 : decode cX6_lowestAboveBoth 11 = .ok (.aload_n 0, 1) := by decide +kernel
theorem dX6_lowestAboveBoth_12 : decode cX6_lowestAboveBoth 12 = .ok (.getfield 94, 3) := by decide +kernel
theorem dX6_lowestAboveBoth_15 : decode cX6_lowestAboveBoth 15 = .ok (.aload_n 1, 1) := by decide +kernel
theorem dX6_lowestAboveBoth_16 : decode cX6_lowestAboveBoth 16 = .ok (.getfield 94, 3) := by decide +kernel
theorem dX6_lowestAboveBoth_19 : decode cX6_lowestAboveBoth 19 = .ok (.iand, 1) := by decide +kernel
theorem dX6_lowestAboveBoth_20 : decode cX6_lowestAboveBoth 20 = .ok (.istore_n 2, 1) := by decide +kernel
theorem dX6_lowestAboveBoth_21 : decode cX6_lowestAboveBoth 21 = .ok (.bipush 31, 2) := by decide +kernel
theorem dX6_lowestAboveBoth_23 : decode cX6_lowestAboveBoth 23 = .ok (.istore_n 3, 1) := by decide +kernel
theorem dX6_lowestAboveBoth_24 : decode cX6_lowestAboveBoth 24 = .ok (.iload_n 3, 1) := by decide +kernel
theorem dX6_lowestAboveBoth_25 : decode cX6_lowestAboveBoth 25 = .ok (.ifCond .lt 21, 3) := by decide +kernel
theorem dX6_lowestAboveBoth_28 : decode cX6_lowestAboveBoth 28 = .ok (.iload_n 2, 1) := by decide +kernel
theorem dX6_lowestAboveBoth_29 : decode cX6_lowestAboveBoth 29 = .ok (.iload_n 3, 1) := by decide +kernel
theorem dX6_lowestAboveBoth_30 : decode cX6_lowestAboveBoth 30 = .ok (.iushr, 1) := by decide +kernel
theorem dX6_lowestAboveBoth_31 : decode cX6_lowestAboveBoth 31 = .ok (.iconst 1, 1) := by decide +kernel
theorem dX6_lowestAboveBoth_32 : decode cX6_lowestAboveBoth 32 = .ok (.iand, 1) := by decide +kernel
theorem dX6_lowestAboveBoth_33 : decode cX6_lowestAboveBoth 33 = .ok (.ifCond .eq 7, 3) := by decide +kernel
theorem dX6_lowestAboveBoth_36 : decode cX6_lowestAboveBoth 36 = .ok (.iconst 1, 1) := by decide +kernel
theorem dX6_lowestAboveBoth_37 : decode cX6_lowestAboveBoth 37 = .ok (.iload_n 3, 1) := by decide +kernel
theorem dX6_lowestAboveBoth_38 : decode cX6_lowestAboveBoth 38 = .ok (.iadd, 1) := by decide +kernel
theorem dX6_lowestAboveBoth_39 : decode cX6_lowestAboveBoth 39 = .ok (.ireturn, 1) := by decide +kernel
theorem dX6_lowestAboveBoth_40 : decode cX6_lowestAboveBoth 40 = .ok (.iinc 3 (-1), 3) := by decide +kernel
theorem dX6_lowestAboveBoth_43 : decode cX6_lowestAboveBoth 43 = .ok (.goto (-19), 3) := by decide +kernel
theorem dX6_lowestAboveBoth_46 : decode cX6_lowestAboveBoth 46 = .ok (.bipush 98, 2) := by decide +kernel
theorem dX6_lowestAboveBoth_48 : decode cX6_lowestAboveBoth 48 = .ok (.ireturn, 1) := by decide +kernel
theorem dX6_kindOf_0 : decode cX6_kindOf 0 = .ok (.iload_n 1, 1) := by decide +kernel
theorem dX6_kindOf_1 : decode cX6_kindOf 1 = .ok (.iconst 1, 1) := by decide +kernel
theorem dX6_kindOf_2 : decode cX6_kindOf 2 = .ok (.isub, 1) := by decide +kernel
theorem dX6_kindOf_3 : decode cX6_kindOf 3 = .ok (.istore_n 2, 1) := by decide +kernel
theorem dX6_kindOf_4 : decode cX6_kindOf 4 = .ok (.iload_n 2, 1) := by decide +kernel
theorem dX6_kindOf_5 : decode cX6_kindOf 5 = .ok (.ifCond .lt 26, 3) := by decide +kernel
theorem dX6_kindOf_8 : decode cX6_kindOf 8 = .ok (.iload_n 2, 1) := by decide +kernel
theorem dX6_kindOf_9 : decode cX6_kindOf 9 = .ok (.aload_n 0, 1) := by decide +kernel
theorem dX6_kindOf_10 : decode cX6_kindOf 10 = .ok (.getfield 23, 3) := by decide +kernel
theorem dX6_kindOf_13 : decode cX6_kindOf 13 = .ok (.if_icmp .ge 18, 3) := by decide +kernel
theorem dX6_kindOf_16 : decode cX6_kindOf 16 = .ok (.iload_n 2, 1) := by decide +kernel
theorem dX6_kindOf_17 : decode cX6_kindOf 17 = .ok (.bipush 32, 2) := by decide +kernel
theorem dX6_kindOf_19 : decode cX6_kindOf 19 = .ok (.if_icmp .ge 12, 3) := by decide +kernel
theorem dX6_kindOf_22 : decode cX6_kindOf 22 = .ok (.aload_n 0, 1) := by decide +kernel
theorem dX6_kindOf_23 : decode cX6_kindOf 23 = .ok (.getfield 11, 3) := by decide +kernel
theorem dX6_kindOf_26 : decode cX6_kindOf 26 = .ok (.iload_n 2, 1) := by decide +kernel
theorem dX6_kindOf_27 : decode cX6_kindOf 27 = .ok (.aaload, 1) := by decide +kernel
theorem dX6_kindOf_28 : decode cX6_kindOf 28 = .ok (.goto 4, 3) := by decide +kernel
theorem dX6_kindOf_31 : decode cX6_kindOf 31 = .ok (.aconst_null, 1) := by decide +kernel
theorem dX6_kindOf_32 : decode cX6_kindOf 32 = .ok (.areturn, 1) := by decide +kernel
theorem dX7_init_0 : decode cX7_init 0 = .ok (.aload_n 0, 1) := by decide +kernel
theorem dX7_init_1 : decode cX7_init 1 = .ok (.invokespecial 3, 3) := by decide +kernel
theorem dX7_init_4 : decode cX7_init 4 = .ok (.aload_n 0, 1) := by decide +kernel
theorem dX7_init_5 : decode cX7_init 5 = .ok (.aload_n 1, 1) := by decide +kernel
theorem dX7_init_6 : decode cX7_init 6 = .ok (.putfield 9, 3) := by decide +kernel
theorem dX7_init_9 : decode cX7_init 9 = .ok (.aload_n 0, 1) := by decide +kernel
theorem dX7_init_10 : decode cX7_init 10 = .ok (.new 15, 3) := by decide +kernel
theorem dX7_init_13 : decode cX7_init 13 = .ok (.dup, 1) := by decide +kernel
theorem dX7_init_14 : decode cX7_init 14 = .ok (.invokespecial 17, 3) := by decide +kernel
theorem dX7_init_17 : decode cX7_init 17 = .ok (.putfield 18, 3) := by decide +kernel
theorem dX7_init_20 : decode cX7_init 20 = .ok (.aload_n 0, 1) := by decide +kernel
theorem dX7_init_21 : decode cX7_init 21 = .ok (.new 22, 3) := by decide +kernel
theorem dX7_init_24 : decode cX7_init 24 = .ok (.dup, 1) := by decide +kernel
theorem dX7_init_25 : decode cX7_init 25 = .ok (.aload_n 1, 1) := by decide +kernel
theorem dX7_init_26 : decode cX7_init 26 = .ok (.aload_n 0, 1) := by decide +kernel
theorem dX7_init_27 : decode cX7_init 27 = .ok (.getfield 18, 3) := by decide +kernel
theorem dX7_init_30 : decode cX7_init 30 = .ok (.invokespecial 24, 3) := by decide +kernel
theorem dX7_init_33 : decode cX7_init 33 = .ok (.putfield 27, 3) := by decide +kernel
theorem dX7_init_36 : decode cX7_init 36 = .ok (.return_, 1) := by decide +kernel
theorem dX7_goOver_0 : decode cX7_goOver 0 = .ok (.aload_n 0, 1) := by decide +kernel
theorem dX7_goOver_1 : decode cX7_goOver 1 = .ok (.aload_n 1, 1) := by decide +kernel
theorem dX7_goOver_2 : decode cX7_goOver 2 = .ok (.invokevirtual 31, 3) := by decide +kernel
theorem dX7_goOver_5 : decode cX7_goOver 5 = .ok (.iconst 0, 1) := by decide +kernel
theorem dX7_goOver_6 : decode cX7_goOver 6 = .ok (.istore_n 2, 1) := by decide +kernel
theorem dX7_goOver_7 : decode cX7_goOver 7 = .ok (.iload_n 2, 1) := by decide +kernel
theorem dX7_goOver_8 : decode cX7_goOver 8 = .ok (.ldc 35, 2) := by decide +kernel
theorem dX7_goOver_10 : decode cX7_goOver 10 = .ok (.if_icmp .ge 37, 3) := by decide +kernel
theorem dX7_goOver_13 : decode cX7_goOver 13 = .ok (.aload_n 0, 1) := by decide +kernel
theorem dX7_goOver_14 : decode cX7_goOver 14 = .ok (.getfield 36, 3) := by decide +kernel
theorem dX7_goOver_17 : decode cX7_goOver 17 = .ok (.iconst (-1), 1) := by decide +kernel
theorem dX7_goOver_18 : decode cX7_goOver 18 = .ok (.if_icmp .ne 29, 3) := by decide +kernel
theorem dX7_goOver_21 : decode cX7_goOver 21 = .ok (.aload_n 0, 1) := by decide +kernel
theorem dX7_goOver_22 : decode cX7_goOver 22 = .ok (.aload_n 1, 1) := by decide +kernel
theorem dX7_goOver_23 : decode cX7_goOver 23 = .ok (.invokevirtual 40, 3) := by decide +kernel
theorem dX7_goOver_26 : decode cX7_goOver 26 = .ok (.istore_n 3, 1) := by decide +kernel
theorem dX7_goOver_27 : decode cX7_goOver 27 = .ok (.iload_n 3, 1) := by decide +kernel
theorem dX7_goOver_28 : decode cX7_goOver 28 = .ok (.iconst (-1), 1) := by decide +kernel
theorem dX7_goOver_29 : decode cX7_goOver 29 = .ok (.if_icmp .ne 6, 3) := by decide +kernel
theorem dX7_goOver_32 : decode cX7_goOver 32 = .ok (.goto 15, 3) := by decide +kernel
theorem dX7_goOver_35 : decode cX7_goOver 35 = .ok (.aload_n 0, 1) := by decide +kernel
theorem dX7_goOver_36 : decode cX7_goOver 36 = .ok (.aload_n 1, 1) := by decide +kernel
theorem dX7_goOver_37 : decode cX7_goOver 37 = .ok (.iload_n 3, 1) := by decide +kernel
theorem dX7_goOver_38 : decode cX7_goOver 38 = .ok (.invokevirtual 44, 3) := by decide +kernel
theorem dX7_goOver_41 : decode cX7_goOver 41 = .ok (.iinc 2 1, 3) := by decide +kernel
theorem dX7_goOver_44 : decode cX7_goOver 44 = .ok (.goto (-37), 3) := by decide +kernel
theorem dX7_goOver_47 : decode cX7_goOver 47 = .ok (.aload_n 0, 1) := by decide +kernel
theorem dX7_goOver_48 : decode cX7_goOver 48 = .ok (.getfield 36, 3) := by decide +kernel
theorem dX7_goOver_51 : decode cX7_goOver 51 = .ok (.ireturn, 1) := by decide +kernel
theorem dX7_begin_0 : decode cX7_begin 0 = .ok (.aload_n 0, 1) := by decide +kernel
theorem dX7_begin_1 : decode cX7_begin 1 = .ok (.iconst 0, 1) := by decide +kernel
theorem dX7_begin_2 : decode cX7_begin 2 = .ok (.putfield 48, 3) := by decide +kernel
theorem dX7_begin_5 : decode cX7_begin 5 = .ok (.aload_n 0, 1) := by decide +kernel
theorem dX7_begin_6 : decode cX7_begin 6 = .ok (.iconst 0, 1) := by decide +kernel
theorem dX7_begin_7 : decode cX7_begin 7 = .ok (.putfield 51, 3) := by decide +kernel
theorem dX7_begin_10 : decode cX7_begin 10 = .ok (.aload_n 1, 1) := by decide +kernel
theorem dX7_begin_11 : decode cX7_begin 11 = .ok (.iconst 1, 1) := by decide +kernel
theorem dX7_begin_12 : decode cX7_begin 12 = .ok (.putfield 54, 3) := by decide +kernel
theorem dX7_begin_15 : decode cX7_begin 15 = .ok (.iconst 0, 1) := by decide +kernel
theorem dX7_begin_16 : decode cX7_begin 16 = .ok (.istore_n 2, 1) := by decide +kernel
theorem dX7_begin_17 : decode cX7_begin 17 = .ok (.iload_n 2, 1) := by decide +kernel
theorem dX7_begin_18 : decode cX7_begin 18 = .ok (.aload_n 1, 1) := by decide +kernel
theorem dX7_begin_19 : decode cX7_begin 19 = .ok (.getfield 60, 3) := by decide +kernel
theorem dX7_begin_22 : decode cX7_begin 22 = .ok (.if_icmp .ge 29, 3) := by decide +kernel
theorem dX7_begin_25 : decode cX7_begin 25 = .ok (.aload_n 1, 1) := by decide +kernel
theorem dX7_begin_26 : decode cX7_begin 26 = .ok (.iload_n 2, 1) := by decide +kernel
theorem dX7_begin_27 : decode cX7_begin 27 = .ok (.invokevirtual 63, 3) := by decide +kernel
theorem dX7_begin_30 : decode cX7_begin 30 = .ok (.astore_n 3, 1) := by decide +kernel
theorem dX7_begin_31 : decode cX7_begin 31 = .ok (.aload_n 3, 1) := by decide +kernel
theorem dX7_begin_32 : decode cX7_begin 32 = .ok (.ifnull 13, 3) := by decide +kernel
theorem dX7_begin_35 : decode cX7_begin 35 = .ok (.aload_n 3, 1) := by decide +kernel
theorem dX7_begin_36 : decode cX7_begin 36 = .ok (.iconst 0, 1) := by decide +kernel
theorem dX7_begin_37 : decode cX7_begin 37 = .ok (.putfield 67, 3) := by decide +kernel
theorem dX7_begin_40 : decode cX7_begin 40 = .ok (.aload_n 3, 1) := by decide +kernel
theorem dX7_begin_41 : decode cX7_begin 41 = .ok (.iconst 0, 1) := by decide +kernel
theorem dX7_begin_42 : decode cX7_begin 42 = .ok (.putfield 72, 3) := by decide +kernel
theorem dX7_begin_45 : decode cX7_begin 45 = .ok (.iinc 2 1, 3) := by decide +kernel
theorem dX7_begin_48 : decode cX7_begin 48 = .ok (.goto (-31), 3) := by decide +kernel
theorem dX7_begin_51 : decode cX7_begin 51 = .ok (.aload_n 0, 1) := by decide +kernel
theorem dX7_begin_52 : decode cX7_begin 52 = .ok (.iconst (-1), 1) := by decide +kernel
theorem dX7_begin_53 : decode cX7_begin 53 = .ok (.putfield 36, 3) := by decide +kernel
theorem dX7_begin_56 : decode cX7_begin 56 = .ok (.aload_n 0, 1) := by decide +kernel
theorem dX7_begin_57 : decode cX7_begin 57 = .ok (.getfield 18, 3) := by decide +kernel
theorem dX7_begin_60 : decode cX7_begin 60 = .ok (.aload_n 1, 1) := by decide +kernel
theorem dX7_begin_61 : decode cX7_begin 61 = .ok (.invokevirtual 75, 3) := by decide +kernel
theorem dX7_begin_64 : decode cX7_begin 64 = .ok (.aload_n 0, 1) := by decide +kernel
theorem dX7_begin_65 : decode cX7_begin 65 = .ok (.aload_n 1, 1) := by decide +kernel
theorem dX7_begin_66 : decode cX7_begin 66 = .ok (.iconst 0, 1) := by decide +kernel
theorem dX7_begin_67 : decode cX7_begin 67 = .ok (.iconst 0, 1) := by decide +kernel
theorem dX7_begin_68 : decode cX7_begin 68 = .ok (.invokevirtual 76, 3) := by decide +kernel
theorem dX7_begin_71 : decode cX7_begin 71 = .ok (.return_, 1) := by decide +kernel
theorem dX7_leastMarked_0 : decode cX7_leastMarked 0 = .ok (.aload_n 0, 1) := by decide +kernel
theorem dX7_leastMarked_1 : decode cX7_leastMarked 1 = .ok (.getfield 51, 3) := by decide +kernel
theorem dX7_leastMarked_4 : decode cX7_leastMarked 4 = .ok (.istore_n 2, 1) := by decide +kernel
theorem dX7_leastMarked_5 : decode cX7_leastMarked 5 = .ok (.iload_n 2, 1) := by decide +kernel
theorem dX7_leastMarked_6 : decode cX7_leastMarked 6 = .ok (.aload_n 1, 1) := by decide +kernel
theorem dX7_leastMarked_7 : decode cX7_leastMarked 7 = .ok (.getfield 60, 3) := by decide +kernel
theorem dX7_leastMarked_10 : decode cX7_leastMarked 10 = .ok (.if_icmp .ge 33, 3) := by decide +kernel
theorem dX7_leastMarked_13 : decode cX7_leastMarked 13 = .ok (.aload_n 1, 1) := by decide +kernel
theorem dX7_leastMarked_14 : decode cX7_leastMarked 14 = .ok (.iload_n 2, 1) := by decide +kernel
theorem dX7_leastMarked_15 : decode cX7_leastMarked 15 = .ok (.invokevirtual 63, 3) := by decide +kernel
theorem dX7_leastMarked_18 : decode cX7_leastMarked 18 = .ok (.astore_n 3, 1) := by decide +kernel
theorem dX7_leastMarked_19 : decode cX7_leastMarked 19 = .ok (.aload_n 3, 1) := by decide +kernel
theorem dX7_leastMarked_20 : decode cX7_leastMarked 20 = .ok (.ifnull 17, 3) := by decide +kernel
theorem dX7_leastMarked_23 : decode cX7_leastMarked 23 = .ok (.aload_n 3, 1) := by decide +kernel
theorem dX7_leastMarked_24 : decode cX7_leastMarked 24 = .ok (.getfield 72, 3) := by decide +kernel
theorem dX7_leastMarked_27 : decode cX7_leastMarked 27 = .ok (.ifCond .eq 10, 3) := by decide +kernel
theorem dX7_leastMarked_30 : decode cX7_leastMarked 30 = .ok (.aload_n 0, 1) := by decide +kernel
theorem dX7_leastMarked_31 : decode cX7_leastMarked 31 = .ok (.iload_n 2, 1) := by decide +kernel
theorem dX7_leastMarked_32 : decode cX7_leastMarked 32 = .ok (.putfield 51, 3) := by decide +kernel
theorem dX7_leastMarked_35 : decode cX7_leastMarked 35 = .ok (.iload_n 2, 1) := by decide +kernel
theorem dX7_leastMarked_36 : decode cX7_leastMarked 36 = .ok (.ireturn, 1) := by decide +kernel
theorem dX7_leastMarked_37 : decode cX7_leastMarked 37 = .ok (.iinc 2 1, 3) := by decide +kernel
theorem dX7_leastMarked_40 : decode cX7_leastMarked 40 = .ok (.goto (-35), 3) := by decide +kernel
theorem dX7_leastMarked_43 : decode cX7_leastMarked 43 = .ok (.iconst (-1), 1) := by decide +kernel
theorem dX7_leastMarked_44 : decode cX7_leastMarked 44 = .ok (.ireturn, 1) := by decide +kernel
theorem dX7_lookAt_0 : decode cX7_lookAt 0 = .ok (.aload_n 1, 1) := by decide +kernel
theorem dX7_lookAt_1 : decode cX7_lookAt 1 = .ok (.iload_n 2, 1) := by decide +kernel
theorem dX7_lookAt_2 : decode cX7_lookAt 2 = .ok (.invokevirtual 63, 3) := by decide +kernel
theorem dX7_lookAt_5 : decode cX7_lookAt 5 = .ok (.astore_n 3, 1) := by decide +kernel
theorem dX7_lookAt_6 : decode cX7_lookAt 6 = .ok (.aload_n 3, 1) := by decide +kernel
theorem dX7_lookAt_7 : decode cX7_lookAt 7 = .ok (.ifnonnull 4, 3) := by decide +kernel
theorem dX7_lookAt_10 : decode cX7_lookAt 10 = .ok (.return_, 1) := by decide +kernel
theorem dX7_lookAt_11 : decode cX7_lookAt 11 = .ok (.aload_n 3, 1) := by decide +kernel
theorem dX7_lookAt_12 : decode cX7_lookAt 12 = .ok (.iconst 0, 1) := by decide +kernel
theorem dX7_lookAt_13 : decode cX7_lookAt 13 = .ok (.putfield 72, 3) := by decide +kernel
theorem dX7_lookAt_16 : decode cX7_lookAt 16 = .ok (.aload_n 0, 1) := by decide +kernel
theorem dX7_lookAt_17 : decode cX7_lookAt 17 = .ok (.dup, 1) := by decide +kernel
theorem dX7_lookAt_18 : decode cX7_lookAt 18 = .ok (.getfield 48, 3) := by decide +kernel
theorem dX7_lookAt_21 : decode cX7_lookAt 21 = .ok (.iconst 1, 1) := by decide +kernel
theorem dX7_lookAt_22 : decode cX7_lookAt 22 = .ok (.iadd, 1) := by decide +kernel
theorem dX7_lookAt_23 : decode cX7_lookAt 23 = .ok (.putfield 48, 3) := by decide +kernel
theorem dX7_lookAt_26 : decode cX7_lookAt 26 = .ok (.aload_n 0, 1) := by decide +kernel
theorem dX7_lookAt_27 : decode cX7_lookAt 27 = .ok (.aload_n 1, 1) := by decide +kernel
theorem dX7_lookAt_28 : decode cX7_lookAt 28 = .ok (.iload_n 2, 1) := by decide +kernel
theorem dX7_lookAt_29 : decode cX7_lookAt 29 = .ok (.aload_n 3, 1) := by decide +kernel
theorem dX7_lookAt_30 : decode cX7_lookAt 30 = .ok (.invokevirtual 80, 3) := by decide +kernel
theorem dX7_lookAt_33 : decode cX7_lookAt 33 = .ok (.aload_n 0, 1) := by decide +kernel
theorem dX7_lookAt_34 : decode cX7_lookAt 34 = .ok (.getfield 36, 3) := by decide +kernel
theorem dX7_lookAt_37 : decode cX7_lookAt 37 = .ok (.iconst (-1), 1) := by decide +kernel
theorem dX7_lookAt_38 : decode cX7_lookAt 38 = .ok (.if_icmp .eq 4, 3) := by decide +kernel
theorem dX7_lookAt_41 : decode cX7_lookAt 41 = .ok (.return_, 1) := by decide +kernel
theorem dX7_lookAt_42 : decode cX7_lookAt 42 = .ok (.aload_n 0, 1) := by decide +kernel
theorem dX7_lookAt_43 : decode cX7_lookAt 43 = .ok (.getfield 18, 3) := by decide +kernel
theorem dX7_lookAt_46 : decode cX7_lookAt 46 = .ok (.aload_n 3, 1) := by decide +kernel
theorem dX7_lookAt_47 : decode cX7_lookAt 47 = .ok (.getfield 84, 3) := by decide +kernel
theorem dX7_lookAt_50 : decode cX7_lookAt 50 = .ok (.invokevirtual 87, 3) := by decide +kernel
theorem dX7_lookAt_53 : decode cX7_lookAt 53 = .ok (.aload_n 0, 1) := by decide +kernel
theorem dX7_lookAt_54 : decode cX7_lookAt 54 = .ok (.getfield 27, 3) := by decide +kernel
theorem dX7_lookAt_57 : decode cX7_lookAt 57 = .ok (.aload_n 1, 1) := by decide +kernel
theorem dX7_lookAt_58 : decode cX7_lookAt 58 = .ok (.aload_n 3, 1) := by decide +kernel
theorem dX7_lookAt_59 : decode cX7_lookAt 59 = .ok (.invokevirtual 91, 3) := by decide +kernel
theorem dX7_lookAt_62 : decode cX7_lookAt 62 = .ok (.ifCond .ne 9, 3) := by decide +kernel
theorem dX7_lookAt_65 : decode cX7_lookAt 65 = .ok (.aload_n 0, 1) := by decide +kernel
theorem dX7_lookAt_66 : decode cX7_lookAt 66 = .ok (.iload_n 2, 1) := by decide +kernel
theorem dX7_lookAt_67 : decode cX7_lookAt 67 = .ok (.putfield 36, 3) := by decide +kernel
theorem dX7_lookAt_70 : decode cX7_lookAt 70 = .ok (.return_, 1) := by decide +kernel
theorem dX7_lookAt_71 : decode cX7_lookAt 71 = .ok (.aload_n 3, 1) := by decide +kernel
theorem dX7_lookAt_72 : decode cX7_lookAt 72 = .ok (.invokevirtual 95, 3) := by decide +kernel
theorem dX7_lookAt_75 : decode cX7_lookAt 75 = .ok (.ifCond .eq 12, 3) := by decide +kernel
theorem dX7_lookAt_78 : decode cX7_lookAt 78 = .ok (.aload_n 0, 1) := by decide +kernel
theorem dX7_lookAt_79 : decode cX7_lookAt 79 = .ok (.aload_n 1, 1) := by decide +kernel
theorem dX7_lookAt_80 : decode cX7_lookAt 80 = .ok (.iload_n 2, 1) := by decide +kernel
theorem dX7_lookAt_81 : decode cX7_lookAt 81 = .ok (.iload_n 2, 1) := by decide +kernel
theorem dX7_lookAt_82 : decode cX7_lookAt 82 = .ok (.iconst 1, 1) := by decide +kernel
theorem dX7_lookAt_83 : decode cX7_lookAt 83 = .ok (.iadd, 1) := by decide +kernel
theorem dX7_lookAt_84 : decode cX7_lookAt 84 = .ok (.invokevirtual 76, 3) := by decide +kernel
theorem dX7_lookAt_87 : decode cX7_lookAt 87 = .ok (.aload_n 3, 1) := by decide +kernel
theorem dX7_lookAt_88 : decode cX7_lookAt 88 = .ok (.invokevirtual 99, 3) := by decide +kernel
theorem dX7_lookAt_91 : decode cX7_lookAt 91 = .ok (.ifCond .eq 21, 3) := by decide +kernel
theorem dX7_lookAt_94 : decode cX7_lookAt 94 = .ok (.aload_n 0, 1) := by decide +kernel
theorem dX7_lookAt_95 : decode cX7_lookAt 95 = .ok (.getfield 36, 3) := by decide +kernel
theorem dX7_lookAt_98 : decode cX7_lookAt 98 = .ok (.iconst (-1), 1) := by decide +kernel
theorem dX7_lookAt_99 : decode cX7_lookAt 99 = .ok (.if_icmp .ne 13, 3) := by decide +kernel
theorem dX7_lookAt_102 : decode cX7_lookAt 102 = .ok (.aload_n 0, 1) := by decide +kernel
theorem dX7_lookAt_103 : decode cX7_lookAt 103 = .ok (.aload_n 1, 1) := by decide +kernel
theorem dX7_lookAt_104 : decode cX7_lookAt 104 = .ok (.iload_n 2, 1) := by decide +kernel
theorem dX7_lookAt_105 : decode cX7_lookAt 105 = .ok (.aload_n 3, 1) := by decide +kernel
theorem dX7_lookAt_106 : decode cX7_lookAt 106 = .ok (.getfield 102, 3) := by decide +kernel
theorem dX7_lookAt_109 : decode cX7_lookAt 109 = .ok (.invokevirtual 76, 3) := by decide +kernel
theorem dX7_lookAt_112 : decode cX7_lookAt 112 = .ok (.return_, 1) := by decide +kernel
theorem dX7_comeToHandlers_0 : decode cX7_comeToHandlers 0 = .ok (.iconst 0, 1) := by decide +kernel
theorem dX7_comeToHandlers_1 : decode cX7_comeToHandlers 1 = .ok (.istore 4, 2) := by decide +kernel
theorem dX7_comeToHandlers_3 : decode cX7_comeToHandlers 3 = .ok (.iload 4, 2) := by decide +kernel
theorem dX7_comeToHandlers_5 : decode cX7_comeToHandlers 5 = .ok (.aload_n 1, 1) := by decide +kernel
theorem dX7_comeToHandlers_6 : decode cX7_comeToHandlers 6 = .ok (.getfield 105, 3) := by decide +kernel
theorem dX7_comeToHandlers_9 : decode cX7_comeToHandlers 9 = .ok (.if_icmp .ge 97, 3) := by decide +kernel
theorem dX7_comeToHandlers_12 : decode cX7_comeToHandlers 12 = .ok (.aload_n 0, 1) := by decide +kernel
theorem dX7_comeToHandlers_13 : decode cX7_comeToHandlers 13 = .ok (.getfield 36, 3) := by decide +kernel
theorem dX7_comeToHandlers_16 : decode cX7_comeToHandlers 16 = .ok (.iconst (-1), 1) := by decide +kernel
theorem dX7_comeToHandlers_17 : decode cX7_comeToHandlers 17 = .ok (.if_icmp .ne 89, 3) := by decide +kernel
theorem dX7_comeToHandlers_20 : decode cX7_comeToHandlers 20 = .ok (.aload_n 1, 1) := by decide +kernel
theorem dX7_comeToHandlers_21 : decode cX7_comeToHandlers 21 = .ok (.iload 4, 2) := by decide +kernel
theorem dX7_comeToHandlers_23 : decode cX7_comeToHandlers 23 = .ok (.invokevirtual 108, 3) := by decide +kernel
theorem dX7_comeToHandlers_26 : decode cX7_comeToHandlers 26 = .ok (.astore 5, 2) := by decide +kernel
theorem dX7_comeToHandlers_28 : decode cX7_comeToHandlers 28 = .ok (.aload 5, 2) := by decide +kernel
theorem dX7_comeToHandlers_30 : decode cX7_comeToHandlers 30 = .ok (.ifnull 70, 3) := by decide +kernel
theorem dX7_comeToHandlers_33 : decode cX7_comeToHandlers 33 = .ok (.aload 5, 2) := by decide +kernel
theorem dX7_comeToHandlers_35 : decode cX7_comeToHandlers 35 = .ok (.iload_n 2, 1) := by decide +kernel
theorem dX7_comeToHandlers_36 : decode cX7_comeToHandlers 36 = .ok (.invokevirtual 112, 3) := by decide +kernel
theorem dX7_comeToHandlers_39 : decode cX7_comeToHandlers 39 = .ok (.ifCond .ne 6, 3) := by decide +kernel
theorem dX7_comeToHandlers_42 : decode cX7_comeToHandlers 42 = .ok (.goto 58, 3) := by decide +kernel
theorem dX7_comeToHandlers_45 : decode cX7_comeToHandlers 45 = .ok (.aload_n 0, 1) := by decide +kernel
theorem dX7_comeToHandlers_46 : decode cX7_comeToHandlers 46 = .ok (.getfield 18, 3) := by decide +kernel
theorem dX7_comeToHandlers_49 : decode cX7_comeToHandlers 49 = .ok (.aload_n 3, 1) := by decide +kernel
theorem dX7_comeToHandlers_50 : decode cX7_comeToHandlers 50 = .ok (.getfield 84, 3) := by decide +kernel
theorem dX7_comeToHandlers_53 : decode cX7_comeToHandlers 53 = .ok (.invokevirtual 87, 3) := by decide +kernel
theorem dX7_comeToHandlers_56 : decode cX7_comeToHandlers 56 = .ok (.aload_n 0, 1) := by decide +kernel
theorem dX7_comeToHandlers_57 : decode cX7_comeToHandlers 57 = .ok (.getfield 18, 3) := by decide +kernel
theorem dX7_comeToHandlers_60 : decode cX7_comeToHandlers 60 = .ok (.iconst 0, 1) := by decide +kernel
theorem dX7_comeToHandlers_61 : decode cX7_comeToHandlers 61 = .ok (.putfield 118, 3) := by decide +kernel
theorem dX7_comeToHandlers_64 : decode cX7_comeToHandlers 64 = .ok (.aload_n 0, 1) := by decide +kernel
theorem dX7_comeToHandlers_65 : decode cX7_comeToHandlers 65 = .ok (.getfield 18, 3) := by decide +kernel
theorem dX7_comeToHandlers_68 : decode cX7_comeToHandlers 68 = .ok (.iconst 1, 1) := by decide +kernel
theorem dX7_comeToHandlers_69 : decode cX7_comeToHandlers 69 = .ok (.aload 5, 2) := by decide +kernel
theorem dX7_comeToHandlers_71 : decode cX7_comeToHandlers 71 = .ok (.getfield 121, 3) := by decide +kernel
theorem dX7_comeToHandlers_74 : decode cX7_comeToHandlers 74 = .ok (.iadd, 1) := by decide +kernel
theorem dX7_comeToHandlers_75 : decode cX7_comeToHandlers 75 = .ok (.invokevirtual 124, 3) := by decide +kernel
theorem dX7_comeToHandlers_78 : decode cX7_comeToHandlers 78 = .ok (.ifCond .eq 17, 3) := by decide +kernel
theorem dX7_comeToHandlers_81 : decode cX7_comeToHandlers 81 = .ok (.aload_n 0, 1) := by decide +kernel
theorem dX7_comeToHandlers_82 : decode cX7_comeToHandlers 82 = .ok (.aload_n 1, 1) := by decide +kernel
theorem dX7_comeToHandlers_83 : decode cX7_comeToHandlers 83 = .ok (.iload_n 2, 1) := by decide +kernel
theorem dX7_comeToHandlers_84 : decode cX7_comeToHandlers 84 = .ok (.aload 5, 2) := by decide +kernel
theorem dX7_comeToHandlers_86 : decode cX7_comeToHandlers 86 = .ok (.getfield 127, 3) := by decide +kernel
theorem dX7_comeToHandlers_89 : decode cX7_comeToHandlers 89 = .ok (.invokevirtual 76, 3) := by decide +kernel
theorem dX7_comeToHandlers_92 : decode cX7_comeToHandlers 92 = .ok (.goto 8, 3) := by decide +kernel
theorem dX7_comeToHandlers_95 : decode cX7_comeToHandlers 95 = .ok (.aload_n 0, 1) := by decide +kernel
theorem dX7_comeToHandlers_96 : decode cX7_comeToHandlers 96 = .ok (.iload_n 2, 1) := by decide +kernel
theorem dX7_comeToHandlers_97 : decode cX7_comeToHandlers 97 = .ok (.putfield 36, 3) := by decide +kernel
theorem dX7_comeToHandlers_100 : decode cX7_comeToHandlers 100 = .ok (.iinc 4 1, 3) := by decide +kernel
theorem dX7_comeToHandlers_103 : decode cX7_comeToHandlers 103 = .ok (.goto (-100), 3) := by decide +kernel
theorem dX7_comeToHandlers_106 : decode cX7_comeToHandlers 106 = .ok (.return_, 1) := by decide +kernel
theorem dX7_come_0 : decode cX7_come 0 = .ok (.aload_n 1, 1) := by decide +kernel
theorem dX7_come_1 : decode cX7_come 1 = .ok (.iload_n 3, 1) := by decide +kernel
theorem dX7_come_2 : decode cX7_come 2 = .ok (.invokevirtual 63, 3) := by decide +kernel
theorem dX7_come_5 : decode cX7_come 5 = .ok (.astore 4, 2) := by decide +kernel
theorem dX7_come_7 : decode cX7_come 7 = .ok (.aload 4, 2) := by decide +kernel
theorem dX7_come_9 : decode cX7_come 9 = .ok (.ifnonnull 9, 3) := by decide +kernel
theorem dX7_come_12 : decode cX7_come 12 = .ok (.aload_n 0, 1) := by decide +kernel
theorem dX7_come_13 : decode cX7_come 13 = .ok (.iload_n 2, 1) := by decide +kernel
theorem dX7_come_14 : decode cX7_come 14 = .ok (.putfield 36, 3) := by decide +kernel
theorem dX7_come_17 : decode cX7_come 17 = .ok (.return_, 1) := by decide +kernel
theorem dX7_come_18 : decode cX7_come 18 = .ok (.aload 4, 2) := by decide +kernel
theorem dX7_come_20 : decode cX7_come 20 = .ok (.getfield 67, 3) := by decide +kernel
theorem dX7_come_23 : decode cX7_come 23 = .ok (.ifCond .ne 29, 3) := by decide +kernel
theorem dX7_come_26 : decode cX7_come 26 = .ok (.aload 4, 2) := by decide +kernel
theorem dX7_come_28 : decode cX7_come 28 = .ok (.iconst 1, 1) := by decide +kernel
theorem dX7_come_29 : decode cX7_come 29 = .ok (.putfield 67, 3) := by decide +kernel
theorem dX7_come_32 : decode cX7_come 32 = .ok (.aload 4, 2) := by decide +kernel
theorem dX7_come_34 : decode cX7_come 34 = .ok (.getfield 84, 3) := by decide +kernel
theorem dX7_come_37 : decode cX7_come 37 = .ok (.aload_n 0, 1) := by decide +kernel
theorem dX7_come_38 : decode cX7_come 38 = .ok (.getfield 18, 3) := by decide +kernel
theorem dX7_come_41 : decode cX7_come 41 = .ok (.invokevirtual 87, 3) := by decide +kernel
theorem dX7_come_44 : decode cX7_come 44 = .ok (.aload_n 0, 1) := by decide +kernel
theorem dX7_come_45 : decode cX7_come 45 = .ok (.aload 4, 2) := by decide +kernel
theorem dX7_come_47 : decode cX7_come 47 = .ok (.iload_n 3, 1) := by decide +kernel
theorem dX7_come_48 : decode cX7_come 48 = .ok (.invokevirtual 130, 3) := by decide +kernel
theorem dX7_come_51 : decode cX7_come 51 = .ok (.return_, 1) := by decide +kernel
theorem dX7_come_52 : decode cX7_come 52 = .ok (.aload 4, 2) := by decide +kernel
theorem dX7_come_54 : decode cX7_come 54 = .ok (.getfield 84, 3) := by decide +kernel
theorem dX7_come_57 : decode cX7_come 57 = .ok (.aload_n 0, 1) := by decide +kernel
theorem dX7_come_58 : decode cX7_come 58 = .ok (.getfield 18, 3) := by decide +kernel
theorem dX7_come_61 : decode cX7_come 61 = .ok (.aload_n 0, 1) := by decide +kernel
theorem dX7_come_62 : decode cX7_come 62 = .ok (.getfield 9, 3) := by decide +kernel
theorem dX7_come_65 : decode cX7_come 65 = .ok (.invokevirtual 134, 3) := by decide +kernel
theorem dX7_come_68 : decode cX7_come 68 = .ok (.istore 5, 2) := by decide +kernel
theorem dX7_come_70 : decode cX7_come 70 = .ok (.iload 5, 2) := by decide +kernel
theorem dX7_come_72 : decode cX7_come 72 = .ok (.iconst 2, 1) := by decide +kernel
theorem dX7_come_73 : decode cX7_come 73 = .ok (.if_icmp .ne 11, 3) := by decide +kernel
theorem dX7_come_76 : decode cX7_come 76 = .ok (.aload_n 0, 1) := by decide +kernel
theorem dX7_come_77 : decode cX7_come 77 = .ok (.iload_n 3, 1) := by decide +kernel
theorem dX7_come_78 : decode cX7_come 78 = .ok (.putfield 36, 3) := by decide +kernel
theorem dX7_come_81 : decode cX7_come 81 = .ok (.goto 16, 3) := by decide +kernel
theorem dX7_come_84 : decode cX7_come 84 = .ok (.iload 5, 2) := by decide +kernel
theorem dX7_come_86 : decode cX7_come 86 = .ok (.iconst 1, 1) := by decide +kernel
theorem dX7_come_87 : decode cX7_come 87 = .ok (.if_icmp .ne 10, 3) := by decide +kernel
theorem dX7_come_90 : decode cX7_come 90 = .ok (.aload_n 0, 1) := by decide +kernel
theorem dX7_come_91 : decode cX7_come 91 = .ok (.aload 4, 2) := by decide +kernel
theorem dX7_come_93 : decode cX7_come 93 = .ok (.iload_n 3, 1) := by decide +kernel
theorem dX7_come_94 : decode cX7_come 94 = .ok (.invokevirtual 130, 3) := by decide +kernel
theorem dX7_come_97 : decode cX7_come 97 = .ok (.return_, 1) := by decide +kernel
theorem dX7_mark_0 : decode cX7_mark 0 = .ok (.aload_n 1, 1) := by decide +kernel
theorem dX7_mark_1 : decode cX7_mark 1 = .ok (.iconst 1, 1) := by decide +kernel
theorem dX7_mark_2 : decode cX7_mark 2 = .ok (.putfield 72, 3) := by decide +kernel
theorem dX7_mark_5 : decode cX7_mark 5 = .ok (.aload_n 0, 1) := by decide +kernel
theorem dX7_mark_6 : decode cX7_mark 6 = .ok (.aload_n 0, 1) := by decide +kernel
theorem dX7_mark_7 : decode cX7_mark 7 = .ok (.getfield 51, 3) := by decide +kernel
theorem dX7_mark_10 : decode cX7_mark 10 = .ok (.iload_n 2, 1) := by decide +kernel
theorem dX7_mark_11 : decode cX7_mark 11 = .ok (.invokestatic 138, 3) := by decide +kernel
theorem dX7_mark_14 : decode cX7_mark 14 = .ok (.putfield 51, 3) := by decide +kernel
theorem dX7_mark_17 : decode cX7_mark 17 = .ok (.return_, 1) := by decide +kernel
theorem dX8_init_0 : decode cX8_init 0 = .ok (.aload_n 0, 1) := by decide +kernel
theorem dX8_init_1 : decode cX8_init 1 = .ok (.invokespecial 1, 3) := by decide +kernel
theorem dX8_init_4 : decode cX8_init 4 = .ok (.aload_n 0, 1) := by decide +kernel
theorem dX8_init_5 : decode cX8_init 5 = .ok (.new 7, 3) := by decide +kernel
theorem dX8_init_8 : decode cX8_init 8 = .ok (.dup, 1) := by decide +kernel
theorem dX8_init_9 : decode cX8_init 9 = .ok (.invokespecial 9, 3) := by decide +kernel
theorem dX8_init_12 : decode cX8_init 12 = .ok (.putfield 10, 3) := by decide +kernel
theorem dX8_init_15 : decode cX8_init 15 = .ok (.aload_n 0, 1) := by decide +kernel
theorem dX8_init_16 : decode cX8_init 16 = .ok (.new 16, 3) := by decide +kernel
theorem dX8_init_19 : decode cX8_init 19 = .ok (.dup, 1) := by decide +kernel
theorem dX8_init_20 : decode cX8_init 20 = .ok (.aload_n 0, 1) := by decide +kernel
theorem dX8_init_21 : decode cX8_init 21 = .ok (.getfield 10, 3) := by decide +kernel
theorem dX8_init_24 : decode cX8_init 24 = .ok (.invokespecial 18, 3) := by decide +kernel
theorem dX8_init_27 : decode cX8_init 27 = .ok (.putfield 21, 3) := by decide +kernel
theorem dX8_init_30 : decode cX8_init 30 = .ok (.return_, 1) := by decide +kernel
theorem dX8_kind_0 : decode cX8_kind 0 = .ok (.aload_n 0, 1) := by decide +kernel
theorem dX8_kind_1 : decode cX8_kind 1 = .ok (.getfield 10, 3) := by decide +kernel
theorem dX8_kind_4 : decode cX8_kind 4 = .ok (.iload_n 1, 1) := by decide +kernel
theorem dX8_kind_5 : decode cX8_kind 5 = .ok (.invokevirtual 25, 3) := by decide +kernel
theorem dX8_kind_8 : decode cX8_kind 8 = .ok (.astore_n 2, 1) := by decide +kernel
theorem dX8_kind_9 : decode cX8_kind 9 = .ok (.iload_n 1, 1) := by decide +kernel
theorem dX8_kind_10 : decode cX8_kind 10 = .ok (.iconst (-1), 1) := by decide +kernel
theorem dX8_kind_11 : decode cX8_kind 11 = .ok (.if_icmp .eq 9, 3) := by decide +kernel
theorem dX8_kind_14 : decode cX8_kind 14 = .ok (.aload_n 2, 1) := by decide +kernel
theorem dX8_kind_15 : decode cX8_kind 15 = .ok (.ifnonnull 5, 3) := by decide +kernel
theorem dX8_kind_18 : decode cX8_kind 18 = .ok (.iconst (-1), 1) := by decide +kernel
theorem dX8_kind_19 : decode cX8_kind 19 = .ok (.ireturn, 1) := by decide +kernel
theorem dX8_kind_20 : decode cX8_kind 20 = .ok (.aload_n 0, 1) := by decide +kernel
theorem dX8_kind_21 : decode cX8_kind 21 = .ok (.getfield 10, 3) := by decide +kernel
theorem dX8_kind_24 : decode cX8_kind 24 = .ok (.aload_n 2, 1) := by decide +kernel
theorem dX8_kind_25 : decode cX8_kind 25 = .ok (.invokevirtual 29, 3) := by decide +kernel
theorem dX8_kind_28 : decode cX8_kind 28 = .ok (.ireturn, 1) := by decide +kernel
theorem dX8_field_0 : decode cX8_field 0 = .ok (.aload_n 0, 1) := by decide +kernel
theorem dX8_field_1 : decode cX8_field 1 = .ok (.getfield 10, 3) := by decide +kernel
theorem dX8_field_4 : decode cX8_field 4 = .ok (.iload_n 1, 1) := by decide +kernel
theorem dX8_field_5 : decode cX8_field 5 = .ok (.invokevirtual 25, 3) := by decide +kernel
theorem dX8_field_8 : decode cX8_field 8 = .ok (.astore_n 3, 1) := by decide +kernel
theorem dX8_field_9 : decode cX8_field 9 = .ok (.aload_n 3, 1) := by decide +kernel
theorem dX8_field_10 : decode cX8_field 10 = .ok (.ifnull 28, 3) := by decide +kernel
theorem dX8_field_13 : decode cX8_field 13 = .ok (.aload_n 0, 1) := by decide +kernel
theorem dX8_field_14 : decode cX8_field 14 = .ok (.getfield 10, 3) := by decide +kernel
theorem dX8_field_17 : decode cX8_field 17 = .ok (.iload_n 2, 1) := by decide +kernel
theorem dX8_field_18 : decode cX8_field 18 = .ok (.invokevirtual 33, 3) := by decide +kernel
theorem dX8_field_21 : decode cX8_field 21 = .ok (.ifCond .eq 17, 3) := by decide +kernel
theorem dX8_field_24 : decode cX8_field 24 = .ok (.aload_n 3, 1) := by decide +kernel
theorem dX8_field_25 : decode cX8_field 25 = .ok (.getfield 37, 3) := by decide +kernel
theorem dX8_field_28 : decode cX8_field 28 = .ok (.ifCond .ne 10, 3) := by decide +kernel
theorem dX8_field_31 : decode cX8_field 31 = .ok (.aload_n 3, 1) := by decide +kernel
theorem dX8_field_32 : decode cX8_field 32 = .ok (.getfield 43, 3) := by decide +kernel
theorem dX8_field_35 : decode cX8_field 35 = .ok (.ifCond .eq 5, 3) := by decide +kernel
theorem dX8_field_38 : decode cX8_field 38 = .ok (.iconst (-1), 1) := by decide +kernel
theorem dX8_field_39 : decode cX8_field 39 = .ok (.ireturn, 1) := by decide +kernel
theorem dX8_field_40 : decode cX8_field 40 = .ok (.aload_n 3, 1) := by decide +kernel
theorem dX8_field_41 : decode cX8_field 41 = .ok (.iload_n 2, 1) := by decide +kernel
theorem dX8_field_42 : decode cX8_field 42 = .ok (.invokevirtual 46, 3) := by decide +kernel
theorem dX8_field_45 : decode cX8_field 45 = .ok (.ireturn, 1) := by decide +kernel
theorem dX8_method_0 : decode cX8_method 0 = .ok (.aload_n 0, 1) := by decide +kernel
theorem dX8_method_1 : decode cX8_method 1 = .ok (.getfield 10, 3) := by decide +kernel
theorem dX8_method_4 : decode cX8_method 4 = .ok (.iload_n 1, 1) := by decide +kernel
theorem dX8_method_5 : decode cX8_method 5 = .ok (.invokevirtual 25, 3) := by decide +kernel
theorem dX8_method_8 : decode cX8_method 8 = .ok (.astore 5, 2) := by decide +kernel
theorem dX8_method_10 : decode cX8_method 10 = .ok (.iload_n 1, 1) := by decide +kernel
theorem dX8_method_11 : decode cX8_method 11 = .ok (.iconst (-1), 1) := by decide +kernel
theorem dX8_method_12 : decode cX8_method 12 = .ok (.if_icmp .eq 10, 3) := by decide +kernel
theorem dX8_method_15 : decode cX8_method 15 = .ok (.aload 5, 2) := by decide +kernel
theorem dX8_method_17 : decode cX8_method 17 = .ok (.ifnonnull 5, 3) := by decide +kernel
theorem dX8_method_20 : decode cX8_method 20 = .ok (.iconst (-1), 1) := by decide +kernel
theorem dX8_method_21 : decode cX8_method 21 = .ok (.ireturn, 1) := by decide +kernel
theorem dX8_method_22 : decode cX8_method 22 = .ok (.iload_n 2, 1) := by decide +kernel
theorem dX8_method_23 : decode cX8_method 23 = .ok (.iconst (-1), 1) := by decide +kernel
theorem dX8_method_24 : decode cX8_method 24 = .ok (.if_icmp .eq 16, 3) := by decide +kernel
theorem dX8_method_27 : decode cX8_method 27 = .ok (.aload_n 0, 1) := by decide +kernel
theorem dX8_method_28 : decode cX8_method 28 = .ok (.getfield 10, 3) := by decide +kernel
theorem dX8_method_31 : decode cX8_method 31 = .ok (.iload_n 2, 1) := by decide +kernel
theorem dX8_method_32 : decode cX8_method 32 = .ok (.invokevirtual 33, 3) := by decide +kernel
theorem dX8_method_35 : decode cX8_method 35 = .ok (.ifCond .ne 5, 3) := by decide +kernel
theorem dX8_method_38 : decode cX8_method 38 = .ok (.iconst (-1), 1) := by decide +kernel
theorem dX8_method_39 : decode cX8_method 39 = .ok (.ireturn, 1) := by decide +kernel
theorem dX8_method_40 : decode cX8_method 40 = .ok (.iload_n 3, 1) := by decide +kernel
theorem dX8_method_41 : decode cX8_method 41 = .ok (.iload 4, 2) := by decide +kernel
theorem dX8_method_43 : decode cX8_method 43 = .ok (.invokestatic 50, 3) := by decide +kernel
theorem dX8_method_46 : decode cX8_method 46 = .ok (.ifCond .eq 12, 3) := by decide +kernel
theorem dX8_method_49 : decode cX8_method 49 = .ok (.aload 5, 2) := by decide +kernel
theorem dX8_method_51 : decode cX8_method 51 = .ok (.ifnull 9, 3) := by decide +kernel
theorem dX8_method_54 : decode cX8_method 54 = .ok (.iload_n 3, 1) := by decide +kernel
theorem dX8_method_55 : decode cX8_method 55 = .ok (.ifCond .ne 5, 3) := by decide +kernel
theorem dX8_method_58 : decode cX8_method 58 = .ok (.iconst (-1), 1) := by decide +kernel
theorem dX8_method_59 : decode cX8_method 59 = .ok (.ireturn, 1) := by decide +kernel
theorem dX8_method_60 : decode cX8_method 60 = .ok (.aload_n 0, 1) := by decide +kernel
theorem dX8_method_61 : decode cX8_method 61 = .ok (.getfield 10, 3) := by decide +kernel
theorem dX8_method_64 : decode cX8_method 64 = .ok (.aload 5, 2) := by decide +kernel
theorem dX8_method_66 : decode cX8_method 66 = .ok (.iload_n 2, 1) := by decide +kernel
theorem dX8_method_67 : decode cX8_method 67 = .ok (.iload_n 3, 1) := by decide +kernel
theorem dX8_method_68 : decode cX8_method 68 = .ok (.iload 4, 2) := by decide +kernel
theorem dX8_method_70 : decode cX8_method 70 = .ok (.invokevirtual 54, 3) := by decide +kernel
theorem dX8_method_73 : decode cX8_method 73 = .ok (.ireturn, 1) := by decide +kernel
theorem dX8_parameter_0 : decode cX8_parameter 0 = .ok (.aload_n 0, 1) := by decide +kernel
theorem dX8_parameter_1 : decode cX8_parameter 1 = .ok (.getfield 10, 3) := by decide +kernel
theorem dX8_parameter_4 : decode cX8_parameter 4 = .ok (.iload_n 1, 1) := by decide +kernel
theorem dX8_parameter_5 : decode cX8_parameter 5 = .ok (.invokevirtual 58, 3) := by decide +kernel
theorem dX8_parameter_8 : decode cX8_parameter 8 = .ok (.astore_n 3, 1) := by decide +kernel
theorem dX8_parameter_9 : decode cX8_parameter 9 = .ok (.aload_n 3, 1) := by decide +kernel
theorem dX8_parameter_10 : decode cX8_parameter 10 = .ok (.ifnull 21, 3) := by decide +kernel
theorem dX8_parameter_13 : decode cX8_parameter 13 = .ok (.aload_n 0, 1) := by decide +kernel
theorem dX8_parameter_14 : decode cX8_parameter 14 = .ok (.getfield 10, 3) := by decide +kernel
theorem dX8_parameter_17 : decode cX8_parameter 17 = .ok (.iload_n 2, 1) := by decide +kernel
theorem dX8_parameter_18 : decode cX8_parameter 18 = .ok (.invokevirtual 33, 3) := by decide +kernel
theorem dX8_parameter_21 : decode cX8_parameter 21 = .ok (.ifCond .eq 10, 3) := by decide +kernel
theorem dX8_parameter_24 : decode cX8_parameter 24 = .ok (.aload_n 3, 1) := by decide +kernel
theorem dX8_parameter_25 : decode cX8_parameter 25 = .ok (.invokevirtual 62, 3) := by decide +kernel
theorem dX8_parameter_28 : decode cX8_parameter 28 = .ok (.ifCond .ne 5, 3) := by decide +kernel
theorem dX8_parameter_31 : decode cX8_parameter 31 = .ok (.iconst (-1), 1) := by decide +kernel
theorem dX8_parameter_32 : decode cX8_parameter 32 = .ok (.ireturn, 1) := by decide +kernel
theorem dX8_parameter_33 : decode cX8_parameter 33 = .ok (.aload_n 3, 1) := by decide +kernel
theorem dX8_parameter_34 : decode cX8_parameter 34 = .ok (.iload_n 2, 1) := by decide +kernel
theorem dX8_parameter_35 : decode cX8_parameter 35 = .ok (.invokevirtual 68, 3) := by decide +kernel
theorem dX8_parameter_38 : decode cX8_parameter 38 = .ok (.ireturn, 1) := by decide +kernel
theorem dX8_slot_0 : decode cX8_slot 0 = .ok (.aload_n 0, 1) := by decide +kernel
theorem dX8_slot_1 : decode cX8_slot 1 = .ok (.getfield 10, 3) := by decide +kernel
theorem dX8_slot_4 : decode cX8_slot 4 = .ok (.iload_n 1, 1) := by decide +kernel
theorem dX8_slot_5 : decode cX8_slot 5 = .ok (.invokevirtual 58, 3) := by decide +kernel
theorem dX8_slot_8 : decode cX8_slot 8 = .ok (.astore_n 3, 1) := by decide +kernel
theorem dX8_slot_9 : decode cX8_slot 9 = .ok (.aload_n 3, 1) := by decide +kernel
theorem dX8_slot_10 : decode cX8_slot 10 = .ok (.ifnull 13, 3) := by decide +kernel
theorem dX8_slot_13 : decode cX8_slot 13 = .ok (.iload_n 2, 1) := by decide +kernel
theorem dX8_slot_14 : decode cX8_slot 14 = .ok (.ifCond .lt 9, 3) := by decide +kernel
theorem dX8_slot_17 : decode cX8_slot 17 = .ok (.iload_n 2, 1) := by decide +kernel
theorem dX8_slot_18 : decode cX8_slot 18 = .ok (.bipush 16, 2) := by decide +kernel
theorem dX8_slot_20 : decode cX8_slot 20 = .ok (.if_icmp .lt 5, 3) := by decide +kernel
theorem dX8_slot_23 : decode cX8_slot 23 = .ok (.iconst 0, 1) := by decide +kernel
theorem dX8_slot_24 : decode cX8_slot 24 = .ok (.ireturn, 1) := by decide +kernel
theorem dX8_slot_25 : decode cX8_slot 25 = .ok (.aload_n 3, 1) := by decide +kernel
theorem dX8_slot_26 : decode cX8_slot 26 = .ok (.getfield 71, 3) := by decide +kernel
theorem dX8_slot_29 : decode cX8_slot 29 = .ok (.astore 4, 2) := by decide +kernel
theorem dX8_slot_31 : decode cX8_slot 31 = .ok (.aload 4, 2) := by decide +kernel
theorem dX8_slot_33 : decode cX8_slot 33 = .ok (.ifnull 11, 3) := by decide +kernel
theorem dX8_slot_36 : decode cX8_slot 36 = .ok (.aload 4, 2) := by decide +kernel
theorem dX8_slot_38 : decode cX8_slot 38 = .ok (.getfield 37, 3) := by decide +kernel
theorem dX8_slot_41 : decode cX8_slot 41 = .ok (.ifCond .eq 5, 3) := by decide +kernel
theorem dX8_slot_44 : decode cX8_slot 44 = .ok (.iconst 0, 1) := by decide +kernel
theorem dX8_slot_45 : decode cX8_slot 45 = .ok (.ireturn, 1) := by decide +kernel
theorem dX8_slot_46 : decode cX8_slot 46 = .ok (.aload_n 0, 1) := by decide +kernel
theorem dX8_slot_47 : decode cX8_slot 47 = .ok (.getfield 10, 3) := by decide +kernel
theorem dX8_slot_50 : decode cX8_slot 50 = .ok (.aload 4, 2) := by decide +kernel
theorem dX8_slot_52 : decode cX8_slot 52 = .ok (.iload_n 2, 1) := by decide +kernel
theorem dX8_slot_53 : decode cX8_slot 53 = .ok (.invokevirtual 75, 3) := by decide +kernel
theorem dX8_slot_56 : decode cX8_slot 56 = .ok (.invokevirtual 58, 3) := by decide +kernel
theorem dX8_slot_59 : decode cX8_slot 59 = .ok (.astore 5, 2) := by decide +kernel
theorem dX8_slot_61 : decode cX8_slot 61 = .ok (.aload 5, 2) := by decide +kernel
theorem dX8_slot_63 : decode cX8_slot 63 = .ok (.ifnull 14, 3) := by decide +kernel
theorem dX8_slot_66 : decode cX8_slot 66 = .ok (.aload 5, 2) := by decide +kernel
theorem dX8_slot_68 : decode cX8_slot 68 = .ok (.aload_n 3, 1) := by decide +kernel
theorem dX8_slot_69 : decode cX8_slot 69 = .ok (.invokevirtual 78, 3) := by decide +kernel
theorem dX8_slot_72 : decode cX8_slot 72 = .ok (.ifCond .ne 5, 3) := by decide +kernel
theorem dX8_slot_75 : decode cX8_slot 75 = .ok (.iconst 0, 1) := by decide +kernel
theorem dX8_slot_76 : decode cX8_slot 76 = .ok (.ireturn, 1) := by decide +kernel
theorem dX8_slot_77 : decode cX8_slot 77 = .ok (.aload 4, 2) := by decide +kernel
theorem dX8_slot_79 : decode cX8_slot 79 = .ok (.getfield 82, 3) := by decide +kernel
theorem dX8_slot_82 : decode cX8_slot 82 = .ok (.iload_n 2, 1) := by decide +kernel
theorem dX8_slot_83 : decode cX8_slot 83 = .ok (.iload_n 1, 1) := by decide +kernel
theorem dX8_slot_84 : decode cX8_slot 84 = .ok (.iastore, 1) := by decide +kernel
theorem dX8_slot_85 : decode cX8_slot 85 = .ok (.aload_n 3, 1) := by decide +kernel
theorem dX8_slot_86 : decode cX8_slot 86 = .ok (.iconst 1, 1) := by decide +kernel
theorem dX8_slot_87 : decode cX8_slot 87 = .ok (.putfield 86, 3) := by decide +kernel
theorem dX8_slot_90 : decode cX8_slot 90 = .ok (.iconst 1, 1) := by decide +kernel
theorem dX8_slot_91 : decode cX8_slot 91 = .ok (.ireturn, 1) := by decide +kernel
theorem dX8_op_0 : decode cX8_op 0 = .ok (.aload_n 0, 1) := by decide +kernel
theorem dX8_op_1 : decode cX8_op 1 = .ok (.getfield 10, 3) := by decide +kernel
theorem dX8_op_4 : decode cX8_op 4 = .ok (.iload_n 1, 1) := by decide +kernel
theorem dX8_op_5 : decode cX8_op 5 = .ok (.invokevirtual 58, 3) := by decide +kernel
theorem dX8_op_8 : decode cX8_op 8 = .ok (.astore 5, 2) := by decide +kernel
theorem dX8_op_10 : decode cX8_op 10 = .ok (.aload 5, 2) := by decide +kernel
theorem dX8_op_12 : decode cX8_op 12 = .ok (.ifnull 19, 3) := by decide +kernel
theorem dX8_op_15 : decode cX8_op 15 = .ok (.aload_n 0, 1) := by decide +kernel
theorem dX8_op_16 : decode cX8_op 16 = .ok (.getfield 10, 3) := by decide +kernel
theorem dX8_op_19 : decode cX8_op 19 = .ok (.aload 5, 2) := by decide +kernel
theorem dX8_op_21 : decode cX8_op 21 = .ok (.iload_n 2, 1) := by decide +kernel
theorem dX8_op_22 : decode cX8_op 22 = .ok (.iload_n 3, 1) := by decide +kernel
theorem dX8_op_23 : decode cX8_op 23 = .ok (.iload 4, 2) := by decide +kernel
theorem dX8_op_25 : decode cX8_op 25 = .ok (.invokevirtual 89, 3) := by decide +kernel
theorem dX8_op_28 : decode cX8_op 28 = .ok (.ifCond .ne 5, 3) := by decide +kernel
theorem dX8_op_31 : decode cX8_op 31 = .ok (.iconst (-1), 1) := by decide +kernel
theorem dX8_op_32 : decode cX8_op 32 = .ok (.ireturn, 1) := by decide +kernel
theorem dX8_op_33 : decode cX8_op 33 = .ok (.aload 5, 2) := by decide +kernel
theorem dX8_op_35 : decode cX8_op 35 = .ok (.iload_n 2, 1) := by decide +kernel
theorem dX8_op_36 : decode cX8_op 36 = .ok (.iload_n 3, 1) := by decide +kernel
theorem dX8_op_37 : decode cX8_op 37 = .ok (.iload 4, 2) := by decide +kernel
theorem dX8_op_39 : decode cX8_op 39 = .ok (.invokevirtual 93, 3) := by decide +kernel
theorem dX8_op_42 : decode cX8_op 42 = .ok (.ireturn, 1) := by decide +kernel
theorem dX8_handler_0 : decode cX8_handler 0 = .ok (.aload_n 0, 1) := by decide +kernel
theorem dX8_handler_1 : decode cX8_handler 1 = .ok (.getfield 10, 3) := by decide +kernel
theorem dX8_handler_4 : decode cX8_handler 4 = .ok (.iload_n 1, 1) := by decide +kernel
theorem dX8_handler_5 : decode cX8_handler 5 = .ok (.invokevirtual 58, 3) := by decide +kernel
theorem dX8_handler_8 : decode cX8_handler 8 = .ok (.astore 6, 2) := by decide +kernel
theorem dX8_handler_10 : decode cX8_handler 10 = .ok (.aload 6, 2) := by decide +kernel
theorem dX8_handler_12 : decode cX8_handler 12 = .ok (.ifnull 23, 3) := by decide +kernel
theorem dX8_handler_15 : decode cX8_handler 15 = .ok (.aload_n 0, 1) := by decide +kernel
theorem dX8_handler_16 : decode cX8_handler 16 = .ok (.getfield 10, 3) := by decide +kernel
theorem dX8_handler_19 : decode cX8_handler 19 = .ok (.iload 4, 2) := by decide +kernel
theorem dX8_handler_21 : decode cX8_handler 21 = .ok (.invokevirtual 25, 3) := by decide +kernel
theorem dX8_handler_24 : decode cX8_handler 24 = .ok (.ifnull 11, 3) := by decide +kernel
theorem dX8_handler_27 : decode cX8_handler 27 = .ok (.iload 5, 2) := by decide +kernel
theorem dX8_handler_29 : decode cX8_handler 29 = .ok (.invokestatic 97, 3) := by decide +kernel
theorem dX8_handler_32 : decode cX8_handler 32 = .ok (.ifCond .ne 5, 3) := by decide +kernel
theorem dX8_handler_35 : decode cX8_handler 35 = .ok (.iconst (-1), 1) := by decide +kernel
theorem dX8_handler_36 : decode cX8_handler 36 = .ok (.ireturn, 1) := by decide +kernel
theorem dX8_handler_37 : decode cX8_handler 37 = .ok (.iload_n 2, 1) := by decide +kernel
theorem dX8_handler_38 : decode cX8_handler 38 = .ok (.ifCond .lt 15, 3) := by decide +kernel
theorem dX8_handler_41 : decode cX8_handler 41 = .ok (.iload_n 2, 1) := by decide +kernel
theorem dX8_handler_42 : decode cX8_handler 42 = .ok (.iload_n 3, 1) := by decide +kernel
theorem dX8_handler_43 : decode cX8_handler 43 = .ok (.if_icmp .ge 10, 3) := by decide +kernel
theorem dX8_handler_46 : decode cX8_handler 46 = .ok (.iload_n 3, 1) := by decide +kernel
theorem dX8_handler_47 : decode cX8_handler 47 = .ok (.sipush 200, 3) := by decide +kernel
theorem dX8_handler_50 : decode cX8_handler 50 = .ok (.if_icmp .le 5, 3) := by decide +kernel
theorem dX8_handler_53 : decode cX8_handler 53 = .ok (.iconst (-1), 1) := by decide +kernel
theorem dX8_handler_54 : decode cX8_handler 54 = .ok (.ireturn, 1) := by decide +kernel
theorem dX8_handler_55 : decode cX8_handler 55 = .ok (.aload 6, 2) := by decide +kernel
theorem dX8_handler_57 : decode cX8_handler 57 = .ok (.iload_n 2, 1) := by decide +kernel
theorem dX8_handler_58 : decode cX8_handler 58 = .ok (.iload_n 3, 1) := by decide +kernel
theorem dX8_handler_59 : decode cX8_handler 59 = .ok (.iload 4, 2) := by decide +kernel
theorem dX8_handler_61 : decode cX8_handler 61 = .ok (.iload 5, 2) := by decide +kernel
theorem dX8_handler_63 : decode cX8_handler 63 = .ok (.invokevirtual 100, 3) := by decide +kernel
theorem dX8_handler_66 : decode cX8_handler 66 = .ok (.ireturn, 1) := by decide +kernel
theorem dX8_verify_0 : decode cX8_verify 0 = .ok (.aload_n 0, 1) := by decide +kernel
theorem dX8_verify_1 : decode cX8_verify 1 = .ok (.getfield 10, 3) := by decide +kernel
theorem dX8_verify_4 : decode cX8_verify 4 = .ok (.iload_n 1, 1) := by decide +kernel
theorem dX8_verify_5 : decode cX8_verify 5 = .ok (.invokevirtual 58, 3) := by decide +kernel
theorem dX8_verify_8 : decode cX8_verify 8 = .ok (.astore_n 2, 1) := by decide +kernel
theorem dX8_verify_9 : decode cX8_verify 9 = .ok (.aload_n 2, 1) := by decide +kernel
theorem dX8_verify_10 : decode cX8_verify 10 = .ok (.ifnonnull 5, 3) := by decide +kernel
theorem dX8_verify_13 : decode cX8_verify 13 = .ok (.iconst (-1), 1) := by decide +kernel
theorem dX8_verify_14 : decode cX8_verify 14 = .ok (.ireturn, 1) := by decide +kernel
theorem dX8_verify_15 : decode cX8_verify 15 = .ok (.aload_n 0, 1) := by decide +kernel
theorem dX8_verify_16 : decode cX8_verify 16 = .ok (.getfield 21, 3) := by decide +kernel
theorem dX8_verify_19 : decode cX8_verify 19 = .ok (.aload_n 2, 1) := by decide +kernel
theorem dX8_verify_20 : decode cX8_verify 20 = .ok (.invokevirtual 104, 3) := by decide +kernel
theorem dX8_verify_23 : decode cX8_verify 23 = .ok (.istore_n 3, 1) := by decide +kernel
theorem dX8_verify_24 : decode cX8_verify 24 = .ok (.iload_n 3, 1) := by decide +kernel
theorem dX8_verify_25 : decode cX8_verify 25 = .ok (.iconst (-1), 1) := by decide +kernel
theorem dX8_verify_26 : decode cX8_verify 26 = .ok (.if_icmp .ne 7, 3) := by decide +kernel
theorem dX8_verify_29 : decode cX8_verify 29 = .ok (.iconst 0, 1) := by decide +kernel
theorem dX8_verify_30 : decode cX8_verify 30 = .ok (.goto 6, 3) := by decide +kernel
theorem dX8_verify_33 : decode cX8_verify 33 = .ok (.iload_n 3, 1) := by decide +kernel
theorem dX8_verify_34 : decode cX8_verify 34 = .ok (.iconst 1, 1) := by decide +kernel
theorem dX8_verify_35 : decode cX8_verify 35 = .ok (.iadd, 1) := by decide +kernel
theorem dX8_verify_36 : decode cX8_verify 36 = .ok (.ireturn, 1) := by decide +kernel
theorem dX8_stands_0 : decode cX8_stands 0 = .ok (.aload_n 0, 1) := by decide +kernel
theorem dX8_stands_1 : decode cX8_stands 1 = .ok (.getfield 10, 3) := by decide +kernel
theorem dX8_stands_4 : decode cX8_stands 4 = .ok (.iload_n 1, 1) := by decide +kernel
theorem dX8_stands_5 : decode cX8_stands 5 = .ok (.invokevirtual 58, 3) := by decide +kernel
theorem dX8_stands_8 : decode cX8_stands 8 = .ok (.astore 5, 2) := by decide +kernel
theorem dX8_stands_10 : decode cX8_stands 10 = .ok (.aload 5, 2) := by decide +kernel
theorem dX8_stands_12 : decode cX8_stands 12 = .ok (.ifnull 11, 3) := by decide +kernel
theorem dX8_stands_15 : decode cX8_stands 15 = .ok (.aload 5, 2) := by decide +kernel
theorem dX8_stands_17 : decode cX8_stands 17 = .ok (.getfield 108, 3) := by decide +kernel
theorem dX8_stands_20 : decode cX8_stands 20 = .ok (.ifCond .ne 5, 3) := by decide +kernel
theorem dX8_stands_23 : decode cX8_stands 23 = .ok (.iconst (-1), 1) := by decide +kernel
theorem dX8_stands_24 : decode cX8_stands 24 = .ok (.ireturn, 1) := by decide +kernel
theorem dX8_stands_25 : decode cX8_stands 25 = .ok (.aload 5, 2) := by decide +kernel
theorem dX8_stands_27 : decode cX8_stands 27 = .ok (.iload_n 2, 1) := by decide +kernel
theorem dX8_stands_28 : decode cX8_stands 28 = .ok (.invokevirtual 111, 3) := by decide +kernel
theorem dX8_stands_31 : decode cX8_stands 31 = .ok (.astore 6, 2) := by decide +kernel
theorem dX8_stands_33 : decode cX8_stands 33 = .ok (.aload 6, 2) := by decide +kernel
theorem dX8_stands_35 : decode cX8_stands 35 = .ok (.ifnull 11, 3) := by decide +kernel
theorem dX8_stands_38 : decode cX8_stands 38 = .ok (.aload 6, 2) := by decide +kernel
theorem dX8_stands_40 : decode cX8_stands 40 = .ok (.getfield 115, 3) := by decide +kernel
theorem dX8_stands_43 : decode cX8_stands 43 = .ok (.ifCond .ne 5, 3) := by decide +kernel
theorem dX8_stands_46 : decode cX8_stands 46 = .ok (.iconst (-1), 1) := by decide +kernel
theorem dX8_stands_47 : decode cX8_stands 47 = .ok (.ireturn, 1) := by decide +kernel
theorem dX8_stands_48 : decode cX8_stands 48 = .ok (.iload_n 3, 1) := by decide +kernel
theorem dX8_stands_49 : decode cX8_stands 49 = .ok (.tableswitch 58 0 2 #[27, 36, 47], 27) := by decide +kernel
theorem dX8_stands_76 : decode cX8_stands 76 = .ok (.aload 6, 2) := by decide +kernel
theorem dX8_stands_78 : decode cX8_stands 78 = .ok (.getfield 120, 3) := by decide +kernel
theorem dX8_stands_81 : decode cX8_stands 81 = .ok (.getfield 124, 3) := by decide +kernel
theorem dX8_stands_84 : decode cX8_stands 84 = .ok (.ireturn, 1) := by decide +kernel
theorem dX8_stands_85 : decode cX8_stands 85 = .ok (.aload 6, 2) := by decide +kernel
theorem dX8_stands_87 : decode cX8_stands 87 = .ok (.getfield 120, 3) := by decide +kernel
theorem dX8_stands_90 : decode cX8_stands 90 = .ok (.iload 4, 2) := by decide +kernel
theorem dX8_stands_92 : decode cX8_stands 92 = .ok (.invokevirtual 130, 3) := by decide +kernel
theorem dX8_stands_95 : decode cX8_stands 95 = .ok (.ireturn, 1) := by decide +kernel
theorem dX8_stands_96 : decode cX8_stands 96 = .ok (.aload 6, 2) := by decide +kernel
theorem dX8_stands_98 : decode cX8_stands 98 = .ok (.getfield 120, 3) := by decide +kernel
theorem dX8_stands_101 : decode cX8_stands 101 = .ok (.iload 4, 2) := by decide +kernel
theorem dX8_stands_103 : decode cX8_stands 103 = .ok (.invokevirtual 133, 3) := by decide +kernel
theorem dX8_stands_106 : decode cX8_stands 106 = .ok (.ireturn, 1) := by decide +kernel
theorem dX8_stands_107 : decode cX8_stands 107 = .ok (.iconst (-1), 1) := by decide +kernel
theorem dX8_stands_108 : decode cX8_stands 108 = .ok (.ireturn, 1) := by decide +kernel
theorem dX8_looked_0 : decode cX8_looked 0 = .ok (.aload_n 0, 1) := by decide +kernel
theorem dX8_looked_1 : decode cX8_looked 1 = .ok (.getfield 21, 3) := by decide +kernel
theorem dX8_looked_4 : decode cX8_looked 4 = .ok (.getfield 136, 3) := by decide +kernel
theorem dX8_looked_7 : decode cX8_looked 7 = .ok (.ireturn, 1) := by decide +kernel
theorem dX8_isRoom_0 : decode cX8_isRoom 0 = .ok (.iload_n 0, 1) := by decide +kernel
theorem dX8_isRoom_1 : decode cX8_isRoom 1 = .ok (.ifCond .lt 31, 3) := by decide +kernel
theorem dX8_isRoom_4 : decode cX8_isRoom 4 = .ok (.iload_n 0, 1) := by decide +kernel
theorem dX8_isRoom_5 : decode cX8_isRoom 5 = .ok (.bipush 12, 2) := by decide +kernel
theorem dX8_isRoom_7 : decode cX8_isRoom 7 = .ok (.if_icmp .gt 25, 3) := by decide +kernel
theorem dX8_isRoom_10 : decode cX8_isRoom 10 = .ok (.iload_n 1, 1) := by decide +kernel
theorem dX8_isRoom_11 : decode cX8_isRoom 11 = .ok (.ifCond .lt 21, 3) := by decide +kernel
theorem dX8_isRoom_14 : decode cX8_isRoom 14 = .ok (.iload_n 1, 1) := by decide +kernel
theorem dX8_isRoom_15 : decode cX8_isRoom 15 = .ok (.bipush 12, 2) := by decide +kernel
theorem dX8_isRoom_17 : decode cX8_isRoom 17 = .ok (.if_icmp .gt 15, 3) := by decide +kernel
theorem dX8_isRoom_20 : decode cX8_isRoom 20 = .ok (.iload_n 0, 1) := by decide +kernel
theorem dX8_isRoom_21 : decode cX8_isRoom 21 = .ok (.iload_n 1, 1) := by decide +kernel
theorem dX8_isRoom_22 : decode cX8_isRoom 22 = .ok (.iadd, 1) := by decide +kernel
theorem dX8_isRoom_23 : decode cX8_isRoom 23 = .ok (.bipush 12, 2) := by decide +kernel
theorem dX8_isRoom_25 : decode cX8_isRoom 25 = .ok (.if_icmp .gt 7, 3) := by decide +kernel
theorem dX8_isRoom_28 : decode cX8_isRoom 28 = .ok (.iconst 1, 1) := by decide +kernel
theorem dX8_isRoom_29 : decode cX8_isRoom 29 = .ok (.goto 4, 3) := by decide +kernel
theorem dX8_isRoom_32 : decode cX8_isRoom 32 = .ok (.iconst 0, 1) := by decide +kernel
theorem dX8_isRoom_33 : decode cX8_isRoom 33 = .ok (.ireturn, 1) := by decide +kernel
theorem dX8_isPlace_0 : decode cX8_isPlace 0 = .ok (.iload_n 0, 1) := by decide +kernel
theorem dX8_isPlace_1 : decode cX8_isPlace 1 = .ok (.ifCond .lt 14, 3) := by decide +kernel
theorem dX8_isPlace_4 : decode cX8_isPlace 4 = .ok (.iload_n 0, 1) := by decide +kernel
theorem dX8_isPlace_5 : decode cX8_isPlace 5 = .ok (.sipush 200, 3) := by decide +kernel
theorem dX8_isPlace_8 : decode cX8_isPlace 8 = .ok (.if_icmp .ge 7, 3) := by decide +kernel
theorem dX8_isPlace_11 : decode cX8_isPlace 11 = .ok (.iconst 1, 1) := by decide +kernel
theorem dX8_isPlace_12 : decode cX8_isPlace 12 = .ok (.goto 4, 3) := by decide +kernel
theorem dX8_isPlace_15 : decode cX8_isPlace 15 = .ok (.iconst 0, 1) := by decide +kernel
theorem dX8_isPlace_16 : decode cX8_isPlace 16 = .ok (.ireturn, 1) := by decide +kernel
theorem dX8_isKindType_0 : decode cX8_isKindType 0 = .ok (.iload_n 0, 1) := by decide +kernel
theorem dX8_isKindType_1 : decode cX8_isKindType 1 = .ok (.iconst 1, 1) := by decide +kernel
theorem dX8_isKindType_2 : decode cX8_isKindType 2 = .ok (.if_icmp .lt 13, 3) := by decide +kernel
theorem dX8_isKindType_5 : decode cX8_isKindType 5 = .ok (.iload_n 0, 1) := by decide +kernel
theorem dX8_isKindType_6 : decode cX8_isKindType 6 = .ok (.bipush 33, 2) := by decide +kernel
theorem dX8_isKindType_8 : decode cX8_isKindType 8 = .ok (.if_icmp .ge 7, 3) := by decide +kernel
theorem dX8_isKindType_11 : decode cX8_isKindType 11 = .ok (.iconst 1, 1) := by decide +kernel
theorem dX8_isKindType_12 : decode cX8_isKindType 12 = .ok (.goto 4, 3) := by decide +kernel
theorem dX8_isKindType_15 : decode cX8_isKindType 15 = .ok (.iconst 0, 1) := by decide +kernel
theorem dX8_isKindType_16 : decode cX8_isKindType 16 = .ok (.ireturn, 1) := by decide +kernel
theorem dX8_isRowType_0 : decode cX8_isRowType 0 = .ok (.iload_n 0, 1) := by decide +kernel
theorem dX8_isRowType_1 : decode cX8_isRowType 1 = .ok (.bipush 64, 2) := by decide +kernel
theorem dX8_isRowType_3 : decode cX8_isRowType 3 = .ok (.if_icmp .lt 13, 3) := by decide +kernel
theorem dX8_isRowType_6 : decode cX8_isRowType 6 = .ok (.iload_n 0, 1) := by decide +kernel
theorem dX8_isRowType_7 : decode cX8_isRowType 7 = .ok (.bipush 96, 2) := by decide +kernel
theorem dX8_isRowType_9 : decode cX8_isRowType 9 = .ok (.if_icmp .gt 7, 3) := by decide +kernel
theorem dX8_isRowType_12 : decode cX8_isRowType 12 = .ok (.iconst 1, 1) := by decide +kernel
theorem dX8_isRowType_13 : decode cX8_isRowType 13 = .ok (.goto 4, 3) := by decide +kernel
theorem dX8_isRowType_16 : decode cX8_isRowType 16 = .ok (.iconst 0, 1) := by decide +kernel
theorem dX8_isRowType_17 : decode cX8_isRowType 17 = .ok (.ireturn, 1) := by decide +kernel
theorem dX8_isReference_0 : decode cX8_isReference 0 = .ok (.iload_n 0, 1) := by decide +kernel
theorem dX8_isReference_1 : decode cX8_isReference 1 = .ok (.ifCond .le 13, 3) := by decide +kernel
theorem dX8_isReference_4 : decode cX8_isReference 4 = .ok (.iload_n 0, 1) := by decide +kernel
theorem dX8_isReference_5 : decode cX8_isReference 5 = .ok (.bipush 99, 2) := by decide +kernel
theorem dX8_isReference_7 : decode cX8_isReference 7 = .ok (.if_icmp .ge 7, 3) := by decide +kernel
theorem dX8_isReference_10 : decode cX8_isReference 10 = .ok (.iconst 1, 1) := by decide +kernel
theorem dX8_isReference_11 : decode cX8_isReference 11 = .ok (.goto 4, 3) := by decide +kernel
theorem dX8_isReference_14 : decode cX8_isReference 14 = .ok (.iconst 0, 1) := by decide +kernel
theorem dX8_isReference_15 : decode cX8_isReference 15 = .ok (.ireturn, 1) := by decide +kernel
theorem dX8_rowOf_0 : decode cX8_rowOf 0 = .ok (.bipush 64, 2) := by decide +kernel
theorem dX8_rowOf_2 : decode cX8_rowOf 2 = .ok (.iload_n 0, 1) := by decide +kernel
theorem dX8_rowOf_3 : decode cX8_rowOf 3 = .ok (.iadd, 1) := by decide +kernel
theorem dX8_rowOf_4 : decode cX8_rowOf 4 = .ok (.ireturn, 1) := by decide +kernel
theorem dX8_elementOf_0 : decode cX8_elementOf 0 = .ok (.iload_n 0, 1) := by decide +kernel
theorem dX8_elementOf_1 : decode cX8_elementOf 1 = .ok (.bipush 64, 2) := by decide +kernel
theorem dX8_elementOf_3 : decode cX8_elementOf 3 = .ok (.isub, 1) := by decide +kernel
theorem dX8_elementOf_4 : decode cX8_elementOf 4 = .ok (.ireturn, 1) := by decide +kernel
theorem dX9_init_0 : decode cX9_init 0 = .ok (.aload_n 0, 1) := by decide +kernel
theorem dX9_init_1 : decode cX9_init 1 = .ok (.invokespecial 1, 3) := by decide +kernel
theorem dX9_init_4 : decode cX9_init 4 = .ok (.aload_n 0, 1) := by decide +kernel
theorem dX9_init_5 : decode cX9_init 5 = .ok (.bipush 32, 2) := by decide +kernel
theorem dX9_init_7 : decode cX9_init 7 = .ok (.newarray .int, 2) := by decide +kernel
theorem dX9_init_9 : decode cX9_init 9 = .ok (.putfield 9, 3) := by decide +kernel
theorem dX9_init_12 : decode cX9_init 12 = .ok (.aload_n 0, 1) := by decide +kernel
theorem dX9_init_13 : decode cX9_init 13 = .ok (.bipush 32, 2) := by decide +kernel
theorem dX9_init_15 : decode cX9_init 15 = .ok (.newarray .boolean, 2) := by decide +kernel
theorem dX9_init_17 : decode cX9_init 17 = .ok (.putfield 13, 3) := by decide +kernel
theorem dX9_init_20 : decode cX9_init 20 = .ok (.aload_n 0, 1) := by decide +kernel
theorem dX9_init_21 : decode cX9_init 21 = .ok (.bipush 32, 2) := by decide +kernel
theorem dX9_init_23 : decode cX9_init 23 = .ok (.newarray .int, 2) := by decide +kernel
theorem dX9_init_25 : decode cX9_init 25 = .ok (.putfield 17, 3) := by decide +kernel
theorem dX9_init_28 : decode cX9_init 28 = .ok (.aload_n 0, 1) := by decide +kernel
theorem dX9_init_29 : decode cX9_init 29 = .ok (.sipush 480, 3) := by decide +kernel
theorem dX9_init_32 : decode cX9_init 32 = .ok (.newarray .int, 2) := by decide +kernel
theorem dX9_init_34 : decode cX9_init 34 = .ok (.putfield 20, 3) := by decide +kernel
theorem dX9_init_37 : decode cX9_init 37 = .ok (.aload_n 0, 1) := by decide +kernel
theorem dX9_init_38 : decode cX9_init 38 = .ok (.sipush 512, 3) := by decide +kernel
theorem dX9_init_41 : decode cX9_init 41 = .ok (.newarray .int, 2) := by decide +kernel
theorem dX9_init_43 : decode cX9_init 43 = .ok (.putfield 23, 3) := by decide +kernel
theorem dX9_init_46 : decode cX9_init 46 = .ok (.aload_n 0, 1) := by decide +kernel
theorem dX9_init_47 : decode cX9_init 47 = .ok (.bipush 64, 2) := by decide +kernel
theorem dX9_init_49 : decode cX9_init 49 = .ok (.newarray .int, 2) := by decide +kernel
theorem dX9_init_51 : decode cX9_init 51 = .ok (.putfield 26, 3) := by decide +kernel
theorem dX9_init_54 : decode cX9_init 54 = .ok (.aload_n 0, 1) := by decide +kernel
theorem dX9_init_55 : decode cX9_init 55 = .ok (.bipush 64, 2) := by decide +kernel
theorem dX9_init_57 : decode cX9_init 57 = .ok (.newarray .int, 2) := by decide +kernel
theorem dX9_init_59 : decode cX9_init 59 = .ok (.putfield 29, 3) := by decide +kernel
theorem dX9_init_62 : decode cX9_init 62 = .ok (.aload_n 0, 1) := by decide +kernel
theorem dX9_init_63 : decode cX9_init 63 = .ok (.bipush 64, 2) := by decide +kernel
theorem dX9_init_65 : decode cX9_init 65 = .ok (.newarray .int, 2) := by decide +kernel
theorem dX9_init_67 : decode cX9_init 67 = .ok (.putfield 32, 3) := by decide +kernel
theorem dX9_init_70 : decode cX9_init 70 = .ok (.aload_n 0, 1) := by decide +kernel
theorem dX9_init_71 : decode cX9_init 71 = .ok (.bipush 64, 2) := by decide +kernel
theorem dX9_init_73 : decode cX9_init 73 = .ok (.newarray .int, 2) := by decide +kernel
theorem dX9_init_75 : decode cX9_init 75 = .ok (.putfield 35, 3) := by decide +kernel
theorem dX9_init_78 : decode cX9_init 78 = .ok (.aload_n 0, 1) := by decide +kernel
theorem dX9_init_79 : decode cX9_init 79 = .ok (.bipush 64, 2) := by decide +kernel
theorem dX9_init_81 : decode cX9_init 81 = .ok (.newarray .int, 2) := by decide +kernel
theorem dX9_init_83 : decode cX9_init 83 = .ok (.putfield 38, 3) := by decide +kernel
theorem dX9_init_86 : decode cX9_init 86 = .ok (.aload_n 0, 1) := by decide +kernel
theorem dX9_init_87 : decode cX9_init 87 = .ok (.sipush 512, 3) := by decide +kernel
theorem dX9_init_90 : decode cX9_init 90 = .ok (.newarray .int, 2) := by decide +kernel
theorem dX9_init_92 : decode cX9_init 92 = .ok (.putfield 41, 3) := by decide +kernel
theorem dX9_init_95 : decode cX9_init 95 = .ok (.aload_n 0, 1) := by decide +kernel
theorem dX9_init_96 : decode cX9_init 96 = .ok (.bipush 64, 2) := by decide +kernel
theorem dX9_init_98 : decode cX9_init 98 = .ok (.newarray .boolean, 2) := by decide +kernel
theorem dX9_init_100 : decode cX9_init 100 = .ok (.putfield 44, 3) := by decide +kernel
theorem dX9_init_103 : decode cX9_init 103 = .ok (.aload_n 0, 1) := by decide +kernel
theorem dX9_init_104 : decode cX9_init 104 = .ok (.bipush 64, 2) := by decide +kernel
theorem dX9_init_106 : decode cX9_init 106 = .ok (.newarray .int, 2) := by decide +kernel
theorem dX9_init_108 : decode cX9_init 108 = .ok (.putfield 47, 3) := by decide +kernel
theorem dX9_init_111 : decode cX9_init 111 = .ok (.aload_n 0, 1) := by decide +kernel
theorem dX9_init_112 : decode cX9_init 112 = .ok (.sipush 12800, 3) := by decide +kernel
theorem dX9_init_115 : decode cX9_init 115 = .ok (.newarray .int, 2) := by decide +kernel
theorem dX9_init_117 : decode cX9_init 117 = .ok (.putfield 50, 3) := by decide +kernel
theorem dX9_init_120 : decode cX9_init 120 = .ok (.aload_n 0, 1) := by decide +kernel
theorem dX9_init_121 : decode cX9_init 121 = .ok (.sipush 12800, 3) := by decide +kernel
theorem dX9_init_124 : decode cX9_init 124 = .ok (.newarray .int, 2) := by decide +kernel
theorem dX9_init_126 : decode cX9_init 126 = .ok (.putfield 53, 3) := by decide +kernel
theorem dX9_init_129 : decode cX9_init 129 = .ok (.aload_n 0, 1) := by decide +kernel
theorem dX9_init_130 : decode cX9_init 130 = .ok (.sipush 12800, 3) := by decide +kernel
theorem dX9_init_133 : decode cX9_init 133 = .ok (.newarray .int, 2) := by decide +kernel
theorem dX9_init_135 : decode cX9_init 135 = .ok (.putfield 56, 3) := by decide +kernel
theorem dX9_init_138 : decode cX9_init 138 = .ok (.aload_n 0, 1) := by decide +kernel
theorem dX9_init_139 : decode cX9_init 139 = .ok (.bipush 64, 2) := by decide +kernel
theorem dX9_init_141 : decode cX9_init 141 = .ok (.newarray .int, 2) := by decide +kernel
theorem dX9_init_143 : decode cX9_init 143 = .ok (.putfield 59, 3) := by decide +kernel
theorem dX9_init_146 : decode cX9_init 146 = .ok (.aload_n 0, 1) := by decide +kernel
theorem dX9_init_147 : decode cX9_init 147 = .ok (.sipush 512, 3) := by decide +kernel
theorem dX9_init_150 : decode cX9_init 150 = .ok (.newarray .int, 2) := by decide +kernel
theorem dX9_init_152 : decode cX9_init 152 = .ok (.putfield 62, 3) := by decide +kernel
theorem dX9_init_155 : decode cX9_init 155 = .ok (.aload_n 0, 1) := by decide +kernel
theorem dX9_init_156 : decode cX9_init 156 = .ok (.sipush 512, 3) := by decide +kernel
theorem dX9_init_159 : decode cX9_init 159 = .ok (.newarray .int, 2) := by decide +kernel
theorem dX9_init_161 : decode cX9_init 161 = .ok (.putfield 65, 3) := by decide +kernel
theorem dX9_init_164 : decode cX9_init 164 = .ok (.aload_n 0, 1) := by decide +kernel
theorem dX9_init_165 : decode cX9_init 165 = .ok (.sipush 512, 3) := by decide +kernel
theorem dX9_init_168 : decode cX9_init 168 = .ok (.newarray .int, 2) := by decide +kernel
theorem dX9_init_170 : decode cX9_init 170 = .ok (.putfield 68, 3) := by decide +kernel
theorem dX9_init_173 : decode cX9_init 173 = .ok (.aload_n 0, 1) := by decide +kernel
theorem dX9_init_174 : decode cX9_init 174 = .ok (.sipush 512, 3) := by decide +kernel
theorem dX9_init_177 : decode cX9_init 177 = .ok (.newarray .int, 2) := by decide +kernel
theorem dX9_init_179 : decode cX9_init 179 = .ok (.putfield 71, 3) := by decide +kernel
theorem dX9_init_182 : decode cX9_init 182 = .ok (.aload_n 0, 1) := by decide +kernel
theorem dX9_init_183 : decode cX9_init 183 = .ok (.bipush 64, 2) := by decide +kernel
theorem dX9_init_185 : decode cX9_init 185 = .ok (.newarray .boolean, 2) := by decide +kernel
theorem dX9_init_187 : decode cX9_init 187 = .ok (.putfield 74, 3) := by decide +kernel
theorem dX9_init_190 : decode cX9_init 190 = .ok (.aload_n 0, 1) := by decide +kernel
theorem dX9_init_191 : decode cX9_init 191 = .ok (.sipush 12800, 3) := by decide +kernel
theorem dX9_init_194 : decode cX9_init 194 = .ok (.newarray .int, 2) := by decide +kernel
theorem dX9_init_196 : decode cX9_init 196 = .ok (.putfield 77, 3) := by decide +kernel
theorem dX9_init_199 : decode cX9_init 199 = .ok (.aload_n 0, 1) := by decide +kernel
theorem dX9_init_200 : decode cX9_init 200 = .ok (.ldc 80, 2) := by decide +kernel
theorem dX9_init_202 : decode cX9_init 202 = .ok (.newarray .int, 2) := by decide +kernel
theorem dX9_init_204 : decode cX9_init 204 = .ok (.putfield 81, 3) := by decide +kernel
theorem dX9_init_207 : decode cX9_init 207 = .ok (.aload_n 0, 1) := by decide +kernel
theorem dX9_init_208 : decode cX9_init 208 = .ok (.sipush 200, 3) := by decide +kernel
theorem dX9_init_211 : decode cX9_init 211 = .ok (.newarray .boolean, 2) := by decide +kernel
theorem dX9_init_213 : decode cX9_init 213 = .ok (.putfield 84, 3) := by decide +kernel
theorem dX9_init_216 : decode cX9_init 216 = .ok (.aload_n 0, 1) := by decide +kernel
theorem dX9_init_217 : decode cX9_init 217 = .ok (.bipush 12, 2) := by decide +kernel
theorem dX9_init_219 : decode cX9_init 219 = .ok (.newarray .int, 2) := by decide +kernel
theorem dX9_init_221 : decode cX9_init 221 = .ok (.putfield 87, 3) := by decide +kernel
theorem dX9_init_224 : decode cX9_init 224 = .ok (.return_, 1) := by decide +kernel
theorem dX9_isClass_0 : decode cX9_isClass 0 = .ok (.iload_n 1, 1) := by decide +kernel
theorem dX9_isClass_1 : decode cX9_isClass 1 = .ok (.ifCond .lt 15, 3) := by decide +kernel
theorem dX9_isClass_4 : decode cX9_isClass 4 = .ok (.iload_n 1, 1) := by decide +kernel
theorem dX9_isClass_5 : decode cX9_isClass 5 = .ok (.aload_n 0, 1) := by decide +kernel
theorem dX9_isClass_6 : decode cX9_isClass 6 = .ok (.getfield 90, 3) := by decide +kernel
theorem dX9_isClass_9 : decode cX9_isClass 9 = .ok (.if_icmp .ge 7, 3) := by decide +kernel
theorem dX9_isClass_12 : decode cX9_isClass 12 = .ok (.iconst 1, 1) := by decide +kernel
theorem dX9_isClass_13 : decode cX9_isClass 13 = .ok (.goto 4, 3) := by decide +kernel
theorem dX9_isClass_16 : decode cX9_isClass 16 = .ok (.iconst 0, 1) := by decide +kernel
theorem dX9_isClass_17 : decode cX9_isClass 17 = .ok (.ireturn, 1) := by decide +kernel
theorem dX9_isMethod_0 : decode cX9_isMethod 0 = .ok (.iload_n 1, 1) := by decide +kernel
theorem dX9_isMethod_1 : decode cX9_isMethod 1 = .ok (.ifCond .lt 15, 3) := by decide +kernel
theorem dX9_isMethod_4 : decode cX9_isMethod 4 = .ok (.iload_n 1, 1) := by decide +kernel
theorem dX9_isMethod_5 : decode cX9_isMethod 5 = .ok (.aload_n 0, 1) := by decide +kernel
theorem dX9_isMethod_6 : decode cX9_isMethod 6 = .ok (.getfield 94, 3) := by decide +kernel
theorem dX9_isMethod_9 : decode cX9_isMethod 9 = .ok (.if_icmp .ge 7, 3) := by decide +kernel
theorem dX9_isMethod_12 : decode cX9_isMethod 12 = .ok (.iconst 1, 1) := by decide +kernel
theorem dX9_isMethod_13 : decode cX9_isMethod 13 = .ok (.goto 4, 3) := by decide +kernel
theorem dX9_isMethod_16 : decode cX9_isMethod 16 = .ok (.iconst 0, 1) := by decide +kernel
theorem dX9_isMethod_17 : decode cX9_isMethod 17 = .ok (.ireturn, 1) := by decide +kernel
theorem dX9_isType_0 : decode cX9_isType 0 = .ok (.iload_n 1, 1) := by decide +kernel
theorem dX9_isType_1 : decode cX9_isType 1 = .ok (.ifCond .lt 11, 3) := by decide +kernel
theorem dX9_isType_4 : decode cX9_isType 4 = .ok (.iload_n 1, 1) := by decide +kernel
theorem dX9_isType_5 : decode cX9_isType 5 = .ok (.aload_n 0, 1) := by decide +kernel
theorem dX9_isType_6 : decode cX9_isType 6 = .ok (.getfield 90, 3) := by decide +kernel
theorem dX9_isType_9 : decode cX9_isType 9 = .ok (.if_icmp .le 20, 3) := by decide +kernel
theorem dX9_isType_12 : decode cX9_isType 12 = .ok (.iload_n 1, 1) := by decide +kernel
theorem dX9_isType_13 : decode cX9_isType 13 = .ok (.bipush 64, 2) := by decide +kernel
theorem dX9_isType_15 : decode cX9_isType 15 = .ok (.if_icmp .lt 18, 3) := by decide +kernel
theorem dX9_isType_18 : decode cX9_isType 18 = .ok (.iload_n 1, 1) := by decide +kernel
theorem dX9_isType_19 : decode cX9_isType 19 = .ok (.bipush 64, 2) := by decide +kernel
theorem dX9_isType_21 : decode cX9_isType 21 = .ok (.aload_n 0, 1) := by decide +kernel
theorem dX9_isType_22 : decode cX9_isType 22 = .ok (.getfield 90, 3) := by decide +kernel
theorem dX9_isType_25 : decode cX9_isType 25 = .ok (.iadd, 1) := by decide +kernel
theorem dX9_isType_26 : decode cX9_isType 26 = .ok (.if_icmp .gt 7, 3) := by decide +kernel
theorem dX9_isType_29 : decode cX9_isType 29 = .ok (.iconst 1, 1) := by decide +kernel
theorem dX9_isType_30 : decode cX9_isType 30 = .ok (.goto 4, 3) := by decide +kernel
theorem dX9_isType_33 : decode cX9_isType 33 = .ok (.iconst 0, 1) := by decide +kernel
theorem dX9_isType_34 : decode cX9_isType 34 = .ok (.ireturn, 1) := by decide +kernel
theorem dX9_isRow_0 : decode cX9_isRow 0 = .ok (.iload_n 0, 1) := by decide +kernel
theorem dX9_isRow_1 : decode cX9_isRow 1 = .ok (.bipush 64, 2) := by decide +kernel
theorem dX9_isRow_3 : decode cX9_isRow 3 = .ok (.if_icmp .lt 13, 3) := by decide +kernel
theorem dX9_isRow_6 : decode cX9_isRow 6 = .ok (.iload_n 0, 1) := by decide +kernel
theorem dX9_isRow_7 : decode cX9_isRow 7 = .ok (.bipush 96, 2) := by decide +kernel
theorem dX9_isRow_9 : decode cX9_isRow 9 = .ok (.if_icmp .gt 7, 3) := by decide +kernel
theorem dX9_isRow_12 : decode cX9_isRow 12 = .ok (.iconst 1, 1) := by decide +kernel
theorem dX9_isRow_13 : decode cX9_isRow 13 = .ok (.goto 4, 3) := by decide +kernel
theorem dX9_isRow_16 : decode cX9_isRow 16 = .ok (.iconst 0, 1) := by decide +kernel
theorem dX9_isRow_17 : decode cX9_isRow 17 = .ok (.ireturn, 1) := by decide +kernel
theorem dX9_isSome_0 : decode cX9_isSome 0 = .ok (.iload_n 0, 1) := by decide +kernel
theorem dX9_isSome_1 : decode cX9_isSome 1 = .ok (.ifCond .le 13, 3) := by decide +kernel
theorem dX9_isSome_4 : decode cX9_isSome 4 = .ok (.iload_n 0, 1) := by decide +kernel
theorem dX9_isSome_5 : decode cX9_isSome 5 = .ok (.bipush 32, 2) := by decide +kernel
theorem dX9_isSome_7 : decode cX9_isSome 7 = .ok (.if_icmp .gt 7, 3) := by decide +kernel
theorem dX9_isSome_10 : decode cX9_isSome 10 = .ok (.iconst 1, 1) := by decide +kernel
theorem dX9_isSome_11 : decode cX9_isSome 11 = .ok (.goto 4, 3) := by decide +kernel
theorem dX9_isSome_14 : decode cX9_isSome 14 = .ok (.iconst 0, 1) := by decide +kernel
theorem dX9_isSome_15 : decode cX9_isSome 15 = .ok (.ireturn, 1) := by decide +kernel
theorem dX9_isReference_0 : decode cX9_isReference 0 = .ok (.iload_n 0, 1) := by decide +kernel
theorem dX9_isReference_1 : decode cX9_isReference 1 = .ok (.ifCond .eq 13, 3) := by decide +kernel
theorem dX9_isReference_4 : decode cX9_isReference 4 = .ok (.iload_n 0, 1) := by decide +kernel
theorem dX9_isReference_5 : decode cX9_isReference 5 = .ok (.bipush 99, 2) := by decide +kernel
theorem dX9_isReference_7 : decode cX9_isReference 7 = .ok (.if_icmp .eq 7, 3) := by decide +kernel
theorem dX9_isReference_10 : decode cX9_isReference 10 = .ok (.iconst 1, 1) := by decide +kernel
theorem dX9_isReference_11 : decode cX9_isReference 11 = .ok (.goto 4, 3) := by decide +kernel
theorem dX9_isReference_14 : decode cX9_isReference 14 = .ok (.iconst 0, 1) := by decide +kernel
theorem dX9_isReference_15 : decode cX9_isReference 15 = .ok (.ireturn, 1) := by decide +kernel
theorem dX9_isUnder_0 : decode cX9_isUnder 0 = .ok (.iload_n 1, 1) := by decide +kernel
theorem dX9_isUnder_1 : decode cX9_isUnder 1 = .ok (.istore_n 3, 1) := by decide +kernel
theorem dX9_isUnder_2 : decode cX9_isUnder 2 = .ok (.iload_n 3, 1) := by decide +kernel
theorem dX9_isUnder_3 : decode cX9_isUnder 3 = .ok (.ifCond .lt 18, 3) := by decide +kernel
theorem dX9_isUnder_6 : decode cX9_isUnder 6 = .ok (.iload_n 3, 1) := by decide +kernel
theorem dX9_isUnder_7 : decode cX9_isUnder 7 = .ok (.iload_n 2, 1) := by decide +kernel
theorem dX9_isUnder_8 : decode cX9_isUnder 8 = .ok (.if_icmp .eq 13, 3) := by decide +kernel
theorem dX9_isUnder_11 : decode cX9_isUnder 11 = .ok (.aload_n 0, 1) := by decide +kernel
theorem dX9_isUnder_12 : decode cX9_isUnder 12 = .ok (.getfield 9, 3) := by decide +kernel
theorem dX9_isUnder_15 : decode cX9_isUnder 15 = .ok (.iload_n 3, 1) := by decide +kernel
theorem dX9_isUnder_16 : decode cX9_isUnder 16 = .ok (.iaload, 1) := by decide +kernel
theorem dX9_isUnder_17 : decode cX9_isUnder 17 = .ok (.istore_n 3, 1) := by decide +kernel
theorem dX9_isUnder_18 : decode cX9_isUnder 18 = .ok (.goto (-16), 3) := by decide +kernel
theorem dX9_isUnder_21 : decode cX9_isUnder 21 = .ok (.iload_n 3, 1) := by decide +kernel
theorem dX9_isUnder_22 : decode cX9_isUnder 22 = .ok (.iload_n 2, 1) := by decide +kernel
theorem dX9_isUnder_23 : decode cX9_isUnder 23 = .ok (.if_icmp .ne 7, 3) := by decide +kernel
theorem dX9_isUnder_26 : decode cX9_isUnder 26 = .ok (.iconst 1, 1) := by decide +kernel
theorem dX9_isUnder_27 : decode cX9_isUnder 27 = .ok (.goto 4, 3) := by decide +kernel
theorem dX9_isUnder_30 : decode cX9_isUnder 30 = .ok (.iconst 0, 1) := by decide +kernel
theorem dX9_isUnder_31 : decode cX9_isUnder 31 = .ok (.ireturn, 1) := by decide +kernel
theorem dX9_kind_0 : decode cX9_kind 0 = .ok (.iload_n 1, 1) := by decide +kernel
theorem dX9_kind_1 : decode cX9_kind 1 = .ok (.iconst (-1), 1) := by decide +kernel
theorem dX9_kind_2 : decode cX9_kind 2 = .ok (.if_icmp .eq 13, 3) := by decide +kernel
theorem dX9_kind_5 : decode cX9_kind 5 = .ok (.aload_n 0, 1) := by decide +kernel
theorem dX9_kind_6 : decode cX9_kind 6 = .ok (.iload_n 1, 1) := by decide +kernel
theorem dX9_kind_7 : decode cX9_kind 7 = .ok (.invokevirtual 97, 3) := by decide +kernel
theorem dX9_kind_10 : decode cX9_kind 10 = .ok (.ifCond .ne 5, 3) := by decide +kernel
theorem dX9_kind_13 : decode cX9_kind 13 = .ok (.iconst (-1), 1) := by decide +kernel
theorem dX9_kind_14 : decode cX9_kind 14 = .ok (.ireturn, 1) := by decide +kernel
theorem dX9_kind_15 : decode cX9_kind 15 = .ok (.aload_n 0, 1) := by decide +kernel
theorem dX9_kind_16 : decode cX9_kind 16 = .ok (.getfield 90, 3) := by decide +kernel
theorem dX9_kind_19 : decode cX9_kind 19 = .ok (.bipush 32, 2) := by decide +kernel
theorem dX9_kind_21 : decode cX9_kind 21 = .ok (.if_icmp .ne 6, 3) := by decide +kernel
theorem dX9_kind_24 : decode cX9_kind 24 = .ok (.bipush (-2), 2) := by decide +kernel
theorem dX9_kind_26 : decode cX9_kind 26 = .ok (.ireturn, 1) := by decide +kernel
theorem dX9_kind_27 : decode cX9_kind 27 = .ok (.aload_n 0, 1) := by decide +kernel
theorem dX9_kind_28 : decode cX9_kind 28 = .ok (.getfield 90, 3) := by decide +kernel
theorem dX9_kind_31 : decode cX9_kind 31 = .ok (.istore_n 2, 1) := by decide +kernel
theorem dX9_kind_32 : decode cX9_kind 32 = .ok (.aload_n 0, 1) := by decide +kernel
theorem dX9_kind_33 : decode cX9_kind 33 = .ok (.getfield 9, 3) := by decide +kernel
theorem dX9_kind_36 : decode cX9_kind 36 = .ok (.iload_n 2, 1) := by decide +kernel
theorem dX9_kind_37 : decode cX9_kind 37 = .ok (.iload_n 1, 1) := by decide +kernel
theorem dX9_kind_38 : decode cX9_kind 38 = .ok (.iastore, 1) := by decide +kernel
theorem dX9_kind_39 : decode cX9_kind 39 = .ok (.aload_n 0, 1) := by decide +kernel
theorem dX9_kind_40 : decode cX9_kind 40 = .ok (.getfield 17, 3) := by decide +kernel
theorem dX9_kind_43 : decode cX9_kind 43 = .ok (.iload_n 2, 1) := by decide +kernel
theorem dX9_kind_44 : decode cX9_kind 44 = .ok (.iload_n 1, 1) := by decide +kernel
theorem dX9_kind_45 : decode cX9_kind 45 = .ok (.ifCond .ge 7, 3) := by decide +kernel
theorem dX9_kind_48 : decode cX9_kind 48 = .ok (.iconst 0, 1) := by decide +kernel
theorem dX9_kind_49 : decode cX9_kind 49 = .ok (.goto 9, 3) := by decide +kernel
theorem dX9_kind_52 : decode cX9_kind 52 = .ok (.aload_n 0, 1) := by decide +kernel
theorem dX9_kind_53 : decode cX9_kind 53 = .ok (.getfield 17, 3) := by decide +kernel
theorem dX9_kind_56 : decode cX9_kind 56 = .ok (.iload_n 1, 1) := by decide +kernel
theorem dX9_kind_57 : decode cX9_kind 57 = .ok (.iaload, 1) := by decide +kernel
theorem dX9_kind_58 : decode cX9_kind 58 = .ok (.iastore, 1) := by decide +kernel
theorem dX9_kind_59 : decode cX9_kind 59 = .ok (.iconst 0, 1) := by decide +kernel
theorem dX9_kind_60 : decode cX9_kind 60 = .ok (.istore_n 3, 1) := by decide +kernel
theorem dX9_kind_61 : decode cX9_kind 61 = .ok (.iload_n 3, 1) := by decide +kernel
theorem dX9_kind_62 : decode cX9_kind 62 = .ok (.aload_n 0, 1) := by decide +kernel
theorem dX9_kind_63 : decode cX9_kind 63 = .ok (.getfield 17, 3) := by decide +kernel
theorem dX9_kind_66 : decode cX9_kind 66 = .ok (.iload_n 2, 1) := by decide +kernel
theorem dX9_kind_67 : decode cX9_kind 67 = .ok (.iaload, 1) := by decide +kernel
theorem dX9_kind_68 : decode cX9_kind 68 = .ok (.if_icmp .ge 31, 3) := by decide +kernel
theorem dX9_kind_71 : decode cX9_kind 71 = .ok (.aload_n 0, 1) := by decide +kernel
theorem dX9_kind_72 : decode cX9_kind 72 = .ok (.getfield 20, 3) := by decide +kernel
theorem dX9_kind_75 : decode cX9_kind 75 = .ok (.bipush 15, 2) := by decide +kernel
theorem dX9_kind_77 : decode cX9_kind 77 = .ok (.iload_n 2, 1) := by decide +kernel
theorem dX9_kind_78 : decode cX9_kind 78 = .ok (.imul, 1) := by decide +kernel
theorem dX9_kind_79 : decode cX9_kind 79 = .ok (.iload_n 3, 1) := by decide +kernel
theorem dX9_kind_80 : decode cX9_kind 80 = .ok (.iadd, 1) := by decide +kernel
theorem dX9_kind_81 : decode cX9_kind 81 = .ok (.aload_n 0, 1) := by decide +kernel
theorem dX9_kind_82 : decode cX9_kind 82 = .ok (.getfield 20, 3) := by decide +kernel
theorem dX9_kind_85 : decode cX9_kind 85 = .ok (.bipush 15, 2) := by decide +kernel
theorem dX9_kind_87 : decode cX9_kind 87 = .ok (.iload_n 1, 1) := by decide +kernel
theorem dX9_kind_88 : decode cX9_kind 88 = .ok (.imul, 1) := by decide +kernel
theorem dX9_kind_89 : decode cX9_kind 89 = .ok (.iload_n 3, 1) := by decide +kernel
theorem dX9_kind_90 : decode cX9_kind 90 = .ok (.iadd, 1) := by decide +kernel
theorem dX9_kind_91 : decode cX9_kind 91 = .ok (.iaload, 1) := by decide +kernel
theorem dX9_kind_92 : decode cX9_kind 92 = .ok (.iastore, 1) := by decide +kernel
theorem dX9_kind_93 : decode cX9_kind 93 = .ok (.iinc 3 1, 3) := by decide +kernel
theorem dX9_kind_96 : decode cX9_kind 96 = .ok (.goto (-35), 3) := by decide +kernel
theorem dX9_kind_99 : decode cX9_kind 99 = .ok (.iconst 0, 1) := by decide +kernel
theorem dX9_kind_100 : decode cX9_kind 100 = .ok (.istore_n 3, 1) := by decide +kernel
theorem dX9_kind_101 : decode cX9_kind 101 = .ok (.iload_n 3, 1) := by decide +kernel
theorem dX9_kind_102 : decode cX9_kind 102 = .ok (.bipush 16, 2) := by decide +kernel
theorem dX9_kind_104 : decode cX9_kind 104 = .ok (.if_icmp .ge 39, 3) := by decide +kernel
theorem dX9_kind_107 : decode cX9_kind 107 = .ok (.aload_n 0, 1) := by decide +kernel
theorem dX9_kind_108 : decode cX9_kind 108 = .ok (.getfield 23, 3) := by decide +kernel
theorem dX9_kind_111 : decode cX9_kind 111 = .ok (.bipush 16, 2) := by decide +kernel
theorem dX9_kind_113 : decode cX9_kind 113 = .ok (.iload_n 2, 1) := by decide +kernel
theorem dX9_kind_114 : decode cX9_kind 114 = .ok (.imul, 1) := by decide +kernel
