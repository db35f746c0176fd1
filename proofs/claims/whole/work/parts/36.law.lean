theorem d_law_0 : decode code 0 = .ok (.new 8, 3) := by decide +kernel
theorem d_law_3 : decode code 3 = .ok (.dup, 1) := by decide +kernel
theorem d_law_4 : decode code 4 = .ok (.invokespecial 25, 3) := by decide +kernel
theorem d_law_7 : decode code 7 = .ok (.astore_n 1, 1) := by decide +kernel
theorem d_law_8 : decode code 8 = .ok (.new 26, 3) := by decide +kernel
theorem d_law_11 : decode code 11 = .ok (.dup, 1) := by decide +kernel
theorem d_law_12 : decode code 12 = .ok (.invokespecial 28, 3) := by decide +kernel
theorem d_law_15 : decode code 15 = .ok (.astore_n 2, 1) := by decide +kernel
theorem d_law_16 : decode code 16 = .ok (.iconst 1, 1) := by decide +kernel
theorem d_law_17 : decode code 17 = .ok (.newarray .long, 2) := by decide +kernel
theorem d_law_19 : decode code 19 = .ok (.astore_n 3, 1) := by decide +kernel
theorem d_law_20 : decode code 20 = .ok (.iconst 0, 1) := by decide +kernel
theorem d_law_21 : decode code 21 = .ok (.istore 4, 2) := by decide +kernel
theorem d_law_23 : decode code 23 = .ok (.iload 4, 2) := by decide +kernel
theorem d_law_25 : decode code 25 = .ok (.aload_n 0, 1) := by decide +kernel
theorem d_law_26 : decode code 26 = .ok (.arraylength, 1) := by decide +kernel
theorem d_law_27 : decode code 27 = .ok (.bipush 6, 2) := by decide +kernel
theorem d_law_29 : decode code 29 = .ok (.isub, 1) := by decide +kernel
theorem d_law_30 : decode code 30 = .ok (.if_icmp .gt 306, 3) := by decide +kernel
theorem d_law_33 : decode code 33 = .ok (.aload_n 0, 1) := by decide +kernel
theorem d_law_34 : decode code 34 = .ok (.iload 4, 2) := by decide +kernel
theorem d_law_36 : decode code 36 = .ok (.iaload, 1) := by decide +kernel
theorem d_law_37 : decode code 37 = .ok (.bipush 7, 2) := by decide +kernel
theorem d_law_39 : decode code 39 = .ok (.iand, 1) := by decide +kernel
theorem d_law_40 : decode code 40 = .ok (.tableswitch 290 0 4 #[36, 140, 196, 209, 277], 36) := by decide +kernel
theorem d_law_76 : decode code 76 = .ok (.aload_n 1, 1) := by decide +kernel
theorem d_law_77 : decode code 77 = .ok (.aload_n 0, 1) := by decide +kernel
theorem d_law_78 : decode code 78 = .ok (.iload 4, 2) := by decide +kernel
theorem d_law_80 : decode code 80 = .ok (.iconst 1, 1) := by decide +kernel
theorem d_law_81 : decode code 81 = .ok (.iadd, 1) := by decide +kernel
theorem d_law_82 : decode code 82 = .ok (.iaload, 1) := by decide +kernel
theorem d_law_83 : decode code 83 = .ok (.aload_n 0, 1) := by decide +kernel
theorem d_law_84 : decode code 84 = .ok (.iload 4, 2) := by decide +kernel
theorem d_law_86 : decode code 86 = .ok (.iconst 2, 1) := by decide +kernel
theorem d_law_87 : decode code 87 = .ok (.iadd, 1) := by decide +kernel
theorem d_law_88 : decode code 88 = .ok (.iaload, 1) := by decide +kernel
theorem d_law_89 : decode code 89 = .ok (.aload_n 0, 1) := by decide +kernel
theorem d_law_90 : decode code 90 = .ok (.iload 4, 2) := by decide +kernel
theorem d_law_92 : decode code 92 = .ok (.iconst 3, 1) := by decide +kernel
theorem d_law_93 : decode code 93 = .ok (.iadd, 1) := by decide +kernel
theorem d_law_94 : decode code 94 = .ok (.iaload, 1) := by decide +kernel
theorem d_law_95 : decode code 95 = .ok (.aload_n 0, 1) := by decide +kernel
theorem d_law_96 : decode code 96 = .ok (.iload 4, 2) := by decide +kernel
theorem d_law_98 : decode code 98 = .ok (.iconst 4, 1) := by decide +kernel
theorem d_law_99 : decode code 99 = .ok (.iadd, 1) := by decide +kernel
theorem d_law_100 : decode code 100 = .ok (.iaload, 1) := by decide +kernel
theorem d_law_101 : decode code 101 = .ok (.aload_n 0, 1) := by decide +kernel
theorem d_law_102 : decode code 102 = .ok (.iload 4, 2) := by decide +kernel
theorem d_law_104 : decode code 104 = .ok (.iconst 5, 1) := by decide +kernel
theorem d_law_105 : decode code 105 = .ok (.iadd, 1) := by decide +kernel
theorem d_law_106 : decode code 106 = .ok (.iaload, 1) := by decide +kernel
theorem d_law_107 : decode code 107 = .ok (.aload_n 3, 1) := by decide +kernel
theorem d_law_108 : decode code 108 = .ok (.invokestatic 29, 3) := by decide +kernel
theorem d_law_111 : decode code 111 = .ok (.istore 5, 2) := by decide +kernel
theorem d_law_113 : decode code 113 = .ok (.aload_n 2, 1) := by decide +kernel
theorem d_law_114 : decode code 114 = .ok (.aload_n 0, 1) := by decide +kernel
theorem d_law_115 : decode code 115 = .ok (.iload 4, 2) := by decide +kernel
theorem d_law_117 : decode code 117 = .ok (.iconst 1, 1) := by decide +kernel
theorem d_law_118 : decode code 118 = .ok (.iadd, 1) := by decide +kernel
theorem d_law_119 : decode code 119 = .ok (.iaload, 1) := by decide +kernel
theorem d_law_120 : decode code 120 = .ok (.aload_n 0, 1) := by decide +kernel
theorem d_law_121 : decode code 121 = .ok (.iload 4, 2) := by decide +kernel
theorem d_law_123 : decode code 123 = .ok (.iconst 2, 1) := by decide +kernel
theorem d_law_124 : decode code 124 = .ok (.iadd, 1) := by decide +kernel
theorem d_law_125 : decode code 125 = .ok (.iaload, 1) := by decide +kernel
theorem d_law_126 : decode code 126 = .ok (.aload_n 0, 1) := by decide +kernel
theorem d_law_127 : decode code 127 = .ok (.iload 4, 2) := by decide +kernel
theorem d_law_129 : decode code 129 = .ok (.iconst 3, 1) := by decide +kernel
theorem d_law_130 : decode code 130 = .ok (.iadd, 1) := by decide +kernel
theorem d_law_131 : decode code 131 = .ok (.iaload, 1) := by decide +kernel
theorem d_law_132 : decode code 132 = .ok (.aload_n 0, 1) := by decide +kernel
theorem d_law_133 : decode code 133 = .ok (.iload 4, 2) := by decide +kernel
theorem d_law_135 : decode code 135 = .ok (.iconst 4, 1) := by decide +kernel
theorem d_law_136 : decode code 136 = .ok (.iadd, 1) := by decide +kernel
theorem d_law_137 : decode code 137 = .ok (.iaload, 1) := by decide +kernel
theorem d_law_138 : decode code 138 = .ok (.aload_n 0, 1) := by decide +kernel
theorem d_law_139 : decode code 139 = .ok (.iload 4, 2) := by decide +kernel
theorem d_law_141 : decode code 141 = .ok (.iconst 5, 1) := by decide +kernel
theorem d_law_142 : decode code 142 = .ok (.iadd, 1) := by decide +kernel
theorem d_law_143 : decode code 143 = .ok (.iaload, 1) := by decide +kernel
theorem d_law_144 : decode code 144 = .ok (.invokevirtual 34, 3) := by decide +kernel
theorem d_law_147 : decode code 147 = .ok (.istore 6, 2) := by decide +kernel
theorem d_law_149 : decode code 149 = .ok (.aload_n 2, 1) := by decide +kernel
theorem d_law_150 : decode code 150 = .ok (.invokevirtual 35, 3) := by decide +kernel
theorem d_law_153 : decode code 153 = .ok (.iload 5, 2) := by decide +kernel
theorem d_law_155 : decode code 155 = .ok (.if_icmp .eq 5, 3) := by decide +kernel
theorem d_law_158 : decode code 158 = .ok (.iconst 0, 1) := by decide +kernel
theorem d_law_159 : decode code 159 = .ok (.ireturn, 1) := by decide +kernel
theorem d_law_160 : decode code 160 = .ok (.iload 5, 2) := by decide +kernel
theorem d_law_162 : decode code 162 = .ok (.ifCond .ne 15, 3) := by decide +kernel
theorem d_law_165 : decode code 165 = .ok (.aload_n 3, 1) := by decide +kernel
theorem d_law_166 : decode code 166 = .ok (.iconst 0, 1) := by decide +kernel
theorem d_law_167 : decode code 167 = .ok (.laload, 1) := by decide +kernel
theorem d_law_168 : decode code 168 = .ok (.iload 6, 2) := by decide +kernel
theorem d_law_170 : decode code 170 = .ok (.i2l, 1) := by decide +kernel
theorem d_law_171 : decode code 171 = .ok (.lcmp, 1) := by decide +kernel
theorem d_law_172 : decode code 172 = .ok (.ifCond .eq 5, 3) := by decide +kernel
theorem d_law_175 : decode code 175 = .ok (.iconst 0, 1) := by decide +kernel
theorem d_law_176 : decode code 176 = .ok (.ireturn, 1) := by decide +kernel
theorem d_law_177 : decode code 177 = .ok (.goto 153, 3) := by decide +kernel
theorem d_law_180 : decode code 180 = .ok (.aload_n 1, 1) := by decide +kernel
theorem d_law_181 : decode code 181 = .ok (.aload_n 0, 1) := by decide +kernel
theorem d_law_182 : decode code 182 = .ok (.iload 4, 2) := by decide +kernel
theorem d_law_184 : decode code 184 = .ok (.iconst 1, 1) := by decide +kernel
theorem d_law_185 : decode code 185 = .ok (.iadd, 1) := by decide +kernel
theorem d_law_186 : decode code 186 = .ok (.iaload, 1) := by decide +kernel
theorem d_law_187 : decode code 187 = .ok (.aload_n 3, 1) := by decide +kernel
theorem d_law_188 : decode code 188 = .ok (.invokestatic 39, 3) := by decide +kernel
theorem d_law_191 : decode code 191 = .ok (.istore 5, 2) := by decide +kernel
theorem d_law_193 : decode code 193 = .ok (.aload_n 2, 1) := by decide +kernel
theorem d_law_194 : decode code 194 = .ok (.aload_n 0, 1) := by decide +kernel
theorem d_law_195 : decode code 195 = .ok (.iload 4, 2) := by decide +kernel
theorem d_law_197 : decode code 197 = .ok (.iconst 1, 1) := by decide +kernel
theorem d_law_198 : decode code 198 = .ok (.iadd, 1) := by decide +kernel
theorem d_law_199 : decode code 199 = .ok (.iaload, 1) := by decide +kernel
theorem d_law_200 : decode code 200 = .ok (.invokevirtual 42, 3) := by decide +kernel
theorem d_law_203 : decode code 203 = .ok (.istore 6, 2) := by decide +kernel
theorem d_law_205 : decode code 205 = .ok (.aload_n 2, 1) := by decide +kernel
theorem d_law_206 : decode code 206 = .ok (.invokevirtual 35, 3) := by decide +kernel
theorem d_law_209 : decode code 209 = .ok (.iload 5, 2) := by decide +kernel
theorem d_law_211 : decode code 211 = .ok (.if_icmp .eq 5, 3) := by decide +kernel
theorem d_law_214 : decode code 214 = .ok (.iconst 0, 1) := by decide +kernel
theorem d_law_215 : decode code 215 = .ok (.ireturn, 1) := by decide +kernel
theorem d_law_216 : decode code 216 = .ok (.iload 5, 2) := by decide +kernel
theorem d_law_218 : decode code 218 = .ok (.ifCond .ne 15, 3) := by decide +kernel
theorem d_law_221 : decode code 221 = .ok (.aload_n 3, 1) := by decide +kernel
theorem d_law_222 : decode code 222 = .ok (.iconst 0, 1) := by decide +kernel
theorem d_law_223 : decode code 223 = .ok (.laload, 1) := by decide +kernel
theorem d_law_224 : decode code 224 = .ok (.iload 6, 2) := by decide +kernel
theorem d_law_226 : decode code 226 = .ok (.i2l, 1) := by decide +kernel
theorem d_law_227 : decode code 227 = .ok (.lcmp, 1) := by decide +kernel
theorem d_law_228 : decode code 228 = .ok (.ifCond .eq 5, 3) := by decide +kernel
theorem d_law_231 : decode code 231 = .ok (.iconst 0, 1) := by decide +kernel
theorem d_law_232 : decode code 232 = .ok (.ireturn, 1) := by decide +kernel
theorem d_law_233 : decode code 233 = .ok (.goto 97, 3) := by decide +kernel
theorem d_law_236 : decode code 236 = .ok (.aload_n 1, 1) := by decide +kernel
theorem d_law_237 : decode code 237 = .ok (.invokevirtual 43, 3) := by decide +kernel
theorem d_law_240 : decode code 240 = .ok (.aload_n 2, 1) := by decide +kernel
theorem d_law_241 : decode code 241 = .ok (.invokevirtual 46, 3) := by decide +kernel
theorem d_law_244 : decode code 244 = .ok (.if_icmp .eq 86, 3) := by decide +kernel
theorem d_law_247 : decode code 247 = .ok (.iconst 0, 1) := by decide +kernel
theorem d_law_248 : decode code 248 = .ok (.ireturn, 1) := by decide +kernel
theorem d_law_249 : decode code 249 = .ok (.aload_n 1, 1) := by decide +kernel
theorem d_law_250 : decode code 250 = .ok (.aload_n 0, 1) := by decide +kernel
theorem d_law_251 : decode code 251 = .ok (.iload 4, 2) := by decide +kernel
theorem d_law_253 : decode code 253 = .ok (.iconst 1, 1) := by decide +kernel
theorem d_law_254 : decode code 254 = .ok (.iadd, 1) := by decide +kernel
theorem d_law_255 : decode code 255 = .ok (.iaload, 1) := by decide +kernel
theorem d_law_256 : decode code 256 = .ok (.aload_n 0, 1) := by decide +kernel
theorem d_law_257 : decode code 257 = .ok (.iload 4, 2) := by decide +kernel
theorem d_law_259 : decode code 259 = .ok (.iconst 2, 1) := by decide +kernel
theorem d_law_260 : decode code 260 = .ok (.iadd, 1) := by decide +kernel
theorem d_law_261 : decode code 261 = .ok (.iaload, 1) := by decide +kernel
theorem d_law_262 : decode code 262 = .ok (.aload_n 3, 1) := by decide +kernel
theorem d_law_263 : decode code 263 = .ok (.invokestatic 47, 3) := by decide +kernel
theorem d_law_266 : decode code 266 = .ok (.istore 5, 2) := by decide +kernel
theorem d_law_268 : decode code 268 = .ok (.aload_n 2, 1) := by decide +kernel
theorem d_law_269 : decode code 269 = .ok (.aload_n 0, 1) := by decide +kernel
theorem d_law_270 : decode code 270 = .ok (.iload 4, 2) := by decide +kernel
theorem d_law_272 : decode code 272 = .ok (.iconst 1, 1) := by decide +kernel
theorem d_law_273 : decode code 273 = .ok (.iadd, 1) := by decide +kernel
theorem d_law_274 : decode code 274 = .ok (.iaload, 1) := by decide +kernel
theorem d_law_275 : decode code 275 = .ok (.aload_n 0, 1) := by decide +kernel
theorem d_law_276 : decode code 276 = .ok (.iload 4, 2) := by decide +kernel
theorem d_law_278 : decode code 278 = .ok (.iconst 2, 1) := by decide +kernel
theorem d_law_279 : decode code 279 = .ok (.iadd, 1) := by decide +kernel
theorem d_law_280 : decode code 280 = .ok (.iaload, 1) := by decide +kernel
theorem d_law_281 : decode code 281 = .ok (.invokevirtual 50, 3) := by decide +kernel
theorem d_law_284 : decode code 284 = .ok (.istore 6, 2) := by decide +kernel
theorem d_law_286 : decode code 286 = .ok (.aload_n 2, 1) := by decide +kernel
theorem d_law_287 : decode code 287 = .ok (.invokevirtual 35, 3) := by decide +kernel
theorem d_law_290 : decode code 290 = .ok (.iload 5, 2) := by decide +kernel
theorem d_law_292 : decode code 292 = .ok (.if_icmp .eq 5, 3) := by decide +kernel
theorem d_law_295 : decode code 295 = .ok (.iconst 0, 1) := by decide +kernel
theorem d_law_296 : decode code 296 = .ok (.ireturn, 1) := by decide +kernel
theorem d_law_297 : decode code 297 = .ok (.iload 5, 2) := by decide +kernel
theorem d_law_299 : decode code 299 = .ok (.ifCond .ne 15, 3) := by decide +kernel
theorem d_law_302 : decode code 302 = .ok (.aload_n 3, 1) := by decide +kernel
theorem d_law_303 : decode code 303 = .ok (.iconst 0, 1) := by decide +kernel
theorem d_law_304 : decode code 304 = .ok (.laload, 1) := by decide +kernel
theorem d_law_305 : decode code 305 = .ok (.iload 6, 2) := by decide +kernel
theorem d_law_307 : decode code 307 = .ok (.i2l, 1) := by decide +kernel
theorem d_law_308 : decode code 308 = .ok (.lcmp, 1) := by decide +kernel
theorem d_law_309 : decode code 309 = .ok (.ifCond .eq 5, 3) := by decide +kernel
theorem d_law_312 : decode code 312 = .ok (.iconst 0, 1) := by decide +kernel
theorem d_law_313 : decode code 313 = .ok (.ireturn, 1) := by decide +kernel
theorem d_law_314 : decode code 314 = .ok (.goto 16, 3) := by decide +kernel
theorem d_law_317 : decode code 317 = .ok (.aload_n 1, 1) := by decide +kernel
theorem d_law_318 : decode code 318 = .ok (.invokevirtual 51, 3) := by decide +kernel
theorem d_law_321 : decode code 321 = .ok (.aload_n 2, 1) := by decide +kernel
theorem d_law_322 : decode code 322 = .ok (.invokevirtual 54, 3) := by decide +kernel
theorem d_law_325 : decode code 325 = .ok (.if_icmp .eq 5, 3) := by decide +kernel
theorem d_law_328 : decode code 328 = .ok (.iconst 0, 1) := by decide +kernel
theorem d_law_329 : decode code 329 = .ok (.ireturn, 1) := by decide +kernel
theorem d_law_330 : decode code 330 = .ok (.iinc 4 6, 3) := by decide +kernel
theorem d_law_333 : decode code 333 = .ok (.goto (-310), 3) := by decide +kernel
theorem d_law_336 : decode code 336 = .ok (.iconst 1, 1) := by decide +kernel
theorem d_law_337 : decode code 337 = .ok (.ireturn, 1) := by decide +kernel
/-! the law: one turn of its loop, in words of the two states -/
def stFeed (REL : KS → MS → Prop) (σ : KS) (o : Nat → Int64) (τ : MS) (a1 a2 a3 a4 a5 : Int32) : Prop :=
  wp_Law_feed a1 a2 a3 a4 a5 (σ, o) (fun k u => wp_Mod_feed a1 a2 a3 a4 a5 τ (fun b τ1 => wp_Mod_thrown τ1 (fun e τ2 => e = k ∧ (k = 0 → u.2 0 = b.toInt64) ∧ REL u.1 τ2)))
def stScan (REL : KS → MS → Prop) (σ : KS) (o : Nat → Int64) (τ : MS) (a1 : Int32) : Prop :=
  wp_Law_scan a1 (σ, o) (fun k u => wp_Mod_scan a1 τ (fun b τ1 => wp_Mod_thrown τ1 (fun e τ2 => e = k ∧ (k = 0 → u.2 0 = b.toInt64) ∧ REL u.1 τ2)))
def stToken (REL : KS → MS → Prop) (σ : KS) (o : Nat → Int64) (τ : MS) (a1 a2 : Int32) : Prop :=
  wp_Law_token a1 a2 (σ, o) (fun k u => wp_Mod_tokenAt a1 a2 τ (fun b τ1 => wp_Mod_thrown τ1 (fun e τ2 => e = k ∧ (k = 0 → u.2 0 = b.toInt64) ∧ REL u.1 τ2)))
def stWrong (REL : KS → MS → Prop) (σ : KS) (τ : MS) : Prop := wp_Desk_wrong σ (fun r σ1 => wp_Mod_wrong τ (fun b τ1 => r = b ∧ REL σ1 τ1))
def stMany (REL : KS → MS → Prop) (σ : KS) (τ : MS) : Prop := wp_Desk_many σ (fun r σ1 => wp_Mod_many τ (fun b τ1 => r = b ∧ REL σ1 τ1))
/-- what the two programs owe each other -/
def stAll (REL : KS → MS → Prop) : Prop := (∀ σ o τ, REL σ τ → ∀ a1 a2 a3 a4 a5, stFeed REL σ o τ a1 a2 a3 a4 a5) ∧ (∀ σ o τ, REL σ τ → ∀ a1, stScan REL σ o τ a1) ∧ (∀ σ o τ, REL σ τ → ∀ a1 a2, stToken REL σ o τ a1 a2) ∧ (∀ σ τ, REL σ τ → stWrong REL σ τ) ∧ (∀ σ τ, REL σ τ → stMany REL σ τ)
def aW (ad bd : Nat → Nat) (ty : Nat → ClassId) (cd : Nat → Nat → Nat) (σ : KS) (o : Nat → Int64) (τ : MS) : va_W := mW bd ty cd τ ++ lW ad ty (σ, o)
theorem lg_same (x : Int64) : lg_cmp x x = 0 := by unfold lg_cmp; simp
section GFS
variable {S : Type} {p : Program} {l : Launch} {e : Env} {R : Room} {s : State} {m : MethodId} {args : Array Value} {below : List Frame} {meth : Method} {c : Code} {H : Heap} {locs : List Loc} {cells slots : Nat} {Q : State → Prop}
variable {D : va_G} {cl : List vw_C} {tys : List (ClassId × FieldType)} {Wd : S → va_W} {Cx : (Nat → Prop) → State → Prop} {σ : S} {A : Nat → Prop} {pc : Nat} {ls : Array Slot} {Wr : va_W}
variable {y : MethodName} {bytes cc : ByteArray} {maxL nL n index : Nat} {ret : Option FieldType} {hh : List (Nat × Nat × Nat × Nat)} {ws : List Cond} {rm : Room} {Ts : List Cond} {own : String} {As rest st0 : List Value}
theorem g_fcallSW {post : Int32 → S → Prop} (S0 : CallFix p m c cc nL s args Ts own) (hM : g_Metc l y ws rm D cl tys Wd Cx As σ post) (cw : vx_CSW R s args own index y bytes maxL ret hh ws rm 1 6 n)
    (hG : g_Cg Cx) (hK : va_K D cl tys s) (hP : va_P D cl (Wr ++ Wd σ) H) (hD : va_D A (Wr ++ Wd σ)) (hS : va_S A s.heap H locs) (hA : ∀ q : Nat, s.heap.size ≤ q → A q) (hC : Cx A s) (hn : As.length = n) (hsize : ls.size = nL) (hst : st0 = As.reverse ++ rest) (hW : (rest.map fun v => v.category).sum ≤ 8) (hdg : decode cc pc = .ok (.invokestatic index, 3)) (hf : cells + 1 ≤ R.cells ∧ slots + 6 ≤ R.slots)
    (kk : ∀ (r : Int32) (σ1 : S) (H1 : Heap) (locs1 : List Loc), post r σ1 → va_P D cl (Wr ++ Wd σ1) H1 → va_D A (Wr ++ Wd σ1) → va_S A s.heap H1 locs1 → W p l e R s m args below meth c H1 locs1 (cells + 1) (slots + 6) Q (F0 m (pc + 3) ls (.int r :: rest))) : W p l e R s m args below meth c H locs cells slots Q (F0 m pc ls st0) := by
  have hF := g_hF (Wd := Wd) (σ := σ) (g_sufD hD) hS hA
  refine va_calli (vx_runSW (As := As) (rest := rest) S0 (hM H.size) cw ⟨g_blind hG, g_pre hG hK (g_suf hP) (g_sufD hD) hS hA hC⟩ rfl hn hsize hst (lv_room hW) hdg hf) hS (fun q _ h => hF q h) hF (fun r u t H1 locs1 ht hvm hp hB hz hk hS1 => ?_)
  obtain ⟨a1, a2⟩ := g_frame hP hD hk hF (by rw [← ht]; exact hB.1) hB.2
  exact kk r u H1 locs1 hp a1 a2 hS1
end GFS
theorem g_cwSW {R : Room} {s : State} {args : Array Value} {own : String} {index maxL : Nat} {y : MethodName} {bytes : ByteArray} {ret : Option FieldType} {hh : List (Nat × Nat × Nat × Nat)} {rm : Room} (n : Nat) (hts : ∀ w ∈ gW, w.before args s = true) (hl : Cond.methodLink own index y ∈ gW) (hi : Cond.static y ∈ gW) (hini : Cond.initialized y.cls ∈ gW) (hk : Cond.codeWith y bytes maxL ret hh ∈ gW)
    (hd : y.cls ≠ "java/lang/invoke/MethodHandle" ∧ y.cls ≠ "java/lang/invoke/VarHandle" ∧ (parseMethodDescriptor y.desc).map (fun d => d.parameters.length) = some n) (hrc : rm.cells = 1) (hrs : rm.slots = 6) (hR : rm.frames + 1 ≤ R.frames ∧ 8 + (maxL + 11) + rm.locals ≤ R.locals) :
    vx_CSW R s args own index y bytes maxL ret hh (Cond.codeWith y bytes maxL ret hh :: gW) rm 1 6 n := by
  have hG : GoodIn gW (Cond.codeWith y bytes maxL ret hh :: gW) := fun w h => (List.mem_cons.mp h).elim (fun e => by rw [e]; exact ⟨hk, gW_good _ hk⟩) (fun h => ⟨h, gW_good w h⟩)
  refine ⟨⟨hrc, hrs, hR.1, hR.2, pay_in hts hG, List.mem_cons_self⟩, hts _ hk, hts _ hini, ⟨hd.1, hd.2.1⟩, fun sig h => ?_, hts _ hl, hts _ hi⟩
  have h2 := hd.2.2
  rw [h] at h2
  exact (Option.some.inj h2).symm
section LAWL
variable {p : Program} {l : Launch} {e : Env} {s : State} {m : MethodId} {args : Array Value} {below : List Frame} {meth : Method} {c : Code} {Q : State → Prop}
variable {D : va_G} {ad bd : Nat → Nat} {ty : Nat → ClassId} {cd : Nat → Nat → Nat} {A : Nat → Prop} {b L : Nat} {xs : Nat → Int32} {REL : KS → MS → Prop}
set_option maxHeartbeats 16000000 in
set_option maxRecDepth 100000 in
theorem law_loop (htr : l.stackTraces = false) (hx : p.tables.exec = Jvm.exec) (hb : c.code = code) (hml : c.maxLocals = 7) (hown : s.vm.findClass "TokenDeskLaw" = some m.cls) (hts : ∀ w ∈ gW, w.before args s = true) (hX : va_X b L xs s s.heap) (hbl : b < s.heap.size) (hbA : ¬ A b) (hL : L ≤ 3072)
    (hA : ∀ q : Nat, s.heap.size ≤ q → A q) (hK : va_K D vwCl (gT ty) s) (hCx : cX cd A s) (hst : stAll REL)
    (hend : ∀ (t : Nat) (H : Heap) (locs : List Loc) (ls : Array Slot), t ≤ 512 → va_S A s.heap H locs → W p l e room_1 s m args below meth c H locs (18 + t) (46002 + 6 * t) Q (F0 m 336 ls [])) :
    ∀ (f t : Nat) (σ : KS) (o : Nat → Int64) (τ : MS) (H : Heap) (locs : List Loc) (ls : Array Slot), L < 6 * (t + f) + 6 → t ≤ 512 → REL σ τ → va_P D vwCl (aW ad bd ty cd σ o τ) H → va_D A (aW ad bd ty cd σ o τ) → va_S A s.heap H locs → lv_has ls 7 [(0, .ref b), (1, .ref (ad 0)), (2, .ref (bd 0)), (3, .ref (ad 8)), (4, .int (nI (6 * t)))] →
      W p l e room_1 s m args below meth c H locs (18 + t) (46002 + 6 * t) Q (F0 m 23 ls []) := by
  have hRc : room_1.cells = 1047 := rfl
  have hRs : room_1.slots = 54224 := rfl
  intro f
  induction f with
  | zero =>
    intro t σ o τ H locs ls hf ht hrel hP hD hS hl
    refine lv_iload hx hb d_law_23 (lv_at hl 4 rfl) ?_
    refine lv_aload_n hx hb d_law_25 rfl (lv_at hl 0 rfl) ?_
    refine va_slen hx hb hX hbl hbA hS d_law_26 ?_
    refine lv_bipush (v := 6) hx hb d_law_27 (by decide) ?_
    refine lv_isub hx hb d_law_29 ?_
    refine lv_icmp_gt hx hb d_law_30 (tgt := 336) rfl (fun hc => hend t _ _ _ ht hS) (fun hc => absurd ?_ hc)
    show nI L - nI 6 < nI (6 * t)
    rw [Int32.lt_iff_toInt_lt, pk_sub_toInt (by omega) (by decide), nI_toInt (by omega)]
    omega
  | succ f ih =>
    intro t σ o τ H locs ls hf ht hrel hP hD hS hl
    refine lv_iload hx hb d_law_23 (lv_at hl 4 rfl) ?_
    refine lv_aload_n hx hb d_law_25 rfl (lv_at hl 0 rfl) ?_
    refine va_slen hx hb hX hbl hbA hS d_law_26 ?_
    refine lv_bipush (v := 6) hx hb d_law_27 (by decide) ?_
    refine lv_isub hx hb d_law_29 ?_
    refine lv_icmp_gt hx hb d_law_30 (tgt := 336) rfl (fun hc => hend t _ _ _ ht hS) (fun hc => ?_)
    have hin : 6 * t + 6 ≤ L := by
      have h1 : ¬ nI L - nI 6 < nI (6 * t) := hc
      rw [Int32.lt_iff_toInt_lt, pk_sub_toInt (by omega) (by decide), nI_toInt (by omega)] at h1
      omega
    have J330 : ∀ (σ : KS) (o : Nat → Int64) (τ : MS) (H : Heap) (locs : List Loc) (ls : Array Slot), REL σ τ → va_P D vwCl (aW ad bd ty cd σ o τ) H → va_D A (aW ad bd ty cd σ o τ) → va_S A s.heap H locs → lv_has ls 7 [(0, .ref b), (1, .ref (ad 0)), (2, .ref (bd 0)), (3, .ref (ad 8)), (4, .int (nI (6 * t)))] → W p l e room_1 s m args below meth c H locs (18 + (t + 1)) (46002 + 6 * (t + 1)) Q (F0 m 330 ls []) := by
      intro σ o τ H locs ls hrel hP hD hS hl
      refine lv_iinc (v := nI (6 * (t + 1))) hx hb d_law_330 hl (k := 4) rfl (by show nI (6 * t) + nI 6 = _; rw [nI_add]; rfl) (by decide) rfl (fun ls hl => ?_)
      refine lv_goto hx hb d_law_333 (tgt := 23) rfl ?_
      exact ih (t + 1) σ o τ _ _ _ (by omega) (by omega) hrel hP hD hS (lv_sub hl [1, 2, 3, 4, 0] rfl)
    have hv : ∀ k : Nat, k < 6 → vp_in (nI (6 * t) + nI k) L := fun k hk => by rw [nI_add]; exact vp_in_nI (by omega) (by omega)
    have hv0 : vp_in (nI (6 * t)) L := vp_in_nI (by omega) (by omega)
    refine lv_aload_n hx hb d_law_33 rfl (lv_at hl 0 rfl) ?_
    refine lv_iload hx hb d_law_34 (lv_at hl 4 rfl) ?_
    refine va_sld hx hb hX hbl hbA hS hv0 d_law_36 ?_
    refine lv_bipush (v := 7) hx hb d_law_37 (by decide) ?_
    refine lv_iand hx hb d_law_39 ?_
    obtain ⟨j, hj, ej⟩ := pk_andE (xs (nI (6 * t)).toNatClampNeg) (m := 7) 3 (by decide)
    rw [ej]
    clear ej
    have hj8 : j = 0 ∨ j = 1 ∨ j = 2 ∨ j = 3 ∨ j = 4 ∨ j = 5 ∨ j = 6 ∨ j = 7 := by have : j < 8 := hj; omega
    rcases hj8 with rfl | rfl | rfl | rfl | rfl | rfl | rfl | rfl
    · refine lv_tableIn (off := 36) hx hb d_law_40 (by decide) (by decide) (by decide) (tgt := 76) rfl ?_
      have h := hst.1 σ o τ hrel (xs (nI (6 * t) + nI 1).toNatClampNeg) (xs (nI (6 * t) + nI 2).toNatClampNeg) (xs (nI (6 * t) + nI 3).toNatClampNeg) (xs (nI (6 * t) + nI 4).toNatClampNeg) (xs (nI (6 * t) + nI 5).toNatClampNeg)
      unfold stFeed at h
      refine lv_aload_n hx hb d_law_76 rfl (lv_at hl 1 rfl) ?_
      refine lv_aload_n hx hb d_law_77 rfl (lv_at hl 0 rfl) ?_
      refine lv_iload hx hb d_law_78 (lv_at hl 4 rfl) ?_
      refine lv_iconst (v := nI 1) hx hb d_law_80 (by decide) ?_
      refine lv_iadd hx hb d_law_81 ?_
      refine va_sld hx hb hX hbl hbA hS (hv 1 (by decide)) d_law_82 ?_
      refine lv_aload_n hx hb d_law_83 rfl (lv_at hl 0 rfl) ?_
      refine lv_iload hx hb d_law_84 (lv_at hl 4 rfl) ?_
      refine lv_iconst (v := nI 2) hx hb d_law_86 (by decide) ?_
      refine lv_iadd hx hb d_law_87 ?_
      refine va_sld hx hb hX hbl hbA hS (hv 2 (by decide)) d_law_88 ?_
      refine lv_aload_n hx hb d_law_89 rfl (lv_at hl 0 rfl) ?_
      refine lv_iload hx hb d_law_90 (lv_at hl 4 rfl) ?_
      refine lv_iconst (v := nI 3) hx hb d_law_92 (by decide) ?_
      refine lv_iadd hx hb d_law_93 ?_
      refine va_sld hx hb hX hbl hbA hS (hv 3 (by decide)) d_law_94 ?_
      refine lv_aload_n hx hb d_law_95 rfl (lv_at hl 0 rfl) ?_
      refine lv_iload hx hb d_law_96 (lv_at hl 4 rfl) ?_
      refine lv_iconst (v := nI 4) hx hb d_law_98 (by decide) ?_
      refine lv_iadd hx hb d_law_99 ?_
      refine va_sld hx hb hX hbl hbA hS (hv 4 (by decide)) d_law_100 ?_
      refine lv_aload_n hx hb d_law_101 rfl (lv_at hl 0 rfl) ?_
      refine lv_iload hx hb d_law_102 (lv_at hl 4 rfl) ?_
      refine lv_iconst (v := nI 5) hx hb d_law_104 (by decide) ?_
      refine lv_iadd hx hb d_law_105 ?_
      refine va_sld hx hb hX hbl hbA hS (hv 5 (by decide)) d_law_106 ?_
      refine lv_aload_n hx hb d_law_107 rfl (lv_at hl 3 rfl) ?_
      refine g_fcallSW (Wd := lW ad ty) (σ := (σ, o)) (Wr := mW bd ty cd τ) ⟨hx, hb, hml, hown, hts⟩ (c_Law_feed htr h) (g_cwSW 7 hts q_l_Law_29 q_t_Law_feed q_i_TokenDeskLaw q_k_Law_feed (by decide +kernel) rfl rfl ⟨Nat.le_of_ble_eq_true rfl, Nat.le_of_ble_eq_true rfl⟩) cX_g hK hP hD hS hA hCx rfl hl.1 rfl (Nat.le_of_ble_eq_true rfl) d_law_108 ⟨by rw [hRc]; omega, by rw [hRs]; omega⟩ (fun k u H locs h hP hD hS => ?_)
      refine lv_istore hx hb d_law_111 hl (by decide) rfl (fun ls hl => ?_)
      refine lv_aload_n hx hb d_law_113 rfl (lv_at hl 3 rfl) ?_
      refine lv_aload_n hx hb d_law_114 rfl (lv_at hl 1 rfl) ?_
      refine lv_iload hx hb d_law_115 (lv_at hl 5 rfl) ?_
      refine lv_iconst (v := nI 1) hx hb d_law_117 (by decide) ?_
      refine lv_iadd hx hb d_law_118 ?_
      refine va_sld hx hb hX hbl hbA hS (hv 1 (by decide)) d_law_119 ?_
      refine lv_aload_n hx hb d_law_120 rfl (lv_at hl 1 rfl) ?_
      refine lv_iload hx hb d_law_121 (lv_at hl 5 rfl) ?_
      refine lv_iconst (v := nI 2) hx hb d_law_123 (by decide) ?_
      refine lv_iadd hx hb d_law_124 ?_
      refine va_sld hx hb hX hbl hbA hS (hv 2 (by decide)) d_law_125 ?_
      refine lv_aload_n hx hb d_law_126 rfl (lv_at hl 1 rfl) ?_
      refine lv_iload hx hb d_law_127 (lv_at hl 5 rfl) ?_
      refine lv_iconst (v := nI 3) hx hb d_law_129 (by decide) ?_
      refine lv_iadd hx hb d_law_130 ?_
      refine va_sld hx hb hX hbl hbA hS (hv 3 (by decide)) d_law_131 ?_
      refine lv_aload_n hx hb d_law_132 rfl (lv_at hl 1 rfl) ?_
      refine lv_iload hx hb d_law_133 (lv_at hl 5 rfl) ?_
      refine lv_iconst (v := nI 4) hx hb d_law_135 (by decide) ?_
      refine lv_iadd hx hb d_law_136 ?_
      refine va_sld hx hb hX hbl hbA hS (hv 4 (by decide)) d_law_137 ?_
      refine lv_aload_n hx hb d_law_138 rfl (lv_at hl 1 rfl) ?_
      refine lv_iload hx hb d_law_139 (lv_at hl 5 rfl) ?_
      refine lv_iconst (v := nI 5) hx hb d_law_141 (by decide) ?_
      refine lv_iadd hx hb d_law_142 ?_
      refine va_sld hx hb hX hbl hbA hS (hv 5 (by decide)) d_law_143 ?_
      have hP := va_P.swap (a := []) hP
      have hD := va_D.swap (a := []) hD
      refine g_fcallVi (Wd := mW bd ty cd) (σ := τ) (Wr := lW ad ty u) ⟨hx, hb, hml, hown, hts⟩ (c_Mod_feed h) (g_cwV 5 hts q_l_Law_34 q_m_Mod_feed q_s_Mod_feed q_i_TokenDeskModel q_k_Mod_feed (by decide +kernel) rfl rfl ⟨Nat.le_of_ble_eq_true rfl, Nat.le_of_ble_eq_true rfl⟩) (va_recv hK hP (q0 := 9) rfl rfl) cX_g hK hP hD hS hA hCx rfl hl.1 rfl (Nat.le_of_ble_eq_true rfl) d_law_144 ⟨by rw [hRc]; omega, by rw [hRs]; omega⟩ (fun b9 τ1 H locs h hP hD hS => ?_)
      refine lv_istore hx hb d_law_147 hl (by decide) rfl (fun ls hl => ?_)
      refine lv_aload_n hx hb d_law_149 rfl (lv_at hl 4 rfl) ?_
      refine g_fcallVi (Wd := mW bd ty cd) (σ := τ1) (Wr := lW ad ty u) ⟨hx, hb, hml, hown, hts⟩ (c_Mod_thrown h) (g_cwV 0 hts q_l_Law_35 q_m_Mod_thrown q_s_Mod_thrown q_i_TokenDeskModel q_k_Mod_thrown (by decide +kernel) rfl rfl ⟨Nat.le_of_ble_eq_true rfl, Nat.le_of_ble_eq_true rfl⟩) (va_recv hK hP (q0 := 9) rfl rfl) cX_g hK hP hD hS hA hCx rfl hl.1 rfl (Nat.le_of_ble_eq_true rfl) d_law_150 ⟨by rw [hRc]; omega, by rw [hRs]; omega⟩ (fun e9 τ2 H locs h hP hD hS => ?_)
      obtain ⟨he, hk0, hrel⟩ := h
      have hP := va_P.swap (a := []) hP
      have hD := va_D.swap (a := []) hD
      have hP : va_P D vwCl (aW ad bd ty cd u.1 u.2 τ2) H := hP
      have hD : va_D A (aW ad bd ty cd u.1 u.2 τ2) := hD
      refine lv_iload hx hb d_law_153 (lv_at hl 1 rfl) ?_
      refine lv_icmp_eq hx hb d_law_155 (tgt := 160) rfl (fun hc => ?_) (fun hc => absurd he hc)
      refine lv_iload hx hb d_law_160 (lv_at hl 1 rfl) ?_
      refine lv_if_ne hx hb d_law_162 (tgt := 177) rfl (fun hc => ?_) (fun hc => ?_)
      · refine lv_goto hx hb d_law_177 (tgt := 330) rfl ?_
        refine W.widen (k := 18 + (t + 1)) (n := 46002 + 6 * (t + 1)) (by omega) (by omega) ?_
        exact J330 u.1 u.2 τ2 _ _ _ hrel hP hD hS (lv_sub hl [2, 3, 4, 5, 6] rfl)
      · refine lv_aload_n hx hb d_law_165 rfl (lv_at hl 5 rfl) ?_
        refine lv_iconst (v := 0) hx hb d_law_166 (by decide) ?_
        refine va_lald (D := D) hx hb hK hP 9 1 rfl rfl (show vp_in 0 1 from by unfold vp_in; decide) d_law_167 ?_
        refine lv_iload hx hb d_law_168 (lv_at hl 0 rfl) ?_
        refine lv_i2l hx hb d_law_170 rfl ?_
        refine W.lcmp hx hb d_law_171 ?_
        have hz : lg_cmp (u.2 (0 : Int32).toNatClampNeg) b9.toInt64 = 0 := by rw [show (0 : Int32).toNatClampNeg = 0 from rfl, hk0 hc]; exact lg_same _
        refine lv_if_eq hx hb d_law_172 (tgt := 177) rfl (fun hc => ?_) (fun hc => absurd hz hc)
        refine lv_goto hx hb d_law_177 (tgt := 330) rfl ?_
        refine W.widen (k := 18 + (t + 1)) (n := 46002 + 6 * (t + 1)) (by omega) (by omega) ?_
        exact J330 u.1 u.2 τ2 _ _ _ hrel hP hD hS (lv_sub hl [2, 3, 4, 5, 6] rfl)
    · refine lv_tableIn (off := 140) hx hb d_law_40 (by decide) (by decide) (by decide) (tgt := 180) rfl ?_
      have h := hst.2.1 σ o τ hrel (xs (nI (6 * t) + nI 1).toNatClampNeg)
      unfold stScan at h
      refine lv_aload_n hx hb d_law_180 rfl (lv_at hl 1 rfl) ?_
      refine lv_aload_n hx hb d_law_181 rfl (lv_at hl 0 rfl) ?_
      refine lv_iload hx hb d_law_182 (lv_at hl 4 rfl) ?_
      refine lv_iconst (v := nI 1) hx hb d_law_184 (by decide) ?_
      refine lv_iadd hx hb d_law_185 ?_
      refine va_sld hx hb hX hbl hbA hS (hv 1 (by decide)) d_law_186 ?_
      refine lv_aload_n hx hb d_law_187 rfl (lv_at hl 3 rfl) ?_
      refine g_fcallSW (Wd := lW ad ty) (σ := (σ, o)) (Wr := mW bd ty cd τ) ⟨hx, hb, hml, hown, hts⟩ (c_Law_scan htr h) (g_cwSW 3 hts q_l_Law_39 q_t_Law_scan q_i_TokenDeskLaw q_k_Law_scan (by decide +kernel) rfl rfl ⟨Nat.le_of_ble_eq_true rfl, Nat.le_of_ble_eq_true rfl⟩) cX_g hK hP hD hS hA hCx rfl hl.1 rfl (Nat.le_of_ble_eq_true rfl) d_law_188 ⟨by rw [hRc]; omega, by rw [hRs]; omega⟩ (fun k u H locs h hP hD hS => ?_)
      refine lv_istore hx hb d_law_191 hl (by decide) rfl (fun ls hl => ?_)
      refine lv_aload_n hx hb d_law_193 rfl (lv_at hl 3 rfl) ?_
      refine lv_aload_n hx hb d_law_194 rfl (lv_at hl 1 rfl) ?_
      refine lv_iload hx hb d_law_195 (lv_at hl 5 rfl) ?_
      refine lv_iconst (v := nI 1) hx hb d_law_197 (by decide) ?_
      refine lv_iadd hx hb d_law_198 ?_
      refine va_sld hx hb hX hbl hbA hS (hv 1 (by decide)) d_law_199 ?_
      have hP := va_P.swap (a := []) hP
      have hD := va_D.swap (a := []) hD
      refine g_fcallVi (Wd := mW bd ty cd) (σ := τ) (Wr := lW ad ty u) ⟨hx, hb, hml, hown, hts⟩ (c_Mod_scan h) (g_cwV 1 hts q_l_Law_42 q_m_Mod_scan q_s_Mod_scan q_i_TokenDeskModel q_k_Mod_scan (by decide +kernel) rfl rfl ⟨Nat.le_of_ble_eq_true rfl, Nat.le_of_ble_eq_true rfl⟩) (va_recv hK hP (q0 := 9) rfl rfl) cX_g hK hP hD hS hA hCx rfl hl.1 rfl (Nat.le_of_ble_eq_true rfl) d_law_200 ⟨by rw [hRc]; omega, by rw [hRs]; omega⟩ (fun b9 τ1 H locs h hP hD hS => ?_)
      refine lv_istore hx hb d_law_203 hl (by decide) rfl (fun ls hl => ?_)
      refine lv_aload_n hx hb d_law_205 rfl (lv_at hl 4 rfl) ?_
      refine g_fcallVi (Wd := mW bd ty cd) (σ := τ1) (Wr := lW ad ty u) ⟨hx, hb, hml, hown, hts⟩ (c_Mod_thrown h) (g_cwV 0 hts q_l_Law_35 q_m_Mod_thrown q_s_Mod_thrown q_i_TokenDeskModel q_k_Mod_thrown (by decide +kernel) rfl rfl ⟨Nat.le_of_ble_eq_true rfl, Nat.le_of_ble_eq_true rfl⟩) (va_recv hK hP (q0 := 9) rfl rfl) cX_g hK hP hD hS hA hCx rfl hl.1 rfl (Nat.le_of_ble_eq_true rfl) d_law_206 ⟨by rw [hRc]; omega, by rw [hRs]; omega⟩ (fun e9 τ2 H locs h hP hD hS => ?_)
      obtain ⟨he, hk0, hrel⟩ := h
      have hP := va_P.swap (a := []) hP
      have hD := va_D.swap (a := []) hD
      have hP : va_P D vwCl (aW ad bd ty cd u.1 u.2 τ2) H := hP
      have hD : va_D A (aW ad bd ty cd u.1 u.2 τ2) := hD
      refine lv_iload hx hb d_law_209 (lv_at hl 1 rfl) ?_
      refine lv_icmp_eq hx hb d_law_211 (tgt := 216) rfl (fun hc => ?_) (fun hc => absurd he hc)
      refine lv_iload hx hb d_law_216 (lv_at hl 1 rfl) ?_
      refine lv_if_ne hx hb d_law_218 (tgt := 233) rfl (fun hc => ?_) (fun hc => ?_)
      · refine lv_goto hx hb d_law_233 (tgt := 330) rfl ?_
        refine W.widen (k := 18 + (t + 1)) (n := 46002 + 6 * (t + 1)) (by omega) (by omega) ?_
        exact J330 u.1 u.2 τ2 _ _ _ hrel hP hD hS (lv_sub hl [2, 3, 4, 5, 6] rfl)
      · refine lv_aload_n hx hb d_law_221 rfl (lv_at hl 5 rfl) ?_
        refine lv_iconst (v := 0) hx hb d_law_222 (by decide) ?_
        refine va_lald (D := D) hx hb hK hP 9 1 rfl rfl (show vp_in 0 1 from by unfold vp_in; decide) d_law_223 ?_
        refine lv_iload hx hb d_law_224 (lv_at hl 0 rfl) ?_
        refine lv_i2l hx hb d_law_226 rfl ?_
        refine W.lcmp hx hb d_law_227 ?_
        have hz : lg_cmp (u.2 (0 : Int32).toNatClampNeg) b9.toInt64 = 0 := by rw [show (0 : Int32).toNatClampNeg = 0 from rfl, hk0 hc]; exact lg_same _
        refine lv_if_eq hx hb d_law_228 (tgt := 233) rfl (fun hc => ?_) (fun hc => absurd hz hc)
        refine lv_goto hx hb d_law_233 (tgt := 330) rfl ?_
        refine W.widen (k := 18 + (t + 1)) (n := 46002 + 6 * (t + 1)) (by omega) (by omega) ?_
        exact J330 u.1 u.2 τ2 _ _ _ hrel hP hD hS (lv_sub hl [2, 3, 4, 5, 6] rfl)
    · refine lv_tableIn (off := 196) hx hb d_law_40 (by decide) (by decide) (by decide) (tgt := 236) rfl ?_
      have h := hst.2.2.2.1 σ τ hrel
      unfold stWrong at h
      refine lv_aload_n hx hb d_law_236 rfl (lv_at hl 1 rfl) ?_
      have hP : va_P D vwCl ((mW bd ty cd τ ++ [(ad 8, .inl (ty 1, 1, .inr (.inl o)))]) ++ kW ad ty σ) H := hP
      have hD : va_D A ((mW bd ty cd τ ++ [(ad 8, .inl (ty 1, 1, .inr (.inl o)))]) ++ kW ad ty σ) := hD
      refine g_fcallVi (Wd := kW ad ty) (σ := σ) (Wr := mW bd ty cd τ ++ [(ad 8, .inl (ty 1, 1, .inr (.inl o)))]) ⟨hx, hb, hml, hown, hts⟩ (c_Desk_wrong h) (g_cwV 0 hts q_l_Law_43 q_m_Desk_wrong q_s_Desk_wrong q_i_TokenDesk q_k_Desk_wrong (by decide +kernel) rfl rfl ⟨Nat.le_of_ble_eq_true rfl, Nat.le_of_ble_eq_true rfl⟩) (va_recv hK hP (q0 := 10) rfl rfl) cX_g hK hP hD hS hA hCx rfl hl.1 rfl (Nat.le_of_ble_eq_true rfl) d_law_237 ⟨by rw [hRc]; omega, by rw [hRs]; omega⟩ (fun r σ1 H locs h hP hD hS => ?_)
      have hP : va_P D vwCl (mW bd ty cd τ ++ lW ad ty (σ1, o)) H := hP
      have hD : va_D A (mW bd ty cd τ ++ lW ad ty (σ1, o)) := hD
      have hP := va_P.swap (a := []) hP
      have hD := va_D.swap (a := []) hD
      refine lv_aload_n hx hb d_law_240 rfl (lv_at hl 2 rfl) ?_
      refine g_fcallVi (Wd := mW bd ty cd) (σ := τ) (Wr := lW ad ty (σ1, o)) ⟨hx, hb, hml, hown, hts⟩ (c_Mod_wrong h) (g_cwV 0 hts q_l_Law_46 q_m_Mod_wrong q_s_Mod_wrong q_i_TokenDeskModel q_k_Mod_wrong (by decide +kernel) rfl rfl ⟨Nat.le_of_ble_eq_true rfl, Nat.le_of_ble_eq_true rfl⟩) (va_recv hK hP (q0 := 9) rfl rfl) cX_g hK hP hD hS hA hCx rfl hl.1 rfl (Nat.le_of_ble_eq_true rfl) d_law_241 ⟨by rw [hRc]; omega, by rw [hRs]; omega⟩ (fun b9 τ1 H locs h hP hD hS => ?_)
      obtain ⟨he, hrel⟩ := h
      have hP := va_P.swap (a := []) hP
      have hD := va_D.swap (a := []) hD
      refine lv_icmp_eq hx hb d_law_244 (tgt := 330) rfl (fun hc => ?_) (fun hc => absurd he hc)
      refine W.widen (k := 18 + (t + 1)) (n := 46002 + 6 * (t + 1)) (by omega) (by omega) ?_
      exact J330 σ1 o τ1 _ _ _ hrel hP hD hS hl
    · refine lv_tableIn (off := 209) hx hb d_law_40 (by decide) (by decide) (by decide) (tgt := 249) rfl ?_
      have h := hst.2.2.1 σ o τ hrel (xs (nI (6 * t) + nI 1).toNatClampNeg) (xs (nI (6 * t) + nI 2).toNatClampNeg)
      unfold stToken at h
      refine lv_aload_n hx hb d_law_249 rfl (lv_at hl 1 rfl) ?_
      refine lv_aload_n hx hb d_law_250 rfl (lv_at hl 0 rfl) ?_
      refine lv_iload hx hb d_law_251 (lv_at hl 4 rfl) ?_
      refine lv_iconst (v := nI 1) hx hb d_law_253 (by decide) ?_
      refine lv_iadd hx hb d_law_254 ?_
      refine va_sld hx hb hX hbl hbA hS (hv 1 (by decide)) d_law_255 ?_
      refine lv_aload_n hx hb d_law_256 rfl (lv_at hl 0 rfl) ?_
      refine lv_iload hx hb d_law_257 (lv_at hl 4 rfl) ?_
      refine lv_iconst (v := nI 2) hx hb d_law_259 (by decide) ?_
      refine lv_iadd hx hb d_law_260 ?_
      refine va_sld hx hb hX hbl hbA hS (hv 2 (by decide)) d_law_261 ?_
      refine lv_aload_n hx hb d_law_262 rfl (lv_at hl 3 rfl) ?_
      refine g_fcallSW (Wd := lW ad ty) (σ := (σ, o)) (Wr := mW bd ty cd τ) ⟨hx, hb, hml, hown, hts⟩ (c_Law_token htr h) (g_cwSW 4 hts q_l_Law_47 q_t_Law_token q_i_TokenDeskLaw q_k_Law_token (by decide +kernel) rfl rfl ⟨Nat.le_of_ble_eq_true rfl, Nat.le_of_ble_eq_true rfl⟩) cX_g hK hP hD hS hA hCx rfl hl.1 rfl (Nat.le_of_ble_eq_true rfl) d_law_263 ⟨by rw [hRc]; omega, by rw [hRs]; omega⟩ (fun k u H locs h hP hD hS => ?_)
      refine lv_istore hx hb d_law_266 hl (by decide) rfl (fun ls hl => ?_)
      refine lv_aload_n hx hb d_law_268 rfl (lv_at hl 3 rfl) ?_
      refine lv_aload_n hx hb d_law_269 rfl (lv_at hl 1 rfl) ?_
      refine lv_iload hx hb d_law_270 (lv_at hl 5 rfl) ?_
      refine lv_iconst (v := nI 1) hx hb d_law_272 (by decide) ?_
      refine lv_iadd hx hb d_law_273 ?_
      refine va_sld hx hb hX hbl hbA hS (hv 1 (by decide)) d_law_274 ?_
      refine lv_aload_n hx hb d_law_275 rfl (lv_at hl 1 rfl) ?_
      refine lv_iload hx hb d_law_276 (lv_at hl 5 rfl) ?_
      refine lv_iconst (v := nI 2) hx hb d_law_278 (by decide) ?_
      refine lv_iadd hx hb d_law_279 ?_
      refine va_sld hx hb hX hbl hbA hS (hv 2 (by decide)) d_law_280 ?_
      have hP := va_P.swap (a := []) hP
      have hD := va_D.swap (a := []) hD
      refine g_fcallVi (Wd := mW bd ty cd) (σ := τ) (Wr := lW ad ty u) ⟨hx, hb, hml, hown, hts⟩ (c_Mod_tokenAt h) (g_cwV 2 hts q_l_Law_50 q_m_Mod_tokenAt q_s_Mod_tokenAt q_i_TokenDeskModel q_k_Mod_tokenAt (by decide +kernel) rfl rfl ⟨Nat.le_of_ble_eq_true rfl, Nat.le_of_ble_eq_true rfl⟩) (va_recv hK hP (q0 := 9) rfl rfl) cX_g hK hP hD hS hA hCx rfl hl.1 rfl (Nat.le_of_ble_eq_true rfl) d_law_281 ⟨by rw [hRc]; omega, by rw [hRs]; omega⟩ (fun b9 τ1 H locs h hP hD hS => ?_)
      refine lv_istore hx hb d_law_284 hl (by decide) rfl (fun ls hl => ?_)
      refine lv_aload_n hx hb d_law_286 rfl (lv_at hl 4 rfl) ?_
      refine g_fcallVi (Wd := mW bd ty cd) (σ := τ1) (Wr := lW ad ty u) ⟨hx, hb, hml, hown, hts⟩ (c_Mod_thrown h) (g_cwV 0 hts q_l_Law_35 q_m_Mod_thrown q_s_Mod_thrown q_i_TokenDeskModel q_k_Mod_thrown (by decide +kernel) rfl rfl ⟨Nat.le_of_ble_eq_true rfl, Nat.le_of_ble_eq_true rfl⟩) (va_recv hK hP (q0 := 9) rfl rfl) cX_g hK hP hD hS hA hCx rfl hl.1 rfl (Nat.le_of_ble_eq_true rfl) d_law_287 ⟨by rw [hRc]; omega, by rw [hRs]; omega⟩ (fun e9 τ2 H locs h hP hD hS => ?_)
      obtain ⟨he, hk0, hrel⟩ := h
      have hP := va_P.swap (a := []) hP
      have hD := va_D.swap (a := []) hD
      have hP : va_P D vwCl (aW ad bd ty cd u.1 u.2 τ2) H := hP
      have hD : va_D A (aW ad bd ty cd u.1 u.2 τ2) := hD
      refine lv_iload hx hb d_law_290 (lv_at hl 1 rfl) ?_
      refine lv_icmp_eq hx hb d_law_292 (tgt := 297) rfl (fun hc => ?_) (fun hc => absurd he hc)
      refine lv_iload hx hb d_law_297 (lv_at hl 1 rfl) ?_
      refine lv_if_ne hx hb d_law_299 (tgt := 314) rfl (fun hc => ?_) (fun hc => ?_)
      · refine lv_goto hx hb d_law_314 (tgt := 330) rfl ?_
        refine W.widen (k := 18 + (t + 1)) (n := 46002 + 6 * (t + 1)) (by omega) (by omega) ?_
        exact J330 u.1 u.2 τ2 _ _ _ hrel hP hD hS (lv_sub hl [2, 3, 4, 5, 6] rfl)
      · refine lv_aload_n hx hb d_law_302 rfl (lv_at hl 5 rfl) ?_
        refine lv_iconst (v := 0) hx hb d_law_303 (by decide) ?_
        refine va_lald (D := D) hx hb hK hP 9 1 rfl rfl (show vp_in 0 1 from by unfold vp_in; decide) d_law_304 ?_
        refine lv_iload hx hb d_law_305 (lv_at hl 0 rfl) ?_
        refine lv_i2l hx hb d_law_307 rfl ?_
        refine W.lcmp hx hb d_law_308 ?_
        have hz : lg_cmp (u.2 (0 : Int32).toNatClampNeg) b9.toInt64 = 0 := by rw [show (0 : Int32).toNatClampNeg = 0 from rfl, hk0 hc]; exact lg_same _
        refine lv_if_eq hx hb d_law_309 (tgt := 314) rfl (fun hc => ?_) (fun hc => absurd hz hc)
        refine lv_goto hx hb d_law_314 (tgt := 330) rfl ?_
        refine W.widen (k := 18 + (t + 1)) (n := 46002 + 6 * (t + 1)) (by omega) (by omega) ?_
        exact J330 u.1 u.2 τ2 _ _ _ hrel hP hD hS (lv_sub hl [2, 3, 4, 5, 6] rfl)
    · refine lv_tableIn (off := 277) hx hb d_law_40 (by decide) (by decide) (by decide) (tgt := 317) rfl ?_
      have h := hst.2.2.2.2 σ τ hrel
      unfold stMany at h
      refine lv_aload_n hx hb d_law_317 rfl (lv_at hl 1 rfl) ?_
      have hP : va_P D vwCl ((mW bd ty cd τ ++ [(ad 8, .inl (ty 1, 1, .inr (.inl o)))]) ++ kW ad ty σ) H := hP
      have hD : va_D A ((mW bd ty cd τ ++ [(ad 8, .inl (ty 1, 1, .inr (.inl o)))]) ++ kW ad ty σ) := hD
      refine g_fcallVi (Wd := kW ad ty) (σ := σ) (Wr := mW bd ty cd τ ++ [(ad 8, .inl (ty 1, 1, .inr (.inl o)))]) ⟨hx, hb, hml, hown, hts⟩ (c_Desk_many h) (g_cwV 0 hts q_l_Law_51 q_m_Desk_many q_s_Desk_many q_i_TokenDesk q_k_Desk_many (by decide +kernel) rfl rfl ⟨Nat.le_of_ble_eq_true rfl, Nat.le_of_ble_eq_true rfl⟩) (va_recv hK hP (q0 := 10) rfl rfl) cX_g hK hP hD hS hA hCx rfl hl.1 rfl (Nat.le_of_ble_eq_true rfl) d_law_318 ⟨by rw [hRc]; omega, by rw [hRs]; omega⟩ (fun r σ1 H locs h hP hD hS => ?_)
      have hP : va_P D vwCl (mW bd ty cd τ ++ lW ad ty (σ1, o)) H := hP
      have hD : va_D A (mW bd ty cd τ ++ lW ad ty (σ1, o)) := hD
      have hP := va_P.swap (a := []) hP
      have hD := va_D.swap (a := []) hD
      refine lv_aload_n hx hb d_law_321 rfl (lv_at hl 2 rfl) ?_
      refine g_fcallVi (Wd := mW bd ty cd) (σ := τ) (Wr := lW ad ty (σ1, o)) ⟨hx, hb, hml, hown, hts⟩ (c_Mod_many h) (g_cwV 0 hts q_l_Law_54 q_m_Mod_many q_s_Mod_many q_i_TokenDeskModel q_k_Mod_many (by decide +kernel) rfl rfl ⟨Nat.le_of_ble_eq_true rfl, Nat.le_of_ble_eq_true rfl⟩) (va_recv hK hP (q0 := 9) rfl rfl) cX_g hK hP hD hS hA hCx rfl hl.1 rfl (Nat.le_of_ble_eq_true rfl) d_law_322 ⟨by rw [hRc]; omega, by rw [hRs]; omega⟩ (fun b9 τ1 H locs h hP hD hS => ?_)
      obtain ⟨he, hrel⟩ := h
      have hP := va_P.swap (a := []) hP
      have hD := va_D.swap (a := []) hD
      refine lv_icmp_eq hx hb d_law_325 (tgt := 330) rfl (fun hc => ?_) (fun hc => absurd he hc)
      refine W.widen (k := 18 + (t + 1)) (n := 46002 + 6 * (t + 1)) (by omega) (by omega) ?_
      exact J330 σ1 o τ1 _ _ _ hrel hP hD hS hl
    · refine lv_tableOut hx hb d_law_40 (by decide) (tgt := 330) rfl ?_
      refine W.widen (k := 18 + (t + 1)) (n := 46002 + 6 * (t + 1)) (by omega) (by omega) ?_
      exact J330 σ o τ _ _ _ hrel hP hD hS hl
    · refine lv_tableOut hx hb d_law_40 (by decide) (tgt := 330) rfl ?_
      refine W.widen (k := 18 + (t + 1)) (n := 46002 + 6 * (t + 1)) (by omega) (by omega) ?_
      exact J330 σ o τ _ _ _ hrel hP hD hS hl
    · refine lv_tableOut hx hb d_law_40 (by decide) (tgt := 330) rfl ?_
      refine W.widen (k := 18 + (t + 1)) (n := 46002 + 6 * (t + 1)) (by omega) (by omega) ?_
      exact J330 σ o τ _ _ _ hrel hP hD hS hl
end LAWL
