-- ===== end of PART A; then your names; then what follows =====
/-! THE CLAIM OUT OF ONE WALK OF THE LAW'S BODY. Your part is whole_start (and what it stands on); all else here is the same for every law, but numbers. -/
def R_law : String := "EachOnHisCueLaw"
def lw_P (b : Addr) (xs : List Int32) (args : Array Value) (s : State) : Prop := args = #[.ref b] ∧ s.IntsAt b xs ∧ xs.length ≤ 192 ∧ (Jvm.Cond.and given_1 narrow_1).before args s = true
def lw_Q (_ : Array Value) (s : State) (o : Outcome) (t : State) : Prop := o = .returned (some (.int 1)) ∧ Framed s o t [] 600000 7302250
def lw_Z (below : List Frame) (a : Array Value) (s : State) : State → Prop := fun t => ∃ o, t.status = .running ∧ Ended t below o ∧ lw_Q a s o t
/-- the law's own end, with 1 on the stack, nothing written that was there before, its room as the claim has it -/
theorem lw_ret {p : Program} {l : Launch} {e : Env} {s : State} {m : MethodId} {below : List Frame} {meth : Method} {c : Code} {b : Nat} (hx : p.tables.exec = Jvm.exec) (hb : c.code = code) (hr : meth.sig.returnType = ret) (hlocks : meth.locks = false) {pc : Nat} {H : Heap} {ls : Array Slot} (hdg : decode code pc = .ok (.ireturn, 1)) : W p l e room_1 s m #[Value.ref b] below meth c H [] 600000 7302250 (lw_Z below #[Value.ref b] s) (F0 m pc ls [.int 1]) := by
  intro T hT X
  obtain ⟨fs, hret, hrun, hended, hW, hframe⟩ := X.leave (v := some (.int 1)) (hlocks := hlocks) (fun h => by rw [hr] at h; cases h)
  have hmeth' : T.vm.method? m = some meth := X.method'
  refine ⟨T.setFrames fs, ?_, .returned (some (.int 1)), hrun, hended, rfl, ⟨_, rfl⟩, hW, hframe⟩
  jvm_step X.here [X.here.top, hx, hb, hdg, hmeth', hr, ret, narrow_b1]
  (try refine ⟨rfl, ?_⟩); (try refine ⟨rfl, ?_⟩)
  first | (intro acts; rw [hret _ acts rfl rfl rfl]) | rw [hret _ _ rfl rfl rfl]
  exact Steps.refl _
/-- what holds at the law's entry: the machine, the code, the tables' words (any of lw_tbl by 'hts w (by decide +kernel)'), the script of L ints xs at the cell b, what the Statement gives of the start (any of its parts by flat_of_before) -/
def lw_At (p : Program) (s : State) (m : MethodId) (meth : Method) (c : Code) (b L : Nat) (xs : Nat → Int32) : Prop :=
  p.tables.exec = Jvm.exec ∧ c.code = code ∧ meth.sig.returnType = ret ∧ c.maxLocals = 4 ∧ s.vm.findClass R_law = some m.cls ∧ (∀ w ∈ lw_tbl, w.before #[Value.ref b] s = true) ∧ va_X b L xs s s.heap ∧ b < s.heap.size ∧ meth.locks = false ∧ (Jvm.Cond.and given_1 narrow_1).before #[Value.ref b] s = true
set_option maxRecDepth 20000 in
theorem edL_law_0 : decode cL_law 0 = .ok (.new 7, 3) ∧ decode cL_law 3 = .ok (.dup, 1) ∧ decode cL_law 4 = .ok (.invokespecial 9, 3) ∧ decode cL_law 7 = .ok (.astore_n 1, 1) ∧ decode cL_law 8 = .ok (.new 10, 3) ∧ decode cL_law 11 = .ok (.dup, 1) ∧ decode cL_law 12 = .ok (.invokespecial 12, 3) ∧ decode cL_law 15 = .ok (.astore_n 2, 1) ∧ decode cL_law 16 = .ok (.iconst 0, 1) ∧ decode cL_law 17 = .ok (.istore_n 3, 1) ∧ decode cL_law 18 = .ok (.iload_n 3, 1) ∧ decode cL_law 19 = .ok (.aload_n 0, 1) := by decide +kernel
theorem dL_law_0 : decode cL_law 0 = .ok (.new 7, 3) := edL_law_0.1
theorem dL_law_3 : decode cL_law 3 = .ok (.dup, 1) := edL_law_0.2.1
theorem dL_law_4 : decode cL_law 4 = .ok (.invokespecial 9, 3) := edL_law_0.2.2.1
theorem dL_law_7 : decode cL_law 7 = .ok (.astore_n 1, 1) := edL_law_0.2.2.2.1
theorem dL_law_8 : decode cL_law 8 = .ok (.new 10, 3) := edL_law_0.2.2.2.2.1
theorem dL_law_11 : decode cL_law 11 = .ok (.dup, 1) := edL_law_0.2.2.2.2.2.1
theorem dL_law_12 : decode cL_law 12 = .ok (.invokespecial 12, 3) := edL_law_0.2.2.2.2.2.2.1
theorem dL_law_15 : decode cL_law 15 = .ok (.astore_n 2, 1) := edL_law_0.2.2.2.2.2.2.2.1
theorem dL_law_16 : decode cL_law 16 = .ok (.iconst 0, 1) := edL_law_0.2.2.2.2.2.2.2.2.1
theorem dL_law_17 : decode cL_law 17 = .ok (.istore_n 3, 1) := edL_law_0.2.2.2.2.2.2.2.2.2.1
theorem dL_law_18 : decode cL_law 18 = .ok (.iload_n 3, 1) := edL_law_0.2.2.2.2.2.2.2.2.2.2.1
theorem dL_law_19 : decode cL_law 19 = .ok (.aload_n 0, 1) := edL_law_0.2.2.2.2.2.2.2.2.2.2.2
set_option maxRecDepth 20000 in
theorem edL_law_20 : decode cL_law 20 = .ok (.arraylength, 1) ∧ decode cL_law 21 = .ok (.iconst 3, 1) ∧ decode cL_law 22 = .ok (.isub, 1) ∧ decode cL_law 23 = .ok (.if_icmp .gt 845, 3) ∧ decode cL_law 26 = .ok (.aload_n 0, 1) ∧ decode cL_law 27 = .ok (.iload_n 3, 1) ∧ decode cL_law 28 = .ok (.iaload, 1) ∧ decode cL_law 29 = .ok (.bipush 31, 2) ∧ decode cL_law 31 = .ok (.iand, 1) ∧ decode cL_law 32 = .ok (.tableswitch 830 0 31 #[144, 167, 180, 213, 246, 279, 312, 335, 358, 371, 384, 407, 430, 453, 476, 489, 512, 525, 548, 571, 584, 617, 640, 653, 666, 699, 722, 735, 748, 781, 794, 807], 144) ∧ decode cL_law 176 = .ok (.aload_n 1, 1) ∧ decode cL_law 177 = .ok (.aload_n 0, 1) := by decide +kernel
theorem dL_law_20 : decode cL_law 20 = .ok (.arraylength, 1) := edL_law_20.1
theorem dL_law_21 : decode cL_law 21 = .ok (.iconst 3, 1) := edL_law_20.2.1
theorem dL_law_22 : decode cL_law 22 = .ok (.isub, 1) := edL_law_20.2.2.1
theorem dL_law_23 : decode cL_law 23 = .ok (.if_icmp .gt 845, 3) := edL_law_20.2.2.2.1
theorem dL_law_26 : decode cL_law 26 = .ok (.aload_n 0, 1) := edL_law_20.2.2.2.2.1
theorem dL_law_27 : decode cL_law 27 = .ok (.iload_n 3, 1) := edL_law_20.2.2.2.2.2.1
theorem dL_law_28 : decode cL_law 28 = .ok (.iaload, 1) := edL_law_20.2.2.2.2.2.2.1
theorem dL_law_29 : decode cL_law 29 = .ok (.bipush 31, 2) := edL_law_20.2.2.2.2.2.2.2.1
theorem dL_law_31 : decode cL_law 31 = .ok (.iand, 1) := edL_law_20.2.2.2.2.2.2.2.2.1
theorem dL_law_32 : decode cL_law 32 = .ok (.tableswitch 830 0 31 #[144, 167, 180, 213, 246, 279, 312, 335, 358, 371, 384, 407, 430, 453, 476, 489, 512, 525, 548, 571, 584, 617, 640, 653, 666, 699, 722, 735, 748, 781, 794, 807], 144) := edL_law_20.2.2.2.2.2.2.2.2.2.1
theorem dL_law_176 : decode cL_law 176 = .ok (.aload_n 1, 1) := edL_law_20.2.2.2.2.2.2.2.2.2.2.1
theorem dL_law_177 : decode cL_law 177 = .ok (.aload_n 0, 1) := edL_law_20.2.2.2.2.2.2.2.2.2.2.2
set_option maxRecDepth 20000 in
theorem edL_law_178 : decode cL_law 178 = .ok (.iload_n 3, 1) ∧ decode cL_law 179 = .ok (.iconst 1, 1) ∧ decode cL_law 180 = .ok (.iadd, 1) ∧ decode cL_law 181 = .ok (.iaload, 1) ∧ decode cL_law 182 = .ok (.invokevirtual 13, 3) ∧ decode cL_law 185 = .ok (.pop, 1) ∧ decode cL_law 186 = .ok (.aload_n 2, 1) ∧ decode cL_law 187 = .ok (.aload_n 0, 1) ∧ decode cL_law 188 = .ok (.iload_n 3, 1) ∧ decode cL_law 189 = .ok (.iconst 1, 1) ∧ decode cL_law 190 = .ok (.iadd, 1) ∧ decode cL_law 191 = .ok (.iaload, 1) := by decide +kernel
theorem dL_law_178 : decode cL_law 178 = .ok (.iload_n 3, 1) := edL_law_178.1
theorem dL_law_179 : decode cL_law 179 = .ok (.iconst 1, 1) := edL_law_178.2.1
theorem dL_law_180 : decode cL_law 180 = .ok (.iadd, 1) := edL_law_178.2.2.1
theorem dL_law_181 : decode cL_law 181 = .ok (.iaload, 1) := edL_law_178.2.2.2.1
theorem dL_law_182 : decode cL_law 182 = .ok (.invokevirtual 13, 3) := edL_law_178.2.2.2.2.1
theorem dL_law_185 : decode cL_law 185 = .ok (.pop, 1) := edL_law_178.2.2.2.2.2.1
theorem dL_law_186 : decode cL_law 186 = .ok (.aload_n 2, 1) := edL_law_178.2.2.2.2.2.2.1
theorem dL_law_187 : decode cL_law 187 = .ok (.aload_n 0, 1) := edL_law_178.2.2.2.2.2.2.2.1
theorem dL_law_188 : decode cL_law 188 = .ok (.iload_n 3, 1) := edL_law_178.2.2.2.2.2.2.2.2.1
theorem dL_law_189 : decode cL_law 189 = .ok (.iconst 1, 1) := edL_law_178.2.2.2.2.2.2.2.2.2.1
theorem dL_law_190 : decode cL_law 190 = .ok (.iadd, 1) := edL_law_178.2.2.2.2.2.2.2.2.2.2.1
theorem dL_law_191 : decode cL_law 191 = .ok (.iaload, 1) := edL_law_178.2.2.2.2.2.2.2.2.2.2.2
set_option maxRecDepth 20000 in
theorem edL_law_192 : decode cL_law 192 = .ok (.invokevirtual 17, 3) ∧ decode cL_law 195 = .ok (.pop, 1) ∧ decode cL_law 196 = .ok (.goto 666, 3) ∧ decode cL_law 199 = .ok (.aload_n 1, 1) ∧ decode cL_law 200 = .ok (.invokevirtual 18, 3) ∧ decode cL_law 203 = .ok (.pop, 1) ∧ decode cL_law 204 = .ok (.aload_n 2, 1) ∧ decode cL_law 205 = .ok (.invokevirtual 22, 3) ∧ decode cL_law 208 = .ok (.pop, 1) ∧ decode cL_law 209 = .ok (.goto 653, 3) ∧ decode cL_law 212 = .ok (.aload_n 1, 1) ∧ decode cL_law 213 = .ok (.aload_n 0, 1) := by decide +kernel
theorem dL_law_192 : decode cL_law 192 = .ok (.invokevirtual 17, 3) := edL_law_192.1
theorem dL_law_195 : decode cL_law 195 = .ok (.pop, 1) := edL_law_192.2.1
theorem dL_law_196 : decode cL_law 196 = .ok (.goto 666, 3) := edL_law_192.2.2.1
theorem dL_law_199 : decode cL_law 199 = .ok (.aload_n 1, 1) := edL_law_192.2.2.2.1
theorem dL_law_200 : decode cL_law 200 = .ok (.invokevirtual 18, 3) := edL_law_192.2.2.2.2.1
theorem dL_law_203 : decode cL_law 203 = .ok (.pop, 1) := edL_law_192.2.2.2.2.2.1
theorem dL_law_204 : decode cL_law 204 = .ok (.aload_n 2, 1) := edL_law_192.2.2.2.2.2.2.1
theorem dL_law_205 : decode cL_law 205 = .ok (.invokevirtual 22, 3) := edL_law_192.2.2.2.2.2.2.2.1
theorem dL_law_208 : decode cL_law 208 = .ok (.pop, 1) := edL_law_192.2.2.2.2.2.2.2.2.1
theorem dL_law_209 : decode cL_law 209 = .ok (.goto 653, 3) := edL_law_192.2.2.2.2.2.2.2.2.2.1
theorem dL_law_212 : decode cL_law 212 = .ok (.aload_n 1, 1) := edL_law_192.2.2.2.2.2.2.2.2.2.2.1
theorem dL_law_213 : decode cL_law 213 = .ok (.aload_n 0, 1) := edL_law_192.2.2.2.2.2.2.2.2.2.2.2
set_option maxRecDepth 20000 in
theorem edL_law_214 : decode cL_law 214 = .ok (.iload_n 3, 1) ∧ decode cL_law 215 = .ok (.iconst 1, 1) ∧ decode cL_law 216 = .ok (.iadd, 1) ∧ decode cL_law 217 = .ok (.iaload, 1) ∧ decode cL_law 218 = .ok (.aload_n 0, 1) ∧ decode cL_law 219 = .ok (.iload_n 3, 1) ∧ decode cL_law 220 = .ok (.iconst 2, 1) ∧ decode cL_law 221 = .ok (.iadd, 1) ∧ decode cL_law 222 = .ok (.iaload, 1) ∧ decode cL_law 223 = .ok (.invokevirtual 23, 3) ∧ decode cL_law 226 = .ok (.pop, 1) ∧ decode cL_law 227 = .ok (.aload_n 2, 1) := by decide +kernel
theorem dL_law_214 : decode cL_law 214 = .ok (.iload_n 3, 1) := edL_law_214.1
theorem dL_law_215 : decode cL_law 215 = .ok (.iconst 1, 1) := edL_law_214.2.1
theorem dL_law_216 : decode cL_law 216 = .ok (.iadd, 1) := edL_law_214.2.2.1
theorem dL_law_217 : decode cL_law 217 = .ok (.iaload, 1) := edL_law_214.2.2.2.1
theorem dL_law_218 : decode cL_law 218 = .ok (.aload_n 0, 1) := edL_law_214.2.2.2.2.1
theorem dL_law_219 : decode cL_law 219 = .ok (.iload_n 3, 1) := edL_law_214.2.2.2.2.2.1
theorem dL_law_220 : decode cL_law 220 = .ok (.iconst 2, 1) := edL_law_214.2.2.2.2.2.2.1
theorem dL_law_221 : decode cL_law 221 = .ok (.iadd, 1) := edL_law_214.2.2.2.2.2.2.2.1
theorem dL_law_222 : decode cL_law 222 = .ok (.iaload, 1) := edL_law_214.2.2.2.2.2.2.2.2.1
theorem dL_law_223 : decode cL_law 223 = .ok (.invokevirtual 23, 3) := edL_law_214.2.2.2.2.2.2.2.2.2.1
theorem dL_law_226 : decode cL_law 226 = .ok (.pop, 1) := edL_law_214.2.2.2.2.2.2.2.2.2.2.1
theorem dL_law_227 : decode cL_law 227 = .ok (.aload_n 2, 1) := edL_law_214.2.2.2.2.2.2.2.2.2.2.2
set_option maxRecDepth 20000 in
theorem edL_law_228 : decode cL_law 228 = .ok (.aload_n 0, 1) ∧ decode cL_law 229 = .ok (.iload_n 3, 1) ∧ decode cL_law 230 = .ok (.iconst 1, 1) ∧ decode cL_law 231 = .ok (.iadd, 1) ∧ decode cL_law 232 = .ok (.iaload, 1) ∧ decode cL_law 233 = .ok (.aload_n 0, 1) ∧ decode cL_law 234 = .ok (.iload_n 3, 1) ∧ decode cL_law 235 = .ok (.iconst 2, 1) ∧ decode cL_law 236 = .ok (.iadd, 1) ∧ decode cL_law 237 = .ok (.iaload, 1) ∧ decode cL_law 238 = .ok (.invokevirtual 27, 3) ∧ decode cL_law 241 = .ok (.pop, 1) := by decide +kernel
theorem dL_law_228 : decode cL_law 228 = .ok (.aload_n 0, 1) := edL_law_228.1
theorem dL_law_229 : decode cL_law 229 = .ok (.iload_n 3, 1) := edL_law_228.2.1
theorem dL_law_230 : decode cL_law 230 = .ok (.iconst 1, 1) := edL_law_228.2.2.1
theorem dL_law_231 : decode cL_law 231 = .ok (.iadd, 1) := edL_law_228.2.2.2.1
theorem dL_law_232 : decode cL_law 232 = .ok (.iaload, 1) := edL_law_228.2.2.2.2.1
theorem dL_law_233 : decode cL_law 233 = .ok (.aload_n 0, 1) := edL_law_228.2.2.2.2.2.1
theorem dL_law_234 : decode cL_law 234 = .ok (.iload_n 3, 1) := edL_law_228.2.2.2.2.2.2.1
theorem dL_law_235 : decode cL_law 235 = .ok (.iconst 2, 1) := edL_law_228.2.2.2.2.2.2.2.1
theorem dL_law_236 : decode cL_law 236 = .ok (.iadd, 1) := edL_law_228.2.2.2.2.2.2.2.2.1
theorem dL_law_237 : decode cL_law 237 = .ok (.iaload, 1) := edL_law_228.2.2.2.2.2.2.2.2.2.1
theorem dL_law_238 : decode cL_law 238 = .ok (.invokevirtual 27, 3) := edL_law_228.2.2.2.2.2.2.2.2.2.2.1
theorem dL_law_241 : decode cL_law 241 = .ok (.pop, 1) := edL_law_228.2.2.2.2.2.2.2.2.2.2.2
set_option maxRecDepth 20000 in
theorem edL_law_242 : decode cL_law 242 = .ok (.goto 620, 3) ∧ decode cL_law 245 = .ok (.aload_n 1, 1) ∧ decode cL_law 246 = .ok (.aload_n 0, 1) ∧ decode cL_law 247 = .ok (.iload_n 3, 1) ∧ decode cL_law 248 = .ok (.iconst 1, 1) ∧ decode cL_law 249 = .ok (.iadd, 1) ∧ decode cL_law 250 = .ok (.iaload, 1) ∧ decode cL_law 251 = .ok (.aload_n 0, 1) ∧ decode cL_law 252 = .ok (.iload_n 3, 1) ∧ decode cL_law 253 = .ok (.iconst 2, 1) ∧ decode cL_law 254 = .ok (.iadd, 1) ∧ decode cL_law 255 = .ok (.iaload, 1) := by decide +kernel
theorem dL_law_242 : decode cL_law 242 = .ok (.goto 620, 3) := edL_law_242.1
theorem dL_law_245 : decode cL_law 245 = .ok (.aload_n 1, 1) := edL_law_242.2.1
theorem dL_law_246 : decode cL_law 246 = .ok (.aload_n 0, 1) := edL_law_242.2.2.1
theorem dL_law_247 : decode cL_law 247 = .ok (.iload_n 3, 1) := edL_law_242.2.2.2.1
theorem dL_law_248 : decode cL_law 248 = .ok (.iconst 1, 1) := edL_law_242.2.2.2.2.1
theorem dL_law_249 : decode cL_law 249 = .ok (.iadd, 1) := edL_law_242.2.2.2.2.2.1
theorem dL_law_250 : decode cL_law 250 = .ok (.iaload, 1) := edL_law_242.2.2.2.2.2.2.1
theorem dL_law_251 : decode cL_law 251 = .ok (.aload_n 0, 1) := edL_law_242.2.2.2.2.2.2.2.1
theorem dL_law_252 : decode cL_law 252 = .ok (.iload_n 3, 1) := edL_law_242.2.2.2.2.2.2.2.2.1
theorem dL_law_253 : decode cL_law 253 = .ok (.iconst 2, 1) := edL_law_242.2.2.2.2.2.2.2.2.2.1
theorem dL_law_254 : decode cL_law 254 = .ok (.iadd, 1) := edL_law_242.2.2.2.2.2.2.2.2.2.2.1
theorem dL_law_255 : decode cL_law 255 = .ok (.iaload, 1) := edL_law_242.2.2.2.2.2.2.2.2.2.2.2
set_option maxRecDepth 20000 in
theorem edL_law_256 : decode cL_law 256 = .ok (.invokevirtual 28, 3) ∧ decode cL_law 259 = .ok (.pop, 1) ∧ decode cL_law 260 = .ok (.aload_n 2, 1) ∧ decode cL_law 261 = .ok (.aload_n 0, 1) ∧ decode cL_law 262 = .ok (.iload_n 3, 1) ∧ decode cL_law 263 = .ok (.iconst 1, 1) ∧ decode cL_law 264 = .ok (.iadd, 1) ∧ decode cL_law 265 = .ok (.iaload, 1) ∧ decode cL_law 266 = .ok (.aload_n 0, 1) ∧ decode cL_law 267 = .ok (.iload_n 3, 1) ∧ decode cL_law 268 = .ok (.iconst 2, 1) ∧ decode cL_law 269 = .ok (.iadd, 1) := by decide +kernel
theorem dL_law_256 : decode cL_law 256 = .ok (.invokevirtual 28, 3) := edL_law_256.1
theorem dL_law_259 : decode cL_law 259 = .ok (.pop, 1) := edL_law_256.2.1
theorem dL_law_260 : decode cL_law 260 = .ok (.aload_n 2, 1) := edL_law_256.2.2.1
theorem dL_law_261 : decode cL_law 261 = .ok (.aload_n 0, 1) := edL_law_256.2.2.2.1
theorem dL_law_262 : decode cL_law 262 = .ok (.iload_n 3, 1) := edL_law_256.2.2.2.2.1
theorem dL_law_263 : decode cL_law 263 = .ok (.iconst 1, 1) := edL_law_256.2.2.2.2.2.1
theorem dL_law_264 : decode cL_law 264 = .ok (.iadd, 1) := edL_law_256.2.2.2.2.2.2.1
theorem dL_law_265 : decode cL_law 265 = .ok (.iaload, 1) := edL_law_256.2.2.2.2.2.2.2.1
theorem dL_law_266 : decode cL_law 266 = .ok (.aload_n 0, 1) := edL_law_256.2.2.2.2.2.2.2.2.1
theorem dL_law_267 : decode cL_law 267 = .ok (.iload_n 3, 1) := edL_law_256.2.2.2.2.2.2.2.2.2.1
theorem dL_law_268 : decode cL_law 268 = .ok (.iconst 2, 1) := edL_law_256.2.2.2.2.2.2.2.2.2.2.1
theorem dL_law_269 : decode cL_law 269 = .ok (.iadd, 1) := edL_law_256.2.2.2.2.2.2.2.2.2.2.2
set_option maxRecDepth 20000 in
theorem edL_law_270 : decode cL_law 270 = .ok (.iaload, 1) ∧ decode cL_law 271 = .ok (.invokevirtual 31, 3) ∧ decode cL_law 274 = .ok (.pop, 1) ∧ decode cL_law 275 = .ok (.goto 587, 3) ∧ decode cL_law 278 = .ok (.aload_n 1, 1) ∧ decode cL_law 279 = .ok (.aload_n 0, 1) ∧ decode cL_law 280 = .ok (.iload_n 3, 1) ∧ decode cL_law 281 = .ok (.iconst 1, 1) ∧ decode cL_law 282 = .ok (.iadd, 1) ∧ decode cL_law 283 = .ok (.iaload, 1) ∧ decode cL_law 284 = .ok (.aload_n 0, 1) ∧ decode cL_law 285 = .ok (.iload_n 3, 1) := by decide +kernel
theorem dL_law_270 : decode cL_law 270 = .ok (.iaload, 1) := edL_law_270.1
theorem dL_law_271 : decode cL_law 271 = .ok (.invokevirtual 31, 3) := edL_law_270.2.1
theorem dL_law_274 : decode cL_law 274 = .ok (.pop, 1) := edL_law_270.2.2.1
theorem dL_law_275 : decode cL_law 275 = .ok (.goto 587, 3) := edL_law_270.2.2.2.1
theorem dL_law_278 : decode cL_law 278 = .ok (.aload_n 1, 1) := edL_law_270.2.2.2.2.1
theorem dL_law_279 : decode cL_law 279 = .ok (.aload_n 0, 1) := edL_law_270.2.2.2.2.2.1
theorem dL_law_280 : decode cL_law 280 = .ok (.iload_n 3, 1) := edL_law_270.2.2.2.2.2.2.1
theorem dL_law_281 : decode cL_law 281 = .ok (.iconst 1, 1) := edL_law_270.2.2.2.2.2.2.2.1
theorem dL_law_282 : decode cL_law 282 = .ok (.iadd, 1) := edL_law_270.2.2.2.2.2.2.2.2.1
theorem dL_law_283 : decode cL_law 283 = .ok (.iaload, 1) := edL_law_270.2.2.2.2.2.2.2.2.2.1
theorem dL_law_284 : decode cL_law 284 = .ok (.aload_n 0, 1) := edL_law_270.2.2.2.2.2.2.2.2.2.2.1
theorem dL_law_285 : decode cL_law 285 = .ok (.iload_n 3, 1) := edL_law_270.2.2.2.2.2.2.2.2.2.2.2
set_option maxRecDepth 20000 in
theorem edL_law_286 : decode cL_law 286 = .ok (.iconst 2, 1) ∧ decode cL_law 287 = .ok (.iadd, 1) ∧ decode cL_law 288 = .ok (.iaload, 1) ∧ decode cL_law 289 = .ok (.invokevirtual 32, 3) ∧ decode cL_law 292 = .ok (.pop, 1) ∧ decode cL_law 293 = .ok (.aload_n 2, 1) ∧ decode cL_law 294 = .ok (.aload_n 0, 1) ∧ decode cL_law 295 = .ok (.iload_n 3, 1) ∧ decode cL_law 296 = .ok (.iconst 1, 1) ∧ decode cL_law 297 = .ok (.iadd, 1) ∧ decode cL_law 298 = .ok (.iaload, 1) ∧ decode cL_law 299 = .ok (.aload_n 0, 1) := by decide +kernel
theorem dL_law_286 : decode cL_law 286 = .ok (.iconst 2, 1) := edL_law_286.1
theorem dL_law_287 : decode cL_law 287 = .ok (.iadd, 1) := edL_law_286.2.1
theorem dL_law_288 : decode cL_law 288 = .ok (.iaload, 1) := edL_law_286.2.2.1
theorem dL_law_289 : decode cL_law 289 = .ok (.invokevirtual 32, 3) := edL_law_286.2.2.2.1
theorem dL_law_292 : decode cL_law 292 = .ok (.pop, 1) := edL_law_286.2.2.2.2.1
theorem dL_law_293 : decode cL_law 293 = .ok (.aload_n 2, 1) := edL_law_286.2.2.2.2.2.1
theorem dL_law_294 : decode cL_law 294 = .ok (.aload_n 0, 1) := edL_law_286.2.2.2.2.2.2.1
theorem dL_law_295 : decode cL_law 295 = .ok (.iload_n 3, 1) := edL_law_286.2.2.2.2.2.2.2.1
theorem dL_law_296 : decode cL_law 296 = .ok (.iconst 1, 1) := edL_law_286.2.2.2.2.2.2.2.2.1
theorem dL_law_297 : decode cL_law 297 = .ok (.iadd, 1) := edL_law_286.2.2.2.2.2.2.2.2.2.1
theorem dL_law_298 : decode cL_law 298 = .ok (.iaload, 1) := edL_law_286.2.2.2.2.2.2.2.2.2.2.1
theorem dL_law_299 : decode cL_law 299 = .ok (.aload_n 0, 1) := edL_law_286.2.2.2.2.2.2.2.2.2.2.2
set_option maxRecDepth 20000 in
theorem edL_law_300 : decode cL_law 300 = .ok (.iload_n 3, 1) ∧ decode cL_law 301 = .ok (.iconst 2, 1) ∧ decode cL_law 302 = .ok (.iadd, 1) ∧ decode cL_law 303 = .ok (.iaload, 1) ∧ decode cL_law 304 = .ok (.invokevirtual 35, 3) ∧ decode cL_law 307 = .ok (.pop, 1) ∧ decode cL_law 308 = .ok (.goto 554, 3) ∧ decode cL_law 311 = .ok (.aload_n 1, 1) ∧ decode cL_law 312 = .ok (.aload_n 0, 1) ∧ decode cL_law 313 = .ok (.iload_n 3, 1) ∧ decode cL_law 314 = .ok (.iconst 1, 1) ∧ decode cL_law 315 = .ok (.iadd, 1) := by decide +kernel
theorem dL_law_300 : decode cL_law 300 = .ok (.iload_n 3, 1) := edL_law_300.1
theorem dL_law_301 : decode cL_law 301 = .ok (.iconst 2, 1) := edL_law_300.2.1
theorem dL_law_302 : decode cL_law 302 = .ok (.iadd, 1) := edL_law_300.2.2.1
theorem dL_law_303 : decode cL_law 303 = .ok (.iaload, 1) := edL_law_300.2.2.2.1
theorem dL_law_304 : decode cL_law 304 = .ok (.invokevirtual 35, 3) := edL_law_300.2.2.2.2.1
theorem dL_law_307 : decode cL_law 307 = .ok (.pop, 1) := edL_law_300.2.2.2.2.2.1
theorem dL_law_308 : decode cL_law 308 = .ok (.goto 554, 3) := edL_law_300.2.2.2.2.2.2.1
theorem dL_law_311 : decode cL_law 311 = .ok (.aload_n 1, 1) := edL_law_300.2.2.2.2.2.2.2.1
theorem dL_law_312 : decode cL_law 312 = .ok (.aload_n 0, 1) := edL_law_300.2.2.2.2.2.2.2.2.1
theorem dL_law_313 : decode cL_law 313 = .ok (.iload_n 3, 1) := edL_law_300.2.2.2.2.2.2.2.2.2.1
theorem dL_law_314 : decode cL_law 314 = .ok (.iconst 1, 1) := edL_law_300.2.2.2.2.2.2.2.2.2.2.1
theorem dL_law_315 : decode cL_law 315 = .ok (.iadd, 1) := edL_law_300.2.2.2.2.2.2.2.2.2.2.2
set_option maxRecDepth 20000 in
theorem edL_law_316 : decode cL_law 316 = .ok (.iaload, 1) ∧ decode cL_law 317 = .ok (.aload_n 0, 1) ∧ decode cL_law 318 = .ok (.iload_n 3, 1) ∧ decode cL_law 319 = .ok (.iconst 2, 1) ∧ decode cL_law 320 = .ok (.iadd, 1) ∧ decode cL_law 321 = .ok (.iaload, 1) ∧ decode cL_law 322 = .ok (.invokevirtual 36, 3) ∧ decode cL_law 325 = .ok (.pop, 1) ∧ decode cL_law 326 = .ok (.aload_n 2, 1) ∧ decode cL_law 327 = .ok (.aload_n 0, 1) ∧ decode cL_law 328 = .ok (.iload_n 3, 1) ∧ decode cL_law 329 = .ok (.iconst 1, 1) := by decide +kernel
theorem dL_law_316 : decode cL_law 316 = .ok (.iaload, 1) := edL_law_316.1
theorem dL_law_317 : decode cL_law 317 = .ok (.aload_n 0, 1) := edL_law_316.2.1
theorem dL_law_318 : decode cL_law 318 = .ok (.iload_n 3, 1) := edL_law_316.2.2.1
theorem dL_law_319 : decode cL_law 319 = .ok (.iconst 2, 1) := edL_law_316.2.2.2.1
theorem dL_law_320 : decode cL_law 320 = .ok (.iadd, 1) := edL_law_316.2.2.2.2.1
theorem dL_law_321 : decode cL_law 321 = .ok (.iaload, 1) := edL_law_316.2.2.2.2.2.1
theorem dL_law_322 : decode cL_law 322 = .ok (.invokevirtual 36, 3) := edL_law_316.2.2.2.2.2.2.1
theorem dL_law_325 : decode cL_law 325 = .ok (.pop, 1) := edL_law_316.2.2.2.2.2.2.2.1
theorem dL_law_326 : decode cL_law 326 = .ok (.aload_n 2, 1) := edL_law_316.2.2.2.2.2.2.2.2.1
theorem dL_law_327 : decode cL_law 327 = .ok (.aload_n 0, 1) := edL_law_316.2.2.2.2.2.2.2.2.2.1
theorem dL_law_328 : decode cL_law 328 = .ok (.iload_n 3, 1) := edL_law_316.2.2.2.2.2.2.2.2.2.2.1
theorem dL_law_329 : decode cL_law 329 = .ok (.iconst 1, 1) := edL_law_316.2.2.2.2.2.2.2.2.2.2.2
set_option maxRecDepth 20000 in
theorem edL_law_330 : decode cL_law 330 = .ok (.iadd, 1) ∧ decode cL_law 331 = .ok (.iaload, 1) ∧ decode cL_law 332 = .ok (.aload_n 0, 1) ∧ decode cL_law 333 = .ok (.iload_n 3, 1) ∧ decode cL_law 334 = .ok (.iconst 2, 1) ∧ decode cL_law 335 = .ok (.iadd, 1) ∧ decode cL_law 336 = .ok (.iaload, 1) ∧ decode cL_law 337 = .ok (.invokevirtual 39, 3) ∧ decode cL_law 340 = .ok (.pop, 1) ∧ decode cL_law 341 = .ok (.goto 521, 3) ∧ decode cL_law 344 = .ok (.aload_n 1, 1) ∧ decode cL_law 345 = .ok (.aload_n 0, 1) := by decide +kernel
theorem dL_law_330 : decode cL_law 330 = .ok (.iadd, 1) := edL_law_330.1
theorem dL_law_331 : decode cL_law 331 = .ok (.iaload, 1) := edL_law_330.2.1
theorem dL_law_332 : decode cL_law 332 = .ok (.aload_n 0, 1) := edL_law_330.2.2.1
theorem dL_law_333 : decode cL_law 333 = .ok (.iload_n 3, 1) := edL_law_330.2.2.2.1
theorem dL_law_334 : decode cL_law 334 = .ok (.iconst 2, 1) := edL_law_330.2.2.2.2.1
theorem dL_law_335 : decode cL_law 335 = .ok (.iadd, 1) := edL_law_330.2.2.2.2.2.1
theorem dL_law_336 : decode cL_law 336 = .ok (.iaload, 1) := edL_law_330.2.2.2.2.2.2.1
theorem dL_law_337 : decode cL_law 337 = .ok (.invokevirtual 39, 3) := edL_law_330.2.2.2.2.2.2.2.1
theorem dL_law_340 : decode cL_law 340 = .ok (.pop, 1) := edL_law_330.2.2.2.2.2.2.2.2.1
theorem dL_law_341 : decode cL_law 341 = .ok (.goto 521, 3) := edL_law_330.2.2.2.2.2.2.2.2.2.1
theorem dL_law_344 : decode cL_law 344 = .ok (.aload_n 1, 1) := edL_law_330.2.2.2.2.2.2.2.2.2.2.1
theorem dL_law_345 : decode cL_law 345 = .ok (.aload_n 0, 1) := edL_law_330.2.2.2.2.2.2.2.2.2.2.2
set_option maxRecDepth 20000 in
theorem edL_law_346 : decode cL_law 346 = .ok (.iload_n 3, 1) ∧ decode cL_law 347 = .ok (.iconst 1, 1) ∧ decode cL_law 348 = .ok (.iadd, 1) ∧ decode cL_law 349 = .ok (.iaload, 1) ∧ decode cL_law 350 = .ok (.invokevirtual 40, 3) ∧ decode cL_law 353 = .ok (.pop, 1) ∧ decode cL_law 354 = .ok (.aload_n 2, 1) ∧ decode cL_law 355 = .ok (.aload_n 0, 1) ∧ decode cL_law 356 = .ok (.iload_n 3, 1) ∧ decode cL_law 357 = .ok (.iconst 1, 1) ∧ decode cL_law 358 = .ok (.iadd, 1) ∧ decode cL_law 359 = .ok (.iaload, 1) := by decide +kernel
theorem dL_law_346 : decode cL_law 346 = .ok (.iload_n 3, 1) := edL_law_346.1
theorem dL_law_347 : decode cL_law 347 = .ok (.iconst 1, 1) := edL_law_346.2.1
theorem dL_law_348 : decode cL_law 348 = .ok (.iadd, 1) := edL_law_346.2.2.1
theorem dL_law_349 : decode cL_law 349 = .ok (.iaload, 1) := edL_law_346.2.2.2.1
theorem dL_law_350 : decode cL_law 350 = .ok (.invokevirtual 40, 3) := edL_law_346.2.2.2.2.1
theorem dL_law_353 : decode cL_law 353 = .ok (.pop, 1) := edL_law_346.2.2.2.2.2.1
theorem dL_law_354 : decode cL_law 354 = .ok (.aload_n 2, 1) := edL_law_346.2.2.2.2.2.2.1
theorem dL_law_355 : decode cL_law 355 = .ok (.aload_n 0, 1) := edL_law_346.2.2.2.2.2.2.2.1
theorem dL_law_356 : decode cL_law 356 = .ok (.iload_n 3, 1) := edL_law_346.2.2.2.2.2.2.2.2.1
theorem dL_law_357 : decode cL_law 357 = .ok (.iconst 1, 1) := edL_law_346.2.2.2.2.2.2.2.2.2.1
theorem dL_law_358 : decode cL_law 358 = .ok (.iadd, 1) := edL_law_346.2.2.2.2.2.2.2.2.2.2.1
theorem dL_law_359 : decode cL_law 359 = .ok (.iaload, 1) := edL_law_346.2.2.2.2.2.2.2.2.2.2.2
set_option maxRecDepth 20000 in
theorem edL_law_360 : decode cL_law 360 = .ok (.invokevirtual 43, 3) ∧ decode cL_law 363 = .ok (.pop, 1) ∧ decode cL_law 364 = .ok (.goto 498, 3) ∧ decode cL_law 367 = .ok (.aload_n 1, 1) ∧ decode cL_law 368 = .ok (.aload_n 0, 1) ∧ decode cL_law 369 = .ok (.iload_n 3, 1) ∧ decode cL_law 370 = .ok (.iconst 1, 1) ∧ decode cL_law 371 = .ok (.iadd, 1) ∧ decode cL_law 372 = .ok (.iaload, 1) ∧ decode cL_law 373 = .ok (.invokevirtual 44, 3) ∧ decode cL_law 376 = .ok (.pop, 1) ∧ decode cL_law 377 = .ok (.aload_n 2, 1) := by decide +kernel
theorem dL_law_360 : decode cL_law 360 = .ok (.invokevirtual 43, 3) := edL_law_360.1
theorem dL_law_363 : decode cL_law 363 = .ok (.pop, 1) := edL_law_360.2.1
theorem dL_law_364 : decode cL_law 364 = .ok (.goto 498, 3) := edL_law_360.2.2.1
theorem dL_law_367 : decode cL_law 367 = .ok (.aload_n 1, 1) := edL_law_360.2.2.2.1
theorem dL_law_368 : decode cL_law 368 = .ok (.aload_n 0, 1) := edL_law_360.2.2.2.2.1
theorem dL_law_369 : decode cL_law 369 = .ok (.iload_n 3, 1) := edL_law_360.2.2.2.2.2.1
theorem dL_law_370 : decode cL_law 370 = .ok (.iconst 1, 1) := edL_law_360.2.2.2.2.2.2.1
theorem dL_law_371 : decode cL_law 371 = .ok (.iadd, 1) := edL_law_360.2.2.2.2.2.2.2.1
theorem dL_law_372 : decode cL_law 372 = .ok (.iaload, 1) := edL_law_360.2.2.2.2.2.2.2.2.1
theorem dL_law_373 : decode cL_law 373 = .ok (.invokevirtual 44, 3) := edL_law_360.2.2.2.2.2.2.2.2.2.1
theorem dL_law_376 : decode cL_law 376 = .ok (.pop, 1) := edL_law_360.2.2.2.2.2.2.2.2.2.2.1
theorem dL_law_377 : decode cL_law 377 = .ok (.aload_n 2, 1) := edL_law_360.2.2.2.2.2.2.2.2.2.2.2
set_option maxRecDepth 20000 in
theorem edL_law_378 : decode cL_law 378 = .ok (.aload_n 0, 1) ∧ decode cL_law 379 = .ok (.iload_n 3, 1) ∧ decode cL_law 380 = .ok (.iconst 1, 1) ∧ decode cL_law 381 = .ok (.iadd, 1) ∧ decode cL_law 382 = .ok (.iaload, 1) ∧ decode cL_law 383 = .ok (.invokevirtual 47, 3) ∧ decode cL_law 386 = .ok (.pop, 1) ∧ decode cL_law 387 = .ok (.goto 475, 3) ∧ decode cL_law 390 = .ok (.aload_n 1, 1) ∧ decode cL_law 391 = .ok (.invokevirtual 48, 3) ∧ decode cL_law 394 = .ok (.pop, 1) ∧ decode cL_law 395 = .ok (.aload_n 2, 1) := by decide +kernel
theorem dL_law_378 : decode cL_law 378 = .ok (.aload_n 0, 1) := edL_law_378.1
theorem dL_law_379 : decode cL_law 379 = .ok (.iload_n 3, 1) := edL_law_378.2.1
theorem dL_law_380 : decode cL_law 380 = .ok (.iconst 1, 1) := edL_law_378.2.2.1
theorem dL_law_381 : decode cL_law 381 = .ok (.iadd, 1) := edL_law_378.2.2.2.1
theorem dL_law_382 : decode cL_law 382 = .ok (.iaload, 1) := edL_law_378.2.2.2.2.1
theorem dL_law_383 : decode cL_law 383 = .ok (.invokevirtual 47, 3) := edL_law_378.2.2.2.2.2.1
theorem dL_law_386 : decode cL_law 386 = .ok (.pop, 1) := edL_law_378.2.2.2.2.2.2.1
theorem dL_law_387 : decode cL_law 387 = .ok (.goto 475, 3) := edL_law_378.2.2.2.2.2.2.2.1
theorem dL_law_390 : decode cL_law 390 = .ok (.aload_n 1, 1) := edL_law_378.2.2.2.2.2.2.2.2.1
theorem dL_law_391 : decode cL_law 391 = .ok (.invokevirtual 48, 3) := edL_law_378.2.2.2.2.2.2.2.2.2.1
theorem dL_law_394 : decode cL_law 394 = .ok (.pop, 1) := edL_law_378.2.2.2.2.2.2.2.2.2.2.1
theorem dL_law_395 : decode cL_law 395 = .ok (.aload_n 2, 1) := edL_law_378.2.2.2.2.2.2.2.2.2.2.2
set_option maxRecDepth 20000 in
theorem edL_law_396 : decode cL_law 396 = .ok (.invokevirtual 51, 3) ∧ decode cL_law 399 = .ok (.pop, 1) ∧ decode cL_law 400 = .ok (.goto 462, 3) ∧ decode cL_law 403 = .ok (.aload_n 1, 1) ∧ decode cL_law 404 = .ok (.invokevirtual 52, 3) ∧ decode cL_law 407 = .ok (.pop, 1) ∧ decode cL_law 408 = .ok (.aload_n 2, 1) ∧ decode cL_law 409 = .ok (.invokevirtual 55, 3) ∧ decode cL_law 412 = .ok (.pop, 1) ∧ decode cL_law 413 = .ok (.goto 449, 3) ∧ decode cL_law 416 = .ok (.aload_n 1, 1) ∧ decode cL_law 417 = .ok (.aload_n 0, 1) := by decide +kernel
theorem dL_law_396 : decode cL_law 396 = .ok (.invokevirtual 51, 3) := edL_law_396.1
theorem dL_law_399 : decode cL_law 399 = .ok (.pop, 1) := edL_law_396.2.1
theorem dL_law_400 : decode cL_law 400 = .ok (.goto 462, 3) := edL_law_396.2.2.1
theorem dL_law_403 : decode cL_law 403 = .ok (.aload_n 1, 1) := edL_law_396.2.2.2.1
theorem dL_law_404 : decode cL_law 404 = .ok (.invokevirtual 52, 3) := edL_law_396.2.2.2.2.1
theorem dL_law_407 : decode cL_law 407 = .ok (.pop, 1) := edL_law_396.2.2.2.2.2.1
theorem dL_law_408 : decode cL_law 408 = .ok (.aload_n 2, 1) := edL_law_396.2.2.2.2.2.2.1
theorem dL_law_409 : decode cL_law 409 = .ok (.invokevirtual 55, 3) := edL_law_396.2.2.2.2.2.2.2.1
theorem dL_law_412 : decode cL_law 412 = .ok (.pop, 1) := edL_law_396.2.2.2.2.2.2.2.2.1
theorem dL_law_413 : decode cL_law 413 = .ok (.goto 449, 3) := edL_law_396.2.2.2.2.2.2.2.2.2.1
theorem dL_law_416 : decode cL_law 416 = .ok (.aload_n 1, 1) := edL_law_396.2.2.2.2.2.2.2.2.2.2.1
theorem dL_law_417 : decode cL_law 417 = .ok (.aload_n 0, 1) := edL_law_396.2.2.2.2.2.2.2.2.2.2.2
set_option maxRecDepth 20000 in
theorem edL_law_418 : decode cL_law 418 = .ok (.iload_n 3, 1) ∧ decode cL_law 419 = .ok (.iconst 1, 1) ∧ decode cL_law 420 = .ok (.iadd, 1) ∧ decode cL_law 421 = .ok (.iaload, 1) ∧ decode cL_law 422 = .ok (.invokevirtual 56, 3) ∧ decode cL_law 425 = .ok (.pop, 1) ∧ decode cL_law 426 = .ok (.aload_n 2, 1) ∧ decode cL_law 427 = .ok (.aload_n 0, 1) ∧ decode cL_law 428 = .ok (.iload_n 3, 1) ∧ decode cL_law 429 = .ok (.iconst 1, 1) ∧ decode cL_law 430 = .ok (.iadd, 1) ∧ decode cL_law 431 = .ok (.iaload, 1) := by decide +kernel
theorem dL_law_418 : decode cL_law 418 = .ok (.iload_n 3, 1) := edL_law_418.1
theorem dL_law_419 : decode cL_law 419 = .ok (.iconst 1, 1) := edL_law_418.2.1
theorem dL_law_420 : decode cL_law 420 = .ok (.iadd, 1) := edL_law_418.2.2.1
theorem dL_law_421 : decode cL_law 421 = .ok (.iaload, 1) := edL_law_418.2.2.2.1
theorem dL_law_422 : decode cL_law 422 = .ok (.invokevirtual 56, 3) := edL_law_418.2.2.2.2.1
theorem dL_law_425 : decode cL_law 425 = .ok (.pop, 1) := edL_law_418.2.2.2.2.2.1
theorem dL_law_426 : decode cL_law 426 = .ok (.aload_n 2, 1) := edL_law_418.2.2.2.2.2.2.1
theorem dL_law_427 : decode cL_law 427 = .ok (.aload_n 0, 1) := edL_law_418.2.2.2.2.2.2.2.1
theorem dL_law_428 : decode cL_law 428 = .ok (.iload_n 3, 1) := edL_law_418.2.2.2.2.2.2.2.2.1
theorem dL_law_429 : decode cL_law 429 = .ok (.iconst 1, 1) := edL_law_418.2.2.2.2.2.2.2.2.2.1
theorem dL_law_430 : decode cL_law 430 = .ok (.iadd, 1) := edL_law_418.2.2.2.2.2.2.2.2.2.2.1
theorem dL_law_431 : decode cL_law 431 = .ok (.iaload, 1) := edL_law_418.2.2.2.2.2.2.2.2.2.2.2
set_option maxRecDepth 20000 in
theorem edL_law_432 : decode cL_law 432 = .ok (.invokevirtual 59, 3) ∧ decode cL_law 435 = .ok (.pop, 1) ∧ decode cL_law 436 = .ok (.goto 426, 3) ∧ decode cL_law 439 = .ok (.aload_n 1, 1) ∧ decode cL_law 440 = .ok (.aload_n 0, 1) ∧ decode cL_law 441 = .ok (.iload_n 3, 1) ∧ decode cL_law 442 = .ok (.iconst 1, 1) ∧ decode cL_law 443 = .ok (.iadd, 1) ∧ decode cL_law 444 = .ok (.iaload, 1) ∧ decode cL_law 445 = .ok (.invokevirtual 60, 3) ∧ decode cL_law 448 = .ok (.pop, 1) ∧ decode cL_law 449 = .ok (.aload_n 2, 1) := by decide +kernel
theorem dL_law_432 : decode cL_law 432 = .ok (.invokevirtual 59, 3) := edL_law_432.1
theorem dL_law_435 : decode cL_law 435 = .ok (.pop, 1) := edL_law_432.2.1
theorem dL_law_436 : decode cL_law 436 = .ok (.goto 426, 3) := edL_law_432.2.2.1
theorem dL_law_439 : decode cL_law 439 = .ok (.aload_n 1, 1) := edL_law_432.2.2.2.1
theorem dL_law_440 : decode cL_law 440 = .ok (.aload_n 0, 1) := edL_law_432.2.2.2.2.1
theorem dL_law_441 : decode cL_law 441 = .ok (.iload_n 3, 1) := edL_law_432.2.2.2.2.2.1
theorem dL_law_442 : decode cL_law 442 = .ok (.iconst 1, 1) := edL_law_432.2.2.2.2.2.2.1
theorem dL_law_443 : decode cL_law 443 = .ok (.iadd, 1) := edL_law_432.2.2.2.2.2.2.2.1
theorem dL_law_444 : decode cL_law 444 = .ok (.iaload, 1) := edL_law_432.2.2.2.2.2.2.2.2.1
theorem dL_law_445 : decode cL_law 445 = .ok (.invokevirtual 60, 3) := edL_law_432.2.2.2.2.2.2.2.2.2.1
theorem dL_law_448 : decode cL_law 448 = .ok (.pop, 1) := edL_law_432.2.2.2.2.2.2.2.2.2.2.1
theorem dL_law_449 : decode cL_law 449 = .ok (.aload_n 2, 1) := edL_law_432.2.2.2.2.2.2.2.2.2.2.2
set_option maxRecDepth 20000 in
theorem edL_law_450 : decode cL_law 450 = .ok (.aload_n 0, 1) ∧ decode cL_law 451 = .ok (.iload_n 3, 1) ∧ decode cL_law 452 = .ok (.iconst 1, 1) ∧ decode cL_law 453 = .ok (.iadd, 1) ∧ decode cL_law 454 = .ok (.iaload, 1) ∧ decode cL_law 455 = .ok (.invokevirtual 63, 3) ∧ decode cL_law 458 = .ok (.pop, 1) ∧ decode cL_law 459 = .ok (.goto 403, 3) ∧ decode cL_law 462 = .ok (.aload_n 1, 1) ∧ decode cL_law 463 = .ok (.aload_n 0, 1) ∧ decode cL_law 464 = .ok (.iload_n 3, 1) ∧ decode cL_law 465 = .ok (.iconst 1, 1) := by decide +kernel
theorem dL_law_450 : decode cL_law 450 = .ok (.aload_n 0, 1) := edL_law_450.1
theorem dL_law_451 : decode cL_law 451 = .ok (.iload_n 3, 1) := edL_law_450.2.1
theorem dL_law_452 : decode cL_law 452 = .ok (.iconst 1, 1) := edL_law_450.2.2.1
theorem dL_law_453 : decode cL_law 453 = .ok (.iadd, 1) := edL_law_450.2.2.2.1
theorem dL_law_454 : decode cL_law 454 = .ok (.iaload, 1) := edL_law_450.2.2.2.2.1
theorem dL_law_455 : decode cL_law 455 = .ok (.invokevirtual 63, 3) := edL_law_450.2.2.2.2.2.1
theorem dL_law_458 : decode cL_law 458 = .ok (.pop, 1) := edL_law_450.2.2.2.2.2.2.1
theorem dL_law_459 : decode cL_law 459 = .ok (.goto 403, 3) := edL_law_450.2.2.2.2.2.2.2.1
theorem dL_law_462 : decode cL_law 462 = .ok (.aload_n 1, 1) := edL_law_450.2.2.2.2.2.2.2.2.1
theorem dL_law_463 : decode cL_law 463 = .ok (.aload_n 0, 1) := edL_law_450.2.2.2.2.2.2.2.2.2.1
theorem dL_law_464 : decode cL_law 464 = .ok (.iload_n 3, 1) := edL_law_450.2.2.2.2.2.2.2.2.2.2.1
theorem dL_law_465 : decode cL_law 465 = .ok (.iconst 1, 1) := edL_law_450.2.2.2.2.2.2.2.2.2.2.2
set_option maxRecDepth 20000 in
theorem edL_law_466 : decode cL_law 466 = .ok (.iadd, 1) ∧ decode cL_law 467 = .ok (.iaload, 1) ∧ decode cL_law 468 = .ok (.invokevirtual 64, 3) ∧ decode cL_law 471 = .ok (.pop, 1) ∧ decode cL_law 472 = .ok (.aload_n 2, 1) ∧ decode cL_law 473 = .ok (.aload_n 0, 1) ∧ decode cL_law 474 = .ok (.iload_n 3, 1) ∧ decode cL_law 475 = .ok (.iconst 1, 1) ∧ decode cL_law 476 = .ok (.iadd, 1) ∧ decode cL_law 477 = .ok (.iaload, 1) ∧ decode cL_law 478 = .ok (.invokevirtual 67, 3) ∧ decode cL_law 481 = .ok (.pop, 1) := by decide +kernel
theorem dL_law_466 : decode cL_law 466 = .ok (.iadd, 1) := edL_law_466.1
theorem dL_law_467 : decode cL_law 467 = .ok (.iaload, 1) := edL_law_466.2.1
theorem dL_law_468 : decode cL_law 468 = .ok (.invokevirtual 64, 3) := edL_law_466.2.2.1
theorem dL_law_471 : decode cL_law 471 = .ok (.pop, 1) := edL_law_466.2.2.2.1
theorem dL_law_472 : decode cL_law 472 = .ok (.aload_n 2, 1) := edL_law_466.2.2.2.2.1
theorem dL_law_473 : decode cL_law 473 = .ok (.aload_n 0, 1) := edL_law_466.2.2.2.2.2.1
theorem dL_law_474 : decode cL_law 474 = .ok (.iload_n 3, 1) := edL_law_466.2.2.2.2.2.2.1
theorem dL_law_475 : decode cL_law 475 = .ok (.iconst 1, 1) := edL_law_466.2.2.2.2.2.2.2.1
theorem dL_law_476 : decode cL_law 476 = .ok (.iadd, 1) := edL_law_466.2.2.2.2.2.2.2.2.1
theorem dL_law_477 : decode cL_law 477 = .ok (.iaload, 1) := edL_law_466.2.2.2.2.2.2.2.2.2.1
theorem dL_law_478 : decode cL_law 478 = .ok (.invokevirtual 67, 3) := edL_law_466.2.2.2.2.2.2.2.2.2.2.1
theorem dL_law_481 : decode cL_law 481 = .ok (.pop, 1) := edL_law_466.2.2.2.2.2.2.2.2.2.2.2
set_option maxRecDepth 20000 in
theorem edL_law_482 : decode cL_law 482 = .ok (.goto 380, 3) ∧ decode cL_law 485 = .ok (.aload_n 1, 1) ∧ decode cL_law 486 = .ok (.aload_n 0, 1) ∧ decode cL_law 487 = .ok (.iload_n 3, 1) ∧ decode cL_law 488 = .ok (.iconst 1, 1) ∧ decode cL_law 489 = .ok (.iadd, 1) ∧ decode cL_law 490 = .ok (.iaload, 1) ∧ decode cL_law 491 = .ok (.invokevirtual 68, 3) ∧ decode cL_law 494 = .ok (.pop, 1) ∧ decode cL_law 495 = .ok (.aload_n 2, 1) ∧ decode cL_law 496 = .ok (.aload_n 0, 1) ∧ decode cL_law 497 = .ok (.iload_n 3, 1) := by decide +kernel
theorem dL_law_482 : decode cL_law 482 = .ok (.goto 380, 3) := edL_law_482.1
theorem dL_law_485 : decode cL_law 485 = .ok (.aload_n 1, 1) := edL_law_482.2.1
theorem dL_law_486 : decode cL_law 486 = .ok (.aload_n 0, 1) := edL_law_482.2.2.1
theorem dL_law_487 : decode cL_law 487 = .ok (.iload_n 3, 1) := edL_law_482.2.2.2.1
theorem dL_law_488 : decode cL_law 488 = .ok (.iconst 1, 1) := edL_law_482.2.2.2.2.1
theorem dL_law_489 : decode cL_law 489 = .ok (.iadd, 1) := edL_law_482.2.2.2.2.2.1
theorem dL_law_490 : decode cL_law 490 = .ok (.iaload, 1) := edL_law_482.2.2.2.2.2.2.1
theorem dL_law_491 : decode cL_law 491 = .ok (.invokevirtual 68, 3) := edL_law_482.2.2.2.2.2.2.2.1
theorem dL_law_494 : decode cL_law 494 = .ok (.pop, 1) := edL_law_482.2.2.2.2.2.2.2.2.1
theorem dL_law_495 : decode cL_law 495 = .ok (.aload_n 2, 1) := edL_law_482.2.2.2.2.2.2.2.2.2.1
theorem dL_law_496 : decode cL_law 496 = .ok (.aload_n 0, 1) := edL_law_482.2.2.2.2.2.2.2.2.2.2.1
theorem dL_law_497 : decode cL_law 497 = .ok (.iload_n 3, 1) := edL_law_482.2.2.2.2.2.2.2.2.2.2.2
set_option maxRecDepth 20000 in
theorem edL_law_498 : decode cL_law 498 = .ok (.iconst 1, 1) ∧ decode cL_law 499 = .ok (.iadd, 1) ∧ decode cL_law 500 = .ok (.iaload, 1) ∧ decode cL_law 501 = .ok (.invokevirtual 71, 3) ∧ decode cL_law 504 = .ok (.pop, 1) ∧ decode cL_law 505 = .ok (.goto 357, 3) ∧ decode cL_law 508 = .ok (.aload_n 1, 1) ∧ decode cL_law 509 = .ok (.invokevirtual 72, 3) ∧ decode cL_law 512 = .ok (.pop, 1) ∧ decode cL_law 513 = .ok (.aload_n 2, 1) ∧ decode cL_law 514 = .ok (.invokevirtual 75, 3) ∧ decode cL_law 517 = .ok (.pop, 1) := by decide +kernel
theorem dL_law_498 : decode cL_law 498 = .ok (.iconst 1, 1) := edL_law_498.1
theorem dL_law_499 : decode cL_law 499 = .ok (.iadd, 1) := edL_law_498.2.1
theorem dL_law_500 : decode cL_law 500 = .ok (.iaload, 1) := edL_law_498.2.2.1
theorem dL_law_501 : decode cL_law 501 = .ok (.invokevirtual 71, 3) := edL_law_498.2.2.2.1
theorem dL_law_504 : decode cL_law 504 = .ok (.pop, 1) := edL_law_498.2.2.2.2.1
theorem dL_law_505 : decode cL_law 505 = .ok (.goto 357, 3) := edL_law_498.2.2.2.2.2.1
theorem dL_law_508 : decode cL_law 508 = .ok (.aload_n 1, 1) := edL_law_498.2.2.2.2.2.2.1
theorem dL_law_509 : decode cL_law 509 = .ok (.invokevirtual 72, 3) := edL_law_498.2.2.2.2.2.2.2.1
theorem dL_law_512 : decode cL_law 512 = .ok (.pop, 1) := edL_law_498.2.2.2.2.2.2.2.2.1
theorem dL_law_513 : decode cL_law 513 = .ok (.aload_n 2, 1) := edL_law_498.2.2.2.2.2.2.2.2.2.1
theorem dL_law_514 : decode cL_law 514 = .ok (.invokevirtual 75, 3) := edL_law_498.2.2.2.2.2.2.2.2.2.2.1
theorem dL_law_517 : decode cL_law 517 = .ok (.pop, 1) := edL_law_498.2.2.2.2.2.2.2.2.2.2.2
set_option maxRecDepth 20000 in
theorem edL_law_518 : decode cL_law 518 = .ok (.goto 344, 3) ∧ decode cL_law 521 = .ok (.aload_n 1, 1) ∧ decode cL_law 522 = .ok (.aload_n 0, 1) ∧ decode cL_law 523 = .ok (.iload_n 3, 1) ∧ decode cL_law 524 = .ok (.iconst 1, 1) ∧ decode cL_law 525 = .ok (.iadd, 1) ∧ decode cL_law 526 = .ok (.iaload, 1) ∧ decode cL_law 527 = .ok (.invokevirtual 76, 3) ∧ decode cL_law 530 = .ok (.pop, 1) ∧ decode cL_law 531 = .ok (.aload_n 2, 1) ∧ decode cL_law 532 = .ok (.aload_n 0, 1) ∧ decode cL_law 533 = .ok (.iload_n 3, 1) := by decide +kernel
theorem dL_law_518 : decode cL_law 518 = .ok (.goto 344, 3) := edL_law_518.1
theorem dL_law_521 : decode cL_law 521 = .ok (.aload_n 1, 1) := edL_law_518.2.1
theorem dL_law_522 : decode cL_law 522 = .ok (.aload_n 0, 1) := edL_law_518.2.2.1
theorem dL_law_523 : decode cL_law 523 = .ok (.iload_n 3, 1) := edL_law_518.2.2.2.1
theorem dL_law_524 : decode cL_law 524 = .ok (.iconst 1, 1) := edL_law_518.2.2.2.2.1
theorem dL_law_525 : decode cL_law 525 = .ok (.iadd, 1) := edL_law_518.2.2.2.2.2.1
theorem dL_law_526 : decode cL_law 526 = .ok (.iaload, 1) := edL_law_518.2.2.2.2.2.2.1
theorem dL_law_527 : decode cL_law 527 = .ok (.invokevirtual 76, 3) := edL_law_518.2.2.2.2.2.2.2.1
theorem dL_law_530 : decode cL_law 530 = .ok (.pop, 1) := edL_law_518.2.2.2.2.2.2.2.2.1
theorem dL_law_531 : decode cL_law 531 = .ok (.aload_n 2, 1) := edL_law_518.2.2.2.2.2.2.2.2.2.1
theorem dL_law_532 : decode cL_law 532 = .ok (.aload_n 0, 1) := edL_law_518.2.2.2.2.2.2.2.2.2.2.1
theorem dL_law_533 : decode cL_law 533 = .ok (.iload_n 3, 1) := edL_law_518.2.2.2.2.2.2.2.2.2.2.2
set_option maxRecDepth 20000 in
theorem edL_law_534 : decode cL_law 534 = .ok (.iconst 1, 1) ∧ decode cL_law 535 = .ok (.iadd, 1) ∧ decode cL_law 536 = .ok (.iaload, 1) ∧ decode cL_law 537 = .ok (.invokevirtual 79, 3) ∧ decode cL_law 540 = .ok (.pop, 1) ∧ decode cL_law 541 = .ok (.goto 321, 3) ∧ decode cL_law 544 = .ok (.aload_n 1, 1) ∧ decode cL_law 545 = .ok (.invokevirtual 80, 3) ∧ decode cL_law 548 = .ok (.pop, 1) ∧ decode cL_law 549 = .ok (.aload_n 2, 1) ∧ decode cL_law 550 = .ok (.invokevirtual 83, 3) ∧ decode cL_law 553 = .ok (.pop, 1) := by decide +kernel
theorem dL_law_534 : decode cL_law 534 = .ok (.iconst 1, 1) := edL_law_534.1
theorem dL_law_535 : decode cL_law 535 = .ok (.iadd, 1) := edL_law_534.2.1
theorem dL_law_536 : decode cL_law 536 = .ok (.iaload, 1) := edL_law_534.2.2.1
theorem dL_law_537 : decode cL_law 537 = .ok (.invokevirtual 79, 3) := edL_law_534.2.2.2.1
theorem dL_law_540 : decode cL_law 540 = .ok (.pop, 1) := edL_law_534.2.2.2.2.1
theorem dL_law_541 : decode cL_law 541 = .ok (.goto 321, 3) := edL_law_534.2.2.2.2.2.1
theorem dL_law_544 : decode cL_law 544 = .ok (.aload_n 1, 1) := edL_law_534.2.2.2.2.2.2.1
theorem dL_law_545 : decode cL_law 545 = .ok (.invokevirtual 80, 3) := edL_law_534.2.2.2.2.2.2.2.1
theorem dL_law_548 : decode cL_law 548 = .ok (.pop, 1) := edL_law_534.2.2.2.2.2.2.2.2.1
theorem dL_law_549 : decode cL_law 549 = .ok (.aload_n 2, 1) := edL_law_534.2.2.2.2.2.2.2.2.2.1
theorem dL_law_550 : decode cL_law 550 = .ok (.invokevirtual 83, 3) := edL_law_534.2.2.2.2.2.2.2.2.2.2.1
theorem dL_law_553 : decode cL_law 553 = .ok (.pop, 1) := edL_law_534.2.2.2.2.2.2.2.2.2.2.2
set_option maxRecDepth 20000 in
theorem edL_law_554 : decode cL_law 554 = .ok (.goto 308, 3) ∧ decode cL_law 557 = .ok (.aload_n 1, 1) ∧ decode cL_law 558 = .ok (.aload_n 0, 1) ∧ decode cL_law 559 = .ok (.iload_n 3, 1) ∧ decode cL_law 560 = .ok (.iconst 1, 1) ∧ decode cL_law 561 = .ok (.iadd, 1) ∧ decode cL_law 562 = .ok (.iaload, 1) ∧ decode cL_law 563 = .ok (.invokevirtual 84, 3) ∧ decode cL_law 566 = .ok (.pop2, 1) ∧ decode cL_law 567 = .ok (.aload_n 2, 1) ∧ decode cL_law 568 = .ok (.aload_n 0, 1) ∧ decode cL_law 569 = .ok (.iload_n 3, 1) := by decide +kernel
theorem dL_law_554 : decode cL_law 554 = .ok (.goto 308, 3) := edL_law_554.1
theorem dL_law_557 : decode cL_law 557 = .ok (.aload_n 1, 1) := edL_law_554.2.1
theorem dL_law_558 : decode cL_law 558 = .ok (.aload_n 0, 1) := edL_law_554.2.2.1
theorem dL_law_559 : decode cL_law 559 = .ok (.iload_n 3, 1) := edL_law_554.2.2.2.1
theorem dL_law_560 : decode cL_law 560 = .ok (.iconst 1, 1) := edL_law_554.2.2.2.2.1
theorem dL_law_561 : decode cL_law 561 = .ok (.iadd, 1) := edL_law_554.2.2.2.2.2.1
theorem dL_law_562 : decode cL_law 562 = .ok (.iaload, 1) := edL_law_554.2.2.2.2.2.2.1
theorem dL_law_563 : decode cL_law 563 = .ok (.invokevirtual 84, 3) := edL_law_554.2.2.2.2.2.2.2.1
theorem dL_law_566 : decode cL_law 566 = .ok (.pop2, 1) := edL_law_554.2.2.2.2.2.2.2.2.1
theorem dL_law_567 : decode cL_law 567 = .ok (.aload_n 2, 1) := edL_law_554.2.2.2.2.2.2.2.2.2.1
theorem dL_law_568 : decode cL_law 568 = .ok (.aload_n 0, 1) := edL_law_554.2.2.2.2.2.2.2.2.2.2.1
theorem dL_law_569 : decode cL_law 569 = .ok (.iload_n 3, 1) := edL_law_554.2.2.2.2.2.2.2.2.2.2.2
set_option maxRecDepth 20000 in
theorem edL_law_570 : decode cL_law 570 = .ok (.iconst 1, 1) ∧ decode cL_law 571 = .ok (.iadd, 1) ∧ decode cL_law 572 = .ok (.iaload, 1) ∧ decode cL_law 573 = .ok (.invokevirtual 88, 3) ∧ decode cL_law 576 = .ok (.pop2, 1) ∧ decode cL_law 577 = .ok (.goto 285, 3) ∧ decode cL_law 580 = .ok (.aload_n 1, 1) ∧ decode cL_law 581 = .ok (.aload_n 0, 1) ∧ decode cL_law 582 = .ok (.iload_n 3, 1) ∧ decode cL_law 583 = .ok (.iconst 1, 1) ∧ decode cL_law 584 = .ok (.iadd, 1) ∧ decode cL_law 585 = .ok (.iaload, 1) := by decide +kernel
theorem dL_law_570 : decode cL_law 570 = .ok (.iconst 1, 1) := edL_law_570.1
theorem dL_law_571 : decode cL_law 571 = .ok (.iadd, 1) := edL_law_570.2.1
theorem dL_law_572 : decode cL_law 572 = .ok (.iaload, 1) := edL_law_570.2.2.1
theorem dL_law_573 : decode cL_law 573 = .ok (.invokevirtual 88, 3) := edL_law_570.2.2.2.1
theorem dL_law_576 : decode cL_law 576 = .ok (.pop2, 1) := edL_law_570.2.2.2.2.1
theorem dL_law_577 : decode cL_law 577 = .ok (.goto 285, 3) := edL_law_570.2.2.2.2.2.1
theorem dL_law_580 : decode cL_law 580 = .ok (.aload_n 1, 1) := edL_law_570.2.2.2.2.2.2.1
theorem dL_law_581 : decode cL_law 581 = .ok (.aload_n 0, 1) := edL_law_570.2.2.2.2.2.2.2.1
theorem dL_law_582 : decode cL_law 582 = .ok (.iload_n 3, 1) := edL_law_570.2.2.2.2.2.2.2.2.1
theorem dL_law_583 : decode cL_law 583 = .ok (.iconst 1, 1) := edL_law_570.2.2.2.2.2.2.2.2.2.1
theorem dL_law_584 : decode cL_law 584 = .ok (.iadd, 1) := edL_law_570.2.2.2.2.2.2.2.2.2.2.1
theorem dL_law_585 : decode cL_law 585 = .ok (.iaload, 1) := edL_law_570.2.2.2.2.2.2.2.2.2.2.2
set_option maxRecDepth 20000 in
theorem edL_law_586 : decode cL_law 586 = .ok (.invokevirtual 89, 3) ∧ decode cL_law 589 = .ok (.pop, 1) ∧ decode cL_law 590 = .ok (.aload_n 2, 1) ∧ decode cL_law 591 = .ok (.aload_n 0, 1) ∧ decode cL_law 592 = .ok (.iload_n 3, 1) ∧ decode cL_law 593 = .ok (.iconst 1, 1) ∧ decode cL_law 594 = .ok (.iadd, 1) ∧ decode cL_law 595 = .ok (.iaload, 1) ∧ decode cL_law 596 = .ok (.invokevirtual 92, 3) ∧ decode cL_law 599 = .ok (.pop, 1) ∧ decode cL_law 600 = .ok (.goto 262, 3) ∧ decode cL_law 603 = .ok (.aload_n 1, 1) := by decide +kernel
theorem dL_law_586 : decode cL_law 586 = .ok (.invokevirtual 89, 3) := edL_law_586.1
theorem dL_law_589 : decode cL_law 589 = .ok (.pop, 1) := edL_law_586.2.1
theorem dL_law_590 : decode cL_law 590 = .ok (.aload_n 2, 1) := edL_law_586.2.2.1
theorem dL_law_591 : decode cL_law 591 = .ok (.aload_n 0, 1) := edL_law_586.2.2.2.1
theorem dL_law_592 : decode cL_law 592 = .ok (.iload_n 3, 1) := edL_law_586.2.2.2.2.1
theorem dL_law_593 : decode cL_law 593 = .ok (.iconst 1, 1) := edL_law_586.2.2.2.2.2.1
theorem dL_law_594 : decode cL_law 594 = .ok (.iadd, 1) := edL_law_586.2.2.2.2.2.2.1
theorem dL_law_595 : decode cL_law 595 = .ok (.iaload, 1) := edL_law_586.2.2.2.2.2.2.2.1
theorem dL_law_596 : decode cL_law 596 = .ok (.invokevirtual 92, 3) := edL_law_586.2.2.2.2.2.2.2.2.1
theorem dL_law_599 : decode cL_law 599 = .ok (.pop, 1) := edL_law_586.2.2.2.2.2.2.2.2.2.1
theorem dL_law_600 : decode cL_law 600 = .ok (.goto 262, 3) := edL_law_586.2.2.2.2.2.2.2.2.2.2.1
theorem dL_law_603 : decode cL_law 603 = .ok (.aload_n 1, 1) := edL_law_586.2.2.2.2.2.2.2.2.2.2.2
set_option maxRecDepth 20000 in
theorem edL_law_604 : decode cL_law 604 = .ok (.invokevirtual 93, 3) ∧ decode cL_law 607 = .ok (.pop, 1) ∧ decode cL_law 608 = .ok (.aload_n 2, 1) ∧ decode cL_law 609 = .ok (.invokevirtual 96, 3) ∧ decode cL_law 612 = .ok (.pop, 1) ∧ decode cL_law 613 = .ok (.goto 249, 3) ∧ decode cL_law 616 = .ok (.aload_n 1, 1) ∧ decode cL_law 617 = .ok (.aload_n 0, 1) ∧ decode cL_law 618 = .ok (.iload_n 3, 1) ∧ decode cL_law 619 = .ok (.iconst 1, 1) ∧ decode cL_law 620 = .ok (.iadd, 1) ∧ decode cL_law 621 = .ok (.iaload, 1) := by decide +kernel
theorem dL_law_604 : decode cL_law 604 = .ok (.invokevirtual 93, 3) := edL_law_604.1
theorem dL_law_607 : decode cL_law 607 = .ok (.pop, 1) := edL_law_604.2.1
theorem dL_law_608 : decode cL_law 608 = .ok (.aload_n 2, 1) := edL_law_604.2.2.1
theorem dL_law_609 : decode cL_law 609 = .ok (.invokevirtual 96, 3) := edL_law_604.2.2.2.1
theorem dL_law_612 : decode cL_law 612 = .ok (.pop, 1) := edL_law_604.2.2.2.2.1
theorem dL_law_613 : decode cL_law 613 = .ok (.goto 249, 3) := edL_law_604.2.2.2.2.2.1
theorem dL_law_616 : decode cL_law 616 = .ok (.aload_n 1, 1) := edL_law_604.2.2.2.2.2.2.1
theorem dL_law_617 : decode cL_law 617 = .ok (.aload_n 0, 1) := edL_law_604.2.2.2.2.2.2.2.1
theorem dL_law_618 : decode cL_law 618 = .ok (.iload_n 3, 1) := edL_law_604.2.2.2.2.2.2.2.2.1
theorem dL_law_619 : decode cL_law 619 = .ok (.iconst 1, 1) := edL_law_604.2.2.2.2.2.2.2.2.2.1
theorem dL_law_620 : decode cL_law 620 = .ok (.iadd, 1) := edL_law_604.2.2.2.2.2.2.2.2.2.2.1
theorem dL_law_621 : decode cL_law 621 = .ok (.iaload, 1) := edL_law_604.2.2.2.2.2.2.2.2.2.2.2
set_option maxRecDepth 20000 in
theorem edL_law_622 : decode cL_law 622 = .ok (.aload_n 0, 1) ∧ decode cL_law 623 = .ok (.iload_n 3, 1) ∧ decode cL_law 624 = .ok (.iconst 2, 1) ∧ decode cL_law 625 = .ok (.iadd, 1) ∧ decode cL_law 626 = .ok (.iaload, 1) ∧ decode cL_law 627 = .ok (.invokevirtual 97, 3) ∧ decode cL_law 630 = .ok (.pop, 1) ∧ decode cL_law 631 = .ok (.aload_n 2, 1) ∧ decode cL_law 632 = .ok (.aload_n 0, 1) ∧ decode cL_law 633 = .ok (.iload_n 3, 1) ∧ decode cL_law 634 = .ok (.iconst 1, 1) ∧ decode cL_law 635 = .ok (.iadd, 1) := by decide +kernel
theorem dL_law_622 : decode cL_law 622 = .ok (.aload_n 0, 1) := edL_law_622.1
theorem dL_law_623 : decode cL_law 623 = .ok (.iload_n 3, 1) := edL_law_622.2.1
theorem dL_law_624 : decode cL_law 624 = .ok (.iconst 2, 1) := edL_law_622.2.2.1
theorem dL_law_625 : decode cL_law 625 = .ok (.iadd, 1) := edL_law_622.2.2.2.1
theorem dL_law_626 : decode cL_law 626 = .ok (.iaload, 1) := edL_law_622.2.2.2.2.1
theorem dL_law_627 : decode cL_law 627 = .ok (.invokevirtual 97, 3) := edL_law_622.2.2.2.2.2.1
theorem dL_law_630 : decode cL_law 630 = .ok (.pop, 1) := edL_law_622.2.2.2.2.2.2.1
theorem dL_law_631 : decode cL_law 631 = .ok (.aload_n 2, 1) := edL_law_622.2.2.2.2.2.2.2.1
theorem dL_law_632 : decode cL_law 632 = .ok (.aload_n 0, 1) := edL_law_622.2.2.2.2.2.2.2.2.1
theorem dL_law_633 : decode cL_law 633 = .ok (.iload_n 3, 1) := edL_law_622.2.2.2.2.2.2.2.2.2.1
theorem dL_law_634 : decode cL_law 634 = .ok (.iconst 1, 1) := edL_law_622.2.2.2.2.2.2.2.2.2.2.1
theorem dL_law_635 : decode cL_law 635 = .ok (.iadd, 1) := edL_law_622.2.2.2.2.2.2.2.2.2.2.2
set_option maxRecDepth 20000 in
theorem edL_law_636 : decode cL_law 636 = .ok (.iaload, 1) ∧ decode cL_law 637 = .ok (.aload_n 0, 1) ∧ decode cL_law 638 = .ok (.iload_n 3, 1) ∧ decode cL_law 639 = .ok (.iconst 2, 1) ∧ decode cL_law 640 = .ok (.iadd, 1) ∧ decode cL_law 641 = .ok (.iaload, 1) ∧ decode cL_law 642 = .ok (.invokevirtual 100, 3) ∧ decode cL_law 645 = .ok (.pop, 1) ∧ decode cL_law 646 = .ok (.goto 216, 3) ∧ decode cL_law 649 = .ok (.aload_n 1, 1) ∧ decode cL_law 650 = .ok (.aload_n 0, 1) ∧ decode cL_law 651 = .ok (.iload_n 3, 1) := by decide +kernel
theorem dL_law_636 : decode cL_law 636 = .ok (.iaload, 1) := edL_law_636.1
theorem dL_law_637 : decode cL_law 637 = .ok (.aload_n 0, 1) := edL_law_636.2.1
theorem dL_law_638 : decode cL_law 638 = .ok (.iload_n 3, 1) := edL_law_636.2.2.1
theorem dL_law_639 : decode cL_law 639 = .ok (.iconst 2, 1) := edL_law_636.2.2.2.1
theorem dL_law_640 : decode cL_law 640 = .ok (.iadd, 1) := edL_law_636.2.2.2.2.1
theorem dL_law_641 : decode cL_law 641 = .ok (.iaload, 1) := edL_law_636.2.2.2.2.2.1
theorem dL_law_642 : decode cL_law 642 = .ok (.invokevirtual 100, 3) := edL_law_636.2.2.2.2.2.2.1
theorem dL_law_645 : decode cL_law 645 = .ok (.pop, 1) := edL_law_636.2.2.2.2.2.2.2.1
theorem dL_law_646 : decode cL_law 646 = .ok (.goto 216, 3) := edL_law_636.2.2.2.2.2.2.2.2.1
theorem dL_law_649 : decode cL_law 649 = .ok (.aload_n 1, 1) := edL_law_636.2.2.2.2.2.2.2.2.2.1
theorem dL_law_650 : decode cL_law 650 = .ok (.aload_n 0, 1) := edL_law_636.2.2.2.2.2.2.2.2.2.2.1
theorem dL_law_651 : decode cL_law 651 = .ok (.iload_n 3, 1) := edL_law_636.2.2.2.2.2.2.2.2.2.2.2
set_option maxRecDepth 20000 in
theorem edL_law_652 : decode cL_law 652 = .ok (.iconst 1, 1) ∧ decode cL_law 653 = .ok (.iadd, 1) ∧ decode cL_law 654 = .ok (.iaload, 1) ∧ decode cL_law 655 = .ok (.invokevirtual 101, 3) ∧ decode cL_law 658 = .ok (.pop, 1) ∧ decode cL_law 659 = .ok (.aload_n 2, 1) ∧ decode cL_law 660 = .ok (.aload_n 0, 1) ∧ decode cL_law 661 = .ok (.iload_n 3, 1) ∧ decode cL_law 662 = .ok (.iconst 1, 1) ∧ decode cL_law 663 = .ok (.iadd, 1) ∧ decode cL_law 664 = .ok (.iaload, 1) ∧ decode cL_law 665 = .ok (.invokevirtual 104, 3) := by decide +kernel
theorem dL_law_652 : decode cL_law 652 = .ok (.iconst 1, 1) := edL_law_652.1
theorem dL_law_653 : decode cL_law 653 = .ok (.iadd, 1) := edL_law_652.2.1
theorem dL_law_654 : decode cL_law 654 = .ok (.iaload, 1) := edL_law_652.2.2.1
theorem dL_law_655 : decode cL_law 655 = .ok (.invokevirtual 101, 3) := edL_law_652.2.2.2.1
theorem dL_law_658 : decode cL_law 658 = .ok (.pop, 1) := edL_law_652.2.2.2.2.1
theorem dL_law_659 : decode cL_law 659 = .ok (.aload_n 2, 1) := edL_law_652.2.2.2.2.2.1
theorem dL_law_660 : decode cL_law 660 = .ok (.aload_n 0, 1) := edL_law_652.2.2.2.2.2.2.1
theorem dL_law_661 : decode cL_law 661 = .ok (.iload_n 3, 1) := edL_law_652.2.2.2.2.2.2.2.1
theorem dL_law_662 : decode cL_law 662 = .ok (.iconst 1, 1) := edL_law_652.2.2.2.2.2.2.2.2.1
theorem dL_law_663 : decode cL_law 663 = .ok (.iadd, 1) := edL_law_652.2.2.2.2.2.2.2.2.2.1
theorem dL_law_664 : decode cL_law 664 = .ok (.iaload, 1) := edL_law_652.2.2.2.2.2.2.2.2.2.2.1
theorem dL_law_665 : decode cL_law 665 = .ok (.invokevirtual 104, 3) := edL_law_652.2.2.2.2.2.2.2.2.2.2.2
set_option maxRecDepth 20000 in
theorem edL_law_668 : decode cL_law 668 = .ok (.pop, 1) ∧ decode cL_law 669 = .ok (.goto 193, 3) ∧ decode cL_law 672 = .ok (.aload_n 1, 1) ∧ decode cL_law 673 = .ok (.invokevirtual 105, 3) ∧ decode cL_law 676 = .ok (.pop, 1) ∧ decode cL_law 677 = .ok (.aload_n 2, 1) ∧ decode cL_law 678 = .ok (.invokevirtual 108, 3) ∧ decode cL_law 681 = .ok (.pop, 1) ∧ decode cL_law 682 = .ok (.goto 180, 3) ∧ decode cL_law 685 = .ok (.aload_n 1, 1) ∧ decode cL_law 686 = .ok (.invokevirtual 109, 3) ∧ decode cL_law 689 = .ok (.pop, 1) := by decide +kernel
theorem dL_law_668 : decode cL_law 668 = .ok (.pop, 1) := edL_law_668.1
theorem dL_law_669 : decode cL_law 669 = .ok (.goto 193, 3) := edL_law_668.2.1
theorem dL_law_672 : decode cL_law 672 = .ok (.aload_n 1, 1) := edL_law_668.2.2.1
theorem dL_law_673 : decode cL_law 673 = .ok (.invokevirtual 105, 3) := edL_law_668.2.2.2.1
theorem dL_law_676 : decode cL_law 676 = .ok (.pop, 1) := edL_law_668.2.2.2.2.1
theorem dL_law_677 : decode cL_law 677 = .ok (.aload_n 2, 1) := edL_law_668.2.2.2.2.2.1
theorem dL_law_678 : decode cL_law 678 = .ok (.invokevirtual 108, 3) := edL_law_668.2.2.2.2.2.2.1
theorem dL_law_681 : decode cL_law 681 = .ok (.pop, 1) := edL_law_668.2.2.2.2.2.2.2.1
theorem dL_law_682 : decode cL_law 682 = .ok (.goto 180, 3) := edL_law_668.2.2.2.2.2.2.2.2.1
theorem dL_law_685 : decode cL_law 685 = .ok (.aload_n 1, 1) := edL_law_668.2.2.2.2.2.2.2.2.2.1
theorem dL_law_686 : decode cL_law 686 = .ok (.invokevirtual 109, 3) := edL_law_668.2.2.2.2.2.2.2.2.2.2.1
theorem dL_law_689 : decode cL_law 689 = .ok (.pop, 1) := edL_law_668.2.2.2.2.2.2.2.2.2.2.2
set_option maxRecDepth 20000 in
theorem edL_law_690 : decode cL_law 690 = .ok (.aload_n 2, 1) ∧ decode cL_law 691 = .ok (.invokevirtual 112, 3) ∧ decode cL_law 694 = .ok (.pop, 1) ∧ decode cL_law 695 = .ok (.goto 167, 3) ∧ decode cL_law 698 = .ok (.aload_n 1, 1) ∧ decode cL_law 699 = .ok (.aload_n 0, 1) ∧ decode cL_law 700 = .ok (.iload_n 3, 1) ∧ decode cL_law 701 = .ok (.iconst 1, 1) ∧ decode cL_law 702 = .ok (.iadd, 1) ∧ decode cL_law 703 = .ok (.iaload, 1) ∧ decode cL_law 704 = .ok (.aload_n 0, 1) ∧ decode cL_law 705 = .ok (.iload_n 3, 1) := by decide +kernel
theorem dL_law_690 : decode cL_law 690 = .ok (.aload_n 2, 1) := edL_law_690.1
theorem dL_law_691 : decode cL_law 691 = .ok (.invokevirtual 112, 3) := edL_law_690.2.1
theorem dL_law_694 : decode cL_law 694 = .ok (.pop, 1) := edL_law_690.2.2.1
theorem dL_law_695 : decode cL_law 695 = .ok (.goto 167, 3) := edL_law_690.2.2.2.1
theorem dL_law_698 : decode cL_law 698 = .ok (.aload_n 1, 1) := edL_law_690.2.2.2.2.1
theorem dL_law_699 : decode cL_law 699 = .ok (.aload_n 0, 1) := edL_law_690.2.2.2.2.2.1
theorem dL_law_700 : decode cL_law 700 = .ok (.iload_n 3, 1) := edL_law_690.2.2.2.2.2.2.1
theorem dL_law_701 : decode cL_law 701 = .ok (.iconst 1, 1) := edL_law_690.2.2.2.2.2.2.2.1
theorem dL_law_702 : decode cL_law 702 = .ok (.iadd, 1) := edL_law_690.2.2.2.2.2.2.2.2.1
theorem dL_law_703 : decode cL_law 703 = .ok (.iaload, 1) := edL_law_690.2.2.2.2.2.2.2.2.2.1
theorem dL_law_704 : decode cL_law 704 = .ok (.aload_n 0, 1) := edL_law_690.2.2.2.2.2.2.2.2.2.2.1
theorem dL_law_705 : decode cL_law 705 = .ok (.iload_n 3, 1) := edL_law_690.2.2.2.2.2.2.2.2.2.2.2
set_option maxRecDepth 20000 in
theorem edL_law_706 : decode cL_law 706 = .ok (.iconst 2, 1) ∧ decode cL_law 707 = .ok (.iadd, 1) ∧ decode cL_law 708 = .ok (.iaload, 1) ∧ decode cL_law 709 = .ok (.invokevirtual 113, 3) ∧ decode cL_law 712 = .ok (.pop, 1) ∧ decode cL_law 713 = .ok (.aload_n 2, 1) ∧ decode cL_law 714 = .ok (.aload_n 0, 1) ∧ decode cL_law 715 = .ok (.iload_n 3, 1) ∧ decode cL_law 716 = .ok (.iconst 1, 1) ∧ decode cL_law 717 = .ok (.iadd, 1) ∧ decode cL_law 718 = .ok (.iaload, 1) ∧ decode cL_law 719 = .ok (.aload_n 0, 1) := by decide +kernel
theorem dL_law_706 : decode cL_law 706 = .ok (.iconst 2, 1) := edL_law_706.1
theorem dL_law_707 : decode cL_law 707 = .ok (.iadd, 1) := edL_law_706.2.1
theorem dL_law_708 : decode cL_law 708 = .ok (.iaload, 1) := edL_law_706.2.2.1
theorem dL_law_709 : decode cL_law 709 = .ok (.invokevirtual 113, 3) := edL_law_706.2.2.2.1
theorem dL_law_712 : decode cL_law 712 = .ok (.pop, 1) := edL_law_706.2.2.2.2.1
theorem dL_law_713 : decode cL_law 713 = .ok (.aload_n 2, 1) := edL_law_706.2.2.2.2.2.1
theorem dL_law_714 : decode cL_law 714 = .ok (.aload_n 0, 1) := edL_law_706.2.2.2.2.2.2.1
theorem dL_law_715 : decode cL_law 715 = .ok (.iload_n 3, 1) := edL_law_706.2.2.2.2.2.2.2.1
theorem dL_law_716 : decode cL_law 716 = .ok (.iconst 1, 1) := edL_law_706.2.2.2.2.2.2.2.2.1
theorem dL_law_717 : decode cL_law 717 = .ok (.iadd, 1) := edL_law_706.2.2.2.2.2.2.2.2.2.1
theorem dL_law_718 : decode cL_law 718 = .ok (.iaload, 1) := edL_law_706.2.2.2.2.2.2.2.2.2.2.1
theorem dL_law_719 : decode cL_law 719 = .ok (.aload_n 0, 1) := edL_law_706.2.2.2.2.2.2.2.2.2.2.2
set_option maxRecDepth 20000 in
theorem edL_law_720 : decode cL_law 720 = .ok (.iload_n 3, 1) ∧ decode cL_law 721 = .ok (.iconst 2, 1) ∧ decode cL_law 722 = .ok (.iadd, 1) ∧ decode cL_law 723 = .ok (.iaload, 1) ∧ decode cL_law 724 = .ok (.invokevirtual 116, 3) ∧ decode cL_law 727 = .ok (.pop, 1) ∧ decode cL_law 728 = .ok (.goto 134, 3) ∧ decode cL_law 731 = .ok (.aload_n 1, 1) ∧ decode cL_law 732 = .ok (.aload_n 0, 1) ∧ decode cL_law 733 = .ok (.iload_n 3, 1) ∧ decode cL_law 734 = .ok (.iconst 1, 1) ∧ decode cL_law 735 = .ok (.iadd, 1) := by decide +kernel
theorem dL_law_720 : decode cL_law 720 = .ok (.iload_n 3, 1) := edL_law_720.1
theorem dL_law_721 : decode cL_law 721 = .ok (.iconst 2, 1) := edL_law_720.2.1
theorem dL_law_722 : decode cL_law 722 = .ok (.iadd, 1) := edL_law_720.2.2.1
theorem dL_law_723 : decode cL_law 723 = .ok (.iaload, 1) := edL_law_720.2.2.2.1
theorem dL_law_724 : decode cL_law 724 = .ok (.invokevirtual 116, 3) := edL_law_720.2.2.2.2.1
theorem dL_law_727 : decode cL_law 727 = .ok (.pop, 1) := edL_law_720.2.2.2.2.2.1
theorem dL_law_728 : decode cL_law 728 = .ok (.goto 134, 3) := edL_law_720.2.2.2.2.2.2.1
theorem dL_law_731 : decode cL_law 731 = .ok (.aload_n 1, 1) := edL_law_720.2.2.2.2.2.2.2.1
theorem dL_law_732 : decode cL_law 732 = .ok (.aload_n 0, 1) := edL_law_720.2.2.2.2.2.2.2.2.1
theorem dL_law_733 : decode cL_law 733 = .ok (.iload_n 3, 1) := edL_law_720.2.2.2.2.2.2.2.2.2.1
theorem dL_law_734 : decode cL_law 734 = .ok (.iconst 1, 1) := edL_law_720.2.2.2.2.2.2.2.2.2.2.1
theorem dL_law_735 : decode cL_law 735 = .ok (.iadd, 1) := edL_law_720.2.2.2.2.2.2.2.2.2.2.2
set_option maxRecDepth 20000 in
theorem edL_law_736 : decode cL_law 736 = .ok (.iaload, 1) ∧ decode cL_law 737 = .ok (.invokevirtual 117, 3) ∧ decode cL_law 740 = .ok (.pop, 1) ∧ decode cL_law 741 = .ok (.aload_n 2, 1) ∧ decode cL_law 742 = .ok (.aload_n 0, 1) ∧ decode cL_law 743 = .ok (.iload_n 3, 1) ∧ decode cL_law 744 = .ok (.iconst 1, 1) ∧ decode cL_law 745 = .ok (.iadd, 1) ∧ decode cL_law 746 = .ok (.iaload, 1) ∧ decode cL_law 747 = .ok (.invokevirtual 120, 3) ∧ decode cL_law 750 = .ok (.pop, 1) ∧ decode cL_law 751 = .ok (.goto 111, 3) := by decide +kernel
theorem dL_law_736 : decode cL_law 736 = .ok (.iaload, 1) := edL_law_736.1
theorem dL_law_737 : decode cL_law 737 = .ok (.invokevirtual 117, 3) := edL_law_736.2.1
theorem dL_law_740 : decode cL_law 740 = .ok (.pop, 1) := edL_law_736.2.2.1
theorem dL_law_741 : decode cL_law 741 = .ok (.aload_n 2, 1) := edL_law_736.2.2.2.1
theorem dL_law_742 : decode cL_law 742 = .ok (.aload_n 0, 1) := edL_law_736.2.2.2.2.1
theorem dL_law_743 : decode cL_law 743 = .ok (.iload_n 3, 1) := edL_law_736.2.2.2.2.2.1
theorem dL_law_744 : decode cL_law 744 = .ok (.iconst 1, 1) := edL_law_736.2.2.2.2.2.2.1
theorem dL_law_745 : decode cL_law 745 = .ok (.iadd, 1) := edL_law_736.2.2.2.2.2.2.2.1
theorem dL_law_746 : decode cL_law 746 = .ok (.iaload, 1) := edL_law_736.2.2.2.2.2.2.2.2.1
theorem dL_law_747 : decode cL_law 747 = .ok (.invokevirtual 120, 3) := edL_law_736.2.2.2.2.2.2.2.2.2.1
theorem dL_law_750 : decode cL_law 750 = .ok (.pop, 1) := edL_law_736.2.2.2.2.2.2.2.2.2.2.1
theorem dL_law_751 : decode cL_law 751 = .ok (.goto 111, 3) := edL_law_736.2.2.2.2.2.2.2.2.2.2.2
set_option maxRecDepth 20000 in
theorem edL_law_754 : decode cL_law 754 = .ok (.aload_n 1, 1) ∧ decode cL_law 755 = .ok (.invokevirtual 121, 3) ∧ decode cL_law 758 = .ok (.pop, 1) ∧ decode cL_law 759 = .ok (.aload_n 2, 1) ∧ decode cL_law 760 = .ok (.invokevirtual 124, 3) ∧ decode cL_law 763 = .ok (.pop, 1) ∧ decode cL_law 764 = .ok (.goto 98, 3) ∧ decode cL_law 767 = .ok (.aload_n 1, 1) ∧ decode cL_law 768 = .ok (.invokevirtual 125, 3) ∧ decode cL_law 771 = .ok (.pop, 1) ∧ decode cL_law 772 = .ok (.aload_n 2, 1) ∧ decode cL_law 773 = .ok (.invokevirtual 128, 3) := by decide +kernel
theorem dL_law_754 : decode cL_law 754 = .ok (.aload_n 1, 1) := edL_law_754.1
theorem dL_law_755 : decode cL_law 755 = .ok (.invokevirtual 121, 3) := edL_law_754.2.1
theorem dL_law_758 : decode cL_law 758 = .ok (.pop, 1) := edL_law_754.2.2.1
theorem dL_law_759 : decode cL_law 759 = .ok (.aload_n 2, 1) := edL_law_754.2.2.2.1
theorem dL_law_760 : decode cL_law 760 = .ok (.invokevirtual 124, 3) := edL_law_754.2.2.2.2.1
theorem dL_law_763 : decode cL_law 763 = .ok (.pop, 1) := edL_law_754.2.2.2.2.2.1
theorem dL_law_764 : decode cL_law 764 = .ok (.goto 98, 3) := edL_law_754.2.2.2.2.2.2.1
theorem dL_law_767 : decode cL_law 767 = .ok (.aload_n 1, 1) := edL_law_754.2.2.2.2.2.2.2.1
theorem dL_law_768 : decode cL_law 768 = .ok (.invokevirtual 125, 3) := edL_law_754.2.2.2.2.2.2.2.2.1
theorem dL_law_771 : decode cL_law 771 = .ok (.pop, 1) := edL_law_754.2.2.2.2.2.2.2.2.2.1
theorem dL_law_772 : decode cL_law 772 = .ok (.aload_n 2, 1) := edL_law_754.2.2.2.2.2.2.2.2.2.2.1
theorem dL_law_773 : decode cL_law 773 = .ok (.invokevirtual 128, 3) := edL_law_754.2.2.2.2.2.2.2.2.2.2.2
set_option maxRecDepth 20000 in
theorem edL_law_776 : decode cL_law 776 = .ok (.pop, 1) ∧ decode cL_law 777 = .ok (.goto 85, 3) ∧ decode cL_law 780 = .ok (.aload_n 1, 1) ∧ decode cL_law 781 = .ok (.aload_n 0, 1) ∧ decode cL_law 782 = .ok (.iload_n 3, 1) ∧ decode cL_law 783 = .ok (.iconst 1, 1) ∧ decode cL_law 784 = .ok (.iadd, 1) ∧ decode cL_law 785 = .ok (.iaload, 1) ∧ decode cL_law 786 = .ok (.aload_n 0, 1) ∧ decode cL_law 787 = .ok (.iload_n 3, 1) ∧ decode cL_law 788 = .ok (.iconst 2, 1) ∧ decode cL_law 789 = .ok (.iadd, 1) := by decide +kernel
theorem dL_law_776 : decode cL_law 776 = .ok (.pop, 1) := edL_law_776.1
theorem dL_law_777 : decode cL_law 777 = .ok (.goto 85, 3) := edL_law_776.2.1
theorem dL_law_780 : decode cL_law 780 = .ok (.aload_n 1, 1) := edL_law_776.2.2.1
theorem dL_law_781 : decode cL_law 781 = .ok (.aload_n 0, 1) := edL_law_776.2.2.2.1
theorem dL_law_782 : decode cL_law 782 = .ok (.iload_n 3, 1) := edL_law_776.2.2.2.2.1
theorem dL_law_783 : decode cL_law 783 = .ok (.iconst 1, 1) := edL_law_776.2.2.2.2.2.1
theorem dL_law_784 : decode cL_law 784 = .ok (.iadd, 1) := edL_law_776.2.2.2.2.2.2.1
theorem dL_law_785 : decode cL_law 785 = .ok (.iaload, 1) := edL_law_776.2.2.2.2.2.2.2.1
theorem dL_law_786 : decode cL_law 786 = .ok (.aload_n 0, 1) := edL_law_776.2.2.2.2.2.2.2.2.1
theorem dL_law_787 : decode cL_law 787 = .ok (.iload_n 3, 1) := edL_law_776.2.2.2.2.2.2.2.2.2.1
theorem dL_law_788 : decode cL_law 788 = .ok (.iconst 2, 1) := edL_law_776.2.2.2.2.2.2.2.2.2.2.1
theorem dL_law_789 : decode cL_law 789 = .ok (.iadd, 1) := edL_law_776.2.2.2.2.2.2.2.2.2.2.2
set_option maxRecDepth 20000 in
theorem edL_law_790 : decode cL_law 790 = .ok (.iaload, 1) ∧ decode cL_law 791 = .ok (.invokevirtual 129, 3) ∧ decode cL_law 794 = .ok (.pop, 1) ∧ decode cL_law 795 = .ok (.aload_n 2, 1) ∧ decode cL_law 796 = .ok (.aload_n 0, 1) ∧ decode cL_law 797 = .ok (.iload_n 3, 1) ∧ decode cL_law 798 = .ok (.iconst 1, 1) ∧ decode cL_law 799 = .ok (.iadd, 1) ∧ decode cL_law 800 = .ok (.iaload, 1) ∧ decode cL_law 801 = .ok (.aload_n 0, 1) ∧ decode cL_law 802 = .ok (.iload_n 3, 1) ∧ decode cL_law 803 = .ok (.iconst 2, 1) := by decide +kernel
theorem dL_law_790 : decode cL_law 790 = .ok (.iaload, 1) := edL_law_790.1
theorem dL_law_791 : decode cL_law 791 = .ok (.invokevirtual 129, 3) := edL_law_790.2.1
theorem dL_law_794 : decode cL_law 794 = .ok (.pop, 1) := edL_law_790.2.2.1
theorem dL_law_795 : decode cL_law 795 = .ok (.aload_n 2, 1) := edL_law_790.2.2.2.1
theorem dL_law_796 : decode cL_law 796 = .ok (.aload_n 0, 1) := edL_law_790.2.2.2.2.1
theorem dL_law_797 : decode cL_law 797 = .ok (.iload_n 3, 1) := edL_law_790.2.2.2.2.2.1
theorem dL_law_798 : decode cL_law 798 = .ok (.iconst 1, 1) := edL_law_790.2.2.2.2.2.2.1
theorem dL_law_799 : decode cL_law 799 = .ok (.iadd, 1) := edL_law_790.2.2.2.2.2.2.2.1
theorem dL_law_800 : decode cL_law 800 = .ok (.iaload, 1) := edL_law_790.2.2.2.2.2.2.2.2.1
theorem dL_law_801 : decode cL_law 801 = .ok (.aload_n 0, 1) := edL_law_790.2.2.2.2.2.2.2.2.2.1
theorem dL_law_802 : decode cL_law 802 = .ok (.iload_n 3, 1) := edL_law_790.2.2.2.2.2.2.2.2.2.2.1
theorem dL_law_803 : decode cL_law 803 = .ok (.iconst 2, 1) := edL_law_790.2.2.2.2.2.2.2.2.2.2.2
set_option maxRecDepth 20000 in
theorem edL_law_804 : decode cL_law 804 = .ok (.iadd, 1) ∧ decode cL_law 805 = .ok (.iaload, 1) ∧ decode cL_law 806 = .ok (.invokevirtual 132, 3) ∧ decode cL_law 809 = .ok (.pop, 1) ∧ decode cL_law 810 = .ok (.goto 52, 3) ∧ decode cL_law 813 = .ok (.aload_n 1, 1) ∧ decode cL_law 814 = .ok (.invokevirtual 133, 3) ∧ decode cL_law 817 = .ok (.pop, 1) ∧ decode cL_law 818 = .ok (.aload_n 2, 1) ∧ decode cL_law 819 = .ok (.invokevirtual 136, 3) ∧ decode cL_law 822 = .ok (.pop, 1) ∧ decode cL_law 823 = .ok (.goto 39, 3) := by decide +kernel
theorem dL_law_804 : decode cL_law 804 = .ok (.iadd, 1) := edL_law_804.1
theorem dL_law_805 : decode cL_law 805 = .ok (.iaload, 1) := edL_law_804.2.1
theorem dL_law_806 : decode cL_law 806 = .ok (.invokevirtual 132, 3) := edL_law_804.2.2.1
theorem dL_law_809 : decode cL_law 809 = .ok (.pop, 1) := edL_law_804.2.2.2.1
theorem dL_law_810 : decode cL_law 810 = .ok (.goto 52, 3) := edL_law_804.2.2.2.2.1
theorem dL_law_813 : decode cL_law 813 = .ok (.aload_n 1, 1) := edL_law_804.2.2.2.2.2.1
theorem dL_law_814 : decode cL_law 814 = .ok (.invokevirtual 133, 3) := edL_law_804.2.2.2.2.2.2.1
theorem dL_law_817 : decode cL_law 817 = .ok (.pop, 1) := edL_law_804.2.2.2.2.2.2.2.1
theorem dL_law_818 : decode cL_law 818 = .ok (.aload_n 2, 1) := edL_law_804.2.2.2.2.2.2.2.2.1
theorem dL_law_819 : decode cL_law 819 = .ok (.invokevirtual 136, 3) := edL_law_804.2.2.2.2.2.2.2.2.2.1
theorem dL_law_822 : decode cL_law 822 = .ok (.pop, 1) := edL_law_804.2.2.2.2.2.2.2.2.2.2.1
theorem dL_law_823 : decode cL_law 823 = .ok (.goto 39, 3) := edL_law_804.2.2.2.2.2.2.2.2.2.2.2
set_option maxRecDepth 20000 in
theorem edL_law_826 : decode cL_law 826 = .ok (.aload_n 1, 1) ∧ decode cL_law 827 = .ok (.invokevirtual 137, 3) ∧ decode cL_law 830 = .ok (.aload_n 2, 1) ∧ decode cL_law 831 = .ok (.invokevirtual 140, 3) ∧ decode cL_law 834 = .ok (.if_icmp .eq 28, 3) ∧ decode cL_law 839 = .ok (.aload_n 1, 1) ∧ decode cL_law 840 = .ok (.aload_n 0, 1) ∧ decode cL_law 841 = .ok (.iload_n 3, 1) ∧ decode cL_law 842 = .ok (.iconst 1, 1) ∧ decode cL_law 843 = .ok (.iadd, 1) ∧ decode cL_law 844 = .ok (.iaload, 1) ∧ decode cL_law 845 = .ok (.invokevirtual 141, 3) := by decide +kernel
theorem dL_law_826 : decode cL_law 826 = .ok (.aload_n 1, 1) := edL_law_826.1
theorem dL_law_827 : decode cL_law 827 = .ok (.invokevirtual 137, 3) := edL_law_826.2.1
theorem dL_law_830 : decode cL_law 830 = .ok (.aload_n 2, 1) := edL_law_826.2.2.1
theorem dL_law_831 : decode cL_law 831 = .ok (.invokevirtual 140, 3) := edL_law_826.2.2.2.1
theorem dL_law_834 : decode cL_law 834 = .ok (.if_icmp .eq 28, 3) := edL_law_826.2.2.2.2.1
theorem dL_law_839 : decode cL_law 839 = .ok (.aload_n 1, 1) := edL_law_826.2.2.2.2.2.1
theorem dL_law_840 : decode cL_law 840 = .ok (.aload_n 0, 1) := edL_law_826.2.2.2.2.2.2.1
theorem dL_law_841 : decode cL_law 841 = .ok (.iload_n 3, 1) := edL_law_826.2.2.2.2.2.2.2.1
theorem dL_law_842 : decode cL_law 842 = .ok (.iconst 1, 1) := edL_law_826.2.2.2.2.2.2.2.2.1
theorem dL_law_843 : decode cL_law 843 = .ok (.iadd, 1) := edL_law_826.2.2.2.2.2.2.2.2.2.1
theorem dL_law_844 : decode cL_law 844 = .ok (.iaload, 1) := edL_law_826.2.2.2.2.2.2.2.2.2.2.1
theorem dL_law_845 : decode cL_law 845 = .ok (.invokevirtual 141, 3) := edL_law_826.2.2.2.2.2.2.2.2.2.2.2
set_option maxRecDepth 20000 in
theorem edL_law_848 : decode cL_law 848 = .ok (.pop, 1) ∧ decode cL_law 849 = .ok (.aload_n 2, 1) ∧ decode cL_law 850 = .ok (.aload_n 0, 1) ∧ decode cL_law 851 = .ok (.iload_n 3, 1) ∧ decode cL_law 852 = .ok (.iconst 1, 1) ∧ decode cL_law 853 = .ok (.iadd, 1) ∧ decode cL_law 854 = .ok (.iaload, 1) ∧ decode cL_law 855 = .ok (.invokevirtual 144, 3) ∧ decode cL_law 858 = .ok (.pop, 1) ∧ decode cL_law 859 = .ok (.goto 3, 3) ∧ decode cL_law 862 = .ok (.iinc 3 3, 3) ∧ decode cL_law 865 = .ok (.goto (-847), 3) := by decide +kernel
theorem dL_law_848 : decode cL_law 848 = .ok (.pop, 1) := edL_law_848.1
theorem dL_law_849 : decode cL_law 849 = .ok (.aload_n 2, 1) := edL_law_848.2.1
theorem dL_law_850 : decode cL_law 850 = .ok (.aload_n 0, 1) := edL_law_848.2.2.1
theorem dL_law_851 : decode cL_law 851 = .ok (.iload_n 3, 1) := edL_law_848.2.2.2.1
theorem dL_law_852 : decode cL_law 852 = .ok (.iconst 1, 1) := edL_law_848.2.2.2.2.1
theorem dL_law_853 : decode cL_law 853 = .ok (.iadd, 1) := edL_law_848.2.2.2.2.2.1
theorem dL_law_854 : decode cL_law 854 = .ok (.iaload, 1) := edL_law_848.2.2.2.2.2.2.1
theorem dL_law_855 : decode cL_law 855 = .ok (.invokevirtual 144, 3) := edL_law_848.2.2.2.2.2.2.2.1
theorem dL_law_858 : decode cL_law 858 = .ok (.pop, 1) := edL_law_848.2.2.2.2.2.2.2.2.1
theorem dL_law_859 : decode cL_law 859 = .ok (.goto 3, 3) := edL_law_848.2.2.2.2.2.2.2.2.2.1
theorem dL_law_862 : decode cL_law 862 = .ok (.iinc 3 3, 3) := edL_law_848.2.2.2.2.2.2.2.2.2.2.1
theorem dL_law_865 : decode cL_law 865 = .ok (.goto (-847), 3) := edL_law_848.2.2.2.2.2.2.2.2.2.2.2
set_option maxRecDepth 20000 in
theorem edL_law_868 : decode cL_law 868 = .ok (.iconst 1, 1) ∧ decode cL_law 869 = .ok (.ireturn, 1) := by decide +kernel
theorem dL_law_868 : decode cL_law 868 = .ok (.iconst 1, 1) := edL_law_868.1
theorem dL_law_869 : decode cL_law 869 = .ok (.ireturn, 1) := edL_law_868.2
def zIv (dC : Nat → ClassId) (dI : Nat → Nat → Nat) (cI cQ : ClassId) (A : Nat → Prop) (hox_0_0 hox_0_1 hox_0_2 hox_0_4 hox_0_5 hox_0_6 hox_0_7 hox_0_11 hox_0 hox_1_0 hox_1_1 hox_1_2 hox_1_4 hox_1_5 hox_1_6 hox_1_7 hox_1_11 hox_1 hox_3_0_0 hox_3_0 hox_3_1 hox_3 hox_5_0 hox_5 hox_6 hox_8 hox hom_0 hom_1 hom_2 hom_3 hom_4 hom_5 hom_6 hom_7 hom_8 hom_16 hom_17 hom_18 hom_19 hom_23 hom_29 hom_33 hom_34 hom_35 hom : Nat) (N : Int) (H : Heap) : Prop := ∃ (u : ZU × (Nat → Nat → ZQ)) (pw : va_W), ((zHp (zPLs pw) (u.2 0)) ∧ (∀ k, 0 ≤ ((u.1.2 4) k).toInt ∧ ((u.1.2 4) k).toInt ≤ 4) ∧ (∀ k, (-48) ≤ ((u.1.2 5) k).toInt ∧ ((u.1.2 5) k).toInt ≤ 207) ∧ (0 ≤ ((u.1.1 5) : Int32).toInt ∧ ((u.1.1 5) : Int32).toInt ≤ 5) ∧ (0 ≤ ((u.1.1 7) : Int32).toInt ∧ ((u.1.1 7) : Int32).toInt ≤ 12) ∧ (zHp (zPLs pw) (u.2 1)) ∧ (∀ k, 0 ≤ ((u.1.2 10) k).toInt ∧ ((u.1.2 10) k).toInt ≤ 4) ∧ (∀ k, (-48) ≤ ((u.1.2 11) k).toInt ∧ ((u.1.2 11) k).toInt ≤ 207) ∧ (0 ≤ ((u.1.1 14) : Int32).toInt ∧ ((u.1.1 14) : Int32).toInt ≤ 5) ∧ (0 ≤ ((u.1.1 16) : Int32).toInt ∧ ((u.1.1 16) : Int32).toInt ≤ 12) ∧ (0 ≤ ((u.1.1 18) : Int32).toInt ∧ ((u.1.1 18) : Int32).toInt ≤ 12) ∧ (∀ k, 0 ≤ ((u.1.2 13) k).toInt ∧ ((u.1.2 13) k).toInt ≤ 255) ∧ (0 ≤ ((u.1.1 25) : Int32).toInt ∧ ((u.1.1 25) : Int32).toInt ≤ 80) ∧ (0 ≤ ((u.1.1 26) : Int32).toInt ∧ ((u.1.1 26) : Int32).toInt ≤ 1) ∧ (0 ≤ ((u.1.1 27) : Int32).toInt ∧ ((u.1.1 27) : Int32).toInt ≤ 12) ∧ (∀ k, 0 ≤ ((u.1.2 20) k).toInt ∧ ((u.1.2 20) k).toInt ≤ 4) ∧ (∀ k, 0 ≤ ((u.1.2 21) k).toInt ∧ ((u.1.2 21) k).toInt ≤ 4) ∧ (∀ k, 0 ≤ ((u.1.2 22) k).toInt ∧ ((u.1.2 22) k).toInt ≤ 9) ∧ (∀ k, 0 ≤ ((u.1.2 25) k).toInt ∧ ((u.1.2 25) k).toInt ≤ 255) ∧ (∀ k, 0 ≤ ((u.1.2 27) k).toInt ∧ ((u.1.2 27) k).toInt ≤ 80) ∧ (zT (u.1.2 28)) ∧ (zKp (u.1.2 29)) ∧ (∀ k, 0 ≤ ((u.1.2 31) k).toInt ∧ ((u.1.2 31) k).toInt ≤ 9) ∧ (∀ k, 0 ≤ ((u.1.2 32) k).toInt ∧ ((u.1.2 32) k).toInt ≤ 11) ∧ (∀ k, 0 ≤ ((u.1.2 33) k).toInt ∧ ((u.1.2 33) k).toInt ≤ 11) ∧ (0 ≤ ((u.1.1 28) : Int32).toInt ∧ ((u.1.1 28) : Int32).toInt ≤ 5) ∧ (0 ≤ ((u.1.1 29) : Int32).toInt ∧ ((u.1.1 29) : Int32).toInt ≤ 12) ∧ ((-9) ≤ ((u.1.1 33) : Int32).toInt ∧ ((u.1.1 33) : Int32).toInt ≤ 11) ∧ (0 ≤ ((u.1.1 35) : Int32).toInt ∧ ((u.1.1 35) : Int32).toInt ≤ 80) ∧ (0 ≤ ((u.1.1 36) : Int32).toInt ∧ ((u.1.1 36) : Int32).toInt ≤ 80) ∧ (0 ≤ ((u.1.1 37) : Int32).toInt ∧ ((u.1.1 37) : Int32).toInt ≤ 40) ∧ (0 ≤ ((u.1.1 38) : Int32).toInt ∧ ((u.1.1 38) : Int32).toInt ≤ 1) ∧ (0 ≤ ((u.1.1 39) : Int32).toInt ∧ ((u.1.1 39) : Int32).toInt ≤ 1) ∧ (0 ≤ ((u.1.1 40) : Int32).toInt ∧ ((u.1.1 40) : Int32).toInt ≤ 300) ∧ ((-9) ≤ ((u.1.1 41) : Int32).toInt ∧ ((u.1.1 41) : Int32).toInt ≤ 11) ∧ (0 ≤ ((u.1.1 43) : Int32).toInt ∧ ((u.1.1 43) : Int32).toInt ≤ 60) ∧ (0 ≤ ((u.1.1 45) : Int32).toInt ∧ ((u.1.1 45) : Int32).toInt ≤ 1) ∧ (0 ≤ ((u.1.1 46) : Int32).toInt ∧ ((u.1.1 46) : Int32).toInt ≤ 12) ∧ zPw pw ∧ (((u.1.1 5) : Int32).toInt = ((u.1.1 28) : Int32).toInt) ∧ (((u.1.1 7) : Int32).toInt = ((u.1.1 29) : Int32).toInt) ∧ (((u.1.2 0) : Nat → Int32) = (u.1.2 19)) ∧ (((u.1.2 5) : Nat → Int32) = (u.1.2 22)) ∧ (((u.1.1 26) : Int32).toInt = ((u.1.1 38) : Int32).toInt) ∧ (zIm (u.1.1 26) (u.1.1 14) (u.1.1 16) (u.1.1 17) (u.1.2 6) (u.1.2 11) (u.1.2 29)) ∧ (((u.1.1 25) : Int32).toInt = ((u.1.1 35) : Int32).toInt) ∧ (((u.1.2 13) : Nat → Int32) = (u.1.2 25)) ∧ (((u.1.1 27) : Int32).toInt = ((u.1.1 46) : Int32).toInt) ∧ (((u.1.2 14) : Nat → Int32) = (u.1.2 33)) ∧ (((u.1.1 8) : Int32).toInt = ((u.1.1 30) : Int32).toInt) ∧ (zRe ((u.1.1 5) : Int32) ((u.1.1 7) : Int32) ((u.1.1 6) : Int32) (u.1.2 0) (u.1.2 5) (u.1.2 1) (u.1.2 2) (u.1.2 3) (u.1.2 4) (zSt (u.1.2 17) (u.1.2 18) (u.1.2 19) (u.1.2 20) (u.1.2 21) (u.1.2 22) (u.1.2 23) (u.1.2 24) ((u.1.1 28) : Int32).toInt ((u.1.1 29) : Int32).toInt 0)) ∧ (zIr ((u.1.1 26) : Int32) ((u.1.1 14) : Int32) ((u.1.1 16) : Int32) ((u.1.1 15) : Int32) (u.1.2 6) (u.1.2 11) (u.1.2 7) (u.1.2 8) (u.1.2 9) (u.1.2 10) (u.1.2 29)) ∧ (((u.1.1 41) : Int32).toInt = -9) ∧ (zKn ((u.1.1 5) : Int32).toInt (u.2 0) (u.1.2 17) (u.1.2 18)) ∧ (zKi ((u.1.1 26) : Int32) (u.1.1 14) (u.2 1) (u.1.2 29)) ∧ (((u.1.1 0) : Int32) = (u.1.1 31)) ∧ (((u.1.1 1) : Int32) = (u.1.1 32)) ∧ (((u.1.1 2) : Int32) = (u.1.1 33)) ∧ (((u.1.1 3) : Int32) = (u.1.1 34)) ∧ (zLt (u.1.1 7) (u.1.1 2) (u.1.1 3) N) ∧ (zNi ((u.1.1 26) : Int32) (u.1.1 16) (u.1.1 9) (u.1.1 10) (u.1.1 11) (u.1.1 12) (u.1.2 29) N) ∧ (zSrR ((u.1.1 5) : Int32).toInt (u.1.2 0)) ∧ (zSi ((u.1.1 26) : Int32) (u.1.1 14) (u.1.2 6)) ∧ (zK1 (u.1.2 23)) ∧ (zK1i ((u.1.1 26) : Int32) (u.1.2 29))) ∧ va_P (dC, dI) vwCl (((hox_0_0, .inl (cQ, 5, .inr (.inr (.inr (.inr (fun i => ((u.2 0) i).1)))))) :: (hox_0_1, .inl (cI, 5, .inl (u.1.2 0))) :: (hox_0_2, .inl (cI, 5, .inl (u.1.2 1))) :: (hox_0_4, .inl (cI, 12, .inl (u.1.2 2))) :: (hox_0_5, .inl (cI, 12, .inl (u.1.2 3))) :: (hox_0_6, .inl (cI, 12, .inl (u.1.2 4))) :: (hox_0_7, .inl (cI, 12, .inl (u.1.2 5))) :: (hox_0_11, .inr (9, [.int (u.1.1 0), .int (u.1.1 1), .int (u.1.1 2), .int (u.1.1 3), .int (u.1.1 4)])) :: (hox_0, .inr (7, [.ref hox_0_0, .ref hox_0_1, .ref hox_0_2, .int (u.1.1 5), .ref hox_0_4, .ref hox_0_5, .ref hox_0_6, .ref hox_0_7, .int (u.1.1 6), .int (u.1.1 7), .int (u.1.1 8), .ref hox_0_11])) :: (hox_1_0, .inl (cQ, 5, .inr (.inr (.inr (.inr (fun i => ((u.2 1) i).1)))))) :: (hox_1_1, .inl (cI, 5, .inl (u.1.2 6))) :: (hox_1_2, .inl (cI, 5, .inl (u.1.2 7))) :: (hox_1_4, .inl (cI, 12, .inl (u.1.2 8))) :: (hox_1_5, .inl (cI, 12, .inl (u.1.2 9))) :: (hox_1_6, .inl (cI, 12, .inl (u.1.2 10))) :: (hox_1_7, .inl (cI, 12, .inl (u.1.2 11))) :: (hox_1_11, .inr (9, [.int (u.1.1 9), .int (u.1.1 10), .int (u.1.1 11), .int (u.1.1 12), .int (u.1.1 13)])) :: (hox_1, .inr (7, [.ref hox_1_0, .ref hox_1_1, .ref hox_1_2, .int (u.1.1 14), .ref hox_1_4, .ref hox_1_5, .ref hox_1_6, .ref hox_1_7, .int (u.1.1 15), .int (u.1.1 16), .int (u.1.1 17), .ref hox_1_11])) :: (hox_3_0_0, .inl (cI, 12, .inl (u.1.2 12))) :: (hox_3_0, .inr (5, [.ref hox_3_0_0, .int (u.1.1 18)])) :: (hox_3_1, .inr (9, [.int (u.1.1 19), .int (u.1.1 20), .int (u.1.1 21), .int (u.1.1 22), .int (u.1.1 23)])) :: (hox_3, .inr (2, [.ref hox_3_0, .ref hox_3_1, .int (u.1.1 24)])) :: (hox_5_0, .inl (cI, 80, .inl (u.1.2 13))) :: (hox_5, .inr (4, [.ref hox_5_0, .int (u.1.1 25)])) :: (hox_6, .inl (cI, 12, .inl (u.1.2 14))) :: (hox_8, .inl (cI, 7, .inl (u.1.2 15))) :: (hox, .inr (11, [.ref hox_0, .ref hox_1, .int (u.1.1 26), .ref hox_3, .ref hox_3_0, .ref hox_5, .ref hox_6, .int (u.1.1 27), .ref hox_8])) :: (hom_0, .inl (cI, 7, .inl (u.1.2 16))) :: (hom_1, .inl (cI, 5, .inl (u.1.2 17))) :: (hom_2, .inl (cI, 5, .inl (u.1.2 18))) :: (hom_3, .inl (cI, 5, .inl (u.1.2 19))) :: (hom_4, .inl (cI, 12, .inl (u.1.2 20))) :: (hom_5, .inl (cI, 12, .inl (u.1.2 21))) :: (hom_6, .inl (cI, 12, .inl (u.1.2 22))) :: (hom_7, .inl (cI, 12, .inl (u.1.2 23))) :: (hom_8, .inl (cI, 60, .inl (u.1.2 24))) :: (hom_16, .inl (cI, 80, .inl (u.1.2 25))) :: (hom_17, .inl (cI, 40, .inl (u.1.2 26))) :: (hom_18, .inl (cI, 40, .inl (u.1.2 27))) :: (hom_19, .inl (cI, 320, .inl (u.1.2 28))) :: (hom_23, .inl (cI, 300, .inl (u.1.2 29))) :: (hom_29, .inl (cI, 60, .inl (u.1.2 30))) :: (hom_33, .inl (cI, 12, .inl (u.1.2 31))) :: (hom_34, .inl (cI, 12, .inl (u.1.2 32))) :: (hom_35, .inl (cI, 12, .inl (u.1.2 33))) :: (hom, .inr (12, (.ref hom_0 :: .ref hom_1 :: .ref hom_2 :: .ref hom_3 :: .ref hom_4 :: .ref hom_5 :: .ref hom_6 :: .ref hom_7 :: .ref hom_8 :: .int (u.1.1 28) :: .int (u.1.1 29) :: .int (u.1.1 30) :: .int (u.1.1 31) :: .int (u.1.1 32) :: .int (u.1.1 33) :: .int (u.1.1 34) :: .ref hom_16 :: .ref hom_17 :: .ref hom_18 :: .ref hom_19 :: .int (u.1.1 35) :: .int (u.1.1 36) :: .int (u.1.1 37) :: .ref hom_23 :: .int (u.1.1 38) :: .int (u.1.1 39) :: .int (u.1.1 40) :: .int (u.1.1 41) :: .int (u.1.1 42) :: .ref hom_29 :: .int (u.1.1 43) :: .int (u.1.1 44) :: .int (u.1.1 45) :: .ref hom_33 :: .ref hom_34 :: .ref hom_35 :: .int (u.1.1 46) :: .int (u.1.1 47) :: []))) :: []) ++ pw) H ∧ va_D A (((hox_0_0, .inl (cQ, 5, .inr (.inr (.inr (.inr (fun i => ((u.2 0) i).1)))))) :: (hox_0_1, .inl (cI, 5, .inl (u.1.2 0))) :: (hox_0_2, .inl (cI, 5, .inl (u.1.2 1))) :: (hox_0_4, .inl (cI, 12, .inl (u.1.2 2))) :: (hox_0_5, .inl (cI, 12, .inl (u.1.2 3))) :: (hox_0_6, .inl (cI, 12, .inl (u.1.2 4))) :: (hox_0_7, .inl (cI, 12, .inl (u.1.2 5))) :: (hox_0_11, .inr (9, [.int (u.1.1 0), .int (u.1.1 1), .int (u.1.1 2), .int (u.1.1 3), .int (u.1.1 4)])) :: (hox_0, .inr (7, [.ref hox_0_0, .ref hox_0_1, .ref hox_0_2, .int (u.1.1 5), .ref hox_0_4, .ref hox_0_5, .ref hox_0_6, .ref hox_0_7, .int (u.1.1 6), .int (u.1.1 7), .int (u.1.1 8), .ref hox_0_11])) :: (hox_1_0, .inl (cQ, 5, .inr (.inr (.inr (.inr (fun i => ((u.2 1) i).1)))))) :: (hox_1_1, .inl (cI, 5, .inl (u.1.2 6))) :: (hox_1_2, .inl (cI, 5, .inl (u.1.2 7))) :: (hox_1_4, .inl (cI, 12, .inl (u.1.2 8))) :: (hox_1_5, .inl (cI, 12, .inl (u.1.2 9))) :: (hox_1_6, .inl (cI, 12, .inl (u.1.2 10))) :: (hox_1_7, .inl (cI, 12, .inl (u.1.2 11))) :: (hox_1_11, .inr (9, [.int (u.1.1 9), .int (u.1.1 10), .int (u.1.1 11), .int (u.1.1 12), .int (u.1.1 13)])) :: (hox_1, .inr (7, [.ref hox_1_0, .ref hox_1_1, .ref hox_1_2, .int (u.1.1 14), .ref hox_1_4, .ref hox_1_5, .ref hox_1_6, .ref hox_1_7, .int (u.1.1 15), .int (u.1.1 16), .int (u.1.1 17), .ref hox_1_11])) :: (hox_3_0_0, .inl (cI, 12, .inl (u.1.2 12))) :: (hox_3_0, .inr (5, [.ref hox_3_0_0, .int (u.1.1 18)])) :: (hox_3_1, .inr (9, [.int (u.1.1 19), .int (u.1.1 20), .int (u.1.1 21), .int (u.1.1 22), .int (u.1.1 23)])) :: (hox_3, .inr (2, [.ref hox_3_0, .ref hox_3_1, .int (u.1.1 24)])) :: (hox_5_0, .inl (cI, 80, .inl (u.1.2 13))) :: (hox_5, .inr (4, [.ref hox_5_0, .int (u.1.1 25)])) :: (hox_6, .inl (cI, 12, .inl (u.1.2 14))) :: (hox_8, .inl (cI, 7, .inl (u.1.2 15))) :: (hox, .inr (11, [.ref hox_0, .ref hox_1, .int (u.1.1 26), .ref hox_3, .ref hox_3_0, .ref hox_5, .ref hox_6, .int (u.1.1 27), .ref hox_8])) :: (hom_0, .inl (cI, 7, .inl (u.1.2 16))) :: (hom_1, .inl (cI, 5, .inl (u.1.2 17))) :: (hom_2, .inl (cI, 5, .inl (u.1.2 18))) :: (hom_3, .inl (cI, 5, .inl (u.1.2 19))) :: (hom_4, .inl (cI, 12, .inl (u.1.2 20))) :: (hom_5, .inl (cI, 12, .inl (u.1.2 21))) :: (hom_6, .inl (cI, 12, .inl (u.1.2 22))) :: (hom_7, .inl (cI, 12, .inl (u.1.2 23))) :: (hom_8, .inl (cI, 60, .inl (u.1.2 24))) :: (hom_16, .inl (cI, 80, .inl (u.1.2 25))) :: (hom_17, .inl (cI, 40, .inl (u.1.2 26))) :: (hom_18, .inl (cI, 40, .inl (u.1.2 27))) :: (hom_19, .inl (cI, 320, .inl (u.1.2 28))) :: (hom_23, .inl (cI, 300, .inl (u.1.2 29))) :: (hom_29, .inl (cI, 60, .inl (u.1.2 30))) :: (hom_33, .inl (cI, 12, .inl (u.1.2 31))) :: (hom_34, .inl (cI, 12, .inl (u.1.2 32))) :: (hom_35, .inl (cI, 12, .inl (u.1.2 33))) :: (hom, .inr (12, (.ref hom_0 :: .ref hom_1 :: .ref hom_2 :: .ref hom_3 :: .ref hom_4 :: .ref hom_5 :: .ref hom_6 :: .ref hom_7 :: .ref hom_8 :: .int (u.1.1 28) :: .int (u.1.1 29) :: .int (u.1.1 30) :: .int (u.1.1 31) :: .int (u.1.1 32) :: .int (u.1.1 33) :: .int (u.1.1 34) :: .ref hom_16 :: .ref hom_17 :: .ref hom_18 :: .ref hom_19 :: .int (u.1.1 35) :: .int (u.1.1 36) :: .int (u.1.1 37) :: .ref hom_23 :: .int (u.1.1 38) :: .int (u.1.1 39) :: .int (u.1.1 40) :: .int (u.1.1 41) :: .int (u.1.1 42) :: .ref hom_29 :: .int (u.1.1 43) :: .int (u.1.1 44) :: .int (u.1.1 45) :: .ref hom_33 :: .ref hom_34 :: .ref hom_35 :: .int (u.1.1 46) :: .int (u.1.1 47) :: []))) :: []) ++ pw)
