/-! THE CLAIM OUT OF ONE WALK OF THE LAW'S BODY. Your part is whole_start (and what it stands on); all else here is the same for every law, but numbers. -/
def R_law : String := "JoinVesselLaw"
def lw_P (b : Addr) (xs : List Int32) (args : Array Value) (s : State) : Prop := args = #[.ref b] ∧ s.IntsAt b xs ∧ xs.length ≤ 3072 ∧ (Jvm.Cond.and given_1 narrow_1).before args s = true
def lw_Q (_ : Array Value) (s : State) (o : Outcome) (t : State) : Prop := o = .returned (some (.int 1)) ∧ Framed s o t [] 600000 7302250
def lw_Z (below : List Frame) (a : Array Value) (s : State) : State → Prop := fun t => ∃ o, t.status = .running ∧ Ended t below o ∧ lw_Q a s o t
/-- the law's own end, with 1 on the stack, nothing written that was there before, its room as the claim has it -/
theorem lw_ret {p : Program} {l : Launch} {e : Env} {s : State} {m : MethodId} {below : List Frame} {meth : Method} {c : Code} {b : Nat} (hx : p.tables.exec = Jvm.exec) (hb : c.code = code) (hr : meth.sig.returnType = ret) (hlocks : meth.locks = false) {pc : Nat} {H : Heap} {ls : Array Slot} (hdg : decode code pc = .ok (.ireturn, 1)) : W p l e room_1 s m #[Value.ref b] below meth c H [] 600000 7302250 (lw_Z below #[Value.ref b] s) (F0 m pc ls [.int 1]) := by
  intro T hT X
  obtain ⟨fs, hret, hrun, hended, hW, hframe⟩ := X.leave (v := some (.int 1)) (hlocks := hlocks) (fun h => by rw [hr] at h; cases h)
  have hmeth' : T.vm.method? m = some meth := X.method'
  refine ⟨T.setFrames fs, ?_, .returned (some (.int 1)), hrun, hended, rfl, ⟨_, rfl⟩, hW, hframe⟩
  jvm_step X.here [X.here.top, hx, hb, hdg, hmeth', hr, ret, narrow_b1]
  (try refine ⟨rfl, ?_⟩); (try refine ⟨rfl, ?_⟩)
  first | (intro acts; rw [hret _ acts rfl rfl rfl]) | rw [hret _ _ rfl rfl rfl]
  exact Steps.refl _
/-- what holds at the law's entry: the machine, the code, the tables' words (any of lw_tbl by 'hts w (by decide +kernel)'), the script of L ints xs at the cell b, what the Statement gives of the start (any of its parts by flat_of_before) -/
def lw_At (p : Program) (s : State) (m : MethodId) (meth : Method) (c : Code) (b L : Nat) (xs : Nat → Int32) : Prop :=
  p.tables.exec = Jvm.exec ∧ c.code = code ∧ meth.sig.returnType = ret ∧ c.maxLocals = 4 ∧ s.vm.findClass R_law = some m.cls ∧ (∀ w ∈ lw_tbl, w.before #[Value.ref b] s = true) ∧ va_X b L xs s s.heap ∧ b < s.heap.size ∧ meth.locks = false ∧ (Jvm.Cond.and given_1 narrow_1).before #[Value.ref b] s = true
theorem lk246 : Cond.methodLink R_law 13 y_V_channel ∈ tbW := tb1_in (List.mem_of_getElem? (i := 163) rfl) rfl
theorem lk247 : Cond.instanceMethod y_V_channel ∈ tbW := tb1_in (List.mem_of_getElem? (i := 164) rfl) rfl
theorem lk248 : Cond.selects R_V y_V_channel y_V_channel ∈ tbW := tb1_in (List.mem_of_getElem? (i := 165) rfl) rfl
theorem lk249 : Cond.methodLink R_law 17 y_M_channel ∈ tbW := tb2_in (List.mem_of_getElem? (i := 232) rfl) rfl
theorem lk250 : Cond.instanceMethod y_M_channel ∈ tbW := tb2_in (List.mem_of_getElem? (i := 233) rfl) rfl
theorem lk251 : Cond.selects R_M y_M_channel y_M_channel ∈ tbW := tb2_in (List.mem_of_getElem? (i := 234) rfl) rfl
theorem lk252 : Cond.methodLink R_law 18 y_V_reaction ∈ tbW := tb1_in (List.mem_of_getElem? (i := 167) rfl) rfl
theorem lk253 : Cond.instanceMethod y_V_reaction ∈ tbW := tb1_in (List.mem_of_getElem? (i := 168) rfl) rfl
theorem lk254 : Cond.selects R_V y_V_reaction y_V_reaction ∈ tbW := tb1_in (List.mem_of_getElem? (i := 169) rfl) rfl
theorem lk255 : Cond.methodLink R_law 22 y_M_reaction ∈ tbW := tb2_in (List.mem_of_getElem? (i := 236) rfl) rfl
theorem lk256 : Cond.instanceMethod y_M_reaction ∈ tbW := tb2_in (List.mem_of_getElem? (i := 237) rfl) rfl
theorem lk257 : Cond.selects R_M y_M_reaction y_M_reaction ∈ tbW := tb2_in (List.mem_of_getElem? (i := 238) rfl) rfl
theorem lk258 : Cond.methodLink R_law 23 y_V_part ∈ tbW := tb1_in (List.mem_of_getElem? (i := 171) rfl) rfl
theorem lk259 : Cond.instanceMethod y_V_part ∈ tbW := tb1_in (List.mem_of_getElem? (i := 172) rfl) rfl
theorem lk260 : Cond.selects R_V y_V_part y_V_part ∈ tbW := tb1_in (List.mem_of_getElem? (i := 173) rfl) rfl
theorem lk261 : Cond.methodLink R_law 27 y_M_part ∈ tbW := tb3_in (List.mem_of_getElem? (i := 0) rfl) rfl
theorem lk262 : Cond.instanceMethod y_M_part ∈ tbW := tb3_in (List.mem_of_getElem? (i := 1) rfl) rfl
theorem lk263 : Cond.selects R_M y_M_part y_M_part ∈ tbW := tb3_in (List.mem_of_getElem? (i := 2) rfl) rfl
theorem lk264 : Cond.methodLink R_law 28 y_V_guard ∈ tbW := tb1_in (List.mem_of_getElem? (i := 190) rfl) rfl
theorem lk265 : Cond.instanceMethod y_V_guard ∈ tbW := tb1_in (List.mem_of_getElem? (i := 191) rfl) rfl
theorem lk266 : Cond.selects R_V y_V_guard y_V_guard ∈ tbW := tb1_in (List.mem_of_getElem? (i := 192) rfl) rfl
theorem lk267 : Cond.methodLink R_law 32 y_M_guard ∈ tbW := tb3_in (List.mem_of_getElem? (i := 12) rfl) rfl
theorem lk268 : Cond.instanceMethod y_M_guard ∈ tbW := tb3_in (List.mem_of_getElem? (i := 13) rfl) rfl
theorem lk269 : Cond.selects R_M y_M_guard y_M_guard ∈ tbW := tb3_in (List.mem_of_getElem? (i := 14) rfl) rfl
theorem lk270 : Cond.methodLink R_law 33 y_V_emit ∈ tbW := tb1_in (List.mem_of_getElem? (i := 194) rfl) rfl
theorem lk271 : Cond.instanceMethod y_V_emit ∈ tbW := tb1_in (List.mem_of_getElem? (i := 195) rfl) rfl
theorem lk272 : Cond.selects R_V y_V_emit y_V_emit ∈ tbW := tb1_in (List.mem_of_getElem? (i := 196) rfl) rfl
theorem lk273 : Cond.methodLink R_law 37 y_M_emit ∈ tbW := tb3_in (List.mem_of_getElem? (i := 16) rfl) rfl
theorem lk274 : Cond.instanceMethod y_M_emit ∈ tbW := tb3_in (List.mem_of_getElem? (i := 17) rfl) rfl
theorem lk275 : Cond.selects R_M y_M_emit y_M_emit ∈ tbW := tb3_in (List.mem_of_getElem? (i := 18) rfl) rfl
theorem lk276 : Cond.methodLink R_law 38 y_V_reply ∈ tbW := tb1_in (List.mem_of_getElem? (i := 215) rfl) rfl
theorem lk277 : Cond.instanceMethod y_V_reply ∈ tbW := tb1_in (List.mem_of_getElem? (i := 216) rfl) rfl
theorem lk278 : Cond.selects R_V y_V_reply y_V_reply ∈ tbW := tb1_in (List.mem_of_getElem? (i := 217) rfl) rfl
theorem lk279 : Cond.methodLink R_law 41 y_M_reply ∈ tbW := tb3_in (List.mem_of_getElem? (i := 32) rfl) rfl
theorem lk280 : Cond.instanceMethod y_M_reply ∈ tbW := tb3_in (List.mem_of_getElem? (i := 33) rfl) rfl
theorem lk281 : Cond.selects R_M y_M_reply y_M_reply ∈ tbW := tb3_in (List.mem_of_getElem? (i := 34) rfl) rfl
theorem lk282 : Cond.methodLink R_law 42 y_V_seal ∈ tbW := tb1_in (List.mem_of_getElem? (i := 224) rfl) rfl
theorem lk283 : Cond.instanceMethod y_V_seal ∈ tbW := tb1_in (List.mem_of_getElem? (i := 225) rfl) rfl
theorem lk284 : Cond.selects R_V y_V_seal y_V_seal ∈ tbW := tb1_in (List.mem_of_getElem? (i := 226) rfl) rfl
theorem lk285 : Cond.methodLink R_law 45 y_M_seal ∈ tbW := tb3_in (List.mem_of_getElem? (i := 40) rfl) rfl
theorem lk286 : Cond.instanceMethod y_M_seal ∈ tbW := tb3_in (List.mem_of_getElem? (i := 41) rfl) rfl
theorem lk287 : Cond.selects R_M y_M_seal y_M_seal ∈ tbW := tb3_in (List.mem_of_getElem? (i := 42) rfl) rfl
theorem lk288 : Cond.methodLink R_law 46 y_V_put ∈ tbW := tb1_in (List.mem_of_getElem? (i := 236) rfl) rfl
theorem lk289 : Cond.instanceMethod y_V_put ∈ tbW := tb1_in (List.mem_of_getElem? (i := 237) rfl) rfl
theorem lk290 : Cond.selects R_V y_V_put y_V_put ∈ tbW := tb1_in (List.mem_of_getElem? (i := 238) rfl) rfl
theorem lk291 : Cond.methodLink R_law 50 y_M_put ∈ tbW := tb3_in (List.mem_of_getElem? (i := 44) rfl) rfl
theorem lk292 : Cond.instanceMethod y_M_put ∈ tbW := tb3_in (List.mem_of_getElem? (i := 45) rfl) rfl
theorem lk293 : Cond.selects R_M y_M_put y_M_put ∈ tbW := tb3_in (List.mem_of_getElem? (i := 46) rfl) rfl
theorem lk294 : Cond.methodLink R_law 51 y_V_call ∈ tbW := tb2_in (List.mem_of_getElem? (i := 16) rfl) rfl
theorem lk295 : Cond.instanceMethod y_V_call ∈ tbW := tb2_in (List.mem_of_getElem? (i := 17) rfl) rfl
theorem lk296 : Cond.selects R_V y_V_call y_V_call ∈ tbW := tb2_in (List.mem_of_getElem? (i := 18) rfl) rfl
theorem lk297 : Cond.methodLink R_law 54 y_M_call ∈ tbW := tb3_in (List.mem_of_getElem? (i := 60) rfl) rfl
theorem lk298 : Cond.instanceMethod y_M_call ∈ tbW := tb3_in (List.mem_of_getElem? (i := 61) rfl) rfl
theorem lk299 : Cond.selects R_M y_M_call y_M_call ∈ tbW := tb3_in (List.mem_of_getElem? (i := 62) rfl) rfl
theorem lk300 : Cond.methodLink R_law 55 y_V_withdraw ∈ tbW := tb2_in (List.mem_of_getElem? (i := 20) rfl) rfl
theorem lk301 : Cond.instanceMethod y_V_withdraw ∈ tbW := tb2_in (List.mem_of_getElem? (i := 21) rfl) rfl
theorem lk302 : Cond.selects R_V y_V_withdraw y_V_withdraw ∈ tbW := tb2_in (List.mem_of_getElem? (i := 22) rfl) rfl
theorem lk303 : Cond.methodLink R_law 59 y_M_withdraw ∈ tbW := tb3_in (List.mem_of_getElem? (i := 64) rfl) rfl
theorem lk304 : Cond.instanceMethod y_M_withdraw ∈ tbW := tb3_in (List.mem_of_getElem? (i := 65) rfl) rfl
theorem lk305 : Cond.selects R_M y_M_withdraw y_M_withdraw ∈ tbW := tb3_in (List.mem_of_getElem? (i := 66) rfl) rfl
theorem lk306 : Cond.methodLink R_law 60 y_V_react ∈ tbW := tb2_in (List.mem_of_getElem? (i := 32) rfl) rfl
theorem lk307 : Cond.instanceMethod y_V_react ∈ tbW := tb2_in (List.mem_of_getElem? (i := 33) rfl) rfl
theorem lk308 : Cond.selects R_V y_V_react y_V_react ∈ tbW := tb2_in (List.mem_of_getElem? (i := 34) rfl) rfl
theorem lk309 : Cond.methodLink R_law 64 y_M_react ∈ tbW := tb3_in (List.mem_of_getElem? (i := 110) rfl) rfl
theorem lk310 : Cond.instanceMethod y_M_react ∈ tbW := tb3_in (List.mem_of_getElem? (i := 111) rfl) rfl
theorem lk311 : Cond.selects R_M y_M_react y_M_react ∈ tbW := tb3_in (List.mem_of_getElem? (i := 112) rfl) rfl
theorem lk312 : Cond.methodLink R_law 65 y_V_enabled ∈ tbW := tb2_in (List.mem_of_getElem? (i := 105) rfl) rfl
theorem lk313 : Cond.instanceMethod y_V_enabled ∈ tbW := tb2_in (List.mem_of_getElem? (i := 106) rfl) rfl
theorem lk314 : Cond.selects R_V y_V_enabled y_V_enabled ∈ tbW := tb2_in (List.mem_of_getElem? (i := 107) rfl) rfl
theorem lk315 : Cond.methodLink R_law 68 y_M_enabled ∈ tbW := tb3_in (List.mem_of_getElem? (i := 72) rfl) rfl
theorem lk316 : Cond.methodLink R_law 69 y_V_next ∈ tbW := tb2_in (List.mem_of_getElem? (i := 109) rfl) rfl
theorem lk317 : Cond.instanceMethod y_V_next ∈ tbW := tb2_in (List.mem_of_getElem? (i := 110) rfl) rfl
theorem lk318 : Cond.selects R_V y_V_next y_V_next ∈ tbW := tb2_in (List.mem_of_getElem? (i := 111) rfl) rfl
theorem lk319 : Cond.methodLink R_law 72 y_M_next ∈ tbW := tb3_in (List.mem_of_getElem? (i := 100) rfl) rfl
theorem lk320 : Cond.methodLink R_law 73 y_V_taken ∈ tbW := tb2_in (List.mem_of_getElem? (i := 113) rfl) rfl
theorem lk321 : Cond.instanceMethod y_V_taken ∈ tbW := tb2_in (List.mem_of_getElem? (i := 114) rfl) rfl
theorem lk322 : Cond.selects R_V y_V_taken y_V_taken ∈ tbW := tb2_in (List.mem_of_getElem? (i := 115) rfl) rfl
theorem lk323 : Cond.methodLink R_law 76 y_M_taken ∈ tbW := tb3_in (List.mem_of_getElem? (i := 105) rfl) rfl
theorem lk324 : Cond.instanceMethod y_M_taken ∈ tbW := tb3_in (List.mem_of_getElem? (i := 106) rfl) rfl
theorem lk325 : Cond.selects R_M y_M_taken y_M_taken ∈ tbW := tb3_in (List.mem_of_getElem? (i := 107) rfl) rfl
theorem lk326 : Cond.methodLink R_law 77 y_V_pendingAt ∈ tbW := tb2_in (List.mem_of_getElem? (i := 117) rfl) rfl
theorem lk327 : Cond.instanceMethod y_V_pendingAt ∈ tbW := tb2_in (List.mem_of_getElem? (i := 118) rfl) rfl
theorem lk328 : Cond.selects R_V y_V_pendingAt y_V_pendingAt ∈ tbW := tb2_in (List.mem_of_getElem? (i := 119) rfl) rfl
theorem lk329 : Cond.methodLink R_law 80 y_M_pendingAt ∈ tbW := tb3_in (List.mem_of_getElem? (i := 122) rfl) rfl
theorem lk330 : Cond.instanceMethod y_M_pendingAt ∈ tbW := tb3_in (List.mem_of_getElem? (i := 123) rfl) rfl
theorem lk331 : Cond.selects R_M y_M_pendingAt y_M_pendingAt ∈ tbW := tb3_in (List.mem_of_getElem? (i := 124) rfl) rfl
theorem lk332 : Cond.methodLink R_law 81 y_V_value ∈ tbW := tb2_in (List.mem_of_getElem? (i := 121) rfl) rfl
theorem lk333 : Cond.instanceMethod y_V_value ∈ tbW := tb2_in (List.mem_of_getElem? (i := 122) rfl) rfl
theorem lk334 : Cond.selects R_V y_V_value y_V_value ∈ tbW := tb2_in (List.mem_of_getElem? (i := 123) rfl) rfl
theorem lk335 : Cond.methodLink R_law 84 y_M_value ∈ tbW := tb3_in (List.mem_of_getElem? (i := 126) rfl) rfl
theorem lk336 : Cond.instanceMethod y_M_value ∈ tbW := tb3_in (List.mem_of_getElem? (i := 127) rfl) rfl
theorem lk337 : Cond.selects R_M y_M_value y_M_value ∈ tbW := tb3_in (List.mem_of_getElem? (i := 128) rfl) rfl
theorem lk338 : Cond.methodLink R_law 85 y_V_state ∈ tbW := tb2_in (List.mem_of_getElem? (i := 125) rfl) rfl
theorem lk339 : Cond.instanceMethod y_V_state ∈ tbW := tb2_in (List.mem_of_getElem? (i := 126) rfl) rfl
theorem lk340 : Cond.selects R_V y_V_state y_V_state ∈ tbW := tb2_in (List.mem_of_getElem? (i := 127) rfl) rfl
theorem lk341 : Cond.methodLink R_law 88 y_M_state ∈ tbW := tb3_in (List.mem_of_getElem? (i := 130) rfl) rfl
theorem lk342 : Cond.instanceMethod y_M_state ∈ tbW := tb3_in (List.mem_of_getElem? (i := 131) rfl) rfl
theorem lk343 : Cond.selects R_M y_M_state y_M_state ∈ tbW := tb3_in (List.mem_of_getElem? (i := 132) rfl) rfl
theorem lk344 : Cond.methodLink R_law 89 y_V_consumer ∈ tbW := tb2_in (List.mem_of_getElem? (i := 129) rfl) rfl
theorem lk345 : Cond.instanceMethod y_V_consumer ∈ tbW := tb2_in (List.mem_of_getElem? (i := 130) rfl) rfl
theorem lk346 : Cond.selects R_V y_V_consumer y_V_consumer ∈ tbW := tb2_in (List.mem_of_getElem? (i := 131) rfl) rfl
theorem lk347 : Cond.methodLink R_law 92 y_M_consumer ∈ tbW := tb3_in (List.mem_of_getElem? (i := 134) rfl) rfl
theorem lk348 : Cond.instanceMethod y_M_consumer ∈ tbW := tb3_in (List.mem_of_getElem? (i := 135) rfl) rfl
theorem lk349 : Cond.selects R_M y_M_consumer y_M_consumer ∈ tbW := tb3_in (List.mem_of_getElem? (i := 136) rfl) rfl
theorem lk350 : Cond.methodLink R_law 93 y_V_answer ∈ tbW := tb2_in (List.mem_of_getElem? (i := 133) rfl) rfl
theorem lk351 : Cond.instanceMethod y_V_answer ∈ tbW := tb2_in (List.mem_of_getElem? (i := 134) rfl) rfl
theorem lk352 : Cond.selects R_V y_V_answer y_V_answer ∈ tbW := tb2_in (List.mem_of_getElem? (i := 135) rfl) rfl
theorem lk353 : Cond.methodLink R_law 96 y_M_answer ∈ tbW := tb3_in (List.mem_of_getElem? (i := 138) rfl) rfl
theorem lk354 : Cond.instanceMethod y_M_answer ∈ tbW := tb3_in (List.mem_of_getElem? (i := 139) rfl) rfl
theorem lk355 : Cond.selects R_M y_M_answer y_M_answer ∈ tbW := tb3_in (List.mem_of_getElem? (i := 140) rfl) rfl
theorem lk356 : Cond.methodLink R_law 97 y_V_fired ∈ tbW := tb2_in (List.mem_of_getElem? (i := 137) rfl) rfl
theorem lk357 : Cond.instanceMethod y_V_fired ∈ tbW := tb2_in (List.mem_of_getElem? (i := 138) rfl) rfl
theorem lk358 : Cond.selects R_V y_V_fired y_V_fired ∈ tbW := tb2_in (List.mem_of_getElem? (i := 139) rfl) rfl
theorem lk359 : Cond.methodLink R_law 100 y_M_fired ∈ tbW := tb3_in (List.mem_of_getElem? (i := 142) rfl) rfl
theorem lk360 : Cond.instanceMethod y_M_fired ∈ tbW := tb3_in (List.mem_of_getElem? (i := 143) rfl) rfl
theorem lk361 : Cond.selects R_M y_M_fired y_M_fired ∈ tbW := tb3_in (List.mem_of_getElem? (i := 144) rfl) rfl

def PH2 (s : State) (D1 D2 : va_G) (a1 a2 : Nat → Nat) (q1 q2 : Nat → ClassId) (h1 h2 : RS) (H : Heap) (locs : List Loc) : Prop := va_P D1 clV (gW 101 a1 (ceV a1 q1) h1) H ∧ va_P D2 clM (gW 24 a2 (ceM a2 q2) h2) H ∧ va_S (fun q => s.heap.size ≤ q) s.heap H locs
def Y (p : Program) (l : Launch) (e : Env) (s : State) (m : MethodId) (b : Nat) (below : List Frame) (meth : Method) (c : Code) (ca sl : Nat) (PH : Heap → List Loc → Prop) (pc : Nat) (lv : List (Nat × Value)) (st : List Value) : Prop :=
  ∀ (H : Heap) (locs : List Loc) (ls : Array Slot), PH H locs → lv_has ls 4 lv → W p l e room_1 s m #[Value.ref b] below meth c H locs ca sl (lw_Z below #[Value.ref b] s) (F0 m pc ls st)
/-- what is fixed during the law's loop -/
def LF (s : State) (D1 D2 : va_G) (a1 a2 : Nat → Nat) (q1 q2 : Nat → ClassId) : Prop := va_K D1 clV (tyV q1) s ∧ va_K D2 clM (tyM q2) s ∧ injW a1 101 ∧ injW a2 24 ∧ (∀ i, i < 101 → s.heap.size ≤ a1 i) ∧ (∀ i, i < 24 → s.heap.size ≤ a2 i) ∧ ∀ i j, i < 101 → j < 24 → a1 i ≠ a2 j
theorem lw_in {w : Cond} (h : w ∈ tbW) : w ∈ lw_tbl := (List.mem_filter.mp h).1
theorem ix1 (k : Nat) : nI k + 1 = nI (k + 1) := nI_add k 1
theorem ix2 (k : Nat) : nI k + 2 = nI (k + 2) := nI_add k 2
theorem ix3 (k : Nat) : nI k + 3 = nI (k + 3) := nI_add k 3
theorem ix4 (k : Nat) : nI k + 4 = nI (k + 4) := nI_add k 4
theorem ix5 (k : Nat) : nI k + 5 = nI (k + 5) := nI_add k 5
theorem ix6 (k : Nat) : nI k + 6 = nI (k + 6) := nI_add k 6
theorem ix_end {L k : Nat} (hL : L ≤ 3072) (hk : k ≤ L) (h : ¬ Int32.ofNat L - 6 < nI k) : k + 6 ≤ L := by
  have h1 : (nI L - nI 6).toInt = (L : Int) - 6 := pk_sub_toInt (by omega) (by omega)
  have h2 : (nI k).toInt = (k : Int) := nI_toInt (by omega)
  have h3 : ¬ (nI L - nI 6) < nI k := h
  rw [Int32.lt_iff_toInt_lt, h1, h2] at h3
  omega
section YR
variable {p : Program} {l : Launch} {e : Env} {s : State} {m : MethodId} {b : Nat} {below : List Frame} {meth : Method} {c : Code} {ca sl : Nat} {PH : Heap → List Loc → Prop} {pc : Nat} {lv lv' : List (Nat × Value)} {st : List Value} {L : Nat} {xs : Nat → Int32} {D1 D2 : va_G} {a1 a2 : Nat → Nat} {q1 q2 : Nat → ClassId} {h1 h2 : RS}
theorem y_iload_n (C0 : lw_At p s m meth c b L xs) (j : Nat) {k : Fin 4} {i : Nat} {x : Int32} (hdg : decode code pc = .ok (.iload_n k, 1)) (hi : (k : Nat) = i) (hj : lv[j]? = some (i, .int x)) (z : Y p l e s m b below meth c ca sl PH (pc + 1) lv (.int x :: st)) : Y p l e s m b below meth c ca sl PH pc lv st :=
  fun H locs ls hP hl => lv_iload_n C0.1 C0.2.1 hdg hi (lv_at hl j hj) (z H locs ls hP hl)
theorem y_aload_n (C0 : lw_At p s m meth c b L xs) (j : Nat) {k : Fin 4} {i x : Nat} (hdg : decode code pc = .ok (.aload_n k, 1)) (hi : (k : Nat) = i) (hj : lv[j]? = some (i, .ref x)) (z : Y p l e s m b below meth c ca sl PH (pc + 1) lv (.ref x :: st)) : Y p l e s m b below meth c ca sl PH pc lv st :=
  fun H locs ls hP hl => lv_aload_n C0.1 C0.2.1 hdg hi (lv_at hl j hj) (z H locs ls hP hl)
theorem y_iconst (C0 : lw_At p s m meth c b L xs) {k : Int} {v : Int32} (hdg : decode code pc = .ok (.iconst k, 1)) (hv : Int32.ofInt k = v) (z : Y p l e s m b below meth c ca sl PH (pc + 1) lv (.int v :: st)) : Y p l e s m b below meth c ca sl PH pc lv st :=
  fun H locs ls hP hl => lv_iconst C0.1 C0.2.1 hdg hv (z H locs ls hP hl)
theorem y_bipush (C0 : lw_At p s m meth c b L xs) {k : Int} {v : Int32} (hdg : decode code pc = .ok (.bipush k, 2)) (hv : (Int8.ofInt k).toInt32 = v) (z : Y p l e s m b below meth c ca sl PH (pc + 2) lv (.int v :: st)) : Y p l e s m b below meth c ca sl PH pc lv st :=
  fun H locs ls hP hl => lv_bipush C0.1 C0.2.1 hdg hv (z H locs ls hP hl)
theorem y_iadd (C0 : lw_At p s m meth c b L xs) {x y : Int32} (hdg : decode code pc = .ok (.iadd, 1)) (z : Y p l e s m b below meth c ca sl PH (pc + 1) lv (.int (x + y) :: st)) : Y p l e s m b below meth c ca sl PH pc lv (.int y :: .int x :: st) :=
  fun H locs ls hP hl => lv_iadd C0.1 C0.2.1 hdg (z H locs ls hP hl)
theorem y_isub (C0 : lw_At p s m meth c b L xs) {x y : Int32} (hdg : decode code pc = .ok (.isub, 1)) (z : Y p l e s m b below meth c ca sl PH (pc + 1) lv (.int (x - y) :: st)) : Y p l e s m b below meth c ca sl PH pc lv (.int y :: .int x :: st) :=
  fun H locs ls hP hl => lv_isub C0.1 C0.2.1 hdg (z H locs ls hP hl)
theorem y_iand (C0 : lw_At p s m meth c b L xs) {x y : Int32} (hdg : decode code pc = .ok (.iand, 1)) (z : Y p l e s m b below meth c ca sl PH (pc + 1) lv (.int (x &&& y) :: st)) : Y p l e s m b below meth c ca sl PH pc lv (.int y :: .int x :: st) :=
  fun H locs ls hP hl => lv_iand C0.1 C0.2.1 hdg (z H locs ls hP hl)
theorem y_istore_n (C0 : lw_At p s m meth c b L xs) {k : Fin 4} {i : Nat} {x : Int32} (hdg : decode code pc = .ok (.istore_n k, 1)) (hi : (k : Nat) = i) (hn : i < 4) (hl' : (i, Value.int x) :: lv.filter (fun q => !(q.1 == i) && !(q.1 + 1 == i && q.2.category == 2)) = lv') (z : Y p l e s m b below meth c ca sl PH (pc + 1) lv' st) : Y p l e s m b below meth c ca sl PH pc lv (.int x :: st) :=
  fun H locs _ hP hl => lv_istore_n C0.1 C0.2.1 hdg hi hl hn hl' (fun ls' h' => z H locs ls' hP h')
theorem y_iinc (C0 : lw_At p s m meth c b L xs) (j : Nat) {i : Nat} {k : Int} {x v : Int32} (hdg : decode code pc = .ok (.iinc i k, 3)) (hj : lv[j]? = some (i, .int x)) (hv : x + Int32.ofInt k = v) (hn : i < 4) (hl' : (i, Value.int v) :: lv.filter (fun q => !(q.1 == i) && !(q.1 + 1 == i && q.2.category == 2)) = lv') (z : Y p l e s m b below meth c ca sl PH (pc + 3) lv' st) : Y p l e s m b below meth c ca sl PH pc lv st :=
  fun H locs _ hP hl => lv_iinc C0.1 C0.2.1 hdg hl hj hv hn hl' (fun ls' h' => z H locs ls' hP h')
theorem y_goto (C0 : lw_At p s m meth c b L xs) {off : Int} {tgt : Nat} (hdg : decode code pc = .ok (.goto off, 3)) (ht : (pc : Int) + off = (tgt : Int)) (z : Y p l e s m b below meth c ca sl PH tgt lv st) : Y p l e s m b below meth c ca sl PH pc lv st :=
  fun H locs ls hP hl => lv_goto C0.1 C0.2.1 hdg ht (z H locs ls hP hl)
theorem y_to (ks : List Nat) (hk : lv_pick lv ks = lv') (z : Y p l e s m b below meth c ca sl PH pc lv' st) : Y p l e s m b below meth c ca sl PH pc lv st :=
  fun H locs ls hP hl => z H locs ls hP (lv_sub hl ks hk)
theorem y_if_eq (C0 : lw_At p s m meth c b L xs) {x : Int32} {off : Int} {tgt : Nat} (hdg : decode code pc = .ok (.ifCond .eq off, 3)) (ht : (pc : Int) + off = (tgt : Int)) (kt : x = 0 → Y p l e s m b below meth c ca sl PH tgt lv st) (kf : ¬ x = 0 → Y p l e s m b below meth c ca sl PH (pc + 3) lv st) : Y p l e s m b below meth c ca sl PH pc lv (.int x :: st) :=
  fun H locs ls hP hl => lv_if_eq C0.1 C0.2.1 hdg ht (fun q => kt q H locs ls hP hl) (fun q => kf q H locs ls hP hl)
theorem y_icmp_gt (C0 : lw_At p s m meth c b L xs) {x y : Int32} {off : Int} {tgt : Nat} (hdg : decode code pc = .ok (.if_icmp .gt off, 3)) (ht : (pc : Int) + off = (tgt : Int)) (kt : y < x → Y p l e s m b below meth c ca sl PH tgt lv st) (kf : ¬ y < x → Y p l e s m b below meth c ca sl PH (pc + 3) lv st) : Y p l e s m b below meth c ca sl PH pc lv (.int y :: .int x :: st) :=
  fun H locs ls hP hl => lv_icmp_gt C0.1 C0.2.1 hdg ht (fun q => kt q H locs ls hP hl) (fun q => kf q H locs ls hP hl)
/-- the two answers are one: the law goes on -/
theorem y_same (C0 : lw_At p s m meth c b L xs) {x y : Int32} {off : Int} {tgt : Nat} (hdg : decode code pc = .ok (.if_icmp .eq off, 3)) (ht : (pc : Int) + off = (tgt : Int)) (hxy : x = y) (kt : Y p l e s m b below meth c ca sl PH tgt lv st) : Y p l e s m b below meth c ca sl PH pc lv (.int y :: .int x :: st) :=
  fun H locs ls hP hl => lv_icmp_eq C0.1 C0.2.1 hdg ht (fun _ => kt H locs ls hP hl) (fun q => absurd hxy q)
theorem y_sw {x k : Int32} (kt : x = k → Y p l e s m b below meth c ca sl PH pc lv (.int x :: st)) (kf : ¬ x = k → Y p l e s m b below meth c ca sl PH pc lv (.int x :: st)) : Y p l e s m b below meth c ca sl PH pc lv (.int x :: st) := by
  by_cases q : x = k
  · exact kt q
  · exact kf q
theorem y_tableOut (C0 : lw_At p s m meth c b L xs) {dflt lo hi : Int} {offs : Array Int} {len : Nat} {x : Int32} {tgt : Nat} (hdg : decode code pc = .ok (.tableswitch dflt lo hi offs, len)) (hx : x.toInt < lo ∨ hi < x.toInt) (ht : (pc : Int) + dflt = (tgt : Int)) (z : Y p l e s m b below meth c ca sl PH tgt lv st) : Y p l e s m b below meth c ca sl PH pc lv (.int x :: st) :=
  fun H locs ls hP hl => lv_tableOut C0.1 C0.2.1 hdg hx ht (z H locs ls hP hl)
theorem y_tableIn (C0 : lw_At p s m meth c b L xs) {dflt lo hi : Int} {offs : Array Int} {len : Nat} {x : Int32} {off : Int} {tgt : Nat} (hdg : decode code pc = .ok (.tableswitch dflt lo hi offs, len)) (h1 : ¬ x.toInt < lo) (h2 : ¬ hi < x.toInt) (ho : offs[(x.toInt - lo).toNat]? = some off) (ht : (pc : Int) + off = (tgt : Int)) (z : Y p l e s m b below meth c ca sl PH tgt lv st) : Y p l e s m b below meth c ca sl PH pc lv (.int x :: st) :=
  fun H locs ls hP hl => lv_tableIn C0.1 C0.2.1 hdg h1 h2 ho ht (z H locs ls hP hl)
theorem y_sld (C0 : lw_At p s m meth c b L xs) (hL : L ≤ 3072) (k j : Nat) (hk : k + j < L) {x : Int32} (hx : x = nI (k + j)) (hdg : decode code pc = .ok (.iaload, 1)) (z : Y p l e s m b below meth c ca sl (PH2 s D1 D2 a1 a2 q1 q2 h1 h2) (pc + 1) lv (.int (xs (k + j)) :: st)) : Y p l e s m b below meth c ca sl (PH2 s D1 D2 a1 a2 q1 q2 h1 h2) pc lv (.int x :: .ref b :: st) := by
  subst hx
  exact fun H locs ls hP hl => va_sld C0.1 C0.2.1 C0.2.2.2.2.2.2.1 C0.2.2.2.2.2.2.2.1 (Nat.not_le.mpr C0.2.2.2.2.2.2.2.1) hP.2.2 (vp_in_nI hk (by omega)) hdg (by rw [nI_clamp (by omega)]; exact z H locs ls hP hl)
theorem y_slen (C0 : lw_At p s m meth c b L xs) (hdg : decode code pc = .ok (.arraylength, 1)) (z : Y p l e s m b below meth c ca sl (PH2 s D1 D2 a1 a2 q1 q2 h1 h2) (pc + 1) lv (.int (Int32.ofNat L) :: st)) : Y p l e s m b below meth c ca sl (PH2 s D1 D2 a1 a2 q1 q2 h1 h2) pc lv (.ref b :: st) :=
  fun H locs ls hP hl => va_slen C0.1 C0.2.1 C0.2.2.2.2.2.2.1 C0.2.2.2.2.2.2.2.1 (Nat.not_le.mpr C0.2.2.2.2.2.2.2.1) hP.2.2 hdg (z H locs ls hP hl)
theorem y_end (C0 : lw_At p s m meth c b L xs) (hca : ca ≤ 600000) (hsl : sl ≤ 7302250) (hdg : decode code pc = .ok (.ireturn, 1)) : Y p l e s m b below meth c ca sl (PH2 s D1 D2 a1 a2 q1 q2 h1 h2) pc lv [.int 1] :=
  fun H locs ls hP hl => va_forget (fun q hq => hP.2.2.2.2 q hq) (W.widen hca hsl (lw_ret C0.1 C0.2.1 C0.2.2.1 C0.2.2.2.2.2.2.2.2.1 hdg))
theorem y_callV (C0 : lw_At p s m meth c b L xs) (F0 : LF s D1 D2 a1 a2 q1 q2) (hca : ca ≤ 600000) (hsl : sl ≤ 7302250) {y : MethodName} {bytes : ByteArray} {rt : Option FieldType} {maxL F1 L1 k index N : Nat} {T : u_T} {post : Int32 → RS → Prop} (As : List Value) (hM : Met l y [.code y bytes maxL rt] { frames := F1, cells := 0, slots := 0, locals := L1 } (va_Pc (.ref (a1 0) :: As) (PreC tbW D1 clV (tyV q1) 101 a1 (ceV a1 q1) h1)) (va_Qi post (AtC D1 clV 101 a1 (ceV a1 q1)) (inW a1 101)) 0 0 (inW a1 101)) (hF : F1 + 1 ≤ 2048) (hL : 8 + (maxL + 11) + L1 ≤ 84000) (hlink : Cond.methodLink R_law index y ∈ tbW) (hcode : Cond.code y bytes maxL rt ∈ tbW) (hini : Cond.initialized y.cls ∈ tbW) (hinst : Cond.instanceMethod y ∈ tbW) (hsel : Cond.selects y.cls y y ∈ tbW) (hcl : (clV)[0]? = some (y.cls, T, N)) (hd : nmh y k) (hk : As.length = k) {stk : List Value} (hstk : stk = As.reverse ++ .ref (a1 0) :: st) (hr : (st.map fun v => v.category).sum ≤ 8) (hdg : decode code pc = .ok (.invokevirtual index, 3)) (z : ∀ (r : Int32) (h1x : RS), post r h1x → Y p l e s m b below meth c ca sl (PH2 s D1 D2 a1 a2 q1 q2 h1x h2) (pc + 3) lv (.int r :: st)) : Y p l e s m b below meth c ca sl (PH2 s D1 D2 a1 a2 q1 q2 h1 h2) pc lv stk := by
  intro H locs ls hP hl
  subst hstk
  have hts : ∀ w ∈ tbW, w.before #[Value.ref b] s = true := fun w hw => C0.2.2.2.2.2.1 w (lw_in hw)
  have hN : ∀ w ∈ tbW, va_Nw w s := fun w hw => va_Nw.of (tb_ok.1 w hw) (hts w hw)
  have hcw : ∀ w ∈ [Cond.code y bytes maxL rt], ∀ (a' : Array Value) (U : State), s.WarmedH U.vm → w.before a' U = true := fun w hw a' U hW => by
    cases List.mem_singleton.mp hw
    exact va_Nw.use (tb_ok.1 _ hcode) (tb_ok.2 _ hcode s U hW (hN _ hcode))
  refine va_calli (va_runV (As := As) (rest := st) ⟨C0.1, C0.2.1, C0.2.2.2.1, C0.2.2.2.2.1, hts⟩ hM ⟨⟨rfl, rfl, hF, hL, hcw, List.mem_singleton.mpr rfl, hts _ hcode, hts _ hini, ⟨hd.1, hd.2.1⟩, par_n hd.2.2, hts _ hlink⟩, hts _ hinst, hts _ hsel⟩ ⟨preC_blind tb_ok, va_recv F0.1 hP.1 hcl (gW_at (by decide) rfl), fun U hU hW => ⟨rfl, by rw [hU]; exact hP.1, va_K.moved hW.alike F0.1, fun w hw => tb_ok.2 w hw s U hW (hN w hw)⟩⟩ rfl hk hl.1 rfl (lv_room hr) hdg ⟨hca, hsl⟩) hP.2.2 (fun q _ h9 => by obtain ⟨i, hi, rfl⟩ := h9; exact F0.2.2.2.2.1 i hi) (fun q h9 => by obtain ⟨i, hi, rfl⟩ := h9; exact F0.2.2.2.2.1 i hi) (fun r h1x t H1 locs1 ht hvm hq hB hz hk9 hS1 => ?_)
  have h8 : va_P D1 clV (gW 101 a1 (ceV a1 q1) h1x) t.heap := hB
  rw [ht] at h8
  have h7 : va_P D2 clM (gW 24 a2 (ceM a2 q2) h2) H1 := (hP.2.1).kept (fun j x hx => by
    obtain ⟨j1, j2⟩ := gW_lt hx
    refine hk9 x.1 ((hP.2.1) j x hx).lt ?_
    rintro ⟨i, hi, e⟩
    exact F0.2.2.2.2.2.2 i j hi j1 (e.symm.trans j2))
  exact z r h1x hq H1 locs1 ls ⟨h8, h7, hS1⟩ hl
theorem y_callM (C0 : lw_At p s m meth c b L xs) (F0 : LF s D1 D2 a1 a2 q1 q2) (hca : ca ≤ 600000) (hsl : sl ≤ 7302250) {y : MethodName} {bytes : ByteArray} {rt : Option FieldType} {maxL F1 L1 k index N : Nat} {T : u_T} {post : Int32 → RS → Prop} (As : List Value) (hM : Met l y [.code y bytes maxL rt] { frames := F1, cells := 0, slots := 0, locals := L1 } (va_Pc (.ref (a2 0) :: As) (PreC tbW D2 clM (tyM q2) 24 a2 (ceM a2 q2) h2)) (va_Qi post (AtC D2 clM 24 a2 (ceM a2 q2)) (inW a2 24)) 0 0 (inW a2 24)) (hF : F1 + 1 ≤ 2048) (hL : 8 + (maxL + 11) + L1 ≤ 84000) (hlink : Cond.methodLink R_law index y ∈ tbW) (hcode : Cond.code y bytes maxL rt ∈ tbW) (hini : Cond.initialized y.cls ∈ tbW) (hinst : Cond.instanceMethod y ∈ tbW) (hsel : Cond.selects y.cls y y ∈ tbW) (hcl : (clM)[0]? = some (y.cls, T, N)) (hd : nmh y k) (hk : As.length = k) {stk : List Value} (hstk : stk = As.reverse ++ .ref (a2 0) :: st) (hr : (st.map fun v => v.category).sum ≤ 8) (hdg : decode code pc = .ok (.invokevirtual index, 3)) (z : ∀ (r : Int32) (h1x : RS), post r h1x → Y p l e s m b below meth c ca sl (PH2 s D1 D2 a1 a2 q1 q2 h1 h1x) (pc + 3) lv (.int r :: st)) : Y p l e s m b below meth c ca sl (PH2 s D1 D2 a1 a2 q1 q2 h1 h2) pc lv stk := by
  intro H locs ls hP hl
  subst hstk
  have hts : ∀ w ∈ tbW, w.before #[Value.ref b] s = true := fun w hw => C0.2.2.2.2.2.1 w (lw_in hw)
  have hN : ∀ w ∈ tbW, va_Nw w s := fun w hw => va_Nw.of (tb_ok.1 w hw) (hts w hw)
  have hcw : ∀ w ∈ [Cond.code y bytes maxL rt], ∀ (a' : Array Value) (U : State), s.WarmedH U.vm → w.before a' U = true := fun w hw a' U hW => by
    cases List.mem_singleton.mp hw
    exact va_Nw.use (tb_ok.1 _ hcode) (tb_ok.2 _ hcode s U hW (hN _ hcode))
  refine va_calli (va_runV (As := As) (rest := st) ⟨C0.1, C0.2.1, C0.2.2.2.1, C0.2.2.2.2.1, hts⟩ hM ⟨⟨rfl, rfl, hF, hL, hcw, List.mem_singleton.mpr rfl, hts _ hcode, hts _ hini, ⟨hd.1, hd.2.1⟩, par_n hd.2.2, hts _ hlink⟩, hts _ hinst, hts _ hsel⟩ ⟨preC_blind tb_ok, va_recv F0.2.1 hP.2.1 hcl (gW_at (by decide) rfl), fun U hU hW => ⟨rfl, by rw [hU]; exact hP.2.1, va_K.moved hW.alike F0.2.1, fun w hw => tb_ok.2 w hw s U hW (hN w hw)⟩⟩ rfl hk hl.1 rfl (lv_room hr) hdg ⟨hca, hsl⟩) hP.2.2 (fun q _ h9 => by obtain ⟨i, hi, rfl⟩ := h9; exact F0.2.2.2.2.2.1 i hi) (fun q h9 => by obtain ⟨i, hi, rfl⟩ := h9; exact F0.2.2.2.2.2.1 i hi) (fun r h1x t H1 locs1 ht hvm hq hB hz hk9 hS1 => ?_)
  have h8 : va_P D2 clM (gW 24 a2 (ceM a2 q2) h1x) t.heap := hB
  rw [ht] at h8
  have h7 : va_P D1 clV (gW 101 a1 (ceV a1 q1) h1) H1 := (hP.1).kept (fun j x hx => by
    obtain ⟨j1, j2⟩ := gW_lt hx
    refine hk9 x.1 ((hP.1) j x hx).lt ?_
    rintro ⟨i, hi, e⟩
    exact F0.2.2.2.2.2.2 j i j1 hi (j2.symm.trans e))
  exact z r h1x hq H1 locs1 ls ⟨h7, h8, hS1⟩ hl
end YR
