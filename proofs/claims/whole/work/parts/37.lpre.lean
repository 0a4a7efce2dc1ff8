/-! THE CLAIM OUT OF ONE WALK OF THE LAW'S BODY. Your part is whole_start (and what it stands on); all else here is the same for every law, but numbers. -/
def R_law : String := "NounChoiceLaw"
def lw_P (b : Addr) (xs : List Int32) (args : Array Value) (s : State) : Prop := args = #[.ref b] ∧ s.IntsAt b xs ∧ xs.length ≤ 2560 ∧ (Jvm.Cond.and given_1 narrow_1).before args s = true
def lw_Q (_ : Array Value) (s : State) (o : Outcome) (t : State) : Prop := o = .returned (some (.int 1)) ∧ Framed s o t [] 46 1376
def lw_Z (below : List Frame) (a : Array Value) (s : State) : State → Prop := fun t => ∃ o, t.status = .running ∧ Ended t below o ∧ lw_Q a s o t
/-- the law's own end, with 1 on the stack, nothing written that was there before, its room as the claim has it -/
theorem lw_ret {p : Program} {l : Launch} {e : Env} {s : State} {m : MethodId} {below : List Frame} {meth : Method} {c : Code} {b : Nat} (hx : p.tables.exec = Jvm.exec) (hb : c.code = code) (hr : meth.sig.returnType = ret) (hlocks : meth.locks = false) {pc : Nat} {H : Heap} {ls : Array Slot} (hdg : decode code pc = .ok (.ireturn, 1)) : W p l e room_1 s m #[Value.ref b] below meth c H [] 46 1376 (lw_Z below #[Value.ref b] s) (F0 m pc ls [.int 1]) := by
  intro T hT X
  obtain ⟨fs, hret, hrun, hended, hW, hframe⟩ := X.leave (v := some (.int 1)) (hlocks := hlocks) (fun h => by rw [hr] at h; cases h)
  have hmeth' : T.vm.method? m = some meth := X.method'
  refine ⟨T.setFrames fs, ?_, .returned (some (.int 1)), hrun, hended, rfl, ⟨_, rfl⟩, hW, hframe⟩
  jvm_step X.here [X.here.top, hx, hb, hdg, hmeth', hr, ret, narrow_b1]
  (try refine ⟨rfl, ?_⟩); (try refine ⟨rfl, ?_⟩)
  first | (intro acts; rw [hret _ acts rfl rfl rfl]) | rw [hret _ _ rfl rfl rfl]
  exact Steps.refl _
/-- what holds at the law's entry: the machine, the code, the tables' words (any of lw_tbl by 'hts w (by decide +kernel)'), the script of L ints xs at the cell b, what the Statement gives of the start (any of its parts by flat_of_before) -/
def lw_At (p : Program) (s : State) (m : MethodId) (meth : Method) (c : Code) (b L : Nat) (xs : Nat → Int32) : Prop :=
  p.tables.exec = Jvm.exec ∧ c.code = code ∧ meth.sig.returnType = ret ∧ c.maxLocals = 4 ∧ s.vm.findClass R_law = some m.cls ∧ (∀ w ∈ lw_tbl, w.before #[Value.ref b] s = true) ∧ va_X b L xs s s.heap ∧ b < s.heap.size ∧ meth.locks = false ∧ (Jvm.Cond.and given_1 narrow_1).before #[Value.ref b] s = true

theorem m_m_law_13 : Cond.methodLink R_law 13 y_NC_thing ∈ lw_G := List.mem_filter.mpr ⟨List.mem_of_getElem? (i := 203) (by decide +kernel), rfl⟩
theorem m_i_NC_thing : Cond.instanceMethod y_NC_thing ∈ lw_G := List.mem_filter.mpr ⟨List.mem_of_getElem? (i := 204) (by decide +kernel), rfl⟩
theorem m_s_NC_thing : Cond.selects R_NC y_NC_thing y_NC_thing ∈ lw_G := List.mem_filter.mpr ⟨List.mem_of_getElem? (i := 205) (by decide +kernel), rfl⟩
theorem m_code_NC_thing : Cond.code y_NC_thing b_NC_thing 1 (some .int) ∈ lw_G := List.mem_filter.mpr ⟨List.mem_of_getElem? (i := 206) (by decide +kernel), rfl⟩
theorem m_m_law_18 : Cond.methodLink R_law 18 y_NC_word ∈ lw_G := List.mem_filter.mpr ⟨List.mem_of_getElem? (i := 211) (by decide +kernel), rfl⟩
theorem m_i_NC_word : Cond.instanceMethod y_NC_word ∈ lw_G := List.mem_filter.mpr ⟨List.mem_of_getElem? (i := 212) (by decide +kernel), rfl⟩
theorem m_s_NC_word : Cond.selects R_NC y_NC_word y_NC_word ∈ lw_G := List.mem_filter.mpr ⟨List.mem_of_getElem? (i := 213) (by decide +kernel), rfl⟩
theorem m_code_NC_word : Cond.code y_NC_word b_NC_word 5 (some .int) ∈ lw_G := List.mem_filter.mpr ⟨List.mem_of_getElem? (i := 214) (by decide +kernel), rfl⟩
theorem m_m_law_23 : Cond.methodLink R_law 23 y_NC_kind ∈ lw_G := List.mem_filter.mpr ⟨List.mem_of_getElem? (i := 226) (by decide +kernel), rfl⟩
theorem m_i_NC_kind : Cond.instanceMethod y_NC_kind ∈ lw_G := List.mem_filter.mpr ⟨List.mem_of_getElem? (i := 227) (by decide +kernel), rfl⟩
theorem m_s_NC_kind : Cond.selects R_NC y_NC_kind y_NC_kind ∈ lw_G := List.mem_filter.mpr ⟨List.mem_of_getElem? (i := 228) (by decide +kernel), rfl⟩
theorem m_code_NC_kind : Cond.code y_NC_kind b_NC_kind 3 (some .int) ∈ lw_G := List.mem_filter.mpr ⟨List.mem_of_getElem? (i := 229) (by decide +kernel), rfl⟩
theorem m_m_law_28 : Cond.methodLink R_law 28 y_NC_place ∈ lw_G := List.mem_filter.mpr ⟨List.mem_of_getElem? (i := 237) (by decide +kernel), rfl⟩
theorem m_i_NC_place : Cond.instanceMethod y_NC_place ∈ lw_G := List.mem_filter.mpr ⟨List.mem_of_getElem? (i := 238) (by decide +kernel), rfl⟩
theorem m_s_NC_place : Cond.selects R_NC y_NC_place y_NC_place ∈ lw_G := List.mem_filter.mpr ⟨List.mem_of_getElem? (i := 239) (by decide +kernel), rfl⟩
theorem m_code_NC_place : Cond.code y_NC_place b_NC_place 3 (some .int) ∈ lw_G := List.mem_filter.mpr ⟨List.mem_of_getElem? (i := 240) (by decide +kernel), rfl⟩
theorem m_m_law_32 : Cond.methodLink R_law 32 y_NC_mark ∈ lw_G := List.mem_filter.mpr ⟨List.mem_of_getElem? (i := 245) (by decide +kernel), rfl⟩
theorem m_i_NC_mark : Cond.instanceMethod y_NC_mark ∈ lw_G := List.mem_filter.mpr ⟨List.mem_of_getElem? (i := 246) (by decide +kernel), rfl⟩
theorem m_s_NC_mark : Cond.selects R_NC y_NC_mark y_NC_mark ∈ lw_G := List.mem_filter.mpr ⟨List.mem_of_getElem? (i := 247) (by decide +kernel), rfl⟩
theorem m_code_NC_mark : Cond.code y_NC_mark b_NC_mark 4 (some .int) ∈ lw_G := List.mem_filter.mpr ⟨List.mem_of_getElem? (i := 248) (by decide +kernel), rfl⟩
theorem m_m_law_37 : Cond.methodLink R_law 37 y_NC_plural ∈ lw_G := List.mem_filter.mpr ⟨List.mem_of_getElem? (i := 256) (by decide +kernel), rfl⟩
theorem m_i_NC_plural : Cond.instanceMethod y_NC_plural ∈ lw_G := List.mem_filter.mpr ⟨List.mem_of_getElem? (i := 257) (by decide +kernel), rfl⟩
theorem m_s_NC_plural : Cond.selects R_NC y_NC_plural y_NC_plural ∈ lw_G := List.mem_filter.mpr ⟨List.mem_of_getElem? (i := 258) (by decide +kernel), rfl⟩
theorem m_code_NC_plural : Cond.code y_NC_plural b_NC_plural 3 (some .int) ∈ lw_G := List.mem_filter.mpr ⟨List.mem_of_getElem? (i := 259) (by decide +kernel), rfl⟩
theorem m_m_law_41 : Cond.methodLink R_law 41 y_NC_weight ∈ lw_G := List.mem_filter.mpr ⟨List.mem_of_getElem? (i := 264) (by decide +kernel), rfl⟩
theorem m_i_NC_weight : Cond.instanceMethod y_NC_weight ∈ lw_G := List.mem_filter.mpr ⟨List.mem_of_getElem? (i := 265) (by decide +kernel), rfl⟩
theorem m_s_NC_weight : Cond.selects R_NC y_NC_weight y_NC_weight ∈ lw_G := List.mem_filter.mpr ⟨List.mem_of_getElem? (i := 266) (by decide +kernel), rfl⟩
theorem m_code_NC_weight : Cond.code y_NC_weight b_NC_weight 3 (some .int) ∈ lw_G := List.mem_filter.mpr ⟨List.mem_of_getElem? (i := 267) (by decide +kernel), rfl⟩
theorem m_m_law_45 : Cond.methodLink R_law 45 y_NC_limit ∈ lw_G := List.mem_filter.mpr ⟨List.mem_of_getElem? (i := 272) (by decide +kernel), rfl⟩
theorem m_i_NC_limit : Cond.instanceMethod y_NC_limit ∈ lw_G := List.mem_filter.mpr ⟨List.mem_of_getElem? (i := 273) (by decide +kernel), rfl⟩
theorem m_s_NC_limit : Cond.selects R_NC y_NC_limit y_NC_limit ∈ lw_G := List.mem_filter.mpr ⟨List.mem_of_getElem? (i := 274) (by decide +kernel), rfl⟩
theorem m_code_NC_limit : Cond.code y_NC_limit b_NC_limit 3 (some .int) ∈ lw_G := List.mem_filter.mpr ⟨List.mem_of_getElem? (i := 275) (by decide +kernel), rfl⟩
theorem m_m_law_50 : Cond.methodLink R_law 50 y_NC_score ∈ lw_G := List.mem_filter.mpr ⟨List.mem_of_getElem? (i := 276) (by decide +kernel), rfl⟩
theorem m_i_NC_score : Cond.instanceMethod y_NC_score ∈ lw_G := List.mem_filter.mpr ⟨List.mem_of_getElem? (i := 277) (by decide +kernel), rfl⟩
theorem m_s_NC_score : Cond.selects R_NC y_NC_score y_NC_score ∈ lw_G := List.mem_filter.mpr ⟨List.mem_of_getElem? (i := 278) (by decide +kernel), rfl⟩
theorem m_code_NC_score : Cond.code y_NC_score b_NC_score 2 (some .int) ∈ lw_G := List.mem_filter.mpr ⟨List.mem_of_getElem? (i := 279) (by decide +kernel), rfl⟩
theorem m_m_law_54 : Cond.methodLink R_law 54 y_NC_alike ∈ lw_G := List.mem_filter.mpr ⟨List.mem_of_getElem? (i := 285) (by decide +kernel), rfl⟩
theorem m_i_NC_alike : Cond.instanceMethod y_NC_alike ∈ lw_G := List.mem_filter.mpr ⟨List.mem_of_getElem? (i := 286) (by decide +kernel), rfl⟩
theorem m_s_NC_alike : Cond.selects R_NC y_NC_alike y_NC_alike ∈ lw_G := List.mem_filter.mpr ⟨List.mem_of_getElem? (i := 287) (by decide +kernel), rfl⟩
theorem m_code_NC_alike : Cond.code y_NC_alike b_NC_alike 3 (some .int) ∈ lw_G := List.mem_filter.mpr ⟨List.mem_of_getElem? (i := 288) (by decide +kernel), rfl⟩
theorem m_m_law_58 : Cond.methodLink R_law 58 y_NC_type ∈ lw_G := List.mem_filter.mpr ⟨List.mem_of_getElem? (i := 293) (by decide +kernel), rfl⟩
theorem m_i_NC_type : Cond.instanceMethod y_NC_type ∈ lw_G := List.mem_filter.mpr ⟨List.mem_of_getElem? (i := 294) (by decide +kernel), rfl⟩
theorem m_s_NC_type : Cond.selects R_NC y_NC_type y_NC_type ∈ lw_G := List.mem_filter.mpr ⟨List.mem_of_getElem? (i := 295) (by decide +kernel), rfl⟩
theorem m_code_NC_type : Cond.code y_NC_type b_NC_type 2 (some .int) ∈ lw_G := List.mem_filter.mpr ⟨List.mem_of_getElem? (i := 296) (by decide +kernel), rfl⟩
theorem m_m_law_62 : Cond.methodLink R_law 62 y_NC_wipe ∈ lw_G := List.mem_filter.mpr ⟨List.mem_of_getElem? (i := 303) (by decide +kernel), rfl⟩
theorem m_i_NC_wipe : Cond.instanceMethod y_NC_wipe ∈ lw_G := List.mem_filter.mpr ⟨List.mem_of_getElem? (i := 304) (by decide +kernel), rfl⟩
theorem m_s_NC_wipe : Cond.selects R_NC y_NC_wipe y_NC_wipe ∈ lw_G := List.mem_filter.mpr ⟨List.mem_of_getElem? (i := 305) (by decide +kernel), rfl⟩
theorem m_code_NC_wipe : Cond.code y_NC_wipe b_NC_wipe 2 (some .int) ∈ lw_G := List.mem_filter.mpr ⟨List.mem_of_getElem? (i := 306) (by decide +kernel), rfl⟩
theorem m_m_law_66 : Cond.methodLink R_law 66 y_NC_fits ∈ lw_G := List.mem_filter.mpr ⟨List.mem_of_getElem? (i := 307) (by decide +kernel), rfl⟩
theorem m_i_NC_fits : Cond.instanceMethod y_NC_fits ∈ lw_G := List.mem_filter.mpr ⟨List.mem_of_getElem? (i := 308) (by decide +kernel), rfl⟩
theorem m_s_NC_fits : Cond.selects R_NC y_NC_fits y_NC_fits ∈ lw_G := List.mem_filter.mpr ⟨List.mem_of_getElem? (i := 309) (by decide +kernel), rfl⟩
theorem m_code_NC_fits : Cond.code y_NC_fits b_NC_fits 4 (some .int) ∈ lw_G := List.mem_filter.mpr ⟨List.mem_of_getElem? (i := 310) (by decide +kernel), rfl⟩
theorem m_m_law_70 : Cond.methodLink R_law 70 y_NC_choose ∈ lw_G := List.mem_filter.mpr ⟨List.mem_of_getElem? (i := 404) (by decide +kernel), rfl⟩
theorem m_i_NC_choose : Cond.instanceMethod y_NC_choose ∈ lw_G := List.mem_filter.mpr ⟨List.mem_of_getElem? (i := 405) (by decide +kernel), rfl⟩
theorem m_s_NC_choose : Cond.selects R_NC y_NC_choose y_NC_choose ∈ lw_G := List.mem_filter.mpr ⟨List.mem_of_getElem? (i := 406) (by decide +kernel), rfl⟩
theorem m_code_NC_choose : Cond.code y_NC_choose b_NC_choose 3 (some .int) ∈ lw_G := List.mem_filter.mpr ⟨List.mem_of_getElem? (i := 407) (by decide +kernel), rfl⟩
theorem m_m_law_74 : Cond.methodLink R_law 74 y_NC_reply ∈ lw_G := List.mem_filter.mpr ⟨List.mem_of_getElem? (i := 489) (by decide +kernel), rfl⟩
theorem m_i_NC_reply : Cond.instanceMethod y_NC_reply ∈ lw_G := List.mem_filter.mpr ⟨List.mem_of_getElem? (i := 490) (by decide +kernel), rfl⟩
theorem m_s_NC_reply : Cond.selects R_NC y_NC_reply y_NC_reply ∈ lw_G := List.mem_filter.mpr ⟨List.mem_of_getElem? (i := 491) (by decide +kernel), rfl⟩
theorem m_code_NC_reply : Cond.code y_NC_reply b_NC_reply 3 (some .int) ∈ lw_G := List.mem_filter.mpr ⟨List.mem_of_getElem? (i := 492) (by decide +kernel), rfl⟩
theorem m_m_law_78 : Cond.methodLink R_law 78 y_NC_chosen ∈ lw_G := List.mem_filter.mpr ⟨List.mem_of_getElem? (i := 513) (by decide +kernel), rfl⟩
theorem m_i_NC_chosen : Cond.instanceMethod y_NC_chosen ∈ lw_G := List.mem_filter.mpr ⟨List.mem_of_getElem? (i := 514) (by decide +kernel), rfl⟩
theorem m_s_NC_chosen : Cond.selects R_NC y_NC_chosen y_NC_chosen ∈ lw_G := List.mem_filter.mpr ⟨List.mem_of_getElem? (i := 515) (by decide +kernel), rfl⟩
theorem m_code_NC_chosen : Cond.code y_NC_chosen b_NC_chosen 2 (some .int) ∈ lw_G := List.mem_filter.mpr ⟨List.mem_of_getElem? (i := 516) (by decide +kernel), rfl⟩
theorem m_m_law_82 : Cond.methodLink R_law 82 y_NC_asked ∈ lw_G := List.mem_filter.mpr ⟨List.mem_of_getElem? (i := 521) (by decide +kernel), rfl⟩
theorem m_i_NC_asked : Cond.instanceMethod y_NC_asked ∈ lw_G := List.mem_filter.mpr ⟨List.mem_of_getElem? (i := 522) (by decide +kernel), rfl⟩
theorem m_s_NC_asked : Cond.selects R_NC y_NC_asked y_NC_asked ∈ lw_G := List.mem_filter.mpr ⟨List.mem_of_getElem? (i := 523) (by decide +kernel), rfl⟩
theorem m_code_NC_asked : Cond.code y_NC_asked b_NC_asked 4 (some .int) ∈ lw_G := List.mem_filter.mpr ⟨List.mem_of_getElem? (i := 524) (by decide +kernel), rfl⟩
theorem m_m_law_86 : Cond.methodLink R_law 86 y_NC_told ∈ lw_G := List.mem_filter.mpr ⟨List.mem_of_getElem? (i := 525) (by decide +kernel), rfl⟩
theorem m_i_NC_told : Cond.instanceMethod y_NC_told ∈ lw_G := List.mem_filter.mpr ⟨List.mem_of_getElem? (i := 526) (by decide +kernel), rfl⟩
theorem m_s_NC_told : Cond.selects R_NC y_NC_told y_NC_told ∈ lw_G := List.mem_filter.mpr ⟨List.mem_of_getElem? (i := 527) (by decide +kernel), rfl⟩
theorem m_code_NC_told : Cond.code y_NC_told b_NC_told 2 (some .int) ∈ lw_G := List.mem_filter.mpr ⟨List.mem_of_getElem? (i := 528) (by decide +kernel), rfl⟩
theorem m_m_law_90 : Cond.methodLink R_law 90 y_NC_count ∈ lw_G := List.mem_filter.mpr ⟨List.mem_of_getElem? (i := 529) (by decide +kernel), rfl⟩
theorem m_i_NC_count : Cond.instanceMethod y_NC_count ∈ lw_G := List.mem_filter.mpr ⟨List.mem_of_getElem? (i := 530) (by decide +kernel), rfl⟩
theorem m_s_NC_count : Cond.selects R_NC y_NC_count y_NC_count ∈ lw_G := List.mem_filter.mpr ⟨List.mem_of_getElem? (i := 531) (by decide +kernel), rfl⟩
theorem m_code_NC_count : Cond.code y_NC_count b_NC_count 2 (some .int) ∈ lw_G := List.mem_filter.mpr ⟨List.mem_of_getElem? (i := 532) (by decide +kernel), rfl⟩
theorem m_m_law_17 : Cond.methodLink R_law 17 y_M_thing ∈ lw_G := List.mem_filter.mpr ⟨List.mem_of_getElem? (i := 658) (by decide +kernel), rfl⟩
theorem m_i_M_thing : Cond.instanceMethod y_M_thing ∈ lw_G := List.mem_filter.mpr ⟨List.mem_of_getElem? (i := 659) (by decide +kernel), rfl⟩
theorem m_s_M_thing : Cond.selects R_M y_M_thing y_M_thing ∈ lw_G := List.mem_filter.mpr ⟨List.mem_of_getElem? (i := 660) (by decide +kernel), rfl⟩
theorem m_code_M_thing : Cond.code y_M_thing b_M_thing 1 (some .int) ∈ lw_G := List.mem_filter.mpr ⟨List.mem_of_getElem? (i := 661) (by decide +kernel), rfl⟩
theorem m_m_law_22 : Cond.methodLink R_law 22 y_M_word ∈ lw_G := List.mem_filter.mpr ⟨List.mem_of_getElem? (i := 662) (by decide +kernel), rfl⟩
theorem m_i_M_word : Cond.instanceMethod y_M_word ∈ lw_G := List.mem_filter.mpr ⟨List.mem_of_getElem? (i := 663) (by decide +kernel), rfl⟩
theorem m_s_M_word : Cond.selects R_M y_M_word y_M_word ∈ lw_G := List.mem_filter.mpr ⟨List.mem_of_getElem? (i := 664) (by decide +kernel), rfl⟩
theorem m_code_M_word : Cond.code y_M_word b_M_word 7 (some .int) ∈ lw_G := List.mem_filter.mpr ⟨List.mem_of_getElem? (i := 665) (by decide +kernel), rfl⟩
theorem m_m_law_27 : Cond.methodLink R_law 27 y_M_kind ∈ lw_G := List.mem_filter.mpr ⟨List.mem_of_getElem? (i := 673) (by decide +kernel), rfl⟩
theorem m_i_M_kind : Cond.instanceMethod y_M_kind ∈ lw_G := List.mem_filter.mpr ⟨List.mem_of_getElem? (i := 674) (by decide +kernel), rfl⟩
theorem m_s_M_kind : Cond.selects R_M y_M_kind y_M_kind ∈ lw_G := List.mem_filter.mpr ⟨List.mem_of_getElem? (i := 675) (by decide +kernel), rfl⟩
theorem m_code_M_kind : Cond.code y_M_kind b_M_kind 4 (some .int) ∈ lw_G := List.mem_filter.mpr ⟨List.mem_of_getElem? (i := 676) (by decide +kernel), rfl⟩
theorem m_m_law_31 : Cond.methodLink R_law 31 y_M_place ∈ lw_G := List.mem_filter.mpr ⟨List.mem_of_getElem? (i := 677) (by decide +kernel), rfl⟩
theorem m_i_M_place : Cond.instanceMethod y_M_place ∈ lw_G := List.mem_filter.mpr ⟨List.mem_of_getElem? (i := 678) (by decide +kernel), rfl⟩
theorem m_s_M_place : Cond.selects R_M y_M_place y_M_place ∈ lw_G := List.mem_filter.mpr ⟨List.mem_of_getElem? (i := 679) (by decide +kernel), rfl⟩
theorem m_code_M_place : Cond.code y_M_place b_M_place 4 (some .int) ∈ lw_G := List.mem_filter.mpr ⟨List.mem_of_getElem? (i := 680) (by decide +kernel), rfl⟩
theorem m_m_law_36 : Cond.methodLink R_law 36 y_M_mark ∈ lw_G := List.mem_filter.mpr ⟨List.mem_of_getElem? (i := 681) (by decide +kernel), rfl⟩
theorem m_i_M_mark : Cond.instanceMethod y_M_mark ∈ lw_G := List.mem_filter.mpr ⟨List.mem_of_getElem? (i := 682) (by decide +kernel), rfl⟩
theorem m_s_M_mark : Cond.selects R_M y_M_mark y_M_mark ∈ lw_G := List.mem_filter.mpr ⟨List.mem_of_getElem? (i := 683) (by decide +kernel), rfl⟩
theorem m_code_M_mark : Cond.code y_M_mark b_M_mark 5 (some .int) ∈ lw_G := List.mem_filter.mpr ⟨List.mem_of_getElem? (i := 684) (by decide +kernel), rfl⟩
theorem m_m_law_40 : Cond.methodLink R_law 40 y_M_plural ∈ lw_G := List.mem_filter.mpr ⟨List.mem_of_getElem? (i := 685) (by decide +kernel), rfl⟩
theorem m_i_M_plural : Cond.instanceMethod y_M_plural ∈ lw_G := List.mem_filter.mpr ⟨List.mem_of_getElem? (i := 686) (by decide +kernel), rfl⟩
theorem m_s_M_plural : Cond.selects R_M y_M_plural y_M_plural ∈ lw_G := List.mem_filter.mpr ⟨List.mem_of_getElem? (i := 687) (by decide +kernel), rfl⟩
theorem m_code_M_plural : Cond.code y_M_plural b_M_plural 4 (some .int) ∈ lw_G := List.mem_filter.mpr ⟨List.mem_of_getElem? (i := 688) (by decide +kernel), rfl⟩
theorem m_m_law_44 : Cond.methodLink R_law 44 y_M_weight ∈ lw_G := List.mem_filter.mpr ⟨List.mem_of_getElem? (i := 689) (by decide +kernel), rfl⟩
theorem m_i_M_weight : Cond.instanceMethod y_M_weight ∈ lw_G := List.mem_filter.mpr ⟨List.mem_of_getElem? (i := 690) (by decide +kernel), rfl⟩
theorem m_s_M_weight : Cond.selects R_M y_M_weight y_M_weight ∈ lw_G := List.mem_filter.mpr ⟨List.mem_of_getElem? (i := 691) (by decide +kernel), rfl⟩
theorem m_code_M_weight : Cond.code y_M_weight b_M_weight 4 (some .int) ∈ lw_G := List.mem_filter.mpr ⟨List.mem_of_getElem? (i := 692) (by decide +kernel), rfl⟩
theorem m_m_law_49 : Cond.methodLink R_law 49 y_M_limit ∈ lw_G := List.mem_filter.mpr ⟨List.mem_of_getElem? (i := 693) (by decide +kernel), rfl⟩
theorem m_i_M_limit : Cond.instanceMethod y_M_limit ∈ lw_G := List.mem_filter.mpr ⟨List.mem_of_getElem? (i := 694) (by decide +kernel), rfl⟩
theorem m_s_M_limit : Cond.selects R_M y_M_limit y_M_limit ∈ lw_G := List.mem_filter.mpr ⟨List.mem_of_getElem? (i := 695) (by decide +kernel), rfl⟩
theorem m_code_M_limit : Cond.code y_M_limit b_M_limit 3 (some .int) ∈ lw_G := List.mem_filter.mpr ⟨List.mem_of_getElem? (i := 696) (by decide +kernel), rfl⟩
theorem m_m_law_53 : Cond.methodLink R_law 53 y_M_score ∈ lw_G := List.mem_filter.mpr ⟨List.mem_of_getElem? (i := 697) (by decide +kernel), rfl⟩
theorem m_i_M_score : Cond.instanceMethod y_M_score ∈ lw_G := List.mem_filter.mpr ⟨List.mem_of_getElem? (i := 698) (by decide +kernel), rfl⟩
theorem m_s_M_score : Cond.selects R_M y_M_score y_M_score ∈ lw_G := List.mem_filter.mpr ⟨List.mem_of_getElem? (i := 699) (by decide +kernel), rfl⟩
theorem m_code_M_score : Cond.code y_M_score b_M_score 2 (some .int) ∈ lw_G := List.mem_filter.mpr ⟨List.mem_of_getElem? (i := 700) (by decide +kernel), rfl⟩
theorem m_m_law_57 : Cond.methodLink R_law 57 y_M_alike ∈ lw_G := List.mem_filter.mpr ⟨List.mem_of_getElem? (i := 705) (by decide +kernel), rfl⟩
theorem m_i_M_alike : Cond.instanceMethod y_M_alike ∈ lw_G := List.mem_filter.mpr ⟨List.mem_of_getElem? (i := 706) (by decide +kernel), rfl⟩
theorem m_s_M_alike : Cond.selects R_M y_M_alike y_M_alike ∈ lw_G := List.mem_filter.mpr ⟨List.mem_of_getElem? (i := 707) (by decide +kernel), rfl⟩
theorem m_code_M_alike : Cond.code y_M_alike b_M_alike 3 (some .int) ∈ lw_G := List.mem_filter.mpr ⟨List.mem_of_getElem? (i := 708) (by decide +kernel), rfl⟩
theorem m_m_law_61 : Cond.methodLink R_law 61 y_M_type ∈ lw_G := List.mem_filter.mpr ⟨List.mem_of_getElem? (i := 713) (by decide +kernel), rfl⟩
theorem m_i_M_type : Cond.instanceMethod y_M_type ∈ lw_G := List.mem_filter.mpr ⟨List.mem_of_getElem? (i := 714) (by decide +kernel), rfl⟩
theorem m_s_M_type : Cond.selects R_M y_M_type y_M_type ∈ lw_G := List.mem_filter.mpr ⟨List.mem_of_getElem? (i := 715) (by decide +kernel), rfl⟩
theorem m_code_M_type : Cond.code y_M_type b_M_type 2 (some .int) ∈ lw_G := List.mem_filter.mpr ⟨List.mem_of_getElem? (i := 716) (by decide +kernel), rfl⟩
theorem m_m_law_65 : Cond.methodLink R_law 65 y_M_wipe ∈ lw_G := List.mem_filter.mpr ⟨List.mem_of_getElem? (i := 717) (by decide +kernel), rfl⟩
theorem m_i_M_wipe : Cond.instanceMethod y_M_wipe ∈ lw_G := List.mem_filter.mpr ⟨List.mem_of_getElem? (i := 718) (by decide +kernel), rfl⟩
theorem m_s_M_wipe : Cond.selects R_M y_M_wipe y_M_wipe ∈ lw_G := List.mem_filter.mpr ⟨List.mem_of_getElem? (i := 719) (by decide +kernel), rfl⟩
theorem m_code_M_wipe : Cond.code y_M_wipe b_M_wipe 2 (some .int) ∈ lw_G := List.mem_filter.mpr ⟨List.mem_of_getElem? (i := 720) (by decide +kernel), rfl⟩
theorem m_m_law_69 : Cond.methodLink R_law 69 y_M_fits ∈ lw_G := List.mem_filter.mpr ⟨List.mem_of_getElem? (i := 721) (by decide +kernel), rfl⟩
theorem m_i_M_fits : Cond.instanceMethod y_M_fits ∈ lw_G := List.mem_filter.mpr ⟨List.mem_of_getElem? (i := 722) (by decide +kernel), rfl⟩
theorem m_s_M_fits : Cond.selects R_M y_M_fits y_M_fits ∈ lw_G := List.mem_filter.mpr ⟨List.mem_of_getElem? (i := 723) (by decide +kernel), rfl⟩
theorem m_code_M_fits : Cond.code y_M_fits b_M_fits 2 (some .int) ∈ lw_G := List.mem_filter.mpr ⟨List.mem_of_getElem? (i := 724) (by decide +kernel), rfl⟩
theorem m_m_law_73 : Cond.methodLink R_law 73 y_M_choose ∈ lw_G := List.mem_filter.mpr ⟨List.mem_of_getElem? (i := 752) (by decide +kernel), rfl⟩
theorem m_i_M_choose : Cond.instanceMethod y_M_choose ∈ lw_G := List.mem_filter.mpr ⟨List.mem_of_getElem? (i := 753) (by decide +kernel), rfl⟩
theorem m_s_M_choose : Cond.selects R_M y_M_choose y_M_choose ∈ lw_G := List.mem_filter.mpr ⟨List.mem_of_getElem? (i := 754) (by decide +kernel), rfl⟩
theorem m_code_M_choose : Cond.code y_M_choose b_M_choose 3 (some .int) ∈ lw_G := List.mem_filter.mpr ⟨List.mem_of_getElem? (i := 755) (by decide +kernel), rfl⟩
theorem m_m_law_77 : Cond.methodLink R_law 77 y_M_reply ∈ lw_G := List.mem_filter.mpr ⟨List.mem_of_getElem? (i := 796) (by decide +kernel), rfl⟩
theorem m_i_M_reply : Cond.instanceMethod y_M_reply ∈ lw_G := List.mem_filter.mpr ⟨List.mem_of_getElem? (i := 797) (by decide +kernel), rfl⟩
theorem m_s_M_reply : Cond.selects R_M y_M_reply y_M_reply ∈ lw_G := List.mem_filter.mpr ⟨List.mem_of_getElem? (i := 798) (by decide +kernel), rfl⟩
theorem m_code_M_reply : Cond.code y_M_reply b_M_reply 3 (some .int) ∈ lw_G := List.mem_filter.mpr ⟨List.mem_of_getElem? (i := 799) (by decide +kernel), rfl⟩
theorem m_m_law_81 : Cond.methodLink R_law 81 y_M_chosen ∈ lw_G := List.mem_filter.mpr ⟨List.mem_of_getElem? (i := 804) (by decide +kernel), rfl⟩
theorem m_i_M_chosen : Cond.instanceMethod y_M_chosen ∈ lw_G := List.mem_filter.mpr ⟨List.mem_of_getElem? (i := 805) (by decide +kernel), rfl⟩
theorem m_s_M_chosen : Cond.selects R_M y_M_chosen y_M_chosen ∈ lw_G := List.mem_filter.mpr ⟨List.mem_of_getElem? (i := 806) (by decide +kernel), rfl⟩
theorem m_code_M_chosen : Cond.code y_M_chosen b_M_chosen 2 (some .int) ∈ lw_G := List.mem_filter.mpr ⟨List.mem_of_getElem? (i := 807) (by decide +kernel), rfl⟩
theorem m_m_law_85 : Cond.methodLink R_law 85 y_M_asked ∈ lw_G := List.mem_filter.mpr ⟨List.mem_of_getElem? (i := 808) (by decide +kernel), rfl⟩
theorem m_i_M_asked : Cond.instanceMethod y_M_asked ∈ lw_G := List.mem_filter.mpr ⟨List.mem_of_getElem? (i := 809) (by decide +kernel), rfl⟩
theorem m_s_M_asked : Cond.selects R_M y_M_asked y_M_asked ∈ lw_G := List.mem_filter.mpr ⟨List.mem_of_getElem? (i := 810) (by decide +kernel), rfl⟩
theorem m_code_M_asked : Cond.code y_M_asked b_M_asked 6 (some .int) ∈ lw_G := List.mem_filter.mpr ⟨List.mem_of_getElem? (i := 811) (by decide +kernel), rfl⟩
theorem m_m_law_89 : Cond.methodLink R_law 89 y_M_told ∈ lw_G := List.mem_filter.mpr ⟨List.mem_of_getElem? (i := 812) (by decide +kernel), rfl⟩
theorem m_i_M_told : Cond.instanceMethod y_M_told ∈ lw_G := List.mem_filter.mpr ⟨List.mem_of_getElem? (i := 813) (by decide +kernel), rfl⟩
theorem m_s_M_told : Cond.selects R_M y_M_told y_M_told ∈ lw_G := List.mem_filter.mpr ⟨List.mem_of_getElem? (i := 814) (by decide +kernel), rfl⟩
theorem m_code_M_told : Cond.code y_M_told b_M_told 2 (some .int) ∈ lw_G := List.mem_filter.mpr ⟨List.mem_of_getElem? (i := 815) (by decide +kernel), rfl⟩
theorem m_m_law_93 : Cond.methodLink R_law 93 y_M_count ∈ lw_G := List.mem_filter.mpr ⟨List.mem_of_getElem? (i := 816) (by decide +kernel), rfl⟩
theorem m_i_M_count : Cond.instanceMethod y_M_count ∈ lw_G := List.mem_filter.mpr ⟨List.mem_of_getElem? (i := 817) (by decide +kernel), rfl⟩
theorem m_s_M_count : Cond.selects R_M y_M_count y_M_count ∈ lw_G := List.mem_filter.mpr ⟨List.mem_of_getElem? (i := 818) (by decide +kernel), rfl⟩
theorem m_code_M_count : Cond.code y_M_count b_M_count 4 (some .int) ∈ lw_G := List.mem_filter.mpr ⟨List.mem_of_getElem? (i := 819) (by decide +kernel), rfl⟩
theorem L_7 : (7 : Int32).toInt = 7 := by decide
theorem L_8 : (8 : Int32).toInt = 8 := by decide
theorem L_10 : (10 : Int32).toInt = 10 := by decide
theorem L_11 : (11 : Int32).toInt = 11 := by decide
theorem L_12 : (12 : Int32).toInt = 12 := by decide
theorem L_13 : (13 : Int32).toInt = 13 := by decide
theorem L_14 : (14 : Int32).toInt = 14 := by decide
theorem L_17 : (17 : Int32).toInt = 17 := by decide
theorem L_18 : (18 : Int32).toInt = 18 := by decide
theorem k_law_13 {R : Room} {s : State} {args : Array Value} (hts : ∀ w ∈ lw_G, w.before args s = true) (hN : nc_N s) {rm : Room} (hR : rm.frames + 1 ≤ R.frames ∧ 8 + (1 + 11) + rm.locals ≤ R.locals) (h1 : rm.cells = 0 := by rfl) (h2 : rm.slots = 0 := by rfl) : CallW R s args R_law R_NC 13 y_NC_thing b_NC_thing 1 (some .int) (.code y_NC_thing b_NC_thing 1 (some .int) :: lw_G) rm 0 0 0 := ⟨callB_of 0 hts (nc_gd m_code_NC_thing) rfl h1 h2 (hts _ m_ini_NC) (hts _ m_m_law_13) (by decide +kernel) hR, hts _ m_i_NC_thing, hts _ m_s_NC_thing⟩
theorem k_law_17 {R : Room} {s : State} {args : Array Value} (hts : ∀ w ∈ lw_G, w.before args s = true) (hN : nc_N s) {rm : Room} (hR : rm.frames + 1 ≤ R.frames ∧ 8 + (1 + 11) + rm.locals ≤ R.locals) (h1 : rm.cells = 0 := by rfl) (h2 : rm.slots = 0 := by rfl) : CallW R s args R_law R_M 17 y_M_thing b_M_thing 1 (some .int) (.code y_M_thing b_M_thing 1 (some .int) :: lw_G) rm 0 0 0 := ⟨callB_of 0 hts (nc_gd m_code_M_thing) rfl h1 h2 (hts _ m_ini_M) (hts _ m_m_law_17) (by decide +kernel) hR, hts _ m_i_M_thing, hts _ m_s_M_thing⟩
theorem k_law_18 {R : Room} {s : State} {args : Array Value} (hts : ∀ w ∈ lw_G, w.before args s = true) (hN : nc_N s) {rm : Room} (hR : rm.frames + 1 ≤ R.frames ∧ 8 + (5 + 11) + rm.locals ≤ R.locals) (h1 : rm.cells = 0 := by rfl) (h2 : rm.slots = 0 := by rfl) : CallW R s args R_law R_NC 18 y_NC_word b_NC_word 5 (some .int) (.code y_NC_word b_NC_word 5 (some .int) :: lw_G) rm 0 0 4 := ⟨callB_of 4 hts (nc_gd m_code_NC_word) rfl h1 h2 (hts _ m_ini_NC) (hts _ m_m_law_18) (by decide +kernel) hR, hts _ m_i_NC_word, hts _ m_s_NC_word⟩
theorem k_law_22 {R : Room} {s : State} {args : Array Value} (hts : ∀ w ∈ lw_G, w.before args s = true) (hN : nc_N s) {rm : Room} (hR : rm.frames + 1 ≤ R.frames ∧ 8 + (7 + 11) + rm.locals ≤ R.locals) (h1 : rm.cells = 0 := by rfl) (h2 : rm.slots = 0 := by rfl) : CallW R s args R_law R_M 22 y_M_word b_M_word 7 (some .int) (.code y_M_word b_M_word 7 (some .int) :: lw_G) rm 0 0 4 := ⟨callB_of 4 hts (nc_gd m_code_M_word) rfl h1 h2 (hts _ m_ini_M) (hts _ m_m_law_22) (by decide +kernel) hR, hts _ m_i_M_word, hts _ m_s_M_word⟩
theorem k_law_23 {R : Room} {s : State} {args : Array Value} (hts : ∀ w ∈ lw_G, w.before args s = true) (hN : nc_N s) {rm : Room} (hR : rm.frames + 1 ≤ R.frames ∧ 8 + (3 + 11) + rm.locals ≤ R.locals) (h1 : rm.cells = 0 := by rfl) (h2 : rm.slots = 0 := by rfl) : CallW R s args R_law R_NC 23 y_NC_kind b_NC_kind 3 (some .int) (.code y_NC_kind b_NC_kind 3 (some .int) :: lw_G) rm 0 0 2 := ⟨callB_of 2 hts (nc_gd m_code_NC_kind) rfl h1 h2 (hts _ m_ini_NC) (hts _ m_m_law_23) (by decide +kernel) hR, hts _ m_i_NC_kind, hts _ m_s_NC_kind⟩
theorem k_law_27 {R : Room} {s : State} {args : Array Value} (hts : ∀ w ∈ lw_G, w.before args s = true) (hN : nc_N s) {rm : Room} (hR : rm.frames + 1 ≤ R.frames ∧ 8 + (4 + 11) + rm.locals ≤ R.locals) (h1 : rm.cells = 0 := by rfl) (h2 : rm.slots = 0 := by rfl) : CallW R s args R_law R_M 27 y_M_kind b_M_kind 4 (some .int) (.code y_M_kind b_M_kind 4 (some .int) :: lw_G) rm 0 0 2 := ⟨callB_of 2 hts (nc_gd m_code_M_kind) rfl h1 h2 (hts _ m_ini_M) (hts _ m_m_law_27) (by decide +kernel) hR, hts _ m_i_M_kind, hts _ m_s_M_kind⟩
theorem k_law_28 {R : Room} {s : State} {args : Array Value} (hts : ∀ w ∈ lw_G, w.before args s = true) (hN : nc_N s) {rm : Room} (hR : rm.frames + 1 ≤ R.frames ∧ 8 + (3 + 11) + rm.locals ≤ R.locals) (h1 : rm.cells = 0 := by rfl) (h2 : rm.slots = 0 := by rfl) : CallW R s args R_law R_NC 28 y_NC_place b_NC_place 3 (some .int) (.code y_NC_place b_NC_place 3 (some .int) :: lw_G) rm 0 0 2 := ⟨callB_of 2 hts (nc_gd m_code_NC_place) rfl h1 h2 (hts _ m_ini_NC) (hts _ m_m_law_28) (by decide +kernel) hR, hts _ m_i_NC_place, hts _ m_s_NC_place⟩
theorem k_law_31 {R : Room} {s : State} {args : Array Value} (hts : ∀ w ∈ lw_G, w.before args s = true) (hN : nc_N s) {rm : Room} (hR : rm.frames + 1 ≤ R.frames ∧ 8 + (4 + 11) + rm.locals ≤ R.locals) (h1 : rm.cells = 0 := by rfl) (h2 : rm.slots = 0 := by rfl) : CallW R s args R_law R_M 31 y_M_place b_M_place 4 (some .int) (.code y_M_place b_M_place 4 (some .int) :: lw_G) rm 0 0 2 := ⟨callB_of 2 hts (nc_gd m_code_M_place) rfl h1 h2 (hts _ m_ini_M) (hts _ m_m_law_31) (by decide +kernel) hR, hts _ m_i_M_place, hts _ m_s_M_place⟩
theorem k_law_32 {R : Room} {s : State} {args : Array Value} (hts : ∀ w ∈ lw_G, w.before args s = true) (hN : nc_N s) {rm : Room} (hR : rm.frames + 1 ≤ R.frames ∧ 8 + (4 + 11) + rm.locals ≤ R.locals) (h1 : rm.cells = 0 := by rfl) (h2 : rm.slots = 0 := by rfl) : CallW R s args R_law R_NC 32 y_NC_mark b_NC_mark 4 (some .int) (.code y_NC_mark b_NC_mark 4 (some .int) :: lw_G) rm 0 0 3 := ⟨callB_of 3 hts (nc_gd m_code_NC_mark) rfl h1 h2 (hts _ m_ini_NC) (hts _ m_m_law_32) (by decide +kernel) hR, hts _ m_i_NC_mark, hts _ m_s_NC_mark⟩
theorem k_law_36 {R : Room} {s : State} {args : Array Value} (hts : ∀ w ∈ lw_G, w.before args s = true) (hN : nc_N s) {rm : Room} (hR : rm.frames + 1 ≤ R.frames ∧ 8 + (5 + 11) + rm.locals ≤ R.locals) (h1 : rm.cells = 0 := by rfl) (h2 : rm.slots = 0 := by rfl) : CallW R s args R_law R_M 36 y_M_mark b_M_mark 5 (some .int) (.code y_M_mark b_M_mark 5 (some .int) :: lw_G) rm 0 0 3 := ⟨callB_of 3 hts (nc_gd m_code_M_mark) rfl h1 h2 (hts _ m_ini_M) (hts _ m_m_law_36) (by decide +kernel) hR, hts _ m_i_M_mark, hts _ m_s_M_mark⟩
theorem k_law_37 {R : Room} {s : State} {args : Array Value} (hts : ∀ w ∈ lw_G, w.before args s = true) (hN : nc_N s) {rm : Room} (hR : rm.frames + 1 ≤ R.frames ∧ 8 + (3 + 11) + rm.locals ≤ R.locals) (h1 : rm.cells = 0 := by rfl) (h2 : rm.slots = 0 := by rfl) : CallW R s args R_law R_NC 37 y_NC_plural b_NC_plural 3 (some .int) (.code y_NC_plural b_NC_plural 3 (some .int) :: lw_G) rm 0 0 2 := ⟨callB_of 2 hts (nc_gd m_code_NC_plural) rfl h1 h2 (hts _ m_ini_NC) (hts _ m_m_law_37) (by decide +kernel) hR, hts _ m_i_NC_plural, hts _ m_s_NC_plural⟩
theorem k_law_40 {R : Room} {s : State} {args : Array Value} (hts : ∀ w ∈ lw_G, w.before args s = true) (hN : nc_N s) {rm : Room} (hR : rm.frames + 1 ≤ R.frames ∧ 8 + (4 + 11) + rm.locals ≤ R.locals) (h1 : rm.cells = 0 := by rfl) (h2 : rm.slots = 0 := by rfl) : CallW R s args R_law R_M 40 y_M_plural b_M_plural 4 (some .int) (.code y_M_plural b_M_plural 4 (some .int) :: lw_G) rm 0 0 2 := ⟨callB_of 2 hts (nc_gd m_code_M_plural) rfl h1 h2 (hts _ m_ini_M) (hts _ m_m_law_40) (by decide +kernel) hR, hts _ m_i_M_plural, hts _ m_s_M_plural⟩
theorem k_law_41 {R : Room} {s : State} {args : Array Value} (hts : ∀ w ∈ lw_G, w.before args s = true) (hN : nc_N s) {rm : Room} (hR : rm.frames + 1 ≤ R.frames ∧ 8 + (3 + 11) + rm.locals ≤ R.locals) (h1 : rm.cells = 0 := by rfl) (h2 : rm.slots = 0 := by rfl) : CallW R s args R_law R_NC 41 y_NC_weight b_NC_weight 3 (some .int) (.code y_NC_weight b_NC_weight 3 (some .int) :: lw_G) rm 0 0 2 := ⟨callB_of 2 hts (nc_gd m_code_NC_weight) rfl h1 h2 (hts _ m_ini_NC) (hts _ m_m_law_41) (by decide +kernel) hR, hts _ m_i_NC_weight, hts _ m_s_NC_weight⟩
theorem k_law_44 {R : Room} {s : State} {args : Array Value} (hts : ∀ w ∈ lw_G, w.before args s = true) (hN : nc_N s) {rm : Room} (hR : rm.frames + 1 ≤ R.frames ∧ 8 + (4 + 11) + rm.locals ≤ R.locals) (h1 : rm.cells = 0 := by rfl) (h2 : rm.slots = 0 := by rfl) : CallW R s args R_law R_M 44 y_M_weight b_M_weight 4 (some .int) (.code y_M_weight b_M_weight 4 (some .int) :: lw_G) rm 0 0 2 := ⟨callB_of 2 hts (nc_gd m_code_M_weight) rfl h1 h2 (hts _ m_ini_M) (hts _ m_m_law_44) (by decide +kernel) hR, hts _ m_i_M_weight, hts _ m_s_M_weight⟩
theorem k_law_45 {R : Room} {s : State} {args : Array Value} (hts : ∀ w ∈ lw_G, w.before args s = true) (hN : nc_N s) {rm : Room} (hR : rm.frames + 1 ≤ R.frames ∧ 8 + (3 + 11) + rm.locals ≤ R.locals) (h1 : rm.cells = 0 := by rfl) (h2 : rm.slots = 0 := by rfl) : CallW R s args R_law R_NC 45 y_NC_limit b_NC_limit 3 (some .int) (.code y_NC_limit b_NC_limit 3 (some .int) :: lw_G) rm 0 0 1 := ⟨callB_of 1 hts (nc_gd m_code_NC_limit) rfl h1 h2 (hts _ m_ini_NC) (hts _ m_m_law_45) (by decide +kernel) hR, hts _ m_i_NC_limit, hts _ m_s_NC_limit⟩
theorem k_law_49 {R : Room} {s : State} {args : Array Value} (hts : ∀ w ∈ lw_G, w.before args s = true) (hN : nc_N s) {rm : Room} (hR : rm.frames + 1 ≤ R.frames ∧ 8 + (3 + 11) + rm.locals ≤ R.locals) (h1 : rm.cells = 0 := by rfl) (h2 : rm.slots = 0 := by rfl) : CallW R s args R_law R_M 49 y_M_limit b_M_limit 3 (some .int) (.code y_M_limit b_M_limit 3 (some .int) :: lw_G) rm 0 0 1 := ⟨callB_of 1 hts (nc_gd m_code_M_limit) rfl h1 h2 (hts _ m_ini_M) (hts _ m_m_law_49) (by decide +kernel) hR, hts _ m_i_M_limit, hts _ m_s_M_limit⟩
theorem k_law_50 {R : Room} {s : State} {args : Array Value} (hts : ∀ w ∈ lw_G, w.before args s = true) (hN : nc_N s) {rm : Room} (hR : rm.frames + 1 ≤ R.frames ∧ 8 + (2 + 11) + rm.locals ≤ R.locals) (h1 : rm.cells = 0 := by rfl) (h2 : rm.slots = 0 := by rfl) : CallW R s args R_law R_NC 50 y_NC_score b_NC_score 2 (some .int) (.code y_NC_score b_NC_score 2 (some .int) :: lw_G) rm 0 0 1 := ⟨callB_of 1 hts (nc_gd m_code_NC_score) rfl h1 h2 (hts _ m_ini_NC) (hts _ m_m_law_50) (by decide +kernel) hR, hts _ m_i_NC_score, hts _ m_s_NC_score⟩
theorem k_law_53 {R : Room} {s : State} {args : Array Value} (hts : ∀ w ∈ lw_G, w.before args s = true) (hN : nc_N s) {rm : Room} (hR : rm.frames + 1 ≤ R.frames ∧ 8 + (2 + 11) + rm.locals ≤ R.locals) (h1 : rm.cells = 0 := by rfl) (h2 : rm.slots = 0 := by rfl) : CallW R s args R_law R_M 53 y_M_score b_M_score 2 (some .int) (.code y_M_score b_M_score 2 (some .int) :: lw_G) rm 0 0 1 := ⟨callB_of 1 hts (nc_gd m_code_M_score) rfl h1 h2 (hts _ m_ini_M) (hts _ m_m_law_53) (by decide +kernel) hR, hts _ m_i_M_score, hts _ m_s_M_score⟩
theorem k_law_54 {R : Room} {s : State} {args : Array Value} (hts : ∀ w ∈ lw_G, w.before args s = true) (hN : nc_N s) {rm : Room} (hR : rm.frames + 1 ≤ R.frames ∧ 8 + (3 + 11) + rm.locals ≤ R.locals) (h1 : rm.cells = 0 := by rfl) (h2 : rm.slots = 0 := by rfl) : CallW R s args R_law R_NC 54 y_NC_alike b_NC_alike 3 (some .int) (.code y_NC_alike b_NC_alike 3 (some .int) :: lw_G) rm 0 0 2 := ⟨callB_of 2 hts (nc_gd m_code_NC_alike) rfl h1 h2 (hts _ m_ini_NC) (hts _ m_m_law_54) (by decide +kernel) hR, hts _ m_i_NC_alike, hts _ m_s_NC_alike⟩
theorem k_law_57 {R : Room} {s : State} {args : Array Value} (hts : ∀ w ∈ lw_G, w.before args s = true) (hN : nc_N s) {rm : Room} (hR : rm.frames + 1 ≤ R.frames ∧ 8 + (3 + 11) + rm.locals ≤ R.locals) (h1 : rm.cells = 0 := by rfl) (h2 : rm.slots = 0 := by rfl) : CallW R s args R_law R_M 57 y_M_alike b_M_alike 3 (some .int) (.code y_M_alike b_M_alike 3 (some .int) :: lw_G) rm 0 0 2 := ⟨callB_of 2 hts (nc_gd m_code_M_alike) rfl h1 h2 (hts _ m_ini_M) (hts _ m_m_law_57) (by decide +kernel) hR, hts _ m_i_M_alike, hts _ m_s_M_alike⟩
theorem k_law_58 {R : Room} {s : State} {args : Array Value} (hts : ∀ w ∈ lw_G, w.before args s = true) (hN : nc_N s) {rm : Room} (hR : rm.frames + 1 ≤ R.frames ∧ 8 + (2 + 11) + rm.locals ≤ R.locals) (h1 : rm.cells = 0 := by rfl) (h2 : rm.slots = 0 := by rfl) : CallW R s args R_law R_NC 58 y_NC_type b_NC_type 2 (some .int) (.code y_NC_type b_NC_type 2 (some .int) :: lw_G) rm 0 0 1 := ⟨callB_of 1 hts (nc_gd m_code_NC_type) rfl h1 h2 (hts _ m_ini_NC) (hts _ m_m_law_58) (by decide +kernel) hR, hts _ m_i_NC_type, hts _ m_s_NC_type⟩
theorem k_law_61 {R : Room} {s : State} {args : Array Value} (hts : ∀ w ∈ lw_G, w.before args s = true) (hN : nc_N s) {rm : Room} (hR : rm.frames + 1 ≤ R.frames ∧ 8 + (2 + 11) + rm.locals ≤ R.locals) (h1 : rm.cells = 0 := by rfl) (h2 : rm.slots = 0 := by rfl) : CallW R s args R_law R_M 61 y_M_type b_M_type 2 (some .int) (.code y_M_type b_M_type 2 (some .int) :: lw_G) rm 0 0 1 := ⟨callB_of 1 hts (nc_gd m_code_M_type) rfl h1 h2 (hts _ m_ini_M) (hts _ m_m_law_61) (by decide +kernel) hR, hts _ m_i_M_type, hts _ m_s_M_type⟩
theorem k_law_62 {R : Room} {s : State} {args : Array Value} (hts : ∀ w ∈ lw_G, w.before args s = true) (hN : nc_N s) {rm : Room} (hR : rm.frames + 1 ≤ R.frames ∧ 8 + (2 + 11) + rm.locals ≤ R.locals) (h1 : rm.cells = 0 := by rfl) (h2 : rm.slots = 0 := by rfl) : CallW R s args R_law R_NC 62 y_NC_wipe b_NC_wipe 2 (some .int) (.code y_NC_wipe b_NC_wipe 2 (some .int) :: lw_G) rm 0 0 0 := ⟨callB_of 0 hts (nc_gd m_code_NC_wipe) rfl h1 h2 (hts _ m_ini_NC) (hts _ m_m_law_62) (by decide +kernel) hR, hts _ m_i_NC_wipe, hts _ m_s_NC_wipe⟩
theorem k_law_65 {R : Room} {s : State} {args : Array Value} (hts : ∀ w ∈ lw_G, w.before args s = true) (hN : nc_N s) {rm : Room} (hR : rm.frames + 1 ≤ R.frames ∧ 8 + (2 + 11) + rm.locals ≤ R.locals) (h1 : rm.cells = 0 := by rfl) (h2 : rm.slots = 0 := by rfl) : CallW R s args R_law R_M 65 y_M_wipe b_M_wipe 2 (some .int) (.code y_M_wipe b_M_wipe 2 (some .int) :: lw_G) rm 0 0 0 := ⟨callB_of 0 hts (nc_gd m_code_M_wipe) rfl h1 h2 (hts _ m_ini_M) (hts _ m_m_law_65) (by decide +kernel) hR, hts _ m_i_M_wipe, hts _ m_s_M_wipe⟩
theorem k_law_66 {R : Room} {s : State} {args : Array Value} (hts : ∀ w ∈ lw_G, w.before args s = true) (hN : nc_N s) {rm : Room} (hR : rm.frames + 1 ≤ R.frames ∧ 8 + (4 + 11) + rm.locals ≤ R.locals) (h1 : rm.cells = 0 := by rfl) (h2 : rm.slots = 0 := by rfl) : CallW R s args R_law R_NC 66 y_NC_fits b_NC_fits 4 (some .int) (.code y_NC_fits b_NC_fits 4 (some .int) :: lw_G) rm 0 0 1 := ⟨callB_of 1 hts (nc_gd m_code_NC_fits) rfl h1 h2 (hts _ m_ini_NC) (hts _ m_m_law_66) (by decide +kernel) hR, hts _ m_i_NC_fits, hts _ m_s_NC_fits⟩
theorem k_law_69 {R : Room} {s : State} {args : Array Value} (hts : ∀ w ∈ lw_G, w.before args s = true) (hN : nc_N s) {rm : Room} (hR : rm.frames + 1 ≤ R.frames ∧ 8 + (2 + 11) + rm.locals ≤ R.locals) (h1 : rm.cells = 0 := by rfl) (h2 : rm.slots = 0 := by rfl) : CallW R s args R_law R_M 69 y_M_fits b_M_fits 2 (some .int) (.code y_M_fits b_M_fits 2 (some .int) :: lw_G) rm 0 0 1 := ⟨callB_of 1 hts (nc_gd m_code_M_fits) rfl h1 h2 (hts _ m_ini_M) (hts _ m_m_law_69) (by decide +kernel) hR, hts _ m_i_M_fits, hts _ m_s_M_fits⟩
theorem k_law_70 {R : Room} {s : State} {args : Array Value} (hts : ∀ w ∈ lw_G, w.before args s = true) (hN : nc_N s) {rm : Room} (hR : rm.frames + 1 ≤ R.frames ∧ 8 + (3 + 11) + rm.locals ≤ R.locals) (h1 : rm.cells = 0 := by rfl) (h2 : rm.slots = 0 := by rfl) : CallW R s args R_law R_NC 70 y_NC_choose b_NC_choose 3 (some .int) (.code y_NC_choose b_NC_choose 3 (some .int) :: lw_G) rm 0 0 0 := ⟨callB_of 0 hts (nc_gd m_code_NC_choose) rfl h1 h2 (hts _ m_ini_NC) (hts _ m_m_law_70) (by decide +kernel) hR, hts _ m_i_NC_choose, hts _ m_s_NC_choose⟩
theorem k_law_73 {R : Room} {s : State} {args : Array Value} (hts : ∀ w ∈ lw_G, w.before args s = true) (hN : nc_N s) {rm : Room} (hR : rm.frames + 1 ≤ R.frames ∧ 8 + (3 + 11) + rm.locals ≤ R.locals) (h1 : rm.cells = 0 := by rfl) (h2 : rm.slots = 0 := by rfl) : CallW R s args R_law R_M 73 y_M_choose b_M_choose 3 (some .int) (.code y_M_choose b_M_choose 3 (some .int) :: lw_G) rm 0 0 0 := ⟨callB_of 0 hts (nc_gd m_code_M_choose) rfl h1 h2 (hts _ m_ini_M) (hts _ m_m_law_73) (by decide +kernel) hR, hts _ m_i_M_choose, hts _ m_s_M_choose⟩
theorem k_law_74 {R : Room} {s : State} {args : Array Value} (hts : ∀ w ∈ lw_G, w.before args s = true) (hN : nc_N s) {rm : Room} (hR : rm.frames + 1 ≤ R.frames ∧ 8 + (3 + 11) + rm.locals ≤ R.locals) (h1 : rm.cells = 0 := by rfl) (h2 : rm.slots = 0 := by rfl) : CallW R s args R_law R_NC 74 y_NC_reply b_NC_reply 3 (some .int) (.code y_NC_reply b_NC_reply 3 (some .int) :: lw_G) rm 0 0 0 := ⟨callB_of 0 hts (nc_gd m_code_NC_reply) rfl h1 h2 (hts _ m_ini_NC) (hts _ m_m_law_74) (by decide +kernel) hR, hts _ m_i_NC_reply, hts _ m_s_NC_reply⟩
theorem k_law_77 {R : Room} {s : State} {args : Array Value} (hts : ∀ w ∈ lw_G, w.before args s = true) (hN : nc_N s) {rm : Room} (hR : rm.frames + 1 ≤ R.frames ∧ 8 + (3 + 11) + rm.locals ≤ R.locals) (h1 : rm.cells = 0 := by rfl) (h2 : rm.slots = 0 := by rfl) : CallW R s args R_law R_M 77 y_M_reply b_M_reply 3 (some .int) (.code y_M_reply b_M_reply 3 (some .int) :: lw_G) rm 0 0 0 := ⟨callB_of 0 hts (nc_gd m_code_M_reply) rfl h1 h2 (hts _ m_ini_M) (hts _ m_m_law_77) (by decide +kernel) hR, hts _ m_i_M_reply, hts _ m_s_M_reply⟩
theorem k_law_78 {R : Room} {s : State} {args : Array Value} (hts : ∀ w ∈ lw_G, w.before args s = true) (hN : nc_N s) {rm : Room} (hR : rm.frames + 1 ≤ R.frames ∧ 8 + (2 + 11) + rm.locals ≤ R.locals) (h1 : rm.cells = 0 := by rfl) (h2 : rm.slots = 0 := by rfl) : CallW R s args R_law R_NC 78 y_NC_chosen b_NC_chosen 2 (some .int) (.code y_NC_chosen b_NC_chosen 2 (some .int) :: lw_G) rm 0 0 1 := ⟨callB_of 1 hts (nc_gd m_code_NC_chosen) rfl h1 h2 (hts _ m_ini_NC) (hts _ m_m_law_78) (by decide +kernel) hR, hts _ m_i_NC_chosen, hts _ m_s_NC_chosen⟩
theorem k_law_81 {R : Room} {s : State} {args : Array Value} (hts : ∀ w ∈ lw_G, w.before args s = true) (hN : nc_N s) {rm : Room} (hR : rm.frames + 1 ≤ R.frames ∧ 8 + (2 + 11) + rm.locals ≤ R.locals) (h1 : rm.cells = 0 := by rfl) (h2 : rm.slots = 0 := by rfl) : CallW R s args R_law R_M 81 y_M_chosen b_M_chosen 2 (some .int) (.code y_M_chosen b_M_chosen 2 (some .int) :: lw_G) rm 0 0 1 := ⟨callB_of 1 hts (nc_gd m_code_M_chosen) rfl h1 h2 (hts _ m_ini_M) (hts _ m_m_law_81) (by decide +kernel) hR, hts _ m_i_M_chosen, hts _ m_s_M_chosen⟩
theorem k_law_82 {R : Room} {s : State} {args : Array Value} (hts : ∀ w ∈ lw_G, w.before args s = true) (hN : nc_N s) {rm : Room} (hR : rm.frames + 1 ≤ R.frames ∧ 8 + (4 + 11) + rm.locals ≤ R.locals) (h1 : rm.cells = 0 := by rfl) (h2 : rm.slots = 0 := by rfl) : CallW R s args R_law R_NC 82 y_NC_asked b_NC_asked 4 (some .int) (.code y_NC_asked b_NC_asked 4 (some .int) :: lw_G) rm 0 0 2 := ⟨callB_of 2 hts (nc_gd m_code_NC_asked) rfl h1 h2 (hts _ m_ini_NC) (hts _ m_m_law_82) (by decide +kernel) hR, hts _ m_i_NC_asked, hts _ m_s_NC_asked⟩
theorem k_law_85 {R : Room} {s : State} {args : Array Value} (hts : ∀ w ∈ lw_G, w.before args s = true) (hN : nc_N s) {rm : Room} (hR : rm.frames + 1 ≤ R.frames ∧ 8 + (6 + 11) + rm.locals ≤ R.locals) (h1 : rm.cells = 0 := by rfl) (h2 : rm.slots = 0 := by rfl) : CallW R s args R_law R_M 85 y_M_asked b_M_asked 6 (some .int) (.code y_M_asked b_M_asked 6 (some .int) :: lw_G) rm 0 0 2 := ⟨callB_of 2 hts (nc_gd m_code_M_asked) rfl h1 h2 (hts _ m_ini_M) (hts _ m_m_law_85) (by decide +kernel) hR, hts _ m_i_M_asked, hts _ m_s_M_asked⟩
theorem k_law_86 {R : Room} {s : State} {args : Array Value} (hts : ∀ w ∈ lw_G, w.before args s = true) (hN : nc_N s) {rm : Room} (hR : rm.frames + 1 ≤ R.frames ∧ 8 + (2 + 11) + rm.locals ≤ R.locals) (h1 : rm.cells = 0 := by rfl) (h2 : rm.slots = 0 := by rfl) : CallW R s args R_law R_NC 86 y_NC_told b_NC_told 2 (some .int) (.code y_NC_told b_NC_told 2 (some .int) :: lw_G) rm 0 0 1 := ⟨callB_of 1 hts (nc_gd m_code_NC_told) rfl h1 h2 (hts _ m_ini_NC) (hts _ m_m_law_86) (by decide +kernel) hR, hts _ m_i_NC_told, hts _ m_s_NC_told⟩
theorem k_law_89 {R : Room} {s : State} {args : Array Value} (hts : ∀ w ∈ lw_G, w.before args s = true) (hN : nc_N s) {rm : Room} (hR : rm.frames + 1 ≤ R.frames ∧ 8 + (2 + 11) + rm.locals ≤ R.locals) (h1 : rm.cells = 0 := by rfl) (h2 : rm.slots = 0 := by rfl) : CallW R s args R_law R_M 89 y_M_told b_M_told 2 (some .int) (.code y_M_told b_M_told 2 (some .int) :: lw_G) rm 0 0 1 := ⟨callB_of 1 hts (nc_gd m_code_M_told) rfl h1 h2 (hts _ m_ini_M) (hts _ m_m_law_89) (by decide +kernel) hR, hts _ m_i_M_told, hts _ m_s_M_told⟩
theorem k_law_90 {R : Room} {s : State} {args : Array Value} (hts : ∀ w ∈ lw_G, w.before args s = true) (hN : nc_N s) {rm : Room} (hR : rm.frames + 1 ≤ R.frames ∧ 8 + (2 + 11) + rm.locals ≤ R.locals) (h1 : rm.cells = 0 := by rfl) (h2 : rm.slots = 0 := by rfl) : CallW R s args R_law R_NC 90 y_NC_count b_NC_count 2 (some .int) (.code y_NC_count b_NC_count 2 (some .int) :: lw_G) rm 0 0 1 := ⟨callB_of 1 hts (nc_gd m_code_NC_count) rfl h1 h2 (hts _ m_ini_NC) (hts _ m_m_law_90) (by decide +kernel) hR, hts _ m_i_NC_count, hts _ m_s_NC_count⟩
theorem k_law_93 {R : Room} {s : State} {args : Array Value} (hts : ∀ w ∈ lw_G, w.before args s = true) (hN : nc_N s) {rm : Room} (hR : rm.frames + 1 ≤ R.frames ∧ 8 + (4 + 11) + rm.locals ≤ R.locals) (h1 : rm.cells = 0 := by rfl) (h2 : rm.slots = 0 := by rfl) : CallW R s args R_law R_M 93 y_M_count b_M_count 4 (some .int) (.code y_M_count b_M_count 4 (some .int) :: lw_G) rm 0 0 1 := ⟨callB_of 1 hts (nc_gd m_code_M_count) rfl h1 h2 (hts _ m_ini_M) (hts _ m_m_law_93) (by decide +kernel) hR, hts _ m_i_M_count, hts _ m_s_M_count⟩
theorem lw_z5 {z3 : Int32} {i : Nat} (h : z3 = nI i) : z3 + 5 = nI (i + 5) := by
  rw [h]
  show nI i + nI 5 = _
  rw [nI_add]
theorem lw_hi {L i : Nat} {z3 : Int32} (hL : L ≤ 2560) (hi : i ≤ L) (ez : z3 = nI i) (c : ¬ (Int32.ofNat L - 5) < z3) : i + 5 ≤ L := by
  have h1 := nc_nlt c rfl rfl
  have h2 : (Int32.ofNat L - 5).toInt = (L : Int) - 5 := by
    have e1 : (Int32.ofNat L).toInt = (L : Int) := nI_toInt (n := L) (by omega)
    rw [Int32.toInt_sub, e1, show (5 : Int32).toInt = 5 by decide, Int.bmod_eq_of_le (by omega) (by omega)]
  rw [ez, nI_toInt (by omega), h2] at h1
  omega
theorem lw_in0 {L i : Nat} {z3 : Int32} (hL : L ≤ 2560) (hi : i + 5 ≤ L) (ez : z3 = nI i) : vp_in z3 L := by
  rw [ez]
  exact vp_in_nI (by omega) (by omega)
theorem lw_in1 {L i : Nat} {z3 : Int32} (hL : L ≤ 2560) (hi : i + 5 ≤ L) (ez : z3 = nI i) : vp_in (z3 + 1) L := by
  have e : z3 + 1 = nI (i + 1) := by rw [ez]; exact nI_1 i
  rw [e]
  exact vp_in_nI (by omega) (by omega)
theorem lw_in2 {L i : Nat} {z3 : Int32} (hL : L ≤ 2560) (hi : i + 5 ≤ L) (ez : z3 = nI i) : vp_in (z3 + 2) L := by
  have e : z3 + 2 = nI (i + 2) := by rw [ez]; show nI i + nI 2 = _; rw [nI_add]
  rw [e]
  exact vp_in_nI (by omega) (by omega)
theorem lw_in3 {L i : Nat} {z3 : Int32} (hL : L ≤ 2560) (hi : i + 5 ≤ L) (ez : z3 = nI i) : vp_in (z3 + 3) L := by
  have e : z3 + 3 = nI (i + 3) := by rw [ez]; show nI i + nI 3 = _; rw [nI_add]
  rw [e]
  exact vp_in_nI (by omega) (by omega)
theorem lw_in4 {L i : Nat} {z3 : Int32} (hL : L ≤ 2560) (hi : i + 5 ≤ L) (ez : z3 = nI i) : vp_in (z3 + 4) L := by
  have e : z3 + 4 = nI (i + 4) := by rw [ez]; show nI i + nI 4 = _; rw [nI_add]
  rw [e]
  exact vp_in_nI (by omega) (by omega)
