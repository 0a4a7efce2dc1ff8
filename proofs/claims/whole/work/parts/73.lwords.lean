/-! ===== the law, from its entry: words of the start ===== -/
theorem m_l_law_7 : Cond.classLink R_law 7 R_NC ∈ lw_G := by decide +kernel
theorem m_l_law_10 : Cond.classLink R_law 10 R_M ∈ lw_G := by decide +kernel
theorem m_inst_NC : Cond.instantiable R_NC 15 ∈ lw_G := by decide +kernel
theorem m_inst_M : Cond.instantiable R_M 39 ∈ lw_G := by decide +kernel
theorem m_m_law_9 : Cond.methodLink R_law 9 y_NC_init ∈ lw_G := by decide +kernel
theorem m_m_law_12 : Cond.methodLink R_law 12 y_M_init ∈ lw_G := by decide +kernel
theorem m_i_NC_init : Cond.instanceMethod y_NC_init ∈ lw_G := by decide +kernel
theorem m_i_M_init : Cond.instanceMethod y_M_init ∈ lw_G := by decide +kernel
theorem m_code_NC_init : Cond.code y_NC_init b_NC_init 1 none ∈ lw_G := by decide +kernel
theorem m_code_M_init : Cond.code y_M_init b_M_init 2 none ∈ lw_G := by decide +kernel
theorem k_law_9 {R : Room} {s : State} {args : Array Value} (hts : ∀ w ∈ lw_G, w.before args s = true) {rm : Room} (hR : rm.frames + 1 ≤ R.frames ∧ 8 + (1 + 11) + rm.locals ≤ R.locals) (h1 : rm.cells = 30 := by rfl) (h2 : rm.slots = 856 := by rfl) : CallB R s args R_law 9 y_NC_init b_NC_init 1 none (.code y_NC_init b_NC_init 1 none :: lw_G) rm 30 856 0 ∧ y_NC_init.name = "<init>" ∧ (Cond.instanceMethod y_NC_init).before args s = true := ⟨callB_of 0 hts (nc_gd m_code_NC_init) rfl h1 h2 (hts _ m_ini_NC) (hts _ m_m_law_9) (by decide +kernel) hR, rfl, hts _ m_i_NC_init⟩
theorem k_law_12 {R : Room} {s : State} {args : Array Value} (hts : ∀ w ∈ lw_G, w.before args s = true) {rm : Room} (hR : rm.frames + 1 ≤ R.frames ∧ 8 + (2 + 11) + rm.locals ≤ R.locals) (h1 : rm.cells = 14 := by rfl) (h2 : rm.slots = 466 := by rfl) : CallB R s args R_law 12 y_M_init b_M_init 2 none (.code y_M_init b_M_init 2 none :: lw_G) rm 14 466 0 ∧ y_M_init.name = "<init>" ∧ (Cond.instanceMethod y_M_init).before args s = true := ⟨callB_of 0 hts (nc_gd m_code_M_init) rfl h1 h2 (hts _ m_ini_M) (hts _ m_m_law_12) (by decide +kernel) hR, rfl, hts _ m_i_M_init⟩
theorem nc_all_M : ∀ j, j < 39 → defaultValue (t_M j) = vp_V [.int 0, .int 0, .null, .null, .null, .null, .null, .null, .null, .int 0, .null, .int 0, .null, .int 0, .int 0, .int 0, .int 0, .null, .int 0, .int 0, .int 0, .int 0, .int 0, .int 0, .null, .int 0, .int 0, .null, .null, .int 0, .int 0, .int 0, .null, .int 0, .null, .int 0, .int 0, .int 0, .int 0] j := fun j hj => by rcases (show j = 0 ∨ j = 1 ∨ j = 2 ∨ j = 3 ∨ j = 4 ∨ j = 5 ∨ j = 6 ∨ j = 7 ∨ j = 8 ∨ j = 9 ∨ j = 10 ∨ j = 11 ∨ j = 12 ∨ j = 13 ∨ j = 14 ∨ j = 15 ∨ j = 16 ∨ j = 17 ∨ j = 18 ∨ j = 19 ∨ j = 20 ∨ j = 21 ∨ j = 22 ∨ j = 23 ∨ j = 24 ∨ j = 25 ∨ j = 26 ∨ j = 27 ∨ j = 28 ∨ j = 29 ∨ j = 30 ∨ j = 31 ∨ j = 32 ∨ j = 33 ∨ j = 34 ∨ j = 35 ∨ j = 36 ∨ j = 37 ∨ j = 38 by omega) with rfl | rfl | rfl | rfl | rfl | rfl | rfl | rfl | rfl | rfl | rfl | rfl | rfl | rfl | rfl | rfl | rfl | rfl | rfl | rfl | rfl | rfl | rfl | rfl | rfl | rfl | rfl | rfl | rfl | rfl | rfl | rfl | rfl | rfl | rfl | rfl | rfl | rfl | rfl <;> rfl
theorem nc_arr {s : State} {args : Array Value} {ty : FieldType} (h : (Cond.arrayClass ty).before args s = true) : ∃ cA : ClassId, ArrOfT s cA ty ∧ s.vm.findClass ("[" ++ ty.toString) = some cA := by
  obtain ⟨cA, kA, comp, h1, h2, h3⟩ := Cond.arrayClass_spec h
  exact ⟨cA, fun n z => ⟨fun k h => (by cases h), kA, h2, comp, h3⟩, h1⟩
section NCI2
variable {p : Program} {l : Launch} {e : Env} {R : Room} {s : State} {m : MethodId} {args : Array Value} {below : List Frame} {meth : Method} {c : Code} {H : Heap} {locs : List Loc} {cells slots mc ms : Nat} {Q : State → Prop}
variable {pc : Nat} {ls : Array Slot} {rest st0 : List Value} {a : Array Value} {A0 A1 : Nat → Prop} {H0 : Heap} {D : va_G} {cl : List vw_C}
theorem nc_init2 {w2 : (Nat → Nat → Nat) → va_W} {post : (Nat → Nat → Nat) → Prop} (hr : va_Run p l e R s m args below meth c H locs cells slots mc ms (F0 m pc ls st0) rest (va_Qv post (fun u t => va_P D cl (w2 u) t.heap ∧ va_D A1 (w2 u)) A1 a) A1) (hS : va_S A0 H0 H locs) (hF : ∀ q, A1 q → A0 q)
    (kk : ∀ (u : Nat → Nat → Nat) (H1 : Heap) (locs1 : List Loc), post u → va_P D cl (w2 u) H1 → va_D A1 (w2 u) → (∀ q : Nat, q < H.size → ¬ A1 q → H1[q]? = H[q]?) → va_S A0 H0 H1 locs1 → W p l e R s m args below meth c H1 locs1 (cells + mc) (slots + ms) Q (F0 m (pc + 3) ls rest)) : W p l e R s m args below meth c H locs cells slots Q (F0 m pc ls st0) :=
  va_callv hr hS (fun q _ h => hF q h) hF (fun u t H1 locs1 ht _ hp hB _ hk hS1 => kk u H1 locs1 hp (by rw [← ht]; exact hB.1) hB.2 hk hS1)
end NCI2
