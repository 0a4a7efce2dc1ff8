def w_Things (cA : ClassId) (a : Nat → Nat) (X : Nat → Nat → Int32) : va_W := [(a 0, .inr (1, [.ref (a 1), .ref (a 2), .ref (a 3), .ref (a 4), .ref (a 5), .ref (a 6), .ref (a 7), .int (X 7 0)])), (a 1, .inl (cA, 32, .inl (X 0))), (a 2, .inl (cA, 32, .inl (X 1))), (a 3, .inl (cA, 32, .inl (X 2))), (a 4, .inl (cA, 32, .inl (X 3))), (a 5, .inl (cA, 128, .inl (X 4))), (a 6, .inl (cA, 16, .inl (X 5))), (a 7, .inl (cA, 4, .inl (X 6)))]
def w_Phrase (cA : ClassId) (a : Nat → Nat) (X : Nat → Nat → Int32) : va_W := [(a 0, .inr (2, [.ref (a 1), .ref (a 2), .ref (a 3), .ref (a 4), .int (X 4 0), .ref (a 5), .ref (a 6), .ref (a 7), .int (X 8 0), .int (X 9 0), .int (X 10 0)])), (a 1, .inl (cA, 30, .inl (X 0))), (a 2, .inl (cA, 30, .inl (X 1))), (a 3, .inl (cA, 30, .inl (X 2))), (a 4, .inl (cA, 30, .inl (X 3))), (a 5, .inl (cA, 30, .inl (X 5))), (a 6, .inl (cA, 30, .inl (X 6))), (a 7, .inl (cA, 30, .inl (X 7)))]
def w_Picks (cA : ClassId) (a : Nat → Nat) (X : Nat → Nat → Int32) : va_W := [(a 0, .inr (3, [.ref (a 1), .int (X 1 0), .int (X 2 0)])), (a 1, .inl (cA, 32, .inl (X 0)))]
def w_NC (cA : ClassId) (ad : Nat → Nat → Nat) (S : Nat → Nat → Nat → Int32) : va_W := [(((ad 0) 0), .inr (0, [.ref ((ad 1) 0), .ref ((ad 0) 1), .int ((S 0) 2 0), .int ((S 0) 3 0), .ref ((ad 2) 0), .ref ((ad 3) 0), .ref ((ad 0) 2), .ref ((ad 4) 0), .ref ((ad 5) 0), .int ((S 0) 9 0), .int ((S 0) 10 0), .int ((S 0) 11 0), .int ((S 0) 12 0), .int ((S 0) 13 0), .int ((S 0) 14 0)])), (((ad 0) 1), .inl (cA, 30, .inl ((S 0) 1))), (((ad 0) 2), .inl (cA, 30, .inl ((S 0) 6))), (((ad 1) 0), .inr (1, [.ref ((ad 1) 1), .ref ((ad 1) 2), .ref ((ad 1) 3), .ref ((ad 1) 4), .ref ((ad 1) 5), .ref ((ad 1) 6), .ref ((ad 1) 7), .int ((S 1) 7 0)])), (((ad 1) 1), .inl (cA, 32, .inl ((S 1) 0))), (((ad 1) 2), .inl (cA, 32, .inl ((S 1) 1))), (((ad 1) 3), .inl (cA, 32, .inl ((S 1) 2))), (((ad 1) 4), .inl (cA, 32, .inl ((S 1) 3))), (((ad 1) 5), .inl (cA, 128, .inl ((S 1) 4))), (((ad 1) 6), .inl (cA, 16, .inl ((S 1) 5))), (((ad 1) 7), .inl (cA, 4, .inl ((S 1) 6))), (((ad 2) 0), .inr (2, [.ref ((ad 2) 1), .ref ((ad 2) 2), .ref ((ad 2) 3), .ref ((ad 2) 4), .int ((S 2) 4 0), .ref ((ad 2) 5), .ref ((ad 2) 6), .ref ((ad 2) 7), .int ((S 2) 8 0), .int ((S 2) 9 0), .int ((S 2) 10 0)])), (((ad 2) 1), .inl (cA, 30, .inl ((S 2) 0))), (((ad 2) 2), .inl (cA, 30, .inl ((S 2) 1))), (((ad 2) 3), .inl (cA, 30, .inl ((S 2) 2))), (((ad 2) 4), .inl (cA, 30, .inl ((S 2) 3))), (((ad 2) 5), .inl (cA, 30, .inl ((S 2) 5))), (((ad 2) 6), .inl (cA, 30, .inl ((S 2) 6))), (((ad 2) 7), .inl (cA, 30, .inl ((S 2) 7))), (((ad 3) 0), .inr (2, [.ref ((ad 3) 1), .ref ((ad 3) 2), .ref ((ad 3) 3), .ref ((ad 3) 4), .int ((S 3) 4 0), .ref ((ad 3) 5), .ref ((ad 3) 6), .ref ((ad 3) 7), .int ((S 3) 8 0), .int ((S 3) 9 0), .int ((S 3) 10 0)])), (((ad 3) 1), .inl (cA, 30, .inl ((S 3) 0))), (((ad 3) 2), .inl (cA, 30, .inl ((S 3) 1))), (((ad 3) 3), .inl (cA, 30, .inl ((S 3) 2))), (((ad 3) 4), .inl (cA, 30, .inl ((S 3) 3))), (((ad 3) 5), .inl (cA, 30, .inl ((S 3) 5))), (((ad 3) 6), .inl (cA, 30, .inl ((S 3) 6))), (((ad 3) 7), .inl (cA, 30, .inl ((S 3) 7))), (((ad 4) 0), .inr (3, [.ref ((ad 4) 1), .int ((S 4) 1 0), .int ((S 4) 2 0)])), (((ad 4) 1), .inl (cA, 32, .inl ((S 4) 0))), (((ad 5) 0), .inr (3, [.ref ((ad 5) 1), .int ((S 5) 1 0), .int ((S 5) 2 0)])), (((ad 5) 1), .inl (cA, 32, .inl ((S 5) 0)))]
/-! my own rows: states as functions, calls that only read, calls that change their world, numbers of loops -/
abbrev upf (X : Nat → Nat → Int32) (k : Nat) (g : Nat → Int32) : Nat → Nat → Int32 := fun j => @Bool.casesOn (fun _ => Nat → Int32) (Nat.beq j k) (X j) g
abbrev upr (S : Nat → Nat → Nat → Int32) (r : Nat) (X : Nat → Nat → Int32) : Nat → Nat → Nat → Int32 := fun j => @Bool.casesOn (fun _ => Nat → Nat → Int32) (Nat.beq j r) (S j) X
abbrev nc_sw (f : Nat → Nat → Nat) (i j : Nat) : Nat → Nat → Nat := fun r => @Bool.casesOn (fun _ => Nat → Nat) (Nat.beq r i) (@Bool.casesOn (fun _ => Nat → Nat) (Nat.beq r j) (f r) (f i)) (f j)
def nc_ushr (x y : Int32) : Int32 := (x.toUInt32 >>> (y.toUInt32 &&& Int32.toUInt32 31)).toInt32
def nc_mu (b i : Int32) : Nat := (b.toInt - i.toInt).toNat
def va_pick (ws : va_W) (is : List Nat) : va_W := is.filterMap (fun i => ws[i]?)
theorem nc_lt {x y : Int32} {a b : Int} (h : x < y) (hx : x.toInt = a) (hy : y.toInt = b) : a < b := by rw [Int32.lt_iff_toInt_lt] at h; omega
theorem nc_nlt {x y : Int32} {a b : Int} (h : ¬ x < y) (hx : x.toInt = a) (hy : y.toInt = b) : b ≤ a := by rw [Int32.lt_iff_toInt_lt] at h; omega
theorem nc_le {x y : Int32} {a b : Int} (h : x ≤ y) (hx : x.toInt = a) (hy : y.toInt = b) : a ≤ b := by rw [Int32.le_iff_toInt_le] at h; omega
theorem nc_nle {x y : Int32} {a b : Int} (h : ¬ x ≤ y) (hx : x.toInt = a) (hy : y.toInt = b) : b < a := by rw [Int32.le_iff_toInt_le] at h; omega
theorem nc_eq {x y : Int32} {a b : Int} (h : x = y) (hx : x.toInt = a) (hy : y.toInt = b) : a = b := by rw [← hx, ← hy, h]
theorem nc_add1 {b i : Int32} (c : ¬ b ≤ i) : (i + 1).toInt = i.toInt + 1 := by
  have h := nc_nle c rfl rfl
  have h1 := Int32.toInt_lt b
  have h2 := Int32.le_toInt i
  rw [Int32.toInt_add, show (1 : Int32).toInt = 1 by decide, Int.bmod_eq_of_le (by omega) (by omega)]
theorem nc_mu_step {b i : Int32} {n : Nat} (c : ¬ b ≤ i) (hm : nc_mu b i < n + 1) : nc_mu b (i + 1) < n := by
  have h := nc_nle c rfl rfl
  have h1 := nc_add1 c
  unfold nc_mu at hm ⊢
  omega
theorem nc_i_step {b i : Int32} (c : ¬ b ≤ i) (h0 : 0 ≤ i.toInt) : 0 ≤ (i + 1).toInt := by
  have h1 := nc_add1 c
  omega
theorem nc_m4 {x r : Int32} (h1 : 0 ≤ x.toInt) (h2 : x.toInt < 32) (h3 : 0 ≤ r.toInt) (h4 : r.toInt < 4) : vp_in (x * 4 + r) 128 := by
  have e1 : (x * 4).toInt = x.toInt * 4 := by
    rw [Int32.toInt_mul, show (4 : Int32).toInt = 4 by decide, Int.bmod_eq_of_le (by omega) (by omega)]
  have e2 : (x * 4 + r).toInt = x.toInt * 4 + r.toInt := by
    rw [Int32.toInt_add, e1, Int.bmod_eq_of_le (by omega) (by omega)]
  exact vp_in_iff.mpr ⟨by omega, by omega⟩
def nc_N (U : State) : Prop := ∀ w ∈ nestW, va_Nw w U
theorem nestW_tab : nestW.all Cond.onTables = true := by decide +kernel
theorem nc_N_same {u U : State} (h : u.vm = U.vm) (hN : nc_N u) : nc_N U := fun w hw => va_Nw.same (List.all_eq_true.mp nestW_tab w hw) h (hN w hw)
theorem nc_N_of {s : State} {args : Array Value} (hts : ∀ w ∈ lw_tbl, w.before args s = true) : nc_N s := fun w hw => va_Nw.of (List.all_eq_true.mp nestW_tab w hw) (hts w (nestW_in w hw))
theorem nc_N_warm {s U : State} (hW : s.WarmedH U.vm) (hN : nc_N s) : nc_N U := by
  intro w hw
  have h := hN w hw
  unfold nestW at hw
  simp only [List.mem_cons, List.not_mem_nil, or_false] at hw
  rcases hw with rfl | rfl | rfl | rfl | rfl | rfl | rfl | rfl | rfl | rfl | rfl
  · exact va_Nw.warmF hW h
  · exact va_Nw.warmM hW h
  · exact va_Nw.warmF hW h
  · exact va_Nw.warmM hW h
  · exact va_Nw.warmF hW h
  · exact va_Nw.warmF hW h
  · exact va_Nw.warmM hW h
  · exact va_Nw.warmM hW h
  · exact va_Nw.warmM hW h
  · exact va_Nw.warmM hW h
  · exact va_Nw.warmM hW h
def nc_Pre (D : va_G) (cA : ClassId) (av : List Value) (ws : va_W) : Array Value → State → Prop := va_Pc av (fun U => va_P D classes ws U.heap ∧ va_K D classes [(cA, .int)] U ∧ va_D (fun _ => True) ws ∧ nc_N U)
def nc_PreM (D : va_G) (cA : ClassId) (sz : Nat) (av : List Value) (ws : va_W) : Array Value → State → Prop := va_Pc av (fun U => U.heap.size = sz ∧ va_P D classes ws U.heap ∧ va_K D classes [(cA, .int)] U ∧ va_D (fun _ => True) ws ∧ nc_N U)
theorem nc_blind {D : va_G} {cA : ClassId} {av : List Value} {ws : va_W} : FrameBlind (nc_Pre D cA av ws) := fun a U g mk q => by
  obtain ⟨q0, qP, qK, qD, qN⟩ := q
  exact ⟨q0, qP, va_K.moved (u := U) (U := U.calling g mk a) (Vm.Alike.refl U.vm) qK, qD, nc_N_same (u := U) (U := U.calling g mk a) rfl qN⟩
theorem nc_blindM {D : va_G} {cA : ClassId} {sz : Nat} {av : List Value} {ws : va_W} : FrameBlind (nc_PreM D cA sz av ws) := fun a U g mk q => by
  obtain ⟨q0, q1, qP, qK, qD, qN⟩ := q
  exact ⟨q0, q1, qP, va_K.moved (u := U) (U := U.calling g mk a) (Vm.Alike.refl U.vm) qK, qD, nc_N_same (u := U) (U := U.calling g mk a) rfl qN⟩
section NCP
variable {s : State} {H : Heap} {D : va_G} {cA : ClassId} {ws : va_W} {A : Nat → Prop} {b ci N : Nat} {fs As : List Value} {C : String} {T : u_T}
theorem nc_preV (hK : va_K D classes [(cA, .int)] s) (hN : nc_N s) (hP : va_P D classes ws H) (hD : va_D A ws) (he : ws[0]? = some (b, .inr (ci, fs))) (hc : classes[ci]? = some (C, T, N)) : PreV s H C b (nc_Pre D cA (.ref b :: As) ws) As :=
  ⟨nc_blind, va_recv hK hP hc he, fun U hU hW => ⟨rfl, by rw [hU]; exact hP, va_K.moved hW.alike hK, hD.weaken (fun _ _ _ _ => trivial), nc_N_warm hW hN⟩⟩
theorem nc_preVM (hK : va_K D classes [(cA, .int)] s) (hN : nc_N s) (hP : va_P D classes ws H) (hD : va_D A ws) (he : ws[0]? = some (b, .inr (ci, fs))) (hc : classes[ci]? = some (C, T, N)) : PreV s H C b (nc_PreM D cA H.size (.ref b :: As) ws) As :=
  ⟨nc_blindM, va_recv hK hP hc he, fun U hU hW => ⟨rfl, by rw [hU], by rw [hU]; exact hP, va_K.moved hW.alike hK, hD.weaken (fun _ _ _ _ => trivial), nc_N_warm hW hN⟩⟩
theorem nc_preS (hK : va_K D classes [(cA, .int)] s) (hN : nc_N s) (hP : va_P D classes ws H) (hD : va_D A ws) : PreS s H (nc_Pre D cA As ws) As :=
  ⟨nc_blind, fun U hU hW => ⟨rfl, by rw [hU]; exact hP, va_K.moved hW.alike hK, hD.weaken (fun _ _ _ _ => trivial), nc_N_warm hW hN⟩⟩
theorem nc_preSM (hK : va_K D classes [(cA, .int)] s) (hN : nc_N s) (hP : va_P D classes ws H) (hD : va_D A ws) : PreS s H (nc_PreM D cA H.size As ws) As :=
  ⟨nc_blindM, fun U hU hW => ⟨rfl, by rw [hU], by rw [hU]; exact hP, va_K.moved hW.alike hK, hD.weaken (fun _ _ _ _ => trivial), nc_N_warm hW hN⟩⟩
theorem nc_preS0 (hK : va_K D classes [(cA, .int)] s) (hN : nc_N s) : PreS s H (nc_Pre D cA As []) As :=
  ⟨nc_blind, fun U hU hW => ⟨rfl, fun k q h => by simp at h, va_K.moved hW.alike hK, ⟨fun i j p q h => by simp at h, fun k q h => by simp at h⟩, nc_N_warm hW hN⟩⟩
end NCP
theorem nc_free {A0 : Nat → Prop} {ws : va_W} {H0 H : Heap} {locs : List Loc} (hD : va_D A0 ws) (hS : va_S A0 H0 H locs) (hA : ∀ q, H0.size ≤ q → A0 q) : ∀ q, va_A ws H.size q → A0 q := by
  intro q h
  rcases h with ⟨k, e, h⟩ | h
  · exact hD.2 k (q, e) h
  · exact hA q (Nat.le_trans hS.1 h)
section NCC
variable {p : Program} {l : Launch} {e : Env} {R : Room} {s : State} {m : MethodId} {args : Array Value} {below : List Frame} {meth : Method} {c : Code} {H : Heap} {locs : List Loc} {cells slots : Nat} {Q : State → Prop}
variable {pc : Nat} {ls : Array Slot} {rest st0 : List Value} {a : Array Value} {A0 A1 : Nat → Prop} {H0 : Heap} {D : va_G} {cl : List vw_C} {w1 : va_W} {post : Int32 → Prop}
theorem nc_ro (hr : va_Run p l e R s m args below meth c H locs cells slots 0 0 (F0 m pc ls st0) rest (vp_Si post a) (fun _ => False))
    (kk : ∀ r : Int32, post r → W p l e R s m args below meth c H locs cells slots Q (F0 m (pc + 3) ls (.int r :: rest))) : W p l e R s m args below meth c H locs cells slots Q (F0 m pc ls st0) := by
  intro T hT X
  obtain ⟨v, st₀, t, T', L, h0, X', hL, e1, e2, ⟨r, hv, hp, hh⟩, st⟩ := hr T hT X
  cases hv
  obtain ⟨t2, a1, b1⟩ := kk r hp T' (by rw [e1, hh, h0]) (Stand.forget X' (fun q h => (hL q h).elim))
  exact ⟨t2, st t2 a1, b1⟩
theorem nc_mui (hr : va_Run p l e R s m args below meth c H locs cells slots 0 0 (F0 m pc ls st0) rest (va_Qi (fun r (_ : Unit) => post r) (fun _ t => va_P D cl w1 t.heap ∧ va_D A1 w1) A1 a) A1) (hS : va_S A0 H0 H locs) (hF : ∀ q, A1 q → A0 q)
    (kk : ∀ (r : Int32) (H1 : Heap) (locs1 : List Loc), post r → va_P D cl w1 H1 → va_D A1 w1 → (∀ q : Nat, q < H.size → ¬ A1 q → H1[q]? = H[q]?) → va_S A0 H0 H1 locs1 → W p l e R s m args below meth c H1 locs1 cells slots Q (F0 m (pc + 3) ls (.int r :: rest))) : W p l e R s m args below meth c H locs cells slots Q (F0 m pc ls st0) :=
  va_calli hr hS (fun q _ h => hF q h) hF (fun r _ t H1 locs1 ht _ hp hB _ hk hS1 => kk r H1 locs1 hp (by rw [← ht]; exact hB.1) hB.2 hk hS1)
theorem nc_muv (hr : va_Run p l e R s m args below meth c H locs cells slots 0 0 (F0 m pc ls st0) rest (va_Qv (fun _ : Unit => True) (fun _ t => va_P D cl w1 t.heap ∧ va_D A1 w1) A1 a) A1) (hS : va_S A0 H0 H locs) (hF : ∀ q, A1 q → A0 q)
    (kk : ∀ (H1 : Heap) (locs1 : List Loc), va_P D cl w1 H1 → va_D A1 w1 → (∀ q : Nat, q < H.size → ¬ A1 q → H1[q]? = H[q]?) → va_S A0 H0 H1 locs1 → W p l e R s m args below meth c H1 locs1 cells slots Q (F0 m (pc + 3) ls rest)) : W p l e R s m args below meth c H locs cells slots Q (F0 m pc ls st0) :=
  va_callv hr hS (fun q _ h => hF q h) hF (fun _ t H1 locs1 ht _ _ hB _ hk hS1 => kk H1 locs1 (by rw [← ht]; exact hB.1) hB.2 hk hS1)
theorem nc_mumi {w2 : (Nat → Nat → Nat) → va_W} (hr : va_Run p l e R s m args below meth c H locs cells slots 0 0 (F0 m pc ls st0) rest (va_Qi (fun r (_ : Nat → Nat → Nat) => post r) (fun u t => va_P D cl (w2 u) t.heap ∧ va_D A1 (w2 u)) A1 a) A1) (hS : va_S A0 H0 H locs) (hF : ∀ q, A1 q → A0 q)
    (kk : ∀ (r : Int32) (u : Nat → Nat → Nat) (H1 : Heap) (locs1 : List Loc), post r → va_P D cl (w2 u) H1 → va_D A1 (w2 u) → (∀ q : Nat, q < H.size → ¬ A1 q → H1[q]? = H[q]?) → va_S A0 H0 H1 locs1 → W p l e R s m args below meth c H1 locs1 cells slots Q (F0 m (pc + 3) ls (.int r :: rest))) : W p l e R s m args below meth c H locs cells slots Q (F0 m pc ls st0) :=
  va_calli hr hS (fun q _ h => hF q h) hF (fun r u t H1 locs1 ht _ hp hB _ hk hS1 => kk r u H1 locs1 hp (by rw [← ht]; exact hB.1) hB.2 hk hS1)
end NCC
theorem L_m9 : ((-9) : Int32).toInt = -9 := by decide
theorem L_m1 : ((-1) : Int32).toInt = -1 := by decide
theorem L_0 : (0 : Int32).toInt = 0 := by decide
theorem L_1 : (1 : Int32).toInt = 1 := by decide
theorem L_2 : (2 : Int32).toInt = 2 := by decide
theorem L_3 : (3 : Int32).toInt = 3 := by decide
theorem L_4 : (4 : Int32).toInt = 4 := by decide
theorem L_5 : (5 : Int32).toInt = 5 := by decide
theorem L_6 : (6 : Int32).toInt = 6 := by decide
theorem L_9 : (9 : Int32).toInt = 9 := by decide
theorem L_16 : (16 : Int32).toInt = 16 := by decide
theorem L_30 : (30 : Int32).toInt = 30 := by decide
theorem L_32 : (32 : Int32).toInt = 32 := by decide
theorem nc_lt_nle {x y : Int32} (h : x < y) : ¬ y ≤ x := by
  intro q
  have h1 := nc_lt h rfl rfl
  have h2 := nc_le q rfl rfl
  omega
theorem nc_gd {c : Cond} (h : c ∈ lw_G) : GoodIn lw_G (c :: lw_G) := fun w hw => by
  have hm : w ∈ lw_G := (List.mem_cons.mp hw).elim (fun e => e ▸ h) id
  exact ⟨hm, good_of_word (List.mem_filter.mp hm).2⟩
theorem nc_cA {D : va_G} {cl : List vw_C} {s : State} {cA cB : ClassId} (h : va_K D cl ([(cA, .int)] ++ [(cB, .int)]) s) : cA = cB := by
  have h1 := (h.2 0 _ rfl).2
  have h2 := (h.2 1 _ rfl).2
  exact Option.some.inj (h1.symm.trans h2)
def nc_cons (q : Nat) (a : Nat → Nat) : Nat → Nat := fun j => match j with
  | 0 => q
  | j + 1 => a j
def nc_lst (l : List Nat) : Nat → Nat := fun j => l.getD j 0
def nc_ads (l : List (Nat → Nat)) : Nat → Nat → Nat := fun j => l.getD j (fun _ => 0)
def nc_sys (l : List (Nat → Nat → Int32)) : Nat → Nat → Nat → Int32 := fun j => l.getD j (fun _ _ => 0)
section NCI
variable {p : Program} {l : Launch} {e : Env} {R : Room} {s : State} {m : MethodId} {args : Array Value} {below : List Frame} {meth : Method} {c : Code} {H : Heap} {locs : List Loc} {cells slots mc ms : Nat} {Q : State → Prop}
variable {pc : Nat} {ls : Array Slot} {rest st0 : List Value} {a : Array Value} {A0 A1 : Nat → Prop} {H0 : Heap} {D : va_G} {cl : List vw_C}
theorem nc_init {w2 : (Nat → Nat) → va_W} (hr : va_Run p l e R s m args below meth c H locs cells slots mc ms (F0 m pc ls st0) rest (va_Qv (fun _ : Nat → Nat => True) (fun u t => va_P D cl (w2 u) t.heap ∧ va_D A1 (w2 u)) A1 a) A1) (hS : va_S A0 H0 H locs) (hF : ∀ q, A1 q → A0 q)
    (kk : ∀ (u : Nat → Nat) (H1 : Heap) (locs1 : List Loc), va_P D cl (w2 u) H1 → va_D A1 (w2 u) → (∀ q : Nat, q < H.size → ¬ A1 q → H1[q]? = H[q]?) → va_S A0 H0 H1 locs1 → W p l e R s m args below meth c H1 locs1 (cells + mc) (slots + ms) Q (F0 m (pc + 3) ls rest)) : W p l e R s m args below meth c H locs cells slots Q (F0 m pc ls st0) :=
  va_callv hr hS (fun q _ h => hF q h) hF (fun u t H1 locs1 ht _ _ hB _ hk hS1 => kk u H1 locs1 (by rw [← ht]; exact hB.1) hB.2 hk hS1)
end NCI
