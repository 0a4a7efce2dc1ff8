def w_M (cA cZ : ClassId) (a : Nat → Nat) (rv : Value) (X : Nat → Nat → Int32) : va_W := [(a 0, .inr (4, [.int (X 0 0), .int (X 1 0), .ref (a 1), .ref (a 2), .ref (a 3), .ref (a 4), .ref (a 5), .ref (a 6), .ref (a 7), .int (X 9 0), .ref (a 8), .int (X 11 0), rv, .int (X 13 0), .int (X 14 0), .int (X 15 0), .int (X 16 0), .ref (a 9), .int (X 18 0), .int (X 19 0), .int (X 20 0), .int (X 21 0), .int (X 22 0), .int (X 23 0), .ref (a 10), .int (X 25 0), .int (X 26 0), .ref (a 11), .ref (a 12), .int (X 29 0), .int (X 30 0), .int (X 31 0), .ref (a 13), .int (X 33 0), .ref (a 14), .int (X 35 0), .int (X 36 0), .int (X 37 0), .int (X 38 0)])), (a 1, .inl (cA, 32, .inl (X 2))), (a 2, .inl (cA, 32, .inl (X 3))), (a 3, .inl (cA, 32, .inl (X 4))), (a 4, .inl (cA, 32, .inl (X 5))), (a 5, .inl (cA, 128, .inl (X 6))), (a 6, .inl (cA, 16, .inl (X 7))), (a 7, .inl (cA, 4, .inl (X 8))), (a 8, .inl (cA, 30, .inl (X 10))), (a 9, .inl (cA, 6, .inl (X 17))), (a 10, .inl (cA, 30, .inl (X 24))), (a 11, .inl (cA, 30, .inl (X 27))), (a 12, .inl (cZ, 30, .inl (X 28))), (a 13, .inl (cA, 32, .inl (X 32))), (a 14, .inl (cA, 32, .inl (X 34)))]
def nc_PreZ (D : va_G) (cA cZ : ClassId) (av : List Value) (ws : va_W) : Array Value → State → Prop := va_Pc av (fun U => va_P D classes ws U.heap ∧ va_K D classes [(cA, .int), (cZ, .boolean)] U ∧ va_D (fun _ => True) ws ∧ nc_N U)
def nc_PreZM (D : va_G) (cA cZ : ClassId) (sz : Nat) (av : List Value) (ws : va_W) : Array Value → State → Prop := va_Pc av (fun U => U.heap.size = sz ∧ va_P D classes ws U.heap ∧ va_K D classes [(cA, .int), (cZ, .boolean)] U ∧ va_D (fun _ => True) ws ∧ nc_N U)
theorem nc_blindZ {D : va_G} {cA cZ : ClassId} {av : List Value} {ws : va_W} : FrameBlind (nc_PreZ D cA cZ av ws) := fun a U g mk q => by
  obtain ⟨q0, qP, qK, qD, qN⟩ := q
  exact ⟨q0, qP, va_K.moved (u := U) (U := U.calling g mk a) (Vm.Alike.refl U.vm) qK, qD, nc_N_same (u := U) (U := U.calling g mk a) rfl qN⟩
theorem nc_blindZM {D : va_G} {cA cZ : ClassId} {sz : Nat} {av : List Value} {ws : va_W} : FrameBlind (nc_PreZM D cA cZ sz av ws) := fun a U g mk q => by
  obtain ⟨q0, q1, qP, qK, qD, qN⟩ := q
  exact ⟨q0, q1, qP, va_K.moved (u := U) (U := U.calling g mk a) (Vm.Alike.refl U.vm) qK, qD, nc_N_same (u := U) (U := U.calling g mk a) rfl qN⟩
section NCPZ
variable {s : State} {H : Heap} {D : va_G} {cA cZ : ClassId} {ws : va_W} {A : Nat → Prop} {b ci N : Nat} {fs As : List Value} {C : String} {T : u_T}
theorem nc_preVZ (hK : va_K D classes [(cA, .int), (cZ, .boolean)] s) (hN : nc_N s) (hP : va_P D classes ws H) (hD : va_D A ws) (he : ws[0]? = some (b, .inr (ci, fs))) (hc : classes[ci]? = some (C, T, N)) : PreV s H C b (nc_PreZ D cA cZ (.ref b :: As) ws) As :=
  ⟨nc_blindZ, va_recv hK hP hc he, fun U hU hW => ⟨rfl, by rw [hU]; exact hP, va_K.moved hW.alike hK, hD.weaken (fun _ _ _ _ => trivial), nc_N_warm hW hN⟩⟩
theorem nc_preVZM (hK : va_K D classes [(cA, .int), (cZ, .boolean)] s) (hN : nc_N s) (hP : va_P D classes ws H) (hD : va_D A ws) (he : ws[0]? = some (b, .inr (ci, fs))) (hc : classes[ci]? = some (C, T, N)) : PreV s H C b (nc_PreZM D cA cZ H.size (.ref b :: As) ws) As :=
  ⟨nc_blindZM, va_recv hK hP hc he, fun U hU hW => ⟨rfl, by rw [hU], by rw [hU]; exact hP, va_K.moved hW.alike hK, hD.weaken (fun _ _ _ _ => trivial), nc_N_warm hW hN⟩⟩
theorem nc_preSZ (hK : va_K D classes [(cA, .int), (cZ, .boolean)] s) (hN : nc_N s) (hP : va_P D classes ws H) (hD : va_D A ws) : PreS s H (nc_PreZ D cA cZ As ws) As :=
  ⟨nc_blindZ, fun U hU hW => ⟨rfl, by rw [hU]; exact hP, va_K.moved hW.alike hK, hD.weaken (fun _ _ _ _ => trivial), nc_N_warm hW hN⟩⟩
theorem nc_preSZM (hK : va_K D classes [(cA, .int), (cZ, .boolean)] s) (hN : nc_N s) (hP : va_P D classes ws H) (hD : va_D A ws) : PreS s H (nc_PreZM D cA cZ H.size As ws) As :=
  ⟨nc_blindZM, fun U hU hW => ⟨rfl, by rw [hU], by rw [hU]; exact hP, va_K.moved hW.alike hK, hD.weaken (fun _ _ _ _ => trivial), nc_N_warm hW hN⟩⟩
theorem nc_preSZ0 (hK : va_K D classes [(cA, .int), (cZ, .boolean)] s) (hN : nc_N s) : PreS s H (nc_PreZ D cA cZ As []) As :=
  ⟨nc_blindZ, fun U hU hW => ⟨rfl, fun k q h => by simp at h, va_K.moved hW.alike hK, ⟨fun i j p q h => by simp at h, fun k q h => by simp at h⟩, nc_N_warm hW hN⟩⟩
end NCPZ
theorem nc_ne {x y : Int32} {a b : Int} (h : ¬ x = y) (hx : x.toInt = a) (hy : y.toInt = b) : a ≠ b := by
  intro e
  exact h (Int32.toInt_inj.mp (by rw [hx, hy, e]))
theorem nc_4m {x r : Int32} (h1 : 0 ≤ x.toInt) (h2 : x.toInt < 32) (h3 : 0 ≤ r.toInt) (h4 : r.toInt < 4) : vp_in (4 * x + r) 128 := by
  have e1 : (4 * x).toInt = 4 * x.toInt := by
    rw [Int32.toInt_mul, show (4 : Int32).toInt = 4 by decide, Int.bmod_eq_of_le (by omega) (by omega)]
  have e2 : (4 * x + r).toInt = 4 * x.toInt + r.toInt := by
    rw [Int32.toInt_add, e1, Int.bmod_eq_of_le (by omega) (by omega)]
  exact vp_in_iff.mpr ⟨by omega, by omega⟩
theorem nc_sub1 {x : Int32} (h : 0 ≤ x.toInt) : (x - 1).toInt = x.toInt - 1 := by
  have h2 := Int32.toInt_lt x
  rw [Int32.toInt_sub, show (1 : Int32).toInt = 1 by decide, Int.bmod_eq_of_le (by omega) (by omega)]
theorem nc_fitb {v : Int32} (h : narrow .boolean (.int v) = .int v) : fits .boolean (.int v) = true := by
  have h1 : v &&& 1 = v := by injection h
  have h2 : v = 0 ∨ v = 1 := by
    have := pk_andE v (m := 1) 1 (by decide)
    obtain ⟨j, hj, e⟩ := this
    rw [h1] at e
    rcases (show j = 0 ∨ j = 1 by omega) with rfl | rfl
    · exact Or.inl e
    · exact Or.inr e
  rcases h2 with rfl | rfl <;> rfl
def m_t (X : Nat → Nat → Int32) : Prop := 0 ≤ (X 1 0).toInt ∧ (X 1 0).toInt ≤ 32
def m_k (X : Nat → Nat → Int32) : Prop := ∀ j : Nat, (X 4 j).toInt < 16
def m_a (X : Nat → Nat → Int32) : Prop := 0 ≤ (X 14 0).toInt ∧ (X 14 0).toInt ≤ 100 ∧ (X 13 0).toInt ≤ 30
theorem L_m10000 : ((-10000) : Int32).toInt = -10000 := by decide
theorem L_15 : (15 : Int32).toInt = 15 := by decide
theorem L_29 : (29 : Int32).toInt = 29 := by decide
theorem L_33 : (33 : Int32).toInt = 33 := by decide
theorem L_34 : (34 : Int32).toInt = 34 := by decide
theorem L_35 : (35 : Int32).toInt = 35 := by decide
theorem L_36 : (36 : Int32).toInt = 36 := by decide
theorem L_37 : (37 : Int32).toInt = 37 := by decide
theorem L_40 : (40 : Int32).toInt = 40 := by decide
theorem L_41 : (41 : Int32).toInt = 41 := by decide
theorem L_60 : (60 : Int32).toInt = 60 := by decide
theorem L_99 : (99 : Int32).toInt = 99 := by decide
theorem L_100 : (100 : Int32).toInt = 100 := by decide
