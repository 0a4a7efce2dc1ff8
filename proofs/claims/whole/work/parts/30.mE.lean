def f_M_partR_L408 (x1 x2 x3 : Int32) (y4 y5 y8 y9 y10 : Int32) : Nat → (Nat → Nat → Int32) → Int32 → (Nat → Nat → Int32)
  | 0, X, z11 => X
  | n + 1, X, z11 => (if y5 ≤ z11 then X else (f_M_partR_L408 x1 x2 x3 y4 y5 y8 y9 y10 n (upf X 22 (fun _ => ((X 22 0) ||| (f_M_least (f_M_likeliest X (y10 &&& ((X 22 0) ^^^ (-1)))))))) (z11 + 1)))
def f_M_partR_J400 (x1 x2 x3 : Int32) (X : (Nat → Nat → Int32)) (z4 z5 z8 z9 z10 : Int32) : (Nat → Nat → Int32) := (if z5 ≤ 0 then (if z4 = 0 then (if (z10 &&& z8) = 0 then (if x3 = 0 then (if (f_M_likeliest X z10) = 0 then (upf (upf X 19 (fun _ => 3)) 21 (fun _ => 0)) else (if z9 = 0 then (if (f_M_areAlike X (f_M_likeliest X z10)) = 0 then (upf X 20 (fun _ => (f_M_likeliest X z10))) else (upf X 22 (fun _ => (f_M_least (f_M_likeliest X z10))))) else (upf X 22 (fun _ => (f_M_least (f_M_likeliest X z10)))))) else (if (f_M_likeliest X (z10 &&& x2)) = 0 then (upf (upf X 19 (fun _ => 3)) 21 (fun _ => 0)) else (if z9 = 0 then (if (f_M_areAlike X (f_M_likeliest X (z10 &&& x2))) = 0 then (upf X 20 (fun _ => (f_M_likeliest X (z10 &&& x2)))) else (upf X 22 (fun _ => (f_M_least (f_M_likeliest X (z10 &&& x2)))))) else (upf X 22 (fun _ => (f_M_least (f_M_likeliest X (z10 &&& x2)))))))) else (upf X 22 (fun _ => (z10 &&& z8)))) else (upf X 22 (fun _ => z10))) else (f_M_partR_L408 x1 x2 x3 z4 z5 z8 z9 z10 (nc_mu z5 0 + 1) X 0))
def f_M_partR_L254 (x1 x2 x3 : Int32) (y4 y5 y8 y9 : Int32) : Nat → (Nat → Nat → Int32) → Int32 → (Nat → Nat → Int32)
  | 0, X, z10 => X
  | n + 1, X, z10 => (if y4 = 0 then (if (X 19 0) = 0 then (if z10 = 0 then (if x1 = 0 then (upf X 19 (fun _ => 5)) else (upf X 19 (fun _ => 5))) else (if y5 ≤ (f_bitCount z10) then (if x1 = 0 then (upf X 19 (fun _ => (X 19 0))) else (if (X 19 0) ≤ 0 then (f_M_partR_J400 x1 x2 x3 (upf X 19 (fun _ => (X 19 0))) y4 y5 y8 y9 z10) else (upf X 19 (fun _ => (X 19 0))))) else (if x1 = 0 then (upf X 19 (fun _ => 6)) else (upf X 19 (fun _ => 6))))) else (if x1 = 0 then (upf X 19 (fun _ => (X 19 0))) else (if (X 19 0) ≤ 0 then (f_M_partR_J400 x1 x2 x3 (upf X 19 (fun _ => (X 19 0))) y4 y5 y8 y9 z10) else (upf X 19 (fun _ => (X 19 0)))))) else (if (f_M_hereR X) = 35 then (if ((f_M_readDescriptionR (upf X 14 (fun _ => ((X 14 0) + 1)))) 15 0) = 0 then (if ((f_M_readDescriptionR (upf X 14 (fun _ => ((X 14 0) + 1)))) 19 0) = 0 then (if ((f_M_fitting (f_M_readDescriptionR (upf X 14 (fun _ => ((X 14 0) + 1)))) 3) &&& z10) = 0 then (f_M_partR_L254 x1 x2 x3 y4 y5 y8 y9 n (upf (upf (f_M_readDescriptionR (upf X 14 (fun _ => ((X 14 0) + 1)))) 19 (fun _ => 4)) 21 (fun _ => (f_bitCount (z10 &&& (((f_M_fitting (f_M_readDescriptionR (upf X 14 (fun _ => ((X 14 0) + 1)))) 3) &&& z10) ^^^ (-1)))))) (z10 &&& (((f_M_fitting (f_M_readDescriptionR (upf X 14 (fun _ => ((X 14 0) + 1)))) 3) &&& z10) ^^^ (-1)))) else (f_M_partR_L254 x1 x2 x3 y4 y5 y8 y9 n (upf (upf (f_M_readDescriptionR (upf X 14 (fun _ => ((X 14 0) + 1)))) 19 (fun _ => 0)) 21 (fun _ => (f_bitCount (z10 &&& (((f_M_fitting (f_M_readDescriptionR (upf X 14 (fun _ => ((X 14 0) + 1)))) 3) &&& z10) ^^^ (-1)))))) (z10 &&& (((f_M_fitting (f_M_readDescriptionR (upf X 14 (fun _ => ((X 14 0) + 1)))) 3) &&& z10) ^^^ (-1))))) else (f_M_partR_L254 x1 x2 x3 y4 y5 y8 y9 n (f_M_readDescriptionR (upf X 14 (fun _ => ((X 14 0) + 1)))) z10)) else (f_M_readDescriptionR (upf X 14 (fun _ => ((X 14 0) + 1))))) else (if (X 19 0) = 0 then (if z10 = 0 then (if x1 = 0 then (upf X 19 (fun _ => 5)) else (upf X 19 (fun _ => 5))) else (if y5 ≤ (f_bitCount z10) then (if x1 = 0 then (upf X 19 (fun _ => (X 19 0))) else (if (X 19 0) ≤ 0 then (f_M_partR_J400 x1 x2 x3 (upf X 19 (fun _ => (X 19 0))) y4 y5 y8 y9 z10) else (upf X 19 (fun _ => (X 19 0))))) else (if x1 = 0 then (upf X 19 (fun _ => 6)) else (upf X 19 (fun _ => 6))))) else (if x1 = 0 then (upf X 19 (fun _ => (X 19 0))) else (if (X 19 0) ≤ 0 then (f_M_partR_J400 x1 x2 x3 (upf X 19 (fun _ => (X 19 0))) y4 y5 y8 y9 z10) else (upf X 19 (fun _ => (X 19 0))))))))
def f_M_partR_J254 (x1 x2 x3 : Int32) (X : (Nat → Nat → Int32)) (z4 z5 z8 z9 z10 : Int32) : (Nat → Nat → Int32) := (f_M_partR_L254 x1 x2 x3 z4 z5 z8 z9 (nc_mu (X 13 0) (X 14 0) + 1) X z10)
def f_M_partR_J213 (x1 x2 x3 : Int32) (X : (Nat → Nat → Int32)) (z4 z5 z7 z8 z9 : Int32) : (Nat → Nat → Int32) := (if z7 = 0 then (f_M_partR_J254 x1 x2 x3 (upf (upf X 19 (fun _ => 2)) 21 (fun _ => (f_bitCount (z7 &&& (f_M_there X))))) z4 z5 z8 z9 (z7 &&& (f_M_there X))) else (if (z7 &&& (f_M_there X)) = 0 then (f_M_partR_J254 x1 x2 x3 (upf (upf X 19 (fun _ => 3)) 21 (fun _ => (f_bitCount (z7 &&& (f_M_there X))))) z4 z5 z8 z9 (z7 &&& (f_M_there X))) else (f_M_partR_J254 x1 x2 x3 (upf (upf X 19 (fun _ => 0)) 21 (fun _ => (f_bitCount (z7 &&& (f_M_there X))))) z4 z5 z8 z9 (z7 &&& (f_M_there X)))))
def f_M_partR_J160 (x1 x2 x3 : Int32) (X : (Nat → Nat → Int32)) (z4 z5 z6 : Int32) : (Nat → Nat → Int32) := (if z6 = 0 then (f_M_partR_J213 x1 x2 x3 X z4 z5 (f_M_everything X) 0 0) else (if ((f_M_readDescriptionR X) 15 0) = 0 then (f_M_partR_J213 x1 x2 x3 (f_M_readDescriptionR X) z4 z5 (f_M_fitting (f_M_readDescriptionR X) 3) (f_M_fitting (f_M_readDescriptionR X) 2) (f_M_has ((f_M_readDescriptionR X) 16 0) 1)) else (f_M_readDescriptionR X)))
def f_M_partR (X : Nat → Nat → Int32) (x1 x2 x3 : Int32) : (Nat → Nat → Int32) := (if (f_M_hereR (upf (upf (upf X 19 (fun _ => 0)) 20 (fun _ => 0)) 22 (fun _ => 0))) = 34 then (if (f_M_hereR (upf (upf (upf X 19 (fun _ => 0)) 20 (fun _ => 0)) 22 (fun _ => 0))) ≤ 40 then (if (f_M_hereR (upf (upf (upf (upf X 14 (fun _ => ((X 14 0) + 1))) 19 (fun _ => 0)) 20 (fun _ => 0)) 22 (fun _ => 0))) = 37 then (f_M_partR_J160 x1 x2 x3 (upf (upf (upf (upf X 14 (fun _ => (((X 14 0) + 1) + 1))) 19 (fun _ => 0)) 20 (fun _ => 0)) 22 (fun _ => 0)) 1 0 1) else (if (X 13 0) ≤ ((X 14 0) + 1) then (f_M_partR_J160 x1 x2 x3 (upf (upf (upf (upf X 14 (fun _ => ((X 14 0) + 1))) 19 (fun _ => 0)) 20 (fun _ => 0)) 22 (fun _ => 0)) 1 0 0) else (if (f_M_hereR (upf (upf (upf (upf X 14 (fun _ => ((X 14 0) + 1))) 19 (fun _ => 0)) 20 (fun _ => 0)) 22 (fun _ => 0))) = 35 then (f_M_partR_J160 x1 x2 x3 (upf (upf (upf (upf X 14 (fun _ => ((X 14 0) + 1))) 19 (fun _ => 0)) 20 (fun _ => 0)) 22 (fun _ => 0)) 1 0 0) else (if (f_M_hereR (upf (upf (upf (upf X 14 (fun _ => ((X 14 0) + 1))) 19 (fun _ => 0)) 20 (fun _ => 0)) 22 (fun _ => 0))) = 36 then (f_M_partR_J160 x1 x2 x3 (upf (upf (upf (upf X 14 (fun _ => ((X 14 0) + 1))) 19 (fun _ => 0)) 20 (fun _ => 0)) 22 (fun _ => 0)) 1 0 0) else (f_M_partR_J160 x1 x2 x3 (upf (upf (upf (upf X 14 (fun _ => ((X 14 0) + 1))) 19 (fun _ => 0)) 20 (fun _ => 0)) 22 (fun _ => 0)) 1 0 1))))) else (if (f_M_hereR (upf (upf (upf (upf X 14 (fun _ => ((X 14 0) + 1))) 19 (fun _ => 0)) 20 (fun _ => 0)) 22 (fun _ => 0))) = 37 then (if 0 < ((f_M_hereR (upf (upf (upf X 19 (fun _ => 0)) 20 (fun _ => 0)) 22 (fun _ => 0))) - 40) then (f_M_partR_J160 x1 x2 x3 (upf (upf (upf (upf X 14 (fun _ => (((X 14 0) + 1) + 1))) 19 (fun _ => 0)) 20 (fun _ => 0)) 22 (fun _ => 0)) 1 ((f_M_hereR (upf (upf (upf X 19 (fun _ => 0)) 20 (fun _ => 0)) 22 (fun _ => 0))) - 40) 1) else (f_M_partR_J160 x1 x2 x3 (upf (upf (upf (upf X 14 (fun _ => (((X 14 0) + 1) + 1))) 19 (fun _ => 0)) 20 (fun _ => 0)) 22 (fun _ => 0)) 1 ((f_M_hereR (upf (upf (upf X 19 (fun _ => 0)) 20 (fun _ => 0)) 22 (fun _ => 0))) - 40) 1)) else (if 0 < ((f_M_hereR (upf (upf (upf X 19 (fun _ => 0)) 20 (fun _ => 0)) 22 (fun _ => 0))) - 40) then (f_M_partR_J160 x1 x2 x3 (upf (upf (upf (upf X 14 (fun _ => ((X 14 0) + 1))) 19 (fun _ => 0)) 20 (fun _ => 0)) 22 (fun _ => 0)) 1 ((f_M_hereR (upf (upf (upf X 19 (fun _ => 0)) 20 (fun _ => 0)) 22 (fun _ => 0))) - 40) 1) else (if (X 13 0) ≤ ((X 14 0) + 1) then (f_M_partR_J160 x1 x2 x3 (upf (upf (upf (upf X 14 (fun _ => ((X 14 0) + 1))) 19 (fun _ => 0)) 20 (fun _ => 0)) 22 (fun _ => 0)) 1 ((f_M_hereR (upf (upf (upf X 19 (fun _ => 0)) 20 (fun _ => 0)) 22 (fun _ => 0))) - 40) 0) else (if (f_M_hereR (upf (upf (upf (upf X 14 (fun _ => ((X 14 0) + 1))) 19 (fun _ => 0)) 20 (fun _ => 0)) 22 (fun _ => 0))) = 35 then (f_M_partR_J160 x1 x2 x3 (upf (upf (upf (upf X 14 (fun _ => ((X 14 0) + 1))) 19 (fun _ => 0)) 20 (fun _ => 0)) 22 (fun _ => 0)) 1 ((f_M_hereR (upf (upf (upf X 19 (fun _ => 0)) 20 (fun _ => 0)) 22 (fun _ => 0))) - 40) 0) else (if (f_M_hereR (upf (upf (upf (upf X 14 (fun _ => ((X 14 0) + 1))) 19 (fun _ => 0)) 20 (fun _ => 0)) 22 (fun _ => 0))) = 36 then (f_M_partR_J160 x1 x2 x3 (upf (upf (upf (upf X 14 (fun _ => ((X 14 0) + 1))) 19 (fun _ => 0)) 20 (fun _ => 0)) 22 (fun _ => 0)) 1 ((f_M_hereR (upf (upf (upf X 19 (fun _ => 0)) 20 (fun _ => 0)) 22 (fun _ => 0))) - 40) 0) else (f_M_partR_J160 x1 x2 x3 (upf (upf (upf (upf X 14 (fun _ => ((X 14 0) + 1))) 19 (fun _ => 0)) 20 (fun _ => 0)) 22 (fun _ => 0)) 1 ((f_M_hereR (upf (upf (upf X 19 (fun _ => 0)) 20 (fun _ => 0)) 22 (fun _ => 0))) - 40) 1))))))) else (if (f_M_hereR (upf (upf (upf X 19 (fun _ => 0)) 20 (fun _ => 0)) 22 (fun _ => 0))) ≤ 40 then (f_M_partR_J160 x1 x2 x3 (upf (upf (upf X 19 (fun _ => 0)) 20 (fun _ => 0)) 22 (fun _ => 0)) 0 0 1) else (if ((f_M_hereR (upf (upf (upf X 19 (fun _ => 0)) 20 (fun _ => 0)) 22 (fun _ => 0))) - 40) ≤ 0 then (f_M_partR_J160 x1 x2 x3 (upf (upf (upf X 19 (fun _ => 0)) 20 (fun _ => 0)) 22 (fun _ => 0)) 0 ((f_M_hereR (upf (upf (upf X 19 (fun _ => 0)) 20 (fun _ => 0)) 22 (fun _ => 0))) - 40) 1) else (if (f_M_hereR (upf (upf (upf (upf X 14 (fun _ => ((X 14 0) + 1))) 19 (fun _ => 0)) 20 (fun _ => 0)) 22 (fun _ => 0))) = 37 then (if 0 < ((f_M_hereR (upf (upf (upf X 19 (fun _ => 0)) 20 (fun _ => 0)) 22 (fun _ => 0))) - 40) then (f_M_partR_J160 x1 x2 x3 (upf (upf (upf (upf X 14 (fun _ => (((X 14 0) + 1) + 1))) 19 (fun _ => 0)) 20 (fun _ => 0)) 22 (fun _ => 0)) 0 ((f_M_hereR (upf (upf (upf X 19 (fun _ => 0)) 20 (fun _ => 0)) 22 (fun _ => 0))) - 40) 1) else (f_M_partR_J160 x1 x2 x3 (upf (upf (upf (upf X 14 (fun _ => (((X 14 0) + 1) + 1))) 19 (fun _ => 0)) 20 (fun _ => 0)) 22 (fun _ => 0)) 0 ((f_M_hereR (upf (upf (upf X 19 (fun _ => 0)) 20 (fun _ => 0)) 22 (fun _ => 0))) - 40) 1)) else (if 0 < ((f_M_hereR (upf (upf (upf X 19 (fun _ => 0)) 20 (fun _ => 0)) 22 (fun _ => 0))) - 40) then (f_M_partR_J160 x1 x2 x3 (upf (upf (upf (upf X 14 (fun _ => ((X 14 0) + 1))) 19 (fun _ => 0)) 20 (fun _ => 0)) 22 (fun _ => 0)) 0 ((f_M_hereR (upf (upf (upf X 19 (fun _ => 0)) 20 (fun _ => 0)) 22 (fun _ => 0))) - 40) 1) else (if (X 13 0) ≤ ((X 14 0) + 1) then (f_M_partR_J160 x1 x2 x3 (upf (upf (upf (upf X 14 (fun _ => ((X 14 0) + 1))) 19 (fun _ => 0)) 20 (fun _ => 0)) 22 (fun _ => 0)) 0 ((f_M_hereR (upf (upf (upf X 19 (fun _ => 0)) 20 (fun _ => 0)) 22 (fun _ => 0))) - 40) 0) else (if (f_M_hereR (upf (upf (upf (upf X 14 (fun _ => ((X 14 0) + 1))) 19 (fun _ => 0)) 20 (fun _ => 0)) 22 (fun _ => 0))) = 35 then (f_M_partR_J160 x1 x2 x3 (upf (upf (upf (upf X 14 (fun _ => ((X 14 0) + 1))) 19 (fun _ => 0)) 20 (fun _ => 0)) 22 (fun _ => 0)) 0 ((f_M_hereR (upf (upf (upf X 19 (fun _ => 0)) 20 (fun _ => 0)) 22 (fun _ => 0))) - 40) 0) else (if (f_M_hereR (upf (upf (upf (upf X 14 (fun _ => ((X 14 0) + 1))) 19 (fun _ => 0)) 20 (fun _ => 0)) 22 (fun _ => 0))) = 36 then (f_M_partR_J160 x1 x2 x3 (upf (upf (upf (upf X 14 (fun _ => ((X 14 0) + 1))) 19 (fun _ => 0)) 20 (fun _ => 0)) 22 (fun _ => 0)) 0 ((f_M_hereR (upf (upf (upf X 19 (fun _ => 0)) 20 (fun _ => 0)) 22 (fun _ => 0))) - 40) 0) else (f_M_partR_J160 x1 x2 x3 (upf (upf (upf (upf X 14 (fun _ => ((X 14 0) + 1))) 19 (fun _ => 0)) 20 (fun _ => 0)) 22 (fun _ => 0)) 0 ((f_M_hereR (upf (upf (upf X 19 (fun _ => 0)) 20 (fun _ => 0)) 22 (fun _ => 0))) - 40) 1)))))))))
abbrev ws_M_partR : List Cond := .code y_M_part b_M_part 12 none :: lw_G
abbrev rm_M_partR : Room := { frames := 4, cells := 0, slots := 0, locals := 91 }
set_option maxHeartbeats 4000000 in
set_option maxRecDepth 100000 in
theorem c_M_partR (l : Launch) (dC : Nat → ClassId) (dI : Nat → Nat → Nat) (cA cZ : ClassId) (sz : Nat) (a : Nat → Nat) (X : Nat → Nat → Int32) (x1 x2 x3 : Int32) (hma : m_a X) (hmt : m_t X) (hmk : m_k X) : Met l y_M_part ws_M_partR rm_M_partR (nc_PreZM (dC, dI) cA cZ sz [.ref (a 0), .int x1, .int x2, .int x3] (w_M cA cZ a (.ref (a 8)) X)) (va_Qv (fun _ : Unit => True) (fun _ t => va_P (dC, dI) classes (w_M cA cZ a (.ref (a 8)) (f_M_partR X x1 x2 x3)) t.heap ∧ va_D (va_A (w_M cA cZ a (.ref (a 8)) X) sz) (w_M cA cZ a (.ref (a 8)) (f_M_partR X x1 x2 x3))) (va_A (w_M cA cZ a (.ref (a 8)) X) sz)) 0 0 (va_A (w_M cA cZ a (.ref (a 8)) X) sz) := by
  refine Met.ofW (cc := b_M_part) (maxL := 12) (ret := none) (by decide) rfl ?_
  intro p e s m args below meth c s₁ B hml hv
  obtain ⟨rfl, hsz, hP, hK, hD0, hN⟩ := hv
  have hx := B.exec
  have hb := B.bytes
  have hr := B.returns
  have hts : ∀ w ∈ lw_G, w.before [.ref (a 0), .int x1, .int x2, .int x3].toArray s = true := fun w h => atoms_spec (ws := ws_M_partR) B.pre w (List.mem_cons_of_mem _ h)
  have hown : s.vm.findClass R_M = some m.cls := findClass_of_methodNamed B.named
  have hlocks := B.notSynchronized
  have hfix : CallFix p m c b_M_part 12 s [.ref (a 0), .int x1, .int x2, .int x3].toArray lw_G R_M := ⟨hx, hb, hml, hown, hts⟩
  have hK1 := hK.sub (tys' := [(cA, .int)]) [0] rfl
  subst hsz
  have hD := hD0.self (sz := s.heap.size)
  generalize hAe : va_A (w_M cA cZ a (.ref (a 8)) X) s.heap.size = A at hD ⊢
  have hA : ∀ q : Nat, s.heap.size ≤ q → A q := fun q h => by rw [← hAe]; exact Or.inr h
  have hS : va_S A s.heap s.heap [] := va_S.rf
  have hl := lv_entry ([.ref (a 0), .int x1, .int x2, .int x3]) (n := 12) (Nat.le_of_ble_eq_true rfl)
  rw [lg_entry_eq]
  generalize (lg_sl ([.ref (a 0), .int x1, .int x2, .int x3]) ++ List.replicate (12 - (lg_sl ([.ref (a 0), .int x1, .int x2, .int x3])).length) Slot.unset).toArray = ls at hl ⊢
  have hl : lv_has ls 12 [(0, .ref (a 0)), (1, .int x1), (2, .int x2), (3, .int x3)] := hl
  have join_400 : ∀ (Xq : (Nat → Nat → Int32)) (z4 z5 z8 z9 z10 : Int32) (H : Heap) (locs : List Loc) (ls : Array Slot), (f_M_partR X x1 x2 x3) = (f_M_partR_J400 x1 x2 x3 Xq z4 z5 z8 z9 z10) → m_a Xq → m_t Xq → m_k Xq → va_P (dC, dI) classes (w_M cA cZ a (.ref (a 8)) Xq) H → va_D A (w_M cA cZ a (.ref (a 8)) Xq) → va_S A s.heap H locs → lv_has ls 12 [(0, .ref (a 0)), (1, .int x1), (2, .int x2), (3, .int x3), (4, .int z4), (5, .int z5), (8, .int z8), (9, .int z9), (10, .int z10)] → W p l e (headSpec ws_M_partR rm_M_partR).room s m [.ref (a 0), .int x1, .int x2, .int x3].toArray below meth c H locs 0 0 (MQ below (va_Qv (fun _ : Unit => True) (fun _ t => va_P (dC, dI) classes (w_M cA cZ a (.ref (a 8)) (f_M_partR X x1 x2 x3)) t.heap ∧ va_D A (w_M cA cZ a (.ref (a 8)) (f_M_partR X x1 x2 x3))) A) [.ref (a 0), .int x1, .int x2, .int x3].toArray s 0 0 A) (F0 m 400 ls []) := by
    intro Xq z4 z5 z8 z9 z10 H locs ls hE hma hmt hmk hP hD hS hl
    refine lv_iload hx hb d_M_part_400 (lv_at hl 5 rfl) ?_
    refine lv_if_le (tgt := 447) hx hb d_M_part_402 (by decide) (fun c_651 => ?_) (fun c_651 => ?_)
    · refine lv_iload hx hb d_M_part_447 (lv_at hl 4 rfl) ?_
      refine lv_if_ne (tgt := 460) hx hb d_M_part_449 (by decide) (fun c_652 => ?_) (fun c_652 => ?_)
      · refine lv_aload_n hx hb d_M_part_460 rfl (lv_at hl 0 rfl) ?_
        refine lv_iload hx hb d_M_part_461 (lv_at hl 4 rfl) ?_
        refine lv_if_eq (tgt := 471) hx hb d_M_part_463 (by decide) (fun c_653 => ?_) (fun c_653 => ?_)
        · exact absurd c_653 c_652
        · refine lv_iload hx hb d_M_part_466 (lv_at hl 8 rfl) ?_
          refine lv_goto (tgt := 476) hx hb d_M_part_468 (by decide) ?_
          refine va_put (D := (dC, dI)) (ci := 4) (v := .int z10) (ty := .int) (C := R_M) (T := F_M) (N := 39) hx hb hts i_M t_M t_M_ok n_M hown hK hP hD hS 0 rfl rfl 22 (by decide) (hts _ m_f_M_143) (fun _ h9 => h9) rfl (by decide +kernel) rfl rfl (Nat.le_of_ble_eq_true rfl) d_M_part_476 (fun H locs hP hD hS => ?_)
          have hP : va_P (dC, dI) classes (w_M cA cZ a (.ref (a 8)) (upf Xq 22 (fun _ => z10))) H := hP
          have hD : va_D A (w_M cA cZ a (.ref (a 8)) (upf Xq 22 (fun _ => z10))) := hD
          have hF : (f_M_partR X x1 x2 x3) = (upf Xq 22 (fun _ => z10)) := by rw [hE, f_M_partR_J400, if_pos c_651, if_neg c_652]
          exact W.vret hx hb hr (fun t ht hW => ⟨⟨(), rfl, trivial, by rw [hF, ht]; exact hP, by rw [hF]; exact hD⟩, hS.F ht⟩) hS.2.2 d_M_part_479
      · refine lv_iload hx hb d_M_part_452 (lv_at hl 8 rfl) ?_
        refine lv_iload hx hb d_M_part_454 (lv_at hl 6 rfl) ?_
        refine lv_iand hx hb d_M_part_456 ?_
        refine lv_if_eq (tgt := 480) hx hb d_M_part_457 (by decide) (fun c_654 => ?_) (fun c_654 => ?_)
        · refine lv_aload_n hx hb d_M_part_480 rfl (lv_at hl 0 rfl) ?_
          refine lv_iload_n hx hb d_M_part_481 rfl (lv_at hl 3 rfl) ?_
          refine lv_if_eq (tgt := 492) hx hb d_M_part_482 (by decide) (fun c_655 => ?_) (fun c_655 => ?_)
          · refine lv_iload hx hb d_M_part_492 (lv_at hl 8 rfl) ?_
            refine nc_ro (va_runV (As := [.int z10]) (rest := []) hfix (c_M_likeliest l dC dI cA cZ a (.ref (a 8)) Xq z10 hmt) (k_M_163 hts hN ⟨Nat.le_of_ble_eq_true rfl, Nat.le_of_ble_eq_true rfl⟩) (nc_preVZ hK hN hP hD rfl rfl) rfl rfl hl.1 rfl (lv_room (Nat.le_of_ble_eq_true rfl)) d_M_part_494 ⟨Nat.zero_le _, Nat.zero_le _⟩) (fun r er => ?_)
            subst er
            refine lv_istore (lv' := [(11, .int (f_M_likeliest Xq z10)), (0, .ref (a 0)), (1, .int x1), (2, .int x2), (3, .int x3), (4, .int z4), (5, .int z5), (8, .int z8), (9, .int z9), (10, .int z10)]) hx hb d_M_part_497 hl (by decide) rfl (fun ls hl => ?_)
            refine lv_iload hx hb d_M_part_499 (lv_at hl 0 rfl) ?_
            refine lv_if_ne (tgt := 517) hx hb d_M_part_501 (by decide) (fun c_656 => ?_) (fun c_656 => ?_)
            · refine lv_iload hx hb d_M_part_517 (lv_at hl 8 rfl) ?_
              refine lv_if_ne (tgt := 531) hx hb d_M_part_519 (by decide) (fun c_657 => ?_) (fun c_657 => ?_)
              · refine lv_aload_n hx hb d_M_part_531 rfl (lv_at hl 1 rfl) ?_
                refine lv_iload hx hb d_M_part_532 (lv_at hl 0 rfl) ?_
                refine nc_ro (va_runS (As := [.int (f_M_likeliest Xq z10)]) (rest := [.ref (a 0)]) hfix (c_M_least l dC dI cA (f_M_likeliest Xq z10)) (k_M_166 hts hN ⟨Nat.le_of_ble_eq_true rfl, Nat.le_of_ble_eq_true rfl⟩) (nc_preS0 hK1 hN) rfl rfl hl.1 rfl (lv_room (Nat.le_of_ble_eq_true rfl)) d_M_part_534 ⟨Nat.zero_le _, Nat.zero_le _⟩) (fun r er => ?_)
                subst er
                refine va_put (D := (dC, dI)) (ci := 4) (v := .int (f_M_least (f_M_likeliest Xq z10))) (ty := .int) (C := R_M) (T := F_M) (N := 39) hx hb hts i_M t_M t_M_ok n_M hown hK hP hD hS 0 rfl rfl 22 (by decide) (hts _ m_f_M_143) (fun _ h9 => h9) rfl (by decide +kernel) rfl rfl (Nat.le_of_ble_eq_true rfl) d_M_part_537 (fun H locs hP hD hS => ?_)
                have hP : va_P (dC, dI) classes (w_M cA cZ a (.ref (a 8)) (upf Xq 22 (fun _ => (f_M_least (f_M_likeliest Xq z10))))) H := hP
                have hD : va_D A (w_M cA cZ a (.ref (a 8)) (upf Xq 22 (fun _ => (f_M_least (f_M_likeliest Xq z10))))) := hD
                refine lv_goto (tgt := 549) hx hb d_M_part_540 (by decide) ?_
                have hF : (f_M_partR X x1 x2 x3) = (upf Xq 22 (fun _ => (f_M_least (f_M_likeliest Xq z10)))) := by rw [hE, f_M_partR_J400, if_pos c_651, if_pos c_652, if_pos c_654, if_pos c_655, if_neg c_656, if_neg c_657]
                exact W.vret hx hb hr (fun t ht hW => ⟨⟨(), rfl, trivial, by rw [hF, ht]; exact hP, by rw [hF]; exact hD⟩, hS.F ht⟩) hS.2.2 d_M_part_549
              · refine lv_aload_n hx hb d_M_part_522 rfl (lv_at hl 1 rfl) ?_
                refine lv_iload hx hb d_M_part_523 (lv_at hl 0 rfl) ?_
                refine nc_ro (va_runV (As := [.int (f_M_likeliest Xq z10)]) (rest := []) hfix (c_M_areAlike l dC dI cA cZ a (.ref (a 8)) Xq (f_M_likeliest Xq z10) hmt) (k_M_169 hts hN ⟨Nat.le_of_ble_eq_true rfl, Nat.le_of_ble_eq_true rfl⟩) (nc_preVZ hK hN hP hD rfl rfl) rfl rfl hl.1 rfl (lv_room (Nat.le_of_ble_eq_true rfl)) d_M_part_525 ⟨Nat.zero_le _, Nat.zero_le _⟩) (fun r er => ?_)
                obtain ⟨rfl, hz_658⟩ := er
                refine lv_if_eq (tgt := 543) hx hb d_M_part_528 (by decide) (fun c_659 => ?_) (fun c_659 => ?_)
                · refine lv_aload_n hx hb d_M_part_543 rfl (lv_at hl 1 rfl) ?_
                  refine lv_iload hx hb d_M_part_544 (lv_at hl 0 rfl) ?_
                  refine va_put (D := (dC, dI)) (ci := 4) (v := .int (f_M_likeliest Xq z10)) (ty := .int) (C := R_M) (T := F_M) (N := 39) hx hb hts i_M t_M t_M_ok n_M hown hK hP hD hS 0 rfl rfl 20 (by decide) (hts _ m_f_M_140) (fun _ h9 => h9) rfl (by decide +kernel) rfl rfl (Nat.le_of_ble_eq_true rfl) d_M_part_546 (fun H locs hP hD hS => ?_)
                  have hP : va_P (dC, dI) classes (w_M cA cZ a (.ref (a 8)) (upf Xq 20 (fun _ => (f_M_likeliest Xq z10)))) H := hP
                  have hD : va_D A (w_M cA cZ a (.ref (a 8)) (upf Xq 20 (fun _ => (f_M_likeliest Xq z10)))) := hD
                  have hF : (f_M_partR X x1 x2 x3) = (upf Xq 20 (fun _ => (f_M_likeliest Xq z10))) := by rw [hE, f_M_partR_J400, if_pos c_651, if_pos c_652, if_pos c_654, if_pos c_655, if_neg c_656, if_pos c_657, if_pos c_659]
                  exact W.vret hx hb hr (fun t ht hW => ⟨⟨(), rfl, trivial, by rw [hF, ht]; exact hP, by rw [hF]; exact hD⟩, hS.F ht⟩) hS.2.2 d_M_part_549
                · refine lv_aload_n hx hb d_M_part_531 rfl (lv_at hl 1 rfl) ?_
                  refine lv_iload hx hb d_M_part_532 (lv_at hl 0 rfl) ?_
                  refine nc_ro (va_runS (As := [.int (f_M_likeliest Xq z10)]) (rest := [.ref (a 0)]) hfix (c_M_least l dC dI cA (f_M_likeliest Xq z10)) (k_M_166 hts hN ⟨Nat.le_of_ble_eq_true rfl, Nat.le_of_ble_eq_true rfl⟩) (nc_preS0 hK1 hN) rfl rfl hl.1 rfl (lv_room (Nat.le_of_ble_eq_true rfl)) d_M_part_534 ⟨Nat.zero_le _, Nat.zero_le _⟩) (fun r er => ?_)
                  subst er
                  refine va_put (D := (dC, dI)) (ci := 4) (v := .int (f_M_least (f_M_likeliest Xq z10))) (ty := .int) (C := R_M) (T := F_M) (N := 39) hx hb hts i_M t_M t_M_ok n_M hown hK hP hD hS 0 rfl rfl 22 (by decide) (hts _ m_f_M_143) (fun _ h9 => h9) rfl (by decide +kernel) rfl rfl (Nat.le_of_ble_eq_true rfl) d_M_part_537 (fun H locs hP hD hS => ?_)
                  have hP : va_P (dC, dI) classes (w_M cA cZ a (.ref (a 8)) (upf Xq 22 (fun _ => (f_M_least (f_M_likeliest Xq z10))))) H := hP
                  have hD : va_D A (w_M cA cZ a (.ref (a 8)) (upf Xq 22 (fun _ => (f_M_least (f_M_likeliest Xq z10))))) := hD
                  refine lv_goto (tgt := 549) hx hb d_M_part_540 (by decide) ?_
                  have hF : (f_M_partR X x1 x2 x3) = (upf Xq 22 (fun _ => (f_M_least (f_M_likeliest Xq z10)))) := by rw [hE, f_M_partR_J400, if_pos c_651, if_pos c_652, if_pos c_654, if_pos c_655, if_neg c_656, if_pos c_657, if_neg c_659]
                  exact W.vret hx hb hr (fun t ht hW => ⟨⟨(), rfl, trivial, by rw [hF, ht]; exact hP, by rw [hF]; exact hD⟩, hS.F ht⟩) hS.2.2 d_M_part_549
            · refine lv_aload_n hx hb d_M_part_504 rfl (lv_at hl 1 rfl) ?_
              refine lv_iconst (v := 3) hx hb d_M_part_505 (by decide) ?_
              refine va_put (D := (dC, dI)) (ci := 4) (v := .int 3) (ty := .int) (C := R_M) (T := F_M) (N := 39) hx hb hts i_M t_M t_M_ok n_M hown hK hP hD hS 0 rfl rfl 19 (by decide) (hts _ m_f_M_137) (fun _ h9 => h9) rfl (by decide +kernel) rfl rfl (Nat.le_of_ble_eq_true rfl) d_M_part_506 (fun H locs hP hD hS => ?_)
              have hP : va_P (dC, dI) classes (w_M cA cZ a (.ref (a 8)) (upf Xq 19 (fun _ => 3))) H := hP
              have hD : va_D A (w_M cA cZ a (.ref (a 8)) (upf Xq 19 (fun _ => 3))) := hD
              refine lv_aload_n hx hb d_M_part_509 rfl (lv_at hl 1 rfl) ?_
              refine lv_iconst (v := 0) hx hb d_M_part_510 (by decide) ?_
              refine va_put (D := (dC, dI)) (ci := 4) (v := .int 0) (ty := .int) (C := R_M) (T := F_M) (N := 39) hx hb hts i_M t_M t_M_ok n_M hown hK hP hD hS 0 rfl rfl 21 (by decide) (hts _ m_f_M_160) (fun _ h9 => h9) rfl (by decide +kernel) rfl rfl (Nat.le_of_ble_eq_true rfl) d_M_part_511 (fun H locs hP hD hS => ?_)
              have hP : va_P (dC, dI) classes (w_M cA cZ a (.ref (a 8)) (upf (upf Xq 19 (fun _ => 3)) 21 (fun _ => 0))) H := hP
              have hD : va_D A (w_M cA cZ a (.ref (a 8)) (upf (upf Xq 19 (fun _ => 3)) 21 (fun _ => 0))) := hD
              refine lv_goto (tgt := 549) hx hb d_M_part_514 (by decide) ?_
              have hF : (f_M_partR X x1 x2 x3) = (upf (upf Xq 19 (fun _ => 3)) 21 (fun _ => 0)) := by rw [hE, f_M_partR_J400, if_pos c_651, if_pos c_652, if_pos c_654, if_pos c_655, if_pos c_656]
              exact W.vret hx hb hr (fun t ht hW => ⟨⟨(), rfl, trivial, by rw [hF, ht]; exact hP, by rw [hF]; exact hD⟩, hS.F ht⟩) hS.2.2 d_M_part_549
          · refine lv_iload hx hb d_M_part_485 (lv_at hl 8 rfl) ?_
            refine lv_iload_n hx hb d_M_part_487 rfl (lv_at hl 2 rfl) ?_
            refine lv_iand hx hb d_M_part_488 ?_
            refine lv_goto (tgt := 494) hx hb d_M_part_489 (by decide) ?_
            refine nc_ro (va_runV (As := [.int (z10 &&& x2)]) (rest := []) hfix (c_M_likeliest l dC dI cA cZ a (.ref (a 8)) Xq (z10 &&& x2) hmt) (k_M_163 hts hN ⟨Nat.le_of_ble_eq_true rfl, Nat.le_of_ble_eq_true rfl⟩) (nc_preVZ hK hN hP hD rfl rfl) rfl rfl hl.1 rfl (lv_room (Nat.le_of_ble_eq_true rfl)) d_M_part_494 ⟨Nat.zero_le _, Nat.zero_le _⟩) (fun r er => ?_)
            subst er
            refine lv_istore (lv' := [(11, .int (f_M_likeliest Xq (z10 &&& x2))), (0, .ref (a 0)), (1, .int x1), (2, .int x2), (3, .int x3), (4, .int z4), (5, .int z5), (8, .int z8), (9, .int z9), (10, .int z10)]) hx hb d_M_part_497 hl (by decide) rfl (fun ls hl => ?_)
            refine lv_iload hx hb d_M_part_499 (lv_at hl 0 rfl) ?_
            refine lv_if_ne (tgt := 517) hx hb d_M_part_501 (by decide) (fun c_660 => ?_) (fun c_660 => ?_)
            · refine lv_iload hx hb d_M_part_517 (lv_at hl 8 rfl) ?_
              refine lv_if_ne (tgt := 531) hx hb d_M_part_519 (by decide) (fun c_661 => ?_) (fun c_661 => ?_)
              · refine lv_aload_n hx hb d_M_part_531 rfl (lv_at hl 1 rfl) ?_
                refine lv_iload hx hb d_M_part_532 (lv_at hl 0 rfl) ?_
                refine nc_ro (va_runS (As := [.int (f_M_likeliest Xq (z10 &&& x2))]) (rest := [.ref (a 0)]) hfix (c_M_least l dC dI cA (f_M_likeliest Xq (z10 &&& x2))) (k_M_166 hts hN ⟨Nat.le_of_ble_eq_true rfl, Nat.le_of_ble_eq_true rfl⟩) (nc_preS0 hK1 hN) rfl rfl hl.1 rfl (lv_room (Nat.le_of_ble_eq_true rfl)) d_M_part_534 ⟨Nat.zero_le _, Nat.zero_le _⟩) (fun r er => ?_)
                subst er
                refine va_put (D := (dC, dI)) (ci := 4) (v := .int (f_M_least (f_M_likeliest Xq (z10 &&& x2)))) (ty := .int) (C := R_M) (T := F_M) (N := 39) hx hb hts i_M t_M t_M_ok n_M hown hK hP hD hS 0 rfl rfl 22 (by decide) (hts _ m_f_M_143) (fun _ h9 => h9) rfl (by decide +kernel) rfl rfl (Nat.le_of_ble_eq_true rfl) d_M_part_537 (fun H locs hP hD hS => ?_)
                have hP : va_P (dC, dI) classes (w_M cA cZ a (.ref (a 8)) (upf Xq 22 (fun _ => (f_M_least (f_M_likeliest Xq (z10 &&& x2)))))) H := hP
                have hD : va_D A (w_M cA cZ a (.ref (a 8)) (upf Xq 22 (fun _ => (f_M_least (f_M_likeliest Xq (z10 &&& x2)))))) := hD
                refine lv_goto (tgt := 549) hx hb d_M_part_540 (by decide) ?_
                have hF : (f_M_partR X x1 x2 x3) = (upf Xq 22 (fun _ => (f_M_least (f_M_likeliest Xq (z10 &&& x2))))) := by rw [hE, f_M_partR_J400, if_pos c_651, if_pos c_652, if_pos c_654, if_neg c_655, if_neg c_660, if_neg c_661]
                exact W.vret hx hb hr (fun t ht hW => ⟨⟨(), rfl, trivial, by rw [hF, ht]; exact hP, by rw [hF]; exact hD⟩, hS.F ht⟩) hS.2.2 d_M_part_549
              · refine lv_aload_n hx hb d_M_part_522 rfl (lv_at hl 1 rfl) ?_
                refine lv_iload hx hb d_M_part_523 (lv_at hl 0 rfl) ?_
                refine nc_ro (va_runV (As := [.int (f_M_likeliest Xq (z10 &&& x2))]) (rest := []) hfix (c_M_areAlike l dC dI cA cZ a (.ref (a 8)) Xq (f_M_likeliest Xq (z10 &&& x2)) hmt) (k_M_169 hts hN ⟨Nat.le_of_ble_eq_true rfl, Nat.le_of_ble_eq_true rfl⟩) (nc_preVZ hK hN hP hD rfl rfl) rfl rfl hl.1 rfl (lv_room (Nat.le_of_ble_eq_true rfl)) d_M_part_525 ⟨Nat.zero_le _, Nat.zero_le _⟩) (fun r er => ?_)
                obtain ⟨rfl, hz_662⟩ := er
                refine lv_if_eq (tgt := 543) hx hb d_M_part_528 (by decide) (fun c_663 => ?_) (fun c_663 => ?_)
                · refine lv_aload_n hx hb d_M_part_543 rfl (lv_at hl 1 rfl) ?_
                  refine lv_iload hx hb d_M_part_544 (lv_at hl 0 rfl) ?_
                  refine va_put (D := (dC, dI)) (ci := 4) (v := .int (f_M_likeliest Xq (z10 &&& x2))) (ty := .int) (C := R_M) (T := F_M) (N := 39) hx hb hts i_M t_M t_M_ok n_M hown hK hP hD hS 0 rfl rfl 20 (by decide) (hts _ m_f_M_140) (fun _ h9 => h9) rfl (by decide +kernel) rfl rfl (Nat.le_of_ble_eq_true rfl) d_M_part_546 (fun H locs hP hD hS => ?_)
                  have hP : va_P (dC, dI) classes (w_M cA cZ a (.ref (a 8)) (upf Xq 20 (fun _ => (f_M_likeliest Xq (z10 &&& x2))))) H := hP
                  have hD : va_D A (w_M cA cZ a (.ref (a 8)) (upf Xq 20 (fun _ => (f_M_likeliest Xq (z10 &&& x2))))) := hD
                  have hF : (f_M_partR X x1 x2 x3) = (upf Xq 20 (fun _ => (f_M_likeliest Xq (z10 &&& x2)))) := by rw [hE, f_M_partR_J400, if_pos c_651, if_pos c_652, if_pos c_654, if_neg c_655, if_neg c_660, if_pos c_661, if_pos c_663]
                  exact W.vret hx hb hr (fun t ht hW => ⟨⟨(), rfl, trivial, by rw [hF, ht]; exact hP, by rw [hF]; exact hD⟩, hS.F ht⟩) hS.2.2 d_M_part_549
                · refine lv_aload_n hx hb d_M_part_531 rfl (lv_at hl 1 rfl) ?_
                  refine lv_iload hx hb d_M_part_532 (lv_at hl 0 rfl) ?_
                  refine nc_ro (va_runS (As := [.int (f_M_likeliest Xq (z10 &&& x2))]) (rest := [.ref (a 0)]) hfix (c_M_least l dC dI cA (f_M_likeliest Xq (z10 &&& x2))) (k_M_166 hts hN ⟨Nat.le_of_ble_eq_true rfl, Nat.le_of_ble_eq_true rfl⟩) (nc_preS0 hK1 hN) rfl rfl hl.1 rfl (lv_room (Nat.le_of_ble_eq_true rfl)) d_M_part_534 ⟨Nat.zero_le _, Nat.zero_le _⟩) (fun r er => ?_)
                  subst er
                  refine va_put (D := (dC, dI)) (ci := 4) (v := .int (f_M_least (f_M_likeliest Xq (z10 &&& x2)))) (ty := .int) (C := R_M) (T := F_M) (N := 39) hx hb hts i_M t_M t_M_ok n_M hown hK hP hD hS 0 rfl rfl 22 (by decide) (hts _ m_f_M_143) (fun _ h9 => h9) rfl (by decide +kernel) rfl rfl (Nat.le_of_ble_eq_true rfl) d_M_part_537 (fun H locs hP hD hS => ?_)
                  have hP : va_P (dC, dI) classes (w_M cA cZ a (.ref (a 8)) (upf Xq 22 (fun _ => (f_M_least (f_M_likeliest Xq (z10 &&& x2)))))) H := hP
                  have hD : va_D A (w_M cA cZ a (.ref (a 8)) (upf Xq 22 (fun _ => (f_M_least (f_M_likeliest Xq (z10 &&& x2)))))) := hD
                  refine lv_goto (tgt := 549) hx hb d_M_part_540 (by decide) ?_
                  have hF : (f_M_partR X x1 x2 x3) = (upf Xq 22 (fun _ => (f_M_least (f_M_likeliest Xq (z10 &&& x2))))) := by rw [hE, f_M_partR_J400, if_pos c_651, if_pos c_652, if_pos c_654, if_neg c_655, if_neg c_660, if_pos c_661, if_neg c_663]
                  exact W.vret hx hb hr (fun t ht hW => ⟨⟨(), rfl, trivial, by rw [hF, ht]; exact hP, by rw [hF]; exact hD⟩, hS.F ht⟩) hS.2.2 d_M_part_549
            · refine lv_aload_n hx hb d_M_part_504 rfl (lv_at hl 1 rfl) ?_
              refine lv_iconst (v := 3) hx hb d_M_part_505 (by decide) ?_
              refine va_put (D := (dC, dI)) (ci := 4) (v := .int 3) (ty := .int) (C := R_M) (T := F_M) (N := 39) hx hb hts i_M t_M t_M_ok n_M hown hK hP hD hS 0 rfl rfl 19 (by decide) (hts _ m_f_M_137) (fun _ h9 => h9) rfl (by decide +kernel) rfl rfl (Nat.le_of_ble_eq_true rfl) d_M_part_506 (fun H locs hP hD hS => ?_)
              have hP : va_P (dC, dI) classes (w_M cA cZ a (.ref (a 8)) (upf Xq 19 (fun _ => 3))) H := hP
              have hD : va_D A (w_M cA cZ a (.ref (a 8)) (upf Xq 19 (fun _ => 3))) := hD
              refine lv_aload_n hx hb d_M_part_509 rfl (lv_at hl 1 rfl) ?_
              refine lv_iconst (v := 0) hx hb d_M_part_510 (by decide) ?_
              refine va_put (D := (dC, dI)) (ci := 4) (v := .int 0) (ty := .int) (C := R_M) (T := F_M) (N := 39) hx hb hts i_M t_M t_M_ok n_M hown hK hP hD hS 0 rfl rfl 21 (by decide) (hts _ m_f_M_160) (fun _ h9 => h9) rfl (by decide +kernel) rfl rfl (Nat.le_of_ble_eq_true rfl) d_M_part_511 (fun H locs hP hD hS => ?_)
              have hP : va_P (dC, dI) classes (w_M cA cZ a (.ref (a 8)) (upf (upf Xq 19 (fun _ => 3)) 21 (fun _ => 0))) H := hP
              have hD : va_D A (w_M cA cZ a (.ref (a 8)) (upf (upf Xq 19 (fun _ => 3)) 21 (fun _ => 0))) := hD
              refine lv_goto (tgt := 549) hx hb d_M_part_514 (by decide) ?_
              have hF : (f_M_partR X x1 x2 x3) = (upf (upf Xq 19 (fun _ => 3)) 21 (fun _ => 0)) := by rw [hE, f_M_partR_J400, if_pos c_651, if_pos c_652, if_pos c_654, if_neg c_655, if_pos c_660]
              exact W.vret hx hb hr (fun t ht hW => ⟨⟨(), rfl, trivial, by rw [hF, ht]; exact hP, by rw [hF]; exact hD⟩, hS.F ht⟩) hS.2.2 d_M_part_549
        · refine lv_aload_n hx hb d_M_part_460 rfl (lv_at hl 0 rfl) ?_
          refine lv_iload hx hb d_M_part_461 (lv_at hl 4 rfl) ?_
          refine lv_if_eq (tgt := 471) hx hb d_M_part_463 (by decide) (fun c_664 => ?_) (fun c_664 => ?_)
          · refine lv_iload hx hb d_M_part_471 (lv_at hl 8 rfl) ?_
            refine lv_iload hx hb d_M_part_473 (lv_at hl 6 rfl) ?_
            refine lv_iand hx hb d_M_part_475 ?_
            refine va_put (D := (dC, dI)) (ci := 4) (v := .int (z10 &&& z8)) (ty := .int) (C := R_M) (T := F_M) (N := 39) hx hb hts i_M t_M t_M_ok n_M hown hK hP hD hS 0 rfl rfl 22 (by decide) (hts _ m_f_M_143) (fun _ h9 => h9) rfl (by decide +kernel) rfl rfl (Nat.le_of_ble_eq_true rfl) d_M_part_476 (fun H locs hP hD hS => ?_)
            have hP : va_P (dC, dI) classes (w_M cA cZ a (.ref (a 8)) (upf Xq 22 (fun _ => (z10 &&& z8)))) H := hP
            have hD : va_D A (w_M cA cZ a (.ref (a 8)) (upf Xq 22 (fun _ => (z10 &&& z8)))) := hD
            have hF : (f_M_partR X x1 x2 x3) = (upf Xq 22 (fun _ => (z10 &&& z8))) := by rw [hE, f_M_partR_J400, if_pos c_651, if_pos c_652, if_neg c_654]
            exact W.vret hx hb hr (fun t ht hW => ⟨⟨(), rfl, trivial, by rw [hF, ht]; exact hP, by rw [hF]; exact hD⟩, hS.F ht⟩) hS.2.2 d_M_part_479
          · exact absurd c_652 c_664
    · refine lv_iconst (v := 0) hx hb d_M_part_405 (by decide) ?_
      refine lv_istore (lv' := [(11, .int 0), (0, .ref (a 0)), (1, .int x1), (2, .int x2), (3, .int x3), (4, .int z4), (5, .int z5), (8, .int z8), (9, .int z9), (10, .int z10)]) hx hb d_M_part_406 hl (by decide) rfl (fun ls hl => ?_)
      have loop_408 : ∀ (n : Nat) (Xq : (Nat → Nat → Int32)) (z11 : Int32) (H : Heap) (locs : List Loc) (ls : Array Slot), (f_M_partR X x1 x2 x3) = (f_M_partR_L408 x1 x2 x3 z4 z5 z8 z9 z10 n Xq z11) → nc_mu z5 z11 < n → m_t Xq → va_P (dC, dI) classes (w_M cA cZ a (.ref (a 8)) Xq) H → va_D A (w_M cA cZ a (.ref (a 8)) Xq) → va_S A s.heap H locs → lv_has ls 12 [(0, .ref (a 0)), (1, .int x1), (2, .int x2), (3, .int x3), (4, .int z4), (5, .int z5), (8, .int z8), (9, .int z9), (10, .int z10), (11, .int z11)] → W p l e (headSpec ws_M_partR rm_M_partR).room s m [.ref (a 0), .int x1, .int x2, .int x3].toArray below meth c H locs 0 0 (MQ below (va_Qv (fun _ : Unit => True) (fun _ t => va_P (dC, dI) classes (w_M cA cZ a (.ref (a 8)) (f_M_partR X x1 x2 x3)) t.heap ∧ va_D A (w_M cA cZ a (.ref (a 8)) (f_M_partR X x1 x2 x3))) A) [.ref (a 0), .int x1, .int x2, .int x3].toArray s 0 0 A) (F0 m 408 ls []) := by
        intro n
        induction n with
        | zero =>
          intro Xq z11 H locs ls hE hm hmt hP hD hS hl
          exact absurd hm (Nat.not_lt_zero _)
        | succ n ih =>
          intro Xq z11 H locs ls hE hm hmt hP hD hS hl
          refine lv_iload hx hb d_M_part_408 (lv_at hl 9 rfl) ?_
          refine lv_iload hx hb d_M_part_410 (lv_at hl 5 rfl) ?_
          refine lv_icmp_ge (tgt := 446) hx hb d_M_part_412 (by decide) (fun c_665 => ?_) (fun c_665 => ?_)
          · have hF : (f_M_partR X x1 x2 x3) = Xq := by rw [hE, f_M_partR_L408, if_pos c_665]
            exact W.vret hx hb hr (fun t ht hW => ⟨⟨(), rfl, trivial, by rw [hF, ht]; exact hP, by rw [hF]; exact hD⟩, hS.F ht⟩) hS.2.2 d_M_part_446
          · refine lv_aload_n hx hb d_M_part_415 rfl (lv_at hl 0 rfl) ?_
            refine lv_aload_n hx hb d_M_part_416 rfl (lv_at hl 0 rfl) ?_
            refine va_get (D := (dC, dI)) (ci := 4) (v := .int (Xq 22 0)) (C := R_M) (T := F_M) (N := 39) hx hb hts i_M hown hK hP 0 rfl rfl 22 (by decide) (hts _ m_f_M_143) (fun _ h9 => h9) rfl d_M_part_417 ?_
            refine lv_aload_n hx hb d_M_part_420 rfl (lv_at hl 0 rfl) ?_
            refine lv_iload hx hb d_M_part_421 (lv_at hl 8 rfl) ?_
            refine lv_aload_n hx hb d_M_part_423 rfl (lv_at hl 0 rfl) ?_
            refine va_get (D := (dC, dI)) (ci := 4) (v := .int (Xq 22 0)) (C := R_M) (T := F_M) (N := 39) hx hb hts i_M hown hK hP 0 rfl rfl 22 (by decide) (hts _ m_f_M_143) (fun _ h9 => h9) rfl d_M_part_424 ?_
            refine lv_iconst (v := (-1)) hx hb d_M_part_427 (by decide) ?_
            refine lv_ixor hx hb d_M_part_428 ?_
            refine lv_iand hx hb d_M_part_429 ?_
            refine nc_ro (va_runV (As := [.int (z10 &&& ((Xq 22 0) ^^^ (-1)))]) (rest := [.int (Xq 22 0), .ref (a 0)]) hfix (c_M_likeliest l dC dI cA cZ a (.ref (a 8)) Xq (z10 &&& ((Xq 22 0) ^^^ (-1))) hmt) (k_M_163 hts hN ⟨Nat.le_of_ble_eq_true rfl, Nat.le_of_ble_eq_true rfl⟩) (nc_preVZ hK hN hP hD rfl rfl) rfl rfl hl.1 rfl (lv_room (Nat.le_of_ble_eq_true rfl)) d_M_part_430 ⟨Nat.zero_le _, Nat.zero_le _⟩) (fun r er => ?_)
            subst er
            refine nc_ro (va_runS (As := [.int (f_M_likeliest Xq (z10 &&& ((Xq 22 0) ^^^ (-1))))]) (rest := [.int (Xq 22 0), .ref (a 0)]) hfix (c_M_least l dC dI cA (f_M_likeliest Xq (z10 &&& ((Xq 22 0) ^^^ (-1))))) (k_M_166 hts hN ⟨Nat.le_of_ble_eq_true rfl, Nat.le_of_ble_eq_true rfl⟩) (nc_preS0 hK1 hN) rfl rfl hl.1 rfl (lv_room (Nat.le_of_ble_eq_true rfl)) d_M_part_433 ⟨Nat.zero_le _, Nat.zero_le _⟩) (fun r er => ?_)
            subst er
            refine lv_ior hx hb d_M_part_436 ?_
            refine va_put (D := (dC, dI)) (ci := 4) (v := .int ((Xq 22 0) ||| (f_M_least (f_M_likeliest Xq (z10 &&& ((Xq 22 0) ^^^ (-1))))))) (ty := .int) (C := R_M) (T := F_M) (N := 39) hx hb hts i_M t_M t_M_ok n_M hown hK hP hD hS 0 rfl rfl 22 (by decide) (hts _ m_f_M_143) (fun _ h9 => h9) rfl (by decide +kernel) rfl rfl (Nat.le_of_ble_eq_true rfl) d_M_part_437 (fun H locs hP hD hS => ?_)
            have hP : va_P (dC, dI) classes (w_M cA cZ a (.ref (a 8)) (upf Xq 22 (fun _ => ((Xq 22 0) ||| (f_M_least (f_M_likeliest Xq (z10 &&& ((Xq 22 0) ^^^ (-1))))))))) H := hP
            have hD : va_D A (w_M cA cZ a (.ref (a 8)) (upf Xq 22 (fun _ => ((Xq 22 0) ||| (f_M_least (f_M_likeliest Xq (z10 &&& ((Xq 22 0) ^^^ (-1))))))))) := hD
            refine lv_iinc (v := (z11 + 1)) (lv' := [(11, .int (z11 + 1)), (0, .ref (a 0)), (1, .int x1), (2, .int x2), (3, .int x3), (4, .int z4), (5, .int z5), (8, .int z8), (9, .int z9), (10, .int z10)]) hx hb d_M_part_440 hl (k := 9) rfl rfl (by decide) rfl (fun ls hl => ?_)
            refine lv_goto (tgt := 408) hx hb d_M_part_443 (by decide) ?_
            exact ih (upf Xq 22 (fun _ => ((Xq 22 0) ||| (f_M_least (f_M_likeliest Xq (z10 &&& ((Xq 22 0) ^^^ (-1)))))))) (z11 + 1) H locs ls (by rw [hE, f_M_partR_L408, if_neg c_665]) (nc_mu_step c_665 hm) hmt hP hD hS (lv_sub hl [1, 2, 3, 4, 5, 6, 7, 8, 9, 0] rfl)
      exact loop_408 (nc_mu z5 0 + 1) Xq 0 H locs ls (by rw [hE, f_M_partR_J400, if_neg c_651]) (Nat.lt_succ_self _) hmt hP hD hS (lv_sub hl [1, 2, 3, 4, 5, 6, 7, 8, 9, 0] rfl)
  have join_254 : ∀ (Xq : (Nat → Nat → Int32)) (z4 z5 z8 z9 z10 : Int32) (H : Heap) (locs : List Loc) (ls : Array Slot), (f_M_partR X x1 x2 x3) = (f_M_partR_J254 x1 x2 x3 Xq z4 z5 z8 z9 z10) → m_a Xq → m_t Xq → m_k Xq → va_P (dC, dI) classes (w_M cA cZ a (.ref (a 8)) Xq) H → va_D A (w_M cA cZ a (.ref (a 8)) Xq) → va_S A s.heap H locs → lv_has ls 12 [(0, .ref (a 0)), (1, .int x1), (2, .int x2), (3, .int x3), (4, .int z4), (5, .int z5), (8, .int z8), (9, .int z9), (10, .int z10)] → W p l e (headSpec ws_M_partR rm_M_partR).room s m [.ref (a 0), .int x1, .int x2, .int x3].toArray below meth c H locs 0 0 (MQ below (va_Qv (fun _ : Unit => True) (fun _ t => va_P (dC, dI) classes (w_M cA cZ a (.ref (a 8)) (f_M_partR X x1 x2 x3)) t.heap ∧ va_D A (w_M cA cZ a (.ref (a 8)) (f_M_partR X x1 x2 x3))) A) [.ref (a 0), .int x1, .int x2, .int x3].toArray s 0 0 A) (F0 m 254 ls []) := by
    intro Xq z4 z5 z8 z9 z10 H locs ls hE hma hmt hmk hP hD hS hl
    have loop_254 : ∀ (n : Nat) (Xq : (Nat → Nat → Int32)) (z10 : Int32) (H : Heap) (locs : List Loc) (ls : Array Slot), (f_M_partR X x1 x2 x3) = (f_M_partR_L254 x1 x2 x3 z4 z5 z8 z9 n Xq z10) → nc_mu (Xq 13 0) (Xq 14 0) < n → m_a Xq → m_t Xq → m_k Xq → va_P (dC, dI) classes (w_M cA cZ a (.ref (a 8)) Xq) H → va_D A (w_M cA cZ a (.ref (a 8)) Xq) → va_S A s.heap H locs → lv_has ls 12 [(0, .ref (a 0)), (1, .int x1), (2, .int x2), (3, .int x3), (4, .int z4), (5, .int z5), (8, .int z8), (9, .int z9), (10, .int z10)] → W p l e (headSpec ws_M_partR rm_M_partR).room s m [.ref (a 0), .int x1, .int x2, .int x3].toArray below meth c H locs 0 0 (MQ below (va_Qv (fun _ : Unit => True) (fun _ t => va_P (dC, dI) classes (w_M cA cZ a (.ref (a 8)) (f_M_partR X x1 x2 x3)) t.heap ∧ va_D A (w_M cA cZ a (.ref (a 8)) (f_M_partR X x1 x2 x3))) A) [.ref (a 0), .int x1, .int x2, .int x3].toArray s 0 0 A) (F0 m 254 ls []) := by
      intro n
      induction n with
      | zero =>
        intro Xq z10 H locs ls hE hm hma hmt hmk hP hD hS hl
        exact absurd hm (Nat.not_lt_zero _)
      | succ n ih =>
        intro Xq z10 H locs ls hE hm hma hmt hmk hP hD hS hl
        refine lv_iload hx hb d_M_part_254 (lv_at hl 4 rfl) ?_
        refine lv_if_eq (tgt := 342) hx hb d_M_part_256 (by decide) (fun c_666 => ?_) (fun c_666 => ?_)
        · refine lv_aload_n hx hb d_M_part_342 rfl (lv_at hl 0 rfl) ?_
          refine lv_aload_n hx hb d_M_part_343 rfl (lv_at hl 0 rfl) ?_
          refine va_get (D := (dC, dI)) (ci := 4) (v := .int (Xq 19 0)) (C := R_M) (T := F_M) (N := 39) hx hb hts i_M hown hK hP 0 rfl rfl 19 (by decide) (hts _ m_f_M_137) (fun _ h9 => h9) rfl d_M_part_344 ?_
          refine lv_if_ne (tgt := 359) hx hb d_M_part_347 (by decide) (fun c_667 => ?_) (fun c_667 => ?_)
          · refine lv_aload_n hx hb d_M_part_359 rfl (lv_at hl 0 rfl) ?_
            refine va_get (D := (dC, dI)) (ci := 4) (v := .int (Xq 19 0)) (C := R_M) (T := F_M) (N := 39) hx hb hts i_M hown hK hP 0 rfl rfl 19 (by decide) (hts _ m_f_M_137) (fun _ h9 => h9) rfl d_M_part_360 ?_
            refine lv_if_ne (tgt := 381) hx hb d_M_part_363 (by decide) (fun c_668 => ?_) (fun c_668 => ?_)
            · refine lv_aload_n hx hb d_M_part_381 rfl (lv_at hl 0 rfl) ?_
              refine va_get (D := (dC, dI)) (ci := 4) (v := .int (Xq 19 0)) (C := R_M) (T := F_M) (N := 39) hx hb hts i_M hown hK hP 0 rfl rfl 19 (by decide) (hts _ m_f_M_137) (fun _ h9 => h9) rfl d_M_part_382 ?_
              refine va_put (D := (dC, dI)) (ci := 4) (v := .int (Xq 19 0)) (ty := .int) (C := R_M) (T := F_M) (N := 39) hx hb hts i_M t_M t_M_ok n_M hown hK hP hD hS 0 rfl rfl 19 (by decide) (hts _ m_f_M_137) (fun _ h9 => h9) rfl (by decide +kernel) rfl rfl (Nat.le_of_ble_eq_true rfl) d_M_part_385 (fun H locs hP hD hS => ?_)
              have hP : va_P (dC, dI) classes (w_M cA cZ a (.ref (a 8)) (upf Xq 19 (fun _ => (Xq 19 0)))) H := hP
              have hD : va_D A (w_M cA cZ a (.ref (a 8)) (upf Xq 19 (fun _ => (Xq 19 0)))) := hD
              refine lv_iload_n hx hb d_M_part_388 rfl (lv_at hl 1 rfl) ?_
              refine lv_if_eq (tgt := 399) hx hb d_M_part_389 (by decide) (fun c_669 => ?_) (fun c_669 => ?_)
              · have hF : (f_M_partR X x1 x2 x3) = (upf Xq 19 (fun _ => (Xq 19 0))) := by rw [hE, f_M_partR_L254, if_pos c_666, if_neg c_667, if_pos c_669]
                exact W.vret hx hb hr (fun t ht hW => ⟨⟨(), rfl, trivial, by rw [hF, ht]; exact hP, by rw [hF]; exact hD⟩, hS.F ht⟩) hS.2.2 d_M_part_399
              · refine lv_aload_n hx hb d_M_part_392 rfl (lv_at hl 0 rfl) ?_
                refine va_get (D := (dC, dI)) (ci := 4) (v := .int (Xq 19 0)) (C := R_M) (T := F_M) (N := 39) hx hb hts i_M hown hK hP 0 rfl rfl 19 (by decide) (hts _ m_f_M_137) (fun _ h9 => h9) rfl d_M_part_393 ?_
                refine lv_if_le (tgt := 400) hx hb d_M_part_396 (by decide) (fun c_670 => ?_) (fun c_670 => ?_)
                · exact join_400 (upf Xq 19 (fun _ => (Xq 19 0))) z4 z5 z8 z9 z10 H locs ls (by rw [hE, f_M_partR_L254, if_pos c_666, if_neg c_667, if_neg c_669, if_pos c_670]) hma hmt hmk hP hD hS (lv_sub hl [0, 1, 2, 3, 4, 5, 6, 7, 8] rfl)
                · have hF : (f_M_partR X x1 x2 x3) = (upf Xq 19 (fun _ => (Xq 19 0))) := by rw [hE, f_M_partR_L254, if_pos c_666, if_neg c_667, if_neg c_669, if_neg c_670]
                  exact W.vret hx hb hr (fun t ht hW => ⟨⟨(), rfl, trivial, by rw [hF, ht]; exact hP, by rw [hF]; exact hD⟩, hS.F ht⟩) hS.2.2 d_M_part_399
            · exact absurd c_668 c_667
          · refine lv_iload hx hb d_M_part_350 (lv_at hl 8 rfl) ?_
            refine lv_if_ne (tgt := 359) hx hb d_M_part_352 (by decide) (fun c_671 => ?_) (fun c_671 => ?_)
            · refine lv_aload_n hx hb d_M_part_359 rfl (lv_at hl 0 rfl) ?_
              refine va_get (D := (dC, dI)) (ci := 4) (v := .int (Xq 19 0)) (C := R_M) (T := F_M) (N := 39) hx hb hts i_M hown hK hP 0 rfl rfl 19 (by decide) (hts _ m_f_M_137) (fun _ h9 => h9) rfl d_M_part_360 ?_
              refine lv_if_ne (tgt := 381) hx hb d_M_part_363 (by decide) (fun c_672 => ?_) (fun c_672 => ?_)
              · exact absurd c_667 c_672
              · refine lv_iload hx hb d_M_part_366 (lv_at hl 8 rfl) ?_
                refine nc_ro (va_runS (As := [.int z10]) (rest := [.ref (a 0)]) hfix (c_bitCount l dC dI cA z10) (k_M_155 hts hN ⟨Nat.le_of_ble_eq_true rfl, Nat.le_of_ble_eq_true rfl⟩) (nc_preS0 hK1 hN) rfl rfl hl.1 rfl (lv_room (Nat.le_of_ble_eq_true rfl)) d_M_part_368 ⟨Nat.zero_le _, Nat.zero_le _⟩) (fun r er => ?_)
                subst er
                refine lv_iload hx hb d_M_part_371 (lv_at hl 5 rfl) ?_
                refine lv_icmp_ge (tgt := 381) hx hb d_M_part_373 (by decide) (fun c_673 => ?_) (fun c_673 => ?_)
                · refine lv_aload_n hx hb d_M_part_381 rfl (lv_at hl 0 rfl) ?_
                  refine va_get (D := (dC, dI)) (ci := 4) (v := .int (Xq 19 0)) (C := R_M) (T := F_M) (N := 39) hx hb hts i_M hown hK hP 0 rfl rfl 19 (by decide) (hts _ m_f_M_137) (fun _ h9 => h9) rfl d_M_part_382 ?_
                  refine va_put (D := (dC, dI)) (ci := 4) (v := .int (Xq 19 0)) (ty := .int) (C := R_M) (T := F_M) (N := 39) hx hb hts i_M t_M t_M_ok n_M hown hK hP hD hS 0 rfl rfl 19 (by decide) (hts _ m_f_M_137) (fun _ h9 => h9) rfl (by decide +kernel) rfl rfl (Nat.le_of_ble_eq_true rfl) d_M_part_385 (fun H locs hP hD hS => ?_)
                  have hP : va_P (dC, dI) classes (w_M cA cZ a (.ref (a 8)) (upf Xq 19 (fun _ => (Xq 19 0)))) H := hP
                  have hD : va_D A (w_M cA cZ a (.ref (a 8)) (upf Xq 19 (fun _ => (Xq 19 0)))) := hD
                  refine lv_iload_n hx hb d_M_part_388 rfl (lv_at hl 1 rfl) ?_
                  refine lv_if_eq (tgt := 399) hx hb d_M_part_389 (by decide) (fun c_674 => ?_) (fun c_674 => ?_)
                  · have hF : (f_M_partR X x1 x2 x3) = (upf Xq 19 (fun _ => (Xq 19 0))) := by rw [hE, f_M_partR_L254, if_pos c_666, if_pos c_667, if_neg c_671, if_pos c_673, if_pos c_674]
                    exact W.vret hx hb hr (fun t ht hW => ⟨⟨(), rfl, trivial, by rw [hF, ht]; exact hP, by rw [hF]; exact hD⟩, hS.F ht⟩) hS.2.2 d_M_part_399
                  · refine lv_aload_n hx hb d_M_part_392 rfl (lv_at hl 0 rfl) ?_
                    refine va_get (D := (dC, dI)) (ci := 4) (v := .int (Xq 19 0)) (C := R_M) (T := F_M) (N := 39) hx hb hts i_M hown hK hP 0 rfl rfl 19 (by decide) (hts _ m_f_M_137) (fun _ h9 => h9) rfl d_M_part_393 ?_
                    refine lv_if_le (tgt := 400) hx hb d_M_part_396 (by decide) (fun c_675 => ?_) (fun c_675 => ?_)
                    · exact join_400 (upf Xq 19 (fun _ => (Xq 19 0))) z4 z5 z8 z9 z10 H locs ls (by rw [hE, f_M_partR_L254, if_pos c_666, if_pos c_667, if_neg c_671, if_pos c_673, if_neg c_674, if_pos c_675]) hma hmt hmk hP hD hS (lv_sub hl [0, 1, 2, 3, 4, 5, 6, 7, 8] rfl)
                    · have hF : (f_M_partR X x1 x2 x3) = (upf Xq 19 (fun _ => (Xq 19 0))) := by rw [hE, f_M_partR_L254, if_pos c_666, if_pos c_667, if_neg c_671, if_pos c_673, if_neg c_674, if_neg c_675]
                      exact W.vret hx hb hr (fun t ht hW => ⟨⟨(), rfl, trivial, by rw [hF, ht]; exact hP, by rw [hF]; exact hD⟩, hS.F ht⟩) hS.2.2 d_M_part_399
                · refine lv_bipush (v := 6) hx hb d_M_part_376 (by decide) ?_
                  refine lv_goto (tgt := 385) hx hb d_M_part_378 (by decide) ?_
                  refine va_put (D := (dC, dI)) (ci := 4) (v := .int 6) (ty := .int) (C := R_M) (T := F_M) (N := 39) hx hb hts i_M t_M t_M_ok n_M hown hK hP hD hS 0 rfl rfl 19 (by decide) (hts _ m_f_M_137) (fun _ h9 => h9) rfl (by decide +kernel) rfl rfl (Nat.le_of_ble_eq_true rfl) d_M_part_385 (fun H locs hP hD hS => ?_)
                  have hP : va_P (dC, dI) classes (w_M cA cZ a (.ref (a 8)) (upf Xq 19 (fun _ => 6))) H := hP
                  have hD : va_D A (w_M cA cZ a (.ref (a 8)) (upf Xq 19 (fun _ => 6))) := hD
                  refine lv_iload_n hx hb d_M_part_388 rfl (lv_at hl 1 rfl) ?_
                  refine lv_if_eq (tgt := 399) hx hb d_M_part_389 (by decide) (fun c_676 => ?_) (fun c_676 => ?_)
                  · have hF : (f_M_partR X x1 x2 x3) = (upf Xq 19 (fun _ => 6)) := by rw [hE, f_M_partR_L254, if_pos c_666, if_pos c_667, if_neg c_671, if_neg c_673, if_pos c_676]
                    exact W.vret hx hb hr (fun t ht hW => ⟨⟨(), rfl, trivial, by rw [hF, ht]; exact hP, by rw [hF]; exact hD⟩, hS.F ht⟩) hS.2.2 d_M_part_399
                  · refine lv_aload_n hx hb d_M_part_392 rfl (lv_at hl 0 rfl) ?_
                    refine va_get (D := (dC, dI)) (ci := 4) (v := .int 6) (C := R_M) (T := F_M) (N := 39) hx hb hts i_M hown hK hP 0 rfl rfl 19 (by decide) (hts _ m_f_M_137) (fun _ h9 => h9) rfl d_M_part_393 ?_
                    refine lv_if_le (tgt := 400) hx hb d_M_part_396 (by decide) (fun c_677 => ?_) (fun c_677 => ?_)
                    · exact absurd c_677 (by decide)
                    · have hF : (f_M_partR X x1 x2 x3) = (upf Xq 19 (fun _ => 6)) := by rw [hE, f_M_partR_L254, if_pos c_666, if_pos c_667, if_neg c_671, if_neg c_673, if_neg c_676]
                      exact W.vret hx hb hr (fun t ht hW => ⟨⟨(), rfl, trivial, by rw [hF, ht]; exact hP, by rw [hF]; exact hD⟩, hS.F ht⟩) hS.2.2 d_M_part_399
            · refine lv_iconst (v := 5) hx hb d_M_part_355 (by decide) ?_
              refine lv_goto (tgt := 385) hx hb d_M_part_356 (by decide) ?_
              refine va_put (D := (dC, dI)) (ci := 4) (v := .int 5) (ty := .int) (C := R_M) (T := F_M) (N := 39) hx hb hts i_M t_M t_M_ok n_M hown hK hP hD hS 0 rfl rfl 19 (by decide) (hts _ m_f_M_137) (fun _ h9 => h9) rfl (by decide +kernel) rfl rfl (Nat.le_of_ble_eq_true rfl) d_M_part_385 (fun H locs hP hD hS => ?_)
              have hP : va_P (dC, dI) classes (w_M cA cZ a (.ref (a 8)) (upf Xq 19 (fun _ => 5))) H := hP
              have hD : va_D A (w_M cA cZ a (.ref (a 8)) (upf Xq 19 (fun _ => 5))) := hD
              refine lv_iload_n hx hb d_M_part_388 rfl (lv_at hl 1 rfl) ?_
              refine lv_if_eq (tgt := 399) hx hb d_M_part_389 (by decide) (fun c_678 => ?_) (fun c_678 => ?_)
              · have hF : (f_M_partR X x1 x2 x3) = (upf Xq 19 (fun _ => 5)) := by rw [hE, f_M_partR_L254, if_pos c_666, if_pos c_667, if_pos c_671, if_pos c_678]
                exact W.vret hx hb hr (fun t ht hW => ⟨⟨(), rfl, trivial, by rw [hF, ht]; exact hP, by rw [hF]; exact hD⟩, hS.F ht⟩) hS.2.2 d_M_part_399
              · refine lv_aload_n hx hb d_M_part_392 rfl (lv_at hl 0 rfl) ?_
                refine va_get (D := (dC, dI)) (ci := 4) (v := .int 5) (C := R_M) (T := F_M) (N := 39) hx hb hts i_M hown hK hP 0 rfl rfl 19 (by decide) (hts _ m_f_M_137) (fun _ h9 => h9) rfl d_M_part_393 ?_
                refine lv_if_le (tgt := 400) hx hb d_M_part_396 (by decide) (fun c_679 => ?_) (fun c_679 => ?_)
                · exact absurd c_679 (by decide)
                · have hF : (f_M_partR X x1 x2 x3) = (upf Xq 19 (fun _ => 5)) := by rw [hE, f_M_partR_L254, if_pos c_666, if_pos c_667, if_pos c_671, if_neg c_678]
                  exact W.vret hx hb hr (fun t ht hW => ⟨⟨(), rfl, trivial, by rw [hF, ht]; exact hP, by rw [hF]; exact hD⟩, hS.F ht⟩) hS.2.2 d_M_part_399
        · refine lv_aload_n hx hb d_M_part_259 rfl (lv_at hl 0 rfl) ?_
          refine nc_ro (va_runV (As := []) (rest := []) hfix (c_M_hereR l dC dI cA cZ a Xq hma) (k_M_104 hts hN ⟨Nat.le_of_ble_eq_true rfl, Nat.le_of_ble_eq_true rfl⟩) (nc_preVZ hK hN hP hD rfl rfl) rfl rfl hl.1 rfl (lv_room (Nat.le_of_ble_eq_true rfl)) d_M_part_260 ⟨Nat.zero_le _, Nat.zero_le _⟩) (fun r er => ?_)
          subst er
          refine lv_bipush (v := 35) hx hb d_M_part_263 (by decide) ?_
          refine lv_icmp_ne (tgt := 342) hx hb d_M_part_265 (by decide) (fun c_680 => ?_) (fun c_680 => ?_)
          · refine lv_aload_n hx hb d_M_part_342 rfl (lv_at hl 0 rfl) ?_
            refine lv_aload_n hx hb d_M_part_343 rfl (lv_at hl 0 rfl) ?_
            refine va_get (D := (dC, dI)) (ci := 4) (v := .int (Xq 19 0)) (C := R_M) (T := F_M) (N := 39) hx hb hts i_M hown hK hP 0 rfl rfl 19 (by decide) (hts _ m_f_M_137) (fun _ h9 => h9) rfl d_M_part_344 ?_
            refine lv_if_ne (tgt := 359) hx hb d_M_part_347 (by decide) (fun c_681 => ?_) (fun c_681 => ?_)
            · refine lv_aload_n hx hb d_M_part_359 rfl (lv_at hl 0 rfl) ?_
              refine va_get (D := (dC, dI)) (ci := 4) (v := .int (Xq 19 0)) (C := R_M) (T := F_M) (N := 39) hx hb hts i_M hown hK hP 0 rfl rfl 19 (by decide) (hts _ m_f_M_137) (fun _ h9 => h9) rfl d_M_part_360 ?_
              refine lv_if_ne (tgt := 381) hx hb d_M_part_363 (by decide) (fun c_682 => ?_) (fun c_682 => ?_)
              · refine lv_aload_n hx hb d_M_part_381 rfl (lv_at hl 0 rfl) ?_
                refine va_get (D := (dC, dI)) (ci := 4) (v := .int (Xq 19 0)) (C := R_M) (T := F_M) (N := 39) hx hb hts i_M hown hK hP 0 rfl rfl 19 (by decide) (hts _ m_f_M_137) (fun _ h9 => h9) rfl d_M_part_382 ?_
                refine va_put (D := (dC, dI)) (ci := 4) (v := .int (Xq 19 0)) (ty := .int) (C := R_M) (T := F_M) (N := 39) hx hb hts i_M t_M t_M_ok n_M hown hK hP hD hS 0 rfl rfl 19 (by decide) (hts _ m_f_M_137) (fun _ h9 => h9) rfl (by decide +kernel) rfl rfl (Nat.le_of_ble_eq_true rfl) d_M_part_385 (fun H locs hP hD hS => ?_)
                have hP : va_P (dC, dI) classes (w_M cA cZ a (.ref (a 8)) (upf Xq 19 (fun _ => (Xq 19 0)))) H := hP
                have hD : va_D A (w_M cA cZ a (.ref (a 8)) (upf Xq 19 (fun _ => (Xq 19 0)))) := hD
                refine lv_iload_n hx hb d_M_part_388 rfl (lv_at hl 1 rfl) ?_
                refine lv_if_eq (tgt := 399) hx hb d_M_part_389 (by decide) (fun c_683 => ?_) (fun c_683 => ?_)
                · have hF : (f_M_partR X x1 x2 x3) = (upf Xq 19 (fun _ => (Xq 19 0))) := by rw [hE, f_M_partR_L254, if_neg c_666, if_neg c_680, if_neg c_681, if_pos c_683]
                  exact W.vret hx hb hr (fun t ht hW => ⟨⟨(), rfl, trivial, by rw [hF, ht]; exact hP, by rw [hF]; exact hD⟩, hS.F ht⟩) hS.2.2 d_M_part_399
                · refine lv_aload_n hx hb d_M_part_392 rfl (lv_at hl 0 rfl) ?_
                  refine va_get (D := (dC, dI)) (ci := 4) (v := .int (Xq 19 0)) (C := R_M) (T := F_M) (N := 39) hx hb hts i_M hown hK hP 0 rfl rfl 19 (by decide) (hts _ m_f_M_137) (fun _ h9 => h9) rfl d_M_part_393 ?_
                  refine lv_if_le (tgt := 400) hx hb d_M_part_396 (by decide) (fun c_684 => ?_) (fun c_684 => ?_)
                  · exact join_400 (upf Xq 19 (fun _ => (Xq 19 0))) z4 z5 z8 z9 z10 H locs ls (by rw [hE, f_M_partR_L254, if_neg c_666, if_neg c_680, if_neg c_681, if_neg c_683, if_pos c_684]) hma hmt hmk hP hD hS (lv_sub hl [0, 1, 2, 3, 4, 5, 6, 7, 8] rfl)
                  · have hF : (f_M_partR X x1 x2 x3) = (upf Xq 19 (fun _ => (Xq 19 0))) := by rw [hE, f_M_partR_L254, if_neg c_666, if_neg c_680, if_neg c_681, if_neg c_683, if_neg c_684]
                    exact W.vret hx hb hr (fun t ht hW => ⟨⟨(), rfl, trivial, by rw [hF, ht]; exact hP, by rw [hF]; exact hD⟩, hS.F ht⟩) hS.2.2 d_M_part_399
              · exact absurd c_682 c_681
            · refine lv_iload hx hb d_M_part_350 (lv_at hl 8 rfl) ?_
              refine lv_if_ne (tgt := 359) hx hb d_M_part_352 (by decide) (fun c_685 => ?_) (fun c_685 => ?_)
              · refine lv_aload_n hx hb d_M_part_359 rfl (lv_at hl 0 rfl) ?_
                refine va_get (D := (dC, dI)) (ci := 4) (v := .int (Xq 19 0)) (C := R_M) (T := F_M) (N := 39) hx hb hts i_M hown hK hP 0 rfl rfl 19 (by decide) (hts _ m_f_M_137) (fun _ h9 => h9) rfl d_M_part_360 ?_
                refine lv_if_ne (tgt := 381) hx hb d_M_part_363 (by decide) (fun c_686 => ?_) (fun c_686 => ?_)
                · exact absurd c_681 c_686
                · refine lv_iload hx hb d_M_part_366 (lv_at hl 8 rfl) ?_
                  refine nc_ro (va_runS (As := [.int z10]) (rest := [.ref (a 0)]) hfix (c_bitCount l dC dI cA z10) (k_M_155 hts hN ⟨Nat.le_of_ble_eq_true rfl, Nat.le_of_ble_eq_true rfl⟩) (nc_preS0 hK1 hN) rfl rfl hl.1 rfl (lv_room (Nat.le_of_ble_eq_true rfl)) d_M_part_368 ⟨Nat.zero_le _, Nat.zero_le _⟩) (fun r er => ?_)
                  subst er
                  refine lv_iload hx hb d_M_part_371 (lv_at hl 5 rfl) ?_
                  refine lv_icmp_ge (tgt := 381) hx hb d_M_part_373 (by decide) (fun c_687 => ?_) (fun c_687 => ?_)
                  · refine lv_aload_n hx hb d_M_part_381 rfl (lv_at hl 0 rfl) ?_
                    refine va_get (D := (dC, dI)) (ci := 4) (v := .int (Xq 19 0)) (C := R_M) (T := F_M) (N := 39) hx hb hts i_M hown hK hP 0 rfl rfl 19 (by decide) (hts _ m_f_M_137) (fun _ h9 => h9) rfl d_M_part_382 ?_
                    refine va_put (D := (dC, dI)) (ci := 4) (v := .int (Xq 19 0)) (ty := .int) (C := R_M) (T := F_M) (N := 39) hx hb hts i_M t_M t_M_ok n_M hown hK hP hD hS 0 rfl rfl 19 (by decide) (hts _ m_f_M_137) (fun _ h9 => h9) rfl (by decide +kernel) rfl rfl (Nat.le_of_ble_eq_true rfl) d_M_part_385 (fun H locs hP hD hS => ?_)
                    have hP : va_P (dC, dI) classes (w_M cA cZ a (.ref (a 8)) (upf Xq 19 (fun _ => (Xq 19 0)))) H := hP
                    have hD : va_D A (w_M cA cZ a (.ref (a 8)) (upf Xq 19 (fun _ => (Xq 19 0)))) := hD
                    refine lv_iload_n hx hb d_M_part_388 rfl (lv_at hl 1 rfl) ?_
                    refine lv_if_eq (tgt := 399) hx hb d_M_part_389 (by decide) (fun c_688 => ?_) (fun c_688 => ?_)
                    · have hF : (f_M_partR X x1 x2 x3) = (upf Xq 19 (fun _ => (Xq 19 0))) := by rw [hE, f_M_partR_L254, if_neg c_666, if_neg c_680, if_pos c_681, if_neg c_685, if_pos c_687, if_pos c_688]
                      exact W.vret hx hb hr (fun t ht hW => ⟨⟨(), rfl, trivial, by rw [hF, ht]; exact hP, by rw [hF]; exact hD⟩, hS.F ht⟩) hS.2.2 d_M_part_399
                    · refine lv_aload_n hx hb d_M_part_392 rfl (lv_at hl 0 rfl) ?_
                      refine va_get (D := (dC, dI)) (ci := 4) (v := .int (Xq 19 0)) (C := R_M) (T := F_M) (N := 39) hx hb hts i_M hown hK hP 0 rfl rfl 19 (by decide) (hts _ m_f_M_137) (fun _ h9 => h9) rfl d_M_part_393 ?_
                      refine lv_if_le (tgt := 400) hx hb d_M_part_396 (by decide) (fun c_689 => ?_) (fun c_689 => ?_)
                      · exact join_400 (upf Xq 19 (fun _ => (Xq 19 0))) z4 z5 z8 z9 z10 H locs ls (by rw [hE, f_M_partR_L254, if_neg c_666, if_neg c_680, if_pos c_681, if_neg c_685, if_pos c_687, if_neg c_688, if_pos c_689]) hma hmt hmk hP hD hS (lv_sub hl [0, 1, 2, 3, 4, 5, 6, 7, 8] rfl)
                      · have hF : (f_M_partR X x1 x2 x3) = (upf Xq 19 (fun _ => (Xq 19 0))) := by rw [hE, f_M_partR_L254, if_neg c_666, if_neg c_680, if_pos c_681, if_neg c_685, if_pos c_687, if_neg c_688, if_neg c_689]
                        exact W.vret hx hb hr (fun t ht hW => ⟨⟨(), rfl, trivial, by rw [hF, ht]; exact hP, by rw [hF]; exact hD⟩, hS.F ht⟩) hS.2.2 d_M_part_399
                  · refine lv_bipush (v := 6) hx hb d_M_part_376 (by decide) ?_
                    refine lv_goto (tgt := 385) hx hb d_M_part_378 (by decide) ?_
                    refine va_put (D := (dC, dI)) (ci := 4) (v := .int 6) (ty := .int) (C := R_M) (T := F_M) (N := 39) hx hb hts i_M t_M t_M_ok n_M hown hK hP hD hS 0 rfl rfl 19 (by decide) (hts _ m_f_M_137) (fun _ h9 => h9) rfl (by decide +kernel) rfl rfl (Nat.le_of_ble_eq_true rfl) d_M_part_385 (fun H locs hP hD hS => ?_)
                    have hP : va_P (dC, dI) classes (w_M cA cZ a (.ref (a 8)) (upf Xq 19 (fun _ => 6))) H := hP
                    have hD : va_D A (w_M cA cZ a (.ref (a 8)) (upf Xq 19 (fun _ => 6))) := hD
                    refine lv_iload_n hx hb d_M_part_388 rfl (lv_at hl 1 rfl) ?_
                    refine lv_if_eq (tgt := 399) hx hb d_M_part_389 (by decide) (fun c_690 => ?_) (fun c_690 => ?_)
                    · have hF : (f_M_partR X x1 x2 x3) = (upf Xq 19 (fun _ => 6)) := by rw [hE, f_M_partR_L254, if_neg c_666, if_neg c_680, if_pos c_681, if_neg c_685, if_neg c_687, if_pos c_690]
                      exact W.vret hx hb hr (fun t ht hW => ⟨⟨(), rfl, trivial, by rw [hF, ht]; exact hP, by rw [hF]; exact hD⟩, hS.F ht⟩) hS.2.2 d_M_part_399
                    · refine lv_aload_n hx hb d_M_part_392 rfl (lv_at hl 0 rfl) ?_
                      refine va_get (D := (dC, dI)) (ci := 4) (v := .int 6) (C := R_M) (T := F_M) (N := 39) hx hb hts i_M hown hK hP 0 rfl rfl 19 (by decide) (hts _ m_f_M_137) (fun _ h9 => h9) rfl d_M_part_393 ?_
                      refine lv_if_le (tgt := 400) hx hb d_M_part_396 (by decide) (fun c_691 => ?_) (fun c_691 => ?_)
                      · exact absurd c_691 (by decide)
                      · have hF : (f_M_partR X x1 x2 x3) = (upf Xq 19 (fun _ => 6)) := by rw [hE, f_M_partR_L254, if_neg c_666, if_neg c_680, if_pos c_681, if_neg c_685, if_neg c_687, if_neg c_690]
                        exact W.vret hx hb hr (fun t ht hW => ⟨⟨(), rfl, trivial, by rw [hF, ht]; exact hP, by rw [hF]; exact hD⟩, hS.F ht⟩) hS.2.2 d_M_part_399
              · refine lv_iconst (v := 5) hx hb d_M_part_355 (by decide) ?_
                refine lv_goto (tgt := 385) hx hb d_M_part_356 (by decide) ?_
                refine va_put (D := (dC, dI)) (ci := 4) (v := .int 5) (ty := .int) (C := R_M) (T := F_M) (N := 39) hx hb hts i_M t_M t_M_ok n_M hown hK hP hD hS 0 rfl rfl 19 (by decide) (hts _ m_f_M_137) (fun _ h9 => h9) rfl (by decide +kernel) rfl rfl (Nat.le_of_ble_eq_true rfl) d_M_part_385 (fun H locs hP hD hS => ?_)
                have hP : va_P (dC, dI) classes (w_M cA cZ a (.ref (a 8)) (upf Xq 19 (fun _ => 5))) H := hP
                have hD : va_D A (w_M cA cZ a (.ref (a 8)) (upf Xq 19 (fun _ => 5))) := hD
                refine lv_iload_n hx hb d_M_part_388 rfl (lv_at hl 1 rfl) ?_
                refine lv_if_eq (tgt := 399) hx hb d_M_part_389 (by decide) (fun c_692 => ?_) (fun c_692 => ?_)
                · have hF : (f_M_partR X x1 x2 x3) = (upf Xq 19 (fun _ => 5)) := by rw [hE, f_M_partR_L254, if_neg c_666, if_neg c_680, if_pos c_681, if_pos c_685, if_pos c_692]
                  exact W.vret hx hb hr (fun t ht hW => ⟨⟨(), rfl, trivial, by rw [hF, ht]; exact hP, by rw [hF]; exact hD⟩, hS.F ht⟩) hS.2.2 d_M_part_399
                · refine lv_aload_n hx hb d_M_part_392 rfl (lv_at hl 0 rfl) ?_
                  refine va_get (D := (dC, dI)) (ci := 4) (v := .int 5) (C := R_M) (T := F_M) (N := 39) hx hb hts i_M hown hK hP 0 rfl rfl 19 (by decide) (hts _ m_f_M_137) (fun _ h9 => h9) rfl d_M_part_393 ?_
                  refine lv_if_le (tgt := 400) hx hb d_M_part_396 (by decide) (fun c_693 => ?_) (fun c_693 => ?_)
                  · exact absurd c_693 (by decide)
                  · have hF : (f_M_partR X x1 x2 x3) = (upf Xq 19 (fun _ => 5)) := by rw [hE, f_M_partR_L254, if_neg c_666, if_neg c_680, if_pos c_681, if_pos c_685, if_neg c_692]
                    exact W.vret hx hb hr (fun t ht hW => ⟨⟨(), rfl, trivial, by rw [hF, ht]; exact hP, by rw [hF]; exact hD⟩, hS.F ht⟩) hS.2.2 d_M_part_399
          · refine lv_aload_n hx hb d_M_part_268 rfl (lv_at hl 0 rfl) ?_
            refine lv_dup hx hb d_M_part_269 rfl ?_
            refine va_get (D := (dC, dI)) (ci := 4) (v := .int (Xq 14 0)) (C := R_M) (T := F_M) (N := 39) hx hb hts i_M hown hK hP 0 rfl rfl 14 (by decide) (hts _ m_f_M_97) (fun _ h9 => h9) rfl d_M_part_270 ?_
            refine lv_iconst (v := 1) hx hb d_M_part_273 (by decide) ?_
            refine lv_iadd hx hb d_M_part_274 ?_
            refine va_put (D := (dC, dI)) (ci := 4) (v := .int ((Xq 14 0) + 1)) (ty := .int) (C := R_M) (T := F_M) (N := 39) hx hb hts i_M t_M t_M_ok n_M hown hK hP hD hS 0 rfl rfl 14 (by decide) (hts _ m_f_M_97) (fun _ h9 => h9) rfl (by decide +kernel) rfl rfl (Nat.le_of_ble_eq_true rfl) d_M_part_275 (fun H locs hP hD hS => ?_)
            have hP : va_P (dC, dI) classes (w_M cA cZ a (.ref (a 8)) (upf Xq 14 (fun _ => ((Xq 14 0) + 1)))) H := hP
            have hD : va_D A (w_M cA cZ a (.ref (a 8)) (upf Xq 14 (fun _ => ((Xq 14 0) + 1)))) := hD
            refine lv_aload_n hx hb d_M_part_278 rfl (lv_at hl 0 rfl) ?_
            have hFc := nc_free hD hS hA
            refine nc_muv (va_runV (As := []) (rest := []) hfix (c_M_readDescriptionR l dC dI cA cZ H.size a (upf Xq 14 (fun _ => ((Xq 14 0) + 1))) (m_adv_step (hereR_eq c_680 (by decide)) hma).1) (k_M_134 hts hN ⟨Nat.le_of_ble_eq_true rfl, Nat.le_of_ble_eq_true rfl⟩) (nc_preVZM hK hN hP hD rfl rfl) rfl rfl hl.1 rfl (lv_room (Nat.le_of_ble_eq_true rfl)) d_M_part_279 ⟨Nat.zero_le _, Nat.zero_le _⟩) hS hFc (fun H locs hP1 hD1 hk1 hS => ?_)
            have hP : va_P (dC, dI) classes (w_M cA cZ a (.ref (a 8)) (f_M_readDescriptionR (upf Xq 14 (fun _ => ((Xq 14 0) + 1))))) H := hP1
            have hD : va_D A (w_M cA cZ a (.ref (a 8)) (f_M_readDescriptionR (upf Xq 14 (fun _ => ((Xq 14 0) + 1))))) := hD1.weaken (fun _ q _ h => hFc q.1 h)
            refine lv_aload_n hx hb d_M_part_282 rfl (lv_at hl 0 rfl) ?_
            refine va_get (D := (dC, dI)) (ci := 4) (v := .int ((f_M_readDescriptionR (upf Xq 14 (fun _ => ((Xq 14 0) + 1)))) 15 0)) (C := R_M) (T := F_M) (N := 39) hx hb hts i_M hown hK hP 0 rfl rfl 15 (by decide) (hts _ m_f_M_100) (fun _ h9 => h9) rfl d_M_part_283 ?_
            refine lv_if_eq (tgt := 290) hx hb d_M_part_286 (by decide) (fun c_694 => ?_) (fun c_694 => ?_)
            · refine lv_aload_n hx hb d_M_part_290 rfl (lv_at hl 0 rfl) ?_
              refine lv_iconst (v := 3) hx hb d_M_part_291 (by decide) ?_
              refine nc_ro (va_runV (As := [.int 3]) (rest := []) hfix (c_M_fitting l dC dI cA cZ a (.ref (a 8)) (f_M_readDescriptionR (upf Xq 14 (fun _ => ((Xq 14 0) + 1)))) 3 (rd_tR hmt) (rd_kR hmk) (rdR_w c_694)) (k_M_149 hts hN ⟨Nat.le_of_ble_eq_true rfl, Nat.le_of_ble_eq_true rfl⟩) (nc_preVZ hK hN hP hD rfl rfl) rfl rfl hl.1 rfl (lv_room (Nat.le_of_ble_eq_true rfl)) d_M_part_292 ⟨Nat.zero_le _, Nat.zero_le _⟩) (fun r er => ?_)
              subst er
              refine lv_iload hx hb d_M_part_295 (lv_at hl 8 rfl) ?_
              refine lv_iand hx hb d_M_part_297 ?_
              refine lv_istore (lv' := [(11, .int ((f_M_fitting (f_M_readDescriptionR (upf Xq 14 (fun _ => ((Xq 14 0) + 1)))) 3) &&& z10)), (0, .ref (a 0)), (1, .int x1), (2, .int x2), (3, .int x3), (4, .int z4), (5, .int z5), (8, .int z8), (9, .int z9), (10, .int z10)]) hx hb d_M_part_298 hl (by decide) rfl (fun ls hl => ?_)
              refine lv_aload_n hx hb d_M_part_300 rfl (lv_at hl 1 rfl) ?_
              refine va_get (D := (dC, dI)) (ci := 4) (v := .int ((f_M_readDescriptionR (upf Xq 14 (fun _ => ((Xq 14 0) + 1)))) 19 0)) (C := R_M) (T := F_M) (N := 39) hx hb hts i_M hown hK hP 0 rfl rfl 19 (by decide) (hts _ m_f_M_137) (fun _ h9 => h9) rfl d_M_part_301 ?_
              refine lv_if_ne (tgt := 339) hx hb d_M_part_304 (by decide) (fun c_695 => ?_) (fun c_695 => ?_)
              · refine lv_goto (tgt := 254) hx hb d_M_part_339 (by decide) ?_
                exact ih (f_M_readDescriptionR (upf Xq 14 (fun _ => ((Xq 14 0) + 1)))) z10 H locs ls (by rw [hE, f_M_partR_L254, if_neg c_666, if_pos c_680, if_pos c_694, if_neg c_695]) (mu_adv (hereR_eq c_680 (by decide)) (rdR_a (ma_step (hereR_eq c_680 (by decide)) hma)) hm) (m_adv_trans (m_adv_step (hereR_eq c_680 (by decide)) hma) (rdR_a (m_adv_step (hereR_eq c_680 (by decide)) hma).1)).1 (rd_tR hmt) (rd_kR hmk) hP hD hS (lv_sub hl [1, 2, 3, 4, 5, 6, 7, 8, 9] rfl)
              · refine lv_aload_n hx hb d_M_part_307 rfl (lv_at hl 1 rfl) ?_
                refine lv_iload hx hb d_M_part_308 (lv_at hl 0 rfl) ?_
                refine lv_if_ne (tgt := 317) hx hb d_M_part_310 (by decide) (fun c_696 => ?_) (fun c_696 => ?_)
                · refine lv_iconst (v := 0) hx hb d_M_part_317 (by decide) ?_
                  refine va_put (D := (dC, dI)) (ci := 4) (v := .int 0) (ty := .int) (C := R_M) (T := F_M) (N := 39) hx hb hts i_M t_M t_M_ok n_M hown hK hP hD hS 0 rfl rfl 19 (by decide) (hts _ m_f_M_137) (fun _ h9 => h9) rfl (by decide +kernel) rfl rfl (Nat.le_of_ble_eq_true rfl) d_M_part_318 (fun H locs hP hD hS => ?_)
                  have hP : va_P (dC, dI) classes (w_M cA cZ a (.ref (a 8)) (upf (f_M_readDescriptionR (upf Xq 14 (fun _ => ((Xq 14 0) + 1)))) 19 (fun _ => 0))) H := hP
                  have hD : va_D A (w_M cA cZ a (.ref (a 8)) (upf (f_M_readDescriptionR (upf Xq 14 (fun _ => ((Xq 14 0) + 1)))) 19 (fun _ => 0))) := hD
                  refine lv_iload hx hb d_M_part_321 (lv_at hl 9 rfl) ?_
                  refine lv_iload hx hb d_M_part_323 (lv_at hl 0 rfl) ?_
                  refine lv_iconst (v := (-1)) hx hb d_M_part_325 (by decide) ?_
                  refine lv_ixor hx hb d_M_part_326 ?_
                  refine lv_iand hx hb d_M_part_327 ?_
                  refine lv_istore (lv' := [(10, .int (z10 &&& (((f_M_fitting (f_M_readDescriptionR (upf Xq 14 (fun _ => ((Xq 14 0) + 1)))) 3) &&& z10) ^^^ (-1)))), (11, .int ((f_M_fitting (f_M_readDescriptionR (upf Xq 14 (fun _ => ((Xq 14 0) + 1)))) 3) &&& z10)), (0, .ref (a 0)), (1, .int x1), (2, .int x2), (3, .int x3), (4, .int z4), (5, .int z5), (8, .int z8), (9, .int z9)]) hx hb d_M_part_328 hl (by decide) rfl (fun ls hl => ?_)
                  refine lv_aload_n hx hb d_M_part_330 rfl (lv_at hl 2 rfl) ?_
                  refine lv_iload hx hb d_M_part_331 (lv_at hl 0 rfl) ?_
                  refine nc_ro (va_runS (As := [.int (z10 &&& (((f_M_fitting (f_M_readDescriptionR (upf Xq 14 (fun _ => ((Xq 14 0) + 1)))) 3) &&& z10) ^^^ (-1)))]) (rest := [.ref (a 0)]) hfix (c_bitCount l dC dI cA (z10 &&& (((f_M_fitting (f_M_readDescriptionR (upf Xq 14 (fun _ => ((Xq 14 0) + 1)))) 3) &&& z10) ^^^ (-1)))) (k_M_155 hts hN ⟨Nat.le_of_ble_eq_true rfl, Nat.le_of_ble_eq_true rfl⟩) (nc_preS0 hK1 hN) rfl rfl hl.1 rfl (lv_room (Nat.le_of_ble_eq_true rfl)) d_M_part_333 ⟨Nat.zero_le _, Nat.zero_le _⟩) (fun r er => ?_)
                  subst er
                  refine va_put (D := (dC, dI)) (ci := 4) (v := .int (f_bitCount (z10 &&& (((f_M_fitting (f_M_readDescriptionR (upf Xq 14 (fun _ => ((Xq 14 0) + 1)))) 3) &&& z10) ^^^ (-1))))) (ty := .int) (C := R_M) (T := F_M) (N := 39) hx hb hts i_M t_M t_M_ok n_M hown hK hP hD hS 0 rfl rfl 21 (by decide) (hts _ m_f_M_160) (fun _ h9 => h9) rfl (by decide +kernel) rfl rfl (Nat.le_of_ble_eq_true rfl) d_M_part_336 (fun H locs hP hD hS => ?_)
                  have hP : va_P (dC, dI) classes (w_M cA cZ a (.ref (a 8)) (upf (upf (f_M_readDescriptionR (upf Xq 14 (fun _ => ((Xq 14 0) + 1)))) 19 (fun _ => 0)) 21 (fun _ => (f_bitCount (z10 &&& (((f_M_fitting (f_M_readDescriptionR (upf Xq 14 (fun _ => ((Xq 14 0) + 1)))) 3) &&& z10) ^^^ (-1))))))) H := hP
                  have hD : va_D A (w_M cA cZ a (.ref (a 8)) (upf (upf (f_M_readDescriptionR (upf Xq 14 (fun _ => ((Xq 14 0) + 1)))) 19 (fun _ => 0)) 21 (fun _ => (f_bitCount (z10 &&& (((f_M_fitting (f_M_readDescriptionR (upf Xq 14 (fun _ => ((Xq 14 0) + 1)))) 3) &&& z10) ^^^ (-1))))))) := hD
                  refine lv_goto (tgt := 254) hx hb d_M_part_339 (by decide) ?_
                  exact ih (upf (upf (f_M_readDescriptionR (upf Xq 14 (fun _ => ((Xq 14 0) + 1)))) 19 (fun _ => 0)) 21 (fun _ => (f_bitCount (z10 &&& (((f_M_fitting (f_M_readDescriptionR (upf Xq 14 (fun _ => ((Xq 14 0) + 1)))) 3) &&& z10) ^^^ (-1)))))) (z10 &&& (((f_M_fitting (f_M_readDescriptionR (upf Xq 14 (fun _ => ((Xq 14 0) + 1)))) 3) &&& z10) ^^^ (-1))) H locs ls (by rw [hE, f_M_partR_L254, if_neg c_666, if_pos c_680, if_pos c_694, if_pos c_695, if_neg c_696]) (mu_adv (hereR_eq c_680 (by decide)) (rdR_a (ma_step (hereR_eq c_680 (by decide)) hma)) hm) (m_adv_trans (m_adv_step (hereR_eq c_680 (by decide)) hma) (rdR_a (m_adv_step (hereR_eq c_680 (by decide)) hma).1)).1 (rd_tR hmt) (rd_kR hmk) hP hD hS (lv_sub hl [2, 3, 4, 5, 6, 7, 8, 9, 0] rfl)
                · refine lv_iconst (v := 4) hx hb d_M_part_313 (by decide) ?_
                  refine lv_goto (tgt := 318) hx hb d_M_part_314 (by decide) ?_
                  refine va_put (D := (dC, dI)) (ci := 4) (v := .int 4) (ty := .int) (C := R_M) (T := F_M) (N := 39) hx hb hts i_M t_M t_M_ok n_M hown hK hP hD hS 0 rfl rfl 19 (by decide) (hts _ m_f_M_137) (fun _ h9 => h9) rfl (by decide +kernel) rfl rfl (Nat.le_of_ble_eq_true rfl) d_M_part_318 (fun H locs hP hD hS => ?_)
                  have hP : va_P (dC, dI) classes (w_M cA cZ a (.ref (a 8)) (upf (f_M_readDescriptionR (upf Xq 14 (fun _ => ((Xq 14 0) + 1)))) 19 (fun _ => 4))) H := hP
                  have hD : va_D A (w_M cA cZ a (.ref (a 8)) (upf (f_M_readDescriptionR (upf Xq 14 (fun _ => ((Xq 14 0) + 1)))) 19 (fun _ => 4))) := hD
                  refine lv_iload hx hb d_M_part_321 (lv_at hl 9 rfl) ?_
                  refine lv_iload hx hb d_M_part_323 (lv_at hl 0 rfl) ?_
                  refine lv_iconst (v := (-1)) hx hb d_M_part_325 (by decide) ?_
                  refine lv_ixor hx hb d_M_part_326 ?_
                  refine lv_iand hx hb d_M_part_327 ?_
                  refine lv_istore (lv' := [(10, .int (z10 &&& (((f_M_fitting (f_M_readDescriptionR (upf Xq 14 (fun _ => ((Xq 14 0) + 1)))) 3) &&& z10) ^^^ (-1)))), (11, .int ((f_M_fitting (f_M_readDescriptionR (upf Xq 14 (fun _ => ((Xq 14 0) + 1)))) 3) &&& z10)), (0, .ref (a 0)), (1, .int x1), (2, .int x2), (3, .int x3), (4, .int z4), (5, .int z5), (8, .int z8), (9, .int z9)]) hx hb d_M_part_328 hl (by decide) rfl (fun ls hl => ?_)
                  refine lv_aload_n hx hb d_M_part_330 rfl (lv_at hl 2 rfl) ?_
                  refine lv_iload hx hb d_M_part_331 (lv_at hl 0 rfl) ?_
                  refine nc_ro (va_runS (As := [.int (z10 &&& (((f_M_fitting (f_M_readDescriptionR (upf Xq 14 (fun _ => ((Xq 14 0) + 1)))) 3) &&& z10) ^^^ (-1)))]) (rest := [.ref (a 0)]) hfix (c_bitCount l dC dI cA (z10 &&& (((f_M_fitting (f_M_readDescriptionR (upf Xq 14 (fun _ => ((Xq 14 0) + 1)))) 3) &&& z10) ^^^ (-1)))) (k_M_155 hts hN ⟨Nat.le_of_ble_eq_true rfl, Nat.le_of_ble_eq_true rfl⟩) (nc_preS0 hK1 hN) rfl rfl hl.1 rfl (lv_room (Nat.le_of_ble_eq_true rfl)) d_M_part_333 ⟨Nat.zero_le _, Nat.zero_le _⟩) (fun r er => ?_)
                  subst er
                  refine va_put (D := (dC, dI)) (ci := 4) (v := .int (f_bitCount (z10 &&& (((f_M_fitting (f_M_readDescriptionR (upf Xq 14 (fun _ => ((Xq 14 0) + 1)))) 3) &&& z10) ^^^ (-1))))) (ty := .int) (C := R_M) (T := F_M) (N := 39) hx hb hts i_M t_M t_M_ok n_M hown hK hP hD hS 0 rfl rfl 21 (by decide) (hts _ m_f_M_160) (fun _ h9 => h9) rfl (by decide +kernel) rfl rfl (Nat.le_of_ble_eq_true rfl) d_M_part_336 (fun H locs hP hD hS => ?_)
                  have hP : va_P (dC, dI) classes (w_M cA cZ a (.ref (a 8)) (upf (upf (f_M_readDescriptionR (upf Xq 14 (fun _ => ((Xq 14 0) + 1)))) 19 (fun _ => 4)) 21 (fun _ => (f_bitCount (z10 &&& (((f_M_fitting (f_M_readDescriptionR (upf Xq 14 (fun _ => ((Xq 14 0) + 1)))) 3) &&& z10) ^^^ (-1))))))) H := hP
                  have hD : va_D A (w_M cA cZ a (.ref (a 8)) (upf (upf (f_M_readDescriptionR (upf Xq 14 (fun _ => ((Xq 14 0) + 1)))) 19 (fun _ => 4)) 21 (fun _ => (f_bitCount (z10 &&& (((f_M_fitting (f_M_readDescriptionR (upf Xq 14 (fun _ => ((Xq 14 0) + 1)))) 3) &&& z10) ^^^ (-1))))))) := hD
                  refine lv_goto (tgt := 254) hx hb d_M_part_339 (by decide) ?_
                  exact ih (upf (upf (f_M_readDescriptionR (upf Xq 14 (fun _ => ((Xq 14 0) + 1)))) 19 (fun _ => 4)) 21 (fun _ => (f_bitCount (z10 &&& (((f_M_fitting (f_M_readDescriptionR (upf Xq 14 (fun _ => ((Xq 14 0) + 1)))) 3) &&& z10) ^^^ (-1)))))) (z10 &&& (((f_M_fitting (f_M_readDescriptionR (upf Xq 14 (fun _ => ((Xq 14 0) + 1)))) 3) &&& z10) ^^^ (-1))) H locs ls (by rw [hE, f_M_partR_L254, if_neg c_666, if_pos c_680, if_pos c_694, if_pos c_695, if_pos c_696]) (mu_adv (hereR_eq c_680 (by decide)) (rdR_a (ma_step (hereR_eq c_680 (by decide)) hma)) hm) (m_adv_trans (m_adv_step (hereR_eq c_680 (by decide)) hma) (rdR_a (m_adv_step (hereR_eq c_680 (by decide)) hma).1)).1 (rd_tR hmt) (rd_kR hmk) hP hD hS (lv_sub hl [2, 3, 4, 5, 6, 7, 8, 9, 0] rfl)
            · have hF : (f_M_partR X x1 x2 x3) = (f_M_readDescriptionR (upf Xq 14 (fun _ => ((Xq 14 0) + 1)))) := by rw [hE, f_M_partR_L254, if_neg c_666, if_pos c_680, if_neg c_694]
              exact W.vret hx hb hr (fun t ht hW => ⟨⟨(), rfl, trivial, by rw [hF, ht]; exact hP, by rw [hF]; exact hD⟩, hS.F ht⟩) hS.2.2 d_M_part_289
    exact loop_254 (nc_mu (Xq 13 0) (Xq 14 0) + 1) Xq z10 H locs ls (by rw [hE, f_M_partR_J254]) (Nat.lt_succ_self _) hma hmt hmk hP hD hS (lv_sub hl [0, 1, 2, 3, 4, 5, 6, 7, 8] rfl)
  have join_213 : ∀ (Xq : (Nat → Nat → Int32)) (z4 z5 z7 z8 z9 : Int32) (H : Heap) (locs : List Loc) (ls : Array Slot), (f_M_partR X x1 x2 x3) = (f_M_partR_J213 x1 x2 x3 Xq z4 z5 z7 z8 z9) → m_a Xq → m_t Xq → m_k Xq → va_P (dC, dI) classes (w_M cA cZ a (.ref (a 8)) Xq) H → va_D A (w_M cA cZ a (.ref (a 8)) Xq) → va_S A s.heap H locs → lv_has ls 12 [(0, .ref (a 0)), (1, .int x1), (2, .int x2), (3, .int x3), (4, .int z4), (5, .int z5), (7, .int z7), (8, .int z8), (9, .int z9)] → W p l e (headSpec ws_M_partR rm_M_partR).room s m [.ref (a 0), .int x1, .int x2, .int x3].toArray below meth c H locs 0 0 (MQ below (va_Qv (fun _ : Unit => True) (fun _ t => va_P (dC, dI) classes (w_M cA cZ a (.ref (a 8)) (f_M_partR X x1 x2 x3)) t.heap ∧ va_D A (w_M cA cZ a (.ref (a 8)) (f_M_partR X x1 x2 x3))) A) [.ref (a 0), .int x1, .int x2, .int x3].toArray s 0 0 A) (F0 m 213 ls []) := by
    intro Xq z4 z5 z7 z8 z9 H locs ls hE hma hmt hmk hP hD hS hl
    refine lv_iload hx hb d_M_part_213 (lv_at hl 6 rfl) ?_
    refine lv_aload_n hx hb d_M_part_215 rfl (lv_at hl 0 rfl) ?_
    refine nc_ro (va_runV (As := []) (rest := [.int z7]) hfix (c_M_there l dC dI cA cZ a (.ref (a 8)) Xq hmt) (k_M_152 hts hN ⟨Nat.le_of_ble_eq_true rfl, Nat.le_of_ble_eq_true rfl⟩) (nc_preVZ hK hN hP hD rfl rfl) rfl rfl hl.1 rfl (lv_room (Nat.le_of_ble_eq_true rfl)) d_M_part_216 ⟨Nat.zero_le _, Nat.zero_le _⟩) (fun r er => ?_)
    subst er
    refine lv_iand hx hb d_M_part_219 ?_
    refine lv_istore (lv' := [(10, .int (z7 &&& (f_M_there Xq))), (0, .ref (a 0)), (1, .int x1), (2, .int x2), (3, .int x3), (4, .int z4), (5, .int z5), (7, .int z7), (8, .int z8), (9, .int z9)]) hx hb d_M_part_220 hl (by decide) rfl (fun ls hl => ?_)
    refine lv_aload_n hx hb d_M_part_222 rfl (lv_at hl 1 rfl) ?_
    refine lv_iload hx hb d_M_part_223 (lv_at hl 0 rfl) ?_
    refine nc_ro (va_runS (As := [.int (z7 &&& (f_M_there Xq))]) (rest := [.ref (a 0)]) hfix (c_bitCount l dC dI cA (z7 &&& (f_M_there Xq))) (k_M_155 hts hN ⟨Nat.le_of_ble_eq_true rfl, Nat.le_of_ble_eq_true rfl⟩) (nc_preS0 hK1 hN) rfl rfl hl.1 rfl (lv_room (Nat.le_of_ble_eq_true rfl)) d_M_part_225 ⟨Nat.zero_le _, Nat.zero_le _⟩) (fun r er => ?_)
    subst er
    refine va_put (D := (dC, dI)) (ci := 4) (v := .int (f_bitCount (z7 &&& (f_M_there Xq)))) (ty := .int) (C := R_M) (T := F_M) (N := 39) hx hb hts i_M t_M t_M_ok n_M hown hK hP hD hS 0 rfl rfl 21 (by decide) (hts _ m_f_M_160) (fun _ h9 => h9) rfl (by decide +kernel) rfl rfl (Nat.le_of_ble_eq_true rfl) d_M_part_228 (fun H locs hP hD hS => ?_)
    have hP : va_P (dC, dI) classes (w_M cA cZ a (.ref (a 8)) (upf Xq 21 (fun _ => (f_bitCount (z7 &&& (f_M_there Xq)))))) H := hP
    have hD : va_D A (w_M cA cZ a (.ref (a 8)) (upf Xq 21 (fun _ => (f_bitCount (z7 &&& (f_M_there Xq)))))) := hD
    refine lv_aload_n hx hb d_M_part_231 rfl (lv_at hl 1 rfl) ?_
    refine lv_iload hx hb d_M_part_232 (lv_at hl 7 rfl) ?_
    refine lv_if_ne (tgt := 241) hx hb d_M_part_234 (by decide) (fun c_697 => ?_) (fun c_697 => ?_)
    · refine lv_iload hx hb d_M_part_241 (lv_at hl 0 rfl) ?_
      refine lv_if_ne (tgt := 250) hx hb d_M_part_243 (by decide) (fun c_698 => ?_) (fun c_698 => ?_)
      · refine lv_iconst (v := 0) hx hb d_M_part_250 (by decide) ?_
        refine va_put (D := (dC, dI)) (ci := 4) (v := .int 0) (ty := .int) (C := R_M) (T := F_M) (N := 39) hx hb hts i_M t_M t_M_ok n_M hown hK hP hD hS 0 rfl rfl 19 (by decide) (hts _ m_f_M_137) (fun _ h9 => h9) rfl (by decide +kernel) rfl rfl (Nat.le_of_ble_eq_true rfl) d_M_part_251 (fun H locs hP hD hS => ?_)
        have hP : va_P (dC, dI) classes (w_M cA cZ a (.ref (a 8)) (upf (upf Xq 19 (fun _ => 0)) 21 (fun _ => (f_bitCount (z7 &&& (f_M_there Xq)))))) H := hP
        have hD : va_D A (w_M cA cZ a (.ref (a 8)) (upf (upf Xq 19 (fun _ => 0)) 21 (fun _ => (f_bitCount (z7 &&& (f_M_there Xq)))))) := hD
        exact join_254 (upf (upf Xq 19 (fun _ => 0)) 21 (fun _ => (f_bitCount (z7 &&& (f_M_there Xq))))) z4 z5 z8 z9 (z7 &&& (f_M_there Xq)) H locs ls (by rw [hE, f_M_partR_J213, if_neg c_697, if_neg c_698]) hma hmt hmk hP hD hS (lv_sub hl [1, 2, 3, 4, 5, 6, 8, 9, 0] rfl)
      · refine lv_iconst (v := 3) hx hb d_M_part_246 (by decide) ?_
        refine lv_goto (tgt := 251) hx hb d_M_part_247 (by decide) ?_
        refine va_put (D := (dC, dI)) (ci := 4) (v := .int 3) (ty := .int) (C := R_M) (T := F_M) (N := 39) hx hb hts i_M t_M t_M_ok n_M hown hK hP hD hS 0 rfl rfl 19 (by decide) (hts _ m_f_M_137) (fun _ h9 => h9) rfl (by decide +kernel) rfl rfl (Nat.le_of_ble_eq_true rfl) d_M_part_251 (fun H locs hP hD hS => ?_)
        have hP : va_P (dC, dI) classes (w_M cA cZ a (.ref (a 8)) (upf (upf Xq 19 (fun _ => 3)) 21 (fun _ => (f_bitCount (z7 &&& (f_M_there Xq)))))) H := hP
        have hD : va_D A (w_M cA cZ a (.ref (a 8)) (upf (upf Xq 19 (fun _ => 3)) 21 (fun _ => (f_bitCount (z7 &&& (f_M_there Xq)))))) := hD
        exact join_254 (upf (upf Xq 19 (fun _ => 3)) 21 (fun _ => (f_bitCount (z7 &&& (f_M_there Xq))))) z4 z5 z8 z9 (z7 &&& (f_M_there Xq)) H locs ls (by rw [hE, f_M_partR_J213, if_neg c_697, if_pos c_698]) hma hmt hmk hP hD hS (lv_sub hl [1, 2, 3, 4, 5, 6, 8, 9, 0] rfl)
    · refine lv_iconst (v := 2) hx hb d_M_part_237 (by decide) ?_
      refine lv_goto (tgt := 251) hx hb d_M_part_238 (by decide) ?_
      refine va_put (D := (dC, dI)) (ci := 4) (v := .int 2) (ty := .int) (C := R_M) (T := F_M) (N := 39) hx hb hts i_M t_M t_M_ok n_M hown hK hP hD hS 0 rfl rfl 19 (by decide) (hts _ m_f_M_137) (fun _ h9 => h9) rfl (by decide +kernel) rfl rfl (Nat.le_of_ble_eq_true rfl) d_M_part_251 (fun H locs hP hD hS => ?_)
      have hP : va_P (dC, dI) classes (w_M cA cZ a (.ref (a 8)) (upf (upf Xq 19 (fun _ => 2)) 21 (fun _ => (f_bitCount (z7 &&& (f_M_there Xq)))))) H := hP
      have hD : va_D A (w_M cA cZ a (.ref (a 8)) (upf (upf Xq 19 (fun _ => 2)) 21 (fun _ => (f_bitCount (z7 &&& (f_M_there Xq)))))) := hD
      exact join_254 (upf (upf Xq 19 (fun _ => 2)) 21 (fun _ => (f_bitCount (z7 &&& (f_M_there Xq))))) z4 z5 z8 z9 (z7 &&& (f_M_there Xq)) H locs ls (by rw [hE, f_M_partR_J213, if_pos c_697]) hma hmt hmk hP hD hS (lv_sub hl [1, 2, 3, 4, 5, 6, 8, 9, 0] rfl)
  have join_160 : ∀ (Xq : (Nat → Nat → Int32)) (z4 z5 z6 : Int32) (H : Heap) (locs : List Loc) (ls : Array Slot), (f_M_partR X x1 x2 x3) = (f_M_partR_J160 x1 x2 x3 Xq z4 z5 z6) → m_a Xq → m_t Xq → m_k Xq → va_P (dC, dI) classes (w_M cA cZ a (.ref (a 8)) Xq) H → va_D A (w_M cA cZ a (.ref (a 8)) Xq) → va_S A s.heap H locs → lv_has ls 12 [(0, .ref (a 0)), (1, .int x1), (2, .int x2), (3, .int x3), (4, .int z4), (5, .int z5), (6, .int z6)] → W p l e (headSpec ws_M_partR rm_M_partR).room s m [.ref (a 0), .int x1, .int x2, .int x3].toArray below meth c H locs 0 0 (MQ below (va_Qv (fun _ : Unit => True) (fun _ t => va_P (dC, dI) classes (w_M cA cZ a (.ref (a 8)) (f_M_partR X x1 x2 x3)) t.heap ∧ va_D A (w_M cA cZ a (.ref (a 8)) (f_M_partR X x1 x2 x3))) A) [.ref (a 0), .int x1, .int x2, .int x3].toArray s 0 0 A) (F0 m 160 ls []) := by
    intro Xq z4 z5 z6 H locs ls hE hma hmt hmk hP hD hS hl
    refine lv_aload_n hx hb d_M_part_160 rfl (lv_at hl 0 rfl) ?_
    refine nc_ro (va_runV (As := []) (rest := []) hfix (c_M_everything l dC dI cA cZ a (.ref (a 8)) Xq) (k_M_146 hts hN ⟨Nat.le_of_ble_eq_true rfl, Nat.le_of_ble_eq_true rfl⟩) (nc_preVZ hK hN hP hD rfl rfl) rfl rfl hl.1 rfl (lv_room (Nat.le_of_ble_eq_true rfl)) d_M_part_161 ⟨Nat.zero_le _, Nat.zero_le _⟩) (fun r er => ?_)
    subst er
    refine lv_istore (lv' := [(7, .int (f_M_everything Xq)), (0, .ref (a 0)), (1, .int x1), (2, .int x2), (3, .int x3), (4, .int z4), (5, .int z5), (6, .int z6)]) hx hb d_M_part_164 hl (by decide) rfl (fun ls hl => ?_)
    refine lv_iconst (v := 0) hx hb d_M_part_166 (by decide) ?_
    refine lv_istore (lv' := [(8, .int 0), (7, .int (f_M_everything Xq)), (0, .ref (a 0)), (1, .int x1), (2, .int x2), (3, .int x3), (4, .int z4), (5, .int z5), (6, .int z6)]) hx hb d_M_part_167 hl (by decide) rfl (fun ls hl => ?_)
    refine lv_iconst (v := 0) hx hb d_M_part_169 (by decide) ?_
    refine lv_istore (lv' := [(9, .int 0), (8, .int 0), (7, .int (f_M_everything Xq)), (0, .ref (a 0)), (1, .int x1), (2, .int x2), (3, .int x3), (4, .int z4), (5, .int z5), (6, .int z6)]) hx hb d_M_part_170 hl (by decide) rfl (fun ls hl => ?_)
    refine lv_iload hx hb d_M_part_172 (lv_at hl 9 rfl) ?_
    refine lv_if_eq (tgt := 213) hx hb d_M_part_174 (by decide) (fun c_699 => ?_) (fun c_699 => ?_)
    · exact join_213 Xq z4 z5 (f_M_everything Xq) 0 0 H locs ls (by rw [hE, f_M_partR_J160, if_pos c_699]) hma hmt hmk hP hD hS (lv_sub hl [3, 4, 5, 6, 7, 8, 2, 1, 0] rfl)
    · refine lv_aload_n hx hb d_M_part_177 rfl (lv_at hl 3 rfl) ?_
      have hFc := nc_free hD hS hA
      refine nc_muv (va_runV (As := []) (rest := []) hfix (c_M_readDescriptionR l dC dI cA cZ H.size a Xq hma) (k_M_134 hts hN ⟨Nat.le_of_ble_eq_true rfl, Nat.le_of_ble_eq_true rfl⟩) (nc_preVZM hK hN hP hD rfl rfl) rfl rfl hl.1 rfl (lv_room (Nat.le_of_ble_eq_true rfl)) d_M_part_178 ⟨Nat.zero_le _, Nat.zero_le _⟩) hS hFc (fun H locs hP1 hD1 hk1 hS => ?_)
      have hP : va_P (dC, dI) classes (w_M cA cZ a (.ref (a 8)) (f_M_readDescriptionR Xq)) H := hP1
      have hD : va_D A (w_M cA cZ a (.ref (a 8)) (f_M_readDescriptionR Xq)) := hD1.weaken (fun _ q _ h => hFc q.1 h)
      refine lv_aload_n hx hb d_M_part_181 rfl (lv_at hl 3 rfl) ?_
      refine va_get (D := (dC, dI)) (ci := 4) (v := .int ((f_M_readDescriptionR Xq) 15 0)) (C := R_M) (T := F_M) (N := 39) hx hb hts i_M hown hK hP 0 rfl rfl 15 (by decide) (hts _ m_f_M_100) (fun _ h9 => h9) rfl d_M_part_182 ?_
      refine lv_if_eq (tgt := 189) hx hb d_M_part_185 (by decide) (fun c_700 => ?_) (fun c_700 => ?_)
      · refine lv_aload_n hx hb d_M_part_189 rfl (lv_at hl 3 rfl) ?_
        refine lv_iconst (v := 3) hx hb d_M_part_190 (by decide) ?_
        refine nc_ro (va_runV (As := [.int 3]) (rest := []) hfix (c_M_fitting l dC dI cA cZ a (.ref (a 8)) (f_M_readDescriptionR Xq) 3 (rd_tR hmt) (rd_kR hmk) (rdR_w c_700)) (k_M_149 hts hN ⟨Nat.le_of_ble_eq_true rfl, Nat.le_of_ble_eq_true rfl⟩) (nc_preVZ hK hN hP hD rfl rfl) rfl rfl hl.1 rfl (lv_room (Nat.le_of_ble_eq_true rfl)) d_M_part_191 ⟨Nat.zero_le _, Nat.zero_le _⟩) (fun r er => ?_)
        subst er
        refine lv_istore (lv' := [(7, .int (f_M_fitting (f_M_readDescriptionR Xq) 3)), (9, .int 0), (8, .int 0), (0, .ref (a 0)), (1, .int x1), (2, .int x2), (3, .int x3), (4, .int z4), (5, .int z5), (6, .int z6)]) hx hb d_M_part_194 hl (by decide) rfl (fun ls hl => ?_)
        refine lv_aload_n hx hb d_M_part_196 rfl (lv_at hl 3 rfl) ?_
        refine lv_iconst (v := 2) hx hb d_M_part_197 (by decide) ?_
        refine nc_ro (va_runV (As := [.int 2]) (rest := []) hfix (c_M_fitting l dC dI cA cZ a (.ref (a 8)) (f_M_readDescriptionR Xq) 2 (rd_tR hmt) (rd_kR hmk) (rdR_w c_700)) (k_M_149 hts hN ⟨Nat.le_of_ble_eq_true rfl, Nat.le_of_ble_eq_true rfl⟩) (nc_preVZ hK hN hP hD rfl rfl) rfl rfl hl.1 rfl (lv_room (Nat.le_of_ble_eq_true rfl)) d_M_part_198 ⟨Nat.zero_le _, Nat.zero_le _⟩) (fun r er => ?_)
        subst er
        refine lv_istore (lv' := [(8, .int (f_M_fitting (f_M_readDescriptionR Xq) 2)), (7, .int (f_M_fitting (f_M_readDescriptionR Xq) 3)), (9, .int 0), (0, .ref (a 0)), (1, .int x1), (2, .int x2), (3, .int x3), (4, .int z4), (5, .int z5), (6, .int z6)]) hx hb d_M_part_201 hl (by decide) rfl (fun ls hl => ?_)
        refine lv_aload_n hx hb d_M_part_203 rfl (lv_at hl 3 rfl) ?_
        refine va_get (D := (dC, dI)) (ci := 4) (v := .int ((f_M_readDescriptionR Xq) 16 0)) (C := R_M) (T := F_M) (N := 39) hx hb hts i_M hown hK hP 0 rfl rfl 16 (by decide) (hts _ m_f_M_108) (fun _ h9 => h9) rfl d_M_part_204 ?_
        refine lv_iconst (v := 1) hx hb d_M_part_207 (by decide) ?_
        refine nc_ro (va_runS (As := [.int ((f_M_readDescriptionR Xq) 16 0), .int 1]) (rest := []) hfix (c_M_has l dC dI cA ((f_M_readDescriptionR Xq) 16 0) 1) (k_M_114 hts hN ⟨Nat.le_of_ble_eq_true rfl, Nat.le_of_ble_eq_true rfl⟩) (nc_preS0 hK1 hN) rfl rfl hl.1 rfl (lv_room (Nat.le_of_ble_eq_true rfl)) d_M_part_208 ⟨Nat.zero_le _, Nat.zero_le _⟩) (fun r er => ?_)
        obtain ⟨rfl, hz_701⟩ := er
        refine lv_istore (lv' := [(9, .int (f_M_has ((f_M_readDescriptionR Xq) 16 0) 1)), (8, .int (f_M_fitting (f_M_readDescriptionR Xq) 2)), (7, .int (f_M_fitting (f_M_readDescriptionR Xq) 3)), (0, .ref (a 0)), (1, .int x1), (2, .int x2), (3, .int x3), (4, .int z4), (5, .int z5), (6, .int z6)]) hx hb d_M_part_211 hl (by decide) rfl (fun ls hl => ?_)
        exact join_213 (f_M_readDescriptionR Xq) z4 z5 (f_M_fitting (f_M_readDescriptionR Xq) 3) (f_M_fitting (f_M_readDescriptionR Xq) 2) (f_M_has ((f_M_readDescriptionR Xq) 16 0) 1) H locs ls (by rw [hE, f_M_partR_J160, if_neg c_699, if_pos c_700]) (rdR_a hma).1 (rd_tR hmt) (rd_kR hmk) hP hD hS (lv_sub hl [3, 4, 5, 6, 7, 8, 2, 1, 0] rfl)
      · have hF : (f_M_partR X x1 x2 x3) = (f_M_readDescriptionR Xq) := by rw [hE, f_M_partR_J160, if_neg c_699, if_neg c_700]
        exact W.vret hx hb hr (fun t ht hW => ⟨⟨(), rfl, trivial, by rw [hF, ht]; exact hP, by rw [hF]; exact hD⟩, hS.F ht⟩) hS.2.2 d_M_part_188
  refine lv_aload_n hx hb d_M_part_0 rfl (lv_at hl 0 rfl) ?_
  refine lv_iconst (v := 0) hx hb d_M_part_1 (by decide) ?_
  refine va_put (D := (dC, dI)) (ci := 4) (v := .int 0) (ty := .int) (C := R_M) (T := F_M) (N := 39) hx hb hts i_M t_M t_M_ok n_M hown hK hP hD hS 0 rfl rfl 19 (by decide) (hts _ m_f_M_137) (fun _ h9 => h9) rfl (by decide +kernel) rfl rfl (Nat.le_of_ble_eq_true rfl) d_M_part_2 (fun H locs hP hD hS => ?_)
  have hP : va_P (dC, dI) classes (w_M cA cZ a (.ref (a 8)) (upf X 19 (fun _ => 0))) H := hP
  have hD : va_D A (w_M cA cZ a (.ref (a 8)) (upf X 19 (fun _ => 0))) := hD
  refine lv_aload_n hx hb d_M_part_5 rfl (lv_at hl 0 rfl) ?_
  refine lv_iconst (v := 0) hx hb d_M_part_6 (by decide) ?_
  refine va_put (D := (dC, dI)) (ci := 4) (v := .int 0) (ty := .int) (C := R_M) (T := F_M) (N := 39) hx hb hts i_M t_M t_M_ok n_M hown hK hP hD hS 0 rfl rfl 20 (by decide) (hts _ m_f_M_140) (fun _ h9 => h9) rfl (by decide +kernel) rfl rfl (Nat.le_of_ble_eq_true rfl) d_M_part_7 (fun H locs hP hD hS => ?_)
  have hP : va_P (dC, dI) classes (w_M cA cZ a (.ref (a 8)) (upf (upf X 19 (fun _ => 0)) 20 (fun _ => 0))) H := hP
  have hD : va_D A (w_M cA cZ a (.ref (a 8)) (upf (upf X 19 (fun _ => 0)) 20 (fun _ => 0))) := hD
  refine lv_aload_n hx hb d_M_part_10 rfl (lv_at hl 0 rfl) ?_
  refine lv_iconst (v := 0) hx hb d_M_part_11 (by decide) ?_
  refine va_put (D := (dC, dI)) (ci := 4) (v := .int 0) (ty := .int) (C := R_M) (T := F_M) (N := 39) hx hb hts i_M t_M t_M_ok n_M hown hK hP hD hS 0 rfl rfl 22 (by decide) (hts _ m_f_M_143) (fun _ h9 => h9) rfl (by decide +kernel) rfl rfl (Nat.le_of_ble_eq_true rfl) d_M_part_12 (fun H locs hP hD hS => ?_)
  have hP : va_P (dC, dI) classes (w_M cA cZ a (.ref (a 8)) (upf (upf (upf X 19 (fun _ => 0)) 20 (fun _ => 0)) 22 (fun _ => 0))) H := hP
  have hD : va_D A (w_M cA cZ a (.ref (a 8)) (upf (upf (upf X 19 (fun _ => 0)) 20 (fun _ => 0)) 22 (fun _ => 0))) := hD
  refine lv_aload_n hx hb d_M_part_15 rfl (lv_at hl 0 rfl) ?_
  refine nc_ro (va_runV (As := []) (rest := []) hfix (c_M_hereR l dC dI cA cZ a (upf (upf (upf X 19 (fun _ => 0)) 20 (fun _ => 0)) 22 (fun _ => 0)) hma) (k_M_104 hts hN ⟨Nat.le_of_ble_eq_true rfl, Nat.le_of_ble_eq_true rfl⟩) (nc_preVZ hK hN hP hD rfl rfl) rfl rfl hl.1 rfl (lv_room (Nat.le_of_ble_eq_true rfl)) d_M_part_16 ⟨Nat.zero_le _, Nat.zero_le _⟩) (fun r er => ?_)
  subst er
  refine lv_bipush (v := 34) hx hb d_M_part_19 (by decide) ?_
  refine lv_icmp_ne (tgt := 28) hx hb d_M_part_21 (by decide) (fun c_702 => ?_) (fun c_702 => ?_)
  · refine lv_iconst (v := 0) hx hb d_M_part_28 (by decide) ?_
    refine lv_istore (lv' := [(4, .int 0), (0, .ref (a 0)), (1, .int x1), (2, .int x2), (3, .int x3)]) hx hb d_M_part_29 hl (by decide) rfl (fun ls hl => ?_)
    refine lv_aload_n hx hb d_M_part_31 rfl (lv_at hl 1 rfl) ?_
    refine nc_ro (va_runV (As := []) (rest := []) hfix (c_M_hereR l dC dI cA cZ a (upf (upf (upf X 19 (fun _ => 0)) 20 (fun _ => 0)) 22 (fun _ => 0)) hma) (k_M_104 hts hN ⟨Nat.le_of_ble_eq_true rfl, Nat.le_of_ble_eq_true rfl⟩) (nc_preVZ hK hN hP hD rfl rfl) rfl rfl hl.1 rfl (lv_room (Nat.le_of_ble_eq_true rfl)) d_M_part_32 ⟨Nat.zero_le _, Nat.zero_le _⟩) (fun r er => ?_)
    subst er
    refine lv_bipush (v := 40) hx hb d_M_part_35 (by decide) ?_
    refine lv_icmp_le (tgt := 50) hx hb d_M_part_37 (by decide) (fun c_703 => ?_) (fun c_703 => ?_)
    · refine lv_iconst (v := 0) hx hb d_M_part_50 (by decide) ?_
      refine lv_istore (lv' := [(5, .int 0), (4, .int 0), (0, .ref (a 0)), (1, .int x1), (2, .int x2), (3, .int x3)]) hx hb d_M_part_51 hl (by decide) rfl (fun ls hl => ?_)
      refine lv_iconst (v := 1) hx hb d_M_part_53 (by decide) ?_
      refine lv_istore (lv' := [(6, .int 1), (5, .int 0), (4, .int 0), (0, .ref (a 0)), (1, .int x1), (2, .int x2), (3, .int x3)]) hx hb d_M_part_54 hl (by decide) rfl (fun ls hl => ?_)
      refine lv_iload hx hb d_M_part_56 (lv_at hl 2 rfl) ?_
      refine lv_if_ne (tgt := 66) hx hb d_M_part_58 (by decide) (fun c_704 => ?_) (fun c_704 => ?_)
      · exact absurd c_704 (by decide)
      · refine lv_iload hx hb d_M_part_61 (lv_at hl 1 rfl) ?_
        refine lv_if_le (tgt := 160) hx hb d_M_part_63 (by decide) (fun c_705 => ?_) (fun c_705 => ?_)
        · exact join_160 (upf (upf (upf X 19 (fun _ => 0)) 20 (fun _ => 0)) 22 (fun _ => 0)) 0 0 1 H locs ls (by rw [f_M_partR, if_neg c_702, if_pos c_703]) hma hmt hmk hP hD hS (lv_sub hl [3, 4, 5, 6, 2, 1, 0] rfl)
        · exact absurd c_705 (by decide)
    · refine lv_aload_n hx hb d_M_part_40 rfl (lv_at hl 1 rfl) ?_
      refine nc_ro (va_runV (As := []) (rest := []) hfix (c_M_hereR l dC dI cA cZ a (upf (upf (upf X 19 (fun _ => 0)) 20 (fun _ => 0)) 22 (fun _ => 0)) hma) (k_M_104 hts hN ⟨Nat.le_of_ble_eq_true rfl, Nat.le_of_ble_eq_true rfl⟩) (nc_preVZ hK hN hP hD rfl rfl) rfl rfl hl.1 rfl (lv_room (Nat.le_of_ble_eq_true rfl)) d_M_part_41 ⟨Nat.zero_le _, Nat.zero_le _⟩) (fun r er => ?_)
      subst er
      refine lv_bipush (v := 40) hx hb d_M_part_44 (by decide) ?_
      refine lv_isub hx hb d_M_part_46 ?_
      refine lv_goto (tgt := 51) hx hb d_M_part_47 (by decide) ?_
      refine lv_istore (lv' := [(5, .int ((f_M_hereR (upf (upf (upf X 19 (fun _ => 0)) 20 (fun _ => 0)) 22 (fun _ => 0))) - 40)), (4, .int 0), (0, .ref (a 0)), (1, .int x1), (2, .int x2), (3, .int x3)]) hx hb d_M_part_51 hl (by decide) rfl (fun ls hl => ?_)
      refine lv_iconst (v := 1) hx hb d_M_part_53 (by decide) ?_
      refine lv_istore (lv' := [(6, .int 1), (5, .int ((f_M_hereR (upf (upf (upf X 19 (fun _ => 0)) 20 (fun _ => 0)) 22 (fun _ => 0))) - 40)), (4, .int 0), (0, .ref (a 0)), (1, .int x1), (2, .int x2), (3, .int x3)]) hx hb d_M_part_54 hl (by decide) rfl (fun ls hl => ?_)
      refine lv_iload hx hb d_M_part_56 (lv_at hl 2 rfl) ?_
      refine lv_if_ne (tgt := 66) hx hb d_M_part_58 (by decide) (fun c_706 => ?_) (fun c_706 => ?_)
      · exact absurd c_706 (by decide)
      · refine lv_iload hx hb d_M_part_61 (lv_at hl 1 rfl) ?_
        refine lv_if_le (tgt := 160) hx hb d_M_part_63 (by decide) (fun c_707 => ?_) (fun c_707 => ?_)
        · exact join_160 (upf (upf (upf X 19 (fun _ => 0)) 20 (fun _ => 0)) 22 (fun _ => 0)) 0 ((f_M_hereR (upf (upf (upf X 19 (fun _ => 0)) 20 (fun _ => 0)) 22 (fun _ => 0))) - 40) 1 H locs ls (by rw [f_M_partR, if_neg c_702, if_neg c_703, if_pos c_707]) hma hmt hmk hP hD hS (lv_sub hl [3, 4, 5, 6, 2, 1, 0] rfl)
        · refine lv_aload_n hx hb d_M_part_66 rfl (lv_at hl 3 rfl) ?_
          refine lv_dup hx hb d_M_part_67 rfl ?_
          refine va_get (D := (dC, dI)) (ci := 4) (v := .int (X 14 0)) (C := R_M) (T := F_M) (N := 39) hx hb hts i_M hown hK hP 0 rfl rfl 14 (by decide) (hts _ m_f_M_97) (fun _ h9 => h9) rfl d_M_part_68 ?_
          refine lv_iconst (v := 1) hx hb d_M_part_71 (by decide) ?_
          refine lv_iadd hx hb d_M_part_72 ?_
          refine va_put (D := (dC, dI)) (ci := 4) (v := .int ((X 14 0) + 1)) (ty := .int) (C := R_M) (T := F_M) (N := 39) hx hb hts i_M t_M t_M_ok n_M hown hK hP hD hS 0 rfl rfl 14 (by decide) (hts _ m_f_M_97) (fun _ h9 => h9) rfl (by decide +kernel) rfl rfl (Nat.le_of_ble_eq_true rfl) d_M_part_73 (fun H locs hP hD hS => ?_)
          have hP : va_P (dC, dI) classes (w_M cA cZ a (.ref (a 8)) (upf (upf (upf (upf X 14 (fun _ => ((X 14 0) + 1))) 19 (fun _ => 0)) 20 (fun _ => 0)) 22 (fun _ => 0))) H := hP
          have hD : va_D A (w_M cA cZ a (.ref (a 8)) (upf (upf (upf (upf X 14 (fun _ => ((X 14 0) + 1))) 19 (fun _ => 0)) 20 (fun _ => 0)) 22 (fun _ => 0))) := hD
          refine lv_aload_n hx hb d_M_part_76 rfl (lv_at hl 3 rfl) ?_
          refine nc_ro (va_runV (As := []) (rest := []) hfix (c_M_hereR l dC dI cA cZ a (upf (upf (upf (upf X 14 (fun _ => ((X 14 0) + 1))) 19 (fun _ => 0)) 20 (fun _ => 0)) 22 (fun _ => 0)) (m_adv_step (hereR_gt c_703) hma).1) (k_M_104 hts hN ⟨Nat.le_of_ble_eq_true rfl, Nat.le_of_ble_eq_true rfl⟩) (nc_preVZ hK hN hP hD rfl rfl) rfl rfl hl.1 rfl (lv_room (Nat.le_of_ble_eq_true rfl)) d_M_part_77 ⟨Nat.zero_le _, Nat.zero_le _⟩) (fun r er => ?_)
          subst er
          refine lv_bipush (v := 37) hx hb d_M_part_80 (by decide) ?_
          refine lv_icmp_ne (tgt := 89) hx hb d_M_part_82 (by decide) (fun c_708 => ?_) (fun c_708 => ?_)
          · refine lv_iconst (v := 0) hx hb d_M_part_89 (by decide) ?_
            refine lv_istore (lv' := [(7, .int 0), (6, .int 1), (5, .int ((f_M_hereR (upf (upf (upf X 19 (fun _ => 0)) 20 (fun _ => 0)) 22 (fun _ => 0))) - 40)), (4, .int 0), (0, .ref (a 0)), (1, .int x1), (2, .int x2), (3, .int x3)]) hx hb d_M_part_90 hl (by decide) rfl (fun ls hl => ?_)
            refine lv_iload hx hb d_M_part_92 (lv_at hl 2 rfl) ?_
            refine lv_if_gt (tgt := 131) hx hb d_M_part_94 (by decide) (fun c_709 => ?_) (fun c_709 => ?_)
            · refine lv_iconst (v := 1) hx hb d_M_part_131 (by decide) ?_
              refine lv_goto (tgt := 136) hx hb d_M_part_132 (by decide) ?_
              refine lv_istore (lv' := [(6, .int 1), (7, .int 0), (5, .int ((f_M_hereR (upf (upf (upf X 19 (fun _ => 0)) 20 (fun _ => 0)) 22 (fun _ => 0))) - 40)), (4, .int 0), (0, .ref (a 0)), (1, .int x1), (2, .int x2), (3, .int x3)]) hx hb d_M_part_136 hl (by decide) rfl (fun ls hl => ?_)
              refine lv_aload_n hx hb d_M_part_138 rfl (lv_at hl 4 rfl) ?_
              refine lv_iload hx hb d_M_part_139 (lv_at hl 1 rfl) ?_
              refine lv_if_eq (tgt := 153) hx hb d_M_part_141 (by decide) (fun c_710 => ?_) (fun c_710 => ?_)
              · refine lv_aload_n hx hb d_M_part_153 rfl (lv_at hl 4 rfl) ?_
                refine va_get (D := (dC, dI)) (ci := 4) (v := .int ((X 14 0) + 1)) (C := R_M) (T := F_M) (N := 39) hx hb hts i_M hown hK hP 0 rfl rfl 14 (by decide) (hts _ m_f_M_97) (fun _ h9 => h9) rfl d_M_part_154 ?_
                refine va_put (D := (dC, dI)) (ci := 4) (v := .int ((X 14 0) + 1)) (ty := .int) (C := R_M) (T := F_M) (N := 39) hx hb hts i_M t_M t_M_ok n_M hown hK hP hD hS 0 rfl rfl 14 (by decide) (hts _ m_f_M_97) (fun _ h9 => h9) rfl (by decide +kernel) rfl rfl (Nat.le_of_ble_eq_true rfl) d_M_part_157 (fun H locs hP hD hS => ?_)
                have hP : va_P (dC, dI) classes (w_M cA cZ a (.ref (a 8)) (upf (upf (upf (upf X 14 (fun _ => ((X 14 0) + 1))) 19 (fun _ => 0)) 20 (fun _ => 0)) 22 (fun _ => 0))) H := hP
                have hD : va_D A (w_M cA cZ a (.ref (a 8)) (upf (upf (upf (upf X 14 (fun _ => ((X 14 0) + 1))) 19 (fun _ => 0)) 20 (fun _ => 0)) 22 (fun _ => 0))) := hD
                exact join_160 (upf (upf (upf (upf X 14 (fun _ => ((X 14 0) + 1))) 19 (fun _ => 0)) 20 (fun _ => 0)) 22 (fun _ => 0)) 0 ((f_M_hereR (upf (upf (upf X 19 (fun _ => 0)) 20 (fun _ => 0)) 22 (fun _ => 0))) - 40) 1 H locs ls (by rw [f_M_partR, if_neg c_702, if_neg c_703, if_neg c_707, if_neg c_708, if_pos c_709]) (m_adv_step (hereR_gt c_703) hma).1 hmt hmk hP hD hS (lv_sub hl [4, 5, 6, 7, 3, 2, 0] rfl)
              · exact absurd c_710 (by decide)
            · refine lv_iload hx hb d_M_part_97 (lv_at hl 0 rfl) ?_
              refine lv_if_ne (tgt := 131) hx hb d_M_part_99 (by decide) (fun c_711 => ?_) (fun c_711 => ?_)
              · exact absurd c_711 (by decide)
              · refine lv_aload_n hx hb d_M_part_102 rfl (lv_at hl 4 rfl) ?_
                refine va_get (D := (dC, dI)) (ci := 4) (v := .int ((X 14 0) + 1)) (C := R_M) (T := F_M) (N := 39) hx hb hts i_M hown hK hP 0 rfl rfl 14 (by decide) (hts _ m_f_M_97) (fun _ h9 => h9) rfl d_M_part_103 ?_
                refine lv_aload_n hx hb d_M_part_106 rfl (lv_at hl 4 rfl) ?_
                refine va_get (D := (dC, dI)) (ci := 4) (v := .int (X 13 0)) (C := R_M) (T := F_M) (N := 39) hx hb hts i_M hown hK hP 0 rfl rfl 13 (by decide) (hts _ m_f_M_94) (fun _ h9 => h9) rfl d_M_part_107 ?_
                refine lv_icmp_ge (tgt := 135) hx hb d_M_part_110 (by decide) (fun c_712 => ?_) (fun c_712 => ?_)
                · refine lv_iconst (v := 0) hx hb d_M_part_135 (by decide) ?_
                  refine lv_istore (lv' := [(6, .int 0), (7, .int 0), (5, .int ((f_M_hereR (upf (upf (upf X 19 (fun _ => 0)) 20 (fun _ => 0)) 22 (fun _ => 0))) - 40)), (4, .int 0), (0, .ref (a 0)), (1, .int x1), (2, .int x2), (3, .int x3)]) hx hb d_M_part_136 hl (by decide) rfl (fun ls hl => ?_)
                  refine lv_aload_n hx hb d_M_part_138 rfl (lv_at hl 4 rfl) ?_
                  refine lv_iload hx hb d_M_part_139 (lv_at hl 1 rfl) ?_
                  refine lv_if_eq (tgt := 153) hx hb d_M_part_141 (by decide) (fun c_713 => ?_) (fun c_713 => ?_)
                  · refine lv_aload_n hx hb d_M_part_153 rfl (lv_at hl 4 rfl) ?_
                    refine va_get (D := (dC, dI)) (ci := 4) (v := .int ((X 14 0) + 1)) (C := R_M) (T := F_M) (N := 39) hx hb hts i_M hown hK hP 0 rfl rfl 14 (by decide) (hts _ m_f_M_97) (fun _ h9 => h9) rfl d_M_part_154 ?_
                    refine va_put (D := (dC, dI)) (ci := 4) (v := .int ((X 14 0) + 1)) (ty := .int) (C := R_M) (T := F_M) (N := 39) hx hb hts i_M t_M t_M_ok n_M hown hK hP hD hS 0 rfl rfl 14 (by decide) (hts _ m_f_M_97) (fun _ h9 => h9) rfl (by decide +kernel) rfl rfl (Nat.le_of_ble_eq_true rfl) d_M_part_157 (fun H locs hP hD hS => ?_)
                    have hP : va_P (dC, dI) classes (w_M cA cZ a (.ref (a 8)) (upf (upf (upf (upf X 14 (fun _ => ((X 14 0) + 1))) 19 (fun _ => 0)) 20 (fun _ => 0)) 22 (fun _ => 0))) H := hP
                    have hD : va_D A (w_M cA cZ a (.ref (a 8)) (upf (upf (upf (upf X 14 (fun _ => ((X 14 0) + 1))) 19 (fun _ => 0)) 20 (fun _ => 0)) 22 (fun _ => 0))) := hD
                    exact join_160 (upf (upf (upf (upf X 14 (fun _ => ((X 14 0) + 1))) 19 (fun _ => 0)) 20 (fun _ => 0)) 22 (fun _ => 0)) 0 ((f_M_hereR (upf (upf (upf X 19 (fun _ => 0)) 20 (fun _ => 0)) 22 (fun _ => 0))) - 40) 0 H locs ls (by rw [f_M_partR, if_neg c_702, if_neg c_703, if_neg c_707, if_neg c_708, if_neg c_709, if_pos c_712]) (m_adv_step (hereR_gt c_703) hma).1 hmt hmk hP hD hS (lv_sub hl [4, 5, 6, 7, 3, 2, 0] rfl)
                  · exact absurd c_713 (by decide)
                · refine lv_aload_n hx hb d_M_part_113 rfl (lv_at hl 4 rfl) ?_
                  refine nc_ro (va_runV (As := []) (rest := []) hfix (c_M_hereR l dC dI cA cZ a (upf (upf (upf (upf X 14 (fun _ => ((X 14 0) + 1))) 19 (fun _ => 0)) 20 (fun _ => 0)) 22 (fun _ => 0)) (m_adv_step (hereR_gt c_703) hma).1) (k_M_104 hts hN ⟨Nat.le_of_ble_eq_true rfl, Nat.le_of_ble_eq_true rfl⟩) (nc_preVZ hK hN hP hD rfl rfl) rfl rfl hl.1 rfl (lv_room (Nat.le_of_ble_eq_true rfl)) d_M_part_114 ⟨Nat.zero_le _, Nat.zero_le _⟩) (fun r er => ?_)
                  subst er
                  refine lv_bipush (v := 35) hx hb d_M_part_117 (by decide) ?_
                  refine lv_icmp_eq (tgt := 135) hx hb d_M_part_119 (by decide) (fun c_714 => ?_) (fun c_714 => ?_)
                  · refine lv_iconst (v := 0) hx hb d_M_part_135 (by decide) ?_
                    refine lv_istore (lv' := [(6, .int 0), (7, .int 0), (5, .int ((f_M_hereR (upf (upf (upf X 19 (fun _ => 0)) 20 (fun _ => 0)) 22 (fun _ => 0))) - 40)), (4, .int 0), (0, .ref (a 0)), (1, .int x1), (2, .int x2), (3, .int x3)]) hx hb d_M_part_136 hl (by decide) rfl (fun ls hl => ?_)
                    refine lv_aload_n hx hb d_M_part_138 rfl (lv_at hl 4 rfl) ?_
                    refine lv_iload hx hb d_M_part_139 (lv_at hl 1 rfl) ?_
                    refine lv_if_eq (tgt := 153) hx hb d_M_part_141 (by decide) (fun c_715 => ?_) (fun c_715 => ?_)
                    · refine lv_aload_n hx hb d_M_part_153 rfl (lv_at hl 4 rfl) ?_
                      refine va_get (D := (dC, dI)) (ci := 4) (v := .int ((X 14 0) + 1)) (C := R_M) (T := F_M) (N := 39) hx hb hts i_M hown hK hP 0 rfl rfl 14 (by decide) (hts _ m_f_M_97) (fun _ h9 => h9) rfl d_M_part_154 ?_
                      refine va_put (D := (dC, dI)) (ci := 4) (v := .int ((X 14 0) + 1)) (ty := .int) (C := R_M) (T := F_M) (N := 39) hx hb hts i_M t_M t_M_ok n_M hown hK hP hD hS 0 rfl rfl 14 (by decide) (hts _ m_f_M_97) (fun _ h9 => h9) rfl (by decide +kernel) rfl rfl (Nat.le_of_ble_eq_true rfl) d_M_part_157 (fun H locs hP hD hS => ?_)
                      have hP : va_P (dC, dI) classes (w_M cA cZ a (.ref (a 8)) (upf (upf (upf (upf X 14 (fun _ => ((X 14 0) + 1))) 19 (fun _ => 0)) 20 (fun _ => 0)) 22 (fun _ => 0))) H := hP
                      have hD : va_D A (w_M cA cZ a (.ref (a 8)) (upf (upf (upf (upf X 14 (fun _ => ((X 14 0) + 1))) 19 (fun _ => 0)) 20 (fun _ => 0)) 22 (fun _ => 0))) := hD
                      exact join_160 (upf (upf (upf (upf X 14 (fun _ => ((X 14 0) + 1))) 19 (fun _ => 0)) 20 (fun _ => 0)) 22 (fun _ => 0)) 0 ((f_M_hereR (upf (upf (upf X 19 (fun _ => 0)) 20 (fun _ => 0)) 22 (fun _ => 0))) - 40) 0 H locs ls (by rw [f_M_partR, if_neg c_702, if_neg c_703, if_neg c_707, if_neg c_708, if_neg c_709, if_neg c_712, if_pos c_714]) (m_adv_step (hereR_gt c_703) hma).1 hmt hmk hP hD hS (lv_sub hl [4, 5, 6, 7, 3, 2, 0] rfl)
                    · exact absurd c_715 (by decide)
                  · refine lv_aload_n hx hb d_M_part_122 rfl (lv_at hl 4 rfl) ?_
                    refine nc_ro (va_runV (As := []) (rest := []) hfix (c_M_hereR l dC dI cA cZ a (upf (upf (upf (upf X 14 (fun _ => ((X 14 0) + 1))) 19 (fun _ => 0)) 20 (fun _ => 0)) 22 (fun _ => 0)) (m_adv_step (hereR_gt c_703) hma).1) (k_M_104 hts hN ⟨Nat.le_of_ble_eq_true rfl, Nat.le_of_ble_eq_true rfl⟩) (nc_preVZ hK hN hP hD rfl rfl) rfl rfl hl.1 rfl (lv_room (Nat.le_of_ble_eq_true rfl)) d_M_part_123 ⟨Nat.zero_le _, Nat.zero_le _⟩) (fun r er => ?_)
                    subst er
                    refine lv_bipush (v := 36) hx hb d_M_part_126 (by decide) ?_
                    refine lv_icmp_eq (tgt := 135) hx hb d_M_part_128 (by decide) (fun c_716 => ?_) (fun c_716 => ?_)
                    · refine lv_iconst (v := 0) hx hb d_M_part_135 (by decide) ?_
                      refine lv_istore (lv' := [(6, .int 0), (7, .int 0), (5, .int ((f_M_hereR (upf (upf (upf X 19 (fun _ => 0)) 20 (fun _ => 0)) 22 (fun _ => 0))) - 40)), (4, .int 0), (0, .ref (a 0)), (1, .int x1), (2, .int x2), (3, .int x3)]) hx hb d_M_part_136 hl (by decide) rfl (fun ls hl => ?_)
                      refine lv_aload_n hx hb d_M_part_138 rfl (lv_at hl 4 rfl) ?_
                      refine lv_iload hx hb d_M_part_139 (lv_at hl 1 rfl) ?_
                      refine lv_if_eq (tgt := 153) hx hb d_M_part_141 (by decide) (fun c_717 => ?_) (fun c_717 => ?_)
                      · refine lv_aload_n hx hb d_M_part_153 rfl (lv_at hl 4 rfl) ?_
                        refine va_get (D := (dC, dI)) (ci := 4) (v := .int ((X 14 0) + 1)) (C := R_M) (T := F_M) (N := 39) hx hb hts i_M hown hK hP 0 rfl rfl 14 (by decide) (hts _ m_f_M_97) (fun _ h9 => h9) rfl d_M_part_154 ?_
                        refine va_put (D := (dC, dI)) (ci := 4) (v := .int ((X 14 0) + 1)) (ty := .int) (C := R_M) (T := F_M) (N := 39) hx hb hts i_M t_M t_M_ok n_M hown hK hP hD hS 0 rfl rfl 14 (by decide) (hts _ m_f_M_97) (fun _ h9 => h9) rfl (by decide +kernel) rfl rfl (Nat.le_of_ble_eq_true rfl) d_M_part_157 (fun H locs hP hD hS => ?_)
                        have hP : va_P (dC, dI) classes (w_M cA cZ a (.ref (a 8)) (upf (upf (upf (upf X 14 (fun _ => ((X 14 0) + 1))) 19 (fun _ => 0)) 20 (fun _ => 0)) 22 (fun _ => 0))) H := hP
                        have hD : va_D A (w_M cA cZ a (.ref (a 8)) (upf (upf (upf (upf X 14 (fun _ => ((X 14 0) + 1))) 19 (fun _ => 0)) 20 (fun _ => 0)) 22 (fun _ => 0))) := hD
                        exact join_160 (upf (upf (upf (upf X 14 (fun _ => ((X 14 0) + 1))) 19 (fun _ => 0)) 20 (fun _ => 0)) 22 (fun _ => 0)) 0 ((f_M_hereR (upf (upf (upf X 19 (fun _ => 0)) 20 (fun _ => 0)) 22 (fun _ => 0))) - 40) 0 H locs ls (by rw [f_M_partR, if_neg c_702, if_neg c_703, if_neg c_707, if_neg c_708, if_neg c_709, if_neg c_712, if_neg c_714, if_pos c_716]) (m_adv_step (hereR_gt c_703) hma).1 hmt hmk hP hD hS (lv_sub hl [4, 5, 6, 7, 3, 2, 0] rfl)
                      · exact absurd c_717 (by decide)
                    · refine lv_iconst (v := 1) hx hb d_M_part_131 (by decide) ?_
                      refine lv_goto (tgt := 136) hx hb d_M_part_132 (by decide) ?_
                      refine lv_istore (lv' := [(6, .int 1), (7, .int 0), (5, .int ((f_M_hereR (upf (upf (upf X 19 (fun _ => 0)) 20 (fun _ => 0)) 22 (fun _ => 0))) - 40)), (4, .int 0), (0, .ref (a 0)), (1, .int x1), (2, .int x2), (3, .int x3)]) hx hb d_M_part_136 hl (by decide) rfl (fun ls hl => ?_)
                      refine lv_aload_n hx hb d_M_part_138 rfl (lv_at hl 4 rfl) ?_
                      refine lv_iload hx hb d_M_part_139 (lv_at hl 1 rfl) ?_
                      refine lv_if_eq (tgt := 153) hx hb d_M_part_141 (by decide) (fun c_718 => ?_) (fun c_718 => ?_)
                      · refine lv_aload_n hx hb d_M_part_153 rfl (lv_at hl 4 rfl) ?_
                        refine va_get (D := (dC, dI)) (ci := 4) (v := .int ((X 14 0) + 1)) (C := R_M) (T := F_M) (N := 39) hx hb hts i_M hown hK hP 0 rfl rfl 14 (by decide) (hts _ m_f_M_97) (fun _ h9 => h9) rfl d_M_part_154 ?_
                        refine va_put (D := (dC, dI)) (ci := 4) (v := .int ((X 14 0) + 1)) (ty := .int) (C := R_M) (T := F_M) (N := 39) hx hb hts i_M t_M t_M_ok n_M hown hK hP hD hS 0 rfl rfl 14 (by decide) (hts _ m_f_M_97) (fun _ h9 => h9) rfl (by decide +kernel) rfl rfl (Nat.le_of_ble_eq_true rfl) d_M_part_157 (fun H locs hP hD hS => ?_)
                        have hP : va_P (dC, dI) classes (w_M cA cZ a (.ref (a 8)) (upf (upf (upf (upf X 14 (fun _ => ((X 14 0) + 1))) 19 (fun _ => 0)) 20 (fun _ => 0)) 22 (fun _ => 0))) H := hP
                        have hD : va_D A (w_M cA cZ a (.ref (a 8)) (upf (upf (upf (upf X 14 (fun _ => ((X 14 0) + 1))) 19 (fun _ => 0)) 20 (fun _ => 0)) 22 (fun _ => 0))) := hD
                        exact join_160 (upf (upf (upf (upf X 14 (fun _ => ((X 14 0) + 1))) 19 (fun _ => 0)) 20 (fun _ => 0)) 22 (fun _ => 0)) 0 ((f_M_hereR (upf (upf (upf X 19 (fun _ => 0)) 20 (fun _ => 0)) 22 (fun _ => 0))) - 40) 1 H locs ls (by rw [f_M_partR, if_neg c_702, if_neg c_703, if_neg c_707, if_neg c_708, if_neg c_709, if_neg c_712, if_neg c_714, if_neg c_716]) (m_adv_step (hereR_gt c_703) hma).1 hmt hmk hP hD hS (lv_sub hl [4, 5, 6, 7, 3, 2, 0] rfl)
                      · exact absurd c_718 (by decide)
          · refine lv_iconst (v := 1) hx hb d_M_part_85 (by decide) ?_
            refine lv_goto (tgt := 90) hx hb d_M_part_86 (by decide) ?_
            refine lv_istore (lv' := [(7, .int 1), (6, .int 1), (5, .int ((f_M_hereR (upf (upf (upf X 19 (fun _ => 0)) 20 (fun _ => 0)) 22 (fun _ => 0))) - 40)), (4, .int 0), (0, .ref (a 0)), (1, .int x1), (2, .int x2), (3, .int x3)]) hx hb d_M_part_90 hl (by decide) rfl (fun ls hl => ?_)
            refine lv_iload hx hb d_M_part_92 (lv_at hl 2 rfl) ?_
            refine lv_if_gt (tgt := 131) hx hb d_M_part_94 (by decide) (fun c_719 => ?_) (fun c_719 => ?_)
            · refine lv_iconst (v := 1) hx hb d_M_part_131 (by decide) ?_
              refine lv_goto (tgt := 136) hx hb d_M_part_132 (by decide) ?_
              refine lv_istore (lv' := [(6, .int 1), (7, .int 1), (5, .int ((f_M_hereR (upf (upf (upf X 19 (fun _ => 0)) 20 (fun _ => 0)) 22 (fun _ => 0))) - 40)), (4, .int 0), (0, .ref (a 0)), (1, .int x1), (2, .int x2), (3, .int x3)]) hx hb d_M_part_136 hl (by decide) rfl (fun ls hl => ?_)
              refine lv_aload_n hx hb d_M_part_138 rfl (lv_at hl 4 rfl) ?_
              refine lv_iload hx hb d_M_part_139 (lv_at hl 1 rfl) ?_
              refine lv_if_eq (tgt := 153) hx hb d_M_part_141 (by decide) (fun c_720 => ?_) (fun c_720 => ?_)
              · exact absurd c_720 (by decide)
              · refine lv_aload_n hx hb d_M_part_144 rfl (lv_at hl 4 rfl) ?_
                refine va_get (D := (dC, dI)) (ci := 4) (v := .int ((X 14 0) + 1)) (C := R_M) (T := F_M) (N := 39) hx hb hts i_M hown hK hP 0 rfl rfl 14 (by decide) (hts _ m_f_M_97) (fun _ h9 => h9) rfl d_M_part_145 ?_
                refine lv_iconst (v := 1) hx hb d_M_part_148 (by decide) ?_
                refine lv_iadd hx hb d_M_part_149 ?_
                refine lv_goto (tgt := 157) hx hb d_M_part_150 (by decide) ?_
                refine va_put (D := (dC, dI)) (ci := 4) (v := .int (((X 14 0) + 1) + 1)) (ty := .int) (C := R_M) (T := F_M) (N := 39) hx hb hts i_M t_M t_M_ok n_M hown hK hP hD hS 0 rfl rfl 14 (by decide) (hts _ m_f_M_97) (fun _ h9 => h9) rfl (by decide +kernel) rfl rfl (Nat.le_of_ble_eq_true rfl) d_M_part_157 (fun H locs hP hD hS => ?_)
                have hP : va_P (dC, dI) classes (w_M cA cZ a (.ref (a 8)) (upf (upf (upf (upf X 14 (fun _ => (((X 14 0) + 1) + 1))) 19 (fun _ => 0)) 20 (fun _ => 0)) 22 (fun _ => 0))) H := hP
                have hD : va_D A (w_M cA cZ a (.ref (a 8)) (upf (upf (upf (upf X 14 (fun _ => (((X 14 0) + 1) + 1))) 19 (fun _ => 0)) 20 (fun _ => 0)) 22 (fun _ => 0))) := hD
                exact join_160 (upf (upf (upf (upf X 14 (fun _ => (((X 14 0) + 1) + 1))) 19 (fun _ => 0)) 20 (fun _ => 0)) 22 (fun _ => 0)) 0 ((f_M_hereR (upf (upf (upf X 19 (fun _ => 0)) 20 (fun _ => 0)) 22 (fun _ => 0))) - 40) 1 H locs ls (by rw [f_M_partR, if_neg c_702, if_neg c_703, if_neg c_707, if_pos c_708, if_pos c_719]) (m_adv_trans (m_adv_step (hereR_gt c_703) hma) (m_adv_step (hereR_eq c_708 (by decide)) (m_adv_step (hereR_gt c_703) hma).1)).1 hmt hmk hP hD hS (lv_sub hl [4, 5, 6, 7, 3, 2, 0] rfl)
            · refine lv_iload hx hb d_M_part_97 (lv_at hl 0 rfl) ?_
              refine lv_if_ne (tgt := 131) hx hb d_M_part_99 (by decide) (fun c_721 => ?_) (fun c_721 => ?_)
              · refine lv_iconst (v := 1) hx hb d_M_part_131 (by decide) ?_
                refine lv_goto (tgt := 136) hx hb d_M_part_132 (by decide) ?_
                refine lv_istore (lv' := [(6, .int 1), (7, .int 1), (5, .int ((f_M_hereR (upf (upf (upf X 19 (fun _ => 0)) 20 (fun _ => 0)) 22 (fun _ => 0))) - 40)), (4, .int 0), (0, .ref (a 0)), (1, .int x1), (2, .int x2), (3, .int x3)]) hx hb d_M_part_136 hl (by decide) rfl (fun ls hl => ?_)
                refine lv_aload_n hx hb d_M_part_138 rfl (lv_at hl 4 rfl) ?_
                refine lv_iload hx hb d_M_part_139 (lv_at hl 1 rfl) ?_
                refine lv_if_eq (tgt := 153) hx hb d_M_part_141 (by decide) (fun c_722 => ?_) (fun c_722 => ?_)
                · exact absurd c_722 (by decide)
                · refine lv_aload_n hx hb d_M_part_144 rfl (lv_at hl 4 rfl) ?_
                  refine va_get (D := (dC, dI)) (ci := 4) (v := .int ((X 14 0) + 1)) (C := R_M) (T := F_M) (N := 39) hx hb hts i_M hown hK hP 0 rfl rfl 14 (by decide) (hts _ m_f_M_97) (fun _ h9 => h9) rfl d_M_part_145 ?_
                  refine lv_iconst (v := 1) hx hb d_M_part_148 (by decide) ?_
                  refine lv_iadd hx hb d_M_part_149 ?_
                  refine lv_goto (tgt := 157) hx hb d_M_part_150 (by decide) ?_
                  refine va_put (D := (dC, dI)) (ci := 4) (v := .int (((X 14 0) + 1) + 1)) (ty := .int) (C := R_M) (T := F_M) (N := 39) hx hb hts i_M t_M t_M_ok n_M hown hK hP hD hS 0 rfl rfl 14 (by decide) (hts _ m_f_M_97) (fun _ h9 => h9) rfl (by decide +kernel) rfl rfl (Nat.le_of_ble_eq_true rfl) d_M_part_157 (fun H locs hP hD hS => ?_)
                  have hP : va_P (dC, dI) classes (w_M cA cZ a (.ref (a 8)) (upf (upf (upf (upf X 14 (fun _ => (((X 14 0) + 1) + 1))) 19 (fun _ => 0)) 20 (fun _ => 0)) 22 (fun _ => 0))) H := hP
                  have hD : va_D A (w_M cA cZ a (.ref (a 8)) (upf (upf (upf (upf X 14 (fun _ => (((X 14 0) + 1) + 1))) 19 (fun _ => 0)) 20 (fun _ => 0)) 22 (fun _ => 0))) := hD
                  exact join_160 (upf (upf (upf (upf X 14 (fun _ => (((X 14 0) + 1) + 1))) 19 (fun _ => 0)) 20 (fun _ => 0)) 22 (fun _ => 0)) 0 ((f_M_hereR (upf (upf (upf X 19 (fun _ => 0)) 20 (fun _ => 0)) 22 (fun _ => 0))) - 40) 1 H locs ls (by rw [f_M_partR, if_neg c_702, if_neg c_703, if_neg c_707, if_pos c_708, if_neg c_719]) (m_adv_trans (m_adv_step (hereR_gt c_703) hma) (m_adv_step (hereR_eq c_708 (by decide)) (m_adv_step (hereR_gt c_703) hma).1)).1 hmt hmk hP hD hS (lv_sub hl [4, 5, 6, 7, 3, 2, 0] rfl)
              · exact absurd c_721 (by decide)
  · refine lv_iconst (v := 1) hx hb d_M_part_24 (by decide) ?_
    refine lv_goto (tgt := 29) hx hb d_M_part_25 (by decide) ?_
    refine lv_istore (lv' := [(4, .int 1), (0, .ref (a 0)), (1, .int x1), (2, .int x2), (3, .int x3)]) hx hb d_M_part_29 hl (by decide) rfl (fun ls hl => ?_)
    refine lv_aload_n hx hb d_M_part_31 rfl (lv_at hl 1 rfl) ?_
    refine nc_ro (va_runV (As := []) (rest := []) hfix (c_M_hereR l dC dI cA cZ a (upf (upf (upf X 19 (fun _ => 0)) 20 (fun _ => 0)) 22 (fun _ => 0)) hma) (k_M_104 hts hN ⟨Nat.le_of_ble_eq_true rfl, Nat.le_of_ble_eq_true rfl⟩) (nc_preVZ hK hN hP hD rfl rfl) rfl rfl hl.1 rfl (lv_room (Nat.le_of_ble_eq_true rfl)) d_M_part_32 ⟨Nat.zero_le _, Nat.zero_le _⟩) (fun r er => ?_)
    subst er
    refine lv_bipush (v := 40) hx hb d_M_part_35 (by decide) ?_
    refine lv_icmp_le (tgt := 50) hx hb d_M_part_37 (by decide) (fun c_723 => ?_) (fun c_723 => ?_)
    · refine lv_iconst (v := 0) hx hb d_M_part_50 (by decide) ?_
      refine lv_istore (lv' := [(5, .int 0), (4, .int 1), (0, .ref (a 0)), (1, .int x1), (2, .int x2), (3, .int x3)]) hx hb d_M_part_51 hl (by decide) rfl (fun ls hl => ?_)
      refine lv_iconst (v := 1) hx hb d_M_part_53 (by decide) ?_
      refine lv_istore (lv' := [(6, .int 1), (5, .int 0), (4, .int 1), (0, .ref (a 0)), (1, .int x1), (2, .int x2), (3, .int x3)]) hx hb d_M_part_54 hl (by decide) rfl (fun ls hl => ?_)
      refine lv_iload hx hb d_M_part_56 (lv_at hl 2 rfl) ?_
      refine lv_if_ne (tgt := 66) hx hb d_M_part_58 (by decide) (fun c_724 => ?_) (fun c_724 => ?_)
      · refine lv_aload_n hx hb d_M_part_66 rfl (lv_at hl 3 rfl) ?_
        refine lv_dup hx hb d_M_part_67 rfl ?_
        refine va_get (D := (dC, dI)) (ci := 4) (v := .int (X 14 0)) (C := R_M) (T := F_M) (N := 39) hx hb hts i_M hown hK hP 0 rfl rfl 14 (by decide) (hts _ m_f_M_97) (fun _ h9 => h9) rfl d_M_part_68 ?_
        refine lv_iconst (v := 1) hx hb d_M_part_71 (by decide) ?_
        refine lv_iadd hx hb d_M_part_72 ?_
        refine va_put (D := (dC, dI)) (ci := 4) (v := .int ((X 14 0) + 1)) (ty := .int) (C := R_M) (T := F_M) (N := 39) hx hb hts i_M t_M t_M_ok n_M hown hK hP hD hS 0 rfl rfl 14 (by decide) (hts _ m_f_M_97) (fun _ h9 => h9) rfl (by decide +kernel) rfl rfl (Nat.le_of_ble_eq_true rfl) d_M_part_73 (fun H locs hP hD hS => ?_)
        have hP : va_P (dC, dI) classes (w_M cA cZ a (.ref (a 8)) (upf (upf (upf (upf X 14 (fun _ => ((X 14 0) + 1))) 19 (fun _ => 0)) 20 (fun _ => 0)) 22 (fun _ => 0))) H := hP
        have hD : va_D A (w_M cA cZ a (.ref (a 8)) (upf (upf (upf (upf X 14 (fun _ => ((X 14 0) + 1))) 19 (fun _ => 0)) 20 (fun _ => 0)) 22 (fun _ => 0))) := hD
        refine lv_aload_n hx hb d_M_part_76 rfl (lv_at hl 3 rfl) ?_
        refine nc_ro (va_runV (As := []) (rest := []) hfix (c_M_hereR l dC dI cA cZ a (upf (upf (upf (upf X 14 (fun _ => ((X 14 0) + 1))) 19 (fun _ => 0)) 20 (fun _ => 0)) 22 (fun _ => 0)) (m_adv_step (hereR_eq c_702 (by decide)) hma).1) (k_M_104 hts hN ⟨Nat.le_of_ble_eq_true rfl, Nat.le_of_ble_eq_true rfl⟩) (nc_preVZ hK hN hP hD rfl rfl) rfl rfl hl.1 rfl (lv_room (Nat.le_of_ble_eq_true rfl)) d_M_part_77 ⟨Nat.zero_le _, Nat.zero_le _⟩) (fun r er => ?_)
        subst er
        refine lv_bipush (v := 37) hx hb d_M_part_80 (by decide) ?_
        refine lv_icmp_ne (tgt := 89) hx hb d_M_part_82 (by decide) (fun c_725 => ?_) (fun c_725 => ?_)
        · refine lv_iconst (v := 0) hx hb d_M_part_89 (by decide) ?_
          refine lv_istore (lv' := [(7, .int 0), (6, .int 1), (5, .int 0), (4, .int 1), (0, .ref (a 0)), (1, .int x1), (2, .int x2), (3, .int x3)]) hx hb d_M_part_90 hl (by decide) rfl (fun ls hl => ?_)
          refine lv_iload hx hb d_M_part_92 (lv_at hl 2 rfl) ?_
          refine lv_if_gt (tgt := 131) hx hb d_M_part_94 (by decide) (fun c_726 => ?_) (fun c_726 => ?_)
          · exact absurd c_726 (by decide)
          · refine lv_iload hx hb d_M_part_97 (lv_at hl 0 rfl) ?_
            refine lv_if_ne (tgt := 131) hx hb d_M_part_99 (by decide) (fun c_727 => ?_) (fun c_727 => ?_)
            · exact absurd c_727 (by decide)
            · refine lv_aload_n hx hb d_M_part_102 rfl (lv_at hl 4 rfl) ?_
              refine va_get (D := (dC, dI)) (ci := 4) (v := .int ((X 14 0) + 1)) (C := R_M) (T := F_M) (N := 39) hx hb hts i_M hown hK hP 0 rfl rfl 14 (by decide) (hts _ m_f_M_97) (fun _ h9 => h9) rfl d_M_part_103 ?_
              refine lv_aload_n hx hb d_M_part_106 rfl (lv_at hl 4 rfl) ?_
              refine va_get (D := (dC, dI)) (ci := 4) (v := .int (X 13 0)) (C := R_M) (T := F_M) (N := 39) hx hb hts i_M hown hK hP 0 rfl rfl 13 (by decide) (hts _ m_f_M_94) (fun _ h9 => h9) rfl d_M_part_107 ?_
              refine lv_icmp_ge (tgt := 135) hx hb d_M_part_110 (by decide) (fun c_728 => ?_) (fun c_728 => ?_)
              · refine lv_iconst (v := 0) hx hb d_M_part_135 (by decide) ?_
                refine lv_istore (lv' := [(6, .int 0), (7, .int 0), (5, .int 0), (4, .int 1), (0, .ref (a 0)), (1, .int x1), (2, .int x2), (3, .int x3)]) hx hb d_M_part_136 hl (by decide) rfl (fun ls hl => ?_)
                refine lv_aload_n hx hb d_M_part_138 rfl (lv_at hl 4 rfl) ?_
                refine lv_iload hx hb d_M_part_139 (lv_at hl 1 rfl) ?_
                refine lv_if_eq (tgt := 153) hx hb d_M_part_141 (by decide) (fun c_729 => ?_) (fun c_729 => ?_)
                · refine lv_aload_n hx hb d_M_part_153 rfl (lv_at hl 4 rfl) ?_
                  refine va_get (D := (dC, dI)) (ci := 4) (v := .int ((X 14 0) + 1)) (C := R_M) (T := F_M) (N := 39) hx hb hts i_M hown hK hP 0 rfl rfl 14 (by decide) (hts _ m_f_M_97) (fun _ h9 => h9) rfl d_M_part_154 ?_
                  refine va_put (D := (dC, dI)) (ci := 4) (v := .int ((X 14 0) + 1)) (ty := .int) (C := R_M) (T := F_M) (N := 39) hx hb hts i_M t_M t_M_ok n_M hown hK hP hD hS 0 rfl rfl 14 (by decide) (hts _ m_f_M_97) (fun _ h9 => h9) rfl (by decide +kernel) rfl rfl (Nat.le_of_ble_eq_true rfl) d_M_part_157 (fun H locs hP hD hS => ?_)
                  have hP : va_P (dC, dI) classes (w_M cA cZ a (.ref (a 8)) (upf (upf (upf (upf X 14 (fun _ => ((X 14 0) + 1))) 19 (fun _ => 0)) 20 (fun _ => 0)) 22 (fun _ => 0))) H := hP
                  have hD : va_D A (w_M cA cZ a (.ref (a 8)) (upf (upf (upf (upf X 14 (fun _ => ((X 14 0) + 1))) 19 (fun _ => 0)) 20 (fun _ => 0)) 22 (fun _ => 0))) := hD
                  exact join_160 (upf (upf (upf (upf X 14 (fun _ => ((X 14 0) + 1))) 19 (fun _ => 0)) 20 (fun _ => 0)) 22 (fun _ => 0)) 1 0 0 H locs ls (by rw [f_M_partR, if_pos c_702, if_pos c_723, if_neg c_725, if_pos c_728]) (m_adv_step (hereR_eq c_702 (by decide)) hma).1 hmt hmk hP hD hS (lv_sub hl [4, 5, 6, 7, 3, 2, 0] rfl)
                · exact absurd c_729 (by decide)
              · refine lv_aload_n hx hb d_M_part_113 rfl (lv_at hl 4 rfl) ?_
                refine nc_ro (va_runV (As := []) (rest := []) hfix (c_M_hereR l dC dI cA cZ a (upf (upf (upf (upf X 14 (fun _ => ((X 14 0) + 1))) 19 (fun _ => 0)) 20 (fun _ => 0)) 22 (fun _ => 0)) (m_adv_step (hereR_eq c_702 (by decide)) hma).1) (k_M_104 hts hN ⟨Nat.le_of_ble_eq_true rfl, Nat.le_of_ble_eq_true rfl⟩) (nc_preVZ hK hN hP hD rfl rfl) rfl rfl hl.1 rfl (lv_room (Nat.le_of_ble_eq_true rfl)) d_M_part_114 ⟨Nat.zero_le _, Nat.zero_le _⟩) (fun r er => ?_)
                subst er
                refine lv_bipush (v := 35) hx hb d_M_part_117 (by decide) ?_
                refine lv_icmp_eq (tgt := 135) hx hb d_M_part_119 (by decide) (fun c_730 => ?_) (fun c_730 => ?_)
                · refine lv_iconst (v := 0) hx hb d_M_part_135 (by decide) ?_
                  refine lv_istore (lv' := [(6, .int 0), (7, .int 0), (5, .int 0), (4, .int 1), (0, .ref (a 0)), (1, .int x1), (2, .int x2), (3, .int x3)]) hx hb d_M_part_136 hl (by decide) rfl (fun ls hl => ?_)
                  refine lv_aload_n hx hb d_M_part_138 rfl (lv_at hl 4 rfl) ?_
                  refine lv_iload hx hb d_M_part_139 (lv_at hl 1 rfl) ?_
                  refine lv_if_eq (tgt := 153) hx hb d_M_part_141 (by decide) (fun c_731 => ?_) (fun c_731 => ?_)
                  · refine lv_aload_n hx hb d_M_part_153 rfl (lv_at hl 4 rfl) ?_
                    refine va_get (D := (dC, dI)) (ci := 4) (v := .int ((X 14 0) + 1)) (C := R_M) (T := F_M) (N := 39) hx hb hts i_M hown hK hP 0 rfl rfl 14 (by decide) (hts _ m_f_M_97) (fun _ h9 => h9) rfl d_M_part_154 ?_
                    refine va_put (D := (dC, dI)) (ci := 4) (v := .int ((X 14 0) + 1)) (ty := .int) (C := R_M) (T := F_M) (N := 39) hx hb hts i_M t_M t_M_ok n_M hown hK hP hD hS 0 rfl rfl 14 (by decide) (hts _ m_f_M_97) (fun _ h9 => h9) rfl (by decide +kernel) rfl rfl (Nat.le_of_ble_eq_true rfl) d_M_part_157 (fun H locs hP hD hS => ?_)
                    have hP : va_P (dC, dI) classes (w_M cA cZ a (.ref (a 8)) (upf (upf (upf (upf X 14 (fun _ => ((X 14 0) + 1))) 19 (fun _ => 0)) 20 (fun _ => 0)) 22 (fun _ => 0))) H := hP
                    have hD : va_D A (w_M cA cZ a (.ref (a 8)) (upf (upf (upf (upf X 14 (fun _ => ((X 14 0) + 1))) 19 (fun _ => 0)) 20 (fun _ => 0)) 22 (fun _ => 0))) := hD
                    exact join_160 (upf (upf (upf (upf X 14 (fun _ => ((X 14 0) + 1))) 19 (fun _ => 0)) 20 (fun _ => 0)) 22 (fun _ => 0)) 1 0 0 H locs ls (by rw [f_M_partR, if_pos c_702, if_pos c_723, if_neg c_725, if_neg c_728, if_pos c_730]) (m_adv_step (hereR_eq c_702 (by decide)) hma).1 hmt hmk hP hD hS (lv_sub hl [4, 5, 6, 7, 3, 2, 0] rfl)
                  · exact absurd c_731 (by decide)
                · refine lv_aload_n hx hb d_M_part_122 rfl (lv_at hl 4 rfl) ?_
                  refine nc_ro (va_runV (As := []) (rest := []) hfix (c_M_hereR l dC dI cA cZ a (upf (upf (upf (upf X 14 (fun _ => ((X 14 0) + 1))) 19 (fun _ => 0)) 20 (fun _ => 0)) 22 (fun _ => 0)) (m_adv_step (hereR_eq c_702 (by decide)) hma).1) (k_M_104 hts hN ⟨Nat.le_of_ble_eq_true rfl, Nat.le_of_ble_eq_true rfl⟩) (nc_preVZ hK hN hP hD rfl rfl) rfl rfl hl.1 rfl (lv_room (Nat.le_of_ble_eq_true rfl)) d_M_part_123 ⟨Nat.zero_le _, Nat.zero_le _⟩) (fun r er => ?_)
                  subst er
                  refine lv_bipush (v := 36) hx hb d_M_part_126 (by decide) ?_
                  refine lv_icmp_eq (tgt := 135) hx hb d_M_part_128 (by decide) (fun c_732 => ?_) (fun c_732 => ?_)
                  · refine lv_iconst (v := 0) hx hb d_M_part_135 (by decide) ?_
                    refine lv_istore (lv' := [(6, .int 0), (7, .int 0), (5, .int 0), (4, .int 1), (0, .ref (a 0)), (1, .int x1), (2, .int x2), (3, .int x3)]) hx hb d_M_part_136 hl (by decide) rfl (fun ls hl => ?_)
                    refine lv_aload_n hx hb d_M_part_138 rfl (lv_at hl 4 rfl) ?_
                    refine lv_iload hx hb d_M_part_139 (lv_at hl 1 rfl) ?_
                    refine lv_if_eq (tgt := 153) hx hb d_M_part_141 (by decide) (fun c_733 => ?_) (fun c_733 => ?_)
                    · refine lv_aload_n hx hb d_M_part_153 rfl (lv_at hl 4 rfl) ?_
                      refine va_get (D := (dC, dI)) (ci := 4) (v := .int ((X 14 0) + 1)) (C := R_M) (T := F_M) (N := 39) hx hb hts i_M hown hK hP 0 rfl rfl 14 (by decide) (hts _ m_f_M_97) (fun _ h9 => h9) rfl d_M_part_154 ?_
                      refine va_put (D := (dC, dI)) (ci := 4) (v := .int ((X 14 0) + 1)) (ty := .int) (C := R_M) (T := F_M) (N := 39) hx hb hts i_M t_M t_M_ok n_M hown hK hP hD hS 0 rfl rfl 14 (by decide) (hts _ m_f_M_97) (fun _ h9 => h9) rfl (by decide +kernel) rfl rfl (Nat.le_of_ble_eq_true rfl) d_M_part_157 (fun H locs hP hD hS => ?_)
                      have hP : va_P (dC, dI) classes (w_M cA cZ a (.ref (a 8)) (upf (upf (upf (upf X 14 (fun _ => ((X 14 0) + 1))) 19 (fun _ => 0)) 20 (fun _ => 0)) 22 (fun _ => 0))) H := hP
                      have hD : va_D A (w_M cA cZ a (.ref (a 8)) (upf (upf (upf (upf X 14 (fun _ => ((X 14 0) + 1))) 19 (fun _ => 0)) 20 (fun _ => 0)) 22 (fun _ => 0))) := hD
                      exact join_160 (upf (upf (upf (upf X 14 (fun _ => ((X 14 0) + 1))) 19 (fun _ => 0)) 20 (fun _ => 0)) 22 (fun _ => 0)) 1 0 0 H locs ls (by rw [f_M_partR, if_pos c_702, if_pos c_723, if_neg c_725, if_neg c_728, if_neg c_730, if_pos c_732]) (m_adv_step (hereR_eq c_702 (by decide)) hma).1 hmt hmk hP hD hS (lv_sub hl [4, 5, 6, 7, 3, 2, 0] rfl)
                    · exact absurd c_733 (by decide)
                  · refine lv_iconst (v := 1) hx hb d_M_part_131 (by decide) ?_
                    refine lv_goto (tgt := 136) hx hb d_M_part_132 (by decide) ?_
                    refine lv_istore (lv' := [(6, .int 1), (7, .int 0), (5, .int 0), (4, .int 1), (0, .ref (a 0)), (1, .int x1), (2, .int x2), (3, .int x3)]) hx hb d_M_part_136 hl (by decide) rfl (fun ls hl => ?_)
                    refine lv_aload_n hx hb d_M_part_138 rfl (lv_at hl 4 rfl) ?_
                    refine lv_iload hx hb d_M_part_139 (lv_at hl 1 rfl) ?_
                    refine lv_if_eq (tgt := 153) hx hb d_M_part_141 (by decide) (fun c_734 => ?_) (fun c_734 => ?_)
                    · refine lv_aload_n hx hb d_M_part_153 rfl (lv_at hl 4 rfl) ?_
                      refine va_get (D := (dC, dI)) (ci := 4) (v := .int ((X 14 0) + 1)) (C := R_M) (T := F_M) (N := 39) hx hb hts i_M hown hK hP 0 rfl rfl 14 (by decide) (hts _ m_f_M_97) (fun _ h9 => h9) rfl d_M_part_154 ?_
                      refine va_put (D := (dC, dI)) (ci := 4) (v := .int ((X 14 0) + 1)) (ty := .int) (C := R_M) (T := F_M) (N := 39) hx hb hts i_M t_M t_M_ok n_M hown hK hP hD hS 0 rfl rfl 14 (by decide) (hts _ m_f_M_97) (fun _ h9 => h9) rfl (by decide +kernel) rfl rfl (Nat.le_of_ble_eq_true rfl) d_M_part_157 (fun H locs hP hD hS => ?_)
                      have hP : va_P (dC, dI) classes (w_M cA cZ a (.ref (a 8)) (upf (upf (upf (upf X 14 (fun _ => ((X 14 0) + 1))) 19 (fun _ => 0)) 20 (fun _ => 0)) 22 (fun _ => 0))) H := hP
                      have hD : va_D A (w_M cA cZ a (.ref (a 8)) (upf (upf (upf (upf X 14 (fun _ => ((X 14 0) + 1))) 19 (fun _ => 0)) 20 (fun _ => 0)) 22 (fun _ => 0))) := hD
                      exact join_160 (upf (upf (upf (upf X 14 (fun _ => ((X 14 0) + 1))) 19 (fun _ => 0)) 20 (fun _ => 0)) 22 (fun _ => 0)) 1 0 1 H locs ls (by rw [f_M_partR, if_pos c_702, if_pos c_723, if_neg c_725, if_neg c_728, if_neg c_730, if_neg c_732]) (m_adv_step (hereR_eq c_702 (by decide)) hma).1 hmt hmk hP hD hS (lv_sub hl [4, 5, 6, 7, 3, 2, 0] rfl)
                    · exact absurd c_734 (by decide)
        · refine lv_iconst (v := 1) hx hb d_M_part_85 (by decide) ?_
          refine lv_goto (tgt := 90) hx hb d_M_part_86 (by decide) ?_
          refine lv_istore (lv' := [(7, .int 1), (6, .int 1), (5, .int 0), (4, .int 1), (0, .ref (a 0)), (1, .int x1), (2, .int x2), (3, .int x3)]) hx hb d_M_part_90 hl (by decide) rfl (fun ls hl => ?_)
          refine lv_iload hx hb d_M_part_92 (lv_at hl 2 rfl) ?_
          refine lv_if_gt (tgt := 131) hx hb d_M_part_94 (by decide) (fun c_735 => ?_) (fun c_735 => ?_)
          · exact absurd c_735 (by decide)
          · refine lv_iload hx hb d_M_part_97 (lv_at hl 0 rfl) ?_
            refine lv_if_ne (tgt := 131) hx hb d_M_part_99 (by decide) (fun c_736 => ?_) (fun c_736 => ?_)
            · refine lv_iconst (v := 1) hx hb d_M_part_131 (by decide) ?_
              refine lv_goto (tgt := 136) hx hb d_M_part_132 (by decide) ?_
              refine lv_istore (lv' := [(6, .int 1), (7, .int 1), (5, .int 0), (4, .int 1), (0, .ref (a 0)), (1, .int x1), (2, .int x2), (3, .int x3)]) hx hb d_M_part_136 hl (by decide) rfl (fun ls hl => ?_)
              refine lv_aload_n hx hb d_M_part_138 rfl (lv_at hl 4 rfl) ?_
              refine lv_iload hx hb d_M_part_139 (lv_at hl 1 rfl) ?_
              refine lv_if_eq (tgt := 153) hx hb d_M_part_141 (by decide) (fun c_737 => ?_) (fun c_737 => ?_)
              · exact absurd c_737 (by decide)
              · refine lv_aload_n hx hb d_M_part_144 rfl (lv_at hl 4 rfl) ?_
                refine va_get (D := (dC, dI)) (ci := 4) (v := .int ((X 14 0) + 1)) (C := R_M) (T := F_M) (N := 39) hx hb hts i_M hown hK hP 0 rfl rfl 14 (by decide) (hts _ m_f_M_97) (fun _ h9 => h9) rfl d_M_part_145 ?_
                refine lv_iconst (v := 1) hx hb d_M_part_148 (by decide) ?_
                refine lv_iadd hx hb d_M_part_149 ?_
                refine lv_goto (tgt := 157) hx hb d_M_part_150 (by decide) ?_
                refine va_put (D := (dC, dI)) (ci := 4) (v := .int (((X 14 0) + 1) + 1)) (ty := .int) (C := R_M) (T := F_M) (N := 39) hx hb hts i_M t_M t_M_ok n_M hown hK hP hD hS 0 rfl rfl 14 (by decide) (hts _ m_f_M_97) (fun _ h9 => h9) rfl (by decide +kernel) rfl rfl (Nat.le_of_ble_eq_true rfl) d_M_part_157 (fun H locs hP hD hS => ?_)
                have hP : va_P (dC, dI) classes (w_M cA cZ a (.ref (a 8)) (upf (upf (upf (upf X 14 (fun _ => (((X 14 0) + 1) + 1))) 19 (fun _ => 0)) 20 (fun _ => 0)) 22 (fun _ => 0))) H := hP
                have hD : va_D A (w_M cA cZ a (.ref (a 8)) (upf (upf (upf (upf X 14 (fun _ => (((X 14 0) + 1) + 1))) 19 (fun _ => 0)) 20 (fun _ => 0)) 22 (fun _ => 0))) := hD
                exact join_160 (upf (upf (upf (upf X 14 (fun _ => (((X 14 0) + 1) + 1))) 19 (fun _ => 0)) 20 (fun _ => 0)) 22 (fun _ => 0)) 1 0 1 H locs ls (by rw [f_M_partR, if_pos c_702, if_pos c_723, if_pos c_725]) (m_adv_trans (m_adv_step (hereR_eq c_702 (by decide)) hma) (m_adv_step (hereR_eq c_725 (by decide)) (m_adv_step (hereR_eq c_702 (by decide)) hma).1)).1 hmt hmk hP hD hS (lv_sub hl [4, 5, 6, 7, 3, 2, 0] rfl)
            · exact absurd c_736 (by decide)
      · exact absurd c_724 (by decide)
    · refine lv_aload_n hx hb d_M_part_40 rfl (lv_at hl 1 rfl) ?_
      refine nc_ro (va_runV (As := []) (rest := []) hfix (c_M_hereR l dC dI cA cZ a (upf (upf (upf X 19 (fun _ => 0)) 20 (fun _ => 0)) 22 (fun _ => 0)) hma) (k_M_104 hts hN ⟨Nat.le_of_ble_eq_true rfl, Nat.le_of_ble_eq_true rfl⟩) (nc_preVZ hK hN hP hD rfl rfl) rfl rfl hl.1 rfl (lv_room (Nat.le_of_ble_eq_true rfl)) d_M_part_41 ⟨Nat.zero_le _, Nat.zero_le _⟩) (fun r er => ?_)
      subst er
      refine lv_bipush (v := 40) hx hb d_M_part_44 (by decide) ?_
      refine lv_isub hx hb d_M_part_46 ?_
      refine lv_goto (tgt := 51) hx hb d_M_part_47 (by decide) ?_
      refine lv_istore (lv' := [(5, .int ((f_M_hereR (upf (upf (upf X 19 (fun _ => 0)) 20 (fun _ => 0)) 22 (fun _ => 0))) - 40)), (4, .int 1), (0, .ref (a 0)), (1, .int x1), (2, .int x2), (3, .int x3)]) hx hb d_M_part_51 hl (by decide) rfl (fun ls hl => ?_)
      refine lv_iconst (v := 1) hx hb d_M_part_53 (by decide) ?_
      refine lv_istore (lv' := [(6, .int 1), (5, .int ((f_M_hereR (upf (upf (upf X 19 (fun _ => 0)) 20 (fun _ => 0)) 22 (fun _ => 0))) - 40)), (4, .int 1), (0, .ref (a 0)), (1, .int x1), (2, .int x2), (3, .int x3)]) hx hb d_M_part_54 hl (by decide) rfl (fun ls hl => ?_)
      refine lv_iload hx hb d_M_part_56 (lv_at hl 2 rfl) ?_
      refine lv_if_ne (tgt := 66) hx hb d_M_part_58 (by decide) (fun c_738 => ?_) (fun c_738 => ?_)
      · refine lv_aload_n hx hb d_M_part_66 rfl (lv_at hl 3 rfl) ?_
        refine lv_dup hx hb d_M_part_67 rfl ?_
        refine va_get (D := (dC, dI)) (ci := 4) (v := .int (X 14 0)) (C := R_M) (T := F_M) (N := 39) hx hb hts i_M hown hK hP 0 rfl rfl 14 (by decide) (hts _ m_f_M_97) (fun _ h9 => h9) rfl d_M_part_68 ?_
        refine lv_iconst (v := 1) hx hb d_M_part_71 (by decide) ?_
        refine lv_iadd hx hb d_M_part_72 ?_
        refine va_put (D := (dC, dI)) (ci := 4) (v := .int ((X 14 0) + 1)) (ty := .int) (C := R_M) (T := F_M) (N := 39) hx hb hts i_M t_M t_M_ok n_M hown hK hP hD hS 0 rfl rfl 14 (by decide) (hts _ m_f_M_97) (fun _ h9 => h9) rfl (by decide +kernel) rfl rfl (Nat.le_of_ble_eq_true rfl) d_M_part_73 (fun H locs hP hD hS => ?_)
        have hP : va_P (dC, dI) classes (w_M cA cZ a (.ref (a 8)) (upf (upf (upf (upf X 14 (fun _ => ((X 14 0) + 1))) 19 (fun _ => 0)) 20 (fun _ => 0)) 22 (fun _ => 0))) H := hP
        have hD : va_D A (w_M cA cZ a (.ref (a 8)) (upf (upf (upf (upf X 14 (fun _ => ((X 14 0) + 1))) 19 (fun _ => 0)) 20 (fun _ => 0)) 22 (fun _ => 0))) := hD
        refine lv_aload_n hx hb d_M_part_76 rfl (lv_at hl 3 rfl) ?_
        refine nc_ro (va_runV (As := []) (rest := []) hfix (c_M_hereR l dC dI cA cZ a (upf (upf (upf (upf X 14 (fun _ => ((X 14 0) + 1))) 19 (fun _ => 0)) 20 (fun _ => 0)) 22 (fun _ => 0)) (m_adv_step (hereR_gt c_723) hma).1) (k_M_104 hts hN ⟨Nat.le_of_ble_eq_true rfl, Nat.le_of_ble_eq_true rfl⟩) (nc_preVZ hK hN hP hD rfl rfl) rfl rfl hl.1 rfl (lv_room (Nat.le_of_ble_eq_true rfl)) d_M_part_77 ⟨Nat.zero_le _, Nat.zero_le _⟩) (fun r er => ?_)
        subst er
        refine lv_bipush (v := 37) hx hb d_M_part_80 (by decide) ?_
        refine lv_icmp_ne (tgt := 89) hx hb d_M_part_82 (by decide) (fun c_739 => ?_) (fun c_739 => ?_)
        · refine lv_iconst (v := 0) hx hb d_M_part_89 (by decide) ?_
          refine lv_istore (lv' := [(7, .int 0), (6, .int 1), (5, .int ((f_M_hereR (upf (upf (upf X 19 (fun _ => 0)) 20 (fun _ => 0)) 22 (fun _ => 0))) - 40)), (4, .int 1), (0, .ref (a 0)), (1, .int x1), (2, .int x2), (3, .int x3)]) hx hb d_M_part_90 hl (by decide) rfl (fun ls hl => ?_)
          refine lv_iload hx hb d_M_part_92 (lv_at hl 2 rfl) ?_
          refine lv_if_gt (tgt := 131) hx hb d_M_part_94 (by decide) (fun c_740 => ?_) (fun c_740 => ?_)
          · refine lv_iconst (v := 1) hx hb d_M_part_131 (by decide) ?_
            refine lv_goto (tgt := 136) hx hb d_M_part_132 (by decide) ?_
            refine lv_istore (lv' := [(6, .int 1), (7, .int 0), (5, .int ((f_M_hereR (upf (upf (upf X 19 (fun _ => 0)) 20 (fun _ => 0)) 22 (fun _ => 0))) - 40)), (4, .int 1), (0, .ref (a 0)), (1, .int x1), (2, .int x2), (3, .int x3)]) hx hb d_M_part_136 hl (by decide) rfl (fun ls hl => ?_)
            refine lv_aload_n hx hb d_M_part_138 rfl (lv_at hl 4 rfl) ?_
            refine lv_iload hx hb d_M_part_139 (lv_at hl 1 rfl) ?_
            refine lv_if_eq (tgt := 153) hx hb d_M_part_141 (by decide) (fun c_741 => ?_) (fun c_741 => ?_)
            · refine lv_aload_n hx hb d_M_part_153 rfl (lv_at hl 4 rfl) ?_
              refine va_get (D := (dC, dI)) (ci := 4) (v := .int ((X 14 0) + 1)) (C := R_M) (T := F_M) (N := 39) hx hb hts i_M hown hK hP 0 rfl rfl 14 (by decide) (hts _ m_f_M_97) (fun _ h9 => h9) rfl d_M_part_154 ?_
              refine va_put (D := (dC, dI)) (ci := 4) (v := .int ((X 14 0) + 1)) (ty := .int) (C := R_M) (T := F_M) (N := 39) hx hb hts i_M t_M t_M_ok n_M hown hK hP hD hS 0 rfl rfl 14 (by decide) (hts _ m_f_M_97) (fun _ h9 => h9) rfl (by decide +kernel) rfl rfl (Nat.le_of_ble_eq_true rfl) d_M_part_157 (fun H locs hP hD hS => ?_)
              have hP : va_P (dC, dI) classes (w_M cA cZ a (.ref (a 8)) (upf (upf (upf (upf X 14 (fun _ => ((X 14 0) + 1))) 19 (fun _ => 0)) 20 (fun _ => 0)) 22 (fun _ => 0))) H := hP
              have hD : va_D A (w_M cA cZ a (.ref (a 8)) (upf (upf (upf (upf X 14 (fun _ => ((X 14 0) + 1))) 19 (fun _ => 0)) 20 (fun _ => 0)) 22 (fun _ => 0))) := hD
              exact join_160 (upf (upf (upf (upf X 14 (fun _ => ((X 14 0) + 1))) 19 (fun _ => 0)) 20 (fun _ => 0)) 22 (fun _ => 0)) 1 ((f_M_hereR (upf (upf (upf X 19 (fun _ => 0)) 20 (fun _ => 0)) 22 (fun _ => 0))) - 40) 1 H locs ls (by rw [f_M_partR, if_pos c_702, if_neg c_723, if_neg c_739, if_pos c_740]) (m_adv_step (hereR_gt c_723) hma).1 hmt hmk hP hD hS (lv_sub hl [4, 5, 6, 7, 3, 2, 0] rfl)
            · exact absurd c_741 (by decide)
          · refine lv_iload hx hb d_M_part_97 (lv_at hl 0 rfl) ?_
            refine lv_if_ne (tgt := 131) hx hb d_M_part_99 (by decide) (fun c_742 => ?_) (fun c_742 => ?_)
            · exact absurd c_742 (by decide)
            · refine lv_aload_n hx hb d_M_part_102 rfl (lv_at hl 4 rfl) ?_
              refine va_get (D := (dC, dI)) (ci := 4) (v := .int ((X 14 0) + 1)) (C := R_M) (T := F_M) (N := 39) hx hb hts i_M hown hK hP 0 rfl rfl 14 (by decide) (hts _ m_f_M_97) (fun _ h9 => h9) rfl d_M_part_103 ?_
              refine lv_aload_n hx hb d_M_part_106 rfl (lv_at hl 4 rfl) ?_
              refine va_get (D := (dC, dI)) (ci := 4) (v := .int (X 13 0)) (C := R_M) (T := F_M) (N := 39) hx hb hts i_M hown hK hP 0 rfl rfl 13 (by decide) (hts _ m_f_M_94) (fun _ h9 => h9) rfl d_M_part_107 ?_
              refine lv_icmp_ge (tgt := 135) hx hb d_M_part_110 (by decide) (fun c_743 => ?_) (fun c_743 => ?_)
              · refine lv_iconst (v := 0) hx hb d_M_part_135 (by decide) ?_
                refine lv_istore (lv' := [(6, .int 0), (7, .int 0), (5, .int ((f_M_hereR (upf (upf (upf X 19 (fun _ => 0)) 20 (fun _ => 0)) 22 (fun _ => 0))) - 40)), (4, .int 1), (0, .ref (a 0)), (1, .int x1), (2, .int x2), (3, .int x3)]) hx hb d_M_part_136 hl (by decide) rfl (fun ls hl => ?_)
                refine lv_aload_n hx hb d_M_part_138 rfl (lv_at hl 4 rfl) ?_
                refine lv_iload hx hb d_M_part_139 (lv_at hl 1 rfl) ?_
                refine lv_if_eq (tgt := 153) hx hb d_M_part_141 (by decide) (fun c_744 => ?_) (fun c_744 => ?_)
                · refine lv_aload_n hx hb d_M_part_153 rfl (lv_at hl 4 rfl) ?_
                  refine va_get (D := (dC, dI)) (ci := 4) (v := .int ((X 14 0) + 1)) (C := R_M) (T := F_M) (N := 39) hx hb hts i_M hown hK hP 0 rfl rfl 14 (by decide) (hts _ m_f_M_97) (fun _ h9 => h9) rfl d_M_part_154 ?_
                  refine va_put (D := (dC, dI)) (ci := 4) (v := .int ((X 14 0) + 1)) (ty := .int) (C := R_M) (T := F_M) (N := 39) hx hb hts i_M t_M t_M_ok n_M hown hK hP hD hS 0 rfl rfl 14 (by decide) (hts _ m_f_M_97) (fun _ h9 => h9) rfl (by decide +kernel) rfl rfl (Nat.le_of_ble_eq_true rfl) d_M_part_157 (fun H locs hP hD hS => ?_)
                  have hP : va_P (dC, dI) classes (w_M cA cZ a (.ref (a 8)) (upf (upf (upf (upf X 14 (fun _ => ((X 14 0) + 1))) 19 (fun _ => 0)) 20 (fun _ => 0)) 22 (fun _ => 0))) H := hP
                  have hD : va_D A (w_M cA cZ a (.ref (a 8)) (upf (upf (upf (upf X 14 (fun _ => ((X 14 0) + 1))) 19 (fun _ => 0)) 20 (fun _ => 0)) 22 (fun _ => 0))) := hD
                  exact join_160 (upf (upf (upf (upf X 14 (fun _ => ((X 14 0) + 1))) 19 (fun _ => 0)) 20 (fun _ => 0)) 22 (fun _ => 0)) 1 ((f_M_hereR (upf (upf (upf X 19 (fun _ => 0)) 20 (fun _ => 0)) 22 (fun _ => 0))) - 40) 0 H locs ls (by rw [f_M_partR, if_pos c_702, if_neg c_723, if_neg c_739, if_neg c_740, if_pos c_743]) (m_adv_step (hereR_gt c_723) hma).1 hmt hmk hP hD hS (lv_sub hl [4, 5, 6, 7, 3, 2, 0] rfl)
                · exact absurd c_744 (by decide)
              · refine lv_aload_n hx hb d_M_part_113 rfl (lv_at hl 4 rfl) ?_
                refine nc_ro (va_runV (As := []) (rest := []) hfix (c_M_hereR l dC dI cA cZ a (upf (upf (upf (upf X 14 (fun _ => ((X 14 0) + 1))) 19 (fun _ => 0)) 20 (fun _ => 0)) 22 (fun _ => 0)) (m_adv_step (hereR_gt c_723) hma).1) (k_M_104 hts hN ⟨Nat.le_of_ble_eq_true rfl, Nat.le_of_ble_eq_true rfl⟩) (nc_preVZ hK hN hP hD rfl rfl) rfl rfl hl.1 rfl (lv_room (Nat.le_of_ble_eq_true rfl)) d_M_part_114 ⟨Nat.zero_le _, Nat.zero_le _⟩) (fun r er => ?_)
                subst er
                refine lv_bipush (v := 35) hx hb d_M_part_117 (by decide) ?_
                refine lv_icmp_eq (tgt := 135) hx hb d_M_part_119 (by decide) (fun c_745 => ?_) (fun c_745 => ?_)
                · refine lv_iconst (v := 0) hx hb d_M_part_135 (by decide) ?_
                  refine lv_istore (lv' := [(6, .int 0), (7, .int 0), (5, .int ((f_M_hereR (upf (upf (upf X 19 (fun _ => 0)) 20 (fun _ => 0)) 22 (fun _ => 0))) - 40)), (4, .int 1), (0, .ref (a 0)), (1, .int x1), (2, .int x2), (3, .int x3)]) hx hb d_M_part_136 hl (by decide) rfl (fun ls hl => ?_)
                  refine lv_aload_n hx hb d_M_part_138 rfl (lv_at hl 4 rfl) ?_
                  refine lv_iload hx hb d_M_part_139 (lv_at hl 1 rfl) ?_
                  refine lv_if_eq (tgt := 153) hx hb d_M_part_141 (by decide) (fun c_746 => ?_) (fun c_746 => ?_)
                  · refine lv_aload_n hx hb d_M_part_153 rfl (lv_at hl 4 rfl) ?_
                    refine va_get (D := (dC, dI)) (ci := 4) (v := .int ((X 14 0) + 1)) (C := R_M) (T := F_M) (N := 39) hx hb hts i_M hown hK hP 0 rfl rfl 14 (by decide) (hts _ m_f_M_97) (fun _ h9 => h9) rfl d_M_part_154 ?_
                    refine va_put (D := (dC, dI)) (ci := 4) (v := .int ((X 14 0) + 1)) (ty := .int) (C := R_M) (T := F_M) (N := 39) hx hb hts i_M t_M t_M_ok n_M hown hK hP hD hS 0 rfl rfl 14 (by decide) (hts _ m_f_M_97) (fun _ h9 => h9) rfl (by decide +kernel) rfl rfl (Nat.le_of_ble_eq_true rfl) d_M_part_157 (fun H locs hP hD hS => ?_)
                    have hP : va_P (dC, dI) classes (w_M cA cZ a (.ref (a 8)) (upf (upf (upf (upf X 14 (fun _ => ((X 14 0) + 1))) 19 (fun _ => 0)) 20 (fun _ => 0)) 22 (fun _ => 0))) H := hP
                    have hD : va_D A (w_M cA cZ a (.ref (a 8)) (upf (upf (upf (upf X 14 (fun _ => ((X 14 0) + 1))) 19 (fun _ => 0)) 20 (fun _ => 0)) 22 (fun _ => 0))) := hD
                    exact join_160 (upf (upf (upf (upf X 14 (fun _ => ((X 14 0) + 1))) 19 (fun _ => 0)) 20 (fun _ => 0)) 22 (fun _ => 0)) 1 ((f_M_hereR (upf (upf (upf X 19 (fun _ => 0)) 20 (fun _ => 0)) 22 (fun _ => 0))) - 40) 0 H locs ls (by rw [f_M_partR, if_pos c_702, if_neg c_723, if_neg c_739, if_neg c_740, if_neg c_743, if_pos c_745]) (m_adv_step (hereR_gt c_723) hma).1 hmt hmk hP hD hS (lv_sub hl [4, 5, 6, 7, 3, 2, 0] rfl)
                  · exact absurd c_746 (by decide)
                · refine lv_aload_n hx hb d_M_part_122 rfl (lv_at hl 4 rfl) ?_
                  refine nc_ro (va_runV (As := []) (rest := []) hfix (c_M_hereR l dC dI cA cZ a (upf (upf (upf (upf X 14 (fun _ => ((X 14 0) + 1))) 19 (fun _ => 0)) 20 (fun _ => 0)) 22 (fun _ => 0)) (m_adv_step (hereR_gt c_723) hma).1) (k_M_104 hts hN ⟨Nat.le_of_ble_eq_true rfl, Nat.le_of_ble_eq_true rfl⟩) (nc_preVZ hK hN hP hD rfl rfl) rfl rfl hl.1 rfl (lv_room (Nat.le_of_ble_eq_true rfl)) d_M_part_123 ⟨Nat.zero_le _, Nat.zero_le _⟩) (fun r er => ?_)
                  subst er
                  refine lv_bipush (v := 36) hx hb d_M_part_126 (by decide) ?_
                  refine lv_icmp_eq (tgt := 135) hx hb d_M_part_128 (by decide) (fun c_747 => ?_) (fun c_747 => ?_)
                  · refine lv_iconst (v := 0) hx hb d_M_part_135 (by decide) ?_
                    refine lv_istore (lv' := [(6, .int 0), (7, .int 0), (5, .int ((f_M_hereR (upf (upf (upf X 19 (fun _ => 0)) 20 (fun _ => 0)) 22 (fun _ => 0))) - 40)), (4, .int 1), (0, .ref (a 0)), (1, .int x1), (2, .int x2), (3, .int x3)]) hx hb d_M_part_136 hl (by decide) rfl (fun ls hl => ?_)
                    refine lv_aload_n hx hb d_M_part_138 rfl (lv_at hl 4 rfl) ?_
                    refine lv_iload hx hb d_M_part_139 (lv_at hl 1 rfl) ?_
                    refine lv_if_eq (tgt := 153) hx hb d_M_part_141 (by decide) (fun c_748 => ?_) (fun c_748 => ?_)
                    · refine lv_aload_n hx hb d_M_part_153 rfl (lv_at hl 4 rfl) ?_
                      refine va_get (D := (dC, dI)) (ci := 4) (v := .int ((X 14 0) + 1)) (C := R_M) (T := F_M) (N := 39) hx hb hts i_M hown hK hP 0 rfl rfl 14 (by decide) (hts _ m_f_M_97) (fun _ h9 => h9) rfl d_M_part_154 ?_
                      refine va_put (D := (dC, dI)) (ci := 4) (v := .int ((X 14 0) + 1)) (ty := .int) (C := R_M) (T := F_M) (N := 39) hx hb hts i_M t_M t_M_ok n_M hown hK hP hD hS 0 rfl rfl 14 (by decide) (hts _ m_f_M_97) (fun _ h9 => h9) rfl (by decide +kernel) rfl rfl (Nat.le_of_ble_eq_true rfl) d_M_part_157 (fun H locs hP hD hS => ?_)
                      have hP : va_P (dC, dI) classes (w_M cA cZ a (.ref (a 8)) (upf (upf (upf (upf X 14 (fun _ => ((X 14 0) + 1))) 19 (fun _ => 0)) 20 (fun _ => 0)) 22 (fun _ => 0))) H := hP
                      have hD : va_D A (w_M cA cZ a (.ref (a 8)) (upf (upf (upf (upf X 14 (fun _ => ((X 14 0) + 1))) 19 (fun _ => 0)) 20 (fun _ => 0)) 22 (fun _ => 0))) := hD
                      exact join_160 (upf (upf (upf (upf X 14 (fun _ => ((X 14 0) + 1))) 19 (fun _ => 0)) 20 (fun _ => 0)) 22 (fun _ => 0)) 1 ((f_M_hereR (upf (upf (upf X 19 (fun _ => 0)) 20 (fun _ => 0)) 22 (fun _ => 0))) - 40) 0 H locs ls (by rw [f_M_partR, if_pos c_702, if_neg c_723, if_neg c_739, if_neg c_740, if_neg c_743, if_neg c_745, if_pos c_747]) (m_adv_step (hereR_gt c_723) hma).1 hmt hmk hP hD hS (lv_sub hl [4, 5, 6, 7, 3, 2, 0] rfl)
                    · exact absurd c_748 (by decide)
                  · refine lv_iconst (v := 1) hx hb d_M_part_131 (by decide) ?_
                    refine lv_goto (tgt := 136) hx hb d_M_part_132 (by decide) ?_
                    refine lv_istore (lv' := [(6, .int 1), (7, .int 0), (5, .int ((f_M_hereR (upf (upf (upf X 19 (fun _ => 0)) 20 (fun _ => 0)) 22 (fun _ => 0))) - 40)), (4, .int 1), (0, .ref (a 0)), (1, .int x1), (2, .int x2), (3, .int x3)]) hx hb d_M_part_136 hl (by decide) rfl (fun ls hl => ?_)
                    refine lv_aload_n hx hb d_M_part_138 rfl (lv_at hl 4 rfl) ?_
                    refine lv_iload hx hb d_M_part_139 (lv_at hl 1 rfl) ?_
                    refine lv_if_eq (tgt := 153) hx hb d_M_part_141 (by decide) (fun c_749 => ?_) (fun c_749 => ?_)
                    · refine lv_aload_n hx hb d_M_part_153 rfl (lv_at hl 4 rfl) ?_
                      refine va_get (D := (dC, dI)) (ci := 4) (v := .int ((X 14 0) + 1)) (C := R_M) (T := F_M) (N := 39) hx hb hts i_M hown hK hP 0 rfl rfl 14 (by decide) (hts _ m_f_M_97) (fun _ h9 => h9) rfl d_M_part_154 ?_
                      refine va_put (D := (dC, dI)) (ci := 4) (v := .int ((X 14 0) + 1)) (ty := .int) (C := R_M) (T := F_M) (N := 39) hx hb hts i_M t_M t_M_ok n_M hown hK hP hD hS 0 rfl rfl 14 (by decide) (hts _ m_f_M_97) (fun _ h9 => h9) rfl (by decide +kernel) rfl rfl (Nat.le_of_ble_eq_true rfl) d_M_part_157 (fun H locs hP hD hS => ?_)
                      have hP : va_P (dC, dI) classes (w_M cA cZ a (.ref (a 8)) (upf (upf (upf (upf X 14 (fun _ => ((X 14 0) + 1))) 19 (fun _ => 0)) 20 (fun _ => 0)) 22 (fun _ => 0))) H := hP
                      have hD : va_D A (w_M cA cZ a (.ref (a 8)) (upf (upf (upf (upf X 14 (fun _ => ((X 14 0) + 1))) 19 (fun _ => 0)) 20 (fun _ => 0)) 22 (fun _ => 0))) := hD
                      exact join_160 (upf (upf (upf (upf X 14 (fun _ => ((X 14 0) + 1))) 19 (fun _ => 0)) 20 (fun _ => 0)) 22 (fun _ => 0)) 1 ((f_M_hereR (upf (upf (upf X 19 (fun _ => 0)) 20 (fun _ => 0)) 22 (fun _ => 0))) - 40) 1 H locs ls (by rw [f_M_partR, if_pos c_702, if_neg c_723, if_neg c_739, if_neg c_740, if_neg c_743, if_neg c_745, if_neg c_747]) (m_adv_step (hereR_gt c_723) hma).1 hmt hmk hP hD hS (lv_sub hl [4, 5, 6, 7, 3, 2, 0] rfl)
                    · exact absurd c_749 (by decide)
        · refine lv_iconst (v := 1) hx hb d_M_part_85 (by decide) ?_
          refine lv_goto (tgt := 90) hx hb d_M_part_86 (by decide) ?_
          refine lv_istore (lv' := [(7, .int 1), (6, .int 1), (5, .int ((f_M_hereR (upf (upf (upf X 19 (fun _ => 0)) 20 (fun _ => 0)) 22 (fun _ => 0))) - 40)), (4, .int 1), (0, .ref (a 0)), (1, .int x1), (2, .int x2), (3, .int x3)]) hx hb d_M_part_90 hl (by decide) rfl (fun ls hl => ?_)
          refine lv_iload hx hb d_M_part_92 (lv_at hl 2 rfl) ?_
          refine lv_if_gt (tgt := 131) hx hb d_M_part_94 (by decide) (fun c_750 => ?_) (fun c_750 => ?_)
          · refine lv_iconst (v := 1) hx hb d_M_part_131 (by decide) ?_
            refine lv_goto (tgt := 136) hx hb d_M_part_132 (by decide) ?_
            refine lv_istore (lv' := [(6, .int 1), (7, .int 1), (5, .int ((f_M_hereR (upf (upf (upf X 19 (fun _ => 0)) 20 (fun _ => 0)) 22 (fun _ => 0))) - 40)), (4, .int 1), (0, .ref (a 0)), (1, .int x1), (2, .int x2), (3, .int x3)]) hx hb d_M_part_136 hl (by decide) rfl (fun ls hl => ?_)
            refine lv_aload_n hx hb d_M_part_138 rfl (lv_at hl 4 rfl) ?_
            refine lv_iload hx hb d_M_part_139 (lv_at hl 1 rfl) ?_
            refine lv_if_eq (tgt := 153) hx hb d_M_part_141 (by decide) (fun c_751 => ?_) (fun c_751 => ?_)
            · exact absurd c_751 (by decide)
            · refine lv_aload_n hx hb d_M_part_144 rfl (lv_at hl 4 rfl) ?_
              refine va_get (D := (dC, dI)) (ci := 4) (v := .int ((X 14 0) + 1)) (C := R_M) (T := F_M) (N := 39) hx hb hts i_M hown hK hP 0 rfl rfl 14 (by decide) (hts _ m_f_M_97) (fun _ h9 => h9) rfl d_M_part_145 ?_
              refine lv_iconst (v := 1) hx hb d_M_part_148 (by decide) ?_
              refine lv_iadd hx hb d_M_part_149 ?_
              refine lv_goto (tgt := 157) hx hb d_M_part_150 (by decide) ?_
              refine va_put (D := (dC, dI)) (ci := 4) (v := .int (((X 14 0) + 1) + 1)) (ty := .int) (C := R_M) (T := F_M) (N := 39) hx hb hts i_M t_M t_M_ok n_M hown hK hP hD hS 0 rfl rfl 14 (by decide) (hts _ m_f_M_97) (fun _ h9 => h9) rfl (by decide +kernel) rfl rfl (Nat.le_of_ble_eq_true rfl) d_M_part_157 (fun H locs hP hD hS => ?_)
              have hP : va_P (dC, dI) classes (w_M cA cZ a (.ref (a 8)) (upf (upf (upf (upf X 14 (fun _ => (((X 14 0) + 1) + 1))) 19 (fun _ => 0)) 20 (fun _ => 0)) 22 (fun _ => 0))) H := hP
              have hD : va_D A (w_M cA cZ a (.ref (a 8)) (upf (upf (upf (upf X 14 (fun _ => (((X 14 0) + 1) + 1))) 19 (fun _ => 0)) 20 (fun _ => 0)) 22 (fun _ => 0))) := hD
              exact join_160 (upf (upf (upf (upf X 14 (fun _ => (((X 14 0) + 1) + 1))) 19 (fun _ => 0)) 20 (fun _ => 0)) 22 (fun _ => 0)) 1 ((f_M_hereR (upf (upf (upf X 19 (fun _ => 0)) 20 (fun _ => 0)) 22 (fun _ => 0))) - 40) 1 H locs ls (by rw [f_M_partR, if_pos c_702, if_neg c_723, if_pos c_739, if_pos c_750]) (m_adv_trans (m_adv_step (hereR_gt c_723) hma) (m_adv_step (hereR_eq c_739 (by decide)) (m_adv_step (hereR_gt c_723) hma).1)).1 hmt hmk hP hD hS (lv_sub hl [4, 5, 6, 7, 3, 2, 0] rfl)
          · refine lv_iload hx hb d_M_part_97 (lv_at hl 0 rfl) ?_
            refine lv_if_ne (tgt := 131) hx hb d_M_part_99 (by decide) (fun c_752 => ?_) (fun c_752 => ?_)
            · refine lv_iconst (v := 1) hx hb d_M_part_131 (by decide) ?_
              refine lv_goto (tgt := 136) hx hb d_M_part_132 (by decide) ?_
              refine lv_istore (lv' := [(6, .int 1), (7, .int 1), (5, .int ((f_M_hereR (upf (upf (upf X 19 (fun _ => 0)) 20 (fun _ => 0)) 22 (fun _ => 0))) - 40)), (4, .int 1), (0, .ref (a 0)), (1, .int x1), (2, .int x2), (3, .int x3)]) hx hb d_M_part_136 hl (by decide) rfl (fun ls hl => ?_)
              refine lv_aload_n hx hb d_M_part_138 rfl (lv_at hl 4 rfl) ?_
              refine lv_iload hx hb d_M_part_139 (lv_at hl 1 rfl) ?_
              refine lv_if_eq (tgt := 153) hx hb d_M_part_141 (by decide) (fun c_753 => ?_) (fun c_753 => ?_)
              · exact absurd c_753 (by decide)
              · refine lv_aload_n hx hb d_M_part_144 rfl (lv_at hl 4 rfl) ?_
                refine va_get (D := (dC, dI)) (ci := 4) (v := .int ((X 14 0) + 1)) (C := R_M) (T := F_M) (N := 39) hx hb hts i_M hown hK hP 0 rfl rfl 14 (by decide) (hts _ m_f_M_97) (fun _ h9 => h9) rfl d_M_part_145 ?_
                refine lv_iconst (v := 1) hx hb d_M_part_148 (by decide) ?_
                refine lv_iadd hx hb d_M_part_149 ?_
                refine lv_goto (tgt := 157) hx hb d_M_part_150 (by decide) ?_
                refine va_put (D := (dC, dI)) (ci := 4) (v := .int (((X 14 0) + 1) + 1)) (ty := .int) (C := R_M) (T := F_M) (N := 39) hx hb hts i_M t_M t_M_ok n_M hown hK hP hD hS 0 rfl rfl 14 (by decide) (hts _ m_f_M_97) (fun _ h9 => h9) rfl (by decide +kernel) rfl rfl (Nat.le_of_ble_eq_true rfl) d_M_part_157 (fun H locs hP hD hS => ?_)
                have hP : va_P (dC, dI) classes (w_M cA cZ a (.ref (a 8)) (upf (upf (upf (upf X 14 (fun _ => (((X 14 0) + 1) + 1))) 19 (fun _ => 0)) 20 (fun _ => 0)) 22 (fun _ => 0))) H := hP
                have hD : va_D A (w_M cA cZ a (.ref (a 8)) (upf (upf (upf (upf X 14 (fun _ => (((X 14 0) + 1) + 1))) 19 (fun _ => 0)) 20 (fun _ => 0)) 22 (fun _ => 0))) := hD
                exact join_160 (upf (upf (upf (upf X 14 (fun _ => (((X 14 0) + 1) + 1))) 19 (fun _ => 0)) 20 (fun _ => 0)) 22 (fun _ => 0)) 1 ((f_M_hereR (upf (upf (upf X 19 (fun _ => 0)) 20 (fun _ => 0)) 22 (fun _ => 0))) - 40) 1 H locs ls (by rw [f_M_partR, if_pos c_702, if_neg c_723, if_pos c_739, if_neg c_750]) (m_adv_trans (m_adv_step (hereR_gt c_723) hma) (m_adv_step (hereR_eq c_739 (by decide)) (m_adv_step (hereR_gt c_723) hma).1)).1 hmt hmk hP hD hS (lv_sub hl [4, 5, 6, 7, 3, 2, 0] rfl)
            · exact absurd c_752 (by decide)
      · exact absurd c_738 (by decide)
theorem ptR_fr408 {x1 x2 x3 y4 y5 y8 y9 y10 : Int32} {k : Nat} (h : Nat.beq k 22 = false) : ∀ (n : Nat) (X : Nat → Nat → Int32) (z : Int32), f_M_partR_L408 x1 x2 x3 y4 y5 y8 y9 y10 n X z k = X k := by
  intro n
  induction n with
  | zero => intro X z; rfl
  | succ n ih =>
    intro X z
    rw [f_M_partR_L408]
    split
    · rfl
    · rw [ih, upf_ne h]
theorem ptR_fr400 {x1 x2 x3 z4 z5 z8 z9 z10 : Int32} {X : Nat → Nat → Int32} {k : Nat} (h1 : Nat.beq k 19 = false) (h2 : Nat.beq k 20 = false) (h3 : Nat.beq k 21 = false) (h4 : Nat.beq k 22 = false) : f_M_partR_J400 x1 x2 x3 X z4 z5 z8 z9 z10 k = X k := by
  unfold f_M_partR_J400
  split
  · split
    · split
      · split
        · split
          · rw [upf_ne h3, upf_ne h1]
          · split
            · split
              · rw [upf_ne h2]
              · rw [upf_ne h4]
            · rw [upf_ne h4]
        · split
          · rw [upf_ne h3, upf_ne h1]
          · split
            · split
              · rw [upf_ne h2]
              · rw [upf_ne h4]
            · rw [upf_ne h4]
      · rw [upf_ne h4]
    · rw [upf_ne h4]
  · exact ptR_fr408 h4 _ _ _
theorem m_adv_eqR {X Y : Nat → Nat → Int32} (h : m_a X) (e13 : Y 13 = X 13) (e14 : Y 14 = X 14) : m_adv X Y := by
  refine ⟨?_, e13, ?_, Or.inl ?_⟩
  · unfold m_a
    rw [e13, e14]
    exact h
  · rw [e14]; exact Int.le_refl _
  · rw [e14]; exact Int.le_refl _
theorem ptR_e400 {x1 x2 x3 z4 z5 z8 z9 z10 : Int32} {X : Nat → Nat → Int32} {g : Nat → Int32} (h : m_a X) : m_adv X (f_M_partR_J400 x1 x2 x3 (upf X 19 g) z4 z5 z8 z9 z10) := m_adv_eqR h (ptR_fr400 rfl rfl rfl rfl) (ptR_fr400 rfl rfl rfl rfl)
/-- the end of the loop over the EXCEPTS -/
theorem ptR_x254 {x1 x2 x3 y4 y5 y8 y9 z10 : Int32} {X : Nat → Nat → Int32} (h : m_a X) : m_adv X (if (X 19 0) = 0 then (if z10 = 0 then (if x1 = 0 then (upf X 19 (fun _ => 5)) else (upf X 19 (fun _ => 5))) else (if y5 ≤ (f_bitCount z10) then (if x1 = 0 then (upf X 19 (fun _ => (X 19 0))) else (if (X 19 0) ≤ 0 then (f_M_partR_J400 x1 x2 x3 (upf X 19 (fun _ => (X 19 0))) y4 y5 y8 y9 z10) else (upf X 19 (fun _ => (X 19 0))))) else (if x1 = 0 then (upf X 19 (fun _ => 6)) else (upf X 19 (fun _ => 6))))) else (if x1 = 0 then (upf X 19 (fun _ => (X 19 0))) else (if (X 19 0) ≤ 0 then (f_M_partR_J400 x1 x2 x3 (upf X 19 (fun _ => (X 19 0))) y4 y5 y8 y9 z10) else (upf X 19 (fun _ => (X 19 0)))))) := by
  have u : ∀ g : Nat → Int32, m_adv X (upf X 19 g) := fun g => m_adv_eqR h rfl rfl
  split
  · split
    · split
      · exact u _
      · exact u _
    · split
      · split
        · exact u _
        · split
          · exact ptR_e400 h
          · exact u _
      · split
        · exact u _
        · exact u _
  · split
    · exact u _
    · split
      · exact ptR_e400 h
      · exact u _
theorem ptR_a254 {x1 x2 x3 y4 y5 y8 y9 : Int32} : ∀ (n : Nat) (X : Nat → Nat → Int32) (z10 : Int32), m_a X → m_adv X (f_M_partR_L254 x1 x2 x3 y4 y5 y8 y9 n X z10) := by
  intro n
  induction n with
  | zero => intro X z h; exact m_adv_rfl h
  | succ n ih =>
    intro X z h
    rw [f_M_partR_L254]
    split
    · exact ptR_x254 h
    · split
      · rename_i c
        have s1 : m_adv X (f_M_readDescriptionR (upf X 14 (fun _ => (X 14 0) + 1))) := m_adv_trans (m_adv_step (hereR_eq c (by decide)) h) (rdR_a (ma_step (hereR_eq c (by decide)) h))
        split
        · split
          · split
            · have s2 : m_adv (f_M_readDescriptionR (upf X 14 (fun _ => (X 14 0) + 1))) _ := ih (upf (upf (f_M_readDescriptionR (upf X 14 (fun _ => ((X 14 0) + 1)))) 19 (fun _ => 4)) 21 (fun _ => (f_bitCount (z &&& (((f_M_fitting (f_M_readDescriptionR (upf X 14 (fun _ => ((X 14 0) + 1)))) 3) &&& z) ^^^ (-1)))))) (z &&& (((f_M_fitting (f_M_readDescriptionR (upf X 14 (fun _ => ((X 14 0) + 1)))) 3) &&& z) ^^^ (-1))) s1.1
              exact m_adv_trans s1 s2
            · have s2 : m_adv (f_M_readDescriptionR (upf X 14 (fun _ => (X 14 0) + 1))) _ := ih (upf (upf (f_M_readDescriptionR (upf X 14 (fun _ => ((X 14 0) + 1)))) 19 (fun _ => 0)) 21 (fun _ => (f_bitCount (z &&& (((f_M_fitting (f_M_readDescriptionR (upf X 14 (fun _ => ((X 14 0) + 1)))) 3) &&& z) ^^^ (-1)))))) (z &&& (((f_M_fitting (f_M_readDescriptionR (upf X 14 (fun _ => ((X 14 0) + 1)))) 3) &&& z) ^^^ (-1))) s1.1
              exact m_adv_trans s1 s2
          · exact m_adv_trans s1 (ih _ _ s1.1)
        · exact s1
      · exact ptR_x254 h
theorem ptR_a213 {x1 x2 x3 z4 z5 z7 z8 z9 : Int32} {X : Nat → Nat → Int32} (h : m_a X) : m_adv X (f_M_partR_J213 x1 x2 x3 X z4 z5 z7 z8 z9) := by
  unfold f_M_partR_J213 f_M_partR_J254
  split
  · exact ptR_a254 _ (upf (upf X 19 (fun _ => 2)) 21 (fun _ => (f_bitCount (z7 &&& (f_M_there X))))) _ h
  · split
    · exact ptR_a254 _ (upf (upf X 19 (fun _ => 3)) 21 (fun _ => (f_bitCount (z7 &&& (f_M_there X))))) _ h
    · exact ptR_a254 _ (upf (upf X 19 (fun _ => 0)) 21 (fun _ => (f_bitCount (z7 &&& (f_M_there X))))) _ h
theorem ptR_a160 {x1 x2 x3 z4 z5 z6 : Int32} {X : Nat → Nat → Int32} (h : m_a X) : m_adv X (f_M_partR_J160 x1 x2 x3 X z4 z5 z6) := by
  unfold f_M_partR_J160
  split
  · exact ptR_a213 h
  · have s1 := rdR_a h
    split
    · exact m_adv_trans s1 (ptR_a213 s1.1)
    · exact s1
theorem ptR_l0 {x1 x2 x3 z4 z5 z6 : Int32} {X : Nat → Nat → Int32} (h : m_a X) : m_adv X (f_M_partR_J160 x1 x2 x3 (upf (upf (upf X 19 (fun _ => 0)) 20 (fun _ => 0)) 22 (fun _ => 0)) z4 z5 z6) := ptR_a160 (X := (upf (upf (upf X 19 (fun _ => 0)) 20 (fun _ => 0)) 22 (fun _ => 0))) h
theorem ptR_l1 {x1 x2 x3 z4 z5 z6 : Int32} {X : Nat → Nat → Int32} (h : m_a X) (c : ¬ (X 13 0) ≤ (X 14 0)) : m_adv (upf X 14 (fun _ => (X 14 0) + 1)) (f_M_partR_J160 x1 x2 x3 (upf (upf (upf (upf X 14 (fun _ => ((X 14 0) + 1))) 19 (fun _ => 0)) 20 (fun _ => 0)) 22 (fun _ => 0)) z4 z5 z6) := ptR_a160 (X := (upf (upf (upf (upf X 14 (fun _ => ((X 14 0) + 1))) 19 (fun _ => 0)) 20 (fun _ => 0)) 22 (fun _ => 0))) (ma_step c h)
theorem ptR_l2 {x1 x2 x3 z4 z5 z6 : Int32} {X : Nat → Nat → Int32} (h : m_a X) (c : ¬ (X 13 0) ≤ (X 14 0)) (c2 : f_M_hereR (upf (upf (upf (upf X 14 (fun _ => ((X 14 0) + 1))) 19 (fun _ => 0)) 20 (fun _ => 0)) 22 (fun _ => 0)) = 37) : m_adv (upf X 14 (fun _ => (X 14 0) + 1)) (f_M_partR_J160 x1 x2 x3 (upf (upf (upf (upf X 14 (fun _ => (((X 14 0) + 1) + 1))) 19 (fun _ => 0)) 20 (fun _ => 0)) 22 (fun _ => 0)) z4 z5 z6) := by
  have s0 : m_a (upf X 14 (fun _ => (X 14 0) + 1)) := ma_step c h
  have c3 : ¬ ((upf X 14 (fun _ => (X 14 0) + 1)) 13 0) ≤ ((upf X 14 (fun _ => (X 14 0) + 1)) 14 0) := hereR_eq (X := (upf (upf (upf (upf X 14 (fun _ => ((X 14 0) + 1))) 19 (fun _ => 0)) 20 (fun _ => 0)) 22 (fun _ => 0))) c2 (by decide)
  have s1 := m_adv_step c3 s0
  have s2 : m_adv (upf (upf X 14 (fun _ => (X 14 0) + 1)) 14 (fun _ => ((upf X 14 (fun _ => (X 14 0) + 1)) 14 0) + 1)) (f_M_partR_J160 x1 x2 x3 (upf (upf (upf (upf X 14 (fun _ => (((X 14 0) + 1) + 1))) 19 (fun _ => 0)) 20 (fun _ => 0)) 22 (fun _ => 0)) z4 z5 z6) := ptR_a160 (X := (upf (upf (upf (upf X 14 (fun _ => (((X 14 0) + 1) + 1))) 19 (fun _ => 0)) 20 (fun _ => 0)) 22 (fun _ => 0))) s1.1
  exact m_adv_trans s1 s2
theorem ptR_cases (X : Nat → Nat → Int32) (x1 x2 x3 : Int32) : (∃ z4 z5 : Int32, f_M_partR X x1 x2 x3 = f_M_partR_J160 x1 x2 x3 (upf (upf (upf X 19 (fun _ => 0)) 20 (fun _ => 0)) 22 (fun _ => 0)) z4 z5 1) ∨ (¬ (X 13 0) ≤ (X 14 0) ∧ ∃ z4 z5 z6 : Int32, f_M_partR X x1 x2 x3 = f_M_partR_J160 x1 x2 x3 (upf (upf (upf (upf X 14 (fun _ => ((X 14 0) + 1))) 19 (fun _ => 0)) 20 (fun _ => 0)) 22 (fun _ => 0)) z4 z5 z6) ∨ (¬ (X 13 0) ≤ (X 14 0) ∧ f_M_hereR (upf (upf (upf (upf X 14 (fun _ => ((X 14 0) + 1))) 19 (fun _ => 0)) 20 (fun _ => 0)) 22 (fun _ => 0)) = 37 ∧ ∃ z4 z5 z6 : Int32, f_M_partR X x1 x2 x3 = f_M_partR_J160 x1 x2 x3 (upf (upf (upf (upf X 14 (fun _ => (((X 14 0) + 1) + 1))) 19 (fun _ => 0)) 20 (fun _ => 0)) 22 (fun _ => 0)) z4 z5 z6) := by
  by_cases s_1 : (f_M_hereR (upf (upf (upf X 19 (fun _ => 0)) 20 (fun _ => 0)) 22 (fun _ => 0))) = 34
  · by_cases s_2 : (f_M_hereR (upf (upf (upf X 19 (fun _ => 0)) 20 (fun _ => 0)) 22 (fun _ => 0))) ≤ 40
    · by_cases s_3 : (f_M_hereR (upf (upf (upf (upf X 14 (fun _ => ((X 14 0) + 1))) 19 (fun _ => 0)) 20 (fun _ => 0)) 22 (fun _ => 0))) = 37
      · have e : f_M_partR X x1 x2 x3 = (f_M_partR_J160 x1 x2 x3 (upf (upf (upf (upf X 14 (fun _ => (((X 14 0) + 1) + 1))) 19 (fun _ => 0)) 20 (fun _ => 0)) 22 (fun _ => 0)) 1 0 1) := by rw [f_M_partR, if_pos s_1, if_pos s_2, if_pos s_3]
        exact Or.inr (Or.inr ⟨(hereR_eq (X := (upf (upf (upf X 19 (fun _ => 0)) 20 (fun _ => 0)) 22 (fun _ => 0))) s_1 (by decide)), s_3, _, _, _, e⟩)
      · by_cases s_4 : (X 13 0) ≤ ((X 14 0) + 1)
        · have e : f_M_partR X x1 x2 x3 = (f_M_partR_J160 x1 x2 x3 (upf (upf (upf (upf X 14 (fun _ => ((X 14 0) + 1))) 19 (fun _ => 0)) 20 (fun _ => 0)) 22 (fun _ => 0)) 1 0 0) := by rw [f_M_partR, if_pos s_1, if_pos s_2, if_neg s_3, if_pos s_4]
          exact Or.inr (Or.inl ⟨(hereR_eq (X := (upf (upf (upf X 19 (fun _ => 0)) 20 (fun _ => 0)) 22 (fun _ => 0))) s_1 (by decide)), _, _, _, e⟩)
        · by_cases s_5 : (f_M_hereR (upf (upf (upf (upf X 14 (fun _ => ((X 14 0) + 1))) 19 (fun _ => 0)) 20 (fun _ => 0)) 22 (fun _ => 0))) = 35
          · have e : f_M_partR X x1 x2 x3 = (f_M_partR_J160 x1 x2 x3 (upf (upf (upf (upf X 14 (fun _ => ((X 14 0) + 1))) 19 (fun _ => 0)) 20 (fun _ => 0)) 22 (fun _ => 0)) 1 0 0) := by rw [f_M_partR, if_pos s_1, if_pos s_2, if_neg s_3, if_neg s_4, if_pos s_5]
            exact Or.inr (Or.inl ⟨(hereR_eq (X := (upf (upf (upf X 19 (fun _ => 0)) 20 (fun _ => 0)) 22 (fun _ => 0))) s_1 (by decide)), _, _, _, e⟩)
          · by_cases s_6 : (f_M_hereR (upf (upf (upf (upf X 14 (fun _ => ((X 14 0) + 1))) 19 (fun _ => 0)) 20 (fun _ => 0)) 22 (fun _ => 0))) = 36
            · have e : f_M_partR X x1 x2 x3 = (f_M_partR_J160 x1 x2 x3 (upf (upf (upf (upf X 14 (fun _ => ((X 14 0) + 1))) 19 (fun _ => 0)) 20 (fun _ => 0)) 22 (fun _ => 0)) 1 0 0) := by rw [f_M_partR, if_pos s_1, if_pos s_2, if_neg s_3, if_neg s_4, if_neg s_5, if_pos s_6]
              exact Or.inr (Or.inl ⟨(hereR_eq (X := (upf (upf (upf X 19 (fun _ => 0)) 20 (fun _ => 0)) 22 (fun _ => 0))) s_1 (by decide)), _, _, _, e⟩)
            · have e : f_M_partR X x1 x2 x3 = (f_M_partR_J160 x1 x2 x3 (upf (upf (upf (upf X 14 (fun _ => ((X 14 0) + 1))) 19 (fun _ => 0)) 20 (fun _ => 0)) 22 (fun _ => 0)) 1 0 1) := by rw [f_M_partR, if_pos s_1, if_pos s_2, if_neg s_3, if_neg s_4, if_neg s_5, if_neg s_6]
              exact Or.inr (Or.inl ⟨(hereR_eq (X := (upf (upf (upf X 19 (fun _ => 0)) 20 (fun _ => 0)) 22 (fun _ => 0))) s_1 (by decide)), _, _, _, e⟩)
    · by_cases s_7 : (f_M_hereR (upf (upf (upf (upf X 14 (fun _ => ((X 14 0) + 1))) 19 (fun _ => 0)) 20 (fun _ => 0)) 22 (fun _ => 0))) = 37
      · by_cases s_8 : 0 < ((f_M_hereR (upf (upf (upf X 19 (fun _ => 0)) 20 (fun _ => 0)) 22 (fun _ => 0))) - 40)
        · have e : f_M_partR X x1 x2 x3 = (f_M_partR_J160 x1 x2 x3 (upf (upf (upf (upf X 14 (fun _ => (((X 14 0) + 1) + 1))) 19 (fun _ => 0)) 20 (fun _ => 0)) 22 (fun _ => 0)) 1 ((f_M_hereR (upf (upf (upf X 19 (fun _ => 0)) 20 (fun _ => 0)) 22 (fun _ => 0))) - 40) 1) := by rw [f_M_partR, if_pos s_1, if_neg s_2, if_pos s_7, if_pos s_8]
          exact Or.inr (Or.inr ⟨(hereR_gt (X := (upf (upf (upf X 19 (fun _ => 0)) 20 (fun _ => 0)) 22 (fun _ => 0))) s_2), s_7, _, _, _, e⟩)
        · have e : f_M_partR X x1 x2 x3 = (f_M_partR_J160 x1 x2 x3 (upf (upf (upf (upf X 14 (fun _ => (((X 14 0) + 1) + 1))) 19 (fun _ => 0)) 20 (fun _ => 0)) 22 (fun _ => 0)) 1 ((f_M_hereR (upf (upf (upf X 19 (fun _ => 0)) 20 (fun _ => 0)) 22 (fun _ => 0))) - 40) 1) := by rw [f_M_partR, if_pos s_1, if_neg s_2, if_pos s_7, if_neg s_8]
          exact Or.inr (Or.inr ⟨(hereR_gt (X := (upf (upf (upf X 19 (fun _ => 0)) 20 (fun _ => 0)) 22 (fun _ => 0))) s_2), s_7, _, _, _, e⟩)
      · by_cases s_9 : 0 < ((f_M_hereR (upf (upf (upf X 19 (fun _ => 0)) 20 (fun _ => 0)) 22 (fun _ => 0))) - 40)
        · have e : f_M_partR X x1 x2 x3 = (f_M_partR_J160 x1 x2 x3 (upf (upf (upf (upf X 14 (fun _ => ((X 14 0) + 1))) 19 (fun _ => 0)) 20 (fun _ => 0)) 22 (fun _ => 0)) 1 ((f_M_hereR (upf (upf (upf X 19 (fun _ => 0)) 20 (fun _ => 0)) 22 (fun _ => 0))) - 40) 1) := by rw [f_M_partR, if_pos s_1, if_neg s_2, if_neg s_7, if_pos s_9]
          exact Or.inr (Or.inl ⟨(hereR_gt (X := (upf (upf (upf X 19 (fun _ => 0)) 20 (fun _ => 0)) 22 (fun _ => 0))) s_2), _, _, _, e⟩)
        · by_cases s_10 : (X 13 0) ≤ ((X 14 0) + 1)
          · have e : f_M_partR X x1 x2 x3 = (f_M_partR_J160 x1 x2 x3 (upf (upf (upf (upf X 14 (fun _ => ((X 14 0) + 1))) 19 (fun _ => 0)) 20 (fun _ => 0)) 22 (fun _ => 0)) 1 ((f_M_hereR (upf (upf (upf X 19 (fun _ => 0)) 20 (fun _ => 0)) 22 (fun _ => 0))) - 40) 0) := by rw [f_M_partR, if_pos s_1, if_neg s_2, if_neg s_7, if_neg s_9, if_pos s_10]
            exact Or.inr (Or.inl ⟨(hereR_gt (X := (upf (upf (upf X 19 (fun _ => 0)) 20 (fun _ => 0)) 22 (fun _ => 0))) s_2), _, _, _, e⟩)
          · by_cases s_11 : (f_M_hereR (upf (upf (upf (upf X 14 (fun _ => ((X 14 0) + 1))) 19 (fun _ => 0)) 20 (fun _ => 0)) 22 (fun _ => 0))) = 35
            · have e : f_M_partR X x1 x2 x3 = (f_M_partR_J160 x1 x2 x3 (upf (upf (upf (upf X 14 (fun _ => ((X 14 0) + 1))) 19 (fun _ => 0)) 20 (fun _ => 0)) 22 (fun _ => 0)) 1 ((f_M_hereR (upf (upf (upf X 19 (fun _ => 0)) 20 (fun _ => 0)) 22 (fun _ => 0))) - 40) 0) := by rw [f_M_partR, if_pos s_1, if_neg s_2, if_neg s_7, if_neg s_9, if_neg s_10, if_pos s_11]
              exact Or.inr (Or.inl ⟨(hereR_gt (X := (upf (upf (upf X 19 (fun _ => 0)) 20 (fun _ => 0)) 22 (fun _ => 0))) s_2), _, _, _, e⟩)
            · by_cases s_12 : (f_M_hereR (upf (upf (upf (upf X 14 (fun _ => ((X 14 0) + 1))) 19 (fun _ => 0)) 20 (fun _ => 0)) 22 (fun _ => 0))) = 36
              · have e : f_M_partR X x1 x2 x3 = (f_M_partR_J160 x1 x2 x3 (upf (upf (upf (upf X 14 (fun _ => ((X 14 0) + 1))) 19 (fun _ => 0)) 20 (fun _ => 0)) 22 (fun _ => 0)) 1 ((f_M_hereR (upf (upf (upf X 19 (fun _ => 0)) 20 (fun _ => 0)) 22 (fun _ => 0))) - 40) 0) := by rw [f_M_partR, if_pos s_1, if_neg s_2, if_neg s_7, if_neg s_9, if_neg s_10, if_neg s_11, if_pos s_12]
                exact Or.inr (Or.inl ⟨(hereR_gt (X := (upf (upf (upf X 19 (fun _ => 0)) 20 (fun _ => 0)) 22 (fun _ => 0))) s_2), _, _, _, e⟩)
              · have e : f_M_partR X x1 x2 x3 = (f_M_partR_J160 x1 x2 x3 (upf (upf (upf (upf X 14 (fun _ => ((X 14 0) + 1))) 19 (fun _ => 0)) 20 (fun _ => 0)) 22 (fun _ => 0)) 1 ((f_M_hereR (upf (upf (upf X 19 (fun _ => 0)) 20 (fun _ => 0)) 22 (fun _ => 0))) - 40) 1) := by rw [f_M_partR, if_pos s_1, if_neg s_2, if_neg s_7, if_neg s_9, if_neg s_10, if_neg s_11, if_neg s_12]
                exact Or.inr (Or.inl ⟨(hereR_gt (X := (upf (upf (upf X 19 (fun _ => 0)) 20 (fun _ => 0)) 22 (fun _ => 0))) s_2), _, _, _, e⟩)
  · by_cases s_13 : (f_M_hereR (upf (upf (upf X 19 (fun _ => 0)) 20 (fun _ => 0)) 22 (fun _ => 0))) ≤ 40
    · have e : f_M_partR X x1 x2 x3 = (f_M_partR_J160 x1 x2 x3 (upf (upf (upf X 19 (fun _ => 0)) 20 (fun _ => 0)) 22 (fun _ => 0)) 0 0 1) := by rw [f_M_partR, if_neg s_1, if_pos s_13]
      exact Or.inl ⟨_, _, e⟩
    · by_cases s_14 : ((f_M_hereR (upf (upf (upf X 19 (fun _ => 0)) 20 (fun _ => 0)) 22 (fun _ => 0))) - 40) ≤ 0
      · have e : f_M_partR X x1 x2 x3 = (f_M_partR_J160 x1 x2 x3 (upf (upf (upf X 19 (fun _ => 0)) 20 (fun _ => 0)) 22 (fun _ => 0)) 0 ((f_M_hereR (upf (upf (upf X 19 (fun _ => 0)) 20 (fun _ => 0)) 22 (fun _ => 0))) - 40) 1) := by rw [f_M_partR, if_neg s_1, if_neg s_13, if_pos s_14]
        exact Or.inl ⟨_, _, e⟩
      · by_cases s_15 : (f_M_hereR (upf (upf (upf (upf X 14 (fun _ => ((X 14 0) + 1))) 19 (fun _ => 0)) 20 (fun _ => 0)) 22 (fun _ => 0))) = 37
        · by_cases s_16 : 0 < ((f_M_hereR (upf (upf (upf X 19 (fun _ => 0)) 20 (fun _ => 0)) 22 (fun _ => 0))) - 40)
          · have e : f_M_partR X x1 x2 x3 = (f_M_partR_J160 x1 x2 x3 (upf (upf (upf (upf X 14 (fun _ => (((X 14 0) + 1) + 1))) 19 (fun _ => 0)) 20 (fun _ => 0)) 22 (fun _ => 0)) 0 ((f_M_hereR (upf (upf (upf X 19 (fun _ => 0)) 20 (fun _ => 0)) 22 (fun _ => 0))) - 40) 1) := by rw [f_M_partR, if_neg s_1, if_neg s_13, if_neg s_14, if_pos s_15, if_pos s_16]
            exact Or.inr (Or.inr ⟨(hereR_gt (X := (upf (upf (upf X 19 (fun _ => 0)) 20 (fun _ => 0)) 22 (fun _ => 0))) s_13), s_15, _, _, _, e⟩)
          · have e : f_M_partR X x1 x2 x3 = (f_M_partR_J160 x1 x2 x3 (upf (upf (upf (upf X 14 (fun _ => (((X 14 0) + 1) + 1))) 19 (fun _ => 0)) 20 (fun _ => 0)) 22 (fun _ => 0)) 0 ((f_M_hereR (upf (upf (upf X 19 (fun _ => 0)) 20 (fun _ => 0)) 22 (fun _ => 0))) - 40) 1) := by rw [f_M_partR, if_neg s_1, if_neg s_13, if_neg s_14, if_pos s_15, if_neg s_16]
            exact Or.inr (Or.inr ⟨(hereR_gt (X := (upf (upf (upf X 19 (fun _ => 0)) 20 (fun _ => 0)) 22 (fun _ => 0))) s_13), s_15, _, _, _, e⟩)
        · by_cases s_17 : 0 < ((f_M_hereR (upf (upf (upf X 19 (fun _ => 0)) 20 (fun _ => 0)) 22 (fun _ => 0))) - 40)
          · have e : f_M_partR X x1 x2 x3 = (f_M_partR_J160 x1 x2 x3 (upf (upf (upf (upf X 14 (fun _ => ((X 14 0) + 1))) 19 (fun _ => 0)) 20 (fun _ => 0)) 22 (fun _ => 0)) 0 ((f_M_hereR (upf (upf (upf X 19 (fun _ => 0)) 20 (fun _ => 0)) 22 (fun _ => 0))) - 40) 1) := by rw [f_M_partR, if_neg s_1, if_neg s_13, if_neg s_14, if_neg s_15, if_pos s_17]
            exact Or.inr (Or.inl ⟨(hereR_gt (X := (upf (upf (upf X 19 (fun _ => 0)) 20 (fun _ => 0)) 22 (fun _ => 0))) s_13), _, _, _, e⟩)
          · by_cases s_18 : (X 13 0) ≤ ((X 14 0) + 1)
            · have e : f_M_partR X x1 x2 x3 = (f_M_partR_J160 x1 x2 x3 (upf (upf (upf (upf X 14 (fun _ => ((X 14 0) + 1))) 19 (fun _ => 0)) 20 (fun _ => 0)) 22 (fun _ => 0)) 0 ((f_M_hereR (upf (upf (upf X 19 (fun _ => 0)) 20 (fun _ => 0)) 22 (fun _ => 0))) - 40) 0) := by rw [f_M_partR, if_neg s_1, if_neg s_13, if_neg s_14, if_neg s_15, if_neg s_17, if_pos s_18]
              exact Or.inr (Or.inl ⟨(hereR_gt (X := (upf (upf (upf X 19 (fun _ => 0)) 20 (fun _ => 0)) 22 (fun _ => 0))) s_13), _, _, _, e⟩)
            · by_cases s_19 : (f_M_hereR (upf (upf (upf (upf X 14 (fun _ => ((X 14 0) + 1))) 19 (fun _ => 0)) 20 (fun _ => 0)) 22 (fun _ => 0))) = 35
              · have e : f_M_partR X x1 x2 x3 = (f_M_partR_J160 x1 x2 x3 (upf (upf (upf (upf X 14 (fun _ => ((X 14 0) + 1))) 19 (fun _ => 0)) 20 (fun _ => 0)) 22 (fun _ => 0)) 0 ((f_M_hereR (upf (upf (upf X 19 (fun _ => 0)) 20 (fun _ => 0)) 22 (fun _ => 0))) - 40) 0) := by rw [f_M_partR, if_neg s_1, if_neg s_13, if_neg s_14, if_neg s_15, if_neg s_17, if_neg s_18, if_pos s_19]
                exact Or.inr (Or.inl ⟨(hereR_gt (X := (upf (upf (upf X 19 (fun _ => 0)) 20 (fun _ => 0)) 22 (fun _ => 0))) s_13), _, _, _, e⟩)
              · by_cases s_20 : (f_M_hereR (upf (upf (upf (upf X 14 (fun _ => ((X 14 0) + 1))) 19 (fun _ => 0)) 20 (fun _ => 0)) 22 (fun _ => 0))) = 36
                · have e : f_M_partR X x1 x2 x3 = (f_M_partR_J160 x1 x2 x3 (upf (upf (upf (upf X 14 (fun _ => ((X 14 0) + 1))) 19 (fun _ => 0)) 20 (fun _ => 0)) 22 (fun _ => 0)) 0 ((f_M_hereR (upf (upf (upf X 19 (fun _ => 0)) 20 (fun _ => 0)) 22 (fun _ => 0))) - 40) 0) := by rw [f_M_partR, if_neg s_1, if_neg s_13, if_neg s_14, if_neg s_15, if_neg s_17, if_neg s_18, if_neg s_19, if_pos s_20]
                  exact Or.inr (Or.inl ⟨(hereR_gt (X := (upf (upf (upf X 19 (fun _ => 0)) 20 (fun _ => 0)) 22 (fun _ => 0))) s_13), _, _, _, e⟩)
                · have e : f_M_partR X x1 x2 x3 = (f_M_partR_J160 x1 x2 x3 (upf (upf (upf (upf X 14 (fun _ => ((X 14 0) + 1))) 19 (fun _ => 0)) 20 (fun _ => 0)) 22 (fun _ => 0)) 0 ((f_M_hereR (upf (upf (upf X 19 (fun _ => 0)) 20 (fun _ => 0)) 22 (fun _ => 0))) - 40) 1) := by rw [f_M_partR, if_neg s_1, if_neg s_13, if_neg s_14, if_neg s_15, if_neg s_17, if_neg s_18, if_neg s_19, if_neg s_20]
                  exact Or.inr (Or.inl ⟨(hereR_gt (X := (upf (upf (upf X 19 (fun _ => 0)) 20 (fun _ => 0)) 22 (fun _ => 0))) s_13), _, _, _, e⟩)
theorem ptR_a {X : Nat → Nat → Int32} {x1 x2 x3 : Int32} (h : m_a X) (_ : m_t X) (_ : m_k X) : m_adv X (f_M_partR X x1 x2 x3) := by
  rcases ptR_cases X x1 x2 x3 with ⟨z4, z5, e⟩ | ⟨c, z4, z5, z6, e⟩ | ⟨c, c2, z4, z5, z6, e⟩
  · rw [e]; exact ptR_l0 h
  · rw [e]; exact m_adv_trans (m_adv_step c h) (ptR_l1 h c)
  · rw [e]; exact m_adv_trans (m_adv_step c h) (ptR_l2 h c c2)
theorem ptR_aa {X : Nat → Nat → Int32} {x1 x2 x3 : Int32} (h : m_a X) : m_adv X (f_M_partR X x1 x2 x3) := by
  rcases ptR_cases X x1 x2 x3 with ⟨z4, z5, e⟩ | ⟨c, z4, z5, z6, e⟩ | ⟨c, c2, z4, z5, z6, e⟩
  · rw [e]; exact ptR_l0 h
  · rw [e]; exact m_adv_trans (m_adv_step c h) (ptR_l1 h c)
  · rw [e]; exact m_adv_trans (m_adv_step c h) (ptR_l2 h c c2)
theorem rdR_lt8 {n : Nat} {X : Nat → Nat → Int32} (h : m_a X) (h0 : X 18 0 = 0) (c1 : X 15 0 = 0) (c2 : ¬ f_M_isWordR X = 0) : (X 14 0).toInt + 1 ≤ ((f_M_readDescriptionR_L88 (n + 1) X) 14 0).toInt := by
  have c3 : ¬ 6 ≤ X 18 0 := by rw [h0]; decide
  have c4 := isWordR_lt c2
  rw [f_M_readDescriptionR_L88, if_pos c1, if_neg c2, if_neg c3]
  have s1 := rdR_a8 n (upf (upf (upf X 14 (fun _ => ((X 14 0) + 1))) 17 (upd (X 17) ((X 18 0) : Int32).toNatClampNeg (f_M_hereR X))) 18 (fun _ => ((X 18 0) + 1))) (ma_step c4 h)
  have s2 : ((X 14 0) + 1).toInt ≤ ((f_M_readDescriptionR_L88 n (upf (upf (upf X 14 (fun _ => ((X 14 0) + 1))) 17 (upd (X 17) ((X 18 0) : Int32).toNatClampNeg (f_M_hereR X))) 18 (fun _ => ((X 18 0) + 1)))) 14 0).toInt := s1.2.2.1
  have s3 := nc_add1 c4
  omega
theorem rdR_lt10 : ∀ (n : Nat) (X : Nat → Nat → Int32), nc_mu (X 13 0) (X 14 0) < n → m_a X → X 18 0 = 0 → (f_M_readDescriptionR_L10 n X) 15 0 = 0 → (X 14 0).toInt + 1 ≤ ((f_M_readDescriptionR_L10 n X) 14 0).toInt := by
  intro n
  induction n with
  | zero => intro X hm; exact absurd hm (Nat.not_lt_zero _)
  | succ n ih =>
    intro X hm h h0
    rw [f_M_readDescriptionR_L10]
    have bad : ∀ m : Nat, ¬ (f_M_readDescriptionR_L88 m (upf X 15 (fun _ => 1))) 15 0 = 0 := by
      intro m
      rw [rdR_w15 (X := upf X 15 (fun _ => 1)) h0]
      show ¬ (1 : Int32) = 0
      decide
    split
    · split
      · intro q; exact absurd q (bad _)
      · rename_i c
        intro _
        exact rdR_lt8 (X := upf X 15 (fun _ => 0)) h h0 rfl c
    · rename_i c
      split
      · intro q
        have c4 := hereR_in c (by decide)
        have s1 := ih (upf (upf X 14 (fun _ => ((X 14 0) + 1))) 16 (fun _ => ((X 16 0) ||| ((1 : Int32) <<< (((f_M_hereR X) - 30) &&& 31))))) (nc_mu_step c4 hm) (ma_step c4 h) h0 q
        have s2 : ((X 14 0) + 1).toInt + 1 ≤ ((f_M_readDescriptionR_L10 n (upf (upf X 14 (fun _ => ((X 14 0) + 1))) 16 (fun _ => ((X 16 0) ||| ((1 : Int32) <<< (((f_M_hereR X) - 30) &&& 31)))))) 14 0).toInt := s1
        have s3 := nc_add1 c4
        omega
      · split
        · intro q; exact absurd q (bad _)
        · rename_i c2
          intro _
          exact rdR_lt8 (X := upf X 15 (fun _ => 0)) h h0 rfl c2
theorem rdR_lt {X : Nat → Nat → Int32} (h : m_a X) (hw : (f_M_readDescriptionR X) 15 0 = 0) : (X 14 0).toInt + 1 ≤ ((f_M_readDescriptionR X) 14 0).toInt := by
  unfold f_M_readDescriptionR at hw ⊢
  exact rdR_lt10 _ (upf (upf X 16 (fun _ => 0)) 18 (fun _ => 0)) (Nat.lt_succ_self _) h rfl hw
theorem ptR_lt160 {x1 x2 x3 z4 z5 : Int32} {X : Nat → Nat → Int32} (h : m_a X) (hw : (f_M_partR_J160 x1 x2 x3 X z4 z5 1) 15 0 = 0) : (X 14 0).toInt + 1 ≤ ((f_M_partR_J160 x1 x2 x3 X z4 z5 1) 14 0).toInt := by
  unfold f_M_partR_J160 at hw ⊢
  rw [if_neg (by decide)] at hw ⊢
  by_cases c : (f_M_readDescriptionR X) 15 0 = 0
  · rw [if_pos c]
    have s1 := rdR_a h
    have s2 := ptR_a213 (x1 := x1) (x2 := x2) (x3 := x3) (z4 := z4) (z5 := z5) (z7 := (f_M_fitting (f_M_readDescriptionR X) 3)) (z8 := (f_M_fitting (f_M_readDescriptionR X) 2)) (z9 := (f_M_has ((f_M_readDescriptionR X) 16 0) 1)) s1.1
    have s3 := s2.2.2.1
    have s4 := rdR_lt h c
    omega
  · rw [if_neg c] at hw
    exact absurd hw c
theorem ptR_lt {X : Nat → Nat → Int32} {x1 x2 x3 : Int32} (h : m_a X) (hw : (f_M_partR X x1 x2 x3) 15 0 = 0) : (X 14 0).toInt + 1 ≤ ((f_M_partR X x1 x2 x3) 14 0).toInt := by
  rcases ptR_cases X x1 x2 x3 with ⟨z4, z5, e⟩ | ⟨c, z4, z5, z6, e⟩ | ⟨c, c2, z4, z5, z6, e⟩
  · rw [e] at hw ⊢; exact ptR_lt160 (X := (upf (upf (upf X 19 (fun _ => 0)) 20 (fun _ => 0)) 22 (fun _ => 0))) h hw
  · rw [e]
    have s1 : ((X 14 0) + 1).toInt ≤ _ := (ptR_l1 (x1 := x1) (x2 := x2) (x3 := x3) (z4 := z4) (z5 := z5) (z6 := z6) h c).2.2.1
    have s2 := nc_add1 c
    omega
  · rw [e]
    have s1 : ((X 14 0) + 1).toInt ≤ _ := (ptR_l2 (x1 := x1) (x2 := x2) (x3 := x3) (z4 := z4) (z5 := z5) (z6 := z6) h c c2).2.2.1
    have s2 := nc_add1 c
    omega
theorem ptR_fx254 {x1 x2 x3 y4 y5 y8 y9 z10 : Int32} {X : Nat → Nat → Int32} {k : Nat} (h1 : Nat.beq k 19 = false) (h2 : Nat.beq k 20 = false) (h3 : Nat.beq k 21 = false) (h4 : Nat.beq k 22 = false) : (if (X 19 0) = 0 then (if z10 = 0 then (if x1 = 0 then (upf X 19 (fun _ => 5)) else (upf X 19 (fun _ => 5))) else (if y5 ≤ (f_bitCount z10) then (if x1 = 0 then (upf X 19 (fun _ => (X 19 0))) else (if (X 19 0) ≤ 0 then (f_M_partR_J400 x1 x2 x3 (upf X 19 (fun _ => (X 19 0))) y4 y5 y8 y9 z10) else (upf X 19 (fun _ => (X 19 0))))) else (if x1 = 0 then (upf X 19 (fun _ => 6)) else (upf X 19 (fun _ => 6))))) else (if x1 = 0 then (upf X 19 (fun _ => (X 19 0))) else (if (X 19 0) ≤ 0 then (f_M_partR_J400 x1 x2 x3 (upf X 19 (fun _ => (X 19 0))) y4 y5 y8 y9 z10) else (upf X 19 (fun _ => (X 19 0)))))) k = X k := by
  split
  · split
    · split
      · exact upf_ne h1
      · exact upf_ne h1
    · split
      · split
        · exact upf_ne h1
        · split
          · rw [ptR_fr400 h1 h2 h3 h4, upf_ne h1]
          · exact upf_ne h1
      · split
        · exact upf_ne h1
        · exact upf_ne h1
  · split
    · exact upf_ne h1
    · split
      · rw [ptR_fr400 h1 h2 h3 h4, upf_ne h1]
      · exact upf_ne h1
/-- the fields that part leaves as they are -/
def pkR (k : Nat) : Prop := (Nat.beq k 14 = false ∧ Nat.beq k 15 = false ∧ Nat.beq k 16 = false ∧ Nat.beq k 17 = false ∧ Nat.beq k 18 = false) ∧ Nat.beq k 19 = false ∧ Nat.beq k 20 = false ∧ Nat.beq k 21 = false ∧ Nat.beq k 22 = false
theorem ptR_fr254 {x1 x2 x3 y4 y5 y8 y9 : Int32} {k : Nat} (hk : pkR k) : ∀ (n : Nat) (X : Nat → Nat → Int32) (z10 : Int32), (f_M_partR_L254 x1 x2 x3 y4 y5 y8 y9 n X z10) k = X k := by
  obtain ⟨⟨k14, k15, k16, k17, k18⟩, k19, k20, k21, k22⟩ := hk
  intro n
  induction n with
  | zero => intro X z; rfl
  | succ n ih =>
    intro X z
    rw [f_M_partR_L254]
    split
    · exact ptR_fx254 k19 k20 k21 k22
    · split
      · split
        · split
          · split
            · rw [ih, upf_ne k21, upf_ne k19, rdR_fr k14 k15 k16 k17 k18, upf_ne k14]
            · rw [ih, upf_ne k21, upf_ne k19, rdR_fr k14 k15 k16 k17 k18, upf_ne k14]
          · rw [ih, rdR_fr k14 k15 k16 k17 k18, upf_ne k14]
        · rw [rdR_fr k14 k15 k16 k17 k18, upf_ne k14]
      · exact ptR_fx254 k19 k20 k21 k22
theorem ptR_fr213 {x1 x2 x3 z4 z5 z7 z8 z9 : Int32} {X : Nat → Nat → Int32} {k : Nat} (hk : pkR k) : (f_M_partR_J213 x1 x2 x3 X z4 z5 z7 z8 z9) k = X k := by
  have hk2 := hk
  obtain ⟨-, k19, k20, k21, k22⟩ := hk2
  unfold f_M_partR_J213 f_M_partR_J254
  split
  · rw [ptR_fr254 hk, upf_ne k21, upf_ne k19]
  · split
    · rw [ptR_fr254 hk, upf_ne k21, upf_ne k19]
    · rw [ptR_fr254 hk, upf_ne k21, upf_ne k19]
theorem ptR_fr160 {x1 x2 x3 z4 z5 z6 : Int32} {X : Nat → Nat → Int32} {k : Nat} (hk : pkR k) : (f_M_partR_J160 x1 x2 x3 X z4 z5 z6) k = X k := by
  have hk2 := hk
  obtain ⟨⟨k14, k15, k16, k17, k18⟩, -⟩ := hk2
  unfold f_M_partR_J160
  split
  · exact ptR_fr213 hk
  · split
    · rw [ptR_fr213 hk, rdR_fr k14 k15 k16 k17 k18]
    · exact rdR_fr k14 k15 k16 k17 k18
theorem ptR_fr {X : Nat → Nat → Int32} {x1 x2 x3 : Int32} {k : Nat} (hk : pkR k) : (f_M_partR X x1 x2 x3) k = X k := by
  have hk2 := hk
  obtain ⟨⟨k14, -⟩, k19, k20, k21, k22⟩ := hk2
  rcases ptR_cases X x1 x2 x3 with ⟨z4, z5, e⟩ | ⟨c, z4, z5, z6, e⟩ | ⟨c, c2, z4, z5, z6, e⟩
  · rw [e, ptR_fr160 hk, upf_ne k22, upf_ne k20, upf_ne k19]
  · rw [e, ptR_fr160 hk, upf_ne k22, upf_ne k20, upf_ne k19, upf_ne k14]
  · rw [e, ptR_fr160 hk, upf_ne k22, upf_ne k20, upf_ne k19, upf_ne k14]
theorem pt_tR {X : Nat → Nat → Int32} {x1 x2 x3 : Int32} (h : m_t X) : m_t (f_M_partR X x1 x2 x3) := by
  unfold m_t
  rw [ptR_fr ⟨⟨rfl, rfl, rfl, rfl, rfl⟩, rfl, rfl, rfl, rfl⟩]
  exact h
theorem pt_kR {X : Nat → Nat → Int32} {x1 x2 x3 : Int32} (h : m_k X) : m_k (f_M_partR X x1 x2 x3) := by
  unfold m_k
  rw [ptR_fr ⟨⟨rfl, rfl, rfl, rfl, rfl⟩, rfl, rfl, rfl, rfl⟩]
  exact h
