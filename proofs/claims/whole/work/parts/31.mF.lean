def f_M_partF_L408 (x1 x2 x3 : Int32) (y4 y5 y8 y9 y10 : Int32) : Nat → (Nat → Nat → Int32) → Int32 → (Nat → Nat → Int32)
  | 0, X, z11 => X
  | n + 1, X, z11 => (if y5 ≤ z11 then X else (f_M_partF_L408 x1 x2 x3 y4 y5 y8 y9 y10 n (upf X 22 (fun _ => ((X 22 0) ||| (f_M_least (f_M_likeliest X (y10 &&& ((X 22 0) ^^^ (-1)))))))) (z11 + 1)))
def f_M_partF_J400 (x1 x2 x3 : Int32) (X : (Nat → Nat → Int32)) (z4 z5 z8 z9 z10 : Int32) : (Nat → Nat → Int32) := (if z5 ≤ 0 then (if z4 = 0 then (if (z10 &&& z8) = 0 then (if x3 = 0 then (if (f_M_likeliest X z10) = 0 then (upf (upf X 19 (fun _ => 3)) 21 (fun _ => 0)) else (if z9 = 0 then (if (f_M_areAlike X (f_M_likeliest X z10)) = 0 then (upf X 20 (fun _ => (f_M_likeliest X z10))) else (upf X 22 (fun _ => (f_M_least (f_M_likeliest X z10))))) else (upf X 22 (fun _ => (f_M_least (f_M_likeliest X z10)))))) else (if (f_M_likeliest X (z10 &&& x2)) = 0 then (upf (upf X 19 (fun _ => 3)) 21 (fun _ => 0)) else (if z9 = 0 then (if (f_M_areAlike X (f_M_likeliest X (z10 &&& x2))) = 0 then (upf X 20 (fun _ => (f_M_likeliest X (z10 &&& x2)))) else (upf X 22 (fun _ => (f_M_least (f_M_likeliest X (z10 &&& x2)))))) else (upf X 22 (fun _ => (f_M_least (f_M_likeliest X (z10 &&& x2)))))))) else (upf X 22 (fun _ => (z10 &&& z8)))) else (upf X 22 (fun _ => z10))) else (f_M_partF_L408 x1 x2 x3 z4 z5 z8 z9 z10 (nc_mu z5 0 + 1) X 0))
def f_M_partF_L254 (x1 x2 x3 : Int32) (y4 y5 y8 y9 : Int32) : Nat → (Nat → Nat → Int32) → Int32 → (Nat → Nat → Int32)
  | 0, X, z10 => X
  | n + 1, X, z10 => (if y4 = 0 then (if (X 19 0) = 0 then (if z10 = 0 then (if x1 = 0 then (upf X 19 (fun _ => 5)) else (upf X 19 (fun _ => 5))) else (if y5 ≤ (f_bitCount z10) then (if x1 = 0 then (upf X 19 (fun _ => (X 19 0))) else (if (X 19 0) ≤ 0 then (f_M_partF_J400 x1 x2 x3 (upf X 19 (fun _ => (X 19 0))) y4 y5 y8 y9 z10) else (upf X 19 (fun _ => (X 19 0))))) else (if x1 = 0 then (upf X 19 (fun _ => 6)) else (upf X 19 (fun _ => 6))))) else (if x1 = 0 then (upf X 19 (fun _ => (X 19 0))) else (if (X 19 0) ≤ 0 then (f_M_partF_J400 x1 x2 x3 (upf X 19 (fun _ => (X 19 0))) y4 y5 y8 y9 z10) else (upf X 19 (fun _ => (X 19 0)))))) else (if (f_M_hereF X) = 35 then (if ((f_M_readDescriptionF (upf X 14 (fun _ => ((X 14 0) + 1)))) 15 0) = 0 then (if ((f_M_readDescriptionF (upf X 14 (fun _ => ((X 14 0) + 1)))) 19 0) = 0 then (if ((f_M_fitting (f_M_readDescriptionF (upf X 14 (fun _ => ((X 14 0) + 1)))) 3) &&& z10) = 0 then (f_M_partF_L254 x1 x2 x3 y4 y5 y8 y9 n (upf (upf (f_M_readDescriptionF (upf X 14 (fun _ => ((X 14 0) + 1)))) 19 (fun _ => 4)) 21 (fun _ => (f_bitCount (z10 &&& (((f_M_fitting (f_M_readDescriptionF (upf X 14 (fun _ => ((X 14 0) + 1)))) 3) &&& z10) ^^^ (-1)))))) (z10 &&& (((f_M_fitting (f_M_readDescriptionF (upf X 14 (fun _ => ((X 14 0) + 1)))) 3) &&& z10) ^^^ (-1)))) else (f_M_partF_L254 x1 x2 x3 y4 y5 y8 y9 n (upf (upf (f_M_readDescriptionF (upf X 14 (fun _ => ((X 14 0) + 1)))) 19 (fun _ => 0)) 21 (fun _ => (f_bitCount (z10 &&& (((f_M_fitting (f_M_readDescriptionF (upf X 14 (fun _ => ((X 14 0) + 1)))) 3) &&& z10) ^^^ (-1)))))) (z10 &&& (((f_M_fitting (f_M_readDescriptionF (upf X 14 (fun _ => ((X 14 0) + 1)))) 3) &&& z10) ^^^ (-1))))) else (f_M_partF_L254 x1 x2 x3 y4 y5 y8 y9 n (f_M_readDescriptionF (upf X 14 (fun _ => ((X 14 0) + 1)))) z10)) else (f_M_readDescriptionF (upf X 14 (fun _ => ((X 14 0) + 1))))) else (if (X 19 0) = 0 then (if z10 = 0 then (if x1 = 0 then (upf X 19 (fun _ => 5)) else (upf X 19 (fun _ => 5))) else (if y5 ≤ (f_bitCount z10) then (if x1 = 0 then (upf X 19 (fun _ => (X 19 0))) else (if (X 19 0) ≤ 0 then (f_M_partF_J400 x1 x2 x3 (upf X 19 (fun _ => (X 19 0))) y4 y5 y8 y9 z10) else (upf X 19 (fun _ => (X 19 0))))) else (if x1 = 0 then (upf X 19 (fun _ => 6)) else (upf X 19 (fun _ => 6))))) else (if x1 = 0 then (upf X 19 (fun _ => (X 19 0))) else (if (X 19 0) ≤ 0 then (f_M_partF_J400 x1 x2 x3 (upf X 19 (fun _ => (X 19 0))) y4 y5 y8 y9 z10) else (upf X 19 (fun _ => (X 19 0))))))))
def f_M_partF_J254 (x1 x2 x3 : Int32) (X : (Nat → Nat → Int32)) (z4 z5 z8 z9 z10 : Int32) : (Nat → Nat → Int32) := (f_M_partF_L254 x1 x2 x3 z4 z5 z8 z9 (nc_mu (X 13 0) (X 14 0) + 1) X z10)
def f_M_partF_J213 (x1 x2 x3 : Int32) (X : (Nat → Nat → Int32)) (z4 z5 z7 z8 z9 : Int32) : (Nat → Nat → Int32) := (if z7 = 0 then (f_M_partF_J254 x1 x2 x3 (upf (upf X 19 (fun _ => 2)) 21 (fun _ => (f_bitCount (z7 &&& (f_M_there X))))) z4 z5 z8 z9 (z7 &&& (f_M_there X))) else (if (z7 &&& (f_M_there X)) = 0 then (f_M_partF_J254 x1 x2 x3 (upf (upf X 19 (fun _ => 3)) 21 (fun _ => (f_bitCount (z7 &&& (f_M_there X))))) z4 z5 z8 z9 (z7 &&& (f_M_there X))) else (f_M_partF_J254 x1 x2 x3 (upf (upf X 19 (fun _ => 0)) 21 (fun _ => (f_bitCount (z7 &&& (f_M_there X))))) z4 z5 z8 z9 (z7 &&& (f_M_there X)))))
def f_M_partF_J160 (x1 x2 x3 : Int32) (X : (Nat → Nat → Int32)) (z4 z5 z6 : Int32) : (Nat → Nat → Int32) := (if z6 = 0 then (f_M_partF_J213 x1 x2 x3 X z4 z5 (f_M_everything X) 0 0) else (if ((f_M_readDescriptionF X) 15 0) = 0 then (f_M_partF_J213 x1 x2 x3 (f_M_readDescriptionF X) z4 z5 (f_M_fitting (f_M_readDescriptionF X) 3) (f_M_fitting (f_M_readDescriptionF X) 2) (f_M_has ((f_M_readDescriptionF X) 16 0) 1)) else (f_M_readDescriptionF X)))
def f_M_partF (X : Nat → Nat → Int32) (x1 x2 x3 : Int32) : (Nat → Nat → Int32) := (if (f_M_hereF (upf (upf (upf X 19 (fun _ => 0)) 20 (fun _ => 0)) 22 (fun _ => 0))) = 34 then (if (f_M_hereF (upf (upf (upf X 19 (fun _ => 0)) 20 (fun _ => 0)) 22 (fun _ => 0))) ≤ 40 then (if (f_M_hereF (upf (upf (upf (upf X 14 (fun _ => ((X 14 0) + 1))) 19 (fun _ => 0)) 20 (fun _ => 0)) 22 (fun _ => 0))) = 37 then (f_M_partF_J160 x1 x2 x3 (upf (upf (upf (upf X 14 (fun _ => (((X 14 0) + 1) + 1))) 19 (fun _ => 0)) 20 (fun _ => 0)) 22 (fun _ => 0)) 1 0 1) else (if (X 13 0) ≤ ((X 14 0) + 1) then (f_M_partF_J160 x1 x2 x3 (upf (upf (upf (upf X 14 (fun _ => ((X 14 0) + 1))) 19 (fun _ => 0)) 20 (fun _ => 0)) 22 (fun _ => 0)) 1 0 0) else (if (f_M_hereF (upf (upf (upf (upf X 14 (fun _ => ((X 14 0) + 1))) 19 (fun _ => 0)) 20 (fun _ => 0)) 22 (fun _ => 0))) = 35 then (f_M_partF_J160 x1 x2 x3 (upf (upf (upf (upf X 14 (fun _ => ((X 14 0) + 1))) 19 (fun _ => 0)) 20 (fun _ => 0)) 22 (fun _ => 0)) 1 0 0) else (if (f_M_hereF (upf (upf (upf (upf X 14 (fun _ => ((X 14 0) + 1))) 19 (fun _ => 0)) 20 (fun _ => 0)) 22 (fun _ => 0))) = 36 then (f_M_partF_J160 x1 x2 x3 (upf (upf (upf (upf X 14 (fun _ => ((X 14 0) + 1))) 19 (fun _ => 0)) 20 (fun _ => 0)) 22 (fun _ => 0)) 1 0 0) else (f_M_partF_J160 x1 x2 x3 (upf (upf (upf (upf X 14 (fun _ => ((X 14 0) + 1))) 19 (fun _ => 0)) 20 (fun _ => 0)) 22 (fun _ => 0)) 1 0 1))))) else (if (f_M_hereF (upf (upf (upf (upf X 14 (fun _ => ((X 14 0) + 1))) 19 (fun _ => 0)) 20 (fun _ => 0)) 22 (fun _ => 0))) = 37 then (if 0 < ((f_M_hereF (upf (upf (upf X 19 (fun _ => 0)) 20 (fun _ => 0)) 22 (fun _ => 0))) - 40) then (f_M_partF_J160 x1 x2 x3 (upf (upf (upf (upf X 14 (fun _ => (((X 14 0) + 1) + 1))) 19 (fun _ => 0)) 20 (fun _ => 0)) 22 (fun _ => 0)) 1 ((f_M_hereF (upf (upf (upf X 19 (fun _ => 0)) 20 (fun _ => 0)) 22 (fun _ => 0))) - 40) 1) else (f_M_partF_J160 x1 x2 x3 (upf (upf (upf (upf X 14 (fun _ => (((X 14 0) + 1) + 1))) 19 (fun _ => 0)) 20 (fun _ => 0)) 22 (fun _ => 0)) 1 ((f_M_hereF (upf (upf (upf X 19 (fun _ => 0)) 20 (fun _ => 0)) 22 (fun _ => 0))) - 40) 1)) else (if 0 < ((f_M_hereF (upf (upf (upf X 19 (fun _ => 0)) 20 (fun _ => 0)) 22 (fun _ => 0))) - 40) then (f_M_partF_J160 x1 x2 x3 (upf (upf (upf (upf X 14 (fun _ => ((X 14 0) + 1))) 19 (fun _ => 0)) 20 (fun _ => 0)) 22 (fun _ => 0)) 1 ((f_M_hereF (upf (upf (upf X 19 (fun _ => 0)) 20 (fun _ => 0)) 22 (fun _ => 0))) - 40) 1) else (if (X 13 0) ≤ ((X 14 0) + 1) then (f_M_partF_J160 x1 x2 x3 (upf (upf (upf (upf X 14 (fun _ => ((X 14 0) + 1))) 19 (fun _ => 0)) 20 (fun _ => 0)) 22 (fun _ => 0)) 1 ((f_M_hereF (upf (upf (upf X 19 (fun _ => 0)) 20 (fun _ => 0)) 22 (fun _ => 0))) - 40) 0) else (if (f_M_hereF (upf (upf (upf (upf X 14 (fun _ => ((X 14 0) + 1))) 19 (fun _ => 0)) 20 (fun _ => 0)) 22 (fun _ => 0))) = 35 then (f_M_partF_J160 x1 x2 x3 (upf (upf (upf (upf X 14 (fun _ => ((X 14 0) + 1))) 19 (fun _ => 0)) 20 (fun _ => 0)) 22 (fun _ => 0)) 1 ((f_M_hereF (upf (upf (upf X 19 (fun _ => 0)) 20 (fun _ => 0)) 22 (fun _ => 0))) - 40) 0) else (if (f_M_hereF (upf (upf (upf (upf X 14 (fun _ => ((X 14 0) + 1))) 19 (fun _ => 0)) 20 (fun _ => 0)) 22 (fun _ => 0))) = 36 then (f_M_partF_J160 x1 x2 x3 (upf (upf (upf (upf X 14 (fun _ => ((X 14 0) + 1))) 19 (fun _ => 0)) 20 (fun _ => 0)) 22 (fun _ => 0)) 1 ((f_M_hereF (upf (upf (upf X 19 (fun _ => 0)) 20 (fun _ => 0)) 22 (fun _ => 0))) - 40) 0) else (f_M_partF_J160 x1 x2 x3 (upf (upf (upf (upf X 14 (fun _ => ((X 14 0) + 1))) 19 (fun _ => 0)) 20 (fun _ => 0)) 22 (fun _ => 0)) 1 ((f_M_hereF (upf (upf (upf X 19 (fun _ => 0)) 20 (fun _ => 0)) 22 (fun _ => 0))) - 40) 1))))))) else (if (f_M_hereF (upf (upf (upf X 19 (fun _ => 0)) 20 (fun _ => 0)) 22 (fun _ => 0))) ≤ 40 then (f_M_partF_J160 x1 x2 x3 (upf (upf (upf X 19 (fun _ => 0)) 20 (fun _ => 0)) 22 (fun _ => 0)) 0 0 1) else (if ((f_M_hereF (upf (upf (upf X 19 (fun _ => 0)) 20 (fun _ => 0)) 22 (fun _ => 0))) - 40) ≤ 0 then (f_M_partF_J160 x1 x2 x3 (upf (upf (upf X 19 (fun _ => 0)) 20 (fun _ => 0)) 22 (fun _ => 0)) 0 ((f_M_hereF (upf (upf (upf X 19 (fun _ => 0)) 20 (fun _ => 0)) 22 (fun _ => 0))) - 40) 1) else (if (f_M_hereF (upf (upf (upf (upf X 14 (fun _ => ((X 14 0) + 1))) 19 (fun _ => 0)) 20 (fun _ => 0)) 22 (fun _ => 0))) = 37 then (if 0 < ((f_M_hereF (upf (upf (upf X 19 (fun _ => 0)) 20 (fun _ => 0)) 22 (fun _ => 0))) - 40) then (f_M_partF_J160 x1 x2 x3 (upf (upf (upf (upf X 14 (fun _ => (((X 14 0) + 1) + 1))) 19 (fun _ => 0)) 20 (fun _ => 0)) 22 (fun _ => 0)) 0 ((f_M_hereF (upf (upf (upf X 19 (fun _ => 0)) 20 (fun _ => 0)) 22 (fun _ => 0))) - 40) 1) else (f_M_partF_J160 x1 x2 x3 (upf (upf (upf (upf X 14 (fun _ => (((X 14 0) + 1) + 1))) 19 (fun _ => 0)) 20 (fun _ => 0)) 22 (fun _ => 0)) 0 ((f_M_hereF (upf (upf (upf X 19 (fun _ => 0)) 20 (fun _ => 0)) 22 (fun _ => 0))) - 40) 1)) else (if 0 < ((f_M_hereF (upf (upf (upf X 19 (fun _ => 0)) 20 (fun _ => 0)) 22 (fun _ => 0))) - 40) then (f_M_partF_J160 x1 x2 x3 (upf (upf (upf (upf X 14 (fun _ => ((X 14 0) + 1))) 19 (fun _ => 0)) 20 (fun _ => 0)) 22 (fun _ => 0)) 0 ((f_M_hereF (upf (upf (upf X 19 (fun _ => 0)) 20 (fun _ => 0)) 22 (fun _ => 0))) - 40) 1) else (if (X 13 0) ≤ ((X 14 0) + 1) then (f_M_partF_J160 x1 x2 x3 (upf (upf (upf (upf X 14 (fun _ => ((X 14 0) + 1))) 19 (fun _ => 0)) 20 (fun _ => 0)) 22 (fun _ => 0)) 0 ((f_M_hereF (upf (upf (upf X 19 (fun _ => 0)) 20 (fun _ => 0)) 22 (fun _ => 0))) - 40) 0) else (if (f_M_hereF (upf (upf (upf (upf X 14 (fun _ => ((X 14 0) + 1))) 19 (fun _ => 0)) 20 (fun _ => 0)) 22 (fun _ => 0))) = 35 then (f_M_partF_J160 x1 x2 x3 (upf (upf (upf (upf X 14 (fun _ => ((X 14 0) + 1))) 19 (fun _ => 0)) 20 (fun _ => 0)) 22 (fun _ => 0)) 0 ((f_M_hereF (upf (upf (upf X 19 (fun _ => 0)) 20 (fun _ => 0)) 22 (fun _ => 0))) - 40) 0) else (if (f_M_hereF (upf (upf (upf (upf X 14 (fun _ => ((X 14 0) + 1))) 19 (fun _ => 0)) 20 (fun _ => 0)) 22 (fun _ => 0))) = 36 then (f_M_partF_J160 x1 x2 x3 (upf (upf (upf (upf X 14 (fun _ => ((X 14 0) + 1))) 19 (fun _ => 0)) 20 (fun _ => 0)) 22 (fun _ => 0)) 0 ((f_M_hereF (upf (upf (upf X 19 (fun _ => 0)) 20 (fun _ => 0)) 22 (fun _ => 0))) - 40) 0) else (f_M_partF_J160 x1 x2 x3 (upf (upf (upf (upf X 14 (fun _ => ((X 14 0) + 1))) 19 (fun _ => 0)) 20 (fun _ => 0)) 22 (fun _ => 0)) 0 ((f_M_hereF (upf (upf (upf X 19 (fun _ => 0)) 20 (fun _ => 0)) 22 (fun _ => 0))) - 40) 1)))))))))
abbrev ws_M_partF : List Cond := .code y_M_part b_M_part 12 none :: lw_G
abbrev rm_M_partF : Room := { frames := 4, cells := 0, slots := 0, locals := 91 }
set_option maxHeartbeats 4000000 in
set_option maxRecDepth 100000 in
theorem c_M_partF (l : Launch) (dC : Nat → ClassId) (dI : Nat → Nat → Nat) (cA cZ : ClassId) (sz : Nat) (a : Nat → Nat) (X : Nat → Nat → Int32) (x1 x2 x3 : Int32) (hma : m_a X) (hmt : m_t X) (hmk : m_k X) : Met l y_M_part ws_M_partF rm_M_partF (nc_PreZM (dC, dI) cA cZ sz [.ref (a 0), .int x1, .int x2, .int x3] (w_M cA cZ a (.ref (a 10)) X)) (va_Qv (fun _ : Unit => True) (fun _ t => va_P (dC, dI) classes (w_M cA cZ a (.ref (a 10)) (f_M_partF X x1 x2 x3)) t.heap ∧ va_D (va_A (w_M cA cZ a (.ref (a 10)) X) sz) (w_M cA cZ a (.ref (a 10)) (f_M_partF X x1 x2 x3))) (va_A (w_M cA cZ a (.ref (a 10)) X) sz)) 0 0 (va_A (w_M cA cZ a (.ref (a 10)) X) sz) := by
  refine Met.ofW (cc := b_M_part) (maxL := 12) (ret := none) (by decide) rfl ?_
  intro p e s m args below meth c s₁ B hml hv
  obtain ⟨rfl, hsz, hP, hK, hD0, hN⟩ := hv
  have hx := B.exec
  have hb := B.bytes
  have hr := B.returns
  have hts : ∀ w ∈ lw_G, w.before [.ref (a 0), .int x1, .int x2, .int x3].toArray s = true := fun w h => atoms_spec (ws := ws_M_partF) B.pre w (List.mem_cons_of_mem _ h)
  have hown : s.vm.findClass R_M = some m.cls := findClass_of_methodNamed B.named
  have hlocks := B.notSynchronized
  have hfix : CallFix p m c b_M_part 12 s [.ref (a 0), .int x1, .int x2, .int x3].toArray lw_G R_M := ⟨hx, hb, hml, hown, hts⟩
  have hK1 := hK.sub (tys' := [(cA, .int)]) [0] rfl
  subst hsz
  have hD := hD0.self (sz := s.heap.size)
  generalize hAe : va_A (w_M cA cZ a (.ref (a 10)) X) s.heap.size = A at hD ⊢
  have hA : ∀ q : Nat, s.heap.size ≤ q → A q := fun q h => by rw [← hAe]; exact Or.inr h
  have hS : va_S A s.heap s.heap [] := va_S.rf
  have hl := lv_entry ([.ref (a 0), .int x1, .int x2, .int x3]) (n := 12) (Nat.le_of_ble_eq_true rfl)
  rw [lg_entry_eq]
  generalize (lg_sl ([.ref (a 0), .int x1, .int x2, .int x3]) ++ List.replicate (12 - (lg_sl ([.ref (a 0), .int x1, .int x2, .int x3])).length) Slot.unset).toArray = ls at hl ⊢
  have hl : lv_has ls 12 [(0, .ref (a 0)), (1, .int x1), (2, .int x2), (3, .int x3)] := hl
  have join_400 : ∀ (Xq : (Nat → Nat → Int32)) (z4 z5 z8 z9 z10 : Int32) (H : Heap) (locs : List Loc) (ls : Array Slot), (f_M_partF X x1 x2 x3) = (f_M_partF_J400 x1 x2 x3 Xq z4 z5 z8 z9 z10) → m_a Xq → m_t Xq → m_k Xq → va_P (dC, dI) classes (w_M cA cZ a (.ref (a 10)) Xq) H → va_D A (w_M cA cZ a (.ref (a 10)) Xq) → va_S A s.heap H locs → lv_has ls 12 [(0, .ref (a 0)), (1, .int x1), (2, .int x2), (3, .int x3), (4, .int z4), (5, .int z5), (8, .int z8), (9, .int z9), (10, .int z10)] → W p l e (headSpec ws_M_partF rm_M_partF).room s m [.ref (a 0), .int x1, .int x2, .int x3].toArray below meth c H locs 0 0 (MQ below (va_Qv (fun _ : Unit => True) (fun _ t => va_P (dC, dI) classes (w_M cA cZ a (.ref (a 10)) (f_M_partF X x1 x2 x3)) t.heap ∧ va_D A (w_M cA cZ a (.ref (a 10)) (f_M_partF X x1 x2 x3))) A) [.ref (a 0), .int x1, .int x2, .int x3].toArray s 0 0 A) (F0 m 400 ls []) := by
    intro Xq z4 z5 z8 z9 z10 H locs ls hE hma hmt hmk hP hD hS hl
    refine lv_iload hx hb d_M_part_400 (lv_at hl 5 rfl) ?_
    refine lv_if_le (tgt := 447) hx hb d_M_part_402 (by decide) (fun c_754 => ?_) (fun c_754 => ?_)
    · refine lv_iload hx hb d_M_part_447 (lv_at hl 4 rfl) ?_
      refine lv_if_ne (tgt := 460) hx hb d_M_part_449 (by decide) (fun c_755 => ?_) (fun c_755 => ?_)
      · refine lv_aload_n hx hb d_M_part_460 rfl (lv_at hl 0 rfl) ?_
        refine lv_iload hx hb d_M_part_461 (lv_at hl 4 rfl) ?_
        refine lv_if_eq (tgt := 471) hx hb d_M_part_463 (by decide) (fun c_756 => ?_) (fun c_756 => ?_)
        · exact absurd c_756 c_755
        · refine lv_iload hx hb d_M_part_466 (lv_at hl 8 rfl) ?_
          refine lv_goto (tgt := 476) hx hb d_M_part_468 (by decide) ?_
          refine va_put (D := (dC, dI)) (ci := 4) (v := .int z10) (ty := .int) (C := R_M) (T := F_M) (N := 39) hx hb hts i_M t_M t_M_ok n_M hown hK hP hD hS 0 rfl rfl 22 (by decide) (hts _ m_f_M_143) (fun _ h9 => h9) rfl (by decide +kernel) rfl rfl (Nat.le_of_ble_eq_true rfl) d_M_part_476 (fun H locs hP hD hS => ?_)
          have hP : va_P (dC, dI) classes (w_M cA cZ a (.ref (a 10)) (upf Xq 22 (fun _ => z10))) H := hP
          have hD : va_D A (w_M cA cZ a (.ref (a 10)) (upf Xq 22 (fun _ => z10))) := hD
          have hF : (f_M_partF X x1 x2 x3) = (upf Xq 22 (fun _ => z10)) := by rw [hE, f_M_partF_J400, if_pos c_754, if_neg c_755]
          exact W.vret hx hb hr (fun t ht hW => ⟨⟨(), rfl, trivial, by rw [hF, ht]; exact hP, by rw [hF]; exact hD⟩, hS.F ht⟩) hS.2.2 d_M_part_479
      · refine lv_iload hx hb d_M_part_452 (lv_at hl 8 rfl) ?_
        refine lv_iload hx hb d_M_part_454 (lv_at hl 6 rfl) ?_
        refine lv_iand hx hb d_M_part_456 ?_
        refine lv_if_eq (tgt := 480) hx hb d_M_part_457 (by decide) (fun c_757 => ?_) (fun c_757 => ?_)
        · refine lv_aload_n hx hb d_M_part_480 rfl (lv_at hl 0 rfl) ?_
          refine lv_iload_n hx hb d_M_part_481 rfl (lv_at hl 3 rfl) ?_
          refine lv_if_eq (tgt := 492) hx hb d_M_part_482 (by decide) (fun c_758 => ?_) (fun c_758 => ?_)
          · refine lv_iload hx hb d_M_part_492 (lv_at hl 8 rfl) ?_
            refine nc_ro (va_runV (As := [.int z10]) (rest := []) hfix (c_M_likeliest l dC dI cA cZ a (.ref (a 10)) Xq z10 hmt) (k_M_163 hts hN ⟨Nat.le_of_ble_eq_true rfl, Nat.le_of_ble_eq_true rfl⟩) (nc_preVZ hK hN hP hD rfl rfl) rfl rfl hl.1 rfl (lv_room (Nat.le_of_ble_eq_true rfl)) d_M_part_494 ⟨Nat.zero_le _, Nat.zero_le _⟩) (fun r er => ?_)
            subst er
            refine lv_istore (lv' := [(11, .int (f_M_likeliest Xq z10)), (0, .ref (a 0)), (1, .int x1), (2, .int x2), (3, .int x3), (4, .int z4), (5, .int z5), (8, .int z8), (9, .int z9), (10, .int z10)]) hx hb d_M_part_497 hl (by decide) rfl (fun ls hl => ?_)
            refine lv_iload hx hb d_M_part_499 (lv_at hl 0 rfl) ?_
            refine lv_if_ne (tgt := 517) hx hb d_M_part_501 (by decide) (fun c_759 => ?_) (fun c_759 => ?_)
            · refine lv_iload hx hb d_M_part_517 (lv_at hl 8 rfl) ?_
              refine lv_if_ne (tgt := 531) hx hb d_M_part_519 (by decide) (fun c_760 => ?_) (fun c_760 => ?_)
              · refine lv_aload_n hx hb d_M_part_531 rfl (lv_at hl 1 rfl) ?_
                refine lv_iload hx hb d_M_part_532 (lv_at hl 0 rfl) ?_
                refine nc_ro (va_runS (As := [.int (f_M_likeliest Xq z10)]) (rest := [.ref (a 0)]) hfix (c_M_least l dC dI cA (f_M_likeliest Xq z10)) (k_M_166 hts hN ⟨Nat.le_of_ble_eq_true rfl, Nat.le_of_ble_eq_true rfl⟩) (nc_preS0 hK1 hN) rfl rfl hl.1 rfl (lv_room (Nat.le_of_ble_eq_true rfl)) d_M_part_534 ⟨Nat.zero_le _, Nat.zero_le _⟩) (fun r er => ?_)
                subst er
                refine va_put (D := (dC, dI)) (ci := 4) (v := .int (f_M_least (f_M_likeliest Xq z10))) (ty := .int) (C := R_M) (T := F_M) (N := 39) hx hb hts i_M t_M t_M_ok n_M hown hK hP hD hS 0 rfl rfl 22 (by decide) (hts _ m_f_M_143) (fun _ h9 => h9) rfl (by decide +kernel) rfl rfl (Nat.le_of_ble_eq_true rfl) d_M_part_537 (fun H locs hP hD hS => ?_)
                have hP : va_P (dC, dI) classes (w_M cA cZ a (.ref (a 10)) (upf Xq 22 (fun _ => (f_M_least (f_M_likeliest Xq z10))))) H := hP
                have hD : va_D A (w_M cA cZ a (.ref (a 10)) (upf Xq 22 (fun _ => (f_M_least (f_M_likeliest Xq z10))))) := hD
                refine lv_goto (tgt := 549) hx hb d_M_part_540 (by decide) ?_
                have hF : (f_M_partF X x1 x2 x3) = (upf Xq 22 (fun _ => (f_M_least (f_M_likeliest Xq z10)))) := by rw [hE, f_M_partF_J400, if_pos c_754, if_pos c_755, if_pos c_757, if_pos c_758, if_neg c_759, if_neg c_760]
                exact W.vret hx hb hr (fun t ht hW => ⟨⟨(), rfl, trivial, by rw [hF, ht]; exact hP, by rw [hF]; exact hD⟩, hS.F ht⟩) hS.2.2 d_M_part_549
              · refine lv_aload_n hx hb d_M_part_522 rfl (lv_at hl 1 rfl) ?_
                refine lv_iload hx hb d_M_part_523 (lv_at hl 0 rfl) ?_
                refine nc_ro (va_runV (As := [.int (f_M_likeliest Xq z10)]) (rest := []) hfix (c_M_areAlike l dC dI cA cZ a (.ref (a 10)) Xq (f_M_likeliest Xq z10) hmt) (k_M_169 hts hN ⟨Nat.le_of_ble_eq_true rfl, Nat.le_of_ble_eq_true rfl⟩) (nc_preVZ hK hN hP hD rfl rfl) rfl rfl hl.1 rfl (lv_room (Nat.le_of_ble_eq_true rfl)) d_M_part_525 ⟨Nat.zero_le _, Nat.zero_le _⟩) (fun r er => ?_)
                obtain ⟨rfl, hz_761⟩ := er
                refine lv_if_eq (tgt := 543) hx hb d_M_part_528 (by decide) (fun c_762 => ?_) (fun c_762 => ?_)
                · refine lv_aload_n hx hb d_M_part_543 rfl (lv_at hl 1 rfl) ?_
                  refine lv_iload hx hb d_M_part_544 (lv_at hl 0 rfl) ?_
                  refine va_put (D := (dC, dI)) (ci := 4) (v := .int (f_M_likeliest Xq z10)) (ty := .int) (C := R_M) (T := F_M) (N := 39) hx hb hts i_M t_M t_M_ok n_M hown hK hP hD hS 0 rfl rfl 20 (by decide) (hts _ m_f_M_140) (fun _ h9 => h9) rfl (by decide +kernel) rfl rfl (Nat.le_of_ble_eq_true rfl) d_M_part_546 (fun H locs hP hD hS => ?_)
                  have hP : va_P (dC, dI) classes (w_M cA cZ a (.ref (a 10)) (upf Xq 20 (fun _ => (f_M_likeliest Xq z10)))) H := hP
                  have hD : va_D A (w_M cA cZ a (.ref (a 10)) (upf Xq 20 (fun _ => (f_M_likeliest Xq z10)))) := hD
                  have hF : (f_M_partF X x1 x2 x3) = (upf Xq 20 (fun _ => (f_M_likeliest Xq z10))) := by rw [hE, f_M_partF_J400, if_pos c_754, if_pos c_755, if_pos c_757, if_pos c_758, if_neg c_759, if_pos c_760, if_pos c_762]
                  exact W.vret hx hb hr (fun t ht hW => ⟨⟨(), rfl, trivial, by rw [hF, ht]; exact hP, by rw [hF]; exact hD⟩, hS.F ht⟩) hS.2.2 d_M_part_549
                · refine lv_aload_n hx hb d_M_part_531 rfl (lv_at hl 1 rfl) ?_
                  refine lv_iload hx hb d_M_part_532 (lv_at hl 0 rfl) ?_
                  refine nc_ro (va_runS (As := [.int (f_M_likeliest Xq z10)]) (rest := [.ref (a 0)]) hfix (c_M_least l dC dI cA (f_M_likeliest Xq z10)) (k_M_166 hts hN ⟨Nat.le_of_ble_eq_true rfl, Nat.le_of_ble_eq_true rfl⟩) (nc_preS0 hK1 hN) rfl rfl hl.1 rfl (lv_room (Nat.le_of_ble_eq_true rfl)) d_M_part_534 ⟨Nat.zero_le _, Nat.zero_le _⟩) (fun r er => ?_)
                  subst er
                  refine va_put (D := (dC, dI)) (ci := 4) (v := .int (f_M_least (f_M_likeliest Xq z10))) (ty := .int) (C := R_M) (T := F_M) (N := 39) hx hb hts i_M t_M t_M_ok n_M hown hK hP hD hS 0 rfl rfl 22 (by decide) (hts _ m_f_M_143) (fun _ h9 => h9) rfl (by decide +kernel) rfl rfl (Nat.le_of_ble_eq_true rfl) d_M_part_537 (fun H locs hP hD hS => ?_)
                  have hP : va_P (dC, dI) classes (w_M cA cZ a (.ref (a 10)) (upf Xq 22 (fun _ => (f_M_least (f_M_likeliest Xq z10))))) H := hP
                  have hD : va_D A (w_M cA cZ a (.ref (a 10)) (upf Xq 22 (fun _ => (f_M_least (f_M_likeliest Xq z10))))) := hD
                  refine lv_goto (tgt := 549) hx hb d_M_part_540 (by decide) ?_
                  have hF : (f_M_partF X x1 x2 x3) = (upf Xq 22 (fun _ => (f_M_least (f_M_likeliest Xq z10)))) := by rw [hE, f_M_partF_J400, if_pos c_754, if_pos c_755, if_pos c_757, if_pos c_758, if_neg c_759, if_pos c_760, if_neg c_762]
                  exact W.vret hx hb hr (fun t ht hW => ⟨⟨(), rfl, trivial, by rw [hF, ht]; exact hP, by rw [hF]; exact hD⟩, hS.F ht⟩) hS.2.2 d_M_part_549
            · refine lv_aload_n hx hb d_M_part_504 rfl (lv_at hl 1 rfl) ?_
              refine lv_iconst (v := 3) hx hb d_M_part_505 (by decide) ?_
              refine va_put (D := (dC, dI)) (ci := 4) (v := .int 3) (ty := .int) (C := R_M) (T := F_M) (N := 39) hx hb hts i_M t_M t_M_ok n_M hown hK hP hD hS 0 rfl rfl 19 (by decide) (hts _ m_f_M_137) (fun _ h9 => h9) rfl (by decide +kernel) rfl rfl (Nat.le_of_ble_eq_true rfl) d_M_part_506 (fun H locs hP hD hS => ?_)
              have hP : va_P (dC, dI) classes (w_M cA cZ a (.ref (a 10)) (upf Xq 19 (fun _ => 3))) H := hP
              have hD : va_D A (w_M cA cZ a (.ref (a 10)) (upf Xq 19 (fun _ => 3))) := hD
              refine lv_aload_n hx hb d_M_part_509 rfl (lv_at hl 1 rfl) ?_
              refine lv_iconst (v := 0) hx hb d_M_part_510 (by decide) ?_
              refine va_put (D := (dC, dI)) (ci := 4) (v := .int 0) (ty := .int) (C := R_M) (T := F_M) (N := 39) hx hb hts i_M t_M t_M_ok n_M hown hK hP hD hS 0 rfl rfl 21 (by decide) (hts _ m_f_M_160) (fun _ h9 => h9) rfl (by decide +kernel) rfl rfl (Nat.le_of_ble_eq_true rfl) d_M_part_511 (fun H locs hP hD hS => ?_)
              have hP : va_P (dC, dI) classes (w_M cA cZ a (.ref (a 10)) (upf (upf Xq 19 (fun _ => 3)) 21 (fun _ => 0))) H := hP
              have hD : va_D A (w_M cA cZ a (.ref (a 10)) (upf (upf Xq 19 (fun _ => 3)) 21 (fun _ => 0))) := hD
              refine lv_goto (tgt := 549) hx hb d_M_part_514 (by decide) ?_
              have hF : (f_M_partF X x1 x2 x3) = (upf (upf Xq 19 (fun _ => 3)) 21 (fun _ => 0)) := by rw [hE, f_M_partF_J400, if_pos c_754, if_pos c_755, if_pos c_757, if_pos c_758, if_pos c_759]
              exact W.vret hx hb hr (fun t ht hW => ⟨⟨(), rfl, trivial, by rw [hF, ht]; exact hP, by rw [hF]; exact hD⟩, hS.F ht⟩) hS.2.2 d_M_part_549
          · refine lv_iload hx hb d_M_part_485 (lv_at hl 8 rfl) ?_
            refine lv_iload_n hx hb d_M_part_487 rfl (lv_at hl 2 rfl) ?_
            refine lv_iand hx hb d_M_part_488 ?_
            refine lv_goto (tgt := 494) hx hb d_M_part_489 (by decide) ?_
            refine nc_ro (va_runV (As := [.int (z10 &&& x2)]) (rest := []) hfix (c_M_likeliest l dC dI cA cZ a (.ref (a 10)) Xq (z10 &&& x2) hmt) (k_M_163 hts hN ⟨Nat.le_of_ble_eq_true rfl, Nat.le_of_ble_eq_true rfl⟩) (nc_preVZ hK hN hP hD rfl rfl) rfl rfl hl.1 rfl (lv_room (Nat.le_of_ble_eq_true rfl)) d_M_part_494 ⟨Nat.zero_le _, Nat.zero_le _⟩) (fun r er => ?_)
            subst er
            refine lv_istore (lv' := [(11, .int (f_M_likeliest Xq (z10 &&& x2))), (0, .ref (a 0)), (1, .int x1), (2, .int x2), (3, .int x3), (4, .int z4), (5, .int z5), (8, .int z8), (9, .int z9), (10, .int z10)]) hx hb d_M_part_497 hl (by decide) rfl (fun ls hl => ?_)
            refine lv_iload hx hb d_M_part_499 (lv_at hl 0 rfl) ?_
            refine lv_if_ne (tgt := 517) hx hb d_M_part_501 (by decide) (fun c_763 => ?_) (fun c_763 => ?_)
            · refine lv_iload hx hb d_M_part_517 (lv_at hl 8 rfl) ?_
              refine lv_if_ne (tgt := 531) hx hb d_M_part_519 (by decide) (fun c_764 => ?_) (fun c_764 => ?_)
              · refine lv_aload_n hx hb d_M_part_531 rfl (lv_at hl 1 rfl) ?_
                refine lv_iload hx hb d_M_part_532 (lv_at hl 0 rfl) ?_
                refine nc_ro (va_runS (As := [.int (f_M_likeliest Xq (z10 &&& x2))]) (rest := [.ref (a 0)]) hfix (c_M_least l dC dI cA (f_M_likeliest Xq (z10 &&& x2))) (k_M_166 hts hN ⟨Nat.le_of_ble_eq_true rfl, Nat.le_of_ble_eq_true rfl⟩) (nc_preS0 hK1 hN) rfl rfl hl.1 rfl (lv_room (Nat.le_of_ble_eq_true rfl)) d_M_part_534 ⟨Nat.zero_le _, Nat.zero_le _⟩) (fun r er => ?_)
                subst er
                refine va_put (D := (dC, dI)) (ci := 4) (v := .int (f_M_least (f_M_likeliest Xq (z10 &&& x2)))) (ty := .int) (C := R_M) (T := F_M) (N := 39) hx hb hts i_M t_M t_M_ok n_M hown hK hP hD hS 0 rfl rfl 22 (by decide) (hts _ m_f_M_143) (fun _ h9 => h9) rfl (by decide +kernel) rfl rfl (Nat.le_of_ble_eq_true rfl) d_M_part_537 (fun H locs hP hD hS => ?_)
                have hP : va_P (dC, dI) classes (w_M cA cZ a (.ref (a 10)) (upf Xq 22 (fun _ => (f_M_least (f_M_likeliest Xq (z10 &&& x2)))))) H := hP
                have hD : va_D A (w_M cA cZ a (.ref (a 10)) (upf Xq 22 (fun _ => (f_M_least (f_M_likeliest Xq (z10 &&& x2)))))) := hD
                refine lv_goto (tgt := 549) hx hb d_M_part_540 (by decide) ?_
                have hF : (f_M_partF X x1 x2 x3) = (upf Xq 22 (fun _ => (f_M_least (f_M_likeliest Xq (z10 &&& x2))))) := by rw [hE, f_M_partF_J400, if_pos c_754, if_pos c_755, if_pos c_757, if_neg c_758, if_neg c_763, if_neg c_764]
                exact W.vret hx hb hr (fun t ht hW => ⟨⟨(), rfl, trivial, by rw [hF, ht]; exact hP, by rw [hF]; exact hD⟩, hS.F ht⟩) hS.2.2 d_M_part_549
              · refine lv_aload_n hx hb d_M_part_522 rfl (lv_at hl 1 rfl) ?_
                refine lv_iload hx hb d_M_part_523 (lv_at hl 0 rfl) ?_
                refine nc_ro (va_runV (As := [.int (f_M_likeliest Xq (z10 &&& x2))]) (rest := []) hfix (c_M_areAlike l dC dI cA cZ a (.ref (a 10)) Xq (f_M_likeliest Xq (z10 &&& x2)) hmt) (k_M_169 hts hN ⟨Nat.le_of_ble_eq_true rfl, Nat.le_of_ble_eq_true rfl⟩) (nc_preVZ hK hN hP hD rfl rfl) rfl rfl hl.1 rfl (lv_room (Nat.le_of_ble_eq_true rfl)) d_M_part_525 ⟨Nat.zero_le _, Nat.zero_le _⟩) (fun r er => ?_)
                obtain ⟨rfl, hz_765⟩ := er
                refine lv_if_eq (tgt := 543) hx hb d_M_part_528 (by decide) (fun c_766 => ?_) (fun c_766 => ?_)
                · refine lv_aload_n hx hb d_M_part_543 rfl (lv_at hl 1 rfl) ?_
                  refine lv_iload hx hb d_M_part_544 (lv_at hl 0 rfl) ?_
                  refine va_put (D := (dC, dI)) (ci := 4) (v := .int (f_M_likeliest Xq (z10 &&& x2))) (ty := .int) (C := R_M) (T := F_M) (N := 39) hx hb hts i_M t_M t_M_ok n_M hown hK hP hD hS 0 rfl rfl 20 (by decide) (hts _ m_f_M_140) (fun _ h9 => h9) rfl (by decide +kernel) rfl rfl (Nat.le_of_ble_eq_true rfl) d_M_part_546 (fun H locs hP hD hS => ?_)
                  have hP : va_P (dC, dI) classes (w_M cA cZ a (.ref (a 10)) (upf Xq 20 (fun _ => (f_M_likeliest Xq (z10 &&& x2))))) H := hP
                  have hD : va_D A (w_M cA cZ a (.ref (a 10)) (upf Xq 20 (fun _ => (f_M_likeliest Xq (z10 &&& x2))))) := hD
                  have hF : (f_M_partF X x1 x2 x3) = (upf Xq 20 (fun _ => (f_M_likeliest Xq (z10 &&& x2)))) := by rw [hE, f_M_partF_J400, if_pos c_754, if_pos c_755, if_pos c_757, if_neg c_758, if_neg c_763, if_pos c_764, if_pos c_766]
                  exact W.vret hx hb hr (fun t ht hW => ⟨⟨(), rfl, trivial, by rw [hF, ht]; exact hP, by rw [hF]; exact hD⟩, hS.F ht⟩) hS.2.2 d_M_part_549
                · refine lv_aload_n hx hb d_M_part_531 rfl (lv_at hl 1 rfl) ?_
                  refine lv_iload hx hb d_M_part_532 (lv_at hl 0 rfl) ?_
                  refine nc_ro (va_runS (As := [.int (f_M_likeliest Xq (z10 &&& x2))]) (rest := [.ref (a 0)]) hfix (c_M_least l dC dI cA (f_M_likeliest Xq (z10 &&& x2))) (k_M_166 hts hN ⟨Nat.le_of_ble_eq_true rfl, Nat.le_of_ble_eq_true rfl⟩) (nc_preS0 hK1 hN) rfl rfl hl.1 rfl (lv_room (Nat.le_of_ble_eq_true rfl)) d_M_part_534 ⟨Nat.zero_le _, Nat.zero_le _⟩) (fun r er => ?_)
                  subst er
                  refine va_put (D := (dC, dI)) (ci := 4) (v := .int (f_M_least (f_M_likeliest Xq (z10 &&& x2)))) (ty := .int) (C := R_M) (T := F_M) (N := 39) hx hb hts i_M t_M t_M_ok n_M hown hK hP hD hS 0 rfl rfl 22 (by decide) (hts _ m_f_M_143) (fun _ h9 => h9) rfl (by decide +kernel) rfl rfl (Nat.le_of_ble_eq_true rfl) d_M_part_537 (fun H locs hP hD hS => ?_)
                  have hP : va_P (dC, dI) classes (w_M cA cZ a (.ref (a 10)) (upf Xq 22 (fun _ => (f_M_least (f_M_likeliest Xq (z10 &&& x2)))))) H := hP
                  have hD : va_D A (w_M cA cZ a (.ref (a 10)) (upf Xq 22 (fun _ => (f_M_least (f_M_likeliest Xq (z10 &&& x2)))))) := hD
                  refine lv_goto (tgt := 549) hx hb d_M_part_540 (by decide) ?_
                  have hF : (f_M_partF X x1 x2 x3) = (upf Xq 22 (fun _ => (f_M_least (f_M_likeliest Xq (z10 &&& x2))))) := by rw [hE, f_M_partF_J400, if_pos c_754, if_pos c_755, if_pos c_757, if_neg c_758, if_neg c_763, if_pos c_764, if_neg c_766]
                  exact W.vret hx hb hr (fun t ht hW => ⟨⟨(), rfl, trivial, by rw [hF, ht]; exact hP, by rw [hF]; exact hD⟩, hS.F ht⟩) hS.2.2 d_M_part_549
            · refine lv_aload_n hx hb d_M_part_504 rfl (lv_at hl 1 rfl) ?_
              refine lv_iconst (v := 3) hx hb d_M_part_505 (by decide) ?_
              refine va_put (D := (dC, dI)) (ci := 4) (v := .int 3) (ty := .int) (C := R_M) (T := F_M) (N := 39) hx hb hts i_M t_M t_M_ok n_M hown hK hP hD hS 0 rfl rfl 19 (by decide) (hts _ m_f_M_137) (fun _ h9 => h9) rfl (by decide +kernel) rfl rfl (Nat.le_of_ble_eq_true rfl) d_M_part_506 (fun H locs hP hD hS => ?_)
              have hP : va_P (dC, dI) classes (w_M cA cZ a (.ref (a 10)) (upf Xq 19 (fun _ => 3))) H := hP
              have hD : va_D A (w_M cA cZ a (.ref (a 10)) (upf Xq 19 (fun _ => 3))) := hD
              refine lv_aload_n hx hb d_M_part_509 rfl (lv_at hl 1 rfl) ?_
              refine lv_iconst (v := 0) hx hb d_M_part_510 (by decide) ?_
              refine va_put (D := (dC, dI)) (ci := 4) (v := .int 0) (ty := .int) (C := R_M) (T := F_M) (N := 39) hx hb hts i_M t_M t_M_ok n_M hown hK hP hD hS 0 rfl rfl 21 (by decide) (hts _ m_f_M_160) (fun _ h9 => h9) rfl (by decide +kernel) rfl rfl (Nat.le_of_ble_eq_true rfl) d_M_part_511 (fun H locs hP hD hS => ?_)
              have hP : va_P (dC, dI) classes (w_M cA cZ a (.ref (a 10)) (upf (upf Xq 19 (fun _ => 3)) 21 (fun _ => 0))) H := hP
              have hD : va_D A (w_M cA cZ a (.ref (a 10)) (upf (upf Xq 19 (fun _ => 3)) 21 (fun _ => 0))) := hD
              refine lv_goto (tgt := 549) hx hb d_M_part_514 (by decide) ?_
              have hF : (f_M_partF X x1 x2 x3) = (upf (upf Xq 19 (fun _ => 3)) 21 (fun _ => 0)) := by rw [hE, f_M_partF_J400, if_pos c_754, if_pos c_755, if_pos c_757, if_neg c_758, if_pos c_763]
              exact W.vret hx hb hr (fun t ht hW => ⟨⟨(), rfl, trivial, by rw [hF, ht]; exact hP, by rw [hF]; exact hD⟩, hS.F ht⟩) hS.2.2 d_M_part_549
        · refine lv_aload_n hx hb d_M_part_460 rfl (lv_at hl 0 rfl) ?_
          refine lv_iload hx hb d_M_part_461 (lv_at hl 4 rfl) ?_
          refine lv_if_eq (tgt := 471) hx hb d_M_part_463 (by decide) (fun c_767 => ?_) (fun c_767 => ?_)
          · refine lv_iload hx hb d_M_part_471 (lv_at hl 8 rfl) ?_
            refine lv_iload hx hb d_M_part_473 (lv_at hl 6 rfl) ?_
            refine lv_iand hx hb d_M_part_475 ?_
            refine va_put (D := (dC, dI)) (ci := 4) (v := .int (z10 &&& z8)) (ty := .int) (C := R_M) (T := F_M) (N := 39) hx hb hts i_M t_M t_M_ok n_M hown hK hP hD hS 0 rfl rfl 22 (by decide) (hts _ m_f_M_143) (fun _ h9 => h9) rfl (by decide +kernel) rfl rfl (Nat.le_of_ble_eq_true rfl) d_M_part_476 (fun H locs hP hD hS => ?_)
            have hP : va_P (dC, dI) classes (w_M cA cZ a (.ref (a 10)) (upf Xq 22 (fun _ => (z10 &&& z8)))) H := hP
            have hD : va_D A (w_M cA cZ a (.ref (a 10)) (upf Xq 22 (fun _ => (z10 &&& z8)))) := hD
            have hF : (f_M_partF X x1 x2 x3) = (upf Xq 22 (fun _ => (z10 &&& z8))) := by rw [hE, f_M_partF_J400, if_pos c_754, if_pos c_755, if_neg c_757]
            exact W.vret hx hb hr (fun t ht hW => ⟨⟨(), rfl, trivial, by rw [hF, ht]; exact hP, by rw [hF]; exact hD⟩, hS.F ht⟩) hS.2.2 d_M_part_479
          · exact absurd c_755 c_767
    · refine lv_iconst (v := 0) hx hb d_M_part_405 (by decide) ?_
      refine lv_istore (lv' := [(11, .int 0), (0, .ref (a 0)), (1, .int x1), (2, .int x2), (3, .int x3), (4, .int z4), (5, .int z5), (8, .int z8), (9, .int z9), (10, .int z10)]) hx hb d_M_part_406 hl (by decide) rfl (fun ls hl => ?_)
      have loop_408 : ∀ (n : Nat) (Xq : (Nat → Nat → Int32)) (z11 : Int32) (H : Heap) (locs : List Loc) (ls : Array Slot), (f_M_partF X x1 x2 x3) = (f_M_partF_L408 x1 x2 x3 z4 z5 z8 z9 z10 n Xq z11) → nc_mu z5 z11 < n → m_t Xq → va_P (dC, dI) classes (w_M cA cZ a (.ref (a 10)) Xq) H → va_D A (w_M cA cZ a (.ref (a 10)) Xq) → va_S A s.heap H locs → lv_has ls 12 [(0, .ref (a 0)), (1, .int x1), (2, .int x2), (3, .int x3), (4, .int z4), (5, .int z5), (8, .int z8), (9, .int z9), (10, .int z10), (11, .int z11)] → W p l e (headSpec ws_M_partF rm_M_partF).room s m [.ref (a 0), .int x1, .int x2, .int x3].toArray below meth c H locs 0 0 (MQ below (va_Qv (fun _ : Unit => True) (fun _ t => va_P (dC, dI) classes (w_M cA cZ a (.ref (a 10)) (f_M_partF X x1 x2 x3)) t.heap ∧ va_D A (w_M cA cZ a (.ref (a 10)) (f_M_partF X x1 x2 x3))) A) [.ref (a 0), .int x1, .int x2, .int x3].toArray s 0 0 A) (F0 m 408 ls []) := by
        intro n
        induction n with
        | zero =>
          intro Xq z11 H locs ls hE hm hmt hP hD hS hl
          exact absurd hm (Nat.not_lt_zero _)
        | succ n ih =>
          intro Xq z11 H locs ls hE hm hmt hP hD hS hl
          refine lv_iload hx hb d_M_part_408 (lv_at hl 9 rfl) ?_
          refine lv_iload hx hb d_M_part_410 (lv_at hl 5 rfl) ?_
          refine lv_icmp_ge (tgt := 446) hx hb d_M_part_412 (by decide) (fun c_768 => ?_) (fun c_768 => ?_)
          · have hF : (f_M_partF X x1 x2 x3) = Xq := by rw [hE, f_M_partF_L408, if_pos c_768]
            exact W.vret hx hb hr (fun t ht hW => ⟨⟨(), rfl, trivial, by rw [hF, ht]; exact hP, by rw [hF]; exact hD⟩, hS.F ht⟩) hS.2.2 d_M_part_446
          · refine lv_aload_n hx hb d_M_part_415 rfl (lv_at hl 0 rfl) ?_
            refine lv_aload_n hx hb d_M_part_416 rfl (lv_at hl 0 rfl) ?_
            refine va_get (D := (dC, dI)) (ci := 4) (v := .int (Xq 22 0)) (C := R_M) (T := F_M) (N := 39) hx hb hts i_M hown hK hP 0 rfl rfl 22 (by decide) (hts _ m_f_M_143) (fun _ h9 => h9) rfl d_M_part_417 ?_
            refine lv_aload_n hx hb d_M_part_420 rfl (lv_at hl 0 rfl) ?_
            refine lv_iload hx hb d_M_part_421 (lv_at hl 8 rfl) ?_
            refine lv_aload_n hx hb d_M_part_423 rfl (lv_at hl 0 rfl) ?_
            refine va_get (D := (dC, dI)) (ci := 4) (v := .int (Xq 22 0)) (C := R_M) (T := F_M) (N := 39) hx hb hts i_M hown hK hP 0 rfl rfl 22 (by decide) (hts _ m_f_M_143) (fun _ h9 => h9) rfl d_M_part_424 ?_
            refine lv_iconst (v := (-1)) hx hb d_M_part_427 (by decide) ?_
            refine lv_ixor hx hb d_M_part_428 ?_
            refine lv_iand hx hb d_M_part_429 ?_
            refine nc_ro (va_runV (As := [.int (z10 &&& ((Xq 22 0) ^^^ (-1)))]) (rest := [.int (Xq 22 0), .ref (a 0)]) hfix (c_M_likeliest l dC dI cA cZ a (.ref (a 10)) Xq (z10 &&& ((Xq 22 0) ^^^ (-1))) hmt) (k_M_163 hts hN ⟨Nat.le_of_ble_eq_true rfl, Nat.le_of_ble_eq_true rfl⟩) (nc_preVZ hK hN hP hD rfl rfl) rfl rfl hl.1 rfl (lv_room (Nat.le_of_ble_eq_true rfl)) d_M_part_430 ⟨Nat.zero_le _, Nat.zero_le _⟩) (fun r er => ?_)
            subst er
            refine nc_ro (va_runS (As := [.int (f_M_likeliest Xq (z10 &&& ((Xq 22 0) ^^^ (-1))))]) (rest := [.int (Xq 22 0), .ref (a 0)]) hfix (c_M_least l dC dI cA (f_M_likeliest Xq (z10 &&& ((Xq 22 0) ^^^ (-1))))) (k_M_166 hts hN ⟨Nat.le_of_ble_eq_true rfl, Nat.le_of_ble_eq_true rfl⟩) (nc_preS0 hK1 hN) rfl rfl hl.1 rfl (lv_room (Nat.le_of_ble_eq_true rfl)) d_M_part_433 ⟨Nat.zero_le _, Nat.zero_le _⟩) (fun r er => ?_)
            subst er
            refine lv_ior hx hb d_M_part_436 ?_
            refine va_put (D := (dC, dI)) (ci := 4) (v := .int ((Xq 22 0) ||| (f_M_least (f_M_likeliest Xq (z10 &&& ((Xq 22 0) ^^^ (-1))))))) (ty := .int) (C := R_M) (T := F_M) (N := 39) hx hb hts i_M t_M t_M_ok n_M hown hK hP hD hS 0 rfl rfl 22 (by decide) (hts _ m_f_M_143) (fun _ h9 => h9) rfl (by decide +kernel) rfl rfl (Nat.le_of_ble_eq_true rfl) d_M_part_437 (fun H locs hP hD hS => ?_)
            have hP : va_P (dC, dI) classes (w_M cA cZ a (.ref (a 10)) (upf Xq 22 (fun _ => ((Xq 22 0) ||| (f_M_least (f_M_likeliest Xq (z10 &&& ((Xq 22 0) ^^^ (-1))))))))) H := hP
            have hD : va_D A (w_M cA cZ a (.ref (a 10)) (upf Xq 22 (fun _ => ((Xq 22 0) ||| (f_M_least (f_M_likeliest Xq (z10 &&& ((Xq 22 0) ^^^ (-1))))))))) := hD
            refine lv_iinc (v := (z11 + 1)) (lv' := [(11, .int (z11 + 1)), (0, .ref (a 0)), (1, .int x1), (2, .int x2), (3, .int x3), (4, .int z4), (5, .int z5), (8, .int z8), (9, .int z9), (10, .int z10)]) hx hb d_M_part_440 hl (k := 9) rfl rfl (by decide) rfl (fun ls hl => ?_)
            refine lv_goto (tgt := 408) hx hb d_M_part_443 (by decide) ?_
            exact ih (upf Xq 22 (fun _ => ((Xq 22 0) ||| (f_M_least (f_M_likeliest Xq (z10 &&& ((Xq 22 0) ^^^ (-1)))))))) (z11 + 1) H locs ls (by rw [hE, f_M_partF_L408, if_neg c_768]) (nc_mu_step c_768 hm) hmt hP hD hS (lv_sub hl [1, 2, 3, 4, 5, 6, 7, 8, 9, 0] rfl)
      exact loop_408 (nc_mu z5 0 + 1) Xq 0 H locs ls (by rw [hE, f_M_partF_J400, if_neg c_754]) (Nat.lt_succ_self _) hmt hP hD hS (lv_sub hl [1, 2, 3, 4, 5, 6, 7, 8, 9, 0] rfl)
  have join_254 : ∀ (Xq : (Nat → Nat → Int32)) (z4 z5 z8 z9 z10 : Int32) (H : Heap) (locs : List Loc) (ls : Array Slot), (f_M_partF X x1 x2 x3) = (f_M_partF_J254 x1 x2 x3 Xq z4 z5 z8 z9 z10) → m_a Xq → m_t Xq → m_k Xq → va_P (dC, dI) classes (w_M cA cZ a (.ref (a 10)) Xq) H → va_D A (w_M cA cZ a (.ref (a 10)) Xq) → va_S A s.heap H locs → lv_has ls 12 [(0, .ref (a 0)), (1, .int x1), (2, .int x2), (3, .int x3), (4, .int z4), (5, .int z5), (8, .int z8), (9, .int z9), (10, .int z10)] → W p l e (headSpec ws_M_partF rm_M_partF).room s m [.ref (a 0), .int x1, .int x2, .int x3].toArray below meth c H locs 0 0 (MQ below (va_Qv (fun _ : Unit => True) (fun _ t => va_P (dC, dI) classes (w_M cA cZ a (.ref (a 10)) (f_M_partF X x1 x2 x3)) t.heap ∧ va_D A (w_M cA cZ a (.ref (a 10)) (f_M_partF X x1 x2 x3))) A) [.ref (a 0), .int x1, .int x2, .int x3].toArray s 0 0 A) (F0 m 254 ls []) := by
    intro Xq z4 z5 z8 z9 z10 H locs ls hE hma hmt hmk hP hD hS hl
    have loop_254 : ∀ (n : Nat) (Xq : (Nat → Nat → Int32)) (z10 : Int32) (H : Heap) (locs : List Loc) (ls : Array Slot), (f_M_partF X x1 x2 x3) = (f_M_partF_L254 x1 x2 x3 z4 z5 z8 z9 n Xq z10) → nc_mu (Xq 13 0) (Xq 14 0) < n → m_a Xq → m_t Xq → m_k Xq → va_P (dC, dI) classes (w_M cA cZ a (.ref (a 10)) Xq) H → va_D A (w_M cA cZ a (.ref (a 10)) Xq) → va_S A s.heap H locs → lv_has ls 12 [(0, .ref (a 0)), (1, .int x1), (2, .int x2), (3, .int x3), (4, .int z4), (5, .int z5), (8, .int z8), (9, .int z9), (10, .int z10)] → W p l e (headSpec ws_M_partF rm_M_partF).room s m [.ref (a 0), .int x1, .int x2, .int x3].toArray below meth c H locs 0 0 (MQ below (va_Qv (fun _ : Unit => True) (fun _ t => va_P (dC, dI) classes (w_M cA cZ a (.ref (a 10)) (f_M_partF X x1 x2 x3)) t.heap ∧ va_D A (w_M cA cZ a (.ref (a 10)) (f_M_partF X x1 x2 x3))) A) [.ref (a 0), .int x1, .int x2, .int x3].toArray s 0 0 A) (F0 m 254 ls []) := by
      intro n
      induction n with
      | zero =>
        intro Xq z10 H locs ls hE hm hma hmt hmk hP hD hS hl
        exact absurd hm (Nat.not_lt_zero _)
      | succ n ih =>
        intro Xq z10 H locs ls hE hm hma hmt hmk hP hD hS hl
        refine lv_iload hx hb d_M_part_254 (lv_at hl 4 rfl) ?_
        refine lv_if_eq (tgt := 342) hx hb d_M_part_256 (by decide) (fun c_769 => ?_) (fun c_769 => ?_)
        · refine lv_aload_n hx hb d_M_part_342 rfl (lv_at hl 0 rfl) ?_
          refine lv_aload_n hx hb d_M_part_343 rfl (lv_at hl 0 rfl) ?_
          refine va_get (D := (dC, dI)) (ci := 4) (v := .int (Xq 19 0)) (C := R_M) (T := F_M) (N := 39) hx hb hts i_M hown hK hP 0 rfl rfl 19 (by decide) (hts _ m_f_M_137) (fun _ h9 => h9) rfl d_M_part_344 ?_
          refine lv_if_ne (tgt := 359) hx hb d_M_part_347 (by decide) (fun c_770 => ?_) (fun c_770 => ?_)
          · refine lv_aload_n hx hb d_M_part_359 rfl (lv_at hl 0 rfl) ?_
            refine va_get (D := (dC, dI)) (ci := 4) (v := .int (Xq 19 0)) (C := R_M) (T := F_M) (N := 39) hx hb hts i_M hown hK hP 0 rfl rfl 19 (by decide) (hts _ m_f_M_137) (fun _ h9 => h9) rfl d_M_part_360 ?_
            refine lv_if_ne (tgt := 381) hx hb d_M_part_363 (by decide) (fun c_771 => ?_) (fun c_771 => ?_)
            · refine lv_aload_n hx hb d_M_part_381 rfl (lv_at hl 0 rfl) ?_
              refine va_get (D := (dC, dI)) (ci := 4) (v := .int (Xq 19 0)) (C := R_M) (T := F_M) (N := 39) hx hb hts i_M hown hK hP 0 rfl rfl 19 (by decide) (hts _ m_f_M_137) (fun _ h9 => h9) rfl d_M_part_382 ?_
              refine va_put (D := (dC, dI)) (ci := 4) (v := .int (Xq 19 0)) (ty := .int) (C := R_M) (T := F_M) (N := 39) hx hb hts i_M t_M t_M_ok n_M hown hK hP hD hS 0 rfl rfl 19 (by decide) (hts _ m_f_M_137) (fun _ h9 => h9) rfl (by decide +kernel) rfl rfl (Nat.le_of_ble_eq_true rfl) d_M_part_385 (fun H locs hP hD hS => ?_)
              have hP : va_P (dC, dI) classes (w_M cA cZ a (.ref (a 10)) (upf Xq 19 (fun _ => (Xq 19 0)))) H := hP
              have hD : va_D A (w_M cA cZ a (.ref (a 10)) (upf Xq 19 (fun _ => (Xq 19 0)))) := hD
              refine lv_iload_n hx hb d_M_part_388 rfl (lv_at hl 1 rfl) ?_
              refine lv_if_eq (tgt := 399) hx hb d_M_part_389 (by decide) (fun c_772 => ?_) (fun c_772 => ?_)
              · have hF : (f_M_partF X x1 x2 x3) = (upf Xq 19 (fun _ => (Xq 19 0))) := by rw [hE, f_M_partF_L254, if_pos c_769, if_neg c_770, if_pos c_772]
                exact W.vret hx hb hr (fun t ht hW => ⟨⟨(), rfl, trivial, by rw [hF, ht]; exact hP, by rw [hF]; exact hD⟩, hS.F ht⟩) hS.2.2 d_M_part_399
              · refine lv_aload_n hx hb d_M_part_392 rfl (lv_at hl 0 rfl) ?_
                refine va_get (D := (dC, dI)) (ci := 4) (v := .int (Xq 19 0)) (C := R_M) (T := F_M) (N := 39) hx hb hts i_M hown hK hP 0 rfl rfl 19 (by decide) (hts _ m_f_M_137) (fun _ h9 => h9) rfl d_M_part_393 ?_
                refine lv_if_le (tgt := 400) hx hb d_M_part_396 (by decide) (fun c_773 => ?_) (fun c_773 => ?_)
                · exact join_400 (upf Xq 19 (fun _ => (Xq 19 0))) z4 z5 z8 z9 z10 H locs ls (by rw [hE, f_M_partF_L254, if_pos c_769, if_neg c_770, if_neg c_772, if_pos c_773]) hma hmt hmk hP hD hS (lv_sub hl [0, 1, 2, 3, 4, 5, 6, 7, 8] rfl)
                · have hF : (f_M_partF X x1 x2 x3) = (upf Xq 19 (fun _ => (Xq 19 0))) := by rw [hE, f_M_partF_L254, if_pos c_769, if_neg c_770, if_neg c_772, if_neg c_773]
                  exact W.vret hx hb hr (fun t ht hW => ⟨⟨(), rfl, trivial, by rw [hF, ht]; exact hP, by rw [hF]; exact hD⟩, hS.F ht⟩) hS.2.2 d_M_part_399
            · exact absurd c_771 c_770
          · refine lv_iload hx hb d_M_part_350 (lv_at hl 8 rfl) ?_
            refine lv_if_ne (tgt := 359) hx hb d_M_part_352 (by decide) (fun c_774 => ?_) (fun c_774 => ?_)
            · refine lv_aload_n hx hb d_M_part_359 rfl (lv_at hl 0 rfl) ?_
              refine va_get (D := (dC, dI)) (ci := 4) (v := .int (Xq 19 0)) (C := R_M) (T := F_M) (N := 39) hx hb hts i_M hown hK hP 0 rfl rfl 19 (by decide) (hts _ m_f_M_137) (fun _ h9 => h9) rfl d_M_part_360 ?_
              refine lv_if_ne (tgt := 381) hx hb d_M_part_363 (by decide) (fun c_775 => ?_) (fun c_775 => ?_)
              · exact absurd c_770 c_775
              · refine lv_iload hx hb d_M_part_366 (lv_at hl 8 rfl) ?_
                refine nc_ro (va_runS (As := [.int z10]) (rest := [.ref (a 0)]) hfix (c_bitCount l dC dI cA z10) (k_M_155 hts hN ⟨Nat.le_of_ble_eq_true rfl, Nat.le_of_ble_eq_true rfl⟩) (nc_preS0 hK1 hN) rfl rfl hl.1 rfl (lv_room (Nat.le_of_ble_eq_true rfl)) d_M_part_368 ⟨Nat.zero_le _, Nat.zero_le _⟩) (fun r er => ?_)
                subst er
                refine lv_iload hx hb d_M_part_371 (lv_at hl 5 rfl) ?_
                refine lv_icmp_ge (tgt := 381) hx hb d_M_part_373 (by decide) (fun c_776 => ?_) (fun c_776 => ?_)
                · refine lv_aload_n hx hb d_M_part_381 rfl (lv_at hl 0 rfl) ?_
                  refine va_get (D := (dC, dI)) (ci := 4) (v := .int (Xq 19 0)) (C := R_M) (T := F_M) (N := 39) hx hb hts i_M hown hK hP 0 rfl rfl 19 (by decide) (hts _ m_f_M_137) (fun _ h9 => h9) rfl d_M_part_382 ?_
                  refine va_put (D := (dC, dI)) (ci := 4) (v := .int (Xq 19 0)) (ty := .int) (C := R_M) (T := F_M) (N := 39) hx hb hts i_M t_M t_M_ok n_M hown hK hP hD hS 0 rfl rfl 19 (by decide) (hts _ m_f_M_137) (fun _ h9 => h9) rfl (by decide +kernel) rfl rfl (Nat.le_of_ble_eq_true rfl) d_M_part_385 (fun H locs hP hD hS => ?_)
                  have hP : va_P (dC, dI) classes (w_M cA cZ a (.ref (a 10)) (upf Xq 19 (fun _ => (Xq 19 0)))) H := hP
                  have hD : va_D A (w_M cA cZ a (.ref (a 10)) (upf Xq 19 (fun _ => (Xq 19 0)))) := hD
                  refine lv_iload_n hx hb d_M_part_388 rfl (lv_at hl 1 rfl) ?_
                  refine lv_if_eq (tgt := 399) hx hb d_M_part_389 (by decide) (fun c_777 => ?_) (fun c_777 => ?_)
                  · have hF : (f_M_partF X x1 x2 x3) = (upf Xq 19 (fun _ => (Xq 19 0))) := by rw [hE, f_M_partF_L254, if_pos c_769, if_pos c_770, if_neg c_774, if_pos c_776, if_pos c_777]
                    exact W.vret hx hb hr (fun t ht hW => ⟨⟨(), rfl, trivial, by rw [hF, ht]; exact hP, by rw [hF]; exact hD⟩, hS.F ht⟩) hS.2.2 d_M_part_399
                  · refine lv_aload_n hx hb d_M_part_392 rfl (lv_at hl 0 rfl) ?_
                    refine va_get (D := (dC, dI)) (ci := 4) (v := .int (Xq 19 0)) (C := R_M) (T := F_M) (N := 39) hx hb hts i_M hown hK hP 0 rfl rfl 19 (by decide) (hts _ m_f_M_137) (fun _ h9 => h9) rfl d_M_part_393 ?_
                    refine lv_if_le (tgt := 400) hx hb d_M_part_396 (by decide) (fun c_778 => ?_) (fun c_778 => ?_)
                    · exact join_400 (upf Xq 19 (fun _ => (Xq 19 0))) z4 z5 z8 z9 z10 H locs ls (by rw [hE, f_M_partF_L254, if_pos c_769, if_pos c_770, if_neg c_774, if_pos c_776, if_neg c_777, if_pos c_778]) hma hmt hmk hP hD hS (lv_sub hl [0, 1, 2, 3, 4, 5, 6, 7, 8] rfl)
                    · have hF : (f_M_partF X x1 x2 x3) = (upf Xq 19 (fun _ => (Xq 19 0))) := by rw [hE, f_M_partF_L254, if_pos c_769, if_pos c_770, if_neg c_774, if_pos c_776, if_neg c_777, if_neg c_778]
                      exact W.vret hx hb hr (fun t ht hW => ⟨⟨(), rfl, trivial, by rw [hF, ht]; exact hP, by rw [hF]; exact hD⟩, hS.F ht⟩) hS.2.2 d_M_part_399
                · refine lv_bipush (v := 6) hx hb d_M_part_376 (by decide) ?_
                  refine lv_goto (tgt := 385) hx hb d_M_part_378 (by decide) ?_
                  refine va_put (D := (dC, dI)) (ci := 4) (v := .int 6) (ty := .int) (C := R_M) (T := F_M) (N := 39) hx hb hts i_M t_M t_M_ok n_M hown hK hP hD hS 0 rfl rfl 19 (by decide) (hts _ m_f_M_137) (fun _ h9 => h9) rfl (by decide +kernel) rfl rfl (Nat.le_of_ble_eq_true rfl) d_M_part_385 (fun H locs hP hD hS => ?_)
                  have hP : va_P (dC, dI) classes (w_M cA cZ a (.ref (a 10)) (upf Xq 19 (fun _ => 6))) H := hP
                  have hD : va_D A (w_M cA cZ a (.ref (a 10)) (upf Xq 19 (fun _ => 6))) := hD
                  refine lv_iload_n hx hb d_M_part_388 rfl (lv_at hl 1 rfl) ?_
                  refine lv_if_eq (tgt := 399) hx hb d_M_part_389 (by decide) (fun c_779 => ?_) (fun c_779 => ?_)
                  · have hF : (f_M_partF X x1 x2 x3) = (upf Xq 19 (fun _ => 6)) := by rw [hE, f_M_partF_L254, if_pos c_769, if_pos c_770, if_neg c_774, if_neg c_776, if_pos c_779]
                    exact W.vret hx hb hr (fun t ht hW => ⟨⟨(), rfl, trivial, by rw [hF, ht]; exact hP, by rw [hF]; exact hD⟩, hS.F ht⟩) hS.2.2 d_M_part_399
                  · refine lv_aload_n hx hb d_M_part_392 rfl (lv_at hl 0 rfl) ?_
                    refine va_get (D := (dC, dI)) (ci := 4) (v := .int 6) (C := R_M) (T := F_M) (N := 39) hx hb hts i_M hown hK hP 0 rfl rfl 19 (by decide) (hts _ m_f_M_137) (fun _ h9 => h9) rfl d_M_part_393 ?_
                    refine lv_if_le (tgt := 400) hx hb d_M_part_396 (by decide) (fun c_780 => ?_) (fun c_780 => ?_)
                    · exact absurd c_780 (by decide)
                    · have hF : (f_M_partF X x1 x2 x3) = (upf Xq 19 (fun _ => 6)) := by rw [hE, f_M_partF_L254, if_pos c_769, if_pos c_770, if_neg c_774, if_neg c_776, if_neg c_779]
                      exact W.vret hx hb hr (fun t ht hW => ⟨⟨(), rfl, trivial, by rw [hF, ht]; exact hP, by rw [hF]; exact hD⟩, hS.F ht⟩) hS.2.2 d_M_part_399
            · refine lv_iconst (v := 5) hx hb d_M_part_355 (by decide) ?_
              refine lv_goto (tgt := 385) hx hb d_M_part_356 (by decide) ?_
              refine va_put (D := (dC, dI)) (ci := 4) (v := .int 5) (ty := .int) (C := R_M) (T := F_M) (N := 39) hx hb hts i_M t_M t_M_ok n_M hown hK hP hD hS 0 rfl rfl 19 (by decide) (hts _ m_f_M_137) (fun _ h9 => h9) rfl (by decide +kernel) rfl rfl (Nat.le_of_ble_eq_true rfl) d_M_part_385 (fun H locs hP hD hS => ?_)
              have hP : va_P (dC, dI) classes (w_M cA cZ a (.ref (a 10)) (upf Xq 19 (fun _ => 5))) H := hP
              have hD : va_D A (w_M cA cZ a (.ref (a 10)) (upf Xq 19 (fun _ => 5))) := hD
              refine lv_iload_n hx hb d_M_part_388 rfl (lv_at hl 1 rfl) ?_
              refine lv_if_eq (tgt := 399) hx hb d_M_part_389 (by decide) (fun c_781 => ?_) (fun c_781 => ?_)
              · have hF : (f_M_partF X x1 x2 x3) = (upf Xq 19 (fun _ => 5)) := by rw [hE, f_M_partF_L254, if_pos c_769, if_pos c_770, if_pos c_774, if_pos c_781]
                exact W.vret hx hb hr (fun t ht hW => ⟨⟨(), rfl, trivial, by rw [hF, ht]; exact hP, by rw [hF]; exact hD⟩, hS.F ht⟩) hS.2.2 d_M_part_399
              · refine lv_aload_n hx hb d_M_part_392 rfl (lv_at hl 0 rfl) ?_
                refine va_get (D := (dC, dI)) (ci := 4) (v := .int 5) (C := R_M) (T := F_M) (N := 39) hx hb hts i_M hown hK hP 0 rfl rfl 19 (by decide) (hts _ m_f_M_137) (fun _ h9 => h9) rfl d_M_part_393 ?_
                refine lv_if_le (tgt := 400) hx hb d_M_part_396 (by decide) (fun c_782 => ?_) (fun c_782 => ?_)
                · exact absurd c_782 (by decide)
                · have hF : (f_M_partF X x1 x2 x3) = (upf Xq 19 (fun _ => 5)) := by rw [hE, f_M_partF_L254, if_pos c_769, if_pos c_770, if_pos c_774, if_neg c_781]
                  exact W.vret hx hb hr (fun t ht hW => ⟨⟨(), rfl, trivial, by rw [hF, ht]; exact hP, by rw [hF]; exact hD⟩, hS.F ht⟩) hS.2.2 d_M_part_399
        · refine lv_aload_n hx hb d_M_part_259 rfl (lv_at hl 0 rfl) ?_
          refine nc_ro (va_runV (As := []) (rest := []) hfix (c_M_hereF l dC dI cA cZ a Xq hma) (k_M_104 hts hN ⟨Nat.le_of_ble_eq_true rfl, Nat.le_of_ble_eq_true rfl⟩) (nc_preVZ hK hN hP hD rfl rfl) rfl rfl hl.1 rfl (lv_room (Nat.le_of_ble_eq_true rfl)) d_M_part_260 ⟨Nat.zero_le _, Nat.zero_le _⟩) (fun r er => ?_)
          subst er
          refine lv_bipush (v := 35) hx hb d_M_part_263 (by decide) ?_
          refine lv_icmp_ne (tgt := 342) hx hb d_M_part_265 (by decide) (fun c_783 => ?_) (fun c_783 => ?_)
          · refine lv_aload_n hx hb d_M_part_342 rfl (lv_at hl 0 rfl) ?_
            refine lv_aload_n hx hb d_M_part_343 rfl (lv_at hl 0 rfl) ?_
            refine va_get (D := (dC, dI)) (ci := 4) (v := .int (Xq 19 0)) (C := R_M) (T := F_M) (N := 39) hx hb hts i_M hown hK hP 0 rfl rfl 19 (by decide) (hts _ m_f_M_137) (fun _ h9 => h9) rfl d_M_part_344 ?_
            refine lv_if_ne (tgt := 359) hx hb d_M_part_347 (by decide) (fun c_784 => ?_) (fun c_784 => ?_)
            · refine lv_aload_n hx hb d_M_part_359 rfl (lv_at hl 0 rfl) ?_
              refine va_get (D := (dC, dI)) (ci := 4) (v := .int (Xq 19 0)) (C := R_M) (T := F_M) (N := 39) hx hb hts i_M hown hK hP 0 rfl rfl 19 (by decide) (hts _ m_f_M_137) (fun _ h9 => h9) rfl d_M_part_360 ?_
              refine lv_if_ne (tgt := 381) hx hb d_M_part_363 (by decide) (fun c_785 => ?_) (fun c_785 => ?_)
              · refine lv_aload_n hx hb d_M_part_381 rfl (lv_at hl 0 rfl) ?_
                refine va_get (D := (dC, dI)) (ci := 4) (v := .int (Xq 19 0)) (C := R_M) (T := F_M) (N := 39) hx hb hts i_M hown hK hP 0 rfl rfl 19 (by decide) (hts _ m_f_M_137) (fun _ h9 => h9) rfl d_M_part_382 ?_
                refine va_put (D := (dC, dI)) (ci := 4) (v := .int (Xq 19 0)) (ty := .int) (C := R_M) (T := F_M) (N := 39) hx hb hts i_M t_M t_M_ok n_M hown hK hP hD hS 0 rfl rfl 19 (by decide) (hts _ m_f_M_137) (fun _ h9 => h9) rfl (by decide +kernel) rfl rfl (Nat.le_of_ble_eq_true rfl) d_M_part_385 (fun H locs hP hD hS => ?_)
                have hP : va_P (dC, dI) classes (w_M cA cZ a (.ref (a 10)) (upf Xq 19 (fun _ => (Xq 19 0)))) H := hP
                have hD : va_D A (w_M cA cZ a (.ref (a 10)) (upf Xq 19 (fun _ => (Xq 19 0)))) := hD
                refine lv_iload_n hx hb d_M_part_388 rfl (lv_at hl 1 rfl) ?_
                refine lv_if_eq (tgt := 399) hx hb d_M_part_389 (by decide) (fun c_786 => ?_) (fun c_786 => ?_)
                · have hF : (f_M_partF X x1 x2 x3) = (upf Xq 19 (fun _ => (Xq 19 0))) := by rw [hE, f_M_partF_L254, if_neg c_769, if_neg c_783, if_neg c_784, if_pos c_786]
                  exact W.vret hx hb hr (fun t ht hW => ⟨⟨(), rfl, trivial, by rw [hF, ht]; exact hP, by rw [hF]; exact hD⟩, hS.F ht⟩) hS.2.2 d_M_part_399
                · refine lv_aload_n hx hb d_M_part_392 rfl (lv_at hl 0 rfl) ?_
                  refine va_get (D := (dC, dI)) (ci := 4) (v := .int (Xq 19 0)) (C := R_M) (T := F_M) (N := 39) hx hb hts i_M hown hK hP 0 rfl rfl 19 (by decide) (hts _ m_f_M_137) (fun _ h9 => h9) rfl d_M_part_393 ?_
                  refine lv_if_le (tgt := 400) hx hb d_M_part_396 (by decide) (fun c_787 => ?_) (fun c_787 => ?_)
                  · exact join_400 (upf Xq 19 (fun _ => (Xq 19 0))) z4 z5 z8 z9 z10 H locs ls (by rw [hE, f_M_partF_L254, if_neg c_769, if_neg c_783, if_neg c_784, if_neg c_786, if_pos c_787]) hma hmt hmk hP hD hS (lv_sub hl [0, 1, 2, 3, 4, 5, 6, 7, 8] rfl)
                  · have hF : (f_M_partF X x1 x2 x3) = (upf Xq 19 (fun _ => (Xq 19 0))) := by rw [hE, f_M_partF_L254, if_neg c_769, if_neg c_783, if_neg c_784, if_neg c_786, if_neg c_787]
                    exact W.vret hx hb hr (fun t ht hW => ⟨⟨(), rfl, trivial, by rw [hF, ht]; exact hP, by rw [hF]; exact hD⟩, hS.F ht⟩) hS.2.2 d_M_part_399
              · exact absurd c_785 c_784
            · refine lv_iload hx hb d_M_part_350 (lv_at hl 8 rfl) ?_
              refine lv_if_ne (tgt := 359) hx hb d_M_part_352 (by decide) (fun c_788 => ?_) (fun c_788 => ?_)
              · refine lv_aload_n hx hb d_M_part_359 rfl (lv_at hl 0 rfl) ?_
                refine va_get (D := (dC, dI)) (ci := 4) (v := .int (Xq 19 0)) (C := R_M) (T := F_M) (N := 39) hx hb hts i_M hown hK hP 0 rfl rfl 19 (by decide) (hts _ m_f_M_137) (fun _ h9 => h9) rfl d_M_part_360 ?_
                refine lv_if_ne (tgt := 381) hx hb d_M_part_363 (by decide) (fun c_789 => ?_) (fun c_789 => ?_)
                · exact absurd c_784 c_789
                · refine lv_iload hx hb d_M_part_366 (lv_at hl 8 rfl) ?_
                  refine nc_ro (va_runS (As := [.int z10]) (rest := [.ref (a 0)]) hfix (c_bitCount l dC dI cA z10) (k_M_155 hts hN ⟨Nat.le_of_ble_eq_true rfl, Nat.le_of_ble_eq_true rfl⟩) (nc_preS0 hK1 hN) rfl rfl hl.1 rfl (lv_room (Nat.le_of_ble_eq_true rfl)) d_M_part_368 ⟨Nat.zero_le _, Nat.zero_le _⟩) (fun r er => ?_)
                  subst er
                  refine lv_iload hx hb d_M_part_371 (lv_at hl 5 rfl) ?_
                  refine lv_icmp_ge (tgt := 381) hx hb d_M_part_373 (by decide) (fun c_790 => ?_) (fun c_790 => ?_)
                  · refine lv_aload_n hx hb d_M_part_381 rfl (lv_at hl 0 rfl) ?_
                    refine va_get (D := (dC, dI)) (ci := 4) (v := .int (Xq 19 0)) (C := R_M) (T := F_M) (N := 39) hx hb hts i_M hown hK hP 0 rfl rfl 19 (by decide) (hts _ m_f_M_137) (fun _ h9 => h9) rfl d_M_part_382 ?_
                    refine va_put (D := (dC, dI)) (ci := 4) (v := .int (Xq 19 0)) (ty := .int) (C := R_M) (T := F_M) (N := 39) hx hb hts i_M t_M t_M_ok n_M hown hK hP hD hS 0 rfl rfl 19 (by decide) (hts _ m_f_M_137) (fun _ h9 => h9) rfl (by decide +kernel) rfl rfl (Nat.le_of_ble_eq_true rfl) d_M_part_385 (fun H locs hP hD hS => ?_)
                    have hP : va_P (dC, dI) classes (w_M cA cZ a (.ref (a 10)) (upf Xq 19 (fun _ => (Xq 19 0)))) H := hP
                    have hD : va_D A (w_M cA cZ a (.ref (a 10)) (upf Xq 19 (fun _ => (Xq 19 0)))) := hD
                    refine lv_iload_n hx hb d_M_part_388 rfl (lv_at hl 1 rfl) ?_
                    refine lv_if_eq (tgt := 399) hx hb d_M_part_389 (by decide) (fun c_791 => ?_) (fun c_791 => ?_)
                    · have hF : (f_M_partF X x1 x2 x3) = (upf Xq 19 (fun _ => (Xq 19 0))) := by rw [hE, f_M_partF_L254, if_neg c_769, if_neg c_783, if_pos c_784, if_neg c_788, if_pos c_790, if_pos c_791]
                      exact W.vret hx hb hr (fun t ht hW => ⟨⟨(), rfl, trivial, by rw [hF, ht]; exact hP, by rw [hF]; exact hD⟩, hS.F ht⟩) hS.2.2 d_M_part_399
                    · refine lv_aload_n hx hb d_M_part_392 rfl (lv_at hl 0 rfl) ?_
                      refine va_get (D := (dC, dI)) (ci := 4) (v := .int (Xq 19 0)) (C := R_M) (T := F_M) (N := 39) hx hb hts i_M hown hK hP 0 rfl rfl 19 (by decide) (hts _ m_f_M_137) (fun _ h9 => h9) rfl d_M_part_393 ?_
                      refine lv_if_le (tgt := 400) hx hb d_M_part_396 (by decide) (fun c_792 => ?_) (fun c_792 => ?_)
                      · exact join_400 (upf Xq 19 (fun _ => (Xq 19 0))) z4 z5 z8 z9 z10 H locs ls (by rw [hE, f_M_partF_L254, if_neg c_769, if_neg c_783, if_pos c_784, if_neg c_788, if_pos c_790, if_neg c_791, if_pos c_792]) hma hmt hmk hP hD hS (lv_sub hl [0, 1, 2, 3, 4, 5, 6, 7, 8] rfl)
                      · have hF : (f_M_partF X x1 x2 x3) = (upf Xq 19 (fun _ => (Xq 19 0))) := by rw [hE, f_M_partF_L254, if_neg c_769, if_neg c_783, if_pos c_784, if_neg c_788, if_pos c_790, if_neg c_791, if_neg c_792]
                        exact W.vret hx hb hr (fun t ht hW => ⟨⟨(), rfl, trivial, by rw [hF, ht]; exact hP, by rw [hF]; exact hD⟩, hS.F ht⟩) hS.2.2 d_M_part_399
                  · refine lv_bipush (v := 6) hx hb d_M_part_376 (by decide) ?_
                    refine lv_goto (tgt := 385) hx hb d_M_part_378 (by decide) ?_
                    refine va_put (D := (dC, dI)) (ci := 4) (v := .int 6) (ty := .int) (C := R_M) (T := F_M) (N := 39) hx hb hts i_M t_M t_M_ok n_M hown hK hP hD hS 0 rfl rfl 19 (by decide) (hts _ m_f_M_137) (fun _ h9 => h9) rfl (by decide +kernel) rfl rfl (Nat.le_of_ble_eq_true rfl) d_M_part_385 (fun H locs hP hD hS => ?_)
                    have hP : va_P (dC, dI) classes (w_M cA cZ a (.ref (a 10)) (upf Xq 19 (fun _ => 6))) H := hP
                    have hD : va_D A (w_M cA cZ a (.ref (a 10)) (upf Xq 19 (fun _ => 6))) := hD
                    refine lv_iload_n hx hb d_M_part_388 rfl (lv_at hl 1 rfl) ?_
                    refine lv_if_eq (tgt := 399) hx hb d_M_part_389 (by decide) (fun c_793 => ?_) (fun c_793 => ?_)
                    · have hF : (f_M_partF X x1 x2 x3) = (upf Xq 19 (fun _ => 6)) := by rw [hE, f_M_partF_L254, if_neg c_769, if_neg c_783, if_pos c_784, if_neg c_788, if_neg c_790, if_pos c_793]
                      exact W.vret hx hb hr (fun t ht hW => ⟨⟨(), rfl, trivial, by rw [hF, ht]; exact hP, by rw [hF]; exact hD⟩, hS.F ht⟩) hS.2.2 d_M_part_399
                    · refine lv_aload_n hx hb d_M_part_392 rfl (lv_at hl 0 rfl) ?_
                      refine va_get (D := (dC, dI)) (ci := 4) (v := .int 6) (C := R_M) (T := F_M) (N := 39) hx hb hts i_M hown hK hP 0 rfl rfl 19 (by decide) (hts _ m_f_M_137) (fun _ h9 => h9) rfl d_M_part_393 ?_
                      refine lv_if_le (tgt := 400) hx hb d_M_part_396 (by decide) (fun c_794 => ?_) (fun c_794 => ?_)
                      · exact absurd c_794 (by decide)
                      · have hF : (f_M_partF X x1 x2 x3) = (upf Xq 19 (fun _ => 6)) := by rw [hE, f_M_partF_L254, if_neg c_769, if_neg c_783, if_pos c_784, if_neg c_788, if_neg c_790, if_neg c_793]
                        exact W.vret hx hb hr (fun t ht hW => ⟨⟨(), rfl, trivial, by rw [hF, ht]; exact hP, by rw [hF]; exact hD⟩, hS.F ht⟩) hS.2.2 d_M_part_399
              · refine lv_iconst (v := 5) hx hb d_M_part_355 (by decide) ?_
                refine lv_goto (tgt := 385) hx hb d_M_part_356 (by decide) ?_
                refine va_put (D := (dC, dI)) (ci := 4) (v := .int 5) (ty := .int) (C := R_M) (T := F_M) (N := 39) hx hb hts i_M t_M t_M_ok n_M hown hK hP hD hS 0 rfl rfl 19 (by decide) (hts _ m_f_M_137) (fun _ h9 => h9) rfl (by decide +kernel) rfl rfl (Nat.le_of_ble_eq_true rfl) d_M_part_385 (fun H locs hP hD hS => ?_)
                have hP : va_P (dC, dI) classes (w_M cA cZ a (.ref (a 10)) (upf Xq 19 (fun _ => 5))) H := hP
                have hD : va_D A (w_M cA cZ a (.ref (a 10)) (upf Xq 19 (fun _ => 5))) := hD
                refine lv_iload_n hx hb d_M_part_388 rfl (lv_at hl 1 rfl) ?_
                refine lv_if_eq (tgt := 399) hx hb d_M_part_389 (by decide) (fun c_795 => ?_) (fun c_795 => ?_)
                · have hF : (f_M_partF X x1 x2 x3) = (upf Xq 19 (fun _ => 5)) := by rw [hE, f_M_partF_L254, if_neg c_769, if_neg c_783, if_pos c_784, if_pos c_788, if_pos c_795]
                  exact W.vret hx hb hr (fun t ht hW => ⟨⟨(), rfl, trivial, by rw [hF, ht]; exact hP, by rw [hF]; exact hD⟩, hS.F ht⟩) hS.2.2 d_M_part_399
                · refine lv_aload_n hx hb d_M_part_392 rfl (lv_at hl 0 rfl) ?_
                  refine va_get (D := (dC, dI)) (ci := 4) (v := .int 5) (C := R_M) (T := F_M) (N := 39) hx hb hts i_M hown hK hP 0 rfl rfl 19 (by decide) (hts _ m_f_M_137) (fun _ h9 => h9) rfl d_M_part_393 ?_
                  refine lv_if_le (tgt := 400) hx hb d_M_part_396 (by decide) (fun c_796 => ?_) (fun c_796 => ?_)
                  · exact absurd c_796 (by decide)
                  · have hF : (f_M_partF X x1 x2 x3) = (upf Xq 19 (fun _ => 5)) := by rw [hE, f_M_partF_L254, if_neg c_769, if_neg c_783, if_pos c_784, if_pos c_788, if_neg c_795]
                    exact W.vret hx hb hr (fun t ht hW => ⟨⟨(), rfl, trivial, by rw [hF, ht]; exact hP, by rw [hF]; exact hD⟩, hS.F ht⟩) hS.2.2 d_M_part_399
          · refine lv_aload_n hx hb d_M_part_268 rfl (lv_at hl 0 rfl) ?_
            refine lv_dup hx hb d_M_part_269 rfl ?_
            refine va_get (D := (dC, dI)) (ci := 4) (v := .int (Xq 14 0)) (C := R_M) (T := F_M) (N := 39) hx hb hts i_M hown hK hP 0 rfl rfl 14 (by decide) (hts _ m_f_M_97) (fun _ h9 => h9) rfl d_M_part_270 ?_
            refine lv_iconst (v := 1) hx hb d_M_part_273 (by decide) ?_
            refine lv_iadd hx hb d_M_part_274 ?_
            refine va_put (D := (dC, dI)) (ci := 4) (v := .int ((Xq 14 0) + 1)) (ty := .int) (C := R_M) (T := F_M) (N := 39) hx hb hts i_M t_M t_M_ok n_M hown hK hP hD hS 0 rfl rfl 14 (by decide) (hts _ m_f_M_97) (fun _ h9 => h9) rfl (by decide +kernel) rfl rfl (Nat.le_of_ble_eq_true rfl) d_M_part_275 (fun H locs hP hD hS => ?_)
            have hP : va_P (dC, dI) classes (w_M cA cZ a (.ref (a 10)) (upf Xq 14 (fun _ => ((Xq 14 0) + 1)))) H := hP
            have hD : va_D A (w_M cA cZ a (.ref (a 10)) (upf Xq 14 (fun _ => ((Xq 14 0) + 1)))) := hD
            refine lv_aload_n hx hb d_M_part_278 rfl (lv_at hl 0 rfl) ?_
            have hFc := nc_free hD hS hA
            refine nc_muv (va_runV (As := []) (rest := []) hfix (c_M_readDescriptionF l dC dI cA cZ H.size a (upf Xq 14 (fun _ => ((Xq 14 0) + 1))) (m_adv_step (hereF_eq c_783 (by decide)) hma).1) (k_M_134 hts hN ⟨Nat.le_of_ble_eq_true rfl, Nat.le_of_ble_eq_true rfl⟩) (nc_preVZM hK hN hP hD rfl rfl) rfl rfl hl.1 rfl (lv_room (Nat.le_of_ble_eq_true rfl)) d_M_part_279 ⟨Nat.zero_le _, Nat.zero_le _⟩) hS hFc (fun H locs hP1 hD1 hk1 hS => ?_)
            have hP : va_P (dC, dI) classes (w_M cA cZ a (.ref (a 10)) (f_M_readDescriptionF (upf Xq 14 (fun _ => ((Xq 14 0) + 1))))) H := hP1
            have hD : va_D A (w_M cA cZ a (.ref (a 10)) (f_M_readDescriptionF (upf Xq 14 (fun _ => ((Xq 14 0) + 1))))) := hD1.weaken (fun _ q _ h => hFc q.1 h)
            refine lv_aload_n hx hb d_M_part_282 rfl (lv_at hl 0 rfl) ?_
            refine va_get (D := (dC, dI)) (ci := 4) (v := .int ((f_M_readDescriptionF (upf Xq 14 (fun _ => ((Xq 14 0) + 1)))) 15 0)) (C := R_M) (T := F_M) (N := 39) hx hb hts i_M hown hK hP 0 rfl rfl 15 (by decide) (hts _ m_f_M_100) (fun _ h9 => h9) rfl d_M_part_283 ?_
            refine lv_if_eq (tgt := 290) hx hb d_M_part_286 (by decide) (fun c_797 => ?_) (fun c_797 => ?_)
            · refine lv_aload_n hx hb d_M_part_290 rfl (lv_at hl 0 rfl) ?_
              refine lv_iconst (v := 3) hx hb d_M_part_291 (by decide) ?_
              refine nc_ro (va_runV (As := [.int 3]) (rest := []) hfix (c_M_fitting l dC dI cA cZ a (.ref (a 10)) (f_M_readDescriptionF (upf Xq 14 (fun _ => ((Xq 14 0) + 1)))) 3 (rd_tF hmt) (rd_kF hmk) (rdF_w c_797)) (k_M_149 hts hN ⟨Nat.le_of_ble_eq_true rfl, Nat.le_of_ble_eq_true rfl⟩) (nc_preVZ hK hN hP hD rfl rfl) rfl rfl hl.1 rfl (lv_room (Nat.le_of_ble_eq_true rfl)) d_M_part_292 ⟨Nat.zero_le _, Nat.zero_le _⟩) (fun r er => ?_)
              subst er
              refine lv_iload hx hb d_M_part_295 (lv_at hl 8 rfl) ?_
              refine lv_iand hx hb d_M_part_297 ?_
              refine lv_istore (lv' := [(11, .int ((f_M_fitting (f_M_readDescriptionF (upf Xq 14 (fun _ => ((Xq 14 0) + 1)))) 3) &&& z10)), (0, .ref (a 0)), (1, .int x1), (2, .int x2), (3, .int x3), (4, .int z4), (5, .int z5), (8, .int z8), (9, .int z9), (10, .int z10)]) hx hb d_M_part_298 hl (by decide) rfl (fun ls hl => ?_)
              refine lv_aload_n hx hb d_M_part_300 rfl (lv_at hl 1 rfl) ?_
              refine va_get (D := (dC, dI)) (ci := 4) (v := .int ((f_M_readDescriptionF (upf Xq 14 (fun _ => ((Xq 14 0) + 1)))) 19 0)) (C := R_M) (T := F_M) (N := 39) hx hb hts i_M hown hK hP 0 rfl rfl 19 (by decide) (hts _ m_f_M_137) (fun _ h9 => h9) rfl d_M_part_301 ?_
              refine lv_if_ne (tgt := 339) hx hb d_M_part_304 (by decide) (fun c_798 => ?_) (fun c_798 => ?_)
              · refine lv_goto (tgt := 254) hx hb d_M_part_339 (by decide) ?_
                exact ih (f_M_readDescriptionF (upf Xq 14 (fun _ => ((Xq 14 0) + 1)))) z10 H locs ls (by rw [hE, f_M_partF_L254, if_neg c_769, if_pos c_783, if_pos c_797, if_neg c_798]) (mu_adv (hereF_eq c_783 (by decide)) (rdF_a (ma_step (hereF_eq c_783 (by decide)) hma)) hm) (m_adv_trans (m_adv_step (hereF_eq c_783 (by decide)) hma) (rdF_a (m_adv_step (hereF_eq c_783 (by decide)) hma).1)).1 (rd_tF hmt) (rd_kF hmk) hP hD hS (lv_sub hl [1, 2, 3, 4, 5, 6, 7, 8, 9] rfl)
              · refine lv_aload_n hx hb d_M_part_307 rfl (lv_at hl 1 rfl) ?_
                refine lv_iload hx hb d_M_part_308 (lv_at hl 0 rfl) ?_
                refine lv_if_ne (tgt := 317) hx hb d_M_part_310 (by decide) (fun c_799 => ?_) (fun c_799 => ?_)
                · refine lv_iconst (v := 0) hx hb d_M_part_317 (by decide) ?_
                  refine va_put (D := (dC, dI)) (ci := 4) (v := .int 0) (ty := .int) (C := R_M) (T := F_M) (N := 39) hx hb hts i_M t_M t_M_ok n_M hown hK hP hD hS 0 rfl rfl 19 (by decide) (hts _ m_f_M_137) (fun _ h9 => h9) rfl (by decide +kernel) rfl rfl (Nat.le_of_ble_eq_true rfl) d_M_part_318 (fun H locs hP hD hS => ?_)
                  have hP : va_P (dC, dI) classes (w_M cA cZ a (.ref (a 10)) (upf (f_M_readDescriptionF (upf Xq 14 (fun _ => ((Xq 14 0) + 1)))) 19 (fun _ => 0))) H := hP
                  have hD : va_D A (w_M cA cZ a (.ref (a 10)) (upf (f_M_readDescriptionF (upf Xq 14 (fun _ => ((Xq 14 0) + 1)))) 19 (fun _ => 0))) := hD
                  refine lv_iload hx hb d_M_part_321 (lv_at hl 9 rfl) ?_
                  refine lv_iload hx hb d_M_part_323 (lv_at hl 0 rfl) ?_
                  refine lv_iconst (v := (-1)) hx hb d_M_part_325 (by decide) ?_
                  refine lv_ixor hx hb d_M_part_326 ?_
                  refine lv_iand hx hb d_M_part_327 ?_
                  refine lv_istore (lv' := [(10, .int (z10 &&& (((f_M_fitting (f_M_readDescriptionF (upf Xq 14 (fun _ => ((Xq 14 0) + 1)))) 3) &&& z10) ^^^ (-1)))), (11, .int ((f_M_fitting (f_M_readDescriptionF (upf Xq 14 (fun _ => ((Xq 14 0) + 1)))) 3) &&& z10)), (0, .ref (a 0)), (1, .int x1), (2, .int x2), (3, .int x3), (4, .int z4), (5, .int z5), (8, .int z8), (9, .int z9)]) hx hb d_M_part_328 hl (by decide) rfl (fun ls hl => ?_)
                  refine lv_aload_n hx hb d_M_part_330 rfl (lv_at hl 2 rfl) ?_
                  refine lv_iload hx hb d_M_part_331 (lv_at hl 0 rfl) ?_
                  refine nc_ro (va_runS (As := [.int (z10 &&& (((f_M_fitting (f_M_readDescriptionF (upf Xq 14 (fun _ => ((Xq 14 0) + 1)))) 3) &&& z10) ^^^ (-1)))]) (rest := [.ref (a 0)]) hfix (c_bitCount l dC dI cA (z10 &&& (((f_M_fitting (f_M_readDescriptionF (upf Xq 14 (fun _ => ((Xq 14 0) + 1)))) 3) &&& z10) ^^^ (-1)))) (k_M_155 hts hN ⟨Nat.le_of_ble_eq_true rfl, Nat.le_of_ble_eq_true rfl⟩) (nc_preS0 hK1 hN) rfl rfl hl.1 rfl (lv_room (Nat.le_of_ble_eq_true rfl)) d_M_part_333 ⟨Nat.zero_le _, Nat.zero_le _⟩) (fun r er => ?_)
                  subst er
                  refine va_put (D := (dC, dI)) (ci := 4) (v := .int (f_bitCount (z10 &&& (((f_M_fitting (f_M_readDescriptionF (upf Xq 14 (fun _ => ((Xq 14 0) + 1)))) 3) &&& z10) ^^^ (-1))))) (ty := .int) (C := R_M) (T := F_M) (N := 39) hx hb hts i_M t_M t_M_ok n_M hown hK hP hD hS 0 rfl rfl 21 (by decide) (hts _ m_f_M_160) (fun _ h9 => h9) rfl (by decide +kernel) rfl rfl (Nat.le_of_ble_eq_true rfl) d_M_part_336 (fun H locs hP hD hS => ?_)
                  have hP : va_P (dC, dI) classes (w_M cA cZ a (.ref (a 10)) (upf (upf (f_M_readDescriptionF (upf Xq 14 (fun _ => ((Xq 14 0) + 1)))) 19 (fun _ => 0)) 21 (fun _ => (f_bitCount (z10 &&& (((f_M_fitting (f_M_readDescriptionF (upf Xq 14 (fun _ => ((Xq 14 0) + 1)))) 3) &&& z10) ^^^ (-1))))))) H := hP
                  have hD : va_D A (w_M cA cZ a (.ref (a 10)) (upf (upf (f_M_readDescriptionF (upf Xq 14 (fun _ => ((Xq 14 0) + 1)))) 19 (fun _ => 0)) 21 (fun _ => (f_bitCount (z10 &&& (((f_M_fitting (f_M_readDescriptionF (upf Xq 14 (fun _ => ((Xq 14 0) + 1)))) 3) &&& z10) ^^^ (-1))))))) := hD
                  refine lv_goto (tgt := 254) hx hb d_M_part_339 (by decide) ?_
                  exact ih (upf (upf (f_M_readDescriptionF (upf Xq 14 (fun _ => ((Xq 14 0) + 1)))) 19 (fun _ => 0)) 21 (fun _ => (f_bitCount (z10 &&& (((f_M_fitting (f_M_readDescriptionF (upf Xq 14 (fun _ => ((Xq 14 0) + 1)))) 3) &&& z10) ^^^ (-1)))))) (z10 &&& (((f_M_fitting (f_M_readDescriptionF (upf Xq 14 (fun _ => ((Xq 14 0) + 1)))) 3) &&& z10) ^^^ (-1))) H locs ls (by rw [hE, f_M_partF_L254, if_neg c_769, if_pos c_783, if_pos c_797, if_pos c_798, if_neg c_799]) (mu_adv (hereF_eq c_783 (by decide)) (rdF_a (ma_step (hereF_eq c_783 (by decide)) hma)) hm) (m_adv_trans (m_adv_step (hereF_eq c_783 (by decide)) hma) (rdF_a (m_adv_step (hereF_eq c_783 (by decide)) hma).1)).1 (rd_tF hmt) (rd_kF hmk) hP hD hS (lv_sub hl [2, 3, 4, 5, 6, 7, 8, 9, 0] rfl)
                · refine lv_iconst (v := 4) hx hb d_M_part_313 (by decide) ?_
                  refine lv_goto (tgt := 318) hx hb d_M_part_314 (by decide) ?_
                  refine va_put (D := (dC, dI)) (ci := 4) (v := .int 4) (ty := .int) (C := R_M) (T := F_M) (N := 39) hx hb hts i_M t_M t_M_ok n_M hown hK hP hD hS 0 rfl rfl 19 (by decide) (hts _ m_f_M_137) (fun _ h9 => h9) rfl (by decide +kernel) rfl rfl (Nat.le_of_ble_eq_true rfl) d_M_part_318 (fun H locs hP hD hS => ?_)
                  have hP : va_P (dC, dI) classes (w_M cA cZ a (.ref (a 10)) (upf (f_M_readDescriptionF (upf Xq 14 (fun _ => ((Xq 14 0) + 1)))) 19 (fun _ => 4))) H := hP
                  have hD : va_D A (w_M cA cZ a (.ref (a 10)) (upf (f_M_readDescriptionF (upf Xq 14 (fun _ => ((Xq 14 0) + 1)))) 19 (fun _ => 4))) := hD
                  refine lv_iload hx hb d_M_part_321 (lv_at hl 9 rfl) ?_
                  refine lv_iload hx hb d_M_part_323 (lv_at hl 0 rfl) ?_
                  refine lv_iconst (v := (-1)) hx hb d_M_part_325 (by decide) ?_
                  refine lv_ixor hx hb d_M_part_326 ?_
                  refine lv_iand hx hb d_M_part_327 ?_
                  refine lv_istore (lv' := [(10, .int (z10 &&& (((f_M_fitting (f_M_readDescriptionF (upf Xq 14 (fun _ => ((Xq 14 0) + 1)))) 3) &&& z10) ^^^ (-1)))), (11, .int ((f_M_fitting (f_M_readDescriptionF (upf Xq 14 (fun _ => ((Xq 14 0) + 1)))) 3) &&& z10)), (0, .ref (a 0)), (1, .int x1), (2, .int x2), (3, .int x3), (4, .int z4), (5, .int z5), (8, .int z8), (9, .int z9)]) hx hb d_M_part_328 hl (by decide) rfl (fun ls hl => ?_)
                  refine lv_aload_n hx hb d_M_part_330 rfl (lv_at hl 2 rfl) ?_
                  refine lv_iload hx hb d_M_part_331 (lv_at hl 0 rfl) ?_
                  refine nc_ro (va_runS (As := [.int (z10 &&& (((f_M_fitting (f_M_readDescriptionF (upf Xq 14 (fun _ => ((Xq 14 0) + 1)))) 3) &&& z10) ^^^ (-1)))]) (rest := [.ref (a 0)]) hfix (c_bitCount l dC dI cA (z10 &&& (((f_M_fitting (f_M_readDescriptionF (upf Xq 14 (fun _ => ((Xq 14 0) + 1)))) 3) &&& z10) ^^^ (-1)))) (k_M_155 hts hN ⟨Nat.le_of_ble_eq_true rfl, Nat.le_of_ble_eq_true rfl⟩) (nc_preS0 hK1 hN) rfl rfl hl.1 rfl (lv_room (Nat.le_of_ble_eq_true rfl)) d_M_part_333 ⟨Nat.zero_le _, Nat.zero_le _⟩) (fun r er => ?_)
                  subst er
                  refine va_put (D := (dC, dI)) (ci := 4) (v := .int (f_bitCount (z10 &&& (((f_M_fitting (f_M_readDescriptionF (upf Xq 14 (fun _ => ((Xq 14 0) + 1)))) 3) &&& z10) ^^^ (-1))))) (ty := .int) (C := R_M) (T := F_M) (N := 39) hx hb hts i_M t_M t_M_ok n_M hown hK hP hD hS 0 rfl rfl 21 (by decide) (hts _ m_f_M_160) (fun _ h9 => h9) rfl (by decide +kernel) rfl rfl (Nat.le_of_ble_eq_true rfl) d_M_part_336 (fun H locs hP hD hS => ?_)
                  have hP : va_P (dC, dI) classes (w_M cA cZ a (.ref (a 10)) (upf (upf (f_M_readDescriptionF (upf Xq 14 (fun _ => ((Xq 14 0) + 1)))) 19 (fun _ => 4)) 21 (fun _ => (f_bitCount (z10 &&& (((f_M_fitting (f_M_readDescriptionF (upf Xq 14 (fun _ => ((Xq 14 0) + 1)))) 3) &&& z10) ^^^ (-1))))))) H := hP
                  have hD : va_D A (w_M cA cZ a (.ref (a 10)) (upf (upf (f_M_readDescriptionF (upf Xq 14 (fun _ => ((Xq 14 0) + 1)))) 19 (fun _ => 4)) 21 (fun _ => (f_bitCount (z10 &&& (((f_M_fitting (f_M_readDescriptionF (upf Xq 14 (fun _ => ((Xq 14 0) + 1)))) 3) &&& z10) ^^^ (-1))))))) := hD
                  refine lv_goto (tgt := 254) hx hb d_M_part_339 (by decide) ?_
                  exact ih (upf (upf (f_M_readDescriptionF (upf Xq 14 (fun _ => ((Xq 14 0) + 1)))) 19 (fun _ => 4)) 21 (fun _ => (f_bitCount (z10 &&& (((f_M_fitting (f_M_readDescriptionF (upf Xq 14 (fun _ => ((Xq 14 0) + 1)))) 3) &&& z10) ^^^ (-1)))))) (z10 &&& (((f_M_fitting (f_M_readDescriptionF (upf Xq 14 (fun _ => ((Xq 14 0) + 1)))) 3) &&& z10) ^^^ (-1))) H locs ls (by rw [hE, f_M_partF_L254, if_neg c_769, if_pos c_783, if_pos c_797, if_pos c_798, if_pos c_799]) (mu_adv (hereF_eq c_783 (by decide)) (rdF_a (ma_step (hereF_eq c_783 (by decide)) hma)) hm) (m_adv_trans (m_adv_step (hereF_eq c_783 (by decide)) hma) (rdF_a (m_adv_step (hereF_eq c_783 (by decide)) hma).1)).1 (rd_tF hmt) (rd_kF hmk) hP hD hS (lv_sub hl [2, 3, 4, 5, 6, 7, 8, 9, 0] rfl)
            · have hF : (f_M_partF X x1 x2 x3) = (f_M_readDescriptionF (upf Xq 14 (fun _ => ((Xq 14 0) + 1)))) := by rw [hE, f_M_partF_L254, if_neg c_769, if_pos c_783, if_neg c_797]
              exact W.vret hx hb hr (fun t ht hW => ⟨⟨(), rfl, trivial, by rw [hF, ht]; exact hP, by rw [hF]; exact hD⟩, hS.F ht⟩) hS.2.2 d_M_part_289
    exact loop_254 (nc_mu (Xq 13 0) (Xq 14 0) + 1) Xq z10 H locs ls (by rw [hE, f_M_partF_J254]) (Nat.lt_succ_self _) hma hmt hmk hP hD hS (lv_sub hl [0, 1, 2, 3, 4, 5, 6, 7, 8] rfl)
  have join_213 : ∀ (Xq : (Nat → Nat → Int32)) (z4 z5 z7 z8 z9 : Int32) (H : Heap) (locs : List Loc) (ls : Array Slot), (f_M_partF X x1 x2 x3) = (f_M_partF_J213 x1 x2 x3 Xq z4 z5 z7 z8 z9) → m_a Xq → m_t Xq → m_k Xq → va_P (dC, dI) classes (w_M cA cZ a (.ref (a 10)) Xq) H → va_D A (w_M cA cZ a (.ref (a 10)) Xq) → va_S A s.heap H locs → lv_has ls 12 [(0, .ref (a 0)), (1, .int x1), (2, .int x2), (3, .int x3), (4, .int z4), (5, .int z5), (7, .int z7), (8, .int z8), (9, .int z9)] → W p l e (headSpec ws_M_partF rm_M_partF).room s m [.ref (a 0), .int x1, .int x2, .int x3].toArray below meth c H locs 0 0 (MQ below (va_Qv (fun _ : Unit => True) (fun _ t => va_P (dC, dI) classes (w_M cA cZ a (.ref (a 10)) (f_M_partF X x1 x2 x3)) t.heap ∧ va_D A (w_M cA cZ a (.ref (a 10)) (f_M_partF X x1 x2 x3))) A) [.ref (a 0), .int x1, .int x2, .int x3].toArray s 0 0 A) (F0 m 213 ls []) := by
    intro Xq z4 z5 z7 z8 z9 H locs ls hE hma hmt hmk hP hD hS hl
    refine lv_iload hx hb d_M_part_213 (lv_at hl 6 rfl) ?_
    refine lv_aload_n hx hb d_M_part_215 rfl (lv_at hl 0 rfl) ?_
    refine nc_ro (va_runV (As := []) (rest := [.int z7]) hfix (c_M_there l dC dI cA cZ a (.ref (a 10)) Xq hmt) (k_M_152 hts hN ⟨Nat.le_of_ble_eq_true rfl, Nat.le_of_ble_eq_true rfl⟩) (nc_preVZ hK hN hP hD rfl rfl) rfl rfl hl.1 rfl (lv_room (Nat.le_of_ble_eq_true rfl)) d_M_part_216 ⟨Nat.zero_le _, Nat.zero_le _⟩) (fun r er => ?_)
    subst er
    refine lv_iand hx hb d_M_part_219 ?_
    refine lv_istore (lv' := [(10, .int (z7 &&& (f_M_there Xq))), (0, .ref (a 0)), (1, .int x1), (2, .int x2), (3, .int x3), (4, .int z4), (5, .int z5), (7, .int z7), (8, .int z8), (9, .int z9)]) hx hb d_M_part_220 hl (by decide) rfl (fun ls hl => ?_)
    refine lv_aload_n hx hb d_M_part_222 rfl (lv_at hl 1 rfl) ?_
    refine lv_iload hx hb d_M_part_223 (lv_at hl 0 rfl) ?_
    refine nc_ro (va_runS (As := [.int (z7 &&& (f_M_there Xq))]) (rest := [.ref (a 0)]) hfix (c_bitCount l dC dI cA (z7 &&& (f_M_there Xq))) (k_M_155 hts hN ⟨Nat.le_of_ble_eq_true rfl, Nat.le_of_ble_eq_true rfl⟩) (nc_preS0 hK1 hN) rfl rfl hl.1 rfl (lv_room (Nat.le_of_ble_eq_true rfl)) d_M_part_225 ⟨Nat.zero_le _, Nat.zero_le _⟩) (fun r er => ?_)
    subst er
    refine va_put (D := (dC, dI)) (ci := 4) (v := .int (f_bitCount (z7 &&& (f_M_there Xq)))) (ty := .int) (C := R_M) (T := F_M) (N := 39) hx hb hts i_M t_M t_M_ok n_M hown hK hP hD hS 0 rfl rfl 21 (by decide) (hts _ m_f_M_160) (fun _ h9 => h9) rfl (by decide +kernel) rfl rfl (Nat.le_of_ble_eq_true rfl) d_M_part_228 (fun H locs hP hD hS => ?_)
    have hP : va_P (dC, dI) classes (w_M cA cZ a (.ref (a 10)) (upf Xq 21 (fun _ => (f_bitCount (z7 &&& (f_M_there Xq)))))) H := hP
    have hD : va_D A (w_M cA cZ a (.ref (a 10)) (upf Xq 21 (fun _ => (f_bitCount (z7 &&& (f_M_there Xq)))))) := hD
    refine lv_aload_n hx hb d_M_part_231 rfl (lv_at hl 1 rfl) ?_
    refine lv_iload hx hb d_M_part_232 (lv_at hl 7 rfl) ?_
    refine lv_if_ne (tgt := 241) hx hb d_M_part_234 (by decide) (fun c_800 => ?_) (fun c_800 => ?_)
    · refine lv_iload hx hb d_M_part_241 (lv_at hl 0 rfl) ?_
      refine lv_if_ne (tgt := 250) hx hb d_M_part_243 (by decide) (fun c_801 => ?_) (fun c_801 => ?_)
      · refine lv_iconst (v := 0) hx hb d_M_part_250 (by decide) ?_
        refine va_put (D := (dC, dI)) (ci := 4) (v := .int 0) (ty := .int) (C := R_M) (T := F_M) (N := 39) hx hb hts i_M t_M t_M_ok n_M hown hK hP hD hS 0 rfl rfl 19 (by decide) (hts _ m_f_M_137) (fun _ h9 => h9) rfl (by decide +kernel) rfl rfl (Nat.le_of_ble_eq_true rfl) d_M_part_251 (fun H locs hP hD hS => ?_)
        have hP : va_P (dC, dI) classes (w_M cA cZ a (.ref (a 10)) (upf (upf Xq 19 (fun _ => 0)) 21 (fun _ => (f_bitCount (z7 &&& (f_M_there Xq)))))) H := hP
        have hD : va_D A (w_M cA cZ a (.ref (a 10)) (upf (upf Xq 19 (fun _ => 0)) 21 (fun _ => (f_bitCount (z7 &&& (f_M_there Xq)))))) := hD
        exact join_254 (upf (upf Xq 19 (fun _ => 0)) 21 (fun _ => (f_bitCount (z7 &&& (f_M_there Xq))))) z4 z5 z8 z9 (z7 &&& (f_M_there Xq)) H locs ls (by rw [hE, f_M_partF_J213, if_neg c_800, if_neg c_801]) hma hmt hmk hP hD hS (lv_sub hl [1, 2, 3, 4, 5, 6, 8, 9, 0] rfl)
      · refine lv_iconst (v := 3) hx hb d_M_part_246 (by decide) ?_
        refine lv_goto (tgt := 251) hx hb d_M_part_247 (by decide) ?_
        refine va_put (D := (dC, dI)) (ci := 4) (v := .int 3) (ty := .int) (C := R_M) (T := F_M) (N := 39) hx hb hts i_M t_M t_M_ok n_M hown hK hP hD hS 0 rfl rfl 19 (by decide) (hts _ m_f_M_137) (fun _ h9 => h9) rfl (by decide +kernel) rfl rfl (Nat.le_of_ble_eq_true rfl) d_M_part_251 (fun H locs hP hD hS => ?_)
        have hP : va_P (dC, dI) classes (w_M cA cZ a (.ref (a 10)) (upf (upf Xq 19 (fun _ => 3)) 21 (fun _ => (f_bitCount (z7 &&& (f_M_there Xq)))))) H := hP
        have hD : va_D A (w_M cA cZ a (.ref (a 10)) (upf (upf Xq 19 (fun _ => 3)) 21 (fun _ => (f_bitCount (z7 &&& (f_M_there Xq)))))) := hD
        exact join_254 (upf (upf Xq 19 (fun _ => 3)) 21 (fun _ => (f_bitCount (z7 &&& (f_M_there Xq))))) z4 z5 z8 z9 (z7 &&& (f_M_there Xq)) H locs ls (by rw [hE, f_M_partF_J213, if_neg c_800, if_pos c_801]) hma hmt hmk hP hD hS (lv_sub hl [1, 2, 3, 4, 5, 6, 8, 9, 0] rfl)
    · refine lv_iconst (v := 2) hx hb d_M_part_237 (by decide) ?_
      refine lv_goto (tgt := 251) hx hb d_M_part_238 (by decide) ?_
      refine va_put (D := (dC, dI)) (ci := 4) (v := .int 2) (ty := .int) (C := R_M) (T := F_M) (N := 39) hx hb hts i_M t_M t_M_ok n_M hown hK hP hD hS 0 rfl rfl 19 (by decide) (hts _ m_f_M_137) (fun _ h9 => h9) rfl (by decide +kernel) rfl rfl (Nat.le_of_ble_eq_true rfl) d_M_part_251 (fun H locs hP hD hS => ?_)
      have hP : va_P (dC, dI) classes (w_M cA cZ a (.ref (a 10)) (upf (upf Xq 19 (fun _ => 2)) 21 (fun _ => (f_bitCount (z7 &&& (f_M_there Xq)))))) H := hP
      have hD : va_D A (w_M cA cZ a (.ref (a 10)) (upf (upf Xq 19 (fun _ => 2)) 21 (fun _ => (f_bitCount (z7 &&& (f_M_there Xq)))))) := hD
      exact join_254 (upf (upf Xq 19 (fun _ => 2)) 21 (fun _ => (f_bitCount (z7 &&& (f_M_there Xq))))) z4 z5 z8 z9 (z7 &&& (f_M_there Xq)) H locs ls (by rw [hE, f_M_partF_J213, if_pos c_800]) hma hmt hmk hP hD hS (lv_sub hl [1, 2, 3, 4, 5, 6, 8, 9, 0] rfl)
  have join_160 : ∀ (Xq : (Nat → Nat → Int32)) (z4 z5 z6 : Int32) (H : Heap) (locs : List Loc) (ls : Array Slot), (f_M_partF X x1 x2 x3) = (f_M_partF_J160 x1 x2 x3 Xq z4 z5 z6) → m_a Xq → m_t Xq → m_k Xq → va_P (dC, dI) classes (w_M cA cZ a (.ref (a 10)) Xq) H → va_D A (w_M cA cZ a (.ref (a 10)) Xq) → va_S A s.heap H locs → lv_has ls 12 [(0, .ref (a 0)), (1, .int x1), (2, .int x2), (3, .int x3), (4, .int z4), (5, .int z5), (6, .int z6)] → W p l e (headSpec ws_M_partF rm_M_partF).room s m [.ref (a 0), .int x1, .int x2, .int x3].toArray below meth c H locs 0 0 (MQ below (va_Qv (fun _ : Unit => True) (fun _ t => va_P (dC, dI) classes (w_M cA cZ a (.ref (a 10)) (f_M_partF X x1 x2 x3)) t.heap ∧ va_D A (w_M cA cZ a (.ref (a 10)) (f_M_partF X x1 x2 x3))) A) [.ref (a 0), .int x1, .int x2, .int x3].toArray s 0 0 A) (F0 m 160 ls []) := by
    intro Xq z4 z5 z6 H locs ls hE hma hmt hmk hP hD hS hl
    refine lv_aload_n hx hb d_M_part_160 rfl (lv_at hl 0 rfl) ?_
    refine nc_ro (va_runV (As := []) (rest := []) hfix (c_M_everything l dC dI cA cZ a (.ref (a 10)) Xq) (k_M_146 hts hN ⟨Nat.le_of_ble_eq_true rfl, Nat.le_of_ble_eq_true rfl⟩) (nc_preVZ hK hN hP hD rfl rfl) rfl rfl hl.1 rfl (lv_room (Nat.le_of_ble_eq_true rfl)) d_M_part_161 ⟨Nat.zero_le _, Nat.zero_le _⟩) (fun r er => ?_)
    subst er
    refine lv_istore (lv' := [(7, .int (f_M_everything Xq)), (0, .ref (a 0)), (1, .int x1), (2, .int x2), (3, .int x3), (4, .int z4), (5, .int z5), (6, .int z6)]) hx hb d_M_part_164 hl (by decide) rfl (fun ls hl => ?_)
    refine lv_iconst (v := 0) hx hb d_M_part_166 (by decide) ?_
    refine lv_istore (lv' := [(8, .int 0), (7, .int (f_M_everything Xq)), (0, .ref (a 0)), (1, .int x1), (2, .int x2), (3, .int x3), (4, .int z4), (5, .int z5), (6, .int z6)]) hx hb d_M_part_167 hl (by decide) rfl (fun ls hl => ?_)
    refine lv_iconst (v := 0) hx hb d_M_part_169 (by decide) ?_
    refine lv_istore (lv' := [(9, .int 0), (8, .int 0), (7, .int (f_M_everything Xq)), (0, .ref (a 0)), (1, .int x1), (2, .int x2), (3, .int x3), (4, .int z4), (5, .int z5), (6, .int z6)]) hx hb d_M_part_170 hl (by decide) rfl (fun ls hl => ?_)
    refine lv_iload hx hb d_M_part_172 (lv_at hl 9 rfl) ?_
    refine lv_if_eq (tgt := 213) hx hb d_M_part_174 (by decide) (fun c_802 => ?_) (fun c_802 => ?_)
    · exact join_213 Xq z4 z5 (f_M_everything Xq) 0 0 H locs ls (by rw [hE, f_M_partF_J160, if_pos c_802]) hma hmt hmk hP hD hS (lv_sub hl [3, 4, 5, 6, 7, 8, 2, 1, 0] rfl)
    · refine lv_aload_n hx hb d_M_part_177 rfl (lv_at hl 3 rfl) ?_
      have hFc := nc_free hD hS hA
      refine nc_muv (va_runV (As := []) (rest := []) hfix (c_M_readDescriptionF l dC dI cA cZ H.size a Xq hma) (k_M_134 hts hN ⟨Nat.le_of_ble_eq_true rfl, Nat.le_of_ble_eq_true rfl⟩) (nc_preVZM hK hN hP hD rfl rfl) rfl rfl hl.1 rfl (lv_room (Nat.le_of_ble_eq_true rfl)) d_M_part_178 ⟨Nat.zero_le _, Nat.zero_le _⟩) hS hFc (fun H locs hP1 hD1 hk1 hS => ?_)
      have hP : va_P (dC, dI) classes (w_M cA cZ a (.ref (a 10)) (f_M_readDescriptionF Xq)) H := hP1
      have hD : va_D A (w_M cA cZ a (.ref (a 10)) (f_M_readDescriptionF Xq)) := hD1.weaken (fun _ q _ h => hFc q.1 h)
      refine lv_aload_n hx hb d_M_part_181 rfl (lv_at hl 3 rfl) ?_
      refine va_get (D := (dC, dI)) (ci := 4) (v := .int ((f_M_readDescriptionF Xq) 15 0)) (C := R_M) (T := F_M) (N := 39) hx hb hts i_M hown hK hP 0 rfl rfl 15 (by decide) (hts _ m_f_M_100) (fun _ h9 => h9) rfl d_M_part_182 ?_
      refine lv_if_eq (tgt := 189) hx hb d_M_part_185 (by decide) (fun c_803 => ?_) (fun c_803 => ?_)
      · refine lv_aload_n hx hb d_M_part_189 rfl (lv_at hl 3 rfl) ?_
        refine lv_iconst (v := 3) hx hb d_M_part_190 (by decide) ?_
        refine nc_ro (va_runV (As := [.int 3]) (rest := []) hfix (c_M_fitting l dC dI cA cZ a (.ref (a 10)) (f_M_readDescriptionF Xq) 3 (rd_tF hmt) (rd_kF hmk) (rdF_w c_803)) (k_M_149 hts hN ⟨Nat.le_of_ble_eq_true rfl, Nat.le_of_ble_eq_true rfl⟩) (nc_preVZ hK hN hP hD rfl rfl) rfl rfl hl.1 rfl (lv_room (Nat.le_of_ble_eq_true rfl)) d_M_part_191 ⟨Nat.zero_le _, Nat.zero_le _⟩) (fun r er => ?_)
        subst er
        refine lv_istore (lv' := [(7, .int (f_M_fitting (f_M_readDescriptionF Xq) 3)), (9, .int 0), (8, .int 0), (0, .ref (a 0)), (1, .int x1), (2, .int x2), (3, .int x3), (4, .int z4), (5, .int z5), (6, .int z6)]) hx hb d_M_part_194 hl (by decide) rfl (fun ls hl => ?_)
        refine lv_aload_n hx hb d_M_part_196 rfl (lv_at hl 3 rfl) ?_
        refine lv_iconst (v := 2) hx hb d_M_part_197 (by decide) ?_
        refine nc_ro (va_runV (As := [.int 2]) (rest := []) hfix (c_M_fitting l dC dI cA cZ a (.ref (a 10)) (f_M_readDescriptionF Xq) 2 (rd_tF hmt) (rd_kF hmk) (rdF_w c_803)) (k_M_149 hts hN ⟨Nat.le_of_ble_eq_true rfl, Nat.le_of_ble_eq_true rfl⟩) (nc_preVZ hK hN hP hD rfl rfl) rfl rfl hl.1 rfl (lv_room (Nat.le_of_ble_eq_true rfl)) d_M_part_198 ⟨Nat.zero_le _, Nat.zero_le _⟩) (fun r er => ?_)
        subst er
        refine lv_istore (lv' := [(8, .int (f_M_fitting (f_M_readDescriptionF Xq) 2)), (7, .int (f_M_fitting (f_M_readDescriptionF Xq) 3)), (9, .int 0), (0, .ref (a 0)), (1, .int x1), (2, .int x2), (3, .int x3), (4, .int z4), (5, .int z5), (6, .int z6)]) hx hb d_M_part_201 hl (by decide) rfl (fun ls hl => ?_)
        refine lv_aload_n hx hb d_M_part_203 rfl (lv_at hl 3 rfl) ?_
        refine va_get (D := (dC, dI)) (ci := 4) (v := .int ((f_M_readDescriptionF Xq) 16 0)) (C := R_M) (T := F_M) (N := 39) hx hb hts i_M hown hK hP 0 rfl rfl 16 (by decide) (hts _ m_f_M_108) (fun _ h9 => h9) rfl d_M_part_204 ?_
        refine lv_iconst (v := 1) hx hb d_M_part_207 (by decide) ?_
        refine nc_ro (va_runS (As := [.int ((f_M_readDescriptionF Xq) 16 0), .int 1]) (rest := []) hfix (c_M_has l dC dI cA ((f_M_readDescriptionF Xq) 16 0) 1) (k_M_114 hts hN ⟨Nat.le_of_ble_eq_true rfl, Nat.le_of_ble_eq_true rfl⟩) (nc_preS0 hK1 hN) rfl rfl hl.1 rfl (lv_room (Nat.le_of_ble_eq_true rfl)) d_M_part_208 ⟨Nat.zero_le _, Nat.zero_le _⟩) (fun r er => ?_)
        obtain ⟨rfl, hz_804⟩ := er
        refine lv_istore (lv' := [(9, .int (f_M_has ((f_M_readDescriptionF Xq) 16 0) 1)), (8, .int (f_M_fitting (f_M_readDescriptionF Xq) 2)), (7, .int (f_M_fitting (f_M_readDescriptionF Xq) 3)), (0, .ref (a 0)), (1, .int x1), (2, .int x2), (3, .int x3), (4, .int z4), (5, .int z5), (6, .int z6)]) hx hb d_M_part_211 hl (by decide) rfl (fun ls hl => ?_)
        exact join_213 (f_M_readDescriptionF Xq) z4 z5 (f_M_fitting (f_M_readDescriptionF Xq) 3) (f_M_fitting (f_M_readDescriptionF Xq) 2) (f_M_has ((f_M_readDescriptionF Xq) 16 0) 1) H locs ls (by rw [hE, f_M_partF_J160, if_neg c_802, if_pos c_803]) (rdF_a hma).1 (rd_tF hmt) (rd_kF hmk) hP hD hS (lv_sub hl [3, 4, 5, 6, 7, 8, 2, 1, 0] rfl)
      · have hF : (f_M_partF X x1 x2 x3) = (f_M_readDescriptionF Xq) := by rw [hE, f_M_partF_J160, if_neg c_802, if_neg c_803]
        exact W.vret hx hb hr (fun t ht hW => ⟨⟨(), rfl, trivial, by rw [hF, ht]; exact hP, by rw [hF]; exact hD⟩, hS.F ht⟩) hS.2.2 d_M_part_188
  refine lv_aload_n hx hb d_M_part_0 rfl (lv_at hl 0 rfl) ?_
  refine lv_iconst (v := 0) hx hb d_M_part_1 (by decide) ?_
  refine va_put (D := (dC, dI)) (ci := 4) (v := .int 0) (ty := .int) (C := R_M) (T := F_M) (N := 39) hx hb hts i_M t_M t_M_ok n_M hown hK hP hD hS 0 rfl rfl 19 (by decide) (hts _ m_f_M_137) (fun _ h9 => h9) rfl (by decide +kernel) rfl rfl (Nat.le_of_ble_eq_true rfl) d_M_part_2 (fun H locs hP hD hS => ?_)
  have hP : va_P (dC, dI) classes (w_M cA cZ a (.ref (a 10)) (upf X 19 (fun _ => 0))) H := hP
  have hD : va_D A (w_M cA cZ a (.ref (a 10)) (upf X 19 (fun _ => 0))) := hD
  refine lv_aload_n hx hb d_M_part_5 rfl (lv_at hl 0 rfl) ?_
  refine lv_iconst (v := 0) hx hb d_M_part_6 (by decide) ?_
  refine va_put (D := (dC, dI)) (ci := 4) (v := .int 0) (ty := .int) (C := R_M) (T := F_M) (N := 39) hx hb hts i_M t_M t_M_ok n_M hown hK hP hD hS 0 rfl rfl 20 (by decide) (hts _ m_f_M_140) (fun _ h9 => h9) rfl (by decide +kernel) rfl rfl (Nat.le_of_ble_eq_true rfl) d_M_part_7 (fun H locs hP hD hS => ?_)
  have hP : va_P (dC, dI) classes (w_M cA cZ a (.ref (a 10)) (upf (upf X 19 (fun _ => 0)) 20 (fun _ => 0))) H := hP
  have hD : va_D A (w_M cA cZ a (.ref (a 10)) (upf (upf X 19 (fun _ => 0)) 20 (fun _ => 0))) := hD
  refine lv_aload_n hx hb d_M_part_10 rfl (lv_at hl 0 rfl) ?_
  refine lv_iconst (v := 0) hx hb d_M_part_11 (by decide) ?_
  refine va_put (D := (dC, dI)) (ci := 4) (v := .int 0) (ty := .int) (C := R_M) (T := F_M) (N := 39) hx hb hts i_M t_M t_M_ok n_M hown hK hP hD hS 0 rfl rfl 22 (by decide) (hts _ m_f_M_143) (fun _ h9 => h9) rfl (by decide +kernel) rfl rfl (Nat.le_of_ble_eq_true rfl) d_M_part_12 (fun H locs hP hD hS => ?_)
  have hP : va_P (dC, dI) classes (w_M cA cZ a (.ref (a 10)) (upf (upf (upf X 19 (fun _ => 0)) 20 (fun _ => 0)) 22 (fun _ => 0))) H := hP
  have hD : va_D A (w_M cA cZ a (.ref (a 10)) (upf (upf (upf X 19 (fun _ => 0)) 20 (fun _ => 0)) 22 (fun _ => 0))) := hD
  refine lv_aload_n hx hb d_M_part_15 rfl (lv_at hl 0 rfl) ?_
  refine nc_ro (va_runV (As := []) (rest := []) hfix (c_M_hereF l dC dI cA cZ a (upf (upf (upf X 19 (fun _ => 0)) 20 (fun _ => 0)) 22 (fun _ => 0)) hma) (k_M_104 hts hN ⟨Nat.le_of_ble_eq_true rfl, Nat.le_of_ble_eq_true rfl⟩) (nc_preVZ hK hN hP hD rfl rfl) rfl rfl hl.1 rfl (lv_room (Nat.le_of_ble_eq_true rfl)) d_M_part_16 ⟨Nat.zero_le _, Nat.zero_le _⟩) (fun r er => ?_)
  subst er
  refine lv_bipush (v := 34) hx hb d_M_part_19 (by decide) ?_
  refine lv_icmp_ne (tgt := 28) hx hb d_M_part_21 (by decide) (fun c_805 => ?_) (fun c_805 => ?_)
  · refine lv_iconst (v := 0) hx hb d_M_part_28 (by decide) ?_
    refine lv_istore (lv' := [(4, .int 0), (0, .ref (a 0)), (1, .int x1), (2, .int x2), (3, .int x3)]) hx hb d_M_part_29 hl (by decide) rfl (fun ls hl => ?_)
    refine lv_aload_n hx hb d_M_part_31 rfl (lv_at hl 1 rfl) ?_
    refine nc_ro (va_runV (As := []) (rest := []) hfix (c_M_hereF l dC dI cA cZ a (upf (upf (upf X 19 (fun _ => 0)) 20 (fun _ => 0)) 22 (fun _ => 0)) hma) (k_M_104 hts hN ⟨Nat.le_of_ble_eq_true rfl, Nat.le_of_ble_eq_true rfl⟩) (nc_preVZ hK hN hP hD rfl rfl) rfl rfl hl.1 rfl (lv_room (Nat.le_of_ble_eq_true rfl)) d_M_part_32 ⟨Nat.zero_le _, Nat.zero_le _⟩) (fun r er => ?_)
    subst er
    refine lv_bipush (v := 40) hx hb d_M_part_35 (by decide) ?_
    refine lv_icmp_le (tgt := 50) hx hb d_M_part_37 (by decide) (fun c_806 => ?_) (fun c_806 => ?_)
    · refine lv_iconst (v := 0) hx hb d_M_part_50 (by decide) ?_
      refine lv_istore (lv' := [(5, .int 0), (4, .int 0), (0, .ref (a 0)), (1, .int x1), (2, .int x2), (3, .int x3)]) hx hb d_M_part_51 hl (by decide) rfl (fun ls hl => ?_)
      refine lv_iconst (v := 1) hx hb d_M_part_53 (by decide) ?_
      refine lv_istore (lv' := [(6, .int 1), (5, .int 0), (4, .int 0), (0, .ref (a 0)), (1, .int x1), (2, .int x2), (3, .int x3)]) hx hb d_M_part_54 hl (by decide) rfl (fun ls hl => ?_)
      refine lv_iload hx hb d_M_part_56 (lv_at hl 2 rfl) ?_
      refine lv_if_ne (tgt := 66) hx hb d_M_part_58 (by decide) (fun c_807 => ?_) (fun c_807 => ?_)
      · exact absurd c_807 (by decide)
      · refine lv_iload hx hb d_M_part_61 (lv_at hl 1 rfl) ?_
        refine lv_if_le (tgt := 160) hx hb d_M_part_63 (by decide) (fun c_808 => ?_) (fun c_808 => ?_)
        · exact join_160 (upf (upf (upf X 19 (fun _ => 0)) 20 (fun _ => 0)) 22 (fun _ => 0)) 0 0 1 H locs ls (by rw [f_M_partF, if_neg c_805, if_pos c_806]) hma hmt hmk hP hD hS (lv_sub hl [3, 4, 5, 6, 2, 1, 0] rfl)
        · exact absurd c_808 (by decide)
    · refine lv_aload_n hx hb d_M_part_40 rfl (lv_at hl 1 rfl) ?_
      refine nc_ro (va_runV (As := []) (rest := []) hfix (c_M_hereF l dC dI cA cZ a (upf (upf (upf X 19 (fun _ => 0)) 20 (fun _ => 0)) 22 (fun _ => 0)) hma) (k_M_104 hts hN ⟨Nat.le_of_ble_eq_true rfl, Nat.le_of_ble_eq_true rfl⟩) (nc_preVZ hK hN hP hD rfl rfl) rfl rfl hl.1 rfl (lv_room (Nat.le_of_ble_eq_true rfl)) d_M_part_41 ⟨Nat.zero_le _, Nat.zero_le _⟩) (fun r er => ?_)
      subst er
      refine lv_bipush (v := 40) hx hb d_M_part_44 (by decide) ?_
      refine lv_isub hx hb d_M_part_46 ?_
      refine lv_goto (tgt := 51) hx hb d_M_part_47 (by decide) ?_
      refine lv_istore (lv' := [(5, .int ((f_M_hereF (upf (upf (upf X 19 (fun _ => 0)) 20 (fun _ => 0)) 22 (fun _ => 0))) - 40)), (4, .int 0), (0, .ref (a 0)), (1, .int x1), (2, .int x2), (3, .int x3)]) hx hb d_M_part_51 hl (by decide) rfl (fun ls hl => ?_)
      refine lv_iconst (v := 1) hx hb d_M_part_53 (by decide) ?_
      refine lv_istore (lv' := [(6, .int 1), (5, .int ((f_M_hereF (upf (upf (upf X 19 (fun _ => 0)) 20 (fun _ => 0)) 22 (fun _ => 0))) - 40)), (4, .int 0), (0, .ref (a 0)), (1, .int x1), (2, .int x2), (3, .int x3)]) hx hb d_M_part_54 hl (by decide) rfl (fun ls hl => ?_)
      refine lv_iload hx hb d_M_part_56 (lv_at hl 2 rfl) ?_
      refine lv_if_ne (tgt := 66) hx hb d_M_part_58 (by decide) (fun c_809 => ?_) (fun c_809 => ?_)
      · exact absurd c_809 (by decide)
      · refine lv_iload hx hb d_M_part_61 (lv_at hl 1 rfl) ?_
        refine lv_if_le (tgt := 160) hx hb d_M_part_63 (by decide) (fun c_810 => ?_) (fun c_810 => ?_)
        · exact join_160 (upf (upf (upf X 19 (fun _ => 0)) 20 (fun _ => 0)) 22 (fun _ => 0)) 0 ((f_M_hereF (upf (upf (upf X 19 (fun _ => 0)) 20 (fun _ => 0)) 22 (fun _ => 0))) - 40) 1 H locs ls (by rw [f_M_partF, if_neg c_805, if_neg c_806, if_pos c_810]) hma hmt hmk hP hD hS (lv_sub hl [3, 4, 5, 6, 2, 1, 0] rfl)
        · refine lv_aload_n hx hb d_M_part_66 rfl (lv_at hl 3 rfl) ?_
          refine lv_dup hx hb d_M_part_67 rfl ?_
          refine va_get (D := (dC, dI)) (ci := 4) (v := .int (X 14 0)) (C := R_M) (T := F_M) (N := 39) hx hb hts i_M hown hK hP 0 rfl rfl 14 (by decide) (hts _ m_f_M_97) (fun _ h9 => h9) rfl d_M_part_68 ?_
          refine lv_iconst (v := 1) hx hb d_M_part_71 (by decide) ?_
          refine lv_iadd hx hb d_M_part_72 ?_
          refine va_put (D := (dC, dI)) (ci := 4) (v := .int ((X 14 0) + 1)) (ty := .int) (C := R_M) (T := F_M) (N := 39) hx hb hts i_M t_M t_M_ok n_M hown hK hP hD hS 0 rfl rfl 14 (by decide) (hts _ m_f_M_97) (fun _ h9 => h9) rfl (by decide +kernel) rfl rfl (Nat.le_of_ble_eq_true rfl) d_M_part_73 (fun H locs hP hD hS => ?_)
          have hP : va_P (dC, dI) classes (w_M cA cZ a (.ref (a 10)) (upf (upf (upf (upf X 14 (fun _ => ((X 14 0) + 1))) 19 (fun _ => 0)) 20 (fun _ => 0)) 22 (fun _ => 0))) H := hP
          have hD : va_D A (w_M cA cZ a (.ref (a 10)) (upf (upf (upf (upf X 14 (fun _ => ((X 14 0) + 1))) 19 (fun _ => 0)) 20 (fun _ => 0)) 22 (fun _ => 0))) := hD
          refine lv_aload_n hx hb d_M_part_76 rfl (lv_at hl 3 rfl) ?_
          refine nc_ro (va_runV (As := []) (rest := []) hfix (c_M_hereF l dC dI cA cZ a (upf (upf (upf (upf X 14 (fun _ => ((X 14 0) + 1))) 19 (fun _ => 0)) 20 (fun _ => 0)) 22 (fun _ => 0)) (m_adv_step (hereF_gt c_806) hma).1) (k_M_104 hts hN ⟨Nat.le_of_ble_eq_true rfl, Nat.le_of_ble_eq_true rfl⟩) (nc_preVZ hK hN hP hD rfl rfl) rfl rfl hl.1 rfl (lv_room (Nat.le_of_ble_eq_true rfl)) d_M_part_77 ⟨Nat.zero_le _, Nat.zero_le _⟩) (fun r er => ?_)
          subst er
          refine lv_bipush (v := 37) hx hb d_M_part_80 (by decide) ?_
          refine lv_icmp_ne (tgt := 89) hx hb d_M_part_82 (by decide) (fun c_811 => ?_) (fun c_811 => ?_)
          · refine lv_iconst (v := 0) hx hb d_M_part_89 (by decide) ?_
            refine lv_istore (lv' := [(7, .int 0), (6, .int 1), (5, .int ((f_M_hereF (upf (upf (upf X 19 (fun _ => 0)) 20 (fun _ => 0)) 22 (fun _ => 0))) - 40)), (4, .int 0), (0, .ref (a 0)), (1, .int x1), (2, .int x2), (3, .int x3)]) hx hb d_M_part_90 hl (by decide) rfl (fun ls hl => ?_)
            refine lv_iload hx hb d_M_part_92 (lv_at hl 2 rfl) ?_
            refine lv_if_gt (tgt := 131) hx hb d_M_part_94 (by decide) (fun c_812 => ?_) (fun c_812 => ?_)
            · refine lv_iconst (v := 1) hx hb d_M_part_131 (by decide) ?_
              refine lv_goto (tgt := 136) hx hb d_M_part_132 (by decide) ?_
              refine lv_istore (lv' := [(6, .int 1), (7, .int 0), (5, .int ((f_M_hereF (upf (upf (upf X 19 (fun _ => 0)) 20 (fun _ => 0)) 22 (fun _ => 0))) - 40)), (4, .int 0), (0, .ref (a 0)), (1, .int x1), (2, .int x2), (3, .int x3)]) hx hb d_M_part_136 hl (by decide) rfl (fun ls hl => ?_)
              refine lv_aload_n hx hb d_M_part_138 rfl (lv_at hl 4 rfl) ?_
              refine lv_iload hx hb d_M_part_139 (lv_at hl 1 rfl) ?_
              refine lv_if_eq (tgt := 153) hx hb d_M_part_141 (by decide) (fun c_813 => ?_) (fun c_813 => ?_)
              · refine lv_aload_n hx hb d_M_part_153 rfl (lv_at hl 4 rfl) ?_
                refine va_get (D := (dC, dI)) (ci := 4) (v := .int ((X 14 0) + 1)) (C := R_M) (T := F_M) (N := 39) hx hb hts i_M hown hK hP 0 rfl rfl 14 (by decide) (hts _ m_f_M_97) (fun _ h9 => h9) rfl d_M_part_154 ?_
                refine va_put (D := (dC, dI)) (ci := 4) (v := .int ((X 14 0) + 1)) (ty := .int) (C := R_M) (T := F_M) (N := 39) hx hb hts i_M t_M t_M_ok n_M hown hK hP hD hS 0 rfl rfl 14 (by decide) (hts _ m_f_M_97) (fun _ h9 => h9) rfl (by decide +kernel) rfl rfl (Nat.le_of_ble_eq_true rfl) d_M_part_157 (fun H locs hP hD hS => ?_)
                have hP : va_P (dC, dI) classes (w_M cA cZ a (.ref (a 10)) (upf (upf (upf (upf X 14 (fun _ => ((X 14 0) + 1))) 19 (fun _ => 0)) 20 (fun _ => 0)) 22 (fun _ => 0))) H := hP
                have hD : va_D A (w_M cA cZ a (.ref (a 10)) (upf (upf (upf (upf X 14 (fun _ => ((X 14 0) + 1))) 19 (fun _ => 0)) 20 (fun _ => 0)) 22 (fun _ => 0))) := hD
                exact join_160 (upf (upf (upf (upf X 14 (fun _ => ((X 14 0) + 1))) 19 (fun _ => 0)) 20 (fun _ => 0)) 22 (fun _ => 0)) 0 ((f_M_hereF (upf (upf (upf X 19 (fun _ => 0)) 20 (fun _ => 0)) 22 (fun _ => 0))) - 40) 1 H locs ls (by rw [f_M_partF, if_neg c_805, if_neg c_806, if_neg c_810, if_neg c_811, if_pos c_812]) (m_adv_step (hereF_gt c_806) hma).1 hmt hmk hP hD hS (lv_sub hl [4, 5, 6, 7, 3, 2, 0] rfl)
              · exact absurd c_813 (by decide)
            · refine lv_iload hx hb d_M_part_97 (lv_at hl 0 rfl) ?_
              refine lv_if_ne (tgt := 131) hx hb d_M_part_99 (by decide) (fun c_814 => ?_) (fun c_814 => ?_)
              · exact absurd c_814 (by decide)
              · refine lv_aload_n hx hb d_M_part_102 rfl (lv_at hl 4 rfl) ?_
                refine va_get (D := (dC, dI)) (ci := 4) (v := .int ((X 14 0) + 1)) (C := R_M) (T := F_M) (N := 39) hx hb hts i_M hown hK hP 0 rfl rfl 14 (by decide) (hts _ m_f_M_97) (fun _ h9 => h9) rfl d_M_part_103 ?_
                refine lv_aload_n hx hb d_M_part_106 rfl (lv_at hl 4 rfl) ?_
                refine va_get (D := (dC, dI)) (ci := 4) (v := .int (X 13 0)) (C := R_M) (T := F_M) (N := 39) hx hb hts i_M hown hK hP 0 rfl rfl 13 (by decide) (hts _ m_f_M_94) (fun _ h9 => h9) rfl d_M_part_107 ?_
                refine lv_icmp_ge (tgt := 135) hx hb d_M_part_110 (by decide) (fun c_815 => ?_) (fun c_815 => ?_)
                · refine lv_iconst (v := 0) hx hb d_M_part_135 (by decide) ?_
                  refine lv_istore (lv' := [(6, .int 0), (7, .int 0), (5, .int ((f_M_hereF (upf (upf (upf X 19 (fun _ => 0)) 20 (fun _ => 0)) 22 (fun _ => 0))) - 40)), (4, .int 0), (0, .ref (a 0)), (1, .int x1), (2, .int x2), (3, .int x3)]) hx hb d_M_part_136 hl (by decide) rfl (fun ls hl => ?_)
                  refine lv_aload_n hx hb d_M_part_138 rfl (lv_at hl 4 rfl) ?_
                  refine lv_iload hx hb d_M_part_139 (lv_at hl 1 rfl) ?_
                  refine lv_if_eq (tgt := 153) hx hb d_M_part_141 (by decide) (fun c_816 => ?_) (fun c_816 => ?_)
                  · refine lv_aload_n hx hb d_M_part_153 rfl (lv_at hl 4 rfl) ?_
                    refine va_get (D := (dC, dI)) (ci := 4) (v := .int ((X 14 0) + 1)) (C := R_M) (T := F_M) (N := 39) hx hb hts i_M hown hK hP 0 rfl rfl 14 (by decide) (hts _ m_f_M_97) (fun _ h9 => h9) rfl d_M_part_154 ?_
                    refine va_put (D := (dC, dI)) (ci := 4) (v := .int ((X 14 0) + 1)) (ty := .int) (C := R_M) (T := F_M) (N := 39) hx hb hts i_M t_M t_M_ok n_M hown hK hP hD hS 0 rfl rfl 14 (by decide) (hts _ m_f_M_97) (fun _ h9 => h9) rfl (by decide +kernel) rfl rfl (Nat.le_of_ble_eq_true rfl) d_M_part_157 (fun H locs hP hD hS => ?_)
                    have hP : va_P (dC, dI) classes (w_M cA cZ a (.ref (a 10)) (upf (upf (upf (upf X 14 (fun _ => ((X 14 0) + 1))) 19 (fun _ => 0)) 20 (fun _ => 0)) 22 (fun _ => 0))) H := hP
                    have hD : va_D A (w_M cA cZ a (.ref (a 10)) (upf (upf (upf (upf X 14 (fun _ => ((X 14 0) + 1))) 19 (fun _ => 0)) 20 (fun _ => 0)) 22 (fun _ => 0))) := hD
                    exact join_160 (upf (upf (upf (upf X 14 (fun _ => ((X 14 0) + 1))) 19 (fun _ => 0)) 20 (fun _ => 0)) 22 (fun _ => 0)) 0 ((f_M_hereF (upf (upf (upf X 19 (fun _ => 0)) 20 (fun _ => 0)) 22 (fun _ => 0))) - 40) 0 H locs ls (by rw [f_M_partF, if_neg c_805, if_neg c_806, if_neg c_810, if_neg c_811, if_neg c_812, if_pos c_815]) (m_adv_step (hereF_gt c_806) hma).1 hmt hmk hP hD hS (lv_sub hl [4, 5, 6, 7, 3, 2, 0] rfl)
                  · exact absurd c_816 (by decide)
                · refine lv_aload_n hx hb d_M_part_113 rfl (lv_at hl 4 rfl) ?_
                  refine nc_ro (va_runV (As := []) (rest := []) hfix (c_M_hereF l dC dI cA cZ a (upf (upf (upf (upf X 14 (fun _ => ((X 14 0) + 1))) 19 (fun _ => 0)) 20 (fun _ => 0)) 22 (fun _ => 0)) (m_adv_step (hereF_gt c_806) hma).1) (k_M_104 hts hN ⟨Nat.le_of_ble_eq_true rfl, Nat.le_of_ble_eq_true rfl⟩) (nc_preVZ hK hN hP hD rfl rfl) rfl rfl hl.1 rfl (lv_room (Nat.le_of_ble_eq_true rfl)) d_M_part_114 ⟨Nat.zero_le _, Nat.zero_le _⟩) (fun r er => ?_)
                  subst er
                  refine lv_bipush (v := 35) hx hb d_M_part_117 (by decide) ?_
                  refine lv_icmp_eq (tgt := 135) hx hb d_M_part_119 (by decide) (fun c_817 => ?_) (fun c_817 => ?_)
                  · refine lv_iconst (v := 0) hx hb d_M_part_135 (by decide) ?_
                    refine lv_istore (lv' := [(6, .int 0), (7, .int 0), (5, .int ((f_M_hereF (upf (upf (upf X 19 (fun _ => 0)) 20 (fun _ => 0)) 22 (fun _ => 0))) - 40)), (4, .int 0), (0, .ref (a 0)), (1, .int x1), (2, .int x2), (3, .int x3)]) hx hb d_M_part_136 hl (by decide) rfl (fun ls hl => ?_)
                    refine lv_aload_n hx hb d_M_part_138 rfl (lv_at hl 4 rfl) ?_
                    refine lv_iload hx hb d_M_part_139 (lv_at hl 1 rfl) ?_
                    refine lv_if_eq (tgt := 153) hx hb d_M_part_141 (by decide) (fun c_818 => ?_) (fun c_818 => ?_)
                    · refine lv_aload_n hx hb d_M_part_153 rfl (lv_at hl 4 rfl) ?_
                      refine va_get (D := (dC, dI)) (ci := 4) (v := .int ((X 14 0) + 1)) (C := R_M) (T := F_M) (N := 39) hx hb hts i_M hown hK hP 0 rfl rfl 14 (by decide) (hts _ m_f_M_97) (fun _ h9 => h9) rfl d_M_part_154 ?_
                      refine va_put (D := (dC, dI)) (ci := 4) (v := .int ((X 14 0) + 1)) (ty := .int) (C := R_M) (T := F_M) (N := 39) hx hb hts i_M t_M t_M_ok n_M hown hK hP hD hS 0 rfl rfl 14 (by decide) (hts _ m_f_M_97) (fun _ h9 => h9) rfl (by decide +kernel) rfl rfl (Nat.le_of_ble_eq_true rfl) d_M_part_157 (fun H locs hP hD hS => ?_)
                      have hP : va_P (dC, dI) classes (w_M cA cZ a (.ref (a 10)) (upf (upf (upf (upf X 14 (fun _ => ((X 14 0) + 1))) 19 (fun _ => 0)) 20 (fun _ => 0)) 22 (fun _ => 0))) H := hP
                      have hD : va_D A (w_M cA cZ a (.ref (a 10)) (upf (upf (upf (upf X 14 (fun _ => ((X 14 0) + 1))) 19 (fun _ => 0)) 20 (fun _ => 0)) 22 (fun _ => 0))) := hD
                      exact join_160 (upf (upf (upf (upf X 14 (fun _ => ((X 14 0) + 1))) 19 (fun _ => 0)) 20 (fun _ => 0)) 22 (fun _ => 0)) 0 ((f_M_hereF (upf (upf (upf X 19 (fun _ => 0)) 20 (fun _ => 0)) 22 (fun _ => 0))) - 40) 0 H locs ls (by rw [f_M_partF, if_neg c_805, if_neg c_806, if_neg c_810, if_neg c_811, if_neg c_812, if_neg c_815, if_pos c_817]) (m_adv_step (hereF_gt c_806) hma).1 hmt hmk hP hD hS (lv_sub hl [4, 5, 6, 7, 3, 2, 0] rfl)
                    · exact absurd c_818 (by decide)
                  · refine lv_aload_n hx hb d_M_part_122 rfl (lv_at hl 4 rfl) ?_
                    refine nc_ro (va_runV (As := []) (rest := []) hfix (c_M_hereF l dC dI cA cZ a (upf (upf (upf (upf X 14 (fun _ => ((X 14 0) + 1))) 19 (fun _ => 0)) 20 (fun _ => 0)) 22 (fun _ => 0)) (m_adv_step (hereF_gt c_806) hma).1) (k_M_104 hts hN ⟨Nat.le_of_ble_eq_true rfl, Nat.le_of_ble_eq_true rfl⟩) (nc_preVZ hK hN hP hD rfl rfl) rfl rfl hl.1 rfl (lv_room (Nat.le_of_ble_eq_true rfl)) d_M_part_123 ⟨Nat.zero_le _, Nat.zero_le _⟩) (fun r er => ?_)
                    subst er
                    refine lv_bipush (v := 36) hx hb d_M_part_126 (by decide) ?_
                    refine lv_icmp_eq (tgt := 135) hx hb d_M_part_128 (by decide) (fun c_819 => ?_) (fun c_819 => ?_)
                    · refine lv_iconst (v := 0) hx hb d_M_part_135 (by decide) ?_
                      refine lv_istore (lv' := [(6, .int 0), (7, .int 0), (5, .int ((f_M_hereF (upf (upf (upf X 19 (fun _ => 0)) 20 (fun _ => 0)) 22 (fun _ => 0))) - 40)), (4, .int 0), (0, .ref (a 0)), (1, .int x1), (2, .int x2), (3, .int x3)]) hx hb d_M_part_136 hl (by decide) rfl (fun ls hl => ?_)
                      refine lv_aload_n hx hb d_M_part_138 rfl (lv_at hl 4 rfl) ?_
                      refine lv_iload hx hb d_M_part_139 (lv_at hl 1 rfl) ?_
                      refine lv_if_eq (tgt := 153) hx hb d_M_part_141 (by decide) (fun c_820 => ?_) (fun c_820 => ?_)
                      · refine lv_aload_n hx hb d_M_part_153 rfl (lv_at hl 4 rfl) ?_
                        refine va_get (D := (dC, dI)) (ci := 4) (v := .int ((X 14 0) + 1)) (C := R_M) (T := F_M) (N := 39) hx hb hts i_M hown hK hP 0 rfl rfl 14 (by decide) (hts _ m_f_M_97) (fun _ h9 => h9) rfl d_M_part_154 ?_
                        refine va_put (D := (dC, dI)) (ci := 4) (v := .int ((X 14 0) + 1)) (ty := .int) (C := R_M) (T := F_M) (N := 39) hx hb hts i_M t_M t_M_ok n_M hown hK hP hD hS 0 rfl rfl 14 (by decide) (hts _ m_f_M_97) (fun _ h9 => h9) rfl (by decide +kernel) rfl rfl (Nat.le_of_ble_eq_true rfl) d_M_part_157 (fun H locs hP hD hS => ?_)
                        have hP : va_P (dC, dI) classes (w_M cA cZ a (.ref (a 10)) (upf (upf (upf (upf X 14 (fun _ => ((X 14 0) + 1))) 19 (fun _ => 0)) 20 (fun _ => 0)) 22 (fun _ => 0))) H := hP
                        have hD : va_D A (w_M cA cZ a (.ref (a 10)) (upf (upf (upf (upf X 14 (fun _ => ((X 14 0) + 1))) 19 (fun _ => 0)) 20 (fun _ => 0)) 22 (fun _ => 0))) := hD
                        exact join_160 (upf (upf (upf (upf X 14 (fun _ => ((X 14 0) + 1))) 19 (fun _ => 0)) 20 (fun _ => 0)) 22 (fun _ => 0)) 0 ((f_M_hereF (upf (upf (upf X 19 (fun _ => 0)) 20 (fun _ => 0)) 22 (fun _ => 0))) - 40) 0 H locs ls (by rw [f_M_partF, if_neg c_805, if_neg c_806, if_neg c_810, if_neg c_811, if_neg c_812, if_neg c_815, if_neg c_817, if_pos c_819]) (m_adv_step (hereF_gt c_806) hma).1 hmt hmk hP hD hS (lv_sub hl [4, 5, 6, 7, 3, 2, 0] rfl)
                      · exact absurd c_820 (by decide)
                    · refine lv_iconst (v := 1) hx hb d_M_part_131 (by decide) ?_
                      refine lv_goto (tgt := 136) hx hb d_M_part_132 (by decide) ?_
                      refine lv_istore (lv' := [(6, .int 1), (7, .int 0), (5, .int ((f_M_hereF (upf (upf (upf X 19 (fun _ => 0)) 20 (fun _ => 0)) 22 (fun _ => 0))) - 40)), (4, .int 0), (0, .ref (a 0)), (1, .int x1), (2, .int x2), (3, .int x3)]) hx hb d_M_part_136 hl (by decide) rfl (fun ls hl => ?_)
                      refine lv_aload_n hx hb d_M_part_138 rfl (lv_at hl 4 rfl) ?_
                      refine lv_iload hx hb d_M_part_139 (lv_at hl 1 rfl) ?_
                      refine lv_if_eq (tgt := 153) hx hb d_M_part_141 (by decide) (fun c_821 => ?_) (fun c_821 => ?_)
                      · refine lv_aload_n hx hb d_M_part_153 rfl (lv_at hl 4 rfl) ?_
                        refine va_get (D := (dC, dI)) (ci := 4) (v := .int ((X 14 0) + 1)) (C := R_M) (T := F_M) (N := 39) hx hb hts i_M hown hK hP 0 rfl rfl 14 (by decide) (hts _ m_f_M_97) (fun _ h9 => h9) rfl d_M_part_154 ?_
                        refine va_put (D := (dC, dI)) (ci := 4) (v := .int ((X 14 0) + 1)) (ty := .int) (C := R_M) (T := F_M) (N := 39) hx hb hts i_M t_M t_M_ok n_M hown hK hP hD hS 0 rfl rfl 14 (by decide) (hts _ m_f_M_97) (fun _ h9 => h9) rfl (by decide +kernel) rfl rfl (Nat.le_of_ble_eq_true rfl) d_M_part_157 (fun H locs hP hD hS => ?_)
                        have hP : va_P (dC, dI) classes (w_M cA cZ a (.ref (a 10)) (upf (upf (upf (upf X 14 (fun _ => ((X 14 0) + 1))) 19 (fun _ => 0)) 20 (fun _ => 0)) 22 (fun _ => 0))) H := hP
                        have hD : va_D A (w_M cA cZ a (.ref (a 10)) (upf (upf (upf (upf X 14 (fun _ => ((X 14 0) + 1))) 19 (fun _ => 0)) 20 (fun _ => 0)) 22 (fun _ => 0))) := hD
                        exact join_160 (upf (upf (upf (upf X 14 (fun _ => ((X 14 0) + 1))) 19 (fun _ => 0)) 20 (fun _ => 0)) 22 (fun _ => 0)) 0 ((f_M_hereF (upf (upf (upf X 19 (fun _ => 0)) 20 (fun _ => 0)) 22 (fun _ => 0))) - 40) 1 H locs ls (by rw [f_M_partF, if_neg c_805, if_neg c_806, if_neg c_810, if_neg c_811, if_neg c_812, if_neg c_815, if_neg c_817, if_neg c_819]) (m_adv_step (hereF_gt c_806) hma).1 hmt hmk hP hD hS (lv_sub hl [4, 5, 6, 7, 3, 2, 0] rfl)
                      · exact absurd c_821 (by decide)
          · refine lv_iconst (v := 1) hx hb d_M_part_85 (by decide) ?_
            refine lv_goto (tgt := 90) hx hb d_M_part_86 (by decide) ?_
            refine lv_istore (lv' := [(7, .int 1), (6, .int 1), (5, .int ((f_M_hereF (upf (upf (upf X 19 (fun _ => 0)) 20 (fun _ => 0)) 22 (fun _ => 0))) - 40)), (4, .int 0), (0, .ref (a 0)), (1, .int x1), (2, .int x2), (3, .int x3)]) hx hb d_M_part_90 hl (by decide) rfl (fun ls hl => ?_)
            refine lv_iload hx hb d_M_part_92 (lv_at hl 2 rfl) ?_
            refine lv_if_gt (tgt := 131) hx hb d_M_part_94 (by decide) (fun c_822 => ?_) (fun c_822 => ?_)
            · refine lv_iconst (v := 1) hx hb d_M_part_131 (by decide) ?_
              refine lv_goto (tgt := 136) hx hb d_M_part_132 (by decide) ?_
              refine lv_istore (lv' := [(6, .int 1), (7, .int 1), (5, .int ((f_M_hereF (upf (upf (upf X 19 (fun _ => 0)) 20 (fun _ => 0)) 22 (fun _ => 0))) - 40)), (4, .int 0), (0, .ref (a 0)), (1, .int x1), (2, .int x2), (3, .int x3)]) hx hb d_M_part_136 hl (by decide) rfl (fun ls hl => ?_)
              refine lv_aload_n hx hb d_M_part_138 rfl (lv_at hl 4 rfl) ?_
              refine lv_iload hx hb d_M_part_139 (lv_at hl 1 rfl) ?_
              refine lv_if_eq (tgt := 153) hx hb d_M_part_141 (by decide) (fun c_823 => ?_) (fun c_823 => ?_)
              · exact absurd c_823 (by decide)
              · refine lv_aload_n hx hb d_M_part_144 rfl (lv_at hl 4 rfl) ?_
                refine va_get (D := (dC, dI)) (ci := 4) (v := .int ((X 14 0) + 1)) (C := R_M) (T := F_M) (N := 39) hx hb hts i_M hown hK hP 0 rfl rfl 14 (by decide) (hts _ m_f_M_97) (fun _ h9 => h9) rfl d_M_part_145 ?_
                refine lv_iconst (v := 1) hx hb d_M_part_148 (by decide) ?_
                refine lv_iadd hx hb d_M_part_149 ?_
                refine lv_goto (tgt := 157) hx hb d_M_part_150 (by decide) ?_
                refine va_put (D := (dC, dI)) (ci := 4) (v := .int (((X 14 0) + 1) + 1)) (ty := .int) (C := R_M) (T := F_M) (N := 39) hx hb hts i_M t_M t_M_ok n_M hown hK hP hD hS 0 rfl rfl 14 (by decide) (hts _ m_f_M_97) (fun _ h9 => h9) rfl (by decide +kernel) rfl rfl (Nat.le_of_ble_eq_true rfl) d_M_part_157 (fun H locs hP hD hS => ?_)
                have hP : va_P (dC, dI) classes (w_M cA cZ a (.ref (a 10)) (upf (upf (upf (upf X 14 (fun _ => (((X 14 0) + 1) + 1))) 19 (fun _ => 0)) 20 (fun _ => 0)) 22 (fun _ => 0))) H := hP
                have hD : va_D A (w_M cA cZ a (.ref (a 10)) (upf (upf (upf (upf X 14 (fun _ => (((X 14 0) + 1) + 1))) 19 (fun _ => 0)) 20 (fun _ => 0)) 22 (fun _ => 0))) := hD
                exact join_160 (upf (upf (upf (upf X 14 (fun _ => (((X 14 0) + 1) + 1))) 19 (fun _ => 0)) 20 (fun _ => 0)) 22 (fun _ => 0)) 0 ((f_M_hereF (upf (upf (upf X 19 (fun _ => 0)) 20 (fun _ => 0)) 22 (fun _ => 0))) - 40) 1 H locs ls (by rw [f_M_partF, if_neg c_805, if_neg c_806, if_neg c_810, if_pos c_811, if_pos c_822]) (m_adv_trans (m_adv_step (hereF_gt c_806) hma) (m_adv_step (hereF_eq c_811 (by decide)) (m_adv_step (hereF_gt c_806) hma).1)).1 hmt hmk hP hD hS (lv_sub hl [4, 5, 6, 7, 3, 2, 0] rfl)
            · refine lv_iload hx hb d_M_part_97 (lv_at hl 0 rfl) ?_
              refine lv_if_ne (tgt := 131) hx hb d_M_part_99 (by decide) (fun c_824 => ?_) (fun c_824 => ?_)
              · refine lv_iconst (v := 1) hx hb d_M_part_131 (by decide) ?_
                refine lv_goto (tgt := 136) hx hb d_M_part_132 (by decide) ?_
                refine lv_istore (lv' := [(6, .int 1), (7, .int 1), (5, .int ((f_M_hereF (upf (upf (upf X 19 (fun _ => 0)) 20 (fun _ => 0)) 22 (fun _ => 0))) - 40)), (4, .int 0), (0, .ref (a 0)), (1, .int x1), (2, .int x2), (3, .int x3)]) hx hb d_M_part_136 hl (by decide) rfl (fun ls hl => ?_)
                refine lv_aload_n hx hb d_M_part_138 rfl (lv_at hl 4 rfl) ?_
                refine lv_iload hx hb d_M_part_139 (lv_at hl 1 rfl) ?_
                refine lv_if_eq (tgt := 153) hx hb d_M_part_141 (by decide) (fun c_825 => ?_) (fun c_825 => ?_)
                · exact absurd c_825 (by decide)
                · refine lv_aload_n hx hb d_M_part_144 rfl (lv_at hl 4 rfl) ?_
                  refine va_get (D := (dC, dI)) (ci := 4) (v := .int ((X 14 0) + 1)) (C := R_M) (T := F_M) (N := 39) hx hb hts i_M hown hK hP 0 rfl rfl 14 (by decide) (hts _ m_f_M_97) (fun _ h9 => h9) rfl d_M_part_145 ?_
                  refine lv_iconst (v := 1) hx hb d_M_part_148 (by decide) ?_
                  refine lv_iadd hx hb d_M_part_149 ?_
                  refine lv_goto (tgt := 157) hx hb d_M_part_150 (by decide) ?_
                  refine va_put (D := (dC, dI)) (ci := 4) (v := .int (((X 14 0) + 1) + 1)) (ty := .int) (C := R_M) (T := F_M) (N := 39) hx hb hts i_M t_M t_M_ok n_M hown hK hP hD hS 0 rfl rfl 14 (by decide) (hts _ m_f_M_97) (fun _ h9 => h9) rfl (by decide +kernel) rfl rfl (Nat.le_of_ble_eq_true rfl) d_M_part_157 (fun H locs hP hD hS => ?_)
                  have hP : va_P (dC, dI) classes (w_M cA cZ a (.ref (a 10)) (upf (upf (upf (upf X 14 (fun _ => (((X 14 0) + 1) + 1))) 19 (fun _ => 0)) 20 (fun _ => 0)) 22 (fun _ => 0))) H := hP
                  have hD : va_D A (w_M cA cZ a (.ref (a 10)) (upf (upf (upf (upf X 14 (fun _ => (((X 14 0) + 1) + 1))) 19 (fun _ => 0)) 20 (fun _ => 0)) 22 (fun _ => 0))) := hD
                  exact join_160 (upf (upf (upf (upf X 14 (fun _ => (((X 14 0) + 1) + 1))) 19 (fun _ => 0)) 20 (fun _ => 0)) 22 (fun _ => 0)) 0 ((f_M_hereF (upf (upf (upf X 19 (fun _ => 0)) 20 (fun _ => 0)) 22 (fun _ => 0))) - 40) 1 H locs ls (by rw [f_M_partF, if_neg c_805, if_neg c_806, if_neg c_810, if_pos c_811, if_neg c_822]) (m_adv_trans (m_adv_step (hereF_gt c_806) hma) (m_adv_step (hereF_eq c_811 (by decide)) (m_adv_step (hereF_gt c_806) hma).1)).1 hmt hmk hP hD hS (lv_sub hl [4, 5, 6, 7, 3, 2, 0] rfl)
              · exact absurd c_824 (by decide)
  · refine lv_iconst (v := 1) hx hb d_M_part_24 (by decide) ?_
    refine lv_goto (tgt := 29) hx hb d_M_part_25 (by decide) ?_
    refine lv_istore (lv' := [(4, .int 1), (0, .ref (a 0)), (1, .int x1), (2, .int x2), (3, .int x3)]) hx hb d_M_part_29 hl (by decide) rfl (fun ls hl => ?_)
    refine lv_aload_n hx hb d_M_part_31 rfl (lv_at hl 1 rfl) ?_
    refine nc_ro (va_runV (As := []) (rest := []) hfix (c_M_hereF l dC dI cA cZ a (upf (upf (upf X 19 (fun _ => 0)) 20 (fun _ => 0)) 22 (fun _ => 0)) hma) (k_M_104 hts hN ⟨Nat.le_of_ble_eq_true rfl, Nat.le_of_ble_eq_true rfl⟩) (nc_preVZ hK hN hP hD rfl rfl) rfl rfl hl.1 rfl (lv_room (Nat.le_of_ble_eq_true rfl)) d_M_part_32 ⟨Nat.zero_le _, Nat.zero_le _⟩) (fun r er => ?_)
    subst er
    refine lv_bipush (v := 40) hx hb d_M_part_35 (by decide) ?_
    refine lv_icmp_le (tgt := 50) hx hb d_M_part_37 (by decide) (fun c_826 => ?_) (fun c_826 => ?_)
    · refine lv_iconst (v := 0) hx hb d_M_part_50 (by decide) ?_
      refine lv_istore (lv' := [(5, .int 0), (4, .int 1), (0, .ref (a 0)), (1, .int x1), (2, .int x2), (3, .int x3)]) hx hb d_M_part_51 hl (by decide) rfl (fun ls hl => ?_)
      refine lv_iconst (v := 1) hx hb d_M_part_53 (by decide) ?_
      refine lv_istore (lv' := [(6, .int 1), (5, .int 0), (4, .int 1), (0, .ref (a 0)), (1, .int x1), (2, .int x2), (3, .int x3)]) hx hb d_M_part_54 hl (by decide) rfl (fun ls hl => ?_)
      refine lv_iload hx hb d_M_part_56 (lv_at hl 2 rfl) ?_
      refine lv_if_ne (tgt := 66) hx hb d_M_part_58 (by decide) (fun c_827 => ?_) (fun c_827 => ?_)
      · refine lv_aload_n hx hb d_M_part_66 rfl (lv_at hl 3 rfl) ?_
        refine lv_dup hx hb d_M_part_67 rfl ?_
        refine va_get (D := (dC, dI)) (ci := 4) (v := .int (X 14 0)) (C := R_M) (T := F_M) (N := 39) hx hb hts i_M hown hK hP 0 rfl rfl 14 (by decide) (hts _ m_f_M_97) (fun _ h9 => h9) rfl d_M_part_68 ?_
        refine lv_iconst (v := 1) hx hb d_M_part_71 (by decide) ?_
        refine lv_iadd hx hb d_M_part_72 ?_
        refine va_put (D := (dC, dI)) (ci := 4) (v := .int ((X 14 0) + 1)) (ty := .int) (C := R_M) (T := F_M) (N := 39) hx hb hts i_M t_M t_M_ok n_M hown hK hP hD hS 0 rfl rfl 14 (by decide) (hts _ m_f_M_97) (fun _ h9 => h9) rfl (by decide +kernel) rfl rfl (Nat.le_of_ble_eq_true rfl) d_M_part_73 (fun H locs hP hD hS => ?_)
        have hP : va_P (dC, dI) classes (w_M cA cZ a (.ref (a 10)) (upf (upf (upf (upf X 14 (fun _ => ((X 14 0) + 1))) 19 (fun _ => 0)) 20 (fun _ => 0)) 22 (fun _ => 0))) H := hP
        have hD : va_D A (w_M cA cZ a (.ref (a 10)) (upf (upf (upf (upf X 14 (fun _ => ((X 14 0) + 1))) 19 (fun _ => 0)) 20 (fun _ => 0)) 22 (fun _ => 0))) := hD
        refine lv_aload_n hx hb d_M_part_76 rfl (lv_at hl 3 rfl) ?_
        refine nc_ro (va_runV (As := []) (rest := []) hfix (c_M_hereF l dC dI cA cZ a (upf (upf (upf (upf X 14 (fun _ => ((X 14 0) + 1))) 19 (fun _ => 0)) 20 (fun _ => 0)) 22 (fun _ => 0)) (m_adv_step (hereF_eq c_805 (by decide)) hma).1) (k_M_104 hts hN ⟨Nat.le_of_ble_eq_true rfl, Nat.le_of_ble_eq_true rfl⟩) (nc_preVZ hK hN hP hD rfl rfl) rfl rfl hl.1 rfl (lv_room (Nat.le_of_ble_eq_true rfl)) d_M_part_77 ⟨Nat.zero_le _, Nat.zero_le _⟩) (fun r er => ?_)
        subst er
        refine lv_bipush (v := 37) hx hb d_M_part_80 (by decide) ?_
        refine lv_icmp_ne (tgt := 89) hx hb d_M_part_82 (by decide) (fun c_828 => ?_) (fun c_828 => ?_)
        · refine lv_iconst (v := 0) hx hb d_M_part_89 (by decide) ?_
          refine lv_istore (lv' := [(7, .int 0), (6, .int 1), (5, .int 0), (4, .int 1), (0, .ref (a 0)), (1, .int x1), (2, .int x2), (3, .int x3)]) hx hb d_M_part_90 hl (by decide) rfl (fun ls hl => ?_)
          refine lv_iload hx hb d_M_part_92 (lv_at hl 2 rfl) ?_
          refine lv_if_gt (tgt := 131) hx hb d_M_part_94 (by decide) (fun c_829 => ?_) (fun c_829 => ?_)
          · exact absurd c_829 (by decide)
          · refine lv_iload hx hb d_M_part_97 (lv_at hl 0 rfl) ?_
            refine lv_if_ne (tgt := 131) hx hb d_M_part_99 (by decide) (fun c_830 => ?_) (fun c_830 => ?_)
            · exact absurd c_830 (by decide)
            · refine lv_aload_n hx hb d_M_part_102 rfl (lv_at hl 4 rfl) ?_
              refine va_get (D := (dC, dI)) (ci := 4) (v := .int ((X 14 0) + 1)) (C := R_M) (T := F_M) (N := 39) hx hb hts i_M hown hK hP 0 rfl rfl 14 (by decide) (hts _ m_f_M_97) (fun _ h9 => h9) rfl d_M_part_103 ?_
              refine lv_aload_n hx hb d_M_part_106 rfl (lv_at hl 4 rfl) ?_
              refine va_get (D := (dC, dI)) (ci := 4) (v := .int (X 13 0)) (C := R_M) (T := F_M) (N := 39) hx hb hts i_M hown hK hP 0 rfl rfl 13 (by decide) (hts _ m_f_M_94) (fun _ h9 => h9) rfl d_M_part_107 ?_
              refine lv_icmp_ge (tgt := 135) hx hb d_M_part_110 (by decide) (fun c_831 => ?_) (fun c_831 => ?_)
              · refine lv_iconst (v := 0) hx hb d_M_part_135 (by decide) ?_
                refine lv_istore (lv' := [(6, .int 0), (7, .int 0), (5, .int 0), (4, .int 1), (0, .ref (a 0)), (1, .int x1), (2, .int x2), (3, .int x3)]) hx hb d_M_part_136 hl (by decide) rfl (fun ls hl => ?_)
                refine lv_aload_n hx hb d_M_part_138 rfl (lv_at hl 4 rfl) ?_
                refine lv_iload hx hb d_M_part_139 (lv_at hl 1 rfl) ?_
                refine lv_if_eq (tgt := 153) hx hb d_M_part_141 (by decide) (fun c_832 => ?_) (fun c_832 => ?_)
                · refine lv_aload_n hx hb d_M_part_153 rfl (lv_at hl 4 rfl) ?_
                  refine va_get (D := (dC, dI)) (ci := 4) (v := .int ((X 14 0) + 1)) (C := R_M) (T := F_M) (N := 39) hx hb hts i_M hown hK hP 0 rfl rfl 14 (by decide) (hts _ m_f_M_97) (fun _ h9 => h9) rfl d_M_part_154 ?_
                  refine va_put (D := (dC, dI)) (ci := 4) (v := .int ((X 14 0) + 1)) (ty := .int) (C := R_M) (T := F_M) (N := 39) hx hb hts i_M t_M t_M_ok n_M hown hK hP hD hS 0 rfl rfl 14 (by decide) (hts _ m_f_M_97) (fun _ h9 => h9) rfl (by decide +kernel) rfl rfl (Nat.le_of_ble_eq_true rfl) d_M_part_157 (fun H locs hP hD hS => ?_)
                  have hP : va_P (dC, dI) classes (w_M cA cZ a (.ref (a 10)) (upf (upf (upf (upf X 14 (fun _ => ((X 14 0) + 1))) 19 (fun _ => 0)) 20 (fun _ => 0)) 22 (fun _ => 0))) H := hP
                  have hD : va_D A (w_M cA cZ a (.ref (a 10)) (upf (upf (upf (upf X 14 (fun _ => ((X 14 0) + 1))) 19 (fun _ => 0)) 20 (fun _ => 0)) 22 (fun _ => 0))) := hD
                  exact join_160 (upf (upf (upf (upf X 14 (fun _ => ((X 14 0) + 1))) 19 (fun _ => 0)) 20 (fun _ => 0)) 22 (fun _ => 0)) 1 0 0 H locs ls (by rw [f_M_partF, if_pos c_805, if_pos c_826, if_neg c_828, if_pos c_831]) (m_adv_step (hereF_eq c_805 (by decide)) hma).1 hmt hmk hP hD hS (lv_sub hl [4, 5, 6, 7, 3, 2, 0] rfl)
                · exact absurd c_832 (by decide)
              · refine lv_aload_n hx hb d_M_part_113 rfl (lv_at hl 4 rfl) ?_
                refine nc_ro (va_runV (As := []) (rest := []) hfix (c_M_hereF l dC dI cA cZ a (upf (upf (upf (upf X 14 (fun _ => ((X 14 0) + 1))) 19 (fun _ => 0)) 20 (fun _ => 0)) 22 (fun _ => 0)) (m_adv_step (hereF_eq c_805 (by decide)) hma).1) (k_M_104 hts hN ⟨Nat.le_of_ble_eq_true rfl, Nat.le_of_ble_eq_true rfl⟩) (nc_preVZ hK hN hP hD rfl rfl) rfl rfl hl.1 rfl (lv_room (Nat.le_of_ble_eq_true rfl)) d_M_part_114 ⟨Nat.zero_le _, Nat.zero_le _⟩) (fun r er => ?_)
                subst er
                refine lv_bipush (v := 35) hx hb d_M_part_117 (by decide) ?_
                refine lv_icmp_eq (tgt := 135) hx hb d_M_part_119 (by decide) (fun c_833 => ?_) (fun c_833 => ?_)
                · refine lv_iconst (v := 0) hx hb d_M_part_135 (by decide) ?_
                  refine lv_istore (lv' := [(6, .int 0), (7, .int 0), (5, .int 0), (4, .int 1), (0, .ref (a 0)), (1, .int x1), (2, .int x2), (3, .int x3)]) hx hb d_M_part_136 hl (by decide) rfl (fun ls hl => ?_)
                  refine lv_aload_n hx hb d_M_part_138 rfl (lv_at hl 4 rfl) ?_
                  refine lv_iload hx hb d_M_part_139 (lv_at hl 1 rfl) ?_
                  refine lv_if_eq (tgt := 153) hx hb d_M_part_141 (by decide) (fun c_834 => ?_) (fun c_834 => ?_)
                  · refine lv_aload_n hx hb d_M_part_153 rfl (lv_at hl 4 rfl) ?_
                    refine va_get (D := (dC, dI)) (ci := 4) (v := .int ((X 14 0) + 1)) (C := R_M) (T := F_M) (N := 39) hx hb hts i_M hown hK hP 0 rfl rfl 14 (by decide) (hts _ m_f_M_97) (fun _ h9 => h9) rfl d_M_part_154 ?_
                    refine va_put (D := (dC, dI)) (ci := 4) (v := .int ((X 14 0) + 1)) (ty := .int) (C := R_M) (T := F_M) (N := 39) hx hb hts i_M t_M t_M_ok n_M hown hK hP hD hS 0 rfl rfl 14 (by decide) (hts _ m_f_M_97) (fun _ h9 => h9) rfl (by decide +kernel) rfl rfl (Nat.le_of_ble_eq_true rfl) d_M_part_157 (fun H locs hP hD hS => ?_)
                    have hP : va_P (dC, dI) classes (w_M cA cZ a (.ref (a 10)) (upf (upf (upf (upf X 14 (fun _ => ((X 14 0) + 1))) 19 (fun _ => 0)) 20 (fun _ => 0)) 22 (fun _ => 0))) H := hP
                    have hD : va_D A (w_M cA cZ a (.ref (a 10)) (upf (upf (upf (upf X 14 (fun _ => ((X 14 0) + 1))) 19 (fun _ => 0)) 20 (fun _ => 0)) 22 (fun _ => 0))) := hD
                    exact join_160 (upf (upf (upf (upf X 14 (fun _ => ((X 14 0) + 1))) 19 (fun _ => 0)) 20 (fun _ => 0)) 22 (fun _ => 0)) 1 0 0 H locs ls (by rw [f_M_partF, if_pos c_805, if_pos c_826, if_neg c_828, if_neg c_831, if_pos c_833]) (m_adv_step (hereF_eq c_805 (by decide)) hma).1 hmt hmk hP hD hS (lv_sub hl [4, 5, 6, 7, 3, 2, 0] rfl)
                  · exact absurd c_834 (by decide)
                · refine lv_aload_n hx hb d_M_part_122 rfl (lv_at hl 4 rfl) ?_
                  refine nc_ro (va_runV (As := []) (rest := []) hfix (c_M_hereF l dC dI cA cZ a (upf (upf (upf (upf X 14 (fun _ => ((X 14 0) + 1))) 19 (fun _ => 0)) 20 (fun _ => 0)) 22 (fun _ => 0)) (m_adv_step (hereF_eq c_805 (by decide)) hma).1) (k_M_104 hts hN ⟨Nat.le_of_ble_eq_true rfl, Nat.le_of_ble_eq_true rfl⟩) (nc_preVZ hK hN hP hD rfl rfl) rfl rfl hl.1 rfl (lv_room (Nat.le_of_ble_eq_true rfl)) d_M_part_123 ⟨Nat.zero_le _, Nat.zero_le _⟩) (fun r er => ?_)
                  subst er
                  refine lv_bipush (v := 36) hx hb d_M_part_126 (by decide) ?_
                  refine lv_icmp_eq (tgt := 135) hx hb d_M_part_128 (by decide) (fun c_835 => ?_) (fun c_835 => ?_)
                  · refine lv_iconst (v := 0) hx hb d_M_part_135 (by decide) ?_
                    refine lv_istore (lv' := [(6, .int 0), (7, .int 0), (5, .int 0), (4, .int 1), (0, .ref (a 0)), (1, .int x1), (2, .int x2), (3, .int x3)]) hx hb d_M_part_136 hl (by decide) rfl (fun ls hl => ?_)
                    refine lv_aload_n hx hb d_M_part_138 rfl (lv_at hl 4 rfl) ?_
                    refine lv_iload hx hb d_M_part_139 (lv_at hl 1 rfl) ?_
                    refine lv_if_eq (tgt := 153) hx hb d_M_part_141 (by decide) (fun c_836 => ?_) (fun c_836 => ?_)
                    · refine lv_aload_n hx hb d_M_part_153 rfl (lv_at hl 4 rfl) ?_
                      refine va_get (D := (dC, dI)) (ci := 4) (v := .int ((X 14 0) + 1)) (C := R_M) (T := F_M) (N := 39) hx hb hts i_M hown hK hP 0 rfl rfl 14 (by decide) (hts _ m_f_M_97) (fun _ h9 => h9) rfl d_M_part_154 ?_
                      refine va_put (D := (dC, dI)) (ci := 4) (v := .int ((X 14 0) + 1)) (ty := .int) (C := R_M) (T := F_M) (N := 39) hx hb hts i_M t_M t_M_ok n_M hown hK hP hD hS 0 rfl rfl 14 (by decide) (hts _ m_f_M_97) (fun _ h9 => h9) rfl (by decide +kernel) rfl rfl (Nat.le_of_ble_eq_true rfl) d_M_part_157 (fun H locs hP hD hS => ?_)
                      have hP : va_P (dC, dI) classes (w_M cA cZ a (.ref (a 10)) (upf (upf (upf (upf X 14 (fun _ => ((X 14 0) + 1))) 19 (fun _ => 0)) 20 (fun _ => 0)) 22 (fun _ => 0))) H := hP
                      have hD : va_D A (w_M cA cZ a (.ref (a 10)) (upf (upf (upf (upf X 14 (fun _ => ((X 14 0) + 1))) 19 (fun _ => 0)) 20 (fun _ => 0)) 22 (fun _ => 0))) := hD
                      exact join_160 (upf (upf (upf (upf X 14 (fun _ => ((X 14 0) + 1))) 19 (fun _ => 0)) 20 (fun _ => 0)) 22 (fun _ => 0)) 1 0 0 H locs ls (by rw [f_M_partF, if_pos c_805, if_pos c_826, if_neg c_828, if_neg c_831, if_neg c_833, if_pos c_835]) (m_adv_step (hereF_eq c_805 (by decide)) hma).1 hmt hmk hP hD hS (lv_sub hl [4, 5, 6, 7, 3, 2, 0] rfl)
                    · exact absurd c_836 (by decide)
                  · refine lv_iconst (v := 1) hx hb d_M_part_131 (by decide) ?_
                    refine lv_goto (tgt := 136) hx hb d_M_part_132 (by decide) ?_
                    refine lv_istore (lv' := [(6, .int 1), (7, .int 0), (5, .int 0), (4, .int 1), (0, .ref (a 0)), (1, .int x1), (2, .int x2), (3, .int x3)]) hx hb d_M_part_136 hl (by decide) rfl (fun ls hl => ?_)
                    refine lv_aload_n hx hb d_M_part_138 rfl (lv_at hl 4 rfl) ?_
                    refine lv_iload hx hb d_M_part_139 (lv_at hl 1 rfl) ?_
                    refine lv_if_eq (tgt := 153) hx hb d_M_part_141 (by decide) (fun c_837 => ?_) (fun c_837 => ?_)
                    · refine lv_aload_n hx hb d_M_part_153 rfl (lv_at hl 4 rfl) ?_
                      refine va_get (D := (dC, dI)) (ci := 4) (v := .int ((X 14 0) + 1)) (C := R_M) (T := F_M) (N := 39) hx hb hts i_M hown hK hP 0 rfl rfl 14 (by decide) (hts _ m_f_M_97) (fun _ h9 => h9) rfl d_M_part_154 ?_
                      refine va_put (D := (dC, dI)) (ci := 4) (v := .int ((X 14 0) + 1)) (ty := .int) (C := R_M) (T := F_M) (N := 39) hx hb hts i_M t_M t_M_ok n_M hown hK hP hD hS 0 rfl rfl 14 (by decide) (hts _ m_f_M_97) (fun _ h9 => h9) rfl (by decide +kernel) rfl rfl (Nat.le_of_ble_eq_true rfl) d_M_part_157 (fun H locs hP hD hS => ?_)
                      have hP : va_P (dC, dI) classes (w_M cA cZ a (.ref (a 10)) (upf (upf (upf (upf X 14 (fun _ => ((X 14 0) + 1))) 19 (fun _ => 0)) 20 (fun _ => 0)) 22 (fun _ => 0))) H := hP
                      have hD : va_D A (w_M cA cZ a (.ref (a 10)) (upf (upf (upf (upf X 14 (fun _ => ((X 14 0) + 1))) 19 (fun _ => 0)) 20 (fun _ => 0)) 22 (fun _ => 0))) := hD
                      exact join_160 (upf (upf (upf (upf X 14 (fun _ => ((X 14 0) + 1))) 19 (fun _ => 0)) 20 (fun _ => 0)) 22 (fun _ => 0)) 1 0 1 H locs ls (by rw [f_M_partF, if_pos c_805, if_pos c_826, if_neg c_828, if_neg c_831, if_neg c_833, if_neg c_835]) (m_adv_step (hereF_eq c_805 (by decide)) hma).1 hmt hmk hP hD hS (lv_sub hl [4, 5, 6, 7, 3, 2, 0] rfl)
                    · exact absurd c_837 (by decide)
        · refine lv_iconst (v := 1) hx hb d_M_part_85 (by decide) ?_
          refine lv_goto (tgt := 90) hx hb d_M_part_86 (by decide) ?_
          refine lv_istore (lv' := [(7, .int 1), (6, .int 1), (5, .int 0), (4, .int 1), (0, .ref (a 0)), (1, .int x1), (2, .int x2), (3, .int x3)]) hx hb d_M_part_90 hl (by decide) rfl (fun ls hl => ?_)
          refine lv_iload hx hb d_M_part_92 (lv_at hl 2 rfl) ?_
          refine lv_if_gt (tgt := 131) hx hb d_M_part_94 (by decide) (fun c_838 => ?_) (fun c_838 => ?_)
          · exact absurd c_838 (by decide)
          · refine lv_iload hx hb d_M_part_97 (lv_at hl 0 rfl) ?_
            refine lv_if_ne (tgt := 131) hx hb d_M_part_99 (by decide) (fun c_839 => ?_) (fun c_839 => ?_)
            · refine lv_iconst (v := 1) hx hb d_M_part_131 (by decide) ?_
              refine lv_goto (tgt := 136) hx hb d_M_part_132 (by decide) ?_
              refine lv_istore (lv' := [(6, .int 1), (7, .int 1), (5, .int 0), (4, .int 1), (0, .ref (a 0)), (1, .int x1), (2, .int x2), (3, .int x3)]) hx hb d_M_part_136 hl (by decide) rfl (fun ls hl => ?_)
              refine lv_aload_n hx hb d_M_part_138 rfl (lv_at hl 4 rfl) ?_
              refine lv_iload hx hb d_M_part_139 (lv_at hl 1 rfl) ?_
              refine lv_if_eq (tgt := 153) hx hb d_M_part_141 (by decide) (fun c_840 => ?_) (fun c_840 => ?_)
              · exact absurd c_840 (by decide)
              · refine lv_aload_n hx hb d_M_part_144 rfl (lv_at hl 4 rfl) ?_
                refine va_get (D := (dC, dI)) (ci := 4) (v := .int ((X 14 0) + 1)) (C := R_M) (T := F_M) (N := 39) hx hb hts i_M hown hK hP 0 rfl rfl 14 (by decide) (hts _ m_f_M_97) (fun _ h9 => h9) rfl d_M_part_145 ?_
                refine lv_iconst (v := 1) hx hb d_M_part_148 (by decide) ?_
                refine lv_iadd hx hb d_M_part_149 ?_
                refine lv_goto (tgt := 157) hx hb d_M_part_150 (by decide) ?_
                refine va_put (D := (dC, dI)) (ci := 4) (v := .int (((X 14 0) + 1) + 1)) (ty := .int) (C := R_M) (T := F_M) (N := 39) hx hb hts i_M t_M t_M_ok n_M hown hK hP hD hS 0 rfl rfl 14 (by decide) (hts _ m_f_M_97) (fun _ h9 => h9) rfl (by decide +kernel) rfl rfl (Nat.le_of_ble_eq_true rfl) d_M_part_157 (fun H locs hP hD hS => ?_)
                have hP : va_P (dC, dI) classes (w_M cA cZ a (.ref (a 10)) (upf (upf (upf (upf X 14 (fun _ => (((X 14 0) + 1) + 1))) 19 (fun _ => 0)) 20 (fun _ => 0)) 22 (fun _ => 0))) H := hP
                have hD : va_D A (w_M cA cZ a (.ref (a 10)) (upf (upf (upf (upf X 14 (fun _ => (((X 14 0) + 1) + 1))) 19 (fun _ => 0)) 20 (fun _ => 0)) 22 (fun _ => 0))) := hD
                exact join_160 (upf (upf (upf (upf X 14 (fun _ => (((X 14 0) + 1) + 1))) 19 (fun _ => 0)) 20 (fun _ => 0)) 22 (fun _ => 0)) 1 0 1 H locs ls (by rw [f_M_partF, if_pos c_805, if_pos c_826, if_pos c_828]) (m_adv_trans (m_adv_step (hereF_eq c_805 (by decide)) hma) (m_adv_step (hereF_eq c_828 (by decide)) (m_adv_step (hereF_eq c_805 (by decide)) hma).1)).1 hmt hmk hP hD hS (lv_sub hl [4, 5, 6, 7, 3, 2, 0] rfl)
            · exact absurd c_839 (by decide)
      · exact absurd c_827 (by decide)
    · refine lv_aload_n hx hb d_M_part_40 rfl (lv_at hl 1 rfl) ?_
      refine nc_ro (va_runV (As := []) (rest := []) hfix (c_M_hereF l dC dI cA cZ a (upf (upf (upf X 19 (fun _ => 0)) 20 (fun _ => 0)) 22 (fun _ => 0)) hma) (k_M_104 hts hN ⟨Nat.le_of_ble_eq_true rfl, Nat.le_of_ble_eq_true rfl⟩) (nc_preVZ hK hN hP hD rfl rfl) rfl rfl hl.1 rfl (lv_room (Nat.le_of_ble_eq_true rfl)) d_M_part_41 ⟨Nat.zero_le _, Nat.zero_le _⟩) (fun r er => ?_)
      subst er
      refine lv_bipush (v := 40) hx hb d_M_part_44 (by decide) ?_
      refine lv_isub hx hb d_M_part_46 ?_
      refine lv_goto (tgt := 51) hx hb d_M_part_47 (by decide) ?_
      refine lv_istore (lv' := [(5, .int ((f_M_hereF (upf (upf (upf X 19 (fun _ => 0)) 20 (fun _ => 0)) 22 (fun _ => 0))) - 40)), (4, .int 1), (0, .ref (a 0)), (1, .int x1), (2, .int x2), (3, .int x3)]) hx hb d_M_part_51 hl (by decide) rfl (fun ls hl => ?_)
      refine lv_iconst (v := 1) hx hb d_M_part_53 (by decide) ?_
      refine lv_istore (lv' := [(6, .int 1), (5, .int ((f_M_hereF (upf (upf (upf X 19 (fun _ => 0)) 20 (fun _ => 0)) 22 (fun _ => 0))) - 40)), (4, .int 1), (0, .ref (a 0)), (1, .int x1), (2, .int x2), (3, .int x3)]) hx hb d_M_part_54 hl (by decide) rfl (fun ls hl => ?_)
      refine lv_iload hx hb d_M_part_56 (lv_at hl 2 rfl) ?_
      refine lv_if_ne (tgt := 66) hx hb d_M_part_58 (by decide) (fun c_841 => ?_) (fun c_841 => ?_)
      · refine lv_aload_n hx hb d_M_part_66 rfl (lv_at hl 3 rfl) ?_
        refine lv_dup hx hb d_M_part_67 rfl ?_
        refine va_get (D := (dC, dI)) (ci := 4) (v := .int (X 14 0)) (C := R_M) (T := F_M) (N := 39) hx hb hts i_M hown hK hP 0 rfl rfl 14 (by decide) (hts _ m_f_M_97) (fun _ h9 => h9) rfl d_M_part_68 ?_
        refine lv_iconst (v := 1) hx hb d_M_part_71 (by decide) ?_
        refine lv_iadd hx hb d_M_part_72 ?_
        refine va_put (D := (dC, dI)) (ci := 4) (v := .int ((X 14 0) + 1)) (ty := .int) (C := R_M) (T := F_M) (N := 39) hx hb hts i_M t_M t_M_ok n_M hown hK hP hD hS 0 rfl rfl 14 (by decide) (hts _ m_f_M_97) (fun _ h9 => h9) rfl (by decide +kernel) rfl rfl (Nat.le_of_ble_eq_true rfl) d_M_part_73 (fun H locs hP hD hS => ?_)
        have hP : va_P (dC, dI) classes (w_M cA cZ a (.ref (a 10)) (upf (upf (upf (upf X 14 (fun _ => ((X 14 0) + 1))) 19 (fun _ => 0)) 20 (fun _ => 0)) 22 (fun _ => 0))) H := hP
        have hD : va_D A (w_M cA cZ a (.ref (a 10)) (upf (upf (upf (upf X 14 (fun _ => ((X 14 0) + 1))) 19 (fun _ => 0)) 20 (fun _ => 0)) 22 (fun _ => 0))) := hD
        refine lv_aload_n hx hb d_M_part_76 rfl (lv_at hl 3 rfl) ?_
        refine nc_ro (va_runV (As := []) (rest := []) hfix (c_M_hereF l dC dI cA cZ a (upf (upf (upf (upf X 14 (fun _ => ((X 14 0) + 1))) 19 (fun _ => 0)) 20 (fun _ => 0)) 22 (fun _ => 0)) (m_adv_step (hereF_gt c_826) hma).1) (k_M_104 hts hN ⟨Nat.le_of_ble_eq_true rfl, Nat.le_of_ble_eq_true rfl⟩) (nc_preVZ hK hN hP hD rfl rfl) rfl rfl hl.1 rfl (lv_room (Nat.le_of_ble_eq_true rfl)) d_M_part_77 ⟨Nat.zero_le _, Nat.zero_le _⟩) (fun r er => ?_)
        subst er
        refine lv_bipush (v := 37) hx hb d_M_part_80 (by decide) ?_
        refine lv_icmp_ne (tgt := 89) hx hb d_M_part_82 (by decide) (fun c_842 => ?_) (fun c_842 => ?_)
        · refine lv_iconst (v := 0) hx hb d_M_part_89 (by decide) ?_
          refine lv_istore (lv' := [(7, .int 0), (6, .int 1), (5, .int ((f_M_hereF (upf (upf (upf X 19 (fun _ => 0)) 20 (fun _ => 0)) 22 (fun _ => 0))) - 40)), (4, .int 1), (0, .ref (a 0)), (1, .int x1), (2, .int x2), (3, .int x3)]) hx hb d_M_part_90 hl (by decide) rfl (fun ls hl => ?_)
          refine lv_iload hx hb d_M_part_92 (lv_at hl 2 rfl) ?_
          refine lv_if_gt (tgt := 131) hx hb d_M_part_94 (by decide) (fun c_843 => ?_) (fun c_843 => ?_)
          · refine lv_iconst (v := 1) hx hb d_M_part_131 (by decide) ?_
            refine lv_goto (tgt := 136) hx hb d_M_part_132 (by decide) ?_
            refine lv_istore (lv' := [(6, .int 1), (7, .int 0), (5, .int ((f_M_hereF (upf (upf (upf X 19 (fun _ => 0)) 20 (fun _ => 0)) 22 (fun _ => 0))) - 40)), (4, .int 1), (0, .ref (a 0)), (1, .int x1), (2, .int x2), (3, .int x3)]) hx hb d_M_part_136 hl (by decide) rfl (fun ls hl => ?_)
            refine lv_aload_n hx hb d_M_part_138 rfl (lv_at hl 4 rfl) ?_
            refine lv_iload hx hb d_M_part_139 (lv_at hl 1 rfl) ?_
            refine lv_if_eq (tgt := 153) hx hb d_M_part_141 (by decide) (fun c_844 => ?_) (fun c_844 => ?_)
            · refine lv_aload_n hx hb d_M_part_153 rfl (lv_at hl 4 rfl) ?_
              refine va_get (D := (dC, dI)) (ci := 4) (v := .int ((X 14 0) + 1)) (C := R_M) (T := F_M) (N := 39) hx hb hts i_M hown hK hP 0 rfl rfl 14 (by decide) (hts _ m_f_M_97) (fun _ h9 => h9) rfl d_M_part_154 ?_
              refine va_put (D := (dC, dI)) (ci := 4) (v := .int ((X 14 0) + 1)) (ty := .int) (C := R_M) (T := F_M) (N := 39) hx hb hts i_M t_M t_M_ok n_M hown hK hP hD hS 0 rfl rfl 14 (by decide) (hts _ m_f_M_97) (fun _ h9 => h9) rfl (by decide +kernel) rfl rfl (Nat.le_of_ble_eq_true rfl) d_M_part_157 (fun H locs hP hD hS => ?_)
              have hP : va_P (dC, dI) classes (w_M cA cZ a (.ref (a 10)) (upf (upf (upf (upf X 14 (fun _ => ((X 14 0) + 1))) 19 (fun _ => 0)) 20 (fun _ => 0)) 22 (fun _ => 0))) H := hP
              have hD : va_D A (w_M cA cZ a (.ref (a 10)) (upf (upf (upf (upf X 14 (fun _ => ((X 14 0) + 1))) 19 (fun _ => 0)) 20 (fun _ => 0)) 22 (fun _ => 0))) := hD
              exact join_160 (upf (upf (upf (upf X 14 (fun _ => ((X 14 0) + 1))) 19 (fun _ => 0)) 20 (fun _ => 0)) 22 (fun _ => 0)) 1 ((f_M_hereF (upf (upf (upf X 19 (fun _ => 0)) 20 (fun _ => 0)) 22 (fun _ => 0))) - 40) 1 H locs ls (by rw [f_M_partF, if_pos c_805, if_neg c_826, if_neg c_842, if_pos c_843]) (m_adv_step (hereF_gt c_826) hma).1 hmt hmk hP hD hS (lv_sub hl [4, 5, 6, 7, 3, 2, 0] rfl)
            · exact absurd c_844 (by decide)
          · refine lv_iload hx hb d_M_part_97 (lv_at hl 0 rfl) ?_
            refine lv_if_ne (tgt := 131) hx hb d_M_part_99 (by decide) (fun c_845 => ?_) (fun c_845 => ?_)
            · exact absurd c_845 (by decide)
            · refine lv_aload_n hx hb d_M_part_102 rfl (lv_at hl 4 rfl) ?_
              refine va_get (D := (dC, dI)) (ci := 4) (v := .int ((X 14 0) + 1)) (C := R_M) (T := F_M) (N := 39) hx hb hts i_M hown hK hP 0 rfl rfl 14 (by decide) (hts _ m_f_M_97) (fun _ h9 => h9) rfl d_M_part_103 ?_
              refine lv_aload_n hx hb d_M_part_106 rfl (lv_at hl 4 rfl) ?_
              refine va_get (D := (dC, dI)) (ci := 4) (v := .int (X 13 0)) (C := R_M) (T := F_M) (N := 39) hx hb hts i_M hown hK hP 0 rfl rfl 13 (by decide) (hts _ m_f_M_94) (fun _ h9 => h9) rfl d_M_part_107 ?_
              refine lv_icmp_ge (tgt := 135) hx hb d_M_part_110 (by decide) (fun c_846 => ?_) (fun c_846 => ?_)
              · refine lv_iconst (v := 0) hx hb d_M_part_135 (by decide) ?_
                refine lv_istore (lv' := [(6, .int 0), (7, .int 0), (5, .int ((f_M_hereF (upf (upf (upf X 19 (fun _ => 0)) 20 (fun _ => 0)) 22 (fun _ => 0))) - 40)), (4, .int 1), (0, .ref (a 0)), (1, .int x1), (2, .int x2), (3, .int x3)]) hx hb d_M_part_136 hl (by decide) rfl (fun ls hl => ?_)
                refine lv_aload_n hx hb d_M_part_138 rfl (lv_at hl 4 rfl) ?_
                refine lv_iload hx hb d_M_part_139 (lv_at hl 1 rfl) ?_
                refine lv_if_eq (tgt := 153) hx hb d_M_part_141 (by decide) (fun c_847 => ?_) (fun c_847 => ?_)
                · refine lv_aload_n hx hb d_M_part_153 rfl (lv_at hl 4 rfl) ?_
                  refine va_get (D := (dC, dI)) (ci := 4) (v := .int ((X 14 0) + 1)) (C := R_M) (T := F_M) (N := 39) hx hb hts i_M hown hK hP 0 rfl rfl 14 (by decide) (hts _ m_f_M_97) (fun _ h9 => h9) rfl d_M_part_154 ?_
                  refine va_put (D := (dC, dI)) (ci := 4) (v := .int ((X 14 0) + 1)) (ty := .int) (C := R_M) (T := F_M) (N := 39) hx hb hts i_M t_M t_M_ok n_M hown hK hP hD hS 0 rfl rfl 14 (by decide) (hts _ m_f_M_97) (fun _ h9 => h9) rfl (by decide +kernel) rfl rfl (Nat.le_of_ble_eq_true rfl) d_M_part_157 (fun H locs hP hD hS => ?_)
                  have hP : va_P (dC, dI) classes (w_M cA cZ a (.ref (a 10)) (upf (upf (upf (upf X 14 (fun _ => ((X 14 0) + 1))) 19 (fun _ => 0)) 20 (fun _ => 0)) 22 (fun _ => 0))) H := hP
                  have hD : va_D A (w_M cA cZ a (.ref (a 10)) (upf (upf (upf (upf X 14 (fun _ => ((X 14 0) + 1))) 19 (fun _ => 0)) 20 (fun _ => 0)) 22 (fun _ => 0))) := hD
                  exact join_160 (upf (upf (upf (upf X 14 (fun _ => ((X 14 0) + 1))) 19 (fun _ => 0)) 20 (fun _ => 0)) 22 (fun _ => 0)) 1 ((f_M_hereF (upf (upf (upf X 19 (fun _ => 0)) 20 (fun _ => 0)) 22 (fun _ => 0))) - 40) 0 H locs ls (by rw [f_M_partF, if_pos c_805, if_neg c_826, if_neg c_842, if_neg c_843, if_pos c_846]) (m_adv_step (hereF_gt c_826) hma).1 hmt hmk hP hD hS (lv_sub hl [4, 5, 6, 7, 3, 2, 0] rfl)
                · exact absurd c_847 (by decide)
              · refine lv_aload_n hx hb d_M_part_113 rfl (lv_at hl 4 rfl) ?_
                refine nc_ro (va_runV (As := []) (rest := []) hfix (c_M_hereF l dC dI cA cZ a (upf (upf (upf (upf X 14 (fun _ => ((X 14 0) + 1))) 19 (fun _ => 0)) 20 (fun _ => 0)) 22 (fun _ => 0)) (m_adv_step (hereF_gt c_826) hma).1) (k_M_104 hts hN ⟨Nat.le_of_ble_eq_true rfl, Nat.le_of_ble_eq_true rfl⟩) (nc_preVZ hK hN hP hD rfl rfl) rfl rfl hl.1 rfl (lv_room (Nat.le_of_ble_eq_true rfl)) d_M_part_114 ⟨Nat.zero_le _, Nat.zero_le _⟩) (fun r er => ?_)
                subst er
                refine lv_bipush (v := 35) hx hb d_M_part_117 (by decide) ?_
                refine lv_icmp_eq (tgt := 135) hx hb d_M_part_119 (by decide) (fun c_848 => ?_) (fun c_848 => ?_)
                · refine lv_iconst (v := 0) hx hb d_M_part_135 (by decide) ?_
                  refine lv_istore (lv' := [(6, .int 0), (7, .int 0), (5, .int ((f_M_hereF (upf (upf (upf X 19 (fun _ => 0)) 20 (fun _ => 0)) 22 (fun _ => 0))) - 40)), (4, .int 1), (0, .ref (a 0)), (1, .int x1), (2, .int x2), (3, .int x3)]) hx hb d_M_part_136 hl (by decide) rfl (fun ls hl => ?_)
                  refine lv_aload_n hx hb d_M_part_138 rfl (lv_at hl 4 rfl) ?_
                  refine lv_iload hx hb d_M_part_139 (lv_at hl 1 rfl) ?_
                  refine lv_if_eq (tgt := 153) hx hb d_M_part_141 (by decide) (fun c_849 => ?_) (fun c_849 => ?_)
                  · refine lv_aload_n hx hb d_M_part_153 rfl (lv_at hl 4 rfl) ?_
                    refine va_get (D := (dC, dI)) (ci := 4) (v := .int ((X 14 0) + 1)) (C := R_M) (T := F_M) (N := 39) hx hb hts i_M hown hK hP 0 rfl rfl 14 (by decide) (hts _ m_f_M_97) (fun _ h9 => h9) rfl d_M_part_154 ?_
                    refine va_put (D := (dC, dI)) (ci := 4) (v := .int ((X 14 0) + 1)) (ty := .int) (C := R_M) (T := F_M) (N := 39) hx hb hts i_M t_M t_M_ok n_M hown hK hP hD hS 0 rfl rfl 14 (by decide) (hts _ m_f_M_97) (fun _ h9 => h9) rfl (by decide +kernel) rfl rfl (Nat.le_of_ble_eq_true rfl) d_M_part_157 (fun H locs hP hD hS => ?_)
                    have hP : va_P (dC, dI) classes (w_M cA cZ a (.ref (a 10)) (upf (upf (upf (upf X 14 (fun _ => ((X 14 0) + 1))) 19 (fun _ => 0)) 20 (fun _ => 0)) 22 (fun _ => 0))) H := hP
                    have hD : va_D A (w_M cA cZ a (.ref (a 10)) (upf (upf (upf (upf X 14 (fun _ => ((X 14 0) + 1))) 19 (fun _ => 0)) 20 (fun _ => 0)) 22 (fun _ => 0))) := hD
                    exact join_160 (upf (upf (upf (upf X 14 (fun _ => ((X 14 0) + 1))) 19 (fun _ => 0)) 20 (fun _ => 0)) 22 (fun _ => 0)) 1 ((f_M_hereF (upf (upf (upf X 19 (fun _ => 0)) 20 (fun _ => 0)) 22 (fun _ => 0))) - 40) 0 H locs ls (by rw [f_M_partF, if_pos c_805, if_neg c_826, if_neg c_842, if_neg c_843, if_neg c_846, if_pos c_848]) (m_adv_step (hereF_gt c_826) hma).1 hmt hmk hP hD hS (lv_sub hl [4, 5, 6, 7, 3, 2, 0] rfl)
                  · exact absurd c_849 (by decide)
                · refine lv_aload_n hx hb d_M_part_122 rfl (lv_at hl 4 rfl) ?_
                  refine nc_ro (va_runV (As := []) (rest := []) hfix (c_M_hereF l dC dI cA cZ a (upf (upf (upf (upf X 14 (fun _ => ((X 14 0) + 1))) 19 (fun _ => 0)) 20 (fun _ => 0)) 22 (fun _ => 0)) (m_adv_step (hereF_gt c_826) hma).1) (k_M_104 hts hN ⟨Nat.le_of_ble_eq_true rfl, Nat.le_of_ble_eq_true rfl⟩) (nc_preVZ hK hN hP hD rfl rfl) rfl rfl hl.1 rfl (lv_room (Nat.le_of_ble_eq_true rfl)) d_M_part_123 ⟨Nat.zero_le _, Nat.zero_le _⟩) (fun r er => ?_)
                  subst er
                  refine lv_bipush (v := 36) hx hb d_M_part_126 (by decide) ?_
                  refine lv_icmp_eq (tgt := 135) hx hb d_M_part_128 (by decide) (fun c_850 => ?_) (fun c_850 => ?_)
                  · refine lv_iconst (v := 0) hx hb d_M_part_135 (by decide) ?_
                    refine lv_istore (lv' := [(6, .int 0), (7, .int 0), (5, .int ((f_M_hereF (upf (upf (upf X 19 (fun _ => 0)) 20 (fun _ => 0)) 22 (fun _ => 0))) - 40)), (4, .int 1), (0, .ref (a 0)), (1, .int x1), (2, .int x2), (3, .int x3)]) hx hb d_M_part_136 hl (by decide) rfl (fun ls hl => ?_)
                    refine lv_aload_n hx hb d_M_part_138 rfl (lv_at hl 4 rfl) ?_
                    refine lv_iload hx hb d_M_part_139 (lv_at hl 1 rfl) ?_
                    refine lv_if_eq (tgt := 153) hx hb d_M_part_141 (by decide) (fun c_851 => ?_) (fun c_851 => ?_)
                    · refine lv_aload_n hx hb d_M_part_153 rfl (lv_at hl 4 rfl) ?_
                      refine va_get (D := (dC, dI)) (ci := 4) (v := .int ((X 14 0) + 1)) (C := R_M) (T := F_M) (N := 39) hx hb hts i_M hown hK hP 0 rfl rfl 14 (by decide) (hts _ m_f_M_97) (fun _ h9 => h9) rfl d_M_part_154 ?_
                      refine va_put (D := (dC, dI)) (ci := 4) (v := .int ((X 14 0) + 1)) (ty := .int) (C := R_M) (T := F_M) (N := 39) hx hb hts i_M t_M t_M_ok n_M hown hK hP hD hS 0 rfl rfl 14 (by decide) (hts _ m_f_M_97) (fun _ h9 => h9) rfl (by decide +kernel) rfl rfl (Nat.le_of_ble_eq_true rfl) d_M_part_157 (fun H locs hP hD hS => ?_)
                      have hP : va_P (dC, dI) classes (w_M cA cZ a (.ref (a 10)) (upf (upf (upf (upf X 14 (fun _ => ((X 14 0) + 1))) 19 (fun _ => 0)) 20 (fun _ => 0)) 22 (fun _ => 0))) H := hP
                      have hD : va_D A (w_M cA cZ a (.ref (a 10)) (upf (upf (upf (upf X 14 (fun _ => ((X 14 0) + 1))) 19 (fun _ => 0)) 20 (fun _ => 0)) 22 (fun _ => 0))) := hD
                      exact join_160 (upf (upf (upf (upf X 14 (fun _ => ((X 14 0) + 1))) 19 (fun _ => 0)) 20 (fun _ => 0)) 22 (fun _ => 0)) 1 ((f_M_hereF (upf (upf (upf X 19 (fun _ => 0)) 20 (fun _ => 0)) 22 (fun _ => 0))) - 40) 0 H locs ls (by rw [f_M_partF, if_pos c_805, if_neg c_826, if_neg c_842, if_neg c_843, if_neg c_846, if_neg c_848, if_pos c_850]) (m_adv_step (hereF_gt c_826) hma).1 hmt hmk hP hD hS (lv_sub hl [4, 5, 6, 7, 3, 2, 0] rfl)
                    · exact absurd c_851 (by decide)
                  · refine lv_iconst (v := 1) hx hb d_M_part_131 (by decide) ?_
                    refine lv_goto (tgt := 136) hx hb d_M_part_132 (by decide) ?_
                    refine lv_istore (lv' := [(6, .int 1), (7, .int 0), (5, .int ((f_M_hereF (upf (upf (upf X 19 (fun _ => 0)) 20 (fun _ => 0)) 22 (fun _ => 0))) - 40)), (4, .int 1), (0, .ref (a 0)), (1, .int x1), (2, .int x2), (3, .int x3)]) hx hb d_M_part_136 hl (by decide) rfl (fun ls hl => ?_)
                    refine lv_aload_n hx hb d_M_part_138 rfl (lv_at hl 4 rfl) ?_
                    refine lv_iload hx hb d_M_part_139 (lv_at hl 1 rfl) ?_
                    refine lv_if_eq (tgt := 153) hx hb d_M_part_141 (by decide) (fun c_852 => ?_) (fun c_852 => ?_)
                    · refine lv_aload_n hx hb d_M_part_153 rfl (lv_at hl 4 rfl) ?_
                      refine va_get (D := (dC, dI)) (ci := 4) (v := .int ((X 14 0) + 1)) (C := R_M) (T := F_M) (N := 39) hx hb hts i_M hown hK hP 0 rfl rfl 14 (by decide) (hts _ m_f_M_97) (fun _ h9 => h9) rfl d_M_part_154 ?_
                      refine va_put (D := (dC, dI)) (ci := 4) (v := .int ((X 14 0) + 1)) (ty := .int) (C := R_M) (T := F_M) (N := 39) hx hb hts i_M t_M t_M_ok n_M hown hK hP hD hS 0 rfl rfl 14 (by decide) (hts _ m_f_M_97) (fun _ h9 => h9) rfl (by decide +kernel) rfl rfl (Nat.le_of_ble_eq_true rfl) d_M_part_157 (fun H locs hP hD hS => ?_)
                      have hP : va_P (dC, dI) classes (w_M cA cZ a (.ref (a 10)) (upf (upf (upf (upf X 14 (fun _ => ((X 14 0) + 1))) 19 (fun _ => 0)) 20 (fun _ => 0)) 22 (fun _ => 0))) H := hP
                      have hD : va_D A (w_M cA cZ a (.ref (a 10)) (upf (upf (upf (upf X 14 (fun _ => ((X 14 0) + 1))) 19 (fun _ => 0)) 20 (fun _ => 0)) 22 (fun _ => 0))) := hD
                      exact join_160 (upf (upf (upf (upf X 14 (fun _ => ((X 14 0) + 1))) 19 (fun _ => 0)) 20 (fun _ => 0)) 22 (fun _ => 0)) 1 ((f_M_hereF (upf (upf (upf X 19 (fun _ => 0)) 20 (fun _ => 0)) 22 (fun _ => 0))) - 40) 1 H locs ls (by rw [f_M_partF, if_pos c_805, if_neg c_826, if_neg c_842, if_neg c_843, if_neg c_846, if_neg c_848, if_neg c_850]) (m_adv_step (hereF_gt c_826) hma).1 hmt hmk hP hD hS (lv_sub hl [4, 5, 6, 7, 3, 2, 0] rfl)
                    · exact absurd c_852 (by decide)
        · refine lv_iconst (v := 1) hx hb d_M_part_85 (by decide) ?_
          refine lv_goto (tgt := 90) hx hb d_M_part_86 (by decide) ?_
          refine lv_istore (lv' := [(7, .int 1), (6, .int 1), (5, .int ((f_M_hereF (upf (upf (upf X 19 (fun _ => 0)) 20 (fun _ => 0)) 22 (fun _ => 0))) - 40)), (4, .int 1), (0, .ref (a 0)), (1, .int x1), (2, .int x2), (3, .int x3)]) hx hb d_M_part_90 hl (by decide) rfl (fun ls hl => ?_)
          refine lv_iload hx hb d_M_part_92 (lv_at hl 2 rfl) ?_
          refine lv_if_gt (tgt := 131) hx hb d_M_part_94 (by decide) (fun c_853 => ?_) (fun c_853 => ?_)
          · refine lv_iconst (v := 1) hx hb d_M_part_131 (by decide) ?_
            refine lv_goto (tgt := 136) hx hb d_M_part_132 (by decide) ?_
            refine lv_istore (lv' := [(6, .int 1), (7, .int 1), (5, .int ((f_M_hereF (upf (upf (upf X 19 (fun _ => 0)) 20 (fun _ => 0)) 22 (fun _ => 0))) - 40)), (4, .int 1), (0, .ref (a 0)), (1, .int x1), (2, .int x2), (3, .int x3)]) hx hb d_M_part_136 hl (by decide) rfl (fun ls hl => ?_)
            refine lv_aload_n hx hb d_M_part_138 rfl (lv_at hl 4 rfl) ?_
            refine lv_iload hx hb d_M_part_139 (lv_at hl 1 rfl) ?_
            refine lv_if_eq (tgt := 153) hx hb d_M_part_141 (by decide) (fun c_854 => ?_) (fun c_854 => ?_)
            · exact absurd c_854 (by decide)
            · refine lv_aload_n hx hb d_M_part_144 rfl (lv_at hl 4 rfl) ?_
              refine va_get (D := (dC, dI)) (ci := 4) (v := .int ((X 14 0) + 1)) (C := R_M) (T := F_M) (N := 39) hx hb hts i_M hown hK hP 0 rfl rfl 14 (by decide) (hts _ m_f_M_97) (fun _ h9 => h9) rfl d_M_part_145 ?_
              refine lv_iconst (v := 1) hx hb d_M_part_148 (by decide) ?_
              refine lv_iadd hx hb d_M_part_149 ?_
              refine lv_goto (tgt := 157) hx hb d_M_part_150 (by decide) ?_
              refine va_put (D := (dC, dI)) (ci := 4) (v := .int (((X 14 0) + 1) + 1)) (ty := .int) (C := R_M) (T := F_M) (N := 39) hx hb hts i_M t_M t_M_ok n_M hown hK hP hD hS 0 rfl rfl 14 (by decide) (hts _ m_f_M_97) (fun _ h9 => h9) rfl (by decide +kernel) rfl rfl (Nat.le_of_ble_eq_true rfl) d_M_part_157 (fun H locs hP hD hS => ?_)
              have hP : va_P (dC, dI) classes (w_M cA cZ a (.ref (a 10)) (upf (upf (upf (upf X 14 (fun _ => (((X 14 0) + 1) + 1))) 19 (fun _ => 0)) 20 (fun _ => 0)) 22 (fun _ => 0))) H := hP
              have hD : va_D A (w_M cA cZ a (.ref (a 10)) (upf (upf (upf (upf X 14 (fun _ => (((X 14 0) + 1) + 1))) 19 (fun _ => 0)) 20 (fun _ => 0)) 22 (fun _ => 0))) := hD
              exact join_160 (upf (upf (upf (upf X 14 (fun _ => (((X 14 0) + 1) + 1))) 19 (fun _ => 0)) 20 (fun _ => 0)) 22 (fun _ => 0)) 1 ((f_M_hereF (upf (upf (upf X 19 (fun _ => 0)) 20 (fun _ => 0)) 22 (fun _ => 0))) - 40) 1 H locs ls (by rw [f_M_partF, if_pos c_805, if_neg c_826, if_pos c_842, if_pos c_853]) (m_adv_trans (m_adv_step (hereF_gt c_826) hma) (m_adv_step (hereF_eq c_842 (by decide)) (m_adv_step (hereF_gt c_826) hma).1)).1 hmt hmk hP hD hS (lv_sub hl [4, 5, 6, 7, 3, 2, 0] rfl)
          · refine lv_iload hx hb d_M_part_97 (lv_at hl 0 rfl) ?_
            refine lv_if_ne (tgt := 131) hx hb d_M_part_99 (by decide) (fun c_855 => ?_) (fun c_855 => ?_)
            · refine lv_iconst (v := 1) hx hb d_M_part_131 (by decide) ?_
              refine lv_goto (tgt := 136) hx hb d_M_part_132 (by decide) ?_
              refine lv_istore (lv' := [(6, .int 1), (7, .int 1), (5, .int ((f_M_hereF (upf (upf (upf X 19 (fun _ => 0)) 20 (fun _ => 0)) 22 (fun _ => 0))) - 40)), (4, .int 1), (0, .ref (a 0)), (1, .int x1), (2, .int x2), (3, .int x3)]) hx hb d_M_part_136 hl (by decide) rfl (fun ls hl => ?_)
              refine lv_aload_n hx hb d_M_part_138 rfl (lv_at hl 4 rfl) ?_
              refine lv_iload hx hb d_M_part_139 (lv_at hl 1 rfl) ?_
              refine lv_if_eq (tgt := 153) hx hb d_M_part_141 (by decide) (fun c_856 => ?_) (fun c_856 => ?_)
              · exact absurd c_856 (by decide)
              · refine lv_aload_n hx hb d_M_part_144 rfl (lv_at hl 4 rfl) ?_
                refine va_get (D := (dC, dI)) (ci := 4) (v := .int ((X 14 0) + 1)) (C := R_M) (T := F_M) (N := 39) hx hb hts i_M hown hK hP 0 rfl rfl 14 (by decide) (hts _ m_f_M_97) (fun _ h9 => h9) rfl d_M_part_145 ?_
                refine lv_iconst (v := 1) hx hb d_M_part_148 (by decide) ?_
                refine lv_iadd hx hb d_M_part_149 ?_
                refine lv_goto (tgt := 157) hx hb d_M_part_150 (by decide) ?_
                refine va_put (D := (dC, dI)) (ci := 4) (v := .int (((X 14 0) + 1) + 1)) (ty := .int) (C := R_M) (T := F_M) (N := 39) hx hb hts i_M t_M t_M_ok n_M hown hK hP hD hS 0 rfl rfl 14 (by decide) (hts _ m_f_M_97) (fun _ h9 => h9) rfl (by decide +kernel) rfl rfl (Nat.le_of_ble_eq_true rfl) d_M_part_157 (fun H locs hP hD hS => ?_)
                have hP : va_P (dC, dI) classes (w_M cA cZ a (.ref (a 10)) (upf (upf (upf (upf X 14 (fun _ => (((X 14 0) + 1) + 1))) 19 (fun _ => 0)) 20 (fun _ => 0)) 22 (fun _ => 0))) H := hP
                have hD : va_D A (w_M cA cZ a (.ref (a 10)) (upf (upf (upf (upf X 14 (fun _ => (((X 14 0) + 1) + 1))) 19 (fun _ => 0)) 20 (fun _ => 0)) 22 (fun _ => 0))) := hD
                exact join_160 (upf (upf (upf (upf X 14 (fun _ => (((X 14 0) + 1) + 1))) 19 (fun _ => 0)) 20 (fun _ => 0)) 22 (fun _ => 0)) 1 ((f_M_hereF (upf (upf (upf X 19 (fun _ => 0)) 20 (fun _ => 0)) 22 (fun _ => 0))) - 40) 1 H locs ls (by rw [f_M_partF, if_pos c_805, if_neg c_826, if_pos c_842, if_neg c_853]) (m_adv_trans (m_adv_step (hereF_gt c_826) hma) (m_adv_step (hereF_eq c_842 (by decide)) (m_adv_step (hereF_gt c_826) hma).1)).1 hmt hmk hP hD hS (lv_sub hl [4, 5, 6, 7, 3, 2, 0] rfl)
            · exact absurd c_855 (by decide)
      · exact absurd c_841 (by decide)
theorem ptF_fr408 {x1 x2 x3 y4 y5 y8 y9 y10 : Int32} {k : Nat} (h : Nat.beq k 22 = false) : ∀ (n : Nat) (X : Nat → Nat → Int32) (z : Int32), f_M_partF_L408 x1 x2 x3 y4 y5 y8 y9 y10 n X z k = X k := by
  intro n
  induction n with
  | zero => intro X z; rfl
  | succ n ih =>
    intro X z
    rw [f_M_partF_L408]
    split
    · rfl
    · rw [ih, upf_ne h]
theorem ptF_fr400 {x1 x2 x3 z4 z5 z8 z9 z10 : Int32} {X : Nat → Nat → Int32} {k : Nat} (h1 : Nat.beq k 19 = false) (h2 : Nat.beq k 20 = false) (h3 : Nat.beq k 21 = false) (h4 : Nat.beq k 22 = false) : f_M_partF_J400 x1 x2 x3 X z4 z5 z8 z9 z10 k = X k := by
  unfold f_M_partF_J400
  split
  · split
    · split
      · split
        · split
          · rw [upf_ne h3, upf_ne h1]
          · split
            · split
              · rw [upf_ne h2]
              · rw [upf_ne h4]
            · rw [upf_ne h4]
        · split
          · rw [upf_ne h3, upf_ne h1]
          · split
            · split
              · rw [upf_ne h2]
              · rw [upf_ne h4]
            · rw [upf_ne h4]
      · rw [upf_ne h4]
    · rw [upf_ne h4]
  · exact ptF_fr408 h4 _ _ _
theorem m_adv_eqF {X Y : Nat → Nat → Int32} (h : m_a X) (e13 : Y 13 = X 13) (e14 : Y 14 = X 14) : m_adv X Y := by
  refine ⟨?_, e13, ?_, Or.inl ?_⟩
  · unfold m_a
    rw [e13, e14]
    exact h
  · rw [e14]; exact Int.le_refl _
  · rw [e14]; exact Int.le_refl _
theorem ptF_e400 {x1 x2 x3 z4 z5 z8 z9 z10 : Int32} {X : Nat → Nat → Int32} {g : Nat → Int32} (h : m_a X) : m_adv X (f_M_partF_J400 x1 x2 x3 (upf X 19 g) z4 z5 z8 z9 z10) := m_adv_eqF h (ptF_fr400 rfl rfl rfl rfl) (ptF_fr400 rfl rfl rfl rfl)
/-- the end of the loop over the EXCEPTS -/
theorem ptF_x254 {x1 x2 x3 y4 y5 y8 y9 z10 : Int32} {X : Nat → Nat → Int32} (h : m_a X) : m_adv X (if (X 19 0) = 0 then (if z10 = 0 then (if x1 = 0 then (upf X 19 (fun _ => 5)) else (upf X 19 (fun _ => 5))) else (if y5 ≤ (f_bitCount z10) then (if x1 = 0 then (upf X 19 (fun _ => (X 19 0))) else (if (X 19 0) ≤ 0 then (f_M_partF_J400 x1 x2 x3 (upf X 19 (fun _ => (X 19 0))) y4 y5 y8 y9 z10) else (upf X 19 (fun _ => (X 19 0))))) else (if x1 = 0 then (upf X 19 (fun _ => 6)) else (upf X 19 (fun _ => 6))))) else (if x1 = 0 then (upf X 19 (fun _ => (X 19 0))) else (if (X 19 0) ≤ 0 then (f_M_partF_J400 x1 x2 x3 (upf X 19 (fun _ => (X 19 0))) y4 y5 y8 y9 z10) else (upf X 19 (fun _ => (X 19 0)))))) := by
  have u : ∀ g : Nat → Int32, m_adv X (upf X 19 g) := fun g => m_adv_eqF h rfl rfl
  split
  · split
    · split
      · exact u _
      · exact u _
    · split
      · split
        · exact u _
        · split
          · exact ptF_e400 h
          · exact u _
      · split
        · exact u _
        · exact u _
  · split
    · exact u _
    · split
      · exact ptF_e400 h
      · exact u _
theorem ptF_a254 {x1 x2 x3 y4 y5 y8 y9 : Int32} : ∀ (n : Nat) (X : Nat → Nat → Int32) (z10 : Int32), m_a X → m_adv X (f_M_partF_L254 x1 x2 x3 y4 y5 y8 y9 n X z10) := by
  intro n
  induction n with
  | zero => intro X z h; exact m_adv_rfl h
  | succ n ih =>
    intro X z h
    rw [f_M_partF_L254]
    split
    · exact ptF_x254 h
    · split
      · rename_i c
        have s1 : m_adv X (f_M_readDescriptionF (upf X 14 (fun _ => (X 14 0) + 1))) := m_adv_trans (m_adv_step (hereF_eq c (by decide)) h) (rdF_a (ma_step (hereF_eq c (by decide)) h))
        split
        · split
          · split
            · have s2 : m_adv (f_M_readDescriptionF (upf X 14 (fun _ => (X 14 0) + 1))) _ := ih (upf (upf (f_M_readDescriptionF (upf X 14 (fun _ => ((X 14 0) + 1)))) 19 (fun _ => 4)) 21 (fun _ => (f_bitCount (z &&& (((f_M_fitting (f_M_readDescriptionF (upf X 14 (fun _ => ((X 14 0) + 1)))) 3) &&& z) ^^^ (-1)))))) (z &&& (((f_M_fitting (f_M_readDescriptionF (upf X 14 (fun _ => ((X 14 0) + 1)))) 3) &&& z) ^^^ (-1))) s1.1
              exact m_adv_trans s1 s2
            · have s2 : m_adv (f_M_readDescriptionF (upf X 14 (fun _ => (X 14 0) + 1))) _ := ih (upf (upf (f_M_readDescriptionF (upf X 14 (fun _ => ((X 14 0) + 1)))) 19 (fun _ => 0)) 21 (fun _ => (f_bitCount (z &&& (((f_M_fitting (f_M_readDescriptionF (upf X 14 (fun _ => ((X 14 0) + 1)))) 3) &&& z) ^^^ (-1)))))) (z &&& (((f_M_fitting (f_M_readDescriptionF (upf X 14 (fun _ => ((X 14 0) + 1)))) 3) &&& z) ^^^ (-1))) s1.1
              exact m_adv_trans s1 s2
          · exact m_adv_trans s1 (ih _ _ s1.1)
        · exact s1
      · exact ptF_x254 h
theorem ptF_a213 {x1 x2 x3 z4 z5 z7 z8 z9 : Int32} {X : Nat → Nat → Int32} (h : m_a X) : m_adv X (f_M_partF_J213 x1 x2 x3 X z4 z5 z7 z8 z9) := by
  unfold f_M_partF_J213 f_M_partF_J254
  split
  · exact ptF_a254 _ (upf (upf X 19 (fun _ => 2)) 21 (fun _ => (f_bitCount (z7 &&& (f_M_there X))))) _ h
  · split
    · exact ptF_a254 _ (upf (upf X 19 (fun _ => 3)) 21 (fun _ => (f_bitCount (z7 &&& (f_M_there X))))) _ h
    · exact ptF_a254 _ (upf (upf X 19 (fun _ => 0)) 21 (fun _ => (f_bitCount (z7 &&& (f_M_there X))))) _ h
theorem ptF_a160 {x1 x2 x3 z4 z5 z6 : Int32} {X : Nat → Nat → Int32} (h : m_a X) : m_adv X (f_M_partF_J160 x1 x2 x3 X z4 z5 z6) := by
  unfold f_M_partF_J160
  split
  · exact ptF_a213 h
  · have s1 := rdF_a h
    split
    · exact m_adv_trans s1 (ptF_a213 s1.1)
    · exact s1
theorem ptF_l0 {x1 x2 x3 z4 z5 z6 : Int32} {X : Nat → Nat → Int32} (h : m_a X) : m_adv X (f_M_partF_J160 x1 x2 x3 (upf (upf (upf X 19 (fun _ => 0)) 20 (fun _ => 0)) 22 (fun _ => 0)) z4 z5 z6) := ptF_a160 (X := (upf (upf (upf X 19 (fun _ => 0)) 20 (fun _ => 0)) 22 (fun _ => 0))) h
theorem ptF_l1 {x1 x2 x3 z4 z5 z6 : Int32} {X : Nat → Nat → Int32} (h : m_a X) (c : ¬ (X 13 0) ≤ (X 14 0)) : m_adv (upf X 14 (fun _ => (X 14 0) + 1)) (f_M_partF_J160 x1 x2 x3 (upf (upf (upf (upf X 14 (fun _ => ((X 14 0) + 1))) 19 (fun _ => 0)) 20 (fun _ => 0)) 22 (fun _ => 0)) z4 z5 z6) := ptF_a160 (X := (upf (upf (upf (upf X 14 (fun _ => ((X 14 0) + 1))) 19 (fun _ => 0)) 20 (fun _ => 0)) 22 (fun _ => 0))) (ma_step c h)
theorem ptF_l2 {x1 x2 x3 z4 z5 z6 : Int32} {X : Nat → Nat → Int32} (h : m_a X) (c : ¬ (X 13 0) ≤ (X 14 0)) (c2 : f_M_hereF (upf (upf (upf (upf X 14 (fun _ => ((X 14 0) + 1))) 19 (fun _ => 0)) 20 (fun _ => 0)) 22 (fun _ => 0)) = 37) : m_adv (upf X 14 (fun _ => (X 14 0) + 1)) (f_M_partF_J160 x1 x2 x3 (upf (upf (upf (upf X 14 (fun _ => (((X 14 0) + 1) + 1))) 19 (fun _ => 0)) 20 (fun _ => 0)) 22 (fun _ => 0)) z4 z5 z6) := by
  have s0 : m_a (upf X 14 (fun _ => (X 14 0) + 1)) := ma_step c h
  have c3 : ¬ ((upf X 14 (fun _ => (X 14 0) + 1)) 13 0) ≤ ((upf X 14 (fun _ => (X 14 0) + 1)) 14 0) := hereF_eq (X := (upf (upf (upf (upf X 14 (fun _ => ((X 14 0) + 1))) 19 (fun _ => 0)) 20 (fun _ => 0)) 22 (fun _ => 0))) c2 (by decide)
  have s1 := m_adv_step c3 s0
  have s2 : m_adv (upf (upf X 14 (fun _ => (X 14 0) + 1)) 14 (fun _ => ((upf X 14 (fun _ => (X 14 0) + 1)) 14 0) + 1)) (f_M_partF_J160 x1 x2 x3 (upf (upf (upf (upf X 14 (fun _ => (((X 14 0) + 1) + 1))) 19 (fun _ => 0)) 20 (fun _ => 0)) 22 (fun _ => 0)) z4 z5 z6) := ptF_a160 (X := (upf (upf (upf (upf X 14 (fun _ => (((X 14 0) + 1) + 1))) 19 (fun _ => 0)) 20 (fun _ => 0)) 22 (fun _ => 0))) s1.1
  exact m_adv_trans s1 s2
theorem ptF_cases (X : Nat → Nat → Int32) (x1 x2 x3 : Int32) : (∃ z4 z5 : Int32, f_M_partF X x1 x2 x3 = f_M_partF_J160 x1 x2 x3 (upf (upf (upf X 19 (fun _ => 0)) 20 (fun _ => 0)) 22 (fun _ => 0)) z4 z5 1) ∨ (¬ (X 13 0) ≤ (X 14 0) ∧ ∃ z4 z5 z6 : Int32, f_M_partF X x1 x2 x3 = f_M_partF_J160 x1 x2 x3 (upf (upf (upf (upf X 14 (fun _ => ((X 14 0) + 1))) 19 (fun _ => 0)) 20 (fun _ => 0)) 22 (fun _ => 0)) z4 z5 z6) ∨ (¬ (X 13 0) ≤ (X 14 0) ∧ f_M_hereF (upf (upf (upf (upf X 14 (fun _ => ((X 14 0) + 1))) 19 (fun _ => 0)) 20 (fun _ => 0)) 22 (fun _ => 0)) = 37 ∧ ∃ z4 z5 z6 : Int32, f_M_partF X x1 x2 x3 = f_M_partF_J160 x1 x2 x3 (upf (upf (upf (upf X 14 (fun _ => (((X 14 0) + 1) + 1))) 19 (fun _ => 0)) 20 (fun _ => 0)) 22 (fun _ => 0)) z4 z5 z6) := by
  by_cases s_1 : (f_M_hereF (upf (upf (upf X 19 (fun _ => 0)) 20 (fun _ => 0)) 22 (fun _ => 0))) = 34
  · by_cases s_2 : (f_M_hereF (upf (upf (upf X 19 (fun _ => 0)) 20 (fun _ => 0)) 22 (fun _ => 0))) ≤ 40
    · by_cases s_3 : (f_M_hereF (upf (upf (upf (upf X 14 (fun _ => ((X 14 0) + 1))) 19 (fun _ => 0)) 20 (fun _ => 0)) 22 (fun _ => 0))) = 37
      · have e : f_M_partF X x1 x2 x3 = (f_M_partF_J160 x1 x2 x3 (upf (upf (upf (upf X 14 (fun _ => (((X 14 0) + 1) + 1))) 19 (fun _ => 0)) 20 (fun _ => 0)) 22 (fun _ => 0)) 1 0 1) := by rw [f_M_partF, if_pos s_1, if_pos s_2, if_pos s_3]
        exact Or.inr (Or.inr ⟨(hereF_eq (X := (upf (upf (upf X 19 (fun _ => 0)) 20 (fun _ => 0)) 22 (fun _ => 0))) s_1 (by decide)), s_3, _, _, _, e⟩)
      · by_cases s_4 : (X 13 0) ≤ ((X 14 0) + 1)
        · have e : f_M_partF X x1 x2 x3 = (f_M_partF_J160 x1 x2 x3 (upf (upf (upf (upf X 14 (fun _ => ((X 14 0) + 1))) 19 (fun _ => 0)) 20 (fun _ => 0)) 22 (fun _ => 0)) 1 0 0) := by rw [f_M_partF, if_pos s_1, if_pos s_2, if_neg s_3, if_pos s_4]
          exact Or.inr (Or.inl ⟨(hereF_eq (X := (upf (upf (upf X 19 (fun _ => 0)) 20 (fun _ => 0)) 22 (fun _ => 0))) s_1 (by decide)), _, _, _, e⟩)
        · by_cases s_5 : (f_M_hereF (upf (upf (upf (upf X 14 (fun _ => ((X 14 0) + 1))) 19 (fun _ => 0)) 20 (fun _ => 0)) 22 (fun _ => 0))) = 35
          · have e : f_M_partF X x1 x2 x3 = (f_M_partF_J160 x1 x2 x3 (upf (upf (upf (upf X 14 (fun _ => ((X 14 0) + 1))) 19 (fun _ => 0)) 20 (fun _ => 0)) 22 (fun _ => 0)) 1 0 0) := by rw [f_M_partF, if_pos s_1, if_pos s_2, if_neg s_3, if_neg s_4, if_pos s_5]
            exact Or.inr (Or.inl ⟨(hereF_eq (X := (upf (upf (upf X 19 (fun _ => 0)) 20 (fun _ => 0)) 22 (fun _ => 0))) s_1 (by decide)), _, _, _, e⟩)
          · by_cases s_6 : (f_M_hereF (upf (upf (upf (upf X 14 (fun _ => ((X 14 0) + 1))) 19 (fun _ => 0)) 20 (fun _ => 0)) 22 (fun _ => 0))) = 36
            · have e : f_M_partF X x1 x2 x3 = (f_M_partF_J160 x1 x2 x3 (upf (upf (upf (upf X 14 (fun _ => ((X 14 0) + 1))) 19 (fun _ => 0)) 20 (fun _ => 0)) 22 (fun _ => 0)) 1 0 0) := by rw [f_M_partF, if_pos s_1, if_pos s_2, if_neg s_3, if_neg s_4, if_neg s_5, if_pos s_6]
              exact Or.inr (Or.inl ⟨(hereF_eq (X := (upf (upf (upf X 19 (fun _ => 0)) 20 (fun _ => 0)) 22 (fun _ => 0))) s_1 (by decide)), _, _, _, e⟩)
            · have e : f_M_partF X x1 x2 x3 = (f_M_partF_J160 x1 x2 x3 (upf (upf (upf (upf X 14 (fun _ => ((X 14 0) + 1))) 19 (fun _ => 0)) 20 (fun _ => 0)) 22 (fun _ => 0)) 1 0 1) := by rw [f_M_partF, if_pos s_1, if_pos s_2, if_neg s_3, if_neg s_4, if_neg s_5, if_neg s_6]
              exact Or.inr (Or.inl ⟨(hereF_eq (X := (upf (upf (upf X 19 (fun _ => 0)) 20 (fun _ => 0)) 22 (fun _ => 0))) s_1 (by decide)), _, _, _, e⟩)
    · by_cases s_7 : (f_M_hereF (upf (upf (upf (upf X 14 (fun _ => ((X 14 0) + 1))) 19 (fun _ => 0)) 20 (fun _ => 0)) 22 (fun _ => 0))) = 37
      · by_cases s_8 : 0 < ((f_M_hereF (upf (upf (upf X 19 (fun _ => 0)) 20 (fun _ => 0)) 22 (fun _ => 0))) - 40)
        · have e : f_M_partF X x1 x2 x3 = (f_M_partF_J160 x1 x2 x3 (upf (upf (upf (upf X 14 (fun _ => (((X 14 0) + 1) + 1))) 19 (fun _ => 0)) 20 (fun _ => 0)) 22 (fun _ => 0)) 1 ((f_M_hereF (upf (upf (upf X 19 (fun _ => 0)) 20 (fun _ => 0)) 22 (fun _ => 0))) - 40) 1) := by rw [f_M_partF, if_pos s_1, if_neg s_2, if_pos s_7, if_pos s_8]
          exact Or.inr (Or.inr ⟨(hereF_gt (X := (upf (upf (upf X 19 (fun _ => 0)) 20 (fun _ => 0)) 22 (fun _ => 0))) s_2), s_7, _, _, _, e⟩)
        · have e : f_M_partF X x1 x2 x3 = (f_M_partF_J160 x1 x2 x3 (upf (upf (upf (upf X 14 (fun _ => (((X 14 0) + 1) + 1))) 19 (fun _ => 0)) 20 (fun _ => 0)) 22 (fun _ => 0)) 1 ((f_M_hereF (upf (upf (upf X 19 (fun _ => 0)) 20 (fun _ => 0)) 22 (fun _ => 0))) - 40) 1) := by rw [f_M_partF, if_pos s_1, if_neg s_2, if_pos s_7, if_neg s_8]
          exact Or.inr (Or.inr ⟨(hereF_gt (X := (upf (upf (upf X 19 (fun _ => 0)) 20 (fun _ => 0)) 22 (fun _ => 0))) s_2), s_7, _, _, _, e⟩)
      · by_cases s_9 : 0 < ((f_M_hereF (upf (upf (upf X 19 (fun _ => 0)) 20 (fun _ => 0)) 22 (fun _ => 0))) - 40)
        · have e : f_M_partF X x1 x2 x3 = (f_M_partF_J160 x1 x2 x3 (upf (upf (upf (upf X 14 (fun _ => ((X 14 0) + 1))) 19 (fun _ => 0)) 20 (fun _ => 0)) 22 (fun _ => 0)) 1 ((f_M_hereF (upf (upf (upf X 19 (fun _ => 0)) 20 (fun _ => 0)) 22 (fun _ => 0))) - 40) 1) := by rw [f_M_partF, if_pos s_1, if_neg s_2, if_neg s_7, if_pos s_9]
          exact Or.inr (Or.inl ⟨(hereF_gt (X := (upf (upf (upf X 19 (fun _ => 0)) 20 (fun _ => 0)) 22 (fun _ => 0))) s_2), _, _, _, e⟩)
        · by_cases s_10 : (X 13 0) ≤ ((X 14 0) + 1)
          · have e : f_M_partF X x1 x2 x3 = (f_M_partF_J160 x1 x2 x3 (upf (upf (upf (upf X 14 (fun _ => ((X 14 0) + 1))) 19 (fun _ => 0)) 20 (fun _ => 0)) 22 (fun _ => 0)) 1 ((f_M_hereF (upf (upf (upf X 19 (fun _ => 0)) 20 (fun _ => 0)) 22 (fun _ => 0))) - 40) 0) := by rw [f_M_partF, if_pos s_1, if_neg s_2, if_neg s_7, if_neg s_9, if_pos s_10]
            exact Or.inr (Or.inl ⟨(hereF_gt (X := (upf (upf (upf X 19 (fun _ => 0)) 20 (fun _ => 0)) 22 (fun _ => 0))) s_2), _, _, _, e⟩)
          · by_cases s_11 : (f_M_hereF (upf (upf (upf (upf X 14 (fun _ => ((X 14 0) + 1))) 19 (fun _ => 0)) 20 (fun _ => 0)) 22 (fun _ => 0))) = 35
            · have e : f_M_partF X x1 x2 x3 = (f_M_partF_J160 x1 x2 x3 (upf (upf (upf (upf X 14 (fun _ => ((X 14 0) + 1))) 19 (fun _ => 0)) 20 (fun _ => 0)) 22 (fun _ => 0)) 1 ((f_M_hereF (upf (upf (upf X 19 (fun _ => 0)) 20 (fun _ => 0)) 22 (fun _ => 0))) - 40) 0) := by rw [f_M_partF, if_pos s_1, if_neg s_2, if_neg s_7, if_neg s_9, if_neg s_10, if_pos s_11]
              exact Or.inr (Or.inl ⟨(hereF_gt (X := (upf (upf (upf X 19 (fun _ => 0)) 20 (fun _ => 0)) 22 (fun _ => 0))) s_2), _, _, _, e⟩)
            · by_cases s_12 : (f_M_hereF (upf (upf (upf (upf X 14 (fun _ => ((X 14 0) + 1))) 19 (fun _ => 0)) 20 (fun _ => 0)) 22 (fun _ => 0))) = 36
              · have e : f_M_partF X x1 x2 x3 = (f_M_partF_J160 x1 x2 x3 (upf (upf (upf (upf X 14 (fun _ => ((X 14 0) + 1))) 19 (fun _ => 0)) 20 (fun _ => 0)) 22 (fun _ => 0)) 1 ((f_M_hereF (upf (upf (upf X 19 (fun _ => 0)) 20 (fun _ => 0)) 22 (fun _ => 0))) - 40) 0) := by rw [f_M_partF, if_pos s_1, if_neg s_2, if_neg s_7, if_neg s_9, if_neg s_10, if_neg s_11, if_pos s_12]
                exact Or.inr (Or.inl ⟨(hereF_gt (X := (upf (upf (upf X 19 (fun _ => 0)) 20 (fun _ => 0)) 22 (fun _ => 0))) s_2), _, _, _, e⟩)
              · have e : f_M_partF X x1 x2 x3 = (f_M_partF_J160 x1 x2 x3 (upf (upf (upf (upf X 14 (fun _ => ((X 14 0) + 1))) 19 (fun _ => 0)) 20 (fun _ => 0)) 22 (fun _ => 0)) 1 ((f_M_hereF (upf (upf (upf X 19 (fun _ => 0)) 20 (fun _ => 0)) 22 (fun _ => 0))) - 40) 1) := by rw [f_M_partF, if_pos s_1, if_neg s_2, if_neg s_7, if_neg s_9, if_neg s_10, if_neg s_11, if_neg s_12]
                exact Or.inr (Or.inl ⟨(hereF_gt (X := (upf (upf (upf X 19 (fun _ => 0)) 20 (fun _ => 0)) 22 (fun _ => 0))) s_2), _, _, _, e⟩)
  · by_cases s_13 : (f_M_hereF (upf (upf (upf X 19 (fun _ => 0)) 20 (fun _ => 0)) 22 (fun _ => 0))) ≤ 40
    · have e : f_M_partF X x1 x2 x3 = (f_M_partF_J160 x1 x2 x3 (upf (upf (upf X 19 (fun _ => 0)) 20 (fun _ => 0)) 22 (fun _ => 0)) 0 0 1) := by rw [f_M_partF, if_neg s_1, if_pos s_13]
      exact Or.inl ⟨_, _, e⟩
    · by_cases s_14 : ((f_M_hereF (upf (upf (upf X 19 (fun _ => 0)) 20 (fun _ => 0)) 22 (fun _ => 0))) - 40) ≤ 0
      · have e : f_M_partF X x1 x2 x3 = (f_M_partF_J160 x1 x2 x3 (upf (upf (upf X 19 (fun _ => 0)) 20 (fun _ => 0)) 22 (fun _ => 0)) 0 ((f_M_hereF (upf (upf (upf X 19 (fun _ => 0)) 20 (fun _ => 0)) 22 (fun _ => 0))) - 40) 1) := by rw [f_M_partF, if_neg s_1, if_neg s_13, if_pos s_14]
        exact Or.inl ⟨_, _, e⟩
      · by_cases s_15 : (f_M_hereF (upf (upf (upf (upf X 14 (fun _ => ((X 14 0) + 1))) 19 (fun _ => 0)) 20 (fun _ => 0)) 22 (fun _ => 0))) = 37
        · by_cases s_16 : 0 < ((f_M_hereF (upf (upf (upf X 19 (fun _ => 0)) 20 (fun _ => 0)) 22 (fun _ => 0))) - 40)
          · have e : f_M_partF X x1 x2 x3 = (f_M_partF_J160 x1 x2 x3 (upf (upf (upf (upf X 14 (fun _ => (((X 14 0) + 1) + 1))) 19 (fun _ => 0)) 20 (fun _ => 0)) 22 (fun _ => 0)) 0 ((f_M_hereF (upf (upf (upf X 19 (fun _ => 0)) 20 (fun _ => 0)) 22 (fun _ => 0))) - 40) 1) := by rw [f_M_partF, if_neg s_1, if_neg s_13, if_neg s_14, if_pos s_15, if_pos s_16]
            exact Or.inr (Or.inr ⟨(hereF_gt (X := (upf (upf (upf X 19 (fun _ => 0)) 20 (fun _ => 0)) 22 (fun _ => 0))) s_13), s_15, _, _, _, e⟩)
          · have e : f_M_partF X x1 x2 x3 = (f_M_partF_J160 x1 x2 x3 (upf (upf (upf (upf X 14 (fun _ => (((X 14 0) + 1) + 1))) 19 (fun _ => 0)) 20 (fun _ => 0)) 22 (fun _ => 0)) 0 ((f_M_hereF (upf (upf (upf X 19 (fun _ => 0)) 20 (fun _ => 0)) 22 (fun _ => 0))) - 40) 1) := by rw [f_M_partF, if_neg s_1, if_neg s_13, if_neg s_14, if_pos s_15, if_neg s_16]
            exact Or.inr (Or.inr ⟨(hereF_gt (X := (upf (upf (upf X 19 (fun _ => 0)) 20 (fun _ => 0)) 22 (fun _ => 0))) s_13), s_15, _, _, _, e⟩)
        · by_cases s_17 : 0 < ((f_M_hereF (upf (upf (upf X 19 (fun _ => 0)) 20 (fun _ => 0)) 22 (fun _ => 0))) - 40)
          · have e : f_M_partF X x1 x2 x3 = (f_M_partF_J160 x1 x2 x3 (upf (upf (upf (upf X 14 (fun _ => ((X 14 0) + 1))) 19 (fun _ => 0)) 20 (fun _ => 0)) 22 (fun _ => 0)) 0 ((f_M_hereF (upf (upf (upf X 19 (fun _ => 0)) 20 (fun _ => 0)) 22 (fun _ => 0))) - 40) 1) := by rw [f_M_partF, if_neg s_1, if_neg s_13, if_neg s_14, if_neg s_15, if_pos s_17]
            exact Or.inr (Or.inl ⟨(hereF_gt (X := (upf (upf (upf X 19 (fun _ => 0)) 20 (fun _ => 0)) 22 (fun _ => 0))) s_13), _, _, _, e⟩)
          · by_cases s_18 : (X 13 0) ≤ ((X 14 0) + 1)
            · have e : f_M_partF X x1 x2 x3 = (f_M_partF_J160 x1 x2 x3 (upf (upf (upf (upf X 14 (fun _ => ((X 14 0) + 1))) 19 (fun _ => 0)) 20 (fun _ => 0)) 22 (fun _ => 0)) 0 ((f_M_hereF (upf (upf (upf X 19 (fun _ => 0)) 20 (fun _ => 0)) 22 (fun _ => 0))) - 40) 0) := by rw [f_M_partF, if_neg s_1, if_neg s_13, if_neg s_14, if_neg s_15, if_neg s_17, if_pos s_18]
              exact Or.inr (Or.inl ⟨(hereF_gt (X := (upf (upf (upf X 19 (fun _ => 0)) 20 (fun _ => 0)) 22 (fun _ => 0))) s_13), _, _, _, e⟩)
            · by_cases s_19 : (f_M_hereF (upf (upf (upf (upf X 14 (fun _ => ((X 14 0) + 1))) 19 (fun _ => 0)) 20 (fun _ => 0)) 22 (fun _ => 0))) = 35
              · have e : f_M_partF X x1 x2 x3 = (f_M_partF_J160 x1 x2 x3 (upf (upf (upf (upf X 14 (fun _ => ((X 14 0) + 1))) 19 (fun _ => 0)) 20 (fun _ => 0)) 22 (fun _ => 0)) 0 ((f_M_hereF (upf (upf (upf X 19 (fun _ => 0)) 20 (fun _ => 0)) 22 (fun _ => 0))) - 40) 0) := by rw [f_M_partF, if_neg s_1, if_neg s_13, if_neg s_14, if_neg s_15, if_neg s_17, if_neg s_18, if_pos s_19]
                exact Or.inr (Or.inl ⟨(hereF_gt (X := (upf (upf (upf X 19 (fun _ => 0)) 20 (fun _ => 0)) 22 (fun _ => 0))) s_13), _, _, _, e⟩)
              · by_cases s_20 : (f_M_hereF (upf (upf (upf (upf X 14 (fun _ => ((X 14 0) + 1))) 19 (fun _ => 0)) 20 (fun _ => 0)) 22 (fun _ => 0))) = 36
                · have e : f_M_partF X x1 x2 x3 = (f_M_partF_J160 x1 x2 x3 (upf (upf (upf (upf X 14 (fun _ => ((X 14 0) + 1))) 19 (fun _ => 0)) 20 (fun _ => 0)) 22 (fun _ => 0)) 0 ((f_M_hereF (upf (upf (upf X 19 (fun _ => 0)) 20 (fun _ => 0)) 22 (fun _ => 0))) - 40) 0) := by rw [f_M_partF, if_neg s_1, if_neg s_13, if_neg s_14, if_neg s_15, if_neg s_17, if_neg s_18, if_neg s_19, if_pos s_20]
                  exact Or.inr (Or.inl ⟨(hereF_gt (X := (upf (upf (upf X 19 (fun _ => 0)) 20 (fun _ => 0)) 22 (fun _ => 0))) s_13), _, _, _, e⟩)
                · have e : f_M_partF X x1 x2 x3 = (f_M_partF_J160 x1 x2 x3 (upf (upf (upf (upf X 14 (fun _ => ((X 14 0) + 1))) 19 (fun _ => 0)) 20 (fun _ => 0)) 22 (fun _ => 0)) 0 ((f_M_hereF (upf (upf (upf X 19 (fun _ => 0)) 20 (fun _ => 0)) 22 (fun _ => 0))) - 40) 1) := by rw [f_M_partF, if_neg s_1, if_neg s_13, if_neg s_14, if_neg s_15, if_neg s_17, if_neg s_18, if_neg s_19, if_neg s_20]
                  exact Or.inr (Or.inl ⟨(hereF_gt (X := (upf (upf (upf X 19 (fun _ => 0)) 20 (fun _ => 0)) 22 (fun _ => 0))) s_13), _, _, _, e⟩)
theorem ptF_a {X : Nat → Nat → Int32} {x1 x2 x3 : Int32} (h : m_a X) (_ : m_t X) (_ : m_k X) : m_adv X (f_M_partF X x1 x2 x3) := by
  rcases ptF_cases X x1 x2 x3 with ⟨z4, z5, e⟩ | ⟨c, z4, z5, z6, e⟩ | ⟨c, c2, z4, z5, z6, e⟩
  · rw [e]; exact ptF_l0 h
  · rw [e]; exact m_adv_trans (m_adv_step c h) (ptF_l1 h c)
  · rw [e]; exact m_adv_trans (m_adv_step c h) (ptF_l2 h c c2)
theorem ptF_aa {X : Nat → Nat → Int32} {x1 x2 x3 : Int32} (h : m_a X) : m_adv X (f_M_partF X x1 x2 x3) := by
  rcases ptF_cases X x1 x2 x3 with ⟨z4, z5, e⟩ | ⟨c, z4, z5, z6, e⟩ | ⟨c, c2, z4, z5, z6, e⟩
  · rw [e]; exact ptF_l0 h
  · rw [e]; exact m_adv_trans (m_adv_step c h) (ptF_l1 h c)
  · rw [e]; exact m_adv_trans (m_adv_step c h) (ptF_l2 h c c2)
theorem rdF_lt8 {n : Nat} {X : Nat → Nat → Int32} (h : m_a X) (h0 : X 18 0 = 0) (c1 : X 15 0 = 0) (c2 : ¬ f_M_isWordF X = 0) : (X 14 0).toInt + 1 ≤ ((f_M_readDescriptionF_L88 (n + 1) X) 14 0).toInt := by
  have c3 : ¬ 6 ≤ X 18 0 := by rw [h0]; decide
  have c4 := isWordF_lt c2
  rw [f_M_readDescriptionF_L88, if_pos c1, if_neg c2, if_neg c3]
  have s1 := rdF_a8 n (upf (upf (upf X 14 (fun _ => ((X 14 0) + 1))) 17 (upd (X 17) ((X 18 0) : Int32).toNatClampNeg (f_M_hereF X))) 18 (fun _ => ((X 18 0) + 1))) (ma_step c4 h)
  have s2 : ((X 14 0) + 1).toInt ≤ ((f_M_readDescriptionF_L88 n (upf (upf (upf X 14 (fun _ => ((X 14 0) + 1))) 17 (upd (X 17) ((X 18 0) : Int32).toNatClampNeg (f_M_hereF X))) 18 (fun _ => ((X 18 0) + 1)))) 14 0).toInt := s1.2.2.1
  have s3 := nc_add1 c4
  omega
theorem rdF_lt10 : ∀ (n : Nat) (X : Nat → Nat → Int32), nc_mu (X 13 0) (X 14 0) < n → m_a X → X 18 0 = 0 → (f_M_readDescriptionF_L10 n X) 15 0 = 0 → (X 14 0).toInt + 1 ≤ ((f_M_readDescriptionF_L10 n X) 14 0).toInt := by
  intro n
  induction n with
  | zero => intro X hm; exact absurd hm (Nat.not_lt_zero _)
  | succ n ih =>
    intro X hm h h0
    rw [f_M_readDescriptionF_L10]
    have bad : ∀ m : Nat, ¬ (f_M_readDescriptionF_L88 m (upf X 15 (fun _ => 1))) 15 0 = 0 := by
      intro m
      rw [rdF_w15 (X := upf X 15 (fun _ => 1)) h0]
      show ¬ (1 : Int32) = 0
      decide
    split
    · split
      · intro q; exact absurd q (bad _)
      · rename_i c
        intro _
        exact rdF_lt8 (X := upf X 15 (fun _ => 0)) h h0 rfl c
    · rename_i c
      split
      · intro q
        have c4 := hereF_in c (by decide)
        have s1 := ih (upf (upf X 14 (fun _ => ((X 14 0) + 1))) 16 (fun _ => ((X 16 0) ||| ((1 : Int32) <<< (((f_M_hereF X) - 30) &&& 31))))) (nc_mu_step c4 hm) (ma_step c4 h) h0 q
        have s2 : ((X 14 0) + 1).toInt + 1 ≤ ((f_M_readDescriptionF_L10 n (upf (upf X 14 (fun _ => ((X 14 0) + 1))) 16 (fun _ => ((X 16 0) ||| ((1 : Int32) <<< (((f_M_hereF X) - 30) &&& 31)))))) 14 0).toInt := s1
        have s3 := nc_add1 c4
        omega
      · split
        · intro q; exact absurd q (bad _)
        · rename_i c2
          intro _
          exact rdF_lt8 (X := upf X 15 (fun _ => 0)) h h0 rfl c2
theorem rdF_lt {X : Nat → Nat → Int32} (h : m_a X) (hw : (f_M_readDescriptionF X) 15 0 = 0) : (X 14 0).toInt + 1 ≤ ((f_M_readDescriptionF X) 14 0).toInt := by
  unfold f_M_readDescriptionF at hw ⊢
  exact rdF_lt10 _ (upf (upf X 16 (fun _ => 0)) 18 (fun _ => 0)) (Nat.lt_succ_self _) h rfl hw
theorem ptF_lt160 {x1 x2 x3 z4 z5 : Int32} {X : Nat → Nat → Int32} (h : m_a X) (hw : (f_M_partF_J160 x1 x2 x3 X z4 z5 1) 15 0 = 0) : (X 14 0).toInt + 1 ≤ ((f_M_partF_J160 x1 x2 x3 X z4 z5 1) 14 0).toInt := by
  unfold f_M_partF_J160 at hw ⊢
  rw [if_neg (by decide)] at hw ⊢
  by_cases c : (f_M_readDescriptionF X) 15 0 = 0
  · rw [if_pos c]
    have s1 := rdF_a h
    have s2 := ptF_a213 (x1 := x1) (x2 := x2) (x3 := x3) (z4 := z4) (z5 := z5) (z7 := (f_M_fitting (f_M_readDescriptionF X) 3)) (z8 := (f_M_fitting (f_M_readDescriptionF X) 2)) (z9 := (f_M_has ((f_M_readDescriptionF X) 16 0) 1)) s1.1
    have s3 := s2.2.2.1
    have s4 := rdF_lt h c
    omega
  · rw [if_neg c] at hw
    exact absurd hw c
theorem ptF_lt {X : Nat → Nat → Int32} {x1 x2 x3 : Int32} (h : m_a X) (hw : (f_M_partF X x1 x2 x3) 15 0 = 0) : (X 14 0).toInt + 1 ≤ ((f_M_partF X x1 x2 x3) 14 0).toInt := by
  rcases ptF_cases X x1 x2 x3 with ⟨z4, z5, e⟩ | ⟨c, z4, z5, z6, e⟩ | ⟨c, c2, z4, z5, z6, e⟩
  · rw [e] at hw ⊢; exact ptF_lt160 (X := (upf (upf (upf X 19 (fun _ => 0)) 20 (fun _ => 0)) 22 (fun _ => 0))) h hw
  · rw [e]
    have s1 : ((X 14 0) + 1).toInt ≤ _ := (ptF_l1 (x1 := x1) (x2 := x2) (x3 := x3) (z4 := z4) (z5 := z5) (z6 := z6) h c).2.2.1
    have s2 := nc_add1 c
    omega
  · rw [e]
    have s1 : ((X 14 0) + 1).toInt ≤ _ := (ptF_l2 (x1 := x1) (x2 := x2) (x3 := x3) (z4 := z4) (z5 := z5) (z6 := z6) h c c2).2.2.1
    have s2 := nc_add1 c
    omega
theorem ptF_fx254 {x1 x2 x3 y4 y5 y8 y9 z10 : Int32} {X : Nat → Nat → Int32} {k : Nat} (h1 : Nat.beq k 19 = false) (h2 : Nat.beq k 20 = false) (h3 : Nat.beq k 21 = false) (h4 : Nat.beq k 22 = false) : (if (X 19 0) = 0 then (if z10 = 0 then (if x1 = 0 then (upf X 19 (fun _ => 5)) else (upf X 19 (fun _ => 5))) else (if y5 ≤ (f_bitCount z10) then (if x1 = 0 then (upf X 19 (fun _ => (X 19 0))) else (if (X 19 0) ≤ 0 then (f_M_partF_J400 x1 x2 x3 (upf X 19 (fun _ => (X 19 0))) y4 y5 y8 y9 z10) else (upf X 19 (fun _ => (X 19 0))))) else (if x1 = 0 then (upf X 19 (fun _ => 6)) else (upf X 19 (fun _ => 6))))) else (if x1 = 0 then (upf X 19 (fun _ => (X 19 0))) else (if (X 19 0) ≤ 0 then (f_M_partF_J400 x1 x2 x3 (upf X 19 (fun _ => (X 19 0))) y4 y5 y8 y9 z10) else (upf X 19 (fun _ => (X 19 0)))))) k = X k := by
  split
  · split
    · split
      · exact upf_ne h1
      · exact upf_ne h1
    · split
      · split
        · exact upf_ne h1
        · split
          · rw [ptF_fr400 h1 h2 h3 h4, upf_ne h1]
          · exact upf_ne h1
      · split
        · exact upf_ne h1
        · exact upf_ne h1
  · split
    · exact upf_ne h1
    · split
      · rw [ptF_fr400 h1 h2 h3 h4, upf_ne h1]
      · exact upf_ne h1
/-- the fields that part leaves as they are -/
def pkF (k : Nat) : Prop := (Nat.beq k 14 = false ∧ Nat.beq k 15 = false ∧ Nat.beq k 16 = false ∧ Nat.beq k 17 = false ∧ Nat.beq k 18 = false) ∧ Nat.beq k 19 = false ∧ Nat.beq k 20 = false ∧ Nat.beq k 21 = false ∧ Nat.beq k 22 = false
theorem ptF_fr254 {x1 x2 x3 y4 y5 y8 y9 : Int32} {k : Nat} (hk : pkF k) : ∀ (n : Nat) (X : Nat → Nat → Int32) (z10 : Int32), (f_M_partF_L254 x1 x2 x3 y4 y5 y8 y9 n X z10) k = X k := by
  obtain ⟨⟨k14, k15, k16, k17, k18⟩, k19, k20, k21, k22⟩ := hk
  intro n
  induction n with
  | zero => intro X z; rfl
  | succ n ih =>
    intro X z
    rw [f_M_partF_L254]
    split
    · exact ptF_fx254 k19 k20 k21 k22
    · split
      · split
        · split
          · split
            · rw [ih, upf_ne k21, upf_ne k19, rdF_fr k14 k15 k16 k17 k18, upf_ne k14]
            · rw [ih, upf_ne k21, upf_ne k19, rdF_fr k14 k15 k16 k17 k18, upf_ne k14]
          · rw [ih, rdF_fr k14 k15 k16 k17 k18, upf_ne k14]
        · rw [rdF_fr k14 k15 k16 k17 k18, upf_ne k14]
      · exact ptF_fx254 k19 k20 k21 k22
theorem ptF_fr213 {x1 x2 x3 z4 z5 z7 z8 z9 : Int32} {X : Nat → Nat → Int32} {k : Nat} (hk : pkF k) : (f_M_partF_J213 x1 x2 x3 X z4 z5 z7 z8 z9) k = X k := by
  have hk2 := hk
  obtain ⟨-, k19, k20, k21, k22⟩ := hk2
  unfold f_M_partF_J213 f_M_partF_J254
  split
  · rw [ptF_fr254 hk, upf_ne k21, upf_ne k19]
  · split
    · rw [ptF_fr254 hk, upf_ne k21, upf_ne k19]
    · rw [ptF_fr254 hk, upf_ne k21, upf_ne k19]
theorem ptF_fr160 {x1 x2 x3 z4 z5 z6 : Int32} {X : Nat → Nat → Int32} {k : Nat} (hk : pkF k) : (f_M_partF_J160 x1 x2 x3 X z4 z5 z6) k = X k := by
  have hk2 := hk
  obtain ⟨⟨k14, k15, k16, k17, k18⟩, -⟩ := hk2
  unfold f_M_partF_J160
  split
  · exact ptF_fr213 hk
  · split
    · rw [ptF_fr213 hk, rdF_fr k14 k15 k16 k17 k18]
    · exact rdF_fr k14 k15 k16 k17 k18
theorem ptF_fr {X : Nat → Nat → Int32} {x1 x2 x3 : Int32} {k : Nat} (hk : pkF k) : (f_M_partF X x1 x2 x3) k = X k := by
  have hk2 := hk
  obtain ⟨⟨k14, -⟩, k19, k20, k21, k22⟩ := hk2
  rcases ptF_cases X x1 x2 x3 with ⟨z4, z5, e⟩ | ⟨c, z4, z5, z6, e⟩ | ⟨c, c2, z4, z5, z6, e⟩
  · rw [e, ptF_fr160 hk, upf_ne k22, upf_ne k20, upf_ne k19]
  · rw [e, ptF_fr160 hk, upf_ne k22, upf_ne k20, upf_ne k19, upf_ne k14]
  · rw [e, ptF_fr160 hk, upf_ne k22, upf_ne k20, upf_ne k19, upf_ne k14]
theorem pt_tF {X : Nat → Nat → Int32} {x1 x2 x3 : Int32} (h : m_t X) : m_t (f_M_partF X x1 x2 x3) := by
  unfold m_t
  rw [ptF_fr ⟨⟨rfl, rfl, rfl, rfl, rfl⟩, rfl, rfl, rfl, rfl⟩]
  exact h
theorem pt_kF {X : Nat → Nat → Int32} {x1 x2 x3 : Int32} (h : m_k X) : m_k (f_M_partF X x1 x2 x3) := by
  unfold m_k
  rw [ptF_fr ⟨⟨rfl, rfl, rfl, rfl, rfl⟩, rfl, rfl, rfl, rfl⟩]
  exact h
