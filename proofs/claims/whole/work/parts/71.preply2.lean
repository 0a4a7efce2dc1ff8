/-! ===== reply, as a whole ===== -/
theorem hw_iff {X : Nat → Nat → Int32} {f : Nat → Int32} {n t : Nat} (ht : t < 32) (hk : ∀ k, k < n → wdOk (f k)) : (ld f 0 n &&& ((X 2 t ||| X 3 t) ^^^ (-1)) = 0) ↔ ∀ k, k < n → ¬ f_M_hasWord X (nI t) (f k) = 0 := by
  have hk0 : ∀ k, k < n → wdOk (f (0 + k)) := fun k q => by
    rw [Nat.zero_add]
    exact hk k q
  have hh : ∀ k, k < n → ∀ j, j < 30 → f k = nI j → ((f_M_hasWord X (nI t) (f k) = 0) ↔ bt (X 2 t ||| X 3 t) j = false) := by
    intro k _ j hj ej
    unfold f_M_hasWord
    rw [ej, nI_clamp (by omega)]
    exact m_h0 (by omega)
  rw [b_sub]
  constructor
  · intro q k hk1 e0
    obtain ⟨j, j1, j2⟩ := wdOk_nI (hk k hk1)
    have := q j (by omega) ((b_ld n hk0 j (by omega)).mpr ⟨k, hk1, by rw [Nat.zero_add]; exact j2⟩)
    rw [(hh k hk1 j j1 j2).mp e0] at this
    exact absurd this (by decide)
  · intro q j hj hb
    obtain ⟨k, k1, k2⟩ := (b_ld n hk0 j hj).mp hb
    rw [Nat.zero_add] at k2
    obtain ⟨j', j1, j2⟩ := wdOk_nI (hk k k1)
    have ej : j = j' := (nI_eq (by omega) (by omega)).mp (k2.symm.trans j2)
    cases h9 : bt (X 2 t ||| X 3 t) j
    · exact absurd ((hh k k1 j (by omega) k2).mpr h9) (q k k1)
    · rfl
theorem reply_res (S : Nat → Nat → Nat → Int32) (X : Nat → Nat → Int32) (h : Rel S X) (ha : AskN X) : (f_NC_reply S).1 = (f_M_reply X).1 ∧ Rel (f_NC_reply S).2 (f_M_reply X).2 ∧ AskN (f_M_reply X).2 := by
  obtain ⟨h21, h22, ⟨h23, h24⟩, hok⟩ := h.2.1
  obtain ⟨a1, a2, a3, a4⟩ := h.2.2.2.2.1
  obtain ⟨n, n1, n2, n3⟩ := rng (N := 31) ⟨h23, by omega⟩
  obtain ⟨p, p1, p2, p3⟩ := rng (N := 30) ⟨a3, a4⟩
  obtain ⟨N, hN, eN, iN⟩ := th_n h.1
  have hn : n ≤ 30 := by omega
  by_cases c0 : X 29 0 = 0
  · rw [rp_a X c0]
    unfold f_NC_reply
    rw [if_pos (a1.trans c0)]
    exact ⟨rfl, Rel_0 h, ha⟩
  · have hs : S 0 2 0 = nI n := h22.trans n2
    have e11 : S 0 11 0 = nI p := (a2 c0).trans p2
    have z0 : (0 : Int32).toNatClampNeg = 0 := by decide
    have eC : f_NC_reply S = if f_NC_replyFault S = -1 then (if f_NC_leftByRow S = 0 then ((-18), f_NC_tell (upr S 0 (upf (S 0) 2 (fun _ => 0))) (nI p) (-1) (-1)) else f_NC_goThrough (upr S 0 (upf (upf (S 0) 2 (fun _ => 0)) 6 (upd ((S 0) 6) p (f_NC_leftByRow S))))) else f_NC_refuseRow S (f_NC_replyFault S) := by
      have k1 : ¬ nI p < 0 := by
        rw [Int32.lt_iff_toInt_lt, nI_toInt (by omega)]
        have e0 : (0 : Int32).toInt = 0 := by decide
        omega
      have k2 : ¬ 30 ≤ nI p := by
        rw [Int32.le_iff_toInt_le, nI_toInt (by omega)]
        have e0 : (30 : Int32).toInt = 30 := by decide
        omega
      unfold f_NC_reply
      rw [if_neg (by rw [a1]; exact c0), e11, if_neg k1, if_neg k2, nI_clamp (by omega)]
    have ref : ∀ v : Int32, f_NC_refuseRow S v = ((-11), f_NC_tell (upr S 0 (upf (S 0) 2 (fun _ => 0))) (-1) v (-1)) := fun v => rfl
    have eh : f_M_hereR (rpl1 X) = tk (X 10) n 0 := hereR_tk (X := rpl1 X) hn (by omega) n2 nI_0.symm
    have frp : ∀ k, ¬ k = 0 → ¬ k = 11 → ¬ k = 13 → ¬ k = 14 → ¬ k = 15 → (rpl1 X) k = X k := by
      intro k b1 b2 b3 b4 b5
      show (upf (upf (upf (upf (upf X 0 _) 13 _) 14 _) 15 _) 11 _) k = X k
      rw [upf_ne (nb b2), upf_ne (nb b5), upf_ne (nb b4), upf_ne (nb b3), upf_ne (nb b1)]
    by_cases c4 : 40 < tk (X 10) n 0
    · have hl := tk_40 c4
      have et : tk (X 10) n 0 = X 10 0 := tk_in hl
      have n4 : ¬ f_M_hereR (rpl1 X) ≤ 40 := by
        rw [eh, Int32.le_iff_toInt_le]
        rw [Int32.lt_iff_toInt_lt] at c4
        omega
      have isN : ¬ f_NC_isNumber (X 10 0) = 0 := by
        rw [e_isNumber]
        exact (num_40 (hok 0)).mp (by rw [et] at c4; exact c4)
      have eF : f_NC_replyFault S = if nI n = 1 then -1 else 1 := by
        unfold f_NC_replyFault
        have q : ¬ nI n = 0 := fun w => by
          have := (nI_eq (a := n) (b := 0) (by omega) (by omega)).mp (w.trans nI_0.symm)
          omega
        rw [hs, if_neg q, h21, z0, if_neg isN]
      have eL : f_NC_leftByRow S = f_NC_groupAt S ((X 10 0 - 40) - 1) := by
        unfold f_NC_leftByRow
        rw [h21, z0, if_neg isN]
      rw [rp_c X c0 n4, eC, eF, eL, eh, et]
      obtain ⟨g1, g2, g3, g4⟩ := e_group (S := S) (X := rpl1 X) h.1 hN eN a1 ((X 10 0 - 40) - 1)
      have gg : f_M_groupOf (rpl1 X) ((f_M_beginR (upf X 0 (fun _ => 0)) (X 11 0)) 29 0) ((X 10 0 - 40) - 1) = f_M_groupOf (rpl1 X) ((rpl1 X) 29 0) ((X 10 0 - 40) - 1) := rfl
      rw [gg, g1]
      generalize f_M_groupOf (rpl1 X) ((rpl1 X) 29 0) ((X 10 0 - 40) - 1) = G at g4 ⊢
      have gf : ∀ k, ¬ k = 38 → G.2 k = (rpl1 X) k := by
        intro k hk
        rcases g4 with w | ⟨z, w⟩
        · rw [w]
        · rw [w, upf_ne (nb hk)]
      have g15 : G.2 15 0 = 0 := congrFun (gf 15 (by omega)) 0
      have g13 : G.2 13 0 = nI n := (congrFun (gf 13 (by omega)) 0).trans n2
      have g14 : G.2 14 0 = 0 := congrFun (gf 14 (by omega)) 0
      have g30 : G.2 30 0 = nI p := (congrFun (gf 30 (by omega)) 0).trans p2
      have hB : Bse X (upf G.2 14 (fun _ => ((G.2 14 0) + 1))) := by
        refine ⟨fun k hk => ?_, ?_⟩
        · rw [upf_ne (nb (by omega)), gf k (by omega)]
          exact frp k (by omega) (by omega) (by omega) (by omega) (by omega)
        · exact congrFun (gf 11 (by omega)) 0
      have e01 : (0 : Int32) + 1 = 1 := by decide
      have ei1 : (1 : Int32).toInt = 1 := by decide
      unfold rpg
      rw [if_pos g15, g13, g30]
      by_cases cn : nI n = 1
      · have q : nI n ≤ G.2 14 0 + 1 := by
          rw [cn, g14, e01]
          exact Int32.le_refl _
        rw [if_pos q, if_pos cn, if_pos rfl]
        by_cases cg : G.1 = 0
        · rw [if_pos cg, if_pos cg]
          obtain ⟨t1, t2⟩ := fin_tell h ha hB (nI p) (-1) (-1)
          exact ⟨rfl, t1, t2⟩
        · rw [if_neg cg, if_neg cg, nI_clamp (by omega), nar_1]
          exact fin_go h hB (by omega) G.1
      · have q : ¬ nI n ≤ G.2 14 0 + 1 := by
          rw [g14, e01, Int32.le_iff_toInt_le, nI_toInt (by omega), ei1]
          intro w
          apply cn
          rw [show n = 1 by omega]
          rfl
        rw [if_neg q, if_neg cn, if_neg (by decide), ref, g14, e01]
        rw [g14, e01] at hB
        obtain ⟨t1, t2⟩ := fin_tell h ha hB (-1) 1 (-1)
        exact ⟨rfl, t1, t2⟩
    · have y4 : f_M_hereR (rpl1 X) ≤ 40 := by
        rw [eh, Int32.le_iff_toInt_le]
        rw [Int32.lt_iff_toInt_lt] at c4
        omega
      have e6 : nc_mu 6 0 = 6 := mu_n0 (n := 6) (by omega)
      obtain ⟨X', z', i1, i2, i3, i4, i5⟩ := l84 (f := X 10) (n := n) (N := N) hn hN 6 0 (upf (rpl1 X) 18 (fun _ => 0)) (X 29 0) (by omega) (Nat.zero_le _) rfl eN n2 nI_0.symm nI_0.symm
      have i1' : f_M_reply_L84 (6 + 1) (upf (rpl1 X) 18 (fun _ => 0)) ((f_M_beginR (upf X 0 (fun _ => 0)) (X 11 0)) 29 0) = rpx X' z' := i1
      have w6 := wd_le (f := X 10) (n := n) 6 0
      have wn := wd_n (f := X 10) (n := n) 6 0 (Nat.zero_le _)
      have wok := wd_ok (f := X 10) (n := n) 6 0
      have rf := rf_L (S := S) (f := X 10) hn h21 hs n 0 (by omega) (Nat.zero_le _)
      rw [nI_0] at rf
      have isN : 0 < n → f_NC_isNumber (X 10 0) = 0 := by
        intro hl
        rw [e_isNumber]
        rw [tk_in hl] at c4
        cases Decidable.em (f_M_in (X 10 0) 41 60 = 0) with
        | inl w => exact w
        | inr w => exact absurd ((num_40 (hok 0)).mpr w) c4
      have nI0 : ∀ k, k ≤ 30 → nI k = 0 → k = 0 := fun k hk w => (nI_eq (a := k) (b := 0) (by omega) (by omega)).mp (w.trans nI_0.symm)
      rw [rp_b X c0 y4, e6, i1', eC]
      have x13 : X' 13 0 = nI n := (congrFun (i4 13 (by omega) (by omega)) 0).trans n2
      have x30 : X' 30 0 = nI p := (congrFun (i4 30 (by omega) (by omega)) 0).trans p2
      have hB : ∀ g : Nat → Int32, Bse X (upf X' 15 g) := by
        intro g
        refine ⟨fun k hk => ?_, ?_⟩
        · rw [upf_ne (nb (by omega)), i4 k (by omega) (by omega), upf_ne (nb (by omega))]
          exact frp k (by omega) (by omega) (by omega) (by omega) (by omega)
        · exact congrFun (i4 11 (by omega) (by omega)) 0
      generalize wd (X 10) n 6 0 = w at i2 i3 i5 w6 wn wok rf
      rw [Nat.zero_add] at wn
      by_cases cw : 0 < w ∧ w = n
      · have eF : f_NC_replyFault S = -1 := by
          unfold f_NC_replyFault
          rw [hs, if_neg (fun q => by have := nI0 n hn q; omega), h21, z0, if_pos (isN (by omega)), mu_n0 (by omega), rf, if_pos cw.2]
        have eL : f_NC_leftByRow S = z' := by
          unfold f_NC_leftByRow
          have l1 := lb_L (S := S) (f := X 10) hn h21 hs n 0 (by omega)
          have l2 := s_left (S := S) h.1 hN eN (ld (X 10) 0 n) N 0 0 (by omega)
          have l0 : ld (X 10) 0 0 = 0 := rfl
          rw [nI_0, l0] at l1
          rw [nI_0] at l2
          rw [h21, z0, if_pos (isN (by omega)), hs, mu_n0 (by omega), l1, h.1.2.1, eN, mu_n0 (by omega), l2]
          apply b_ext
          intro t ht
          rw [b_mk0 hN ht, a1]
          have k5 := i5 t ht
          have hw := hw_iff (X := X) (f := X 10) (n := n) ht (fun k hk => by have := (wok k (by omega)).2; rw [Nat.zero_add] at this; exact this)
          cases hb : bt z' t
          · by_cases ct : t < N
            · rw [decide_eq_true ct, Bool.true_and]
              cases h29 : bt (X 29 0) t
              · rfl
              · rw [Bool.true_and, decide_eq_false]
                intro q
                have := k5.mpr ⟨h29, fun _ j _ hj => hw.mp q j (by omega)⟩
                rw [hb] at this
                exact absurd this (by decide)
            · rw [decide_eq_false ct]
              rfl
          · obtain ⟨v1, v2⟩ := k5.mp hb
            have ct : t < N := by
              have := ha t ht v1
              omega
            rw [decide_eq_true ct, v1, decide_eq_true (hw.mpr (fun j hj => v2 ct j (Nat.zero_le _) (by omega)))]
            rfl
        rw [eF, if_pos rfl, eL]
        unfold rpx
        have q18 : ¬ X' 18 0 = 0 := fun q => by
          have := nI0 w (by omega) (i3.symm.trans q)
          omega
        have q13 : X' 13 0 ≤ X' 14 0 := by
          rw [x13, i2, cw.2]
          exact Int32.le_refl _
        rw [if_neg q18, if_pos q13, x30]
        by_cases cz : z' = 0
        · rw [if_pos cz, if_pos cz]
          obtain ⟨t1, t2⟩ := fin_tell h ha (hB (fun _ => 0)) (nI p) (-1) (-1)
          exact ⟨rfl, t1, t2⟩
        · rw [if_neg cz, if_neg cz, nI_clamp (by omega), nar_1]
          exact fin_go h (hB (fun _ => 0)) (by omega) z'
      · have eF : f_NC_replyFault S = nI w := by
          unfold f_NC_replyFault
          rw [hs]
          by_cases cn : n = 0
          · have ew : w = 0 := by omega
            rw [cn, ew, nI_0, if_pos rfl]
          · rw [if_neg (fun q => cn (nI0 n hn q)), h21, z0, if_pos (isN (by omega)), mu_n0 (by omega), rf, if_neg (by omega)]
        rw [eF, if_neg (nI_neg (by omega) (by decide)), ref]
        unfold rpx
        by_cases c18 : X' 18 0 = 0
        · rw [if_pos c18, i2]
          obtain ⟨t1, t2⟩ := fin_tell h ha (hB (fun _ => 1)) (-1) (nI w) (-1)
          exact ⟨rfl, t1, t2⟩
        · have w0 : ¬ w = 0 := fun q => c18 (by rw [i3, q, nI_0])
          have q13 : ¬ X' 13 0 ≤ X' 14 0 := by
            rw [x13, i2, Int32.le_iff_toInt_le, nI_toInt (by omega), nI_toInt (by omega)]
            omega
          rw [if_neg c18, if_neg q13, i2]
          obtain ⟨t1, t2⟩ := fin_tell h ha (hB (fun _ => 0)) (-1) (nI w) (-1)
          exact ⟨rfl, t1, t2⟩
