/-! ===== fits ===== -/
theorem Rel_X {S : Nat → Nat → Nat → Int32} {X X' : Nat → Nat → Int32} (h : Rel S X) (fr : ∀ k, (0 < k ∧ k < 12) ∨ (23 < k ∧ k < 34) ∨ (34 < k ∧ k < 38) → X' k = X k) : Rel S X' := by
  obtain ⟨h1, h2, h3, h4, h5, h6, h7, h8⟩ := h
  refine ⟨?_, ?_, ?_, ?_, ?_, ?_, ?_, ?_⟩
  · unfold RT m_t m_k
    rw [fr 1 (by omega), fr 2 (by omega), fr 3 (by omega), fr 4 (by omega), fr 5 (by omega), fr 6 (by omega), fr 7 (by omega), fr 8 (by omega)]
    exact h1
  · unfold RRow
    rw [fr 10 (by omega), fr 11 (by omega)]
    exact h2
  · rw [fr 9 (by omega)]
    exact h3
  · unfold RLat
    rw [fr 33 (by omega), fr 31 (by omega), fr 32 (by omega)]
    exact h4
  · unfold RAsk
    rw [fr 29 (by omega), fr 30 (by omega)]
    exact h5
  · unfold RLeft
    rw [fr 28 (by omega), fr 27 (by omega)]
    exact h6
  · unfold RTold
    rw [fr 35 (by omega), fr 36 (by omega), fr 37 (by omega)]
    exact h7
  · unfold RPhr
    rw [fr 24 (by omega), fr 25 (by omega), fr 26 (by omega)]
    exact h8
theorem des_y {f : Nat → Int32} {n d a b : Nat} {P X Y : Nat → Nat → Int32} (hD : DescAt f n P d a b) (hY : rdY f n (dA f n a) (dF f n a) (dW f n a) X Y) : DesY f P Y d (dA f n a) (dW f n a) := by
  obtain ⟨d1, d2, d3, d4, d5, d6, d7⟩ := hD
  obtain ⟨y1, y2, y3, y4, y5, y6⟩ := hY
  exact ⟨d3, d4, d1, wd_le _ _, d5.trans y3.symm, d6, d7, y4, y5, fun k hk => (wd_ok _ _ k hk).2⟩
theorem tk_ne {f : Nat → Int32} {n a : Nat} (h : ¬ tk f n a = -1) : a < n := by
  rcases Nat.lt_or_ge a n with w | w
  · exact w
  · exact absurd (tk_out (by omega)) h
theorem tk_is {f : Nat → Int32} {n a : Nat} {x : Int32} (h : tk f n a = x) (hx : ¬ x = -1) : a < n := tk_ne (by rw [h]; exact hx)
theorem tk_40 {f : Nat → Int32} {n a : Nat} (h : 40 < tk f n a) : a < n := tk_ne (fun q => by rw [q] at h; exact absurd h (by decide))
theorem desc_tk {f : Nat → Int32} {n a : Nat} (hw : 0 < dW f n a) : a < n ∧ 0 ≤ (tk f n a).toInt ∧ (tk f n a).toInt ≤ 33 := by
  have e30 : (30 : Int32).toInt = 30 := by decide
  have e33 : (33 : Int32).toInt = 33 := by decide
  have e29 : (29 : Int32).toInt = 29 := by decide
  have e0 : (0 : Int32).toInt = 0 := by decide
  by_cases c : f_M_in (tk f n a) 30 33 = 0
  · by_cases c2 : f_M_in (tk f n a) 0 29 = 0
    · have := dW0 c c2
      omega
    · have q := in_of c2
      exact ⟨tk_lt (by decide) c2, by omega, by omega⟩
  · have q := in_of c
    exact ⟨tk_lt (by decide) c, by omega, by omega⟩
theorem ex_len {f : Nat → Int32} {n : Nat} : ∀ (m b : Nat), b ≤ n → (ex f n m b).1 ≤ n := by
  intro m
  induction m with
  | zero => intro b hb; exact hb
  | succ m ih =>
    intro b hb
    by_cases c : tk f n b = 35
    · have hl := tk_is c (by decide)
      by_cases cw : dW f n (b + 1) = 0
      · rw [ex_w c cw]
        exact (dA_le hl).2
      · rw [ex_s c cw]
        exact ih _ (dW_le hl)
    · rw [ex_0 c]
      exact hb
theorem pr_len {f : Nat → Int32} {n a : Nat} (ha : a ≤ n) : (pr f n a).1 ≤ n := by
  unfold pr
  by_cases c : tk f n a = 34
  · have hl := tk_is c (by decide)
    have q := hq_le (f := f) hl
    rw [if_pos c]
    by_cases cd : tk f n (a + 1) = 37 ∨ (a + 1 < n ∧ ¬ tk f n (a + 1) = 35 ∧ ¬ tk f n (a + 1) = 36)
    · rw [if_pos cd]
      by_cases cw : dW f n (hq f n (a + 1)) = 0
      · rw [if_pos cw]
        exact (dA_le q.2).2
      · rw [if_neg cw]
        exact ex_len _ _ (dW_le q.2)
    · rw [if_neg cd]
      exact ex_len _ _ hl
  · rw [if_neg c]
    by_cases c4 : 40 < tk f n a
    · have hl := tk_40 c4
      have q := hq_le (f := f) hl
      rw [if_pos c4]
      by_cases cw : dW f n (hq f n (a + 1)) = 0
      · rw [if_pos cw]
        exact (dA_le q.2).2
      · rw [if_neg cw]
        exact dW_le q.2
    · rw [if_neg c4]
      by_cases cw : dW f n a = 0
      · rw [if_pos cw]
        exact (dA_le ha).2
      · rw [if_neg cw]
        exact dW_le ha
theorem ps_len {f : Nat → Int32} {n : Nat} : ∀ (m a c : Nat), a ≤ n → (ps f n m a c).1 ≤ n := by
  intro m
  induction m with
  | zero => intro a c ha; exact ha
  | succ m ih =>
    intro a c ha
    rw [ps]
    by_cases c1 : (pr f n a).2 = false
    · rw [if_pos c1]
      exact pr_len ha
    · rw [if_neg c1]
      by_cases c2 : tk f n (pr f n a).1 = 36
      · rw [if_pos c2]
        exact ih _ _ (tk_is c2 (by decide))
      · rw [if_neg c2]
        exact pr_len ha
theorem ps_cnt {f : Nat → Int32} {n : Nat} : ∀ (m a c : Nat), c ≤ (ps f n m a c).2.2 ∧ (0 < m → c + 1 ≤ (ps f n m a c).2.2) := by
  intro m
  induction m with
  | zero => intro a c; exact ⟨Nat.le_refl _, fun q => absurd q (Nat.lt_irrefl _)⟩
  | succ m ih =>
    intro a c
    have k : c + 1 ≤ (ps f n (m + 1) a c).2.2 := by
      rw [ps]
      by_cases c1 : (pr f n a).2 = false
      · rw [if_pos c1]
        exact Nat.le_refl _
      · rw [if_neg c1]
        by_cases c2 : tk f n (pr f n a).1 = 36
        · rw [if_pos c2]
          exact (ih _ _).1
        · rw [if_neg c2]
          exact Nat.le_refl _
    exact ⟨by omega, fun _ => k⟩
theorem e_read1 {f : Nat → Int32} {n : Nat} (hn : n ≤ 30) (hok : ∀ j : Nat, okTok (f j)) (P : Nat → Nat → Int32) : ((f_Phrase_read P f (nI n)).1 = -1) ↔ (ps f n (n + 1) 0 0).2.1 = true := by
  obtain ⟨e1, e2⟩ := e_read hn hok P
  constructor
  · intro q
    cases h9 : (ps f n (n + 1) 0 0).2.1
    · have l := ps_len (f := f) (n := n) (n + 1) 0 0 (Nat.zero_le _)
      exact absurd ((e1 h9).symm.trans q) (nI_neg (by omega) (by decide))
    · rfl
  · intro q
    exact (e2 q).1
theorem rd_one {f : Nat → Int32} {n : Nat} (hn : n ≤ 30) (P : Nat → Nat → Int32) (hw : 0 < dW f n 0) (he : dA f n 0 + dW f n 0 = n) : ∃ Q, f_Phrase_read P f (nI n) = (-1, Q) ∧ Q 4 0 = 1 ∧ Q 8 0 = 1 ∧ Q 0 0 = 0 ∧ DescAt f n Q 0 0 n := by
  have e : f_Phrase_read P f (nI n) = RL f n (upf (upf (upf P 4 (fun _ => 0)) 8 (fun _ => 0)) 9 (fun _ => 0)) 0 := by
    unfold f_Phrase_read RL
    rw [mu_n0 (by omega), Nat.sub_zero, nI_0]
  obtain ⟨l, t0, t33⟩ := desc_tk hw
  rw [tk_in l] at t0 t33
  have x : ∀ c : Int32, 33 < c.toInt → ¬ f 0 = c := fun c hc q => by rw [q] at t33; omega
  have e41 : (41 : Int32).toInt = 41 := by decide
  have nn : f_M_in (f 0) 41 60 = 0 := in_0 (fun q => absurd q.1 (by omega))
  obtain ⟨Q1, q1, q2, q3, q4, q5, q6, q7⟩ := at_desc (f := f) (n := n) (k := 0) (d := 0) (a := 0) hn (by omega) (by omega) (P := upf (upf (upf P 4 (fun _ => 0)) 8 (fun _ => 0)) 9 (fun _ => 0)) rfl nI_0.symm nI_0.symm l (x 36 (by decide)) (x 35 (by decide)) (x 34 (by decide)) nn
  obtain ⟨Q, r1, r2, r3, r4, r5, r6, r7⟩ := (desc_op (f := f) (n := n) (q := 0) hn (Nat.zero_le _) q2).2 hw
  rw [he] at r1 r4 r5
  refine ⟨Q, ?_, r2, r3, ?_, r5⟩
  · rw [e, q1, r1, RL_e hn, if_neg (by rw [r4.1]; exact one0)]
  · rw [(r6.1 0 (by omega)).1]
    exact q4
theorem rd_back {f : Nat → Int32} {n : Nat} (hn : n ≤ 30) (hok : ∀ j : Nat, okTok (f j)) (P : Nat → Nat → Int32) (h1 : (f_Phrase_read P f (nI n)).1 = -1) (hd : ¬ f_Phrase_isDescription (f_Phrase_read P f (nI n)).2 = 0) : 0 < dW f n 0 ∧ dA f n 0 + dW f n 0 = n := by
  have ht := (e_read1 hn hok P).mp h1
  obtain ⟨_, k2, k3, _, k5⟩ := (e_read hn hok P).2 ht
  generalize (f_Phrase_read P f (nI n)).2 = Q at hd k3 k5
  unfold f_Phrase_isDescription at hd
  have h4 : Q 4 0 = 1 := Decidable.byContradiction (fun q => hd (by rw [if_neg q]))
  rw [if_pos h4] at hd
  have h8 : Q 8 0 = 1 := Decidable.byContradiction (fun q => hd (by rw [if_neg q]))
  rw [if_pos h8] at hd
  have h0' : Q 0 (0 : Int32).toNatClampNeg = 0 := Decidable.byContradiction (fun q => hd (by rw [if_neg q]))
  have h0 : Q 0 0 = 0 := h0'
  have hK : (ps f n (n + 1) 0 0).2.2 = 1 := (nI_eq (by omega) (by omega)).mp (k3.symm.trans h4)
  rw [hK] at k5
  obtain ⟨b, hp, _⟩ := k5
  obtain ⟨d, m, b1, p1, p2, p3⟩ := hp
  rcases p3 with ⟨_, p4, _⟩ | ⟨p4, p5, _⟩ | ⟨p4, p5, _, p6, _, _, _, p7⟩
  · rw [h0] at p4
    exact absurd p4 (by decide)
  · rw [h0] at p5
    have := sub_40 p4
    rw [← p5] at this
    exact absurd this (by decide)
  · have hw := p7.1
    have nw : ¬ dW f n 0 = 0 := by omega
    refine ⟨hw, ?_⟩
    have ep : pr f n 0 = (dA f n 0 + dW f n 0, true) := by
      unfold pr
      rw [if_neg p4, if_neg p5, if_neg nw]
    have hl := (desc_tk hw).1
    rw [ps, ep, if_neg (show ¬ ((dA f n 0 + dW f n 0, true) : Nat × Bool).2 = false from fun q => Bool.noConfusion q)] at ht hK
    by_cases c36 : tk f n (dA f n 0 + dW f n 0, true).1 = 36
    · rw [if_pos c36] at hK
      have := (ps_cnt (f := f) (n := n) n ((dA f n 0 + dW f n 0, true) : Nat × Bool).1.succ (0 + 1)).2 (by omega)
      exact absurd hK (by show ¬ (ps f n n ((dA f n 0 + dW f n 0, true) : Nat × Bool).1.succ (0 + 1)).2.2 = 1; omega)
    · rw [if_neg c36] at ht
      exact of_decide_eq_true ht
theorem fit_4 {X : Nat → Nat → Int32} {w t : Nat} (hw : 0 < w) (hw6 : w ≤ 6) (ew : X 18 0 = nI w) (ht : t < 32) : f_M_fit X (nI t) = 0 ∨ f_M_fit X (nI t) = 1 ∨ f_M_fit X (nI t) = 2 ∨ f_M_fit X (nI t) = 3 := by
  have k := m_fit (X := X) hw hw6 ew ht
  by_cases c : (∀ k, k < w - 1 → ¬ f_M_hasWord X (nI t) (X 17 k) = 0) ∧ fok X t
  · rw [k.1 c]
    unfold fwv
    by_cases c1 : f_M_has (X 2 t) (X 17 (w - 1)) = 0
    · rw [if_pos c1]
      by_cases c2 : X 4 t < 0
      · rw [if_pos c2]
        exact Or.inl (by decide)
      · rw [if_neg c2]
        by_cases c3 : X 7 (X 4 t).toNatClampNeg = X 17 (w - 1)
        · rw [if_pos c3]
          exact Or.inr (Or.inr (Or.inl (by decide)))
        · rw [if_neg c3]
          exact Or.inl (by decide)
    · rw [if_neg c1]
      by_cases c2 : X 4 t < 0
      · rw [if_pos c2]
        exact Or.inr (Or.inl (by decide))
      · rw [if_neg c2]
        by_cases c3 : X 7 (X 4 t).toNatClampNeg = X 17 (w - 1)
        · rw [if_pos c3]
          exact Or.inr (Or.inr (Or.inr (by decide)))
        · rw [if_neg c3]
          exact Or.inr (Or.inl (by decide))
  · exact Or.inl (k.2 c)
theorem r_fits (S : Nat → Nat → Nat → Int32) (X : Nat → Nat → Int32) (x1 : Int32) (h : Rel S X) : (f_NC_fits S x1).1 = (f_M_fits X x1).1 ∧ Rel (f_NC_fits S x1).2 (f_M_fits X x1).2 := by
  have ht := h.1.2.2.1
  obtain ⟨h21, h22, ⟨h23, h24⟩, hok⟩ := h.2.1
  obtain ⟨N, hN, eN, iN⟩ := th_n h.1
  unfold f_NC_fits f_M_fits
  by_cases c : 0 ≤ x1.toInt ∧ x1.toInt < (X 1 0).toInt
  · rw [t_has1 h.1 c, if_neg one0, if_pos (m_no0 ht c)]
    obtain ⟨t, t1, rfl, t2⟩ := rng c
    obtain ⟨n, n1, n2, n3⟩ := rng (N := 31) ⟨h23, by omega⟩
    have hn : n ≤ 30 := by omega
    have hY := rdR_all (X := f_M_beginR (upf X 0 (fun _ => 0)) (X 11 0)) (n := n) (a := 0) hn (by omega) n2 nI_0.symm
    have e13 : (f_M_beginR (upf X 0 (fun _ => 0)) (X 11 0)) 13 0 = nI n := n2
    have fr0 : ∀ k, ¬ k = 0 → ¬ k = 13 → ¬ k = 14 → ¬ k = 15 → (f_M_beginR (upf X 0 (fun _ => 0)) (X 11 0)) k = X k := by
      intro k k0 k13 k14 k15
      show upf (upf (upf (upf X 0 _) 13 _) 14 _) 15 _ k = X k
      rw [upf_ne (nb k15), upf_ne (nb k14), upf_ne (nb k13), upf_ne (nb k0)]
    generalize f_M_beginR (upf X 0 (fun _ => 0)) (X 11 0) = X' at hY e13 fr0 ⊢
    rw [fr0 10 (by omega) (by omega) (by omega) (by omega)] at hY
    generalize f_M_readDescriptionR X' = Y at hY ⊢
    obtain ⟨y1, y2, y3, y4, y5, y6⟩ := hY
    have rY : Rel S Y := Rel_X h (fun k hk => (y6 k (by omega)).trans (fr0 k (by omega) (by omega) (by omega) (by omega)))
    have rQ : ∀ Q, Rel (upr S 3 Q) Y := fun Q => rY
    have e13Y : Y 13 0 = nI n := by rw [y6 13 (by omega)]; exact e13
    rw [h21, h22, n2, e13Y, y1, y2]
    have lw := dW_le (f := X 10) (n := n) (a := 0) (Nat.zero_le _)
    by_cases B : 0 < dW (X 10) n 0 ∧ dA (X 10) n 0 + dW (X 10) n 0 = n
    · obtain ⟨Q, q1, q2, q3, q4, q5⟩ := rd_one hn (S 3) B.1 B.2
      have dY := des_y q5 ⟨y1, y2, y3, y4, y5, y6⟩
      have eF : ∀ w, f_NC_fittingSetD (upr S 3 Q) 0 w = f_M_fitting Y w := by
        intro w
        have k := e_fitD (S := upr S 3 Q) (Y := Y) rY.1 (f := X 10) (d := 0) dY rY.2.2.2.1.2.1 w
        rw [nI_0] at k
        exact k
      have t32 : t < 32 := by omega
      have eNY : Y 1 0 = nI N := by rw [y6 1 (by omega), fr0 1 (by omega) (by omega) (by omega) (by omega)]; exact eN
      have hb : ∀ w, (f_NC_holds (f_M_fitting Y w) (nI t) = 0) ↔ f_M_fit Y (nI t) &&& w = 0 := by
        intro w
        rw [nc_h0 t32, b_fitting hN eNY t32, decide_eq_true (by omega : t < N), Bool.true_and, Bool.not_eq_false', decide_eq_true_iff]
      have eD : f_Phrase_isDescription Q = 1 := by
        unfold f_Phrase_isDescription
        rw [if_pos q2, if_pos q3]
        exact if_pos q4
      have eR : (if (if dW (X 10) n 0 = 0 then (1 : Int32) else 0) = 0 then (if nI n ≤ nI (dA (X 10) n 0 + dW (X 10) n 0) then ((f_M_fit Y (nI t)), Y) else ((-2), Y)) else ((-2), Y)) = (((f_M_fit Y (nI t)), Y) : Int32 × (Nat → Nat → Int32)) := by
        rw [if_neg (by omega : ¬ dW (X 10) n 0 = 0), if_pos rfl, B.2, if_pos (Int32.le_refl (nI n))]
      rw [eR, q1, if_pos rfl, eD, if_neg one0, eF, eF]
      rcases fit_4 dY.2.2.1 dY.2.2.2.1 y4 t32 with v | v | v | v
      · rw [if_pos ((hb 1).mpr (by rw [v]; decide)), if_pos ((hb 2).mpr (by rw [v]; decide)), v]
        exact ⟨(by decide : (0 : Int32) ||| 0 = 0), rQ Q⟩
      · rw [if_neg (fun q => absurd ((hb 1).mp q) (by rw [v]; decide)), if_pos ((hb 2).mpr (by rw [v]; decide)), v]
        exact ⟨(by decide : (1 : Int32) ||| 0 = 1), rQ Q⟩
      · rw [if_pos ((hb 1).mpr (by rw [v]; decide)), if_neg (fun q => absurd ((hb 2).mp q) (by rw [v]; decide)), v]
        exact ⟨(by decide : (0 : Int32) ||| 2 = 2), rQ Q⟩
      · rw [if_neg (fun q => absurd ((hb 1).mp q) (by rw [v]; decide)), if_neg (fun q => absurd ((hb 2).mp q) (by rw [v]; decide)), v]
        exact ⟨(by decide : (1 : Int32) ||| 2 = 3), rQ Q⟩
    · have eR : (if (if dW (X 10) n 0 = 0 then (1 : Int32) else 0) = 0 then (if nI n ≤ nI (dA (X 10) n 0 + dW (X 10) n 0) then ((f_M_fit Y (nI t)), Y) else ((-2), Y)) else ((-2), Y)) = (((-2), Y) : Int32 × (Nat → Nat → Int32)) := by
        by_cases cw : dW (X 10) n 0 = 0
        · rw [if_pos cw, if_neg one0]
        · rw [if_neg cw, if_pos rfl, if_neg]
          rw [Int32.le_iff_toInt_le, nI_toInt (by omega), nI_toInt (by omega)]
          omega
      rw [eR]
      by_cases c1 : (f_Phrase_read (S 3) (X 10) (nI n)).1 = -1
      · rw [if_pos c1]
        by_cases c2 : f_Phrase_isDescription (f_Phrase_read (S 3) (X 10) (nI n)).2 = 0
        · rw [if_pos c2]
          exact ⟨rfl, rQ _⟩
        · exact absurd (rd_back hn hok (S 3) c1 c2) B
      · rw [if_neg c1]
        exact ⟨rfl, rQ _⟩
  · rw [t_has0 h.1 c, if_pos rfl, if_neg (m_no1 ht c)]
    exact ⟨rfl, Rel_0 h⟩
