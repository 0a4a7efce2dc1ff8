/-! ===== the methods that tell of things one by one ===== -/
theorem one0 : ¬ (1 : Int32) = 0 := by decide
theorem nb {k j : Nat} (h : k ≠ j) : Nat.beq k j = false := by
  cases e : Nat.beq k j
  · rfl
  · exact absurd (Nat.eq_of_beq_eq_true e) h
theorem le_lt {a b x : Int32} (h : b.toInt = a.toInt + 1) : (b ≤ x) ↔ (a < x) := by
  rw [Int32.le_iff_toInt_le, Int32.lt_iff_toInt_lt]
  omega
theorem lt_nle {a x : Int32} : (a < x) ↔ ¬ (x ≤ a) := by
  rw [Int32.le_iff_toInt_le, Int32.lt_iff_toInt_lt]
  omega
theorem e_in {x lo hi : Int32} : f_M_in x lo hi = if lo.toInt ≤ x.toInt ∧ x.toInt ≤ hi.toInt then 1 else 0 := by
  unfold f_M_in
  by_cases c : x < lo
  · rw [if_pos c, if_neg (by rw [Int32.lt_iff_toInt_lt] at c; omega)]
  · rw [if_neg c]
    by_cases c2 : hi < x
    · rw [if_pos c2, if_neg (by rw [Int32.lt_iff_toInt_lt] at c2; omega)]
    · rw [if_neg c2, if_pos (by rw [Int32.lt_iff_toInt_lt] at c c2; omega)]
theorem in_1 {x lo hi : Int32} (h : lo.toInt ≤ x.toInt ∧ x.toInt ≤ hi.toInt) : f_M_in x lo hi = 1 := by rw [e_in, if_pos h]
theorem in_0 {x lo hi : Int32} (h : ¬ (lo.toInt ≤ x.toInt ∧ x.toInt ≤ hi.toInt)) : f_M_in x lo hi = 0 := by rw [e_in, if_neg h]
theorem in_of {x lo hi : Int32} (h : ¬ f_M_in x lo hi = 0) : lo.toInt ≤ x.toInt ∧ x.toInt ≤ hi.toInt := by
  rcases Classical.em (lo.toInt ≤ x.toInt ∧ x.toInt ≤ hi.toInt) with q | q
  · exact q
  · exact absurd (in_0 q) h
theorem in_no {x lo hi : Int32} (h : f_M_in x lo hi = 0) : ¬ (lo.toInt ≤ x.toInt ∧ x.toInt ≤ hi.toInt) := fun q => one0 ((in_1 q).symm.trans h)
theorem e_isWord (x : Int32) : f_NC_isWord x = f_M_in x 0 29 := by
  unfold f_NC_isWord f_M_in
  by_cases c : x < 0
  · rw [if_pos c, if_pos c]
  · rw [if_neg c, if_neg c]
    by_cases c2 : (29 : Int32) < x
    · rw [if_pos c2, if_pos ((le_lt (by decide)).mpr c2)]
    · rw [if_neg c2, if_neg (fun k => c2 ((le_lt (by decide)).mp k))]
theorem e_isKind (x : Int32) : f_Things_isKind x = f_M_in x 0 15 := by
  unfold f_Things_isKind f_M_in
  by_cases c : x < 0
  · rw [if_pos c, if_pos c]
  · rw [if_neg c, if_neg c]
    by_cases c2 : (15 : Int32) < x
    · rw [if_pos c2, if_pos ((le_lt (by decide)).mpr c2)]
    · rw [if_neg c2, if_neg (fun k => c2 ((le_lt (by decide)).mp k))]
theorem e_isRule (x : Int32) : f_Things_isRule x = f_M_in x 0 3 := by
  unfold f_Things_isRule f_M_in
  by_cases c : x < 0
  · rw [if_pos c, if_pos c]
  · rw [if_neg c, if_neg c]
    by_cases c2 : (3 : Int32) < x
    · rw [if_pos c2, if_pos ((le_lt (by decide)).mpr c2)]
    · rw [if_neg c2, if_neg (fun k => c2 ((le_lt (by decide)).mp k))]
theorem e_isArticle (x : Int32) : f_NC_isArticle x = f_M_in x 30 33 := rfl
theorem e_isNumber (x : Int32) : f_NC_isNumber x = f_M_in x 41 60 := by
  have e1 : (41 : Int32).toInt = 41 := by decide
  have e2 : (40 : Int32).toInt = 40 := by decide
  unfold f_NC_isNumber f_M_in
  by_cases c : x < 41
  · have c2 : x ≤ 40 := by
      rw [Int32.lt_iff_toInt_lt] at c
      rw [Int32.le_iff_toInt_le]
      omega
    rw [if_pos c, if_pos c2]
  · have c2 : ¬ x ≤ 40 := by
      rw [Int32.lt_iff_toInt_lt] at c
      rw [Int32.le_iff_toInt_le]
      omega
    rw [if_neg c, if_neg c2]
theorem rng {x : Int32} {N : Int} (c : 0 ≤ x.toInt ∧ x.toInt < N) : ∃ j : Nat, (j : Int) < N ∧ x = nI j ∧ j < 2 ^ 31 := ⟨x.toInt.toNat, by omega, nI_of0 c.1, by have := Int32.toInt_lt x; omega⟩
theorem t_has {T X : Nat → Nat → Int32} (h : RT T X) (x : Int32) : f_Things_has T x = if 0 ≤ x.toInt ∧ x.toInt < (X 1 0).toInt then 1 else 0 := by
  have ht := h.2.2.1
  have e0 : (0 : Int32).toInt = 0 := by decide
  have e32 : (32 : Int32).toInt = 32 := by decide
  obtain ⟨t1, t2⟩ := ht
  unfold f_Things_has
  rw [h.2.1]
  by_cases c : x < 0
  · rw [if_pos c, if_neg (by rw [Int32.lt_iff_toInt_lt] at c; omega)]
  · rw [if_neg c]
    by_cases c2 : X 1 0 ≤ x
    · rw [if_pos c2, if_neg (by rw [Int32.le_iff_toInt_le] at c2; omega)]
    · have c3 : ¬ (32 : Int32) ≤ x := by
        rw [Int32.le_iff_toInt_le] at c2 ⊢
        omega
      rw [if_neg c2, if_neg c3, if_pos (by rw [Int32.lt_iff_toInt_lt] at c; rw [Int32.le_iff_toInt_le] at c2; omega)]
theorem t_has1 {T X : Nat → Nat → Int32} (h : RT T X) {x : Int32} (c : 0 ≤ x.toInt ∧ x.toInt < (X 1 0).toInt) : f_Things_has T x = 1 := by rw [t_has h, if_pos c]
theorem t_has0 {T X : Nat → Nat → Int32} (h : RT T X) {x : Int32} (c : ¬ (0 ≤ x.toInt ∧ x.toInt < (X 1 0).toInt)) : f_Things_has T x = 0 := by rw [t_has h, if_neg c]
theorem m_sub1 {X : Nat → Nat → Int32} (h : m_t X) : (X 1 0 - 1).toInt = (X 1 0).toInt - 1 := by
  obtain ⟨t1, t2⟩ := h
  rw [Int32.toInt_sub, show (1 : Int32).toInt = 1 by decide, Int.bmod_eq_of_le (by omega) (by omega)]
theorem m_no {X : Nat → Nat → Int32} (h : m_t X) (x : Int32) : f_M_noThing X x = if 0 ≤ x.toInt ∧ x.toInt < (X 1 0).toInt then 0 else 1 := by
  unfold f_M_noThing
  rw [e_in, m_sub1 h, show (0 : Int32).toInt = 0 by decide]
  by_cases c : 0 ≤ x.toInt ∧ x.toInt < (X 1 0).toInt
  · have q : 0 ≤ x.toInt ∧ x.toInt ≤ (X 1 0).toInt - 1 := by omega
    rw [if_pos c, if_pos q, if_neg one0]
  · have q : ¬ (0 ≤ x.toInt ∧ x.toInt ≤ (X 1 0).toInt - 1) := by omega
    rw [if_neg c, if_neg q, if_pos rfl]
theorem m_no0 {X : Nat → Nat → Int32} (h : m_t X) {x : Int32} (c : 0 ≤ x.toInt ∧ x.toInt < (X 1 0).toInt) : f_M_noThing (upf X 0 (fun _ => 0)) x = 0 := by
  show f_M_noThing X x = 0
  rw [m_no h, if_pos c]
theorem m_no1 {X : Nat → Nat → Int32} (h : m_t X) {x : Int32} (c : ¬ (0 ≤ x.toInt ∧ x.toInt < (X 1 0).toInt)) : ¬ f_M_noThing (upf X 0 (fun _ => 0)) x = 0 := by
  show ¬ f_M_noThing X x = 0
  rw [m_no h, if_neg c]
  exact one0
theorem Rel_0 {S : Nat → Nat → Nat → Int32} {X : Nat → Nat → Int32} (h : Rel S X) : Rel S (upf X 0 (fun _ => 0)) := h
theorem Rel_T {S : Nat → Nat → Nat → Int32} {X X' T' : Nat → Nat → Int32} (h : Rel S X) (hT : RT T' X') (fr : ∀ k, 9 ≤ k → X' k = X k) : Rel (upr S 1 T') X' := by
  obtain ⟨_, h2, h3, h4, h5, h6, h7, h8⟩ := h
  refine ⟨hT, ?_, ?_, ?_, ?_, ?_, ?_, ?_⟩
  · show RRow (S 0) X'
    unfold RRow
    rw [fr 10 (by omega), fr 11 (by omega)]
    exact h2
  · show S 0 3 0 = X' 9 0
    rw [fr 9 (by omega)]
    exact h3
  · show RLat (S 4) X'
    unfold RLat
    rw [fr 33 (by omega), fr 31 (by omega), fr 32 (by omega)]
    exact h4
  · show RAsk (S 0) X'
    unfold RAsk
    rw [fr 29 (by omega), fr 30 (by omega)]
    exact h5
  · show RLeft (S 0) X'
    unfold RLeft
    rw [fr 28 (by omega), fr 27 (by omega)]
    exact h6
  · show RTold (S 0) X'
    unfold RTold
    rw [fr 35 (by omega), fr 36 (by omega), fr 37 (by omega)]
    exact h7
  · show RPhr (S 2) X'
    unfold RPhr
    rw [fr 24 (by omega), fr 25 (by omega), fr 26 (by omega)]
    exact h8
theorem Rel_T0 {S : Nat → Nat → Nat → Int32} {X : Nat → Nat → Int32} (h : Rel S X) : Rel (upr S 1 (S 1)) (upf X 0 (fun _ => 0)) := Rel_T h h.1 (fun k hk => upf_ne (nb (by omega)))
theorem fr2 {X : Nat → Nat → Int32} {a : Nat} {g g' : Nat → Int32} (ha : a < 9) : ∀ k, 9 ≤ k → upf (upf X 0 g) a g' k = X k := fun k hk => by
  rw [upf_ne (nb (by omega)), upf_ne (nb (by omega))]
theorem r_thing (S : Nat → Nat → Nat → Int32) (X : Nat → Nat → Int32) (h : Rel S X) : (f_NC_thing S).1 = (f_M_thing X).1 ∧ Rel (f_NC_thing S).2 (f_M_thing X).2 := by
  have hT := h.1
  obtain ⟨⟨h0, h1, h4, h5, h6⟩, h7, ⟨t1, t2⟩, hj, hk, mk, hm, hw⟩ := hT
  have e32 : (32 : Int32).toInt = 32 := by decide
  show (f_Things_add (S 1)).1 = _ ∧ Rel (upr S 1 (f_Things_add (S 1)).2) _
  by_cases c : X 1 0 = 32
  · have kA : f_Things_add (S 1) = (-3, S 1) := by
      unfold f_Things_add
      rw [h7, c, if_neg (by decide)]
    have kB : f_M_thing X = (-3, upf X 0 (fun _ => 0)) := by
      unfold f_M_thing
      rw [if_pos c]
    rw [kA, kB]
    exact ⟨rfl, Rel_T0 h⟩
  · have c1 : (X 1 0).toInt < 32 := by
      rcases Int.lt_or_le (X 1 0).toInt 32 with q | q
      · exact q
      · exact absurd (Int32.toInt_inj.mp (by omega : (X 1 0).toInt = (32 : Int32).toInt)) c
    have kA : f_Things_add (S 1) = (((S 1 7 0) + 1) - 1, upf (S 1) 7 (fun _ => (S 1 7 0) + 1)) := by
      unfold f_Things_add
      rw [if_pos (by rw [h7, Int32.lt_iff_toInt_lt]; omega)]
    have kB : f_M_thing X = ((((X 1 0) + 1) - 1), (upf (upf (upf (upf X 0 (fun _ => 0)) 1 (fun _ => ((X 1 0) + 1))) 4 (upd (X 4) ((X 1 0) : Int32).toNatClampNeg (-1))) 5 (upd (X 5) ((X 1 0) : Int32).toNatClampNeg 1))) := by
      unfold f_M_thing
      rw [if_neg c]
    rw [kA, kB]
    obtain ⟨n, n1, en, n2⟩ := rng (N := 32) ⟨t1, c1⟩
    have n3 : n < 32 := by omega
    have ea : (X 1 0).toInt = (n : Int) := by rw [en, nI_toInt n2]
    have es : ((X 1 0) + 1).toInt = (n : Int) + 1 := by
      rw [en, nI_1, nI_toInt (by omega)]
      omega
    have ec : (X 1 0).toNatClampNeg = n := by rw [en, nI_clamp n2]
    refine ⟨by show ((S 1 7 0) + 1) - 1 = _; rw [h7], Rel_T h ⟨⟨h0, h1, h4, h5, h6⟩, ?_, ?_, ?_, ?_, ?_, hm, hw⟩ ?_⟩
    · show (S 1 7 0) + 1 = (X 1 0) + 1
      rw [h7]
    · show 0 ≤ ((X 1 0) + 1).toInt ∧ ((X 1 0) + 1).toInt ≤ 32
      omega
    · show ∀ j : Nat, (j : Int) < ((X 1 0) + 1).toInt → S 1 2 j = upd (X 4) (X 1 0).toNatClampNeg (-1) j ∧ S 1 3 j = upd (X 5) (X 1 0).toNatClampNeg 1 j ∧ -1 ≤ (upd (X 4) (X 1 0).toNatClampNeg (-1) j).toInt
      rw [es, ec]
      intro j hjn
      by_cases e : j = n
      · subst e
        rw [pk_us, pk_us]
        have q := hk j (by omega) n3
        exact ⟨q.1, q.2, by decide⟩
      · rw [pk_un e, pk_un e]
        exact hj j (by omega)
    · show ∀ j : Nat, ((X 1 0) + 1).toInt ≤ (j : Int) → j < 32 → S 1 2 j = -1 ∧ S 1 3 j = 1
      intro j q1 q2
      exact hk j (by omega) q2
    · show ∀ j : Nat, (upd (X 4) (X 1 0).toNatClampNeg (-1) j).toInt < 16
      intro j
      by_cases e : j = (X 1 0).toNatClampNeg
      · rw [e, pk_us]
        decide
      · rw [pk_un e]
        exact mk j
    · intro k hk9
      show (upf (upf (upf (upf X 0 (fun _ => 0)) 1 (fun _ => ((X 1 0) + 1))) 4 (upd (X 4) ((X 1 0) : Int32).toNatClampNeg (-1))) 5 (upd (X 5) ((X 1 0) : Int32).toNatClampNeg 1)) k = X k
      rw [upf_ne (nb (by omega)), upf_ne (nb (by omega)), upf_ne (nb (by omega)), upf_ne (nb (by omega))]
theorem r_word (S : Nat → Nat → Nat → Int32) (X : Nat → Nat → Int32) (x1 x2 x3 x4 : Int32) (h : Rel S X) : (f_NC_word S x1 x2 x3 x4).1 = (f_M_word X x1 x2 x3 x4).1 ∧ Rel (f_NC_word S x1 x2 x3 x4).2 (f_M_word X x1 x2 x3 x4).2 := by
  have hT := h.1
  obtain ⟨⟨h0, h1, h4, h5, h6⟩, h7, ht, hj, hk, mk, hm, hw⟩ := hT
  show (f_Things_setWord (S 1) x1 x2 x3 x4).1 = _ ∧ Rel (upr S 1 (f_Things_setWord (S 1) x1 x2 x3 x4).2) _
  by_cases c : 0 ≤ x1.toInt ∧ x1.toInt < (X 1 0).toInt
  · by_cases c2 : f_M_in x2 0 29 = 0
    · have kA : f_Things_setWord (S 1) x1 x2 x3 x4 = (-1, S 1) := by
        unfold f_Things_setWord
        rw [t_has1 h.1 c, if_neg one0, e_isWord, if_pos c2]
      have kB : f_M_word X x1 x2 x3 x4 = (-1, upf X 0 (fun _ => 0)) := by
        unfold f_M_word
        rw [if_pos (m_no0 ht c), if_pos c2]
      rw [kA, kB]
      exact ⟨rfl, Rel_T0 h⟩
    · by_cases c3 : x3 = 0
      · by_cases c4 : x4 = 0
        · have kA : f_Things_setWord (S 1) x1 x2 x3 x4 = (((nc_ushr ((S 1 1) x1.toNatClampNeg) x2) &&& 1), (upf (S 1) 1 (upd (S 1 1) (x1 : Int32).toNatClampNeg (((S 1 1) x1.toNatClampNeg) &&& (((1 : Int32) <<< (x2 &&& 31)) ^^^ (-1)))))) := by
            unfold f_Things_setWord
            rw [t_has1 h.1 c, if_neg one0, e_isWord, if_neg c2, if_pos c3, if_pos c4]
          have kB : f_M_word X x1 x2 x3 x4 = (((nc_ushr ((X 3) x1.toNatClampNeg) x2) &&& 1), (upf (upf X 0 (fun _ => 0)) 3 (upd (X 3) (x1 : Int32).toNatClampNeg (((X 3) x1.toNatClampNeg) &&& (((1 : Int32) <<< (x2 &&& 31)) ^^^ (-1)))))) := by
            unfold f_M_word
            rw [if_pos (m_no0 ht c), if_neg c2, if_pos c3, if_pos c4]
          rw [kA, kB, h1]
          exact ⟨rfl, Rel_T h ⟨⟨h0, rfl, h4, h5, h6⟩, h7, ht, hj, hk, mk, hm, hw⟩ (fr2 (by omega))⟩
        · have kA : f_Things_setWord (S 1) x1 x2 x3 x4 = (((nc_ushr ((S 1 1) x1.toNatClampNeg) x2) &&& 1), (upf (S 1) 1 (upd (S 1 1) (x1 : Int32).toNatClampNeg (((S 1 1) x1.toNatClampNeg) ||| ((1 : Int32) <<< (x2 &&& 31)))))) := by
            unfold f_Things_setWord
            rw [t_has1 h.1 c, if_neg one0, e_isWord, if_neg c2, if_pos c3, if_neg c4]
          have kB : f_M_word X x1 x2 x3 x4 = (((nc_ushr ((X 3) x1.toNatClampNeg) x2) &&& 1), (upf (upf X 0 (fun _ => 0)) 3 (upd (X 3) (x1 : Int32).toNatClampNeg (((X 3) x1.toNatClampNeg) ||| ((1 : Int32) <<< (x2 &&& 31)))))) := by
            unfold f_M_word
            rw [if_pos (m_no0 ht c), if_neg c2, if_pos c3, if_neg c4]
          rw [kA, kB, h1]
          exact ⟨rfl, Rel_T h ⟨⟨h0, rfl, h4, h5, h6⟩, h7, ht, hj, hk, mk, hm, hw⟩ (fr2 (by omega))⟩
      · by_cases c4 : x4 = 0
        · have kA : f_Things_setWord (S 1) x1 x2 x3 x4 = (((nc_ushr ((S 1 0) x1.toNatClampNeg) x2) &&& 1), (upf (S 1) 0 (upd (S 1 0) (x1 : Int32).toNatClampNeg (((S 1 0) x1.toNatClampNeg) &&& (((1 : Int32) <<< (x2 &&& 31)) ^^^ (-1)))))) := by
            unfold f_Things_setWord
            rw [t_has1 h.1 c, if_neg one0, e_isWord, if_neg c2, if_neg c3, if_pos c4]
          have kB : f_M_word X x1 x2 x3 x4 = (((nc_ushr ((X 2) x1.toNatClampNeg) x2) &&& 1), (upf (upf X 0 (fun _ => 0)) 2 (upd (X 2) (x1 : Int32).toNatClampNeg (((X 2) x1.toNatClampNeg) &&& (((1 : Int32) <<< (x2 &&& 31)) ^^^ (-1)))))) := by
            unfold f_M_word
            rw [if_pos (m_no0 ht c), if_neg c2, if_neg c3, if_pos c4]
          rw [kA, kB, h0]
          exact ⟨rfl, Rel_T h ⟨⟨rfl, h1, h4, h5, h6⟩, h7, ht, hj, hk, mk, hm, hw⟩ (fr2 (by omega))⟩
        · have kA : f_Things_setWord (S 1) x1 x2 x3 x4 = (((nc_ushr ((S 1 0) x1.toNatClampNeg) x2) &&& 1), (upf (S 1) 0 (upd (S 1 0) (x1 : Int32).toNatClampNeg (((S 1 0) x1.toNatClampNeg) ||| ((1 : Int32) <<< (x2 &&& 31)))))) := by
            unfold f_Things_setWord
            rw [t_has1 h.1 c, if_neg one0, e_isWord, if_neg c2, if_neg c3, if_neg c4]
          have kB : f_M_word X x1 x2 x3 x4 = (((nc_ushr ((X 2) x1.toNatClampNeg) x2) &&& 1), (upf (upf X 0 (fun _ => 0)) 2 (upd (X 2) (x1 : Int32).toNatClampNeg (((X 2) x1.toNatClampNeg) ||| ((1 : Int32) <<< (x2 &&& 31)))))) := by
            unfold f_M_word
            rw [if_pos (m_no0 ht c), if_neg c2, if_neg c3, if_neg c4]
          rw [kA, kB, h0]
          exact ⟨rfl, Rel_T h ⟨⟨rfl, h1, h4, h5, h6⟩, h7, ht, hj, hk, mk, hm, hw⟩ (fr2 (by omega))⟩
  · have kA : f_Things_setWord (S 1) x1 x2 x3 x4 = (-1, S 1) := by
      unfold f_Things_setWord
      rw [t_has0 h.1 c, if_pos rfl]
    have kB : f_M_word X x1 x2 x3 x4 = (-1, upf X 0 (fun _ => 0)) := by
      unfold f_M_word
      rw [if_neg (m_no1 ht c)]
    rw [kA, kB]
    exact ⟨rfl, Rel_T0 h⟩
