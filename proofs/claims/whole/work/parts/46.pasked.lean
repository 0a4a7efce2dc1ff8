/-! ===== members by number; asked ===== -/
theorem mb_L4 {set x : Int32} : ∀ (m i : Nat), i + m = 32 →
    (∃ t, i ≤ t ∧ t < 32 ∧ bt set t = true ∧ nI (cnt set t) = x ∧ f_NC_memberAt_L4 set x (m + 1) (nI i) (nI (cnt set i)) = nI t)
    ∨ ((∀ t, i ≤ t → t < 32 → bt set t = true → ¬ nI (cnt set t) = x) ∧ f_NC_memberAt_L4 set x (m + 1) (nI i) (nI (cnt set i)) = -1) := by
  intro m
  induction m with
  | zero =>
    intro i hi
    have e : i = 32 := by omega
    subst e
    refine Or.inr ⟨fun t t1 t2 => absurd t2 (by omega), ?_⟩
    rw [f_NC_memberAt_L4, if_pos (by decide)]
  | succ m ih =>
    intro i hi
    have c32 : ¬ (32 : Int32) ≤ nI i := nI_ge (a := i) (b := 32) (by omega) (by omega)
    have hc : cnt set (i + 1) = cnt set i + (if bt set i = true then 1 else 0) := rfl
    have q := ih (i + 1) (by omega)
    rw [f_NC_memberAt_L4, if_neg c32, nI_1, nI_1]
    by_cases c : f_NC_holds set (nI i) = 0
    · have nl : ¬ bt set i = true := fun q => by
        have := (nc_h0 (by omega)).mp c
        rw [q] at this
        exact absurd this (by decide)
      rw [if_neg nl, Nat.add_zero] at hc
      rw [if_pos c]
      rw [hc] at q
      rcases q with ⟨t, t1, t2, t3, t4, t5⟩ | ⟨q1, q2⟩
      · exact Or.inl ⟨t, by omega, t2, t3, t4, t5⟩
      · refine Or.inr ⟨fun t t1 t2 t3 => ?_, q2⟩
        rcases Nat.lt_or_ge i t with q3 | q3
        · exact q1 t q3 t2 t3
        · have e : t = i := by omega
          rw [e] at t3
          exact absurd t3 nl
    · have hl : bt set i = true := by
        cases h9 : bt set i
        · exact absurd ((nc_h0 (by omega)).mpr h9) c
        · rfl
      rw [if_pos hl] at hc
      rw [if_neg c]
      by_cases c2 : nI (cnt set i) = x
      · rw [if_pos c2]
        exact Or.inl ⟨i, Nat.le_refl _, by omega, hl, c2, rfl⟩
      · rw [if_neg c2]
        rw [hc] at q
        rcases q with ⟨t, t1, t2, t3, t4, t5⟩ | ⟨q1, q2⟩
        · exact Or.inl ⟨t, by omega, t2, t3, t4, t5⟩
        · refine Or.inr ⟨fun t t1 t2 t3 => ?_, q2⟩
          rcases Nat.lt_or_ge i t with q3 | q3
          · exact q1 t q3 t2 t3
          · have e : t = i := by omega
            rw [e]
            exact c2
theorem mb_at (set x : Int32) :
    (∃ t, t < 32 ∧ bt set t = true ∧ nI (cnt set t) = x ∧ f_NC_memberAt set x = nI t)
    ∨ ((∀ t, t < 32 → bt set t = true → ¬ nI (cnt set t) = x) ∧ f_NC_memberAt set x = -1) := by
  have e : f_NC_memberAt set x = f_NC_memberAt_L4 set x (32 + 1) (nI 0) (nI (cnt set 0)) := by
    unfold f_NC_memberAt
    rw [show nc_mu 32 0 = 32 by decide]
    rfl
  rw [e]
  rcases mb_L4 (set := set) (x := x) 32 0 (by omega) with ⟨t, t1, t2, t3, t4, t5⟩ | ⟨q1, q2⟩
  · exact Or.inl ⟨t, t2, t3, t4, t5⟩
  · exact Or.inr ⟨fun t t1 => q1 t (Nat.zero_le _) t1, q2⟩
theorem cnt_inj {x : Int32} {s t : Nat} (hs : bt x s = true) (ht : bt x t = true) (e : cnt x s = cnt x t) : s = t := by
  rcases Nat.lt_trichotomy s t with q | q | q
  · have h1 := cnt_mono x (a := s + 1) (b := t) q
    have h2 : cnt x (s + 1) = cnt x s + (if bt x s = true then 1 else 0) := rfl
    rw [if_pos hs] at h2
    omega
  · exact q
  · have h1 := cnt_mono x (a := t + 1) (b := s) q
    have h2 : cnt x (t + 1) = cnt x t + (if bt x t = true then 1 else 0) := rfl
    rw [if_pos ht] at h2
    omega
theorem cnt_hi {x : Int32} {n : Nat} (h : ∀ t, n ≤ t → t < 32 → bt x t = false) (hn : n ≤ 32) : cnt x 32 = cnt x n := by
  have : ∀ m, n ≤ m → m ≤ 32 → cnt x m = cnt x n := by
    intro m
    induction m with
    | zero => intro q _; rw [show n = 0 by omega]
    | succ m ih =>
      intro q q2
      rcases Nat.lt_or_ge n (m + 1) with q3 | q3
      · rw [cnt, ih (by omega) (by omega), h m (by omega) (by omega)]
        rfl
      · rw [show n = m + 1 by omega]
  exact this 32 hn (Nat.le_refl _)
theorem ga_L27 {S : Nat → Nat → Nat → Int32} {X : Nat → Nat → Int32} (h : RT (S 1) X) {n : Nat} (hn : n ≤ 32) (en : X 1 0 = nI n) {x1 : Int32} {t : Nat} (ht : t < n) : ∀ (m i : Nat) (a : Int32), i + m = n → ∀ u, u < 32 → (bt (f_NC_groupAt_L27 S x1 (nI t) (m + 1) (nI i) a) u = true ↔ (bt a u = true ∨ (i ≤ u ∧ u < n ∧ bt (S 0 10 0) u = true ∧ alk X t u))) := by
  have ei : (X 1 0).toInt = (n : Int) := by rw [en, nI_toInt (by omega)]
  intro m
  induction m with
  | zero =>
    intro i a hi u hu
    rw [f_NC_groupAt_L27, h.2.1, en, if_pos (nI_le (by omega) (by omega))]
    exact ⟨Or.inl, fun q => q.elim id (fun q => absurd q.2.1 (by omega))⟩
  | succ m ih =>
    intro i a hi u hu
    have skip : (¬ (bt (S 0 10 0) i = true ∧ alk X t i)) → ((bt a u = true ∨ (i + 1 ≤ u ∧ u < n ∧ bt (S 0 10 0) u = true ∧ alk X t u)) ↔ (bt a u = true ∨ (i ≤ u ∧ u < n ∧ bt (S 0 10 0) u = true ∧ alk X t u))) := by
      intro hx
      refine or_congr Iff.rfl ⟨fun q => ⟨by omega, q.2⟩, fun q => ⟨?_, q.2⟩⟩
      rcases Nat.lt_or_ge i u with q3 | q3
      · exact q3
      · have e : u = i := by omega
        rw [e] at q
        exact absurd ⟨q.2.2.1, q.2.2.2⟩ hx
    rw [f_NC_groupAt_L27, h.2.1, en, if_neg (nI_ge (by omega) (by omega)), nI_1]
    by_cases c : f_NC_holds (S 0 10 0) (nI i) = 0
    · rw [if_pos c, ih (i + 1) a (by omega) u hu]
      exact skip (fun q => by rw [(nc_h0 (by omega)).mp c] at q; exact absurd q.1 (by decide))
    · rw [if_neg c]
      by_cases c2 : f_Things_areAlike (S 1) (nI t) (nI i) = 0
      · rw [if_pos c2, ih (i + 1) a (by omega) u hu]
        exact skip (fun q => (t_alk h (by omega) (by omega)).mp c2 q.2)
      · rw [if_neg c2, ih (i + 1) _ (by omega) u hu, b_or, b_sh1 (by omega) hu, Bool.or_eq_true, decide_eq_true_eq]
        have b1 : bt (S 0 10 0) i = true := by
          cases hb : bt (S 0 10 0) i
          · exact absurd ((nc_h0 (by omega)).mpr hb) c
          · rfl
        have b2 : alk X t i := by
          rcases Classical.em (alk X t i) with q | q
          · exact q
          · exact absurd ((t_alk h (by omega) (by omega)).mpr q) c2
        constructor
        · rintro ((q | q) | q)
          · exact Or.inl q
          · rw [q]
            exact Or.inr ⟨Nat.le_refl _, by omega, b1, b2⟩
          · exact Or.inr ⟨by omega, q.2⟩
        · rintro (q | q)
          · exact Or.inl (Or.inl q)
          · rcases Nat.lt_or_ge i u with q3 | q3
            · exact Or.inr ⟨q3, q.2⟩
            · exact Or.inl (Or.inr (by omega))
/-- the component's group is the reference's -/
theorem e_group {S : Nat → Nat → Nat → Int32} {X : Nat → Nat → Int32} (h : RT (S 1) X) {n : Nat} (hn : n ≤ 32) (en : X 1 0 = nI n) (he : S 0 10 0 = X 29 0) (x1 : Int32) :
    f_NC_groupAt S x1 = (f_M_groupOf X (X 29 0) x1).1 ∧ (¬ (f_M_groupOf X (X 29 0) x1).1 = 0 → (f_M_groupOf X (X 29 0) x1).2 = X) ∧ (∀ u, u < 32 → bt (f_M_groupOf X (X 29 0) x1).1 u = true → u < n) ∧ ((f_M_groupOf X (X 29 0) x1).2 = X ∨ ∃ z, (f_M_groupOf X (X 29 0) x1).2 = upf X 38 (fun _ => z)) := by
  have hL := ld_all h hn en (S 0 10 0)
  have hL' := hL
  rw [he] at hL'
  have nz : ∀ {t : Nat} {G : Int32}, t < n → IsG X (X 29 0) n t G → ¬ G = 0 := by
    intro t G ht hG q
    have := (hG t (by omega)).mpr (Or.inl rfl)
    rw [q, b_0] at this
    exact absurd this (by decide)
  unfold f_NC_groupAt
  rw [he]
  rcases g_of hn en x1 hL' with ⟨t, G, t2, t3, t4, t5, t6⟩ | ⟨q1, q2⟩
  · have hm : f_NC_memberAt (f_NC_leadersOf S (X 29 0)) x1 = nI t := by
      rcases mb_at (f_NC_leadersOf S (X 29 0)) x1 with ⟨s, s1, s2, s3, s4⟩ | ⟨k1, k2⟩
      · have e1 : cnt (f_NC_leadersOf S (X 29 0)) s = cnt (f_NC_leadersOf S (X 29 0)) t := by
          have l1 := cnt_le (f_NC_leadersOf S (X 29 0)) s
          have l2 := cnt_le (f_NC_leadersOf S (X 29 0)) t
          exact (nI_eq (by omega) (by omega)).mp (s3.trans t4.symm)
        rw [s4, cnt_inj s2 t3 e1]
      · exact absurd t4 (k1 t (by omega) t3)
    have hl := ((hL' t (by omega)).mp t3).2
    rw [t6]
    refine ⟨?_, fun _ => rfl, ?_, Or.inl rfl⟩
    · show _ = G
      rw [hm, if_neg (by
        intro q
        have e1 := congrArg Int32.toInt q
        rw [nI_toInt (by omega), show (-1 : Int32).toInt = -1 by decide] at e1
        omega), h.2.1, en, mu_n0 (by omega)]
      apply b_ext
      intro u hu
      have k := ga_L27 h hn en (x1 := x1) t2 n 0 ((1 : Int32) <<< (nI t &&& 31)) (by omega) u hu
      rw [nI_0, b_sh1 (by omega) hu, decide_eq_true_eq, he] at k
      apply Bool.eq_iff_iff.mpr
      rw [k, t5 u hu]
      refine ⟨?_, ?_⟩
      · rintro (q | ⟨_, q2, q3, q4⟩)
        · exact Or.inl q
        · rcases Nat.lt_trichotomy u t with q | q | q
          · exact absurd (alk_symm q4) (hl.2 u q q3)
          · exact Or.inl q
          · exact Or.inr ⟨q, q2, q3, q4⟩
      · rintro (q | ⟨_, q2, q3, q4⟩)
        · exact Or.inl q
        · exact Or.inr ⟨Nat.zero_le _, q2, q3, q4⟩
    · intro u hu q
      rcases (t5 u hu).mp q with q | q
      · omega
      · exact q.2.1
  · have hm : f_NC_memberAt (f_NC_leadersOf S (X 29 0)) x1 = -1 := by
      rcases mb_at (f_NC_leadersOf S (X 29 0)) x1 with ⟨s, s1, s2, s3, s4⟩ | ⟨k1, k2⟩
      · exact absurd s3 (q1 s ((hL' s s1).mp s2).1 s2)
      · exact k2
    rw [q2, if_pos hm]
    exact ⟨rfl, fun k => absurd rfl k, fun u hu q => absurd q (by show ¬ bt 0 u = true; rw [b_0]; decide), Or.inr ⟨_, rfl⟩⟩
theorem as_L56 {X : Nat → Nat → Int32} {n : Nat} (hn : n ≤ 32) (en : X 1 0 = nI n) {x1 x2 G : Int32} : ∀ (m i : Nat), i + m = n →
    (∃ t, i ≤ t ∧ t < n ∧ bt G t = true ∧ nI (cnt G t) = x2 ∧ f_M_asked_L56 x1 x2 G (m + 1) X (nI i) (nI (cnt G i)) = (nI t, X))
    ∨ ((∀ t, i ≤ t → t < n → bt G t = true → ¬ nI (cnt G t) = x2) ∧ f_M_asked_L56 x1 x2 G (m + 1) X (nI i) (nI (cnt G i)) = (if x2 = -1 then nI (cnt G n) else -1, X)) := by
  intro m
  induction m with
  | zero =>
    intro i hi
    have e : i = n := by omega
    subst e
    refine Or.inr ⟨fun t t1 t2 => absurd t2 (by omega), ?_⟩
    rw [f_M_asked_L56, en, if_pos (nI_le (by omega) (by omega))]
    by_cases c : x2 = -1
    · rw [if_pos c, if_pos c]
    · rw [if_neg c, if_neg c]
  | succ m ih =>
    intro i hi
    have hc : cnt G (i + 1) = cnt G i + (if bt G i = true then 1 else 0) := rfl
    have q := ih (i + 1) (by omega)
    rw [f_M_asked_L56, en, if_neg (nI_ge (by omega) (by omega)), nI_1, nI_1]
    by_cases c : f_M_has G (nI i) = 0
    · have nl : ¬ bt G i = true := fun q => by
        have := (m_h0 (by omega)).mp c
        rw [q] at this
        exact absurd this (by decide)
      rw [if_neg nl, Nat.add_zero] at hc
      rw [if_pos c]
      rw [hc] at q
      rcases q with ⟨t, t1, t2, t3, t4, t5⟩ | ⟨q1, q2⟩
      · exact Or.inl ⟨t, by omega, t2, t3, t4, t5⟩
      · refine Or.inr ⟨fun t t1 t2 t3 => ?_, q2⟩
        rcases Nat.lt_or_ge i t with q3 | q3
        · exact q1 t q3 t2 t3
        · have e : t = i := by omega
          rw [e] at t3
          exact absurd t3 nl
    · have hl : bt G i = true := by
        cases h9 : bt G i
        · exact absurd ((m_h0 (by omega)).mpr h9) c
        · rfl
      rw [if_pos hl] at hc
      rw [if_neg c]
      by_cases c2 : nI (cnt G i) = x2
      · rw [if_pos c2]
        exact Or.inl ⟨i, Nat.le_refl _, by omega, hl, c2, rfl⟩
      · rw [if_neg c2]
        rw [hc] at q
        rcases q with ⟨t, t1, t2, t3, t4, t5⟩ | ⟨q1, q2⟩
        · exact Or.inl ⟨t, by omega, t2, t3, t4, t5⟩
        · refine Or.inr ⟨fun t t1 t2 t3 => ?_, q2⟩
          rcases Nat.lt_or_ge i t with q3 | q3
          · exact q1 t q3 t2 t3
          · have e : t = i := by omega
            rw [e]
            exact c2
theorem nI_neg {k : Nat} {x : Int32} (hk : k < 2 ^ 31) (hx : x.toInt < 0) : ¬ nI k = x := by
  intro q
  have e1 := congrArg Int32.toInt q
  rw [nI_toInt hk] at e1
  omega
theorem r_asked (S : Nat → Nat → Nat → Int32) (X : Nat → Nat → Int32) (x1 x2 : Int32) (h : Rel S X) : f_NC_asked S x1 x2 = (f_M_asked X x1 x2).1 ∧ Rel S (f_M_asked X x1 x2).2 := by
  obtain ⟨n, hn, en, _⟩ := th_n h.1
  have he := h.2.2.2.2.1.1
  have em : (-1 : Int32).toInt = -1 := by decide
  have e0 : (0 : Int32).toInt = 0 := by decide
  have R1 : ∀ z, Rel S (upf (upf X 0 (fun _ => 0)) 38 (fun _ => z)) := fun z => h
  have hX : RT (S 1) (upf X 0 (fun _ => 0)) := h.1
  have hL : IsL (upf X 0 (fun _ => 0)) (X 29 0) n (f_NC_leadersOf S (S 0 10 0)) := by
    have := ld_all hX hn en (S 0 10 0)
    rw [he] at this ⊢
    exact this
  have none99 : ∀ g : Int32, g.toInt < 0 ∨ 32 < g.toInt → f_M_groupOf (upf X 0 (fun _ => 0)) (X 29 0) g = (0, upf (upf X 0 (fun _ => 0)) 38 (fun _ => nI (cnt (f_NC_leadersOf S (S 0 10 0)) n))) := by
    intro g hg
    rcases g_of (X := upf X 0 (fun _ => 0)) hn en g hL with ⟨t, G, t2, t3, t4, t5, t6⟩ | ⟨q1, q2⟩
    · have l := cnt_le (f_NC_leadersOf S (S 0 10 0)) t
      have e1 := congrArg Int32.toInt t4
      rw [nI_toInt (by omega)] at e1
      omega
    · exact q2
  unfold f_NC_asked f_M_asked
  by_cases c1 : x1 = -1
  · rw [if_pos c1, if_neg (by rw [Int32.le_iff_toInt_le, c1]; decide), if_pos c1, none99 99 (Or.inr (by decide)), e_bc]
    refine ⟨?_, R1 _⟩
    show nI (cnt (f_NC_leadersOf S (S 0 10 0)) 32) = nI (cnt (f_NC_leadersOf S (S 0 10 0)) n)
    rw [cnt_hi (fun t t1 t2 => ?_) hn]
    cases hb : bt (f_NC_leadersOf S (S 0 10 0)) t
    · rfl
    · exact absurd ((hL t t2).mp hb).1 (by omega)
  · rw [if_neg c1, if_neg c1, if_neg c1]
    obtain ⟨g1, g2, g3, g4⟩ := e_group (X := upf X 0 (fun _ => 0)) hX hn en he x1
    have g1' : f_NC_groupAt S x1 = (f_M_groupOf (upf X 0 (fun _ => 0)) (X 29 0) x1).1 := g1
    have RG : ∀ Y, (Y = upf X 0 (fun _ => 0) ∨ ∃ z, Y = upf (upf X 0 (fun _ => 0)) 38 (fun _ => z)) → Rel S Y := by
      rintro Y (q | ⟨z, q⟩)
      · rw [q]
        exact Rel_0 h
      · rw [q]
        exact R1 z
    by_cases c2 : 0 ≤ x1
    · have d2 : 0 ≤ x1.toInt := by
        rw [Int32.le_iff_toInt_le, e0] at c2
        exact c2
      rw [if_pos c2, g1']
      by_cases c3 : (f_M_groupOf (upf X 0 (fun _ => 0)) (X 29 0) x1).1 = 0
      · rw [if_pos c3, if_pos c3]
        exact ⟨rfl, RG _ g4⟩
      · have c9 : ¬ x1 < (-1) := by
          rw [Int32.lt_iff_toInt_lt]
          omega
        rw [if_neg c3, if_neg c3, if_neg c9]
        have g5 : (f_M_groupOf (upf X 0 (fun _ => 0)) (X 29 0) x1).2 = upf X 0 (fun _ => 0) := g2 c3
        rw [g5]
        have g3' : ∀ u, u < 32 → bt (f_M_groupOf (upf X 0 (fun _ => 0)) (X 29 0) x1).1 u = true → u < n := g3
        generalize (f_M_groupOf (upf X 0 (fun _ => 0)) (X 29 0) x1).1 = G at *
        have eL : f_M_asked_L56 x1 x2 G (nc_mu ((upf X 0 (fun _ => 0)) 1 0) 0 + 1) (upf X 0 (fun _ => 0)) 0 0 = f_M_asked_L56 x1 x2 G (n + 1) (upf X 0 (fun _ => 0)) (nI 0) (nI (cnt G 0)) := by
          show f_M_asked_L56 x1 x2 G (nc_mu (X 1 0) 0 + 1) (upf X 0 (fun _ => 0)) 0 0 = _
          rw [en, mu_n0 (by omega)]
          rfl
        have k := as_L56 (X := upf X 0 (fun _ => 0)) hn en (x1 := x1) (x2 := x2) (G := G) n 0 (by omega)
        by_cases c4 : x2 = -1
        · have c10 : (-1) ≤ x2 := by
            rw [c4]
            decide
          rw [if_pos c4, if_pos c10, eL]
          rcases k with ⟨t, t1, t2, t3, t4, t5⟩ | ⟨q1, q2⟩
          · have l := cnt_le G t
            exact absurd t4 (nI_neg (by omega) (by rw [c4]; decide))
          · rw [q2, if_pos c4, e_bc]
            refine ⟨?_, Rel_0 h⟩
            show nI (cnt G 32) = nI (cnt G n)
            rw [cnt_hi (fun t t1 t2 => ?_) hn]
            cases hb : bt G t
            · rfl
            · exact absurd (g3' t t2 hb) (by omega)
        · rw [if_neg c4]
          by_cases c5 : (-1) ≤ x2
          · rw [if_pos c5, eL]
            rcases k with ⟨t, t1, t2, t3, t4, t5⟩ | ⟨q1, q2⟩
            · rw [t5]
              refine ⟨?_, Rel_0 h⟩
              show f_NC_memberAt G x2 = nI t
              rcases mb_at G x2 with ⟨s, s1, s2, s3, s4⟩ | ⟨k1, k2⟩
              · have l1 := cnt_le G s
                have l2 := cnt_le G t
                rw [s4, cnt_inj s2 t3 ((nI_eq (by omega) (by omega)).mp (s3.trans t4.symm))]
              · exact absurd t4 (k1 t (by omega) t3)
            · rw [q2, if_neg c4]
              refine ⟨?_, Rel_0 h⟩
              show f_NC_memberAt G x2 = -1
              rcases mb_at G x2 with ⟨s, s1, s2, s3, s4⟩ | ⟨k1, k2⟩
              · exact absurd s3 (q1 s (Nat.zero_le _) (g3' s s1 s2) s2)
              · exact k2
          · rw [if_neg c5]
            refine ⟨?_, Rel_0 h⟩
            show f_NC_memberAt G x2 = -1
            rcases mb_at G x2 with ⟨s, s1, s2, s3, s4⟩ | ⟨k1, k2⟩
            · have l1 := cnt_le G s
              exact absurd s3 (nI_neg (by omega) (by rw [Int32.le_iff_toInt_le] at c5; omega))
            · exact k2
    · have d2 : x1.toInt < 0 := by
        rw [Int32.le_iff_toInt_le, e0] at c2
        omega
      rw [if_neg c2, if_pos (show f_NC_groupAt S x1 = 0 by rw [g1', none99 x1 (Or.inl d2)]), none99 99 (Or.inr (by decide)), if_pos rfl]
      exact ⟨rfl, R1 _⟩
