/-! ===== like ones: leaders and groups ===== -/
theorem alk_symm {X : Nat → Nat → Int32} {a b : Nat} (h : alk X a b) : alk X b a := ⟨by rw [← h.2.1]; exact h.1, h.2.1.symm, h.2.2.1.symm, h.2.2.2.1.symm, h.2.2.2.2.1.symm, fun k hk => (h.2.2.2.2.2 k hk).symm⟩
theorem alk_trans {X : Nat → Nat → Int32} {a b c : Nat} (h : alk X a b) (g : alk X b c) : alk X a c := ⟨h.1, h.2.1.trans g.2.1, h.2.2.1.trans g.2.2.1, h.2.2.2.1.trans g.2.2.2.1, h.2.2.2.2.1.trans g.2.2.2.2.1, fun k hk => (h.2.2.2.2.2 k hk).trans (g.2.2.2.2.2 k hk)⟩
def lead (X : Nat → Nat → Int32) (set : Int32) (t : Nat) : Prop := bt set t = true ∧ ∀ u, u < t → bt set u = true → ¬ alk X u t
def IsL (X : Nat → Nat → Int32) (set : Int32) (i : Nat) (L : Int32) : Prop := ∀ t, t < 32 → (bt L t = true ↔ t < i ∧ lead X set t)
theorem lead_L {X : Nat → Nat → Int32} {set L : Int32} {i : Nat} (hi : i < 32) (h : IsL X set i L) : (∀ u, u < i → bt L u = true → ¬ alk X u i) ↔ (∀ u, u < i → bt set u = true → ¬ alk X u i) := by
  constructor
  · intro q u
    induction u using Nat.strongRecOn with
    | ind u ih =>
      intro hu hs ha
      rcases Classical.em (∃ v, v < u ∧ bt set v = true ∧ alk X v u) with k | k
      · obtain ⟨v, v1, v2, v3⟩ := k
        exact ih v v1 (by omega) v2 (alk_trans v3 ha)
      · exact q u hu ((h u (by omega)).mpr ⟨hu, hs, fun v v1 v2 v3 => k ⟨v, v1, v2, v3⟩⟩) ha
  · intro q u hu hl
    exact q u hu ((h u (by omega)).mp hl).2.1
theorem ld_L25 {S : Nat → Nat → Nat → Int32} {X : Nat → Nat → Int32} (h : RT (S 1) X) {n : Nat} (hn : n ≤ 32) (en : X 1 0 = nI n) {set L : Int32} {t : Nat} (ht : t < n) : ∀ (m i : Nat) (z : Int32), i + m = t → (z = 0 ∨ z = 1) → ((f_NC_leadersOf_L25 S set L (nI t) (m + 1) (nI i) z = 0) ↔ ¬ (z = 1 ∧ ∀ u, i ≤ u → u < t → bt L u = true → ¬ alk X u t)) := by
  have ei : (X 1 0).toInt = (n : Int) := by rw [en, nI_toInt (by omega)]
  intro m
  induction m with
  | zero =>
    intro i z hi hz
    rw [f_NC_leadersOf_L25]
    rcases hz with rfl | rfl
    · rw [if_pos rfl]
      exact ⟨fun _ q => absurd q.1 (by decide), fun _ => rfl⟩
    · rw [if_neg one0, if_pos (nI_le (by omega) (by omega))]
      exact ⟨fun k => absurd k one0, fun k => absurd ⟨rfl, fun u u1 u2 => absurd u2 (by omega)⟩ k⟩
  | succ m ih =>
    intro i z hi hz
    rw [f_NC_leadersOf_L25]
    rcases hz with rfl | rfl
    · rw [if_pos rfl]
      exact ⟨fun _ q => absurd q.1 (by decide), fun _ => rfl⟩
    · rw [if_neg one0, if_neg (nI_ge (by omega) (by omega)), nI_1]
      have k1 := ih (i + 1) 1 (by omega) (Or.inr rfl)
      have k0 := ih (i + 1) 0 (by omega) (Or.inl rfl)
      have step : (¬ (bt L i = true ∧ alk X i t)) → ((f_NC_leadersOf_L25 S set L (nI t) (m + 1) (nI (i + 1)) 1 = 0) ↔ ¬ ((1 : Int32) = 1 ∧ ∀ u, i ≤ u → u < t → bt L u = true → ¬ alk X u t)) := by
        intro hx
        rw [k1]
        refine not_congr ⟨fun q => ⟨rfl, fun u u1 u2 u3 u4 => ?_⟩, fun q => ⟨rfl, fun u u1 u2 => q.2 u (by omega) u2⟩⟩
        rcases Nat.lt_or_ge i u with q3 | q3
        · exact q.2 u q3 u2 u3 u4
        · have e : u = i := by omega
          rw [e] at u3 u4
          exact hx ⟨u3, u4⟩
      by_cases c : f_NC_holds L (nI i) = 0
      · rw [if_pos c]
        exact step (fun q => by rw [(nc_h0 (by omega)).mp c] at q; exact absurd q.1 (by decide))
      · rw [if_neg c]
        by_cases c2 : f_Things_areAlike (S 1) (nI i) (nI t) = 0
        · rw [if_pos c2]
          exact step (fun q => (t_alk h (by omega) (by omega)).mp c2 q.2)
        · rw [if_neg c2, k0]
          refine ⟨fun _ q => ?_, fun _ q => absurd q.1 (by decide)⟩
          have b1 : bt L i = true := by
            cases hb : bt L i
            · exact absurd ((nc_h0 (by omega)).mpr hb) c
            · rfl
          exact c2 ((t_alk h (by omega) (by omega)).mpr (q.2 i (Nat.le_refl _) (by omega) b1))
theorem ld_L4 {S : Nat → Nat → Nat → Int32} {X : Nat → Nat → Int32} (h : RT (S 1) X) {n : Nat} (hn : n ≤ 32) (en : X 1 0 = nI n) {set : Int32} : ∀ (m i : Nat) (L : Int32), i + m = n → IsL X set i L → IsL X set n (f_NC_leadersOf_L4 S set (m + 1) (nI i) L) := by
  intro m
  induction m with
  | zero =>
    intro i L hi hL
    rw [f_NC_leadersOf_L4, h.2.1, en, if_pos (nI_le (by omega) (by omega)), show n = i by omega]
    exact hL
  | succ m ih =>
    intro i L hi hL
    have k := ld_L25 h hn en (set := set) (L := L) (t := i) (by omega) i 0 (f_NC_holds set (nI i)) (by omega) (by rw [nc_h (by omega)]; cases bt set i <;> simp)
    rw [nI_0] at k
    have e1 : (f_NC_holds set (nI i) = 1) ↔ bt set i = true := by
      rw [nc_h (by omega)]
      cases bt set i <;> simp
    have kk : (f_NC_leadersOf_L25 S set L (nI i) (i + 1) 0 (f_NC_holds set (nI i)) = 0) ↔ ¬ lead X set i := by
      rw [k]
      refine not_congr ?_
      rw [e1]
      exact and_congr Iff.rfl ⟨fun q => (lead_L (by omega) hL).mp (fun u u1 => q u (Nat.zero_le _) u1), fun q u _ u1 => (lead_L (by omega) hL).mpr q u u1⟩
    rw [f_NC_leadersOf_L4, h.2.1, en, if_neg (nI_ge (by omega) (by omega)), mu_n0 (by omega), nI_1]
    by_cases c : f_NC_leadersOf_L25 S set L (nI i) (i + 1) 0 (f_NC_holds set (nI i)) = 0
    · rw [if_pos c]
      refine ih (i + 1) L (by omega) (fun t ht => ?_)
      rw [hL t ht]
      refine ⟨fun q => ⟨by omega, q.2⟩, fun q => ⟨?_, q.2⟩⟩
      rcases Nat.lt_or_ge t i with q3 | q3
      · exact q3
      · have e : t = i := by omega
        exact absurd (e ▸ q.2) (kk.mp c)
    · rw [if_neg c]
      have hl : lead X set i := by
        rcases Classical.em (lead X set i) with q | q
        · exact q
        · exact absurd (kk.mpr q) c
      refine ih (i + 1) _ (by omega) (fun t ht => ?_)
      rw [b_or, b_sh1 (by omega) ht, Bool.or_eq_true, decide_eq_true_eq, hL t ht]
      constructor
      · rintro (q | q)
        · exact ⟨by omega, q.2⟩
        · rw [q]
          exact ⟨by omega, hl⟩
      · intro q
        rcases Nat.lt_or_ge t i with q3 | q3
        · exact Or.inl ⟨q3, q.2⟩
        · exact Or.inr (by omega)
theorem ld_all {S : Nat → Nat → Nat → Int32} {X : Nat → Nat → Int32} (h : RT (S 1) X) {n : Nat} (hn : n ≤ 32) (en : X 1 0 = nI n) (set : Int32) : IsL X set n (f_NC_leadersOf S set) := by
  have k := ld_L4 h hn en (set := set) n 0 0 (by omega) (fun t _ => by rw [b_0]; exact ⟨fun q => absurd q (by decide), fun q => absurd q.1 (by omega)⟩)
  unfold f_NC_leadersOf
  rw [h.2.1, en, mu_n0 (by omega)]
  rw [nI_0] at k
  exact k
/-! == the group of a leader, in the reference == -/
theorem g_L42 {X : Nat → Nat → Int32} {n : Nat} (hn : n ≤ 32) (en : X 1 0 = nI n) {set gg y3 y4 : Int32} {t : Nat} (ht : t < n) : ∀ (m i : Nat) (a : Int32), i + m = n → ∀ u, u < 32 → (bt (f_M_groupOf_L42 X set gg y3 y4 (nI t) (m + 1) (nI i) a) u = true ↔ (bt a u = true ∨ (i ≤ u ∧ u < n ∧ bt set u = true ∧ alk X t u))) := by
  intro m
  induction m with
  | zero =>
    intro i a hi u hu
    rw [f_M_groupOf_L42, en, if_pos (nI_le (by omega) (by omega))]
    exact ⟨Or.inl, fun q => q.elim id (fun q => absurd q.2.1 (by omega))⟩
  | succ m ih =>
    intro i a hi u hu
    have skip : (¬ (bt set i = true ∧ alk X t i)) → ((bt a u = true ∨ (i + 1 ≤ u ∧ u < n ∧ bt set u = true ∧ alk X t u)) ↔ (bt a u = true ∨ (i ≤ u ∧ u < n ∧ bt set u = true ∧ alk X t u))) := by
      intro hx
      refine or_congr Iff.rfl ⟨fun q => ⟨by omega, q.2⟩, fun q => ⟨?_, q.2⟩⟩
      rcases Nat.lt_or_ge i u with q3 | q3
      · exact q3
      · have e : u = i := by omega
        rw [e] at q
        exact absurd ⟨q.2.2.1, q.2.2.2⟩ hx
    rw [f_M_groupOf_L42, en, if_neg (nI_ge (by omega) (by omega)), nI_1]
    by_cases c : f_M_has set (nI i) = 0
    · rw [if_pos c, ih (i + 1) a (by omega) u hu]
      exact skip (fun q => by rw [(m_h0 (by omega)).mp c] at q; exact absurd q.1 (by decide))
    · rw [if_neg c]
      by_cases c2 : f_M_isAlike X (nI t) (nI i) = 0
      · rw [if_pos c2, ih (i + 1) a (by omega) u hu]
        exact skip (fun q => (m_alk (by omega) (by omega)).mp c2 q.2)
      · rw [if_neg c2, ih (i + 1) _ (by omega) u hu, b_or, b_sh1 (by omega) hu, Bool.or_eq_true, decide_eq_true_eq]
        have b1 : bt set i = true := by
          cases hb : bt set i
          · exact absurd ((m_h0 (by omega)).mpr hb) c
          · rfl
        have b2 : alk X t i := by
          rcases Classical.em (alk X t i) with q | q
          · exact q
          · exact absurd ((m_alk (by omega) (by omega)).mpr q) c2
        constructor
        · rintro ((q | q) | q)
          · exact Or.inl q
          · rw [q]
            exact Or.inr ⟨Nat.le_refl _, by omega, b1, b2⟩
          · exact Or.inr ⟨by omega, q.2⟩
        · rintro (q | q)
          · exact Or.inl (Or.inl q)
          · rcases Nat.lt_or_ge i u with q3 | q3
            · exact Or.inr ⟨q3, q.2⟩
            · exact Or.inl (Or.inr (by omega))
/-- the group of leader t -/
def IsG (X : Nat → Nat → Int32) (set : Int32) (n t : Nat) (G : Int32) : Prop := ∀ u, u < 32 → (bt G u = true ↔ (u = t ∨ (t < u ∧ u < n ∧ bt set u = true ∧ alk X t u)))
theorem g_grp {X : Nat → Nat → Int32} {n : Nat} (hn : n ≤ 32) (en : X 1 0 = nI n) {set gg y3 y4 : Int32} {t : Nat} (ht : t < n) : IsG X set n t (f_M_groupOf_L42 X set gg y3 y4 (nI t) (nc_mu (X 1 0) (nI t + 1) + 1) (nI t + 1) ((1 : Int32) <<< (nI t &&& 31))) := by
  intro u hu
  rw [en, nI_1, mu_nI (by omega) (by omega), g_L42 hn en ht (n - (t + 1)) (t + 1) _ (by omega) u hu, b_sh1 (by omega) hu, decide_eq_true_eq]
  exact or_congr Iff.rfl ⟨fun q => ⟨by omega, q.2⟩, fun q => ⟨by omega, q.2⟩⟩
def gone (X : Nat → Nat → Int32) (set : Int32) (n i : Nat) (z : Int32) : Prop := ∀ t, t < 32 → i ≤ t → (bt z t = true ↔ (bt set t = true ∧ t < n ∧ ∃ v, v < i ∧ bt set v = true ∧ alk X v t))
theorem g_L8 {X : Nat → Nat → Int32} {n : Nat} (hn : n ≤ 32) (en : X 1 0 = nI n) {set gg L : Int32} (hL : IsL X set n L) : ∀ (m i : Nat) (z : Int32), i + m = n → gone X set n i z →
    (∃ t G, i ≤ t ∧ t < n ∧ bt L t = true ∧ nI (cnt L t) = gg ∧ IsG X set n t G ∧ f_M_groupOf_L8 X set gg (m + 1) (nI i) (nI (cnt L i)) z = (G, X))
    ∨ ((∀ t, i ≤ t → t < n → bt L t = true → ¬ nI (cnt L t) = gg) ∧ f_M_groupOf_L8 X set gg (m + 1) (nI i) (nI (cnt L i)) z = (0, upf X 38 (fun _ => nI (cnt L n)))) := by
  intro m
  induction m with
  | zero =>
    intro i z hi hg
    have e : i = n := by omega
    subst e
    refine Or.inr ⟨fun t t1 t2 => absurd t2 (by omega), ?_⟩
    rw [f_M_groupOf_L8, en, if_pos (nI_le (by omega) (by omega))]
  | succ m ih =>
    intro i z hi hg
    have hgi := hg i (by omega) (Nat.le_refl _)
    have hb : bt (set &&& (z ^^^ (-1))) i = true ↔ bt L i = true := by
      rw [b_and, b_not (by omega), Bool.and_eq_true, Bool.not_eq_true', hL i (by omega)]
      constructor
      · rintro ⟨q1, q2⟩
        refine ⟨by omega, q1, fun u u1 u2 u3 => ?_⟩
        rw [hgi.mpr ⟨q1, by omega, u, u1, u2, u3⟩] at q2
        exact absurd q2 (by decide)
      · rintro ⟨_, q1, q2⟩
        refine ⟨q1, ?_⟩
        cases hz : bt z i
        · rfl
        · obtain ⟨_, _, v, v1, v2, v3⟩ := hgi.mp hz
          exact absurd v3 (q2 v v1 v2)
    have hc : cnt L (i + 1) = cnt L i + (if bt L i = true then 1 else 0) := rfl
    rw [f_M_groupOf_L8, en, if_neg (nI_ge (by omega) (by omega)), nI_1, nI_1]
    by_cases c : f_M_has (set &&& (z ^^^ (-1))) (nI i) = 0
    · have nl : ¬ bt L i = true := fun q => by
        have := (m_h0 (by omega)).mp c
        rw [hb.mpr q] at this
        exact absurd this (by decide)
      rw [if_neg nl, Nat.add_zero] at hc
      have hg2 : gone X set n (i + 1) z := by
        intro t ht hit
        rw [hg t ht (by omega)]
        refine and_congr Iff.rfl (and_congr Iff.rfl ⟨fun ⟨v, v1, v2, v3⟩ => ⟨v, by omega, v2, v3⟩, fun ⟨v, v1, v2, v3⟩ => ?_⟩)
        rcases Nat.lt_or_ge v i with q3 | q3
        · exact ⟨v, q3, v2, v3⟩
        · have e : v = i := by omega
          rw [e] at v2 v3
          rcases Classical.em (∃ w, w < i ∧ bt set w = true ∧ alk X w i) with k | k
          · obtain ⟨w, w1, w2, w3⟩ := k
            exact ⟨w, w1, w2, alk_trans w3 v3⟩
          · exact absurd ((hL i (by omega)).mpr ⟨by omega, v2, fun u u1 u2 u3 => k ⟨u, u1, u2, u3⟩⟩) nl
      rw [if_pos c]
      have q := ih (i + 1) z (by omega) hg2
      rw [hc] at q
      rcases q with ⟨t, G, t1, t2, t3, t4, t5, t6⟩ | ⟨q1, q2⟩
      · exact Or.inl ⟨t, G, by omega, t2, t3, t4, t5, t6⟩
      · refine Or.inr ⟨fun t t1 t2 t3 => ?_, q2⟩
        rcases Nat.lt_or_ge i t with q3 | q3
        · exact q1 t q3 t2 t3
        · have e : t = i := by omega
          rw [e] at t3
          exact absurd t3 nl
    · have hl : bt L i = true := by
        refine hb.mp ?_
        cases h9 : bt (set &&& (z ^^^ (-1))) i
        · exact absurd ((m_h0 (by omega)).mpr h9) c
        · rfl
      rw [if_pos hl] at hc
      have hG := g_grp hn en (set := set) (gg := gg) (y3 := z) (y4 := nI (cnt L i)) (t := i) (by omega)
      rw [en, nI_1] at hG
      rw [if_neg c]
      by_cases c2 : nI (cnt L i) = gg
      · rw [if_pos c2]
        exact Or.inl ⟨i, _, Nat.le_refl _, by omega, hl, c2, hG, rfl⟩
      · rw [if_neg c2]
        have hs := ((hL i (by omega)).mp hl).2.1
        have hg2 : gone X set n (i + 1) (z ||| f_M_groupOf_L42 X set gg z (nI (cnt L i)) (nI i) (nc_mu (nI n) (nI (i + 1)) + 1) (nI (i + 1)) ((1 : Int32) <<< (nI i &&& 31))) := by
          intro t ht hit
          rw [b_or, Bool.or_eq_true, hg t ht (by omega), hG t ht]
          constructor
          · rintro (⟨q1, q2, v, v1, v2, v3⟩ | q | ⟨_, q2, q3, q4⟩)
            · exact ⟨q1, q2, v, by omega, v2, v3⟩
            · exact absurd q (by omega)
            · exact ⟨q3, q2, i, by omega, hs, q4⟩
          · rintro ⟨q1, q2, v, v1, v2, v3⟩
            rcases Nat.lt_or_ge v i with q3 | q3
            · exact Or.inl ⟨q1, q2, v, q3, v2, v3⟩
            · have e : v = i := by omega
              rw [e] at v3
              exact Or.inr (Or.inr ⟨by omega, q2, q1, v3⟩)
        have q := ih (i + 1) _ (by omega) hg2
        rw [hc] at q
        rcases q with ⟨t, G, t1, t2, t3, t4, t5, t6⟩ | ⟨q1, q2⟩
        · exact Or.inl ⟨t, G, by omega, t2, t3, t4, t5, t6⟩
        · refine Or.inr ⟨fun t t1 t2 t3 => ?_, q2⟩
          rcases Nat.lt_or_ge i t with q3 | q3
          · exact q1 t q3 t2 t3
          · have e : t = i := by omega
            rw [e]
            exact c2
theorem g_of {X : Nat → Nat → Int32} {n : Nat} (hn : n ≤ 32) (en : X 1 0 = nI n) {set L : Int32} (gg : Int32) (hL : IsL X set n L) :
    (∃ t G, t < n ∧ bt L t = true ∧ nI (cnt L t) = gg ∧ IsG X set n t G ∧ f_M_groupOf X set gg = (G, X))
    ∨ ((∀ t, t < n → bt L t = true → ¬ nI (cnt L t) = gg) ∧ f_M_groupOf X set gg = (0, upf X 38 (fun _ => nI (cnt L n)))) := by
  have k := g_L8 hn en (gg := gg) hL n 0 0 (by omega) (fun t ht _ => by rw [b_0]; exact ⟨fun q => absurd q (by decide), fun ⟨_, _, v, v1, _⟩ => absurd v1 (by omega)⟩)
  have e : f_M_groupOf X set gg = f_M_groupOf_L8 X set gg (n + 1) (nI 0) (nI (cnt L 0)) 0 := by
    unfold f_M_groupOf
    rw [en, mu_n0 (by omega)]
    rfl
  rw [e]
  rcases k with ⟨t, G, t1, t2, t3, t4, t5, t6⟩ | ⟨q1, q2⟩
  · exact Or.inl ⟨t, G, t2, t3, t4, t5, t6⟩
  · exact Or.inr ⟨fun t t1 => q1 t (Nat.zero_le _) t1, q2⟩
