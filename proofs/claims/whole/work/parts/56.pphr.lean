/-! ===== a whole PHRASE, as the component reads it ===== -/
theorem desc_kp {f : Nat → Int32} {n d a b k d1 : Nat} {P Q : Nat → Nat → Int32} (hd1 : d1 ≤ 30) (h8 : P 8 0 = nI d1) (hle : (d1 : Int) ≤ (Q 8 0).toInt) (hk : Kp P Q k d1) (h : DescAt f n P d a b) : DescAt f n Q d a b := by
  have h4 := h.2.2.2.1
  rw [h8, nI_toInt (by omega)] at h4
  exact desc_keep h hk (by omega) (by omega)
theorem exc_kp {f : Nat → Int32} {n k d1 : Nat} {P Q : Nat → Nat → Int32} (hd1 : d1 ≤ 30) (h8 : P 8 0 = nI d1) (hle : (d1 : Int) ≤ (Q 8 0).toInt) (hk : Kp P Q k d1) : ∀ (m d a b : Nat), ExcAt f n P m d a b → ExcAt f n Q m d a b := by
  intro m
  induction m with
  | zero => intro d a b h; exact h
  | succ m ih =>
    intro d a b h
    obtain ⟨h1, b1, h2, h3⟩ := h
    exact ⟨h1, b1, desc_kp hd1 h8 hle hk h2, ih (d + 1) b1 b h3⟩
theorem part_kp {f : Nat → Int32} {n i k a b d1 : Nat} {P Q : Nat → Nat → Int32} (hd1 : d1 ≤ 30) (h8 : P 8 0 = nI d1) (hle : (d1 : Int) ≤ (Q 8 0).toInt) (hk : Kp P Q k d1) (hi : i < k) (h : PartAt f n P i a b) : PartAt f n Q i a b := by
  obtain ⟨d, m, b1, h3, h30, hc⟩ := h
  obtain ⟨q0, q1, q2, q3⟩ := hk.1 i hi
  refine ⟨d, m, b1, q3.trans h3, h30, ?_⟩
  rcases hc with ⟨c1, c2, c3, c4⟩ | ⟨c1, c2, c3, c4, c5, c6, c7⟩ | ⟨c0, c1, c2, c3, c4, c5, c6, c7⟩
  · refine Or.inl ⟨c1, q0.trans c2, c3, ?_⟩
    rcases c4 with ⟨w1, w2, w3, w4, w5, w6⟩ | ⟨w1, w2, w3, w4⟩
    · exact Or.inl ⟨w1, w2, q1.trans w3, q2.trans w4, desc_kp hd1 h8 hle hk w5, exc_kp hd1 h8 hle hk _ _ _ _ w6⟩
    · exact Or.inr ⟨w1, q1.trans w2, q2.trans w3, exc_kp hd1 h8 hle hk _ _ _ _ w4⟩
  · exact Or.inr (Or.inl ⟨c1, q0.trans c2, c3, c4, q1.trans c5, q2.trans c6, desc_kp hd1 h8 hle hk c7⟩)
  · exact Or.inr (Or.inr ⟨c0, c1, q0.trans c2, c3, c4, q1.trans c5, q2.trans c6, desc_kp hd1 h8 hle hk c7⟩)
/-- how far a phrase can be read from a: the place, whether it is one, how many parts -/
def ps (f : Nat → Int32) (n : Nat) : Nat → Nat → Nat → Nat × Bool × Nat
  | 0, a, c => (a, false, c)
  | m + 1, a, c => if (pr f n a).2 = false then ((pr f n a).1, false, c + 1) else if tk f n (pr f n a).1 = 36 then ps f n m ((pr f n a).1 + 1) (c + 1) else ((pr f n a).1, decide ((pr f n a).1 = n), c + 1)
theorem rl_phr {f : Nat → Int32} {n : Nat} (hn : n ≤ 30) (hok : ∀ j : Nat, okTok (f j)) : ∀ (m a k d : Nat) (P : Nat → Nat → Int32), n - a ≤ m → a ≤ n → k ≤ a → d ≤ a → P 9 0 = 0 → P 4 0 = nI k → P 8 0 = nI d →
    ((ps f n (m + 1) a k).2.1 = false → (RL f n P a).1 = nI (ps f n (m + 1) a k).1) ∧
    ((ps f n (m + 1) a k).2.1 = true → ∃ Q d' e, RL f n P a = (-1, Q) ∧ (ps f n (m + 1) a k).2.2 = k + e ∧ k + e ≤ 30 ∧ Q 4 0 = nI (k + e) ∧ Q 8 0 = nI d' ∧ d ≤ d' ∧ d' ≤ 30 ∧ Kp P Q k d ∧ PhrAt f n Q e k a) := by
  intro m
  induction m with
  | zero =>
    intro a k d P hm ha hka hda h9 h4 h8
    obtain ⟨r1, r2⟩ := rl_part (f := f) hn hok ha hka hda h9 h4 h8
    rw [ps]
    by_cases c : (pr f n a).2 = false
    · rw [if_pos c]
      exact ⟨fun _ => r1 c, fun q => absurd (show false = true from q) (by decide)⟩
    · have c' : (pr f n a).2 = true := by
        cases h9 : (pr f n a).2
        · exact absurd h9 c
        · rfl
      obtain ⟨Q, g1, g2, g3, _⟩ := r2 c'
      exact absurd g3 (by omega)
  | succ m ih =>
    intro a k d P hm ha hka hda h9 h4 h8
    obtain ⟨r1, r2⟩ := rl_part (f := f) hn hok ha hka hda h9 h4 h8
    rw [ps]
    by_cases c : (pr f n a).2 = false
    · rw [if_pos c]
      exact ⟨fun _ => r1 c, fun q => absurd (show false = true from q) (by decide)⟩
    · have c' : (pr f n a).2 = true := by
        cases h9 : (pr f n a).2
        · exact absurd h9 c
        · rfl
      rw [if_neg c]
      obtain ⟨Q, g1, g2, g3, g4, g5, ⟨d', g6, g7, g8⟩, g9, g10⟩ := r2 c'
      by_cases c36 : tk f n (pr f n a).1 = 36
      · have hl : (pr f n a).1 < n := by
          rcases Nat.lt_or_ge (pr f n a).1 n with w | w
          · exact w
          · rw [tk_out (by omega)] at c36
            exact absurd c36 (by decide)
        have f36 : f (pr f n a).1 = 36 := by rw [← tk_in (f := f) hl]; exact c36
        have tk1 : f_Phrase_take Q (f (pr f n a).1) = (1, upf Q 9 (fun _ => 0)) := by
          unfold f_Phrase_take f_Phrase_closePart
          rw [if_pos f36, g10.1, if_neg one0, if_neg one0]
        have e1 : RL f n P a = RL f n (upf Q 9 (fun _ => 0)) ((pr f n a).1 + 1) := by
          rw [g1, RL_s hn hl, tk1, if_neg one0]
        rw [if_pos c36, e1]
        obtain ⟨i1, i2⟩ := ih ((pr f n a).1 + 1) (k + 1) d' (upf Q 9 (fun _ => 0)) (by omega) hl (by omega) (by omega) rfl g5 g6
        refine ⟨i1, fun q => ?_⟩
        obtain ⟨R, d2, e, j1, j2, j3, j4, j5, j6, j7, j8, j9⟩ := i2 q
        have j8' : Kp Q R (k + 1) d' := j8
        refine ⟨R, d2, e + 1, j1, by rw [j2]; omega, by omega, by rw [j4]; congr 1; omega, j5, by omega, j7, Kp_trans g9 j8' (by omega) g8, ⟨_, part_kp (by omega) g6 (by rw [j5, nI_toInt (by omega)]; omega) j8' (by omega) g4, j9⟩⟩
      · rw [if_neg c36]
        by_cases ce : (pr f n a).1 = n
        · refine ⟨fun q => ?_, fun _ => ?_⟩
          · rw [show (((pr f n a).1, decide ((pr f n a).1 = n), k + 1) : Nat × Bool × Nat).2.1 = decide ((pr f n a).1 = n) from rfl, decide_eq_true ce] at q
            exact absurd q (by decide)
          · refine ⟨Q, d', 1, ?_, rfl, by omega, g5, g6, g8, by omega, g9, ⟨_, g4, trivial⟩⟩
            rw [g1, ce, RL_e hn, g10.1, if_neg one0]
        · refine ⟨fun _ => ?_, fun q => ?_⟩
          · show (RL f n P a).1 = nI (pr f n a).1
            have hl : (pr f n a).1 < n := by omega
            rw [g1]
            by_cases c35 : f (pr f n a).1 = 35
            · obtain ⟨p1, p2⟩ := part_1 (show k < 30 by omega) g5
              refine fail_at hn g2 (fun _ => ?_) (fun w => absurd w ce)
              have am : ¬ f_Phrase_amountOf Q (Q 4 0 - 1) = -1 := by
                unfold f_Phrase_amountOf
                rw [p1, p2, if_neg one0, nI_clamp (by omega)]
                obtain ⟨dd, mm, bb, w1, w2, w3⟩ := g4
                rcases w3 with w | w | w
                · exact absurd (by rw [tk_in hl]; exact c35) w.2.2.1
                · rw [w.2.1]
                  intro z
                  have z1 := w.1
                  rw [Int32.lt_iff_toInt_lt, show (40 : Int32).toInt = 40 by decide] at z1
                  have z2 := congrArg Int32.toInt z
                  have z3 := Int32.toInt_lt (tk f n a)
                  rw [Int32.toInt_sub, show (40 : Int32).toInt = 40 by decide, Int.bmod_eq_of_le (by omega) (by omega), show (-1 : Int32).toInt = -1 by decide] at z2
                  omega
                · rw [w.2.2.1]
                  decide
              unfold f_Phrase_take
              rw [if_neg (by rw [c35]; decide), if_pos c35, g10.1, if_neg one0, if_neg am]
            · exact g10.2 hl (fun w => c36 (by rw [tk_in hl]; exact w)) c35
          · rw [show (((pr f n a).1, decide ((pr f n a).1 = n), k + 1) : Nat × Bool × Nat).2.1 = decide ((pr f n a).1 = n) from rfl, decide_eq_false ce] at q
            exact absurd q (by decide)
