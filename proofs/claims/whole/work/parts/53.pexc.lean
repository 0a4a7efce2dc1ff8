/-! ===== EXCEPTs, as the component reads them ===== -/
def ex (f : Nat → Int32) (n : Nat) : Nat → Nat → Nat × Bool
  | 0, a => (a, true)
  | m + 1, a => if tk f n a = 35 then (if dW f n (a + 1) = 0 then (dA f n (a + 1), false) else ex f n m (dA f n (a + 1) + dW f n (a + 1))) else (a, true)
theorem desc_keep {f : Nat → Int32} {n d a b : Nat} {P Q : Nat → Nat → Int32} {k e : Nat} (h : DescAt f n P d a b) (hk : Kp P Q k e) (hd : d < e) (h8 : (d : Int) < (Q 8 0).toInt) : DescAt f n Q d a b := by
  obtain ⟨h1, h2, h3, h4, h5, h6, h7⟩ := h
  obtain ⟨k5, k6, k7⟩ := hk.2 d hd
  exact ⟨h1, h2, h3, h8, k5.trans h5, k6.trans h6, k7.trans h7⟩
theorem exc_keep {f : Nat → Int32} {n : Nat} {P Q : Nat → Nat → Int32} {k e : Nat} (hk : Kp P Q k e) (h8 : (e : Int) ≤ (Q 8 0).toInt) : ∀ (m d a b : Nat), d + m ≤ e → ExcAt f n P m d a b → ExcAt f n Q m d a b := by
  intro m
  induction m with
  | zero => intro d a b _ h; exact h
  | succ m ih =>
    intro d a b he h
    obtain ⟨h1, b1, h2, h3⟩ := h
    exact ⟨h1, b1, desc_keep h2 hk (by omega) (by omega), ih (d + 1) b1 b (by omega) h3⟩
theorem rl_ex {f : Nat → Int32} {n k : Nat} (hn : n ≤ 30) (hk : k < 30) : ∀ (m b d : Nat) (P : Nat → Nat → Int32), n - b ≤ m → b ≤ n → d ≤ b → P 4 0 = nI (k + 1) → P 8 0 = nI d → P 0 k = -1 → P 3 k = nI d → Stop f n P b →
    ((ex f n (m + 1) b).2 = false → (RL f n P b).1 = nI (ex f n (m + 1) b).1) ∧
    ((ex f n (m + 1) b).2 = true → ∃ Q e, RL f n P b = RL f n Q (ex f n (m + 1) b).1 ∧ (ex f n (m + 1) b).1 ≤ n ∧ ¬ tk f n (ex f n (m + 1) b).1 = 35 ∧ ExcAt f n Q e d b (ex f n (m + 1) b).1 ∧ Q 4 0 = nI (k + 1) ∧ Q 8 0 = nI (d + e) ∧ d + e ≤ (ex f n (m + 1) b).1 ∧ Q 3 k = nI (d + e) ∧ (Q 0 k = P 0 k ∧ Q 1 k = P 1 k ∧ Q 2 k = P 2 k) ∧ Kp P Q k d ∧ Stop f n Q (ex f n (m + 1) b).1) := by
  intro m
  induction m with
  | zero =>
    intro b d P hm hb hdb h4 h8 h0 h3 hs
    have c : ¬ tk f n b = 35 := by
      rw [tk_out (by omega)]
      decide
    rw [ex, if_neg c]
    exact ⟨fun q => absurd (show true = false from q) (by decide), fun _ => ⟨P, 0, rfl, hb, c, rfl, h4, h8, hdb, h3, ⟨rfl, rfl, rfl⟩, Kp_refl P k d, hs⟩⟩
  | succ m ih =>
    intro b d P hm hb hdb h4 h8 h0 h3 hs
    rw [ex]
    by_cases c : tk f n b = 35
    · have hl : b < n := by
        rcases Nat.lt_or_ge b n with q | q
        · exact q
        · rw [tk_out (by omega)] at c
          exact absurd c (by decide)
      have hd30 : d < 30 := by omega
      obtain ⟨q1, q2, q3, q4, q5, q6, q7⟩ := open_D hk hd30 h4 h8
      obtain ⟨p1, p2⟩ := part_1 hk h4
      have fb : f b = 35 := by rw [← tk_in (f := f) hl]; exact c
      have tk1 : (f_Phrase_take P (f b)).1 = 1 ∧ (f_Phrase_take P (f b)).2 = (f_Phrase_openDescription P).2 := by
        have am : f_Phrase_amountOf P (P 4 0 - 1) = -1 := by
          unfold f_Phrase_amountOf
          rw [p1, p2, if_neg one0, nI_clamp (by omega)]
          exact h0
        unfold f_Phrase_take
        rw [if_neg (by rw [fb]; decide), if_pos fb, hs.1, if_neg one0, if_pos am, q1, if_neg one0]
        exact ⟨rfl, rfl⟩
      have e1 : RL f n P b = RL f n (f_Phrase_openDescription P).2 (b + 1) := by
        rw [RL_s hn hl, tk1.1, if_neg one0, tk1.2]
      rw [if_pos c, e1]
      obtain ⟨r1, r2⟩ := desc_op (f := f) (q := b + 1) hn hl q2
      by_cases cw : dW f n (b + 1) = 0
      · rw [if_pos cw]
        exact ⟨fun _ => r1 cw, fun q => absurd (show false = true from q) (by decide)⟩
      · rw [if_neg cw]
        obtain ⟨Q1, g1, g2, g3, g4, g5, g6, g7⟩ := r2 (by omega)
        have dl := dA_le (f := f) (n := n) (a := b + 1) hl
        have dw := dW_le (f := f) (n := n) (a := b + 1) hl
        have s0 : Q1 0 k = P 0 k := by rw [(g6.1 k hk).1, q5]
        have s1 : Q1 1 k = P 1 k := by rw [(g6.1 k hk).2.1, q6]
        have s2 : Q1 2 k = P 2 k := by rw [(g6.1 k hk).2.2.1, q7]
        have s3 : Q1 3 k = nI (d + 1) := by rw [(g6.1 k hk).2.2.2, q4]
        obtain ⟨i1, i2⟩ := ih (dA f n (b + 1) + dW f n (b + 1)) (d + 1) Q1 (by omega) dw (by omega) g2 g3 (s0.trans h0) s3 g4
        rw [g1]
        refine ⟨i1, fun q => ?_⟩
        obtain ⟨Q, e, j1, j2, j3, j4, j5, j6, j7, j8, j9, j10, j11⟩ := i2 q
        have le30 : d + 1 + e ≤ 30 := by omega
        refine ⟨Q, e + 1, j1, j2, j3, ⟨c, _, desc_keep g5 j10 (by omega) ?_, j4⟩, j5, ?_, by omega, ?_, ⟨j9.1.trans s0, j9.2.1.trans s1, j9.2.2.trans s2⟩, ?_, j11⟩
        · rw [j6, nI_toInt (by omega)]
          omega
        · rw [j6]
          congr 1
          omega
        · rw [j8]
          congr 1
          omega
        · exact Kp_trans (Kp_trans q3 g6 (by omega) (Nat.le_refl _)) j10 (Nat.le_refl _) (by omega)
    · rw [if_neg c]
      exact ⟨fun q => absurd (show true = false from q) (by decide), fun _ => ⟨P, 0, rfl, hb, c, rfl, h4, h8, hdb, h3, ⟨rfl, rfl, rfl⟩, Kp_refl P k d, hs⟩⟩
