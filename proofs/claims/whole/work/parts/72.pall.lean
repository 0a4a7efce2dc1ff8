/-! ===== the relation with what is asked; all methods ===== -/
def Rel2 (S : Nat → Nat → Nat → Int32) (X : Nat → Nat → Int32) : Prop := Rel S X ∧ AskN X
def KA (X Y : Nat → Nat → Int32) : Prop := Y 29 = X 29 ∧ Y 1 = X 1
theorem KA_ask {X Y : Nat → Nat → Int32} (h : KA X Y) (ha : AskN X) : AskN Y := by
  unfold AskN
  rw [h.1, h.2]
  exact ha
theorem it2 {X : Nat → Nat → Int32} {c : Prop} [Decidable c] {a b : Int32 × (Nat → Nat → Int32)} (ha : KA X a.2) (hb : KA X b.2) : KA X (if c then a else b).2 := by
  by_cases h : c
  · rw [if_pos h]
    exact ha
  · rw [if_neg h]
    exact hb
theorem KA_0 {X : Nat → Nat → Int32} {g : Nat → Int32} : KA X (upf X 0 g) := ⟨rfl, rfl⟩
theorem k_word (X : Nat → Nat → Int32) (x1 x2 x3 x4 : Int32) : KA X (f_M_word X x1 x2 x3 x4).2 := by
  unfold f_M_word
  repeat' (first | apply it2 | exact ⟨rfl, rfl⟩)
theorem k_kind (X : Nat → Nat → Int32) (x1 x2 : Int32) : KA X (f_M_kind X x1 x2).2 := by
  unfold f_M_kind
  repeat' (first | apply it2 | exact ⟨rfl, rfl⟩)
theorem k_place (X : Nat → Nat → Int32) (x1 x2 : Int32) : KA X (f_M_place X x1 x2).2 := by
  unfold f_M_place
  repeat' (first | apply it2 | exact ⟨rfl, rfl⟩)
theorem k_mark (X : Nat → Nat → Int32) (x1 x2 x3 : Int32) : KA X (f_M_mark X x1 x2 x3).2 := by
  unfold f_M_mark
  repeat' (first | apply it2 | exact ⟨rfl, rfl⟩)
theorem k_plural (X : Nat → Nat → Int32) (x1 x2 : Int32) : KA X (f_M_plural X x1 x2).2 := by
  unfold f_M_plural
  repeat' (first | apply it2 | exact ⟨rfl, rfl⟩)
theorem k_weight (X : Nat → Nat → Int32) (x1 x2 : Int32) : KA X (f_M_weight X x1 x2).2 := by
  unfold f_M_weight
  repeat' (first | apply it2 | exact ⟨rfl, rfl⟩)
theorem k_limit (X : Nat → Nat → Int32) (x1 : Int32) : KA X (f_M_limit X x1).2 := by
  unfold f_M_limit
  repeat' (first | apply it2 | exact ⟨rfl, rfl⟩)
theorem k_score (X : Nat → Nat → Int32) (x1 : Int32) : KA X (f_M_score X x1).2 := by
  unfold f_M_score
  repeat' (first | apply it2 | exact ⟨rfl, rfl⟩)
theorem k_alike (X : Nat → Nat → Int32) (x1 x2 : Int32) : KA X (f_M_alike X x1 x2).2 := by
  unfold f_M_alike
  repeat' (first | apply it2 | exact ⟨rfl, rfl⟩)
theorem k_type (X : Nat → Nat → Int32) (x1 : Int32) : KA X (f_M_type X x1).2 := by
  unfold f_M_type
  repeat' (first | apply it2 | exact ⟨rfl, rfl⟩)
theorem k_wipe (X : Nat → Nat → Int32) : KA X (f_M_wipe X).2 := by
  unfold f_M_wipe
  repeat' (first | apply it2 | exact ⟨rfl, rfl⟩)
theorem k_told (X : Nat → Nat → Int32) (x1 : Int32) : KA X (f_M_told X x1).2 := by
  unfold f_M_told
  repeat' (first | apply it2 | exact ⟨rfl, rfl⟩)
theorem k_chosen (X : Nat → Nat → Int32) (x1 : Int32) : KA X (f_M_chosen X x1).2 := by
  unfold f_M_chosen
  repeat' (first | apply it2 | exact ⟨rfl, rfl⟩)
theorem k_L56 {x1 x2 y : Int32} {X : Nat → Nat → Int32} : ∀ (n : Nat) (z5 z4 : Int32), (f_M_asked_L56 x1 x2 y n X z5 z4).2 = X := by
  intro n
  induction n with
  | zero => intro z5 z4; rfl
  | succ n ih =>
    intro z5 z4
    rw [f_M_asked_L56]
    by_cases c1 : X 1 0 ≤ z5
    · rw [if_pos c1]
      by_cases c2 : x2 = -1
      · rw [if_pos c2]
      · rw [if_neg c2]
    · rw [if_neg c1]
      by_cases c3 : f_M_has y z5 = 0
      · rw [if_pos c3]
        exact ih _ _
      · rw [if_neg c3]
        by_cases c4 : z4 = x2
        · rw [if_pos c4]
        · rw [if_neg c4]
          exact ih _ _
theorem k_gr {X : Nat → Nat → Int32} {set gg : Int32} : KA X (f_M_groupOf (upf X 0 (fun _ => 0)) set gg).2 := ⟨gr_fr rfl, gr_fr rfl⟩
theorem k_asked (X : Nat → Nat → Int32) (x1 x2 : Int32) : KA X (f_M_asked X x1 x2).2 := by
  have g1 := k_gr (X := X) (set := X 29 0) (gg := x1)
  have g2 := k_gr (X := X) (set := X 29 0) (gg := 99)
  unfold f_M_asked
  generalize f_M_groupOf (upf X 0 (fun _ => 0)) (X 29 0) x1 = G1 at g1 ⊢
  generalize f_M_groupOf (upf X 0 (fun _ => 0)) (X 29 0) 99 = G2 at g2 ⊢
  repeat' (first | (rw [k_L56]; exact g1) | (rw [k_L56]; exact g2) | apply it2 | exact g1 | exact g2)
theorem k_cL9 {X : Nat → Nat → Int32} {x1 : Int32} : ∀ (n : Nat) (z3 z2 : Int32), KA X (f_M_count_L9 X x1 n z3 z2).2 := by
  intro n
  induction n with
  | zero => intro z3 z2; exact ⟨rfl, rfl⟩
  | succ n ih =>
    intro z3 z2
    rw [f_M_count_L9]
    refine it2 ?_ (it2 (ih _ _) (ih _ _))
    repeat' (first | apply it2 | exact ⟨rfl, rfl⟩)
theorem k_count (X : Nat → Nat → Int32) (x1 : Int32) : KA X (f_M_count X x1).2 := k_cL9 _ _ _
theorem k_rd {X : Nat → Nat → Int32} {x : Int32} : KA X (f_M_readDescriptionR (f_M_beginR (upf X 0 (fun _ => 0)) x)) := ⟨rdR_fr rfl rfl rfl rfl rfl, rdR_fr rfl rfl rfl rfl rfl⟩
theorem k_fits (X : Nat → Nat → Int32) (x1 : Int32) : KA X (f_M_fits X x1).2 := by
  unfold f_M_fits
  repeat' (first | apply it2 | exact k_rd | exact ⟨rfl, rfl⟩)
theorem a_thing (X : Nat → Nat → Int32) (ht : m_t X) (ha : AskN X) : AskN (f_M_thing X).2 := by
  unfold f_M_thing
  by_cases c : X 1 0 = 32
  · rw [if_pos c]
    exact ha
  · rw [if_neg c]
    intro t h1 h2
    have k := ha t h1 h2
    show (t : Int) < (X 1 0 + 1).toInt
    have n32 : ¬ (X 1 0).toInt = 32 := fun q => c (Int32.toInt_inj.mp (q.trans (by decide)))
    have e : X 1 0 = nI (X 1 0).toInt.toNat := nI_of0 ht.1
    have h31 := ht.2
    rw [e, nI_1, nI_toInt (by omega)]
    omega
theorem p2_t (S : Nat → Nat → Nat → Int32) (X : Nat → Nat → Int32) (h : Rel2 S X) : m_t X := p_t S X h.1
theorem p2_k (S : Nat → Nat → Nat → Int32) (X : Nat → Nat → Int32) (h : Rel2 S X) : m_k X := p_k S X h.1
theorem p2_s (S : Nat → Nat → Nat → Int32) (X : Nat → Nat → Int32) (h : Rel2 S X) : 0 ≤ (X 11 0).toInt ∧ (X 11 0).toInt ≤ 30 := p_s S X h.1
theorem p2_ps (S : Nat → Nat → Nat → Int32) (X : Nat → Nat → Int32) (h : Rel2 S X) : (X 25 0).toInt ≤ 30 := p_ps S X h.1
theorem p2_pp (S : Nat → Nat → Nat → Int32) (X : Nat → Nat → Int32) (h : Rel2 S X) : (X 26 0).toInt ≤ 30 := p_pp S X h.1
theorem p2_ap (S : Nat → Nat → Nat → Int32) (X : Nat → Nat → Int32) (h : Rel2 S X) : 0 ≤ (X 30 0).toInt ∧ (X 30 0).toInt < 30 := p_ap S X h.1
theorem p2_c (S : Nat → Nat → Nat → Int32) (X : Nat → Nat → Int32) (h : Rel2 S X) : 0 ≤ (X 33 0).toInt ∧ (X 33 0).toInt ≤ 32 := p_c S X h.1
theorem p2_row (S : Nat → Nat → Nat → Int32) (X : Nat → Nat → Int32) (h : Rel2 S X) : 0 ≤ ((S 0) 2 0).toInt := p_row S X h.1
theorem Rel2_init : Rel2 f_NC_init f_M_init := ⟨Rel_init, Ask_0 rfl⟩
theorem r2_thing (S : Nat → Nat → Nat → Int32) (X : Nat → Nat → Int32) (h : Rel2 S X) : (f_NC_thing S).1 = (f_M_thing X).1 ∧ Rel2 (f_NC_thing S).2 (f_M_thing X).2 := ⟨(r_thing S X h.1).1, (r_thing S X h.1).2, a_thing X (p_t S X h.1) h.2⟩
theorem r2_word (S : Nat → Nat → Nat → Int32) (X : Nat → Nat → Int32) (x1 x2 x3 x4 : Int32) (h : Rel2 S X) : (f_NC_word S x1 x2 x3 x4).1 = (f_M_word X x1 x2 x3 x4).1 ∧ Rel2 (f_NC_word S x1 x2 x3 x4).2 (f_M_word X x1 x2 x3 x4).2 := ⟨(r_word S X x1 x2 x3 x4 h.1).1, (r_word S X x1 x2 x3 x4 h.1).2, KA_ask (k_word X x1 x2 x3 x4) h.2⟩
theorem r2_kind (S : Nat → Nat → Nat → Int32) (X : Nat → Nat → Int32) (x1 x2 : Int32) (h : Rel2 S X) : (f_NC_kind S x1 x2).1 = (f_M_kind X x1 x2).1 ∧ Rel2 (f_NC_kind S x1 x2).2 (f_M_kind X x1 x2).2 := ⟨(r_kind S X x1 x2 h.1).1, (r_kind S X x1 x2 h.1).2, KA_ask (k_kind X x1 x2) h.2⟩
theorem r2_place (S : Nat → Nat → Nat → Int32) (X : Nat → Nat → Int32) (x1 x2 : Int32) (h : Rel2 S X) : (f_NC_place S x1 x2).1 = (f_M_place X x1 x2).1 ∧ Rel2 (f_NC_place S x1 x2).2 (f_M_place X x1 x2).2 := ⟨(r_place S X x1 x2 h.1).1, (r_place S X x1 x2 h.1).2, KA_ask (k_place X x1 x2) h.2⟩
theorem r2_mark (S : Nat → Nat → Nat → Int32) (X : Nat → Nat → Int32) (x1 x2 x3 : Int32) (h : Rel2 S X) : (f_NC_mark S x1 x2 x3).1 = (f_M_mark X x1 x2 x3).1 ∧ Rel2 (f_NC_mark S x1 x2 x3).2 (f_M_mark X x1 x2 x3).2 := ⟨(r_mark S X x1 x2 x3 h.1).1, (r_mark S X x1 x2 x3 h.1).2, KA_ask (k_mark X x1 x2 x3) h.2⟩
theorem r2_plural (S : Nat → Nat → Nat → Int32) (X : Nat → Nat → Int32) (x1 x2 : Int32) (h : Rel2 S X) : (f_NC_plural S x1 x2).1 = (f_M_plural X x1 x2).1 ∧ Rel2 (f_NC_plural S x1 x2).2 (f_M_plural X x1 x2).2 := ⟨(r_plural S X x1 x2 h.1).1, (r_plural S X x1 x2 h.1).2, KA_ask (k_plural X x1 x2) h.2⟩
theorem r2_weight (S : Nat → Nat → Nat → Int32) (X : Nat → Nat → Int32) (x1 x2 : Int32) (h : Rel2 S X) : (f_NC_weight S x1 x2).1 = (f_M_weight X x1 x2).1 ∧ Rel2 (f_NC_weight S x1 x2).2 (f_M_weight X x1 x2).2 := ⟨(r_weight S X x1 x2 h.1).1, (r_weight S X x1 x2 h.1).2, KA_ask (k_weight X x1 x2) h.2⟩
theorem r2_limit (S : Nat → Nat → Nat → Int32) (X : Nat → Nat → Int32) (x1 : Int32) (h : Rel2 S X) : (f_NC_limit S x1).1 = (f_M_limit X x1).1 ∧ Rel2 (f_NC_limit S x1).2 (f_M_limit X x1).2 := ⟨(r_limit S X x1 h.1).1, (r_limit S X x1 h.1).2, KA_ask (k_limit X x1) h.2⟩
theorem r2_score (S : Nat → Nat → Nat → Int32) (X : Nat → Nat → Int32) (x1 : Int32) (h : Rel2 S X) : (f_NC_score S x1) = (f_M_score X x1).1 ∧ Rel2 S (f_M_score X x1).2 := ⟨(r_score S X x1 h.1).1, (r_score S X x1 h.1).2, KA_ask (k_score X x1) h.2⟩
theorem r2_alike (S : Nat → Nat → Nat → Int32) (X : Nat → Nat → Int32) (x1 x2 : Int32) (h : Rel2 S X) : (f_NC_alike S x1 x2) = (f_M_alike X x1 x2).1 ∧ Rel2 S (f_M_alike X x1 x2).2 := ⟨(r_alike S X x1 x2 h.1).1, (r_alike S X x1 x2 h.1).2, KA_ask (k_alike X x1 x2) h.2⟩
theorem r2_type (S : Nat → Nat → Nat → Int32) (X : Nat → Nat → Int32) (x1 : Int32) (h : Rel2 S X) : (f_NC_type S x1).1 = (f_M_type X x1).1 ∧ Rel2 (f_NC_type S x1).2 (f_M_type X x1).2 := ⟨(r_type S X x1 h.1).1, (r_type S X x1 h.1).2, KA_ask (k_type X x1) h.2⟩
theorem r2_wipe (S : Nat → Nat → Nat → Int32) (X : Nat → Nat → Int32) (h : Rel2 S X) : (f_NC_wipe S).1 = (f_M_wipe X).1 ∧ Rel2 (f_NC_wipe S).2 (f_M_wipe X).2 := ⟨(r_wipe S X h.1).1, (r_wipe S X h.1).2, KA_ask (k_wipe X) h.2⟩
theorem r2_fits (S : Nat → Nat → Nat → Int32) (X : Nat → Nat → Int32) (x1 : Int32) (h : Rel2 S X) : (f_NC_fits S x1).1 = (f_M_fits X x1).1 ∧ Rel2 (f_NC_fits S x1).2 (f_M_fits X x1).2 := ⟨(r_fits S X x1 h.1).1, (r_fits S X x1 h.1).2, KA_ask (k_fits X x1) h.2⟩
theorem r2_choose (S : Nat → Nat → Nat → Int32) (X : Nat → Nat → Int32) (h : Rel2 S X) : (f_NC_choose S).1 = (f_M_choose X).1 ∧ Rel2 (f_NC_choose S).2 (f_M_choose X).2 := ⟨(choose_res S X h.1 h.2).1, (choose_res S X h.1 h.2).2⟩
theorem r2_reply (S : Nat → Nat → Nat → Int32) (X : Nat → Nat → Int32) (h : Rel2 S X) : (f_NC_reply S).1 = (f_M_reply X).1 ∧ Rel2 (f_NC_reply S).2 (f_M_reply X).2 := ⟨(reply_res S X h.1 h.2).1, (reply_res S X h.1 h.2).2⟩
theorem r2_chosen (S : Nat → Nat → Nat → Int32) (X : Nat → Nat → Int32) (x1 : Int32) (h : Rel2 S X) : (f_NC_chosen S x1) = (f_M_chosen X x1).1 ∧ Rel2 S (f_M_chosen X x1).2 := ⟨(r_chosen S X x1 h.1).1, (r_chosen S X x1 h.1).2, KA_ask (k_chosen X x1) h.2⟩
theorem r2_asked (S : Nat → Nat → Nat → Int32) (X : Nat → Nat → Int32) (x1 x2 : Int32) (h : Rel2 S X) : (f_NC_asked S x1 x2) = (f_M_asked X x1 x2).1 ∧ Rel2 S (f_M_asked X x1 x2).2 := ⟨(r_asked S X x1 x2 h.1).1, (r_asked S X x1 x2 h.1).2, KA_ask (k_asked X x1 x2) h.2⟩
theorem r2_told (S : Nat → Nat → Nat → Int32) (X : Nat → Nat → Int32) (x1 : Int32) (h : Rel2 S X) : (f_NC_told S x1) = (f_M_told X x1).1 ∧ Rel2 S (f_M_told X x1).2 := ⟨(r_told S X x1 h.1).1, (r_told S X x1 h.1).2, KA_ask (k_told X x1) h.2⟩
theorem r2_count (S : Nat → Nat → Nat → Int32) (X : Nat → Nat → Int32) (x1 : Int32) (h : Rel2 S X) : (f_NC_count S x1) = (f_M_count X x1).1 ∧ Rel2 S (f_M_count X x1).2 := ⟨(r_count S X x1 h.1).1, (r_count S X x1 h.1).2, KA_ask (k_count X x1) h.2⟩
