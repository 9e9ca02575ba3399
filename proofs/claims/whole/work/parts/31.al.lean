/-! the class's algebra -/
def om_pw (v : Int) : Nat → Int
  | 0 => 1
  | n + 1 => om_pw v n * v % 31
theorem om_pw_b {v : Int} : ∀ n : Nat, 0 ≤ om_pw v n ∧ om_pw v n < 31
  | 0 => by simp [om_pw]
  | n + 1 => by unfold om_pw; omega
theorem al_inverse_l {sc : Int × (Int → Int)} {d : Nat} {h : om_H} {Q : Option om_V → om_H → Prop} {v : Int} (hv : 0 ≤ v ∧ v < 31) (hq : Q (some (.inl (om_pw v 29))) h) : ∀ (m n : Nat), n + m = 29 → om_R sc d 60 4 [.inl v, .inl (om_pw v n), .inl (n : Int)] [] h Q := by
  intro m
  induction m with
  | zero =>
    intro n hn
    have : n = 29 := by omega
    subst this
    simp only [x_Al_inverse_4, x_Al_inverse_5, x_Al_inverse_7, x_Al_inverse_23, x_Al_inverse_24]
    rw [if_pos (by omega)]
    exact hq
  | succ m ih =>
    intro n hn
    have b := om_pw_b (v := v) n
    obtain ⟨a1, a2⟩ := om_mb (t := om_pw v n) (x := v) (T := 30) (by omega) (by omega) hv.1 hv.2
    have a3 : 0 ≤ om_pw v n * v := Int.mul_nonneg b.1 hv.1
    simp only [x_Al_inverse_4, x_Al_inverse_5, x_Al_inverse_7]
    rw [if_neg (by omega)]
    simp only [x_Al_inverse_10, x_Al_inverse_11, x_Al_inverse_12, x_Al_inverse_13, x_Al_inverse_15, x_Al_inverse_16, x_Al_inverse_17, x_Al_inverse_20, om_tm0 a3]
    have h := ih (n + 1) (by omega)
    exact ⟨⟨by omega, by omega⟩, by decide, ⟨by omega, by omega⟩, h⟩
theorem al_inverse {sc : Int × (Int → Int)} {d : Nat} {h : om_H} {Q : Option om_V → om_H → Prop} {v : Int} (hv : 0 ≤ v ∧ v < 31) (hq : Q (some (.inl (om_pw v 29))) h) : om_R sc d 60 0 [.inl v, om_un, om_un] [] h Q := by
  simp only [x_Al_inverse_0, x_Al_inverse_1, x_Al_inverse_2, x_Al_inverse_3]
  exact al_inverse_l (sc := sc) (d := d) hv hq 29 0 rfl
/-- the sum of an operator and times times another -/
def om_ad (A B : Int → Int → Int) (t i k : Int) : Int := (A i k + t * B i k) % 31
theorem om_ad_r {A B : Int → Int → Int} {t : Int} : om_r31 (om_ad A B t) := fun i k => by unfold om_ad; omega
theorem om_ad_su {A B : Int → Int → Int} {t o w : Int} (hA : om_su o w A) (hB : om_su o w B) : om_su o w (om_ad A B t) := fun i k h => by
  unfold om_ad
  rw [hA i k h, hB i k h, Int.mul_zero]
  rfl
theorem al_sum {sc : Int × (Int → Int)} {d : Nat} {s : Int} {q : Nat → Int} {I : Nat → Int → Int} {Q : Option om_V → om_H → Prop} {a b ca cb : Nat} {t : Int} (ha : om_op (om_O s q) a ca 5 13) (hb : om_op (om_O s q) b cb 5 13) (na : ca ≠ 22) (nb : cb ≠ 22) (ht : -100 ≤ t ∧ t ≤ 100) (rA : om_r31 (om_tb 5 13 (I ca))) (rB : om_r31 (om_tb 5 13 (I cb))) (hq : ∀ I', (∀ b, b ≠ 22 → I' b = I b) → om_tb 9 25 (I' 22) = om_ad (om_tb 5 13 (I ca)) (om_tb 5 13 (I cb)) t → Q (some (.inr (.inl 21))) (om_O s q, I')) : om_R sc (d + 2) 50 0 [.inr (.inl 20), .inr (.inl a), .inr (.inl b), .inl t] [] (om_O s q, I) Q := by
  have g21 := (om_op_g (oO_21 (s := s) (q := q))).2.2.2
  simp only [x_Al_sum_0, x_Al_sum_1, x_Al_sum_4, x_Al_sum_5, gO_20_1, g21, Option.toList_some, Option.toList_none, List.cons_append, List.nil_append, List.length_cons, List.length_nil, Nat.reduceAdd, Nat.zero_add, Nat.reduceLeDiff, true_and]
  refine op_become oO_21 ha na (fun I1 f1 f2 => ?_)
  simp only [x_Al_sum_8, x_Al_sum_9, x_Al_sum_12, x_Al_sum_13, x_Al_sum_14, gO_20_1, g21, Option.toList_some, Option.toList_none, List.cons_append, List.nil_append, List.length_cons, List.length_nil, Nat.reduceAdd, Nat.zero_add, Nat.reduceLeDiff, true_and]
  have e1 : om_tb 9 25 (I1 22) = om_tb 5 13 (I ca) := by
    funext i k
    rw [f2 i k]
    split
    · rfl
    · rw [om_tb_out (by omega)]
  refine op_plus oO_21 hb nb ht (by rw [f1 cb nb]; exact rB) (by rw [e1]; exact rA) (fun I2 f3 f4 => ?_)
  simp only [x_Al_sum_17, x_Al_sum_18, x_Al_sum_21, gO_20_1, Option.toList_some, Option.toList_none, List.cons_append, List.nil_append, List.length_cons, List.length_nil, Nat.reduceAdd, Nat.zero_add, Nat.reduceLeDiff, true_and]
  refine hq I2 (fun b hb => by rw [f3 b hb, f1 b hb]) ?_
  funext i k
  rw [f4 i k, e1, f1 cb nb]
  unfold om_ad
  split
  · rfl
  · rw [om_tb_out (by omega), om_tb_out (by omega)]
    simp
/-- what a row times a table adds, as a function -/
theorem om_prt_cv {o w : Int} {A B W R : Int → Int → Int} {i : Int} {oW wW : Int} (hA : om_su 5 13 A) (rA : om_r31 A) (hW : om_su oW wW W) (hR : om_su o w R) (rR : om_r31 R) (h1 : oW ≤ o) (h2 : 12 + wW ≤ w) (h3 : ∀ i' k', B i' k' = if 0 ≤ i' ∧ i' < o ∧ 0 ≤ k' ∧ k' < w then (R i' k' + om_sm (fun q => ((1 * A i q) % 31) * W i' (k' - q)) 13) % 31 else 0) : B = fun i' k' => (R i' k' + om_cv (A i) W i' k') % 31 := by
  funext i' k'
  rw [h3 i' k']
  have e : om_sm (fun q => ((1 * A i q) % 31) * W i' (k' - q)) 13 = om_cv (A i) W i' k' := by
    rw [← om_cv_n (w := 13) (fun q hq => hA i q (by omega)) (by omega)]
    refine om_sm_c (fun q _ _ => ?_)
    have := rA i q
    rw [show (1 * A i q) % 31 = A i q by omega]
  rw [e]
  split
  · rfl
  · rename_i hn
    rw [hR i' k' hn, om_cv_o (w := 13) (fun q hq => hA i q (by omega)) hW i' k' (by omega)]
    rfl
theorem al_product_l {sc : Int × (Int → Int)} {d : Nat} {s : Int} {q : Nat → Int} {Q : Option om_V → om_H → Prop} {a b ca : Nat} {n : Int} (hs : s = 0 ∨ s = 1) (ha : om_op (om_O s q) a ca 5 13) (na : ca ≠ 22) (na4 : ca ≠ 24) {A B : Int → Int → Int} (hA : om_su 5 13 A) (rA : om_r31 A) (hB : om_su 5 13 B) (rB : om_r31 B) (hn : n = om_or 5 13 A) : ∀ (m i : Nat) (I : Nat → Int → Int), (i : Int) + m = n + 1 → om_tb 5 13 (I ca) = A → om_tb 9 25 (I 22) = om_mup s A B i → om_tb 9 25 (I 24) = om_Ti s B (if (i : Int) ≤ n then i else i - 1) → (∀ I', (∀ b, b ≠ 22 → b ≠ 24 → I' b = I b) → om_tb 9 25 (I' 22) = om_mlt s A B → Q (some (.inr (.inl 21))) (om_O s q, I')) → om_R sc (d + 2) 34 23 [.inr (.inl 20), .inr (.inl a), .inr (.inl b), .inl n, .inl (i : Int)] [] (om_O s q, I) Q := by
  have g21 := (om_op_g (oO_21 (s := s) (q := q))).2.2.2
  have g23 := (om_op_g (oO_23 (s := s) (q := q))).2.2.2
  have hb := om_top_b (fun i => decide (0 ≤ om_dg 13 A i)) (5 : Int).toNat
  have hn0 : ∀ i k, n + 1 ≤ i → A i k = 0 := by
    intro i k hi
    by_cases hin : 0 ≤ i ∧ i < 5 ∧ 0 ≤ k ∧ k < 13
    · have h1 := om_top_n (p := fun i => decide (0 ≤ om_dg 13 A i)) (n := (5 : Int).toNat) (k := i) (by unfold om_or at hn; omega) (by omega)
      simp only [decide_eq_false_iff_not] at h1
      exact om_dg_n.mp (by omega) k hin.2.2.1 hin.2.2.2
    · exact hA i k hin
  have hn5 : n ≤ 4 ∧ -1 ≤ n := by unfold om_or at hn; omega
  intro m
  induction m with
  | zero =>
    intro i I h1 hAI hR hT hq
    simp only [x_Al_product_23, x_Al_product_25, x_Al_product_26, x_Al_product_67, x_Al_product_68, x_Al_product_71, gO_20_1]
    rw [if_pos (by omega)]
    exact hq I (fun _ _ _ => rfl) (by rw [hR]; exact om_mup_5 (by omega) (fun i k hi => hn0 i k (by omega)))
  | succ m ih =>
    intro i I h1 hAI hR hT hq
    rw [if_pos (by omega)] at hT
    simp only [x_Al_product_23, x_Al_product_25, x_Al_product_26]
    rw [if_neg (by omega)]
    simp only [x_Al_product_29, x_Al_product_30, x_Al_product_33, x_Al_product_34, x_Al_product_36, x_Al_product_37, x_Al_product_38, x_Al_product_41, gO_20_1, gO_20_2, g21, Option.toList_some, Option.toList_none, List.cons_append, List.nil_append, List.length_cons, List.length_nil, Nat.reduceAdd, Nat.zero_add, Nat.reduceLeDiff, true_and]
    have suT := om_Ti_su (s := s) hB (by omega) i
    refine op_prt oO_21 ha oO_23 (by decide) na (by omega) (by decide) (by rw [hR]; exact om_mup_r i) (by rw [hAI]; exact rA) (by rw [hT]; exact om_Ti_r rB i) (fun I1 f1 f2 => ?_)
    rw [hAI, hT, hR] at f2
    have e1 : om_tb 9 25 (I1 22) = om_mup s A B (i + 1) := by
      rw [om_prt_cv hA rA suT (om_mup_o hA hB i (by omega)) (om_mup_r i) (by omega) (by omega) f2]
      funext j k
      show (om_sm _ i % 31 + om_cv (A i) (om_Ti s B i) j k) % 31 = (om_sm _ i + om_cv (A i) (om_Ti s B (i : Int).toNat) j k) % 31
      rw [Int.toNat_natCast]
      omega
    have hAI1 : om_tb 5 13 (I1 ca) = A := by rw [f1 ca na]; exact hAI
    have hT1 : om_tb 9 25 (I1 24) = om_Ti s B i := by rw [f1 24 (by decide)]; exact hT
    simp only [x_Al_product_44, x_Al_product_46, x_Al_product_47, Option.toList_some, Option.toList_none, List.cons_append, List.nil_append, List.length_cons, List.length_nil, Nat.reduceAdd, Nat.zero_add, Nat.reduceLeDiff, true_and]
    by_cases hin : n ≤ i
    · rw [if_pos hin]
      simp only [x_Al_product_61, x_Al_product_64]
      refine ⟨⟨by omega, by omega⟩, ?_⟩
      have h := ih (i + 1) I1 (by omega) hAI1 e1 (by rw [if_neg (by omega)]; exact hT1) (fun I' f3 f4 => hq I' (fun b b1 b2 => by rw [f3 b b1 b2, f1 b b1]) f4)
      simpa using h
    · rw [if_neg hin]
      simp only [x_Al_product_50, x_Al_product_51, x_Al_product_54, x_Al_product_55, x_Al_product_58, gO_20_2, gO_20_0, g23, Option.toList_some, Option.toList_none, List.cons_append, List.nil_append, List.length_cons, List.length_nil, Nat.reduceAdd, Nat.zero_add, Nat.reduceLeDiff, true_and]
      refine op_putT oO_23 (by rw [hT1]; exact om_Ti_r rB i) (fun I2 f3 f4 => ?_)
      rw [hT1] at f4
      have e2 : om_tb 9 25 (I2 24) = om_Ti s B (i + 1) := by
        funext j k
        rw [f4 j k]
        have h5 : om_T s (om_Ti s B i) j k = om_Ti s B (i + 1) j k := rfl
        split
        · rw [om_T_w (om_su_le suT (Int.le_refl _) (show (13 : Int) ≤ 25 by omega)) (by omega), h5]
        · rename_i hno
          rw [← h5]
          exact (om_T_su suT (by omega) j k (by omega)).symm
      simp only [x_Al_product_61, x_Al_product_64, Option.toList_some, Option.toList_none, List.cons_append, List.nil_append, List.length_cons, List.length_nil, Nat.reduceAdd, Nat.zero_add, Nat.reduceLeDiff, true_and]
      refine ⟨⟨by omega, by omega⟩, ?_⟩
      have h := ih (i + 1) I2 (by omega) (by rw [f3 ca na4]; exact hAI1) (by rw [f3 22 (by decide)]; exact e1) (by rw [if_pos (by omega)]; exact e2) (fun I' f5 f6 => hq I' (fun b b1 b2 => by rw [f5 b b1 b2, f3 b b2, f1 b b1]) f6)
      simpa using h
theorem al_product {sc : Int × (Int → Int)} {d : Nat} {s : Int} {q : Nat → Int} {I : Nat → Int → Int} {Q : Option om_V → om_H → Prop} {a b ca cb : Nat} (hs : s = 0 ∨ s = 1) (ha : om_op (om_O s q) a ca 5 13) (hb : om_op (om_O s q) b cb 5 13) (na : ca ≠ 22) (na4 : ca ≠ 24) (nb : cb ≠ 22) (nb4 : cb ≠ 24) (rA : om_r31 (om_tb 5 13 (I ca))) (rB : om_r31 (om_tb 5 13 (I cb))) (hq : ∀ I', (∀ b, b ≠ 22 → b ≠ 24 → I' b = I b) → om_tb 9 25 (I' 22) = om_mlt s (om_tb 5 13 (I ca)) (om_tb 5 13 (I cb)) → Q (some (.inr (.inl 21))) (om_O s q, I')) : om_R sc (d + 3) 34 0 [.inr (.inl 20), .inr (.inl a), .inr (.inl b), om_un, om_un] [] (om_O s q, I) Q := by
  have g21 := (om_op_g (oO_21 (s := s) (q := q))).2.2.2
  have g23 := (om_op_g (oO_23 (s := s) (q := q))).2.2.2
  have ga := (om_op_g ha).2.2.2
  simp only [x_Al_product_0, x_Al_product_1, ga, Option.toList_some, Option.toList_none, List.cons_append, List.nil_append, List.length_cons, List.length_nil, Nat.reduceAdd, Nat.zero_add, Nat.reduceLeDiff, true_and]
  refine op_topOrder ha ?_
  simp only [x_Al_product_4, x_Al_product_5, x_Al_product_6, x_Al_product_9, gO_20_1, g21, Option.toList_some, Option.toList_none, List.cons_append, List.nil_append, List.length_cons, List.length_nil, Nat.reduceAdd, Nat.zero_add, Nat.reduceLeDiff, true_and]
  refine op_wipe oO_21 (fun I1 f1 f2 => ?_)
  simp only [x_Al_product_12, x_Al_product_13, x_Al_product_16, x_Al_product_17, gO_20_2, g23, Option.toList_some, Option.toList_none, List.cons_append, List.nil_append, List.length_cons, List.length_nil, Nat.reduceAdd, Nat.zero_add, Nat.reduceLeDiff, true_and]
  refine op_become oO_23 hb nb4 (fun I2 f3 f4 => ?_)
  simp only [x_Al_product_20, x_Al_product_21, Option.toList_some, Option.toList_none, List.cons_append, List.nil_append, List.length_cons, List.length_nil, Nat.reduceAdd, Nat.zero_add, Nat.reduceLeDiff, true_and]
  rw [f1 cb nb] at f4
  have e1 : om_tb 9 25 (I2 24) = om_tb 5 13 (I cb) := by
    funext i k
    rw [f4 i k]
    split
    · rfl
    · rw [om_tb_out (by omega)]
  have hbb := om_top_b (fun i => decide (0 ≤ om_dg 13 (om_tb 5 13 (I ca)) i)) (5 : Int).toNat
  have h := al_product_l (sc := sc) (d := d + 1) (b := b) (Q := Q) hs ha na na4 om_tb_su rA om_tb_su rB rfl (om_or 5 13 (om_tb 5 13 (I ca)) + 1).toNat 0 I2 (by unfold om_or; omega) (by rw [f3 ca na4, f1 ca na]) (by
    rw [f3 22 (by decide), f2]
    rfl) (by
    rw [e1]
    split <;> rfl) (fun I' f5 f6 => hq I' (fun b b1 b2 => by rw [f5 b b1 b2, f3 b b2, f1 b b1]) f6)
  simpa using h
