/-! the reference's calls: registers, text, output -/
theorem md_isRegister {sc : Int × (Int → Int)} {d : Nat} {h : om_H} {Q : Option om_V → om_H → Prop} {r : Int} (h1 : 0 ≤ r ∧ r < 8 → Q (some (.inl 1)) h) (h0 : ¬ (0 ≤ r ∧ r < 8) → Q (some (.inl 0)) h) : om_R sc d 99 0 [.inl r] [] h Q := by
  simp only [x_Md_isRegister_0, x_Md_isRegister_1, x_Md_isRegister_4, x_Md_isRegister_5, x_Md_isRegister_7, x_Md_isRegister_10, x_Md_isRegister_11, x_Md_isRegister_14, x_Md_isRegister_15]
  by_cases q1 : r < 0
  · rw [if_pos q1]
    exact ⟨by decide, h0 (by omega)⟩
  · rw [if_neg q1]
    by_cases q2 : 7 < r
    · rw [if_pos q2]
      exact ⟨by decide, h0 (by omega)⟩
    · rw [if_neg q2]
      exact ⟨by decide, h1 (by omega)⟩
theorem md_type {sc : Int × (Int → Int)} {d : Nat} {s : Int} {q : Nat → Int} {I : Nat → Int → Int} {Q : Option om_V → om_H → Prop} {c : Int} (hl : 0 ≤ q 7 ∧ q 7 ≤ 40) (h0 : ¬ (q 7 < 40 ∧ 33 ≤ c ∧ c ≤ 126) → Q (some (.inl 0)) (om_O s q, I)) (h1 : q 7 < 40 ∧ 33 ≤ c ∧ c ≤ 126 → Q (some (.inl 1)) (om_O s (om_qs q 7 (q 7 + 1)), om_u I 104 (om_p (I 104) (q 7) c))) : om_R sc d 96 0 [.inr (.inl 101), .inl c] [] (om_O s q, I) Q := by
  simp only [x_Md_type_0, x_Md_type_1, x_Md_type_4, x_Md_type_6, gO_101_3]
  by_cases q3 : 40 ≤ q 7
  · rw [if_pos q3]
    simp only [x_Md_type_21, x_Md_type_22]
    exact ⟨by decide, h0 (by omega)⟩
  · rw [if_neg q3]
    simp only [x_Md_type_9, x_Md_type_10, x_Md_type_12]
    by_cases q1 : c < 33
    · rw [if_pos q1]
      simp only [x_Md_type_21, x_Md_type_22]
      exact ⟨by decide, h0 (by omega)⟩
    · rw [if_neg q1]
      simp only [x_Md_type_15, x_Md_type_16, x_Md_type_18]
      by_cases q2 : c ≤ 126
      · rw [if_pos q2]
        simp only [x_Md_type_23, x_Md_type_24, x_Md_type_27, x_Md_type_28, x_Md_type_31, x_Md_type_32, x_Md_type_33, x_Md_type_34, x_Md_type_35, x_Md_type_38, x_Md_type_39, gO_101_3, gO_101_4, aO_104]
        refine ⟨⟨by omega, by omega⟩, ⟨by omega, by omega⟩, ?_⟩
        simp only [x_Md_type_40, x_Md_type_43, x_Md_type_44, pO_101_3 96 (q 7 + 1) rfl]
        exact ⟨by decide, h1 (by omega)⟩
      · rw [if_neg q2]
        simp only [x_Md_type_21, x_Md_type_22]
        exact ⟨by decide, h0 (by omega)⟩
theorem md_clear {sc : Int × (Int → Int)} {d : Nat} {s : Int} {q : Nat → Int} {I : Nat → Int → Int} {Q : Option om_V → om_H → Prop} (hq : Q (some (.inl (q 7))) (om_O s (om_qs q 7 0), I)) : om_R sc d 97 0 [.inr (.inl 101), om_un] [] (om_O s q, I) Q := by
  simp only [x_Md_clear_0, x_Md_clear_1, x_Md_clear_4, x_Md_clear_5, x_Md_clear_6, x_Md_clear_7, x_Md_clear_10, x_Md_clear_11, gO_101_3, pO_101_3 97 0 rfl]
  exact hq
theorem md_at {sc : Int × (Int → Int)} {d : Nat} {s : Int} {q : Nat → Int} {I : Nat → Int → Int} {Q : Option om_V → om_H → Prop} {i : Int} (hl : 0 ≤ q 10 ∧ q 10 ≤ 700) (h1 : 0 ≤ i ∧ i < q 10 → Q (some (.inl (I 107 i))) (om_O s q, I)) (h0 : ¬ (0 ≤ i ∧ i < q 10) → Q (some (.inl (-1))) (om_O s q, I)) : om_R sc d 159 0 [.inr (.inl 101), .inl i] [] (om_O s q, I) Q := by
  simp only [x_Md_at_0, x_Md_at_1, x_Md_at_4, x_Md_at_5, x_Md_at_6, x_Md_at_9, x_Md_at_12, x_Md_at_13, x_Md_at_16, x_Md_at_17, x_Md_at_18, x_Md_at_21, x_Md_at_22, gO_101_9, gO_101_10, aO_107]
  by_cases q1 : i < 0
  · rw [if_pos q1]
    exact h0 (by omega)
  · rw [if_neg q1]
    by_cases q2 : q 10 ≤ i
    · rw [if_pos q2]
      exact h0 (by omega)
    · rw [if_neg q2]
      exact ⟨⟨by omega, by omega⟩, h1 (by omega)⟩
theorem md_order {sc : Int × (Int → Int)} {d : Nat} {s : Int} {q : Nat → Int} {I : Nat → Int → Int} {Q : Option om_V → om_H → Prop} {r : Int} (h0 : ¬ (0 ≤ r ∧ r < 8) → Q (some (.inl (-2))) (om_O s q, I)) (h1 : 0 ≤ r ∧ r < 8 → ∀ I', om_fr I I' 0 → Q (some (.inl (om_or 5 13 (om_hd I r)))) (om_O s q, I')) : om_R sc (d + 3) 128 0 [.inr (.inl 101), .inl r] [] (om_O s q, I) Q := by
  have n10 : ¬ (1 : Int) = 0 := by decide
  simp only [x_Md_order_0, x_Md_order_1, Option.toList_some, Option.toList_none, List.cons_append, List.nil_append, List.length_cons, List.length_nil, Nat.reduceAdd, Nat.zero_add, Nat.reduceLeDiff, true_and]
  refine md_isRegister (fun hr => ?_) (fun hr => ?_)
  · simp only [x_Md_order_4, x_Md_order_7, x_Md_order_9, x_Md_order_10, x_Md_order_11, x_Md_order_12, x_Md_order_13, Option.toList_some, Option.toList_none, List.cons_append, List.nil_append, List.length_cons, List.length_nil, Nat.reduceAdd, Nat.zero_add, Nat.reduceLeDiff, true_and, if_neg n10, rO_101]
    refine md_load (by decide) (by omega) (fun I1 f1 f2 => ?_)
    simp only [x_Md_order_16, x_Md_order_17, x_Md_order_18, Option.toList_some, Option.toList_none, List.cons_append, List.nil_append, List.length_cons, List.length_nil, Nat.reduceAdd, Nat.zero_add, Nat.reduceLeDiff, true_and, rO_101]
    refine md_orderOf (by decide) ?_
    rw [f2, om_or_e (om_hd_su (I := I) (h := r)) (by omega) (by omega) (by omega)]
    simp only [x_Md_order_21, Option.toList_some, Option.toList_none, List.cons_append, List.nil_append, List.length_cons, List.length_nil, Nat.reduceAdd, Nat.zero_add, Nat.reduceLeDiff, true_and]
    exact h1 hr I1 f1
  · simp only [x_Md_order_4, x_Md_order_7, x_Md_order_9, Option.toList_some, Option.toList_none, List.cons_append, List.nil_append, List.length_cons, List.length_nil, Nat.reduceAdd, Nat.zero_add, Nat.reduceLeDiff, true_and, if_true]
    exact h0 hr
theorem md_coefficient {sc : Int × (Int → Int)} {d : Nat} {s : Int} {q : Nat → Int} {I : Nat → Int → Int} {Q : Option om_V → om_H → Prop} {r i k : Int} (h1 : (0 ≤ r ∧ r < 8) ∧ (0 ≤ i ∧ i < 5) ∧ (0 ≤ k ∧ k < 13) → Q (some (.inl (om_hd I r i k))) (om_O s q, I)) (h0 : ¬ ((0 ≤ r ∧ r < 8) ∧ (0 ≤ i ∧ i < 5) ∧ (0 ≤ k ∧ k < 13)) → Q (some (.inl (-1))) (om_O s q, I)) : om_R sc (d + 1) 129 0 [.inr (.inl 101), .inl r, .inl i, .inl k] [] (om_O s q, I) Q := by
  have n10 : ¬ (1 : Int) = 0 := by decide
  simp only [x_Md_coefficient_0, x_Md_coefficient_1, Option.toList_some, Option.toList_none, List.cons_append, List.nil_append, List.length_cons, List.length_nil, Nat.reduceAdd, Nat.zero_add, Nat.reduceLeDiff, true_and]
  refine md_isRegister (fun hr => ?_) (fun hr => ?_)
  · simp only [x_Md_coefficient_4, x_Md_coefficient_7, x_Md_coefficient_8, Option.toList_some, Option.toList_none, List.cons_append, List.nil_append, List.length_cons, List.length_nil, Nat.reduceAdd, Nat.zero_add, Nat.reduceLeDiff, true_and, if_neg n10, x_Md_coefficient_45, x_Md_coefficient_46]
    by_cases q1 : i < 0
    · rw [if_pos q1]
      exact h0 (by omega)
    · rw [if_neg q1]
      simp only [x_Md_coefficient_11, x_Md_coefficient_12, x_Md_coefficient_13, x_Md_coefficient_45, x_Md_coefficient_46]
      by_cases q2 : 5 ≤ i
      · rw [if_pos q2]
        exact h0 (by omega)
      · rw [if_neg q2]
        simp only [x_Md_coefficient_16, x_Md_coefficient_17, x_Md_coefficient_45, x_Md_coefficient_46]
        by_cases q3 : k < 0
        · rw [if_pos q3]
          exact h0 (by omega)
        · rw [if_neg q3]
          simp only [x_Md_coefficient_20, x_Md_coefficient_21, x_Md_coefficient_23, x_Md_coefficient_45, x_Md_coefficient_46]
          by_cases q4 : 13 ≤ k
          · rw [if_pos q4]
            exact h0 (by omega)
          · rw [if_neg q4]
            simp only [x_Md_coefficient_26, x_Md_coefficient_27, x_Md_coefficient_30, x_Md_coefficient_32, x_Md_coefficient_33, x_Md_coefficient_34, x_Md_coefficient_36, x_Md_coefficient_37, x_Md_coefficient_38, x_Md_coefficient_39, x_Md_coefficient_40, x_Md_coefficient_41, x_Md_coefficient_42, x_Md_coefficient_45, x_Md_coefficient_46, gO_101_1, aO_102]
            have e : I 102 (65 * r + 13 * i + k) = om_hd I r i k := (if_pos (by omega)).symm
            rw [e]
            exact ⟨⟨by omega, by omega⟩, ⟨by omega, by omega⟩, ⟨by omega, by omega⟩, ⟨by omega, by omega⟩, ⟨by omega, by omega⟩, h1 (by omega)⟩
  · simp only [x_Md_coefficient_4, x_Md_coefficient_7, x_Md_coefficient_8, x_Md_coefficient_11, x_Md_coefficient_12, x_Md_coefficient_13, x_Md_coefficient_16, x_Md_coefficient_17, x_Md_coefficient_20, x_Md_coefficient_21, x_Md_coefficient_23, x_Md_coefficient_26, x_Md_coefficient_27, x_Md_coefficient_30, x_Md_coefficient_32, x_Md_coefficient_33, x_Md_coefficient_34, x_Md_coefficient_36, x_Md_coefficient_37, x_Md_coefficient_38, x_Md_coefficient_39, x_Md_coefficient_40, x_Md_coefficient_41, x_Md_coefficient_42, x_Md_coefficient_45, x_Md_coefficient_46, Option.toList_some, Option.toList_none, List.cons_append, List.nil_append, List.length_cons, List.length_nil, Nat.reduceAdd, Nat.zero_add, Nat.reduceLeDiff, true_and, if_true]
    exact h0 (fun q => hr q.1)
theorem md_multiply {sc : Int × (Int → Int)} {d : Nat} {s : Int} {q : Nat → Int} {I : Nat → Int → Int} {Q : Option om_V → om_H → Prop} {to a b : Int} (hs : s = 0 ∨ s = 1) (rA : ∀ r, 0 ≤ r → r < 8 → om_r31 (om_hd I r)) (h0 : ¬ ((0 ≤ to ∧ to < 8) ∧ (0 ≤ a ∧ a < 8) ∧ (0 ≤ b ∧ b < 8)) → Q (some (.inl (-1))) (om_O s q, I)) (hl : (0 ≤ to ∧ to < 8) ∧ (0 ≤ a ∧ a < 8) ∧ (0 ≤ b ∧ b < 8) → ¬ om_ft (om_mlt s (om_hd I a) (om_hd I b)) → ∀ I', (∀ b, b ≠ 103 → I' b = I b) → Q (some (.inl (-3))) (om_O s q, I')) (h1 : (0 ≤ to ∧ to < 8) ∧ (0 ≤ a ∧ a < 8) ∧ (0 ≤ b ∧ b < 8) → om_ft (om_mlt s (om_hd I a) (om_hd I b)) → ∀ I', (∀ b, b ≠ 103 → b ≠ 102 → I' b = I b) → (∀ h', h' ≠ to → om_hd I' h' = om_hd I h') → om_hd I' to = om_mlt s (om_hd I a) (om_hd I b) → Q (some (.inl 0)) (om_O s q, I')) : om_R sc (d + 5) 131 0 [.inr (.inl 101), .inl to, .inl a, .inl b] [] (om_O s q, I) Q := by
  have n10 : ¬ (1 : Int) = 0 := by decide
  simp only [x_Md_multiply_0, x_Md_multiply_1, Option.toList_some, Option.toList_none, List.cons_append, List.nil_append, List.length_cons, List.length_nil, Nat.reduceAdd, Nat.zero_add, Nat.reduceLeDiff, true_and]
  refine md_isRegister (fun hr => ?_) (fun hr => ?_)
  · simp only [x_Md_multiply_4, x_Md_multiply_7, x_Md_multiply_8, Option.toList_some, Option.toList_none, List.cons_append, List.nil_append, List.length_cons, List.length_nil, Nat.reduceAdd, Nat.zero_add, Nat.reduceLeDiff, true_and, if_neg n10]
    refine md_isRegister (fun hra => ?_) (fun hra => ?_)
    · simp only [x_Md_multiply_11, x_Md_multiply_14, x_Md_multiply_15, Option.toList_some, Option.toList_none, List.cons_append, List.nil_append, List.length_cons, List.length_nil, Nat.reduceAdd, Nat.zero_add, Nat.reduceLeDiff, true_and, if_neg n10]
      refine md_isRegister (fun hrb => ?_) (fun hrb => ?_)
      · simp only [x_Md_multiply_18, x_Md_multiply_21, x_Md_multiply_22, x_Md_multiply_23, x_Md_multiply_24, x_Md_multiply_25, x_Md_multiply_26, Option.toList_some, Option.toList_none, List.cons_append, List.nil_append, List.length_cons, List.length_nil, Nat.reduceAdd, Nat.zero_add, Nat.reduceLeDiff, true_and, if_neg n10, rO_101]
        refine md_load (by decide) (by omega) (fun I1 f1 f2 => ?_)
        simp only [x_Md_multiply_29, x_Md_multiply_30, x_Md_multiply_31, x_Md_multiply_32, Option.toList_some, Option.toList_none, List.cons_append, List.nil_append, List.length_cons, List.length_nil, Nat.reduceAdd, Nat.zero_add, Nat.reduceLeDiff, true_and, rO_101]
        refine md_load (by decide) (by omega) (fun I2 f3 f4 => ?_)
        have e0 : om_mt I2 0 = om_hd I a := by rw [f3.2 0 (by decide), f2]
        have e1 : om_mt I2 1 = om_hd I b := by rw [f4, om_fr_hd f1]
        simp only [x_Md_multiply_35, x_Md_multiply_36, x_Md_multiply_37, x_Md_multiply_38, x_Md_multiply_39, x_Md_multiply_40, Option.toList_some, Option.toList_none, List.cons_append, List.nil_append, List.length_cons, List.length_nil, Nat.reduceAdd, Nat.zero_add, Nat.reduceLeDiff, true_and, rO_101]
        refine md_multiplyTables hs (by decide) (by decide) (by decide) (by decide) (by decide) (by decide) (by decide) (by decide) (by rw [e0]; exact om_hd_su) (by rw [e0]; exact rA a hra.1 hra.2) (by rw [e1]; exact om_hd_su) (by rw [e1]; exact rA b hrb.1 hrb.2) (fun I3 f5 f6 => ?_)
        rw [e0, e1] at f6
        have fr : ∀ b, b ≠ 103 → I3 b = I b := fun b hb => by rw [f5.1 b hb, f3.1 b hb, f1.1 b hb]
        have eh : om_hd I3 = om_hd I := by
          funext h i k
          unfold om_hd
          rw [fr 102 (by decide)]
        simp only [x_Md_multiply_43, x_Md_multiply_44, x_Md_multiply_45, x_Md_multiply_46, Option.toList_some, Option.toList_none, List.cons_append, List.nil_append, List.length_cons, List.length_nil, Nat.reduceAdd, Nat.zero_add, Nat.reduceLeDiff, true_and, rO_101]
        refine md_keep (by decide) (by omega) (fun hf => ?_) (fun hf I4 f7 f8 => ?_)
        · simp only [x_Md_multiply_49, Option.toList_some, Option.toList_none, List.cons_append, List.nil_append, List.length_cons, List.length_nil, Nat.reduceAdd, Nat.zero_add, Nat.reduceLeDiff, true_and]
          exact hl ⟨hr, hra, hrb⟩ (by rw [f6] at hf; exact hf) I3 fr
        · simp only [x_Md_multiply_49, Option.toList_some, Option.toList_none, List.cons_append, List.nil_append, List.length_cons, List.length_nil, Nat.reduceAdd, Nat.zero_add, Nat.reduceLeDiff, true_and]
          exact h1 ⟨hr, hra, hrb⟩ (by rw [f6] at hf; exact hf) I4 (fun b b1 b2 => by rw [f7.1 b b2, fr b b1]) (fun h' hh => by rw [f7.2 h' hh, eh]) (by rw [f8, f6])
      · simp only [x_Md_multiply_18, x_Md_multiply_21, x_Md_multiply_22, Option.toList_some, Option.toList_none, List.cons_append, List.nil_append, List.length_cons, List.length_nil, Nat.reduceAdd, Nat.zero_add, Nat.reduceLeDiff, true_and, if_true]
        exact h0 (fun q => hrb q.2.2)
    · simp only [x_Md_multiply_11, x_Md_multiply_14, x_Md_multiply_15, x_Md_multiply_18, x_Md_multiply_21, x_Md_multiply_22, Option.toList_some, Option.toList_none, List.cons_append, List.nil_append, List.length_cons, List.length_nil, Nat.reduceAdd, Nat.zero_add, Nat.reduceLeDiff, true_and, if_true]
      exact h0 (fun q => hra q.2.1)
  · simp only [x_Md_multiply_4, x_Md_multiply_7, x_Md_multiply_8, x_Md_multiply_11, x_Md_multiply_14, x_Md_multiply_15, x_Md_multiply_18, x_Md_multiply_21, x_Md_multiply_22, Option.toList_some, Option.toList_none, List.cons_append, List.nil_append, List.length_cons, List.length_nil, Nat.reduceAdd, Nat.zero_add, Nat.reduceLeDiff, true_and, if_true]
    exact h0 (fun q => hr q.1)
theorem om_or_0 {A : Int → Int → Int} (hA : om_su 5 13 A) (h : om_or 5 13 A ≤ 0) : om_su 1 13 A := by
  intro i k hn
  by_cases hi : 1 ≤ i
  · exact om_or_n hA i k (by omega)
  · exact hA i k (by omega)
theorem om_r0_1 {A : Int → Int → Int} (hA : om_su 1 13 A) : om_r0 A = A := by
  funext j k
  unfold om_r0
  split
  · rename_i h
    rw [h]
  · exact (hA j k (by omega)).symm
theorem md_apply {sc : Int × (Int → Int)} {d : Nat} {s : Int} {q : Nat → Int} {I : Nat → Int → Int} {Q : Option om_V → om_H → Prop} {to a f : Int} (hs : s = 0 ∨ s = 1) (rA : ∀ r, 0 ≤ r → r < 8 → om_r31 (om_hd I r)) (h0 : ¬ ((0 ≤ to ∧ to < 8) ∧ (0 ≤ a ∧ a < 8) ∧ (0 ≤ f ∧ f < 8)) → Q (some (.inl (-1))) (om_O s q, I)) (hor : (0 ≤ to ∧ to < 8) ∧ (0 ≤ a ∧ a < 8) ∧ (0 ≤ f ∧ f < 8) → 0 < om_or 5 13 (om_hd I f) → ∀ I', (∀ b, b ≠ 103 → I' b = I b) → Q (some (.inl (-5))) (om_O s q, I')) (hl : (0 ≤ to ∧ to < 8) ∧ (0 ≤ a ∧ a < 8) ∧ (0 ≤ f ∧ f < 8) → om_or 5 13 (om_hd I f) ≤ 0 → ¬ om_ft (om_img s (om_hd I a) (om_r0 (om_hd I f)) 5) → ∀ I', (∀ b, b ≠ 103 → I' b = I b) → Q (some (.inl (-3))) (om_O s q, I')) (h1 : (0 ≤ to ∧ to < 8) ∧ (0 ≤ a ∧ a < 8) ∧ (0 ≤ f ∧ f < 8) → om_or 5 13 (om_hd I f) ≤ 0 → om_ft (om_img s (om_hd I a) (om_r0 (om_hd I f)) 5) → ∀ I', (∀ b, b ≠ 103 → b ≠ 102 → I' b = I b) → (∀ h', h' ≠ to → om_hd I' h' = om_hd I h') → om_hd I' to = om_img s (om_hd I a) (om_r0 (om_hd I f)) 5 → Q (some (.inl 0)) (om_O s q, I')) : om_R sc (d + 5) 132 0 [.inr (.inl 101), .inl to, .inl a, .inl f] [] (om_O s q, I) Q := by
  have n10 : ¬ (1 : Int) = 0 := by decide
  simp only [x_Md_apply_0, x_Md_apply_1, Option.toList_some, Option.toList_none, List.cons_append, List.nil_append, List.length_cons, List.length_nil, Nat.reduceAdd, Nat.zero_add, Nat.reduceLeDiff, true_and]
  refine md_isRegister (fun hr => ?_) (fun hr => ?_)
  · simp only [x_Md_apply_4, x_Md_apply_7, x_Md_apply_8, Option.toList_some, Option.toList_none, List.cons_append, List.nil_append, List.length_cons, List.length_nil, Nat.reduceAdd, Nat.zero_add, Nat.reduceLeDiff, true_and, if_neg n10]
    refine md_isRegister (fun hra => ?_) (fun hra => ?_)
    · simp only [x_Md_apply_11, x_Md_apply_14, x_Md_apply_15, Option.toList_some, Option.toList_none, List.cons_append, List.nil_append, List.length_cons, List.length_nil, Nat.reduceAdd, Nat.zero_add, Nat.reduceLeDiff, true_and, if_neg n10]
      refine md_isRegister (fun hrb => ?_) (fun hrb => ?_)
      · simp only [x_Md_apply_18, x_Md_apply_21, x_Md_apply_22, x_Md_apply_23, x_Md_apply_24, x_Md_apply_25, Option.toList_some, Option.toList_none, List.cons_append, List.nil_append, List.length_cons, List.length_nil, Nat.reduceAdd, Nat.zero_add, Nat.reduceLeDiff, true_and, if_neg n10, rO_101]
        refine md_order (fun hn => absurd hrb hn) (fun _ I0 g0 => ?_)
        simp only [x_Md_apply_28, Option.toList_some, Option.toList_none, List.cons_append, List.nil_append, List.length_cons, List.length_nil, Nat.reduceAdd, Nat.zero_add, Nat.reduceLeDiff, true_and]
        by_cases ho : om_or 5 13 (om_hd I f) ≤ 0
        · rw [if_pos ho]
          simp only [x_Md_apply_34, x_Md_apply_35, x_Md_apply_36, x_Md_apply_37, Option.toList_some, Option.toList_none, List.cons_append, List.nil_append, List.length_cons, List.length_nil, Nat.reduceAdd, Nat.zero_add, Nat.reduceLeDiff, true_and, rO_101]
          refine md_load (by decide) (by omega) (fun I1 f1 f2 => ?_)
          simp only [x_Md_apply_40, x_Md_apply_41, x_Md_apply_42, x_Md_apply_43, Option.toList_some, Option.toList_none, List.cons_append, List.nil_append, List.length_cons, List.length_nil, Nat.reduceAdd, Nat.zero_add, Nat.reduceLeDiff, true_and, rO_101]
          refine md_load (by decide) (by omega) (fun I2 f3 f4 => ?_)
          have e0 : om_mt I2 0 = om_hd I a := by rw [f3.2 0 (by decide), f2, om_fr_hd g0]
          have e1 : om_mt I2 1 = om_hd I f := by rw [f4, om_fr_hd f1, om_fr_hd g0]
          have su1 := om_or_0 om_hd_su ho
          simp only [x_Md_apply_46, x_Md_apply_47, x_Md_apply_48, x_Md_apply_49, x_Md_apply_50, Option.toList_some, Option.toList_none, List.cons_append, List.nil_append, List.length_cons, List.length_nil, Nat.reduceAdd, Nat.zero_add, Nat.reduceLeDiff, true_and, rO_101]
          refine md_applyTables (by decide) (by decide) (by decide) (by decide) (by decide) (by decide) (by rw [e0]; exact om_hd_su) (by rw [e0]; exact rA a hra.1 hra.2) (by rw [e1]; exact su1) (by rw [e1]; exact rA f hrb.1 hrb.2) (fun I3 f5 f6 => ?_)
          rw [e0, e1] at f6
          have fr : ∀ b, b ≠ 103 → I3 b = I b := fun b hb => by rw [f5.1 b hb, f3.1 b hb, f1.1 b hb, g0.1 b hb]
          have eh : om_hd I3 = om_hd I := by
            funext h i k
            unfold om_hd
            rw [fr 102 (by decide)]
          rw [← om_r0_1 su1] at f6
          simp only [x_Md_apply_53, x_Md_apply_54, x_Md_apply_55, x_Md_apply_56, Option.toList_some, Option.toList_none, List.cons_append, List.nil_append, List.length_cons, List.length_nil, Nat.reduceAdd, Nat.zero_add, Nat.reduceLeDiff, true_and, rO_101]
          refine md_keep (by decide) (by omega) (fun hf => ?_) (fun hf I4 f7 f8 => ?_)
          · simp only [x_Md_apply_59, Option.toList_some, Option.toList_none, List.cons_append, List.nil_append, List.length_cons, List.length_nil, Nat.reduceAdd, Nat.zero_add, Nat.reduceLeDiff, true_and]
            exact hl ⟨hr, hra, hrb⟩ ho (by rw [f6] at hf; exact hf) I3 fr
          · simp only [x_Md_apply_59, Option.toList_some, Option.toList_none, List.cons_append, List.nil_append, List.length_cons, List.length_nil, Nat.reduceAdd, Nat.zero_add, Nat.reduceLeDiff, true_and]
            exact h1 ⟨hr, hra, hrb⟩ ho (by rw [f6] at hf; exact hf) I4 (fun b b1 b2 => by rw [f7.1 b b2, fr b b1]) (fun h' hh => by rw [f7.2 h' hh, eh]) (by rw [f8, f6])
        · rw [if_neg ho]
          simp only [x_Md_apply_31, x_Md_apply_33]
          exact hor ⟨hr, hra, hrb⟩ (by omega) I0 g0.1
      · simp only [x_Md_apply_18, x_Md_apply_21, x_Md_apply_22, Option.toList_some, Option.toList_none, List.cons_append, List.nil_append, List.length_cons, List.length_nil, Nat.reduceAdd, Nat.zero_add, Nat.reduceLeDiff, true_and, if_true]
        exact h0 (fun q => hrb q.2.2)
    · simp only [x_Md_apply_11, x_Md_apply_14, x_Md_apply_15, x_Md_apply_18, x_Md_apply_21, x_Md_apply_22, Option.toList_some, Option.toList_none, List.cons_append, List.nil_append, List.length_cons, List.length_nil, Nat.reduceAdd, Nat.zero_add, Nat.reduceLeDiff, true_and, if_true]
      exact h0 (fun q => hra q.2.1)
  · simp only [x_Md_apply_4, x_Md_apply_7, x_Md_apply_8, x_Md_apply_11, x_Md_apply_14, x_Md_apply_15, x_Md_apply_18, x_Md_apply_21, x_Md_apply_22, Option.toList_some, Option.toList_none, List.cons_append, List.nil_append, List.length_cons, List.length_nil, Nat.reduceAdd, Nat.zero_add, Nat.reduceLeDiff, true_and, if_true]
    exact h0 (fun q => hr q.1)
