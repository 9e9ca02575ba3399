/-! the class's calls: text, output, lines, solutions -/
theorem or_type {sc : Int × (Int → Int)} {d : Nat} {s : Int} {q : Nat → Int} {I : Nat → Int → Int} {Q : Option om_V → om_H → Prop} {c : Int} (hl : 0 ≤ q 1 ∧ q 1 ≤ 40) (h0 : ¬ (q 1 < 40 ∧ 33 ≤ c ∧ c ≤ 126) → Q (some (.inl 0)) (om_O s q, I)) (h1 : q 1 < 40 ∧ 33 ≤ c ∧ c ≤ 126 → Q (some (.inl 1)) (om_O s (om_qs q 1 (q 1 + 1)), om_u I 26 (om_p (I 26) (q 1) c))) : om_R sc (d + 1) 10 0 [.inr (.inl 0), .inl c] [] (om_O s q, I) Q := by
  simp only [x_Or_type_0, x_Or_type_1, x_Or_type_3]
  by_cases q1 : c < 33
  · rw [if_pos q1]
    simp only [x_Or_type_12, x_Or_type_13]
    exact ⟨by decide, h0 (by omega)⟩
  · rw [if_neg q1]
    simp only [x_Or_type_6, x_Or_type_7, x_Or_type_9]
    by_cases q2 : c ≤ 126
    · rw [if_pos q2]
      simp only [x_Or_type_14, x_Or_type_15, x_Or_type_18, x_Or_type_19, gO_0_2, rO_25, Option.toList_some, Option.toList_none, List.cons_append, List.nil_append, List.length_cons, List.length_nil, Nat.reduceAdd, Nat.zero_add, Nat.reduceLeDiff, true_and]
      simp only [x_Pa_keep_0, x_Pa_keep_1, x_Pa_keep_4, x_Pa_keep_6, gO_25_2]
      by_cases q3 : q 1 < 40
      · rw [if_pos q3]
        simp only [x_Pa_keep_11, x_Pa_keep_12, x_Pa_keep_15, x_Pa_keep_16, x_Pa_keep_19, x_Pa_keep_20, x_Pa_keep_21, x_Pa_keep_22, x_Pa_keep_23, x_Pa_keep_26, x_Pa_keep_27, gO_25_1, gO_25_2, aO_26]
        refine ⟨⟨by omega, by omega⟩, ⟨by omega, by omega⟩, ⟨by omega, by omega⟩, ?_⟩
        simp only [x_Pa_keep_28, x_Pa_keep_31, x_Pa_keep_32, pO_25_2 11 (q 1 + 1) rfl]
        refine ⟨by decide, ?_⟩
        simp only [x_Or_type_22, Option.toList_some, Option.toList_none, List.cons_append, List.nil_append, List.length_cons, List.length_nil, Nat.reduceAdd, Nat.zero_add, Nat.reduceLeDiff, true_and]
        exact ⟨by decide, h1 (by omega)⟩
      · rw [if_neg q3]
        simp only [x_Pa_keep_9, x_Pa_keep_10]
        refine ⟨by decide, ?_⟩
        simp only [x_Or_type_22, Option.toList_some, Option.toList_none, List.cons_append, List.nil_append, List.length_cons, List.length_nil, Nat.reduceAdd, Nat.zero_add, Nat.reduceLeDiff, true_and]
        exact ⟨by decide, h0 (by omega)⟩
    · rw [if_neg q2]
      simp only [x_Or_type_12, x_Or_type_13]
      exact ⟨by decide, h0 (by omega)⟩
theorem or_clear {sc : Int × (Int → Int)} {d : Nat} {s : Int} {q : Nat → Int} {I : Nat → Int → Int} {Q : Option om_V → om_H → Prop} (hq : Q (some (.inl (q 1))) (om_O s (om_qs q 1 0), I)) : om_R sc (d + 1) 12 0 [.inr (.inl 0)] [] (om_O s q, I) Q := by
  simp only [x_Or_clear_0, x_Or_clear_1, x_Or_clear_4, gO_0_2, rO_25, Option.toList_some, Option.toList_none, List.cons_append, List.nil_append, List.length_cons, List.length_nil, Nat.reduceAdd, Nat.zero_add, Nat.reduceLeDiff, true_and]
  simp only [x_Pa_forget_0, x_Pa_forget_1, x_Pa_forget_4, x_Pa_forget_5, x_Pa_forget_6, x_Pa_forget_7, x_Pa_forget_10, x_Pa_forget_11, gO_25_2, pO_25_2 13 0 rfl]
  simp only [x_Or_clear_7, Option.toList_some, Option.toList_none, List.cons_append, List.nil_append, List.length_cons, List.length_nil, Nat.reduceAdd, Nat.zero_add, Nat.reduceLeDiff, true_and]
  exact hq
theorem or_at {sc : Int × (Int → Int)} {d : Nat} {s : Int} {q : Nat → Int} {I : Nat → Int → Int} {Q : Option om_V → om_H → Prop} {i : Int} (hl : 0 ≤ q 0 ∧ q 0 ≤ 650) (h1 : 0 ≤ i ∧ i < q 0 → Q (some (.inl (I 3 i))) (om_O s q, I)) (h0 : ¬ (0 ≤ i ∧ i < q 0) → Q (some (.inl (-1))) (om_O s q, I)) : om_R sc (d + 1) 93 0 [.inr (.inl 0), .inl i] [] (om_O s q, I) Q := by
  have n10 : ¬ (1 : Int) = 0 := by decide
  simp only [x_Or_at_0, x_Or_at_1, x_Or_at_2, x_Or_at_5, x_Or_at_8, x_Or_at_9, x_Or_at_10, gO_0_7, gO_2_1, Option.toList_some, Option.toList_none, List.cons_append, List.nil_append, List.length_cons, List.length_nil, Nat.reduceAdd, Nat.zero_add, Nat.reduceLeDiff, true_and]
  refine ⟨⟨by omega, by omega⟩, or_isWithin (fun hi => ?_) (fun hi => ?_)⟩
  · simp only [x_Or_at_13, x_Or_at_16, x_Or_at_17, x_Or_at_20, x_Or_at_23, x_Or_at_24, x_Or_at_25, x_Or_at_28, x_Or_at_29, Option.toList_some, Option.toList_none, List.cons_append, List.nil_append, List.length_cons, List.length_nil, Nat.reduceAdd, Nat.zero_add, Nat.reduceLeDiff, true_and, if_neg n10, gO_0_7, gO_2_0, aO_3]
    exact ⟨⟨by omega, by omega⟩, h1 (by omega)⟩
  · simp only [x_Or_at_13, x_Or_at_16, x_Or_at_17, x_Or_at_20, x_Or_at_23, x_Or_at_24, x_Or_at_25, x_Or_at_28, x_Or_at_29, Option.toList_some, Option.toList_none, List.cons_append, List.nil_append, List.length_cons, List.length_nil, Nat.reduceAdd, Nat.zero_add, Nat.reduceLeDiff, true_and, if_true]
    exact h0 (by omega)
theorem or_line {sc : Int × (Int → Int)} {d : Nat} {s : Int} {q : Nat → Int} {I : Nat → Int → Int} {Q : Option om_V → om_H → Prop} {i : Int} (hl : 0 ≤ q 6 ∧ q 6 ≤ 961) (h1 : 0 ≤ i ∧ i < q 6 → Q (some (.inl (I 100 i))) (om_O s q, I)) (h0 : ¬ (0 ≤ i ∧ i < q 6) → Q (some (.inl (-1))) (om_O s q, I)) : om_R sc (d + 1) 84 0 [.inr (.inl 0), .inl i] [] (om_O s q, I) Q := by
  have n10 : ¬ (1 : Int) = 0 := by decide
  simp only [x_Or_line_0, x_Or_line_1, x_Or_line_2, x_Or_line_5, x_Or_line_8, x_Or_line_9, x_Or_line_10, gO_0_6, gO_97_3, Option.toList_some, Option.toList_none, List.cons_append, List.nil_append, List.length_cons, List.length_nil, Nat.reduceAdd, Nat.zero_add, Nat.reduceLeDiff, true_and]
  refine ⟨⟨by omega, by omega⟩, or_isWithin (fun hi => ?_) (fun hi => ?_)⟩
  · simp only [x_Or_line_13, x_Or_line_16, x_Or_line_17, x_Or_line_20, x_Or_line_23, x_Or_line_24, x_Or_line_25, x_Or_line_28, x_Or_line_29, Option.toList_some, Option.toList_none, List.cons_append, List.nil_append, List.length_cons, List.length_nil, Nat.reduceAdd, Nat.zero_add, Nat.reduceLeDiff, true_and, if_neg n10, gO_0_6, gO_97_2, aO_100]
    exact ⟨⟨by omega, by omega⟩, h1 (by omega)⟩
  · simp only [x_Or_line_13, x_Or_line_16, x_Or_line_17, x_Or_line_20, x_Or_line_23, x_Or_line_24, x_Or_line_25, x_Or_line_28, x_Or_line_29, Option.toList_some, Option.toList_none, List.cons_append, List.nil_append, List.length_cons, List.length_nil, Nat.reduceAdd, Nat.zero_add, Nat.reduceLeDiff, true_and, if_true]
    exact h0 (by omega)
/-- row i of the class's solutions, as a polynomial -/
def om_csol (I : Nat → Int → Int) (i : Int) (j k : Int) : Int := if j = 0 then om_tb 14 13 (I 96) i k else 0
theorem or_pick {sc : Int × (Int → Int)} {d : Nat} {s : Int} {q : Nat → Int} {I : Nat → Int → Int} {Q : Option om_V → om_H → Prop} {to i : Int} (hd : -1 ≤ q 5 ∧ q 5 ≤ 13) (rF : om_r31 (om_tb 14 13 (I 96))) (h0 : ¬ ((0 ≤ to ∧ to < 8) ∧ 0 ≤ i ∧ i ≤ q 5) → Q (some (.inl (-1))) (om_O s q, I)) (h1 : (0 ≤ to ∧ to < 8) ∧ 0 ≤ i ∧ i ≤ q 5 → ∀ I', (∀ b, b ≠ om_ca to → I' b = I b) → om_cr I' to = om_csol I i → Q (some (.inl (om_dg 13 (om_csol I i) 0 + 1))) (om_O s q, I')) : om_R sc (d + 3) 77 0 [.inr (.inl 0), .inl to, .inl i] [] (om_O s q, I) Q := by
  have n10 : ¬ (1 : Int) = 0 := by decide
  simp only [x_Or_pick_0, x_Or_pick_1, Option.toList_some, Option.toList_none, List.cons_append, List.nil_append, List.length_cons, List.length_nil, Nat.reduceAdd, Nat.zero_add, Nat.reduceLeDiff, true_and]
  refine or_isRegister (fun hr => ?_) (fun hr => ?_)
  · simp only [x_Or_pick_4, x_Or_pick_7, x_Or_pick_8, x_Or_pick_9, x_Or_pick_12, x_Or_pick_15, Option.toList_some, Option.toList_none, List.cons_append, List.nil_append, List.length_cons, List.length_nil, Nat.reduceAdd, Nat.zero_add, Nat.reduceLeDiff, true_and, if_neg n10, gO_0_5, gO_89_5]
    refine or_isWithin (fun hi => ?_) (fun hi => ?_)
    · have gr := (om_op_g (or_reg (s := s) (q := q) hr)).2.2.2
      have nc : 96 ≠ om_ca to := by unfold om_ca; omega
      simp only [x_Or_pick_18, x_Or_pick_21, x_Or_pick_22, x_Or_pick_23, x_Or_pick_24, x_Or_pick_27, x_Or_pick_28, x_Or_pick_29, Option.toList_some, Option.toList_none, List.cons_append, List.nil_append, List.length_cons, List.length_nil, Nat.reduceAdd, Nat.zero_add, Nat.reduceLeDiff, true_and, if_neg n10, gO_0_0, kO_reg hr.1 hr.2, gr]
      refine op_wipe (or_reg hr) (fun I1 f1 f2 => ?_)
      simp only [x_Or_pick_32, x_Or_pick_33, x_Or_pick_36, x_Or_pick_37, x_Or_pick_38, x_Or_pick_39, x_Or_pick_40, x_Or_pick_43, x_Or_pick_46, x_Or_pick_47, Option.toList_some, Option.toList_none, List.cons_append, List.nil_append, List.length_cons, List.length_nil, Nat.reduceAdd, Nat.zero_add, Nat.reduceLeDiff, true_and, gO_0_0, gO_0_5, gO_89_4, kO_reg hr.1 hr.2, gr]
      refine op_copyRow (or_reg hr) oO_95 nc (by decide) (fun I2 f3 f4 => ?_)
      rw [f1 96 nc, f2] at f4
      have e : om_cr I2 to = om_csol I i := by
        funext j k
        unfold om_cr om_csol
        rw [f4 j k]
        have := rF i k
        by_cases hj : j = 0
        · rw [if_pos hj]
          by_cases hk : 0 ≤ k ∧ k < 13
          · rw [if_pos ⟨hj, hk⟩]
            omega
          · rw [if_neg (fun q => hk q.2), om_tb_out (by omega)]
        · rw [if_neg hj, if_neg (fun q => hj q.1)]
      simp only [x_Or_pick_50, x_Or_pick_51, x_Or_pick_54, x_Or_pick_55, x_Or_pick_56, x_Or_pick_57, Option.toList_some, Option.toList_none, List.cons_append, List.nil_append, List.length_cons, List.length_nil, Nat.reduceAdd, Nat.zero_add, Nat.reduceLeDiff, true_and, gO_0_0, kO_reg hr.1 hr.2, gr]
      refine op_topDegree (or_reg hr) ?_
      have e2 : om_top (fun k => decide (om_tb 5 13 (I2 (om_ca to)) 0 k ≠ 0)) (13 : Int).toNat = om_dg 13 (om_csol I i) 0 := by
        rw [← e]
        rfl
      rw [e2]
      have b := om_top_b (fun k => decide (om_csol I i 0 k ≠ 0)) (13 : Int).toNat
      simp only [x_Or_pick_60, x_Or_pick_61, x_Or_pick_62, Option.toList_some, Option.toList_none, List.cons_append, List.nil_append, List.length_cons, List.length_nil, Nat.reduceAdd, Nat.zero_add, Nat.reduceLeDiff, true_and]
      exact ⟨⟨by unfold om_dg; omega, by unfold om_dg; omega⟩, h1 ⟨hr, by omega⟩ I2 (fun b hb => by rw [f3 b hb, f1 b hb]) e⟩
    · simp only [x_Or_pick_18, x_Or_pick_21, x_Or_pick_22, Option.toList_some, Option.toList_none, List.cons_append, List.nil_append, List.length_cons, List.length_nil, Nat.reduceAdd, Nat.zero_add, Nat.reduceLeDiff, true_and, if_true]
      exact h0 (by omega)
  · simp only [x_Or_pick_4, x_Or_pick_7, x_Or_pick_8, x_Or_pick_9, x_Or_pick_12, x_Or_pick_15, x_Or_pick_18, x_Or_pick_21, x_Or_pick_22, Option.toList_some, Option.toList_none, List.cons_append, List.nil_append, List.length_cons, List.length_nil, Nat.reduceAdd, Nat.zero_add, Nat.reduceLeDiff, true_and, if_true]
    exact h0 (fun q => hr q.1)
