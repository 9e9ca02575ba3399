/-! the class's calls: registers -/
theorem or_isWithin {sc : Int × (Int → Int)} {d : Nat} {h : om_H} {Q : Option om_V → om_H → Prop} {n l : Int} (h1 : 0 ≤ n ∧ n ≤ l → Q (some (.inl 1)) h) (h0 : ¬ (0 ≤ n ∧ n ≤ l) → Q (some (.inl 0)) h) : om_R sc d 16 0 [.inl n, .inl l] [] h Q := by
  simp only [x_Or_isWithin_0, x_Or_isWithin_1, x_Or_isWithin_4, x_Or_isWithin_5, x_Or_isWithin_6, x_Or_isWithin_9, x_Or_isWithin_10, x_Or_isWithin_13, x_Or_isWithin_14]
  by_cases q1 : n < 0
  · rw [if_pos q1]
    exact ⟨by decide, h0 (by omega)⟩
  · rw [if_neg q1]
    by_cases q2 : l < n
    · rw [if_pos q2]
      exact ⟨by decide, h0 (by omega)⟩
    · rw [if_neg q2]
      exact ⟨by decide, h1 (by omega)⟩
theorem or_isRegister {sc : Int × (Int → Int)} {d : Nat} {h : om_H} {Q : Option om_V → om_H → Prop} {r : Int} (h1 : 0 ≤ r ∧ r < 8 → Q (some (.inl 1)) h) (h0 : ¬ (0 ≤ r ∧ r < 8) → Q (some (.inl 0)) h) : om_R sc (d + 1) 15 0 [.inl r] [] h Q := by
  simp only [x_Or_isRegister_0, x_Or_isRegister_1, x_Or_isRegister_3, Option.toList_some, Option.toList_none, List.cons_append, List.nil_append, List.length_cons, List.length_nil, Nat.reduceAdd, Nat.zero_add, Nat.reduceLeDiff, true_and]
  refine or_isWithin (fun q => ?_) (fun q => ?_)
  · simp only [x_Or_isRegister_6, Option.toList_some, Option.toList_none, List.cons_append, List.nil_append, List.length_cons, List.length_nil, Nat.reduceAdd, Nat.zero_add, Nat.reduceLeDiff, true_and]
    exact ⟨by decide, h1 (by omega)⟩
  · simp only [x_Or_isRegister_6, Option.toList_some, Option.toList_none, List.cons_append, List.nil_append, List.length_cons, List.length_nil, Nat.reduceAdd, Nat.zero_add, Nat.reduceLeDiff, true_and]
    exact ⟨by decide, h0 (by omega)⟩
theorem or_areRegisters {sc : Int × (Int → Int)} {d : Nat} {h : om_H} {Q : Option om_V → om_H → Prop} {a b c : Int} (h1 : (0 ≤ a ∧ a < 8) ∧ (0 ≤ b ∧ b < 8) ∧ (0 ≤ c ∧ c < 8) → Q (some (.inl 1)) h) (h0 : ¬ ((0 ≤ a ∧ a < 8) ∧ (0 ≤ b ∧ b < 8) ∧ (0 ≤ c ∧ c < 8)) → Q (some (.inl 0)) h) : om_R sc (d + 2) 49 0 [.inl a, .inl b, .inl c] [] h Q := by
  have n10 : ¬ (1 : Int) = 0 := by decide
  simp only [x_Or_areRegisters_0, x_Or_areRegisters_1, Option.toList_some, Option.toList_none, List.cons_append, List.nil_append, List.length_cons, List.length_nil, Nat.reduceAdd, Nat.zero_add, Nat.reduceLeDiff, true_and]
  refine or_isRegister (fun q1 => ?_) (fun q1 => ?_)
  · simp only [x_Or_areRegisters_4, x_Or_areRegisters_7, x_Or_areRegisters_8, Option.toList_some, Option.toList_none, List.cons_append, List.nil_append, List.length_cons, List.length_nil, Nat.reduceAdd, Nat.zero_add, Nat.reduceLeDiff, true_and, if_neg n10]
    refine or_isRegister (fun q2 => ?_) (fun q2 => ?_)
    · simp only [x_Or_areRegisters_11, x_Or_areRegisters_14, x_Or_areRegisters_15, Option.toList_some, Option.toList_none, List.cons_append, List.nil_append, List.length_cons, List.length_nil, Nat.reduceAdd, Nat.zero_add, Nat.reduceLeDiff, true_and, if_neg n10]
      refine or_isRegister (fun q3 => ?_) (fun q3 => ?_)
      · simp only [x_Or_areRegisters_18, x_Or_areRegisters_21, x_Or_areRegisters_22, x_Or_areRegisters_25, x_Or_areRegisters_26, Option.toList_some, Option.toList_none, List.cons_append, List.nil_append, List.length_cons, List.length_nil, Nat.reduceAdd, Nat.zero_add, Nat.reduceLeDiff, true_and, if_neg n10]
        exact ⟨by decide, h1 ⟨q1, q2, q3⟩⟩
      · simp only [x_Or_areRegisters_18, x_Or_areRegisters_21, x_Or_areRegisters_22, x_Or_areRegisters_25, x_Or_areRegisters_26, Option.toList_some, Option.toList_none, List.cons_append, List.nil_append, List.length_cons, List.length_nil, Nat.reduceAdd, Nat.zero_add, Nat.reduceLeDiff, true_and, if_true]
        exact ⟨by decide, h0 (fun q => q3 q.2.2)⟩
    · simp only [x_Or_areRegisters_11, x_Or_areRegisters_14, x_Or_areRegisters_15, x_Or_areRegisters_18, x_Or_areRegisters_21, x_Or_areRegisters_22, x_Or_areRegisters_25, x_Or_areRegisters_26, Option.toList_some, Option.toList_none, List.cons_append, List.nil_append, List.length_cons, List.length_nil, Nat.reduceAdd, Nat.zero_add, Nat.reduceLeDiff, true_and, if_true]
      exact ⟨by decide, h0 (fun q => q2 q.2.1)⟩
  · simp only [x_Or_areRegisters_4, x_Or_areRegisters_7, x_Or_areRegisters_8, x_Or_areRegisters_11, x_Or_areRegisters_14, x_Or_areRegisters_15, x_Or_areRegisters_18, x_Or_areRegisters_21, x_Or_areRegisters_22, x_Or_areRegisters_25, x_Or_areRegisters_26, Option.toList_some, Option.toList_none, List.cons_append, List.nil_append, List.length_cons, List.length_nil, Nat.reduceAdd, Nat.zero_add, Nat.reduceLeDiff, true_and, if_true]
    exact ⟨by decide, h0 (fun q => q1 q.1)⟩
/-- a register of the class -/
abbrev om_ca (r : Int) : Nat := 5 + 2 * r.toNat
def om_cr (I : Nat → Int → Int) (r : Int) : Int → Int → Int := om_tb 5 13 (I (om_ca r))
theorem om_cr_su {I : Nat → Int → Int} {r : Int} : om_su 5 13 (om_cr I r) := om_tb_su
theorem or_reg {s : Int} {q : Nat → Int} {r : Int} (h : 0 ≤ r ∧ r < 8) : om_op (om_O s q) (4 + 2 * r.toNat) (om_ca r) 5 13 := oO_reg (by omega)
theorem or_store {sc : Int × (Int → Int)} {d : Nat} {s : Int} {q : Nat → Int} {I : Nat → Int → Int} {Q : Option om_V → om_H → Prop} {to : Int} {a c : Nat} {o w : Int} (hto : 0 ≤ to ∧ to < 8) (ho : om_op (om_O s q) a c o w) (hc : 20 ≤ c) (h0 : ¬ om_ft (om_tb o w (I c)) → Q (some (.inl (-3))) (om_O s q, I)) (h1 : om_ft (om_tb o w (I c)) → ∀ I', (∀ b, b ≠ om_ca to → I' b = I b) → om_cr I' to = om_tb o w (I c) → Q (some (.inl 0)) (om_O s q, I')) : om_R sc (d + 3) 51 0 [.inr (.inl 0), .inl to, .inr (.inl a)] [] (om_O s q, I) Q := by
  have ga := (om_op_g ho).2.2.2
  have n10 : ¬ (1 : Int) = 0 := by decide
  simp only [x_Or_store_0, x_Or_store_1, ga, Option.toList_some, Option.toList_none, List.cons_append, List.nil_append, List.length_cons, List.length_nil, Nat.reduceAdd, Nat.zero_add, Nat.reduceLeDiff, true_and]
  refine op_fits ho (fun hf => ?_) (fun hf => ?_)
  · have gr := (om_op_g (or_reg (s := s) (q := q) hto)).2.2.2
    simp only [x_Or_store_4, x_Or_store_7, x_Or_store_9, x_Or_store_10, x_Or_store_11, x_Or_store_14, x_Or_store_15, x_Or_store_16, x_Or_store_17, Option.toList_some, Option.toList_none, List.cons_append, List.nil_append, List.length_cons, List.length_nil, Nat.reduceAdd, Nat.zero_add, Nat.reduceLeDiff, true_and, if_neg n10, gO_0_0, kO_reg hto.1 hto.2, gr]
    refine op_become (or_reg hto) ho (by unfold om_ca; omega) (fun I1 f1 f2 => ?_)
    simp only [x_Or_store_20, x_Or_store_21, Option.toList_some, Option.toList_none, List.cons_append, List.nil_append, List.length_cons, List.length_nil, Nat.reduceAdd, Nat.zero_add, Nat.reduceLeDiff, true_and]
    refine h1 hf I1 f1 ?_
    funext i k
    unfold om_cr
    rw [f2 i k]
    split
    · rfl
    · rename_i hn
      have e : om_tb o w (I c) i k = 0 := Decidable.byContradiction (fun q => hn (by have := hf i k q; omega))
      rw [e]
  · simp only [x_Or_store_4, x_Or_store_7, x_Or_store_9, Option.toList_some, Option.toList_none, List.cons_append, List.nil_append, List.length_cons, List.length_nil, Nat.reduceAdd, Nat.zero_add, Nat.reduceLeDiff, true_and, if_true]
    exact h0 hf
theorem or_order {sc : Int × (Int → Int)} {d : Nat} {s : Int} {q : Nat → Int} {I : Nat → Int → Int} {Q : Option om_V → om_H → Prop} {r : Int} (h1 : 0 ≤ r ∧ r < 8 → Q (some (.inl (om_or 5 13 (om_cr I r)))) (om_O s q, I)) (h0 : ¬ (0 ≤ r ∧ r < 8) → Q (some (.inl (-2))) (om_O s q, I)) : om_R sc (d + 2) 46 0 [.inr (.inl 0), .inl r] [] (om_O s q, I) Q := by
  have n10 : ¬ (1 : Int) = 0 := by decide
  simp only [x_Or_order_0, x_Or_order_1, Option.toList_some, Option.toList_none, List.cons_append, List.nil_append, List.length_cons, List.length_nil, Nat.reduceAdd, Nat.zero_add, Nat.reduceLeDiff, true_and]
  refine or_isRegister (fun hr => ?_) (fun hr => ?_)
  · have gr := (om_op_g (or_reg (s := s) (q := q) hr)).2.2.2
    simp only [x_Or_order_4, x_Or_order_7, x_Or_order_8, x_Or_order_11, x_Or_order_12, x_Or_order_13, Option.toList_some, Option.toList_none, List.cons_append, List.nil_append, List.length_cons, List.length_nil, Nat.reduceAdd, Nat.zero_add, Nat.reduceLeDiff, true_and, if_neg n10, gO_0_0, kO_reg hr.1 hr.2, gr]
    refine op_topOrder (or_reg hr) ?_
    simp only [x_Or_order_16, x_Or_order_19, x_Or_order_21, Option.toList_some, Option.toList_none, List.cons_append, List.nil_append, List.length_cons, List.length_nil, Nat.reduceAdd, Nat.zero_add, Nat.reduceLeDiff, true_and]
    exact h1 hr
  · simp only [x_Or_order_4, x_Or_order_7, x_Or_order_8, x_Or_order_11, x_Or_order_12, x_Or_order_13, x_Or_order_16, x_Or_order_19, x_Or_order_21, Option.toList_some, Option.toList_none, List.cons_append, List.nil_append, List.length_cons, List.length_nil, Nat.reduceAdd, Nat.zero_add, Nat.reduceLeDiff, true_and, if_true]
    exact h0 hr
theorem or_coefficient {sc : Int × (Int → Int)} {d : Nat} {s : Int} {q : Nat → Int} {I : Nat → Int → Int} {Q : Option om_V → om_H → Prop} {r i k : Int} (h1 : (0 ≤ r ∧ r < 8) ∧ (0 ≤ i ∧ i < 5) ∧ (0 ≤ k ∧ k < 13) → Q (some (.inl (om_cr I r i k))) (om_O s q, I)) (h0 : ¬ ((0 ≤ r ∧ r < 8) ∧ (0 ≤ i ∧ i < 5) ∧ (0 ≤ k ∧ k < 13)) → Q (some (.inl (-1))) (om_O s q, I)) : om_R sc (d + 2) 47 0 [.inr (.inl 0), .inl r, .inl i, .inl k] [] (om_O s q, I) Q := by
  have n10 : ¬ (1 : Int) = 0 := by decide
  simp only [x_Or_coefficient_0, x_Or_coefficient_1, Option.toList_some, Option.toList_none, List.cons_append, List.nil_append, List.length_cons, List.length_nil, Nat.reduceAdd, Nat.zero_add, Nat.reduceLeDiff, true_and]
  refine or_isRegister (fun hr => ?_) (fun hr => ?_)
  · simp only [x_Or_coefficient_4, x_Or_coefficient_7, x_Or_coefficient_8, x_Or_coefficient_9, Option.toList_some, Option.toList_none, List.cons_append, List.nil_append, List.length_cons, List.length_nil, Nat.reduceAdd, Nat.zero_add, Nat.reduceLeDiff, true_and, if_neg n10]
    refine or_isWithin (fun hi => ?_) (fun hi => ?_)
    · simp only [x_Or_coefficient_12, x_Or_coefficient_15, x_Or_coefficient_16, x_Or_coefficient_18, Option.toList_some, Option.toList_none, List.cons_append, List.nil_append, List.length_cons, List.length_nil, Nat.reduceAdd, Nat.zero_add, Nat.reduceLeDiff, true_and, if_neg n10]
      refine or_isWithin (fun hk => ?_) (fun hk => ?_)
      · have gr := (om_op_g (or_reg (s := s) (q := q) hr)).2.2.2
        simp only [x_Or_coefficient_21, x_Or_coefficient_24, x_Or_coefficient_25, x_Or_coefficient_26, x_Or_coefficient_27, x_Or_coefficient_30, x_Or_coefficient_31, x_Or_coefficient_32, x_Or_coefficient_33, x_Or_coefficient_34, Option.toList_some, Option.toList_none, List.cons_append, List.nil_append, List.length_cons, List.length_nil, Nat.reduceAdd, Nat.zero_add, Nat.reduceLeDiff, true_and, if_neg n10, gO_0_0, kO_reg hr.1 hr.2, gr]
        refine op_get (or_reg hr) ?_
        simp only [x_Or_coefficient_37, Option.toList_some, Option.toList_none, List.cons_append, List.nil_append, List.length_cons, List.length_nil, Nat.reduceAdd, Nat.zero_add, Nat.reduceLeDiff, true_and]
        exact h1 ⟨hr, by omega, by omega⟩
      · simp only [x_Or_coefficient_21, x_Or_coefficient_24, x_Or_coefficient_25, Option.toList_some, Option.toList_none, List.cons_append, List.nil_append, List.length_cons, List.length_nil, Nat.reduceAdd, Nat.zero_add, Nat.reduceLeDiff, true_and, if_true]
        exact h0 (by omega)
    · simp only [x_Or_coefficient_12, x_Or_coefficient_15, x_Or_coefficient_16, x_Or_coefficient_18, x_Or_coefficient_21, x_Or_coefficient_24, x_Or_coefficient_25, Option.toList_some, Option.toList_none, List.cons_append, List.nil_append, List.length_cons, List.length_nil, Nat.reduceAdd, Nat.zero_add, Nat.reduceLeDiff, true_and, if_true]
      exact h0 (by omega)
  · simp only [x_Or_coefficient_4, x_Or_coefficient_7, x_Or_coefficient_8, x_Or_coefficient_9, x_Or_coefficient_12, x_Or_coefficient_15, x_Or_coefficient_16, x_Or_coefficient_18, x_Or_coefficient_21, x_Or_coefficient_24, x_Or_coefficient_25, Option.toList_some, Option.toList_none, List.cons_append, List.nil_append, List.length_cons, List.length_nil, Nat.reduceAdd, Nat.zero_add, Nat.reduceLeDiff, true_and, if_true]
    exact h0 (fun q => hr q.1)
theorem or_add {sc : Int × (Int → Int)} {d : Nat} {s : Int} {q : Nat → Int} {I : Nat → Int → Int} {Q : Option om_V → om_H → Prop} {to a b t : Int} (rA : ∀ r, 0 ≤ r → r < 8 → om_r31 (om_cr I r)) (h0 : ¬ (((0 ≤ to ∧ to < 8) ∧ (0 ≤ a ∧ a < 8) ∧ (0 ≤ b ∧ b < 8)) ∧ 0 ≤ t ∧ t < 31) → Q (some (.inl (-1))) (om_O s q, I)) (h1 : ((0 ≤ to ∧ to < 8) ∧ (0 ≤ a ∧ a < 8) ∧ (0 ≤ b ∧ b < 8)) ∧ 0 ≤ t ∧ t < 31 → ∀ I', (∀ b, b ≠ om_ca to → b ≠ 22 → I' b = I b) → om_cr I' to = om_ad (om_cr I a) (om_cr I b) t → Q (some (.inl 0)) (om_O s q, I')) : om_R sc (d + 4) 48 0 [.inr (.inl 0), .inl to, .inl a, .inl b, .inl t, om_un] [] (om_O s q, I) Q := by
  have n10 : ¬ (1 : Int) = 0 := by decide
  simp only [x_Or_add_0, x_Or_add_1, x_Or_add_2, x_Or_add_3, Option.toList_some, Option.toList_none, List.cons_append, List.nil_append, List.length_cons, List.length_nil, Nat.reduceAdd, Nat.zero_add, Nat.reduceLeDiff, true_and]
  refine or_areRegisters (fun hr => ?_) (fun hr => ?_)
  · simp only [x_Or_add_6, x_Or_add_9, x_Or_add_11, x_Or_add_13, Option.toList_some, Option.toList_none, List.cons_append, List.nil_append, List.length_cons, List.length_nil, Nat.reduceAdd, Nat.zero_add, Nat.reduceLeDiff, true_and, if_neg n10]
    refine or_isWithin (fun ht => ?_) (fun ht => ?_)
    · simp only [x_Or_add_16, x_Or_add_19, x_Or_add_20, x_Or_add_21, x_Or_add_22, x_Or_add_25, x_Or_add_26, x_Or_add_29, x_Or_add_30, x_Or_add_31, x_Or_add_32, x_Or_add_35, x_Or_add_36, x_Or_add_37, x_Or_add_39, Option.toList_some, Option.toList_none, List.cons_append, List.nil_append, List.length_cons, List.length_nil, Nat.reduceAdd, Nat.zero_add, Nat.reduceLeDiff, true_and, if_neg n10, gO_0_0, gO_0_1, kO_reg hr.2.1.1 hr.2.1.2, kO_reg hr.2.2.1 hr.2.2.2, rO_20]
      refine al_sum (or_reg hr.2.1) (or_reg hr.2.2) (by unfold om_ca; omega) (by unfold om_ca; omega) (by omega) (rA a hr.2.1.1 hr.2.1.2) (rA b hr.2.2.1 hr.2.2.2) (fun I1 f1 f2 => ?_)
      simp only [x_Or_add_42, x_Or_add_44, x_Or_add_45, x_Or_add_46, x_Or_add_48, Option.toList_some, Option.toList_none, List.cons_append, List.nil_append, List.length_cons, List.length_nil, Nat.reduceAdd, Nat.zero_add, Nat.reduceLeDiff, true_and, rO_0]
      have hft : om_ft (om_tb 9 25 (I1 22)) := by
        rw [f2]
        intro i k hk
        have := Decidable.byContradiction (fun q => hk (om_ad_su (om_cr_su (I := I) (r := a)) (om_cr_su (I := I) (r := b)) i k q))
        omega
      refine or_store hr.1 oO_21 (by decide) (fun hf => absurd hft hf) (fun hf I2 f3 f4 => ?_)
      simp only [x_Or_add_51, Option.toList_some, Option.toList_none, List.cons_append, List.nil_append, List.length_cons, List.length_nil, Nat.reduceAdd, Nat.zero_add, Nat.reduceLeDiff, true_and]
      exact h1 ⟨hr, by omega⟩ I2 (fun b b1 b2 => by rw [f3 b b1, f1 b b2]) (by rw [f4, f2]; rfl)
    · simp only [x_Or_add_16, x_Or_add_19, x_Or_add_20, Option.toList_some, Option.toList_none, List.cons_append, List.nil_append, List.length_cons, List.length_nil, Nat.reduceAdd, Nat.zero_add, Nat.reduceLeDiff, true_and, if_true]
      exact h0 (by omega)
  · simp only [x_Or_add_6, x_Or_add_9, x_Or_add_11, x_Or_add_13, x_Or_add_16, x_Or_add_19, x_Or_add_20, Option.toList_some, Option.toList_none, List.cons_append, List.nil_append, List.length_cons, List.length_nil, Nat.reduceAdd, Nat.zero_add, Nat.reduceLeDiff, true_and, if_true]
    exact h0 (fun q => hr q.1)
theorem or_multiply {sc : Int × (Int → Int)} {d : Nat} {s : Int} {q : Nat → Int} {I : Nat → Int → Int} {Q : Option om_V → om_H → Prop} {to a b : Int} (hs : s = 0 ∨ s = 1) (rA : ∀ r, 0 ≤ r → r < 8 → om_r31 (om_cr I r)) (h0 : ¬ ((0 ≤ to ∧ to < 8) ∧ (0 ≤ a ∧ a < 8) ∧ (0 ≤ b ∧ b < 8)) → Q (some (.inl (-1))) (om_O s q, I)) (hl : (0 ≤ to ∧ to < 8) ∧ (0 ≤ a ∧ a < 8) ∧ (0 ≤ b ∧ b < 8) → ¬ om_ft (om_mlt s (om_cr I a) (om_cr I b)) → ∀ I', (∀ b, b ≠ 22 → b ≠ 24 → I' b = I b) → Q (some (.inl (-3))) (om_O s q, I')) (h1 : (0 ≤ to ∧ to < 8) ∧ (0 ≤ a ∧ a < 8) ∧ (0 ≤ b ∧ b < 8) → om_ft (om_mlt s (om_cr I a) (om_cr I b)) → ∀ I', (∀ b, b ≠ om_ca to → b ≠ 22 → b ≠ 24 → I' b = I b) → om_cr I' to = om_mlt s (om_cr I a) (om_cr I b) → Q (some (.inl 0)) (om_O s q, I')) : om_R sc (d + 4) 52 0 [.inr (.inl 0), .inl to, .inl a, .inl b] [] (om_O s q, I) Q := by
  have n10 : ¬ (1 : Int) = 0 := by decide
  simp only [x_Or_multiply_0, x_Or_multiply_1, x_Or_multiply_2, x_Or_multiply_3, Option.toList_some, Option.toList_none, List.cons_append, List.nil_append, List.length_cons, List.length_nil, Nat.reduceAdd, Nat.zero_add, Nat.reduceLeDiff, true_and]
  refine or_areRegisters (fun hr => ?_) (fun hr => ?_)
  · simp only [x_Or_multiply_6, x_Or_multiply_9, x_Or_multiply_10, x_Or_multiply_11, x_Or_multiply_12, x_Or_multiply_13, x_Or_multiply_14, x_Or_multiply_17, x_Or_multiply_18, x_Or_multiply_21, x_Or_multiply_22, x_Or_multiply_23, x_Or_multiply_24, x_Or_multiply_27, x_Or_multiply_28, x_Or_multiply_29, Option.toList_some, Option.toList_none, List.cons_append, List.nil_append, List.length_cons, List.length_nil, Nat.reduceAdd, Nat.zero_add, Nat.reduceLeDiff, true_and, if_neg n10, gO_0_0, gO_0_1, kO_reg hr.2.1.1 hr.2.1.2, kO_reg hr.2.2.1 hr.2.2.2, rO_20]
    refine al_product hs (or_reg hr.2.1) (or_reg hr.2.2) (by unfold om_ca; omega) (by unfold om_ca; omega) (by unfold om_ca; omega) (by unfold om_ca; omega) (rA a hr.2.1.1 hr.2.1.2) (rA b hr.2.2.1 hr.2.2.2) (fun I1 f1 f2 => ?_)
    simp only [x_Or_multiply_32, Option.toList_some, Option.toList_none, List.cons_append, List.nil_append, List.length_cons, List.length_nil, Nat.reduceAdd, Nat.zero_add, Nat.reduceLeDiff, true_and, rO_0]
    refine or_store hr.1 oO_21 (by decide) (fun hf => ?_) (fun hf I2 f3 f4 => ?_)
    · simp only [x_Or_multiply_35, Option.toList_some, Option.toList_none, List.cons_append, List.nil_append, List.length_cons, List.length_nil, Nat.reduceAdd, Nat.zero_add, Nat.reduceLeDiff, true_and]
      exact hl hr (by rw [f2] at hf; exact hf) I1 f1
    · simp only [x_Or_multiply_35, Option.toList_some, Option.toList_none, List.cons_append, List.nil_append, List.length_cons, List.length_nil, Nat.reduceAdd, Nat.zero_add, Nat.reduceLeDiff, true_and]
      exact h1 hr (by rw [f2] at hf; exact hf) I2 (fun b b1 b2 b3 => by rw [f3 b b1, f1 b b2 b3]) (by rw [f4, f2]; rfl)
  · simp only [x_Or_multiply_6, x_Or_multiply_9, x_Or_multiply_10, Option.toList_some, Option.toList_none, List.cons_append, List.nil_append, List.length_cons, List.length_nil, Nat.reduceAdd, Nat.zero_add, Nat.reduceLeDiff, true_and, if_true]
    exact h0 hr
theorem or_apply {sc : Int × (Int → Int)} {d : Nat} {s : Int} {q : Nat → Int} {I : Nat → Int → Int} {Q : Option om_V → om_H → Prop} {to a f : Int} (hs : s = 0 ∨ s = 1) (rA : ∀ r, 0 ≤ r → r < 8 → om_r31 (om_cr I r)) (h0 : ¬ ((0 ≤ to ∧ to < 8) ∧ (0 ≤ a ∧ a < 8) ∧ (0 ≤ f ∧ f < 8)) → Q (some (.inl (-1))) (om_O s q, I)) (hor : (0 ≤ to ∧ to < 8) ∧ (0 ≤ a ∧ a < 8) ∧ (0 ≤ f ∧ f < 8) → 0 < om_or 5 13 (om_cr I f) → Q (some (.inl (-5))) (om_O s q, I)) (hl : (0 ≤ to ∧ to < 8) ∧ (0 ≤ a ∧ a < 8) ∧ (0 ≤ f ∧ f < 8) → om_or 5 13 (om_cr I f) ≤ 0 → ¬ om_ft (om_img s (om_cr I a) (om_r0 (om_cr I f)) 5) → ∀ I', (∀ b, b ≠ 22 → b ≠ 24 → I' b = I b) → Q (some (.inl (-3))) (om_O s q, I')) (h1 : (0 ≤ to ∧ to < 8) ∧ (0 ≤ a ∧ a < 8) ∧ (0 ≤ f ∧ f < 8) → om_or 5 13 (om_cr I f) ≤ 0 → om_ft (om_img s (om_cr I a) (om_r0 (om_cr I f)) 5) → ∀ I', (∀ b, b ≠ om_ca to → b ≠ 22 → b ≠ 24 → I' b = I b) → om_cr I' to = om_img s (om_cr I a) (om_r0 (om_cr I f)) 5 → Q (some (.inl 0)) (om_O s q, I')) : om_R sc (d + 4) 53 0 [.inr (.inl 0), .inl to, .inl a, .inl f] [] (om_O s q, I) Q := by
  have n10 : ¬ (1 : Int) = 0 := by decide
  simp only [x_Or_apply_0, x_Or_apply_1, x_Or_apply_2, x_Or_apply_3, Option.toList_some, Option.toList_none, List.cons_append, List.nil_append, List.length_cons, List.length_nil, Nat.reduceAdd, Nat.zero_add, Nat.reduceLeDiff, true_and]
  refine or_areRegisters (fun hr => ?_) (fun hr => ?_)
  · have gr := (om_op_g (or_reg (s := s) (q := q) hr.2.2)).2.2.2
    simp only [x_Or_apply_6, x_Or_apply_9, x_Or_apply_10, x_Or_apply_11, x_Or_apply_12, x_Or_apply_15, x_Or_apply_16, x_Or_apply_17, Option.toList_some, Option.toList_none, List.cons_append, List.nil_append, List.length_cons, List.length_nil, Nat.reduceAdd, Nat.zero_add, Nat.reduceLeDiff, true_and, if_neg n10, gO_0_0, kO_reg hr.2.2.1 hr.2.2.2, gr]
    refine op_topOrder (or_reg hr.2.2) ?_
    simp only [x_Or_apply_20, Option.toList_some, Option.toList_none, List.cons_append, List.nil_append, List.length_cons, List.length_nil, Nat.reduceAdd, Nat.zero_add, Nat.reduceLeDiff, true_and]
    by_cases hq0 : om_or 5 13 (om_cr I f) ≤ 0
    · have hq1 : om_or 5 13 (om_tb 5 13 (I (om_ca f))) ≤ 0 := hq0
      rw [if_pos hq1]
      simp only [x_Or_apply_26, x_Or_apply_27, x_Or_apply_28, x_Or_apply_29, x_Or_apply_32, x_Or_apply_33, x_Or_apply_36, x_Or_apply_37, x_Or_apply_38, x_Or_apply_39, x_Or_apply_42, x_Or_apply_43, x_Or_apply_44, Option.toList_some, Option.toList_none, List.cons_append, List.nil_append, List.length_cons, List.length_nil, Nat.reduceAdd, Nat.zero_add, Nat.reduceLeDiff, true_and, gO_0_0, gO_0_1, kO_reg hr.2.1.1 hr.2.1.2, kO_reg hr.2.2.1 hr.2.2.2, rO_20]
      refine al_image hs (or_reg hr.2.1) (or_reg hr.2.2) (by unfold om_ca; omega) (by unfold om_ca; omega) (by unfold om_ca; omega) (by unfold om_ca; omega) (rA a hr.2.1.1 hr.2.1.2) (rA f hr.2.2.1 hr.2.2.2) (fun I1 f1 f2 => ?_)
      simp only [x_Or_apply_47, Option.toList_some, Option.toList_none, List.cons_append, List.nil_append, List.length_cons, List.length_nil, Nat.reduceAdd, Nat.zero_add, Nat.reduceLeDiff, true_and, rO_0]
      refine or_store hr.1 oO_21 (by decide) (fun hf => ?_) (fun hf I2 f3 f4 => ?_)
      · simp only [x_Or_apply_50, Option.toList_some, Option.toList_none, List.cons_append, List.nil_append, List.length_cons, List.length_nil, Nat.reduceAdd, Nat.zero_add, Nat.reduceLeDiff, true_and]
        exact hl hr hq0 (by rw [f2] at hf; exact hf) I1 f1
      · simp only [x_Or_apply_50, Option.toList_some, Option.toList_none, List.cons_append, List.nil_append, List.length_cons, List.length_nil, Nat.reduceAdd, Nat.zero_add, Nat.reduceLeDiff, true_and]
        exact h1 hr hq0 (by rw [f2] at hf; exact hf) I2 (fun b b1 b2 b3 => by rw [f3 b b1, f1 b b2 b3]) (by rw [f4, f2]; rfl)
    · have hq1 : ¬ om_or 5 13 (om_tb 5 13 (I (om_ca f))) ≤ 0 := hq0
      rw [if_neg hq1]
      simp only [x_Or_apply_23, x_Or_apply_25]
      exact hor hr (by omega)
  · simp only [x_Or_apply_6, x_Or_apply_9, x_Or_apply_10, Option.toList_some, Option.toList_none, List.cons_append, List.nil_append, List.length_cons, List.length_nil, Nat.reduceAdd, Nat.zero_add, Nat.reduceLeDiff, true_and, if_true]
    exact h0 hr
theorem or_same {sc : Int × (Int → Int)} {d : Nat} {s : Int} {q : Nat → Int} {I : Nat → Int → Int} {Q : Option om_V → om_H → Prop} {a b : Int} (h1 : (0 ≤ a ∧ a < 8) ∧ (0 ≤ b ∧ b < 8) ∧ om_cr I a = om_cr I b → Q (some (.inl 1)) (om_O s q, I)) (h0 : ¬ ((0 ≤ a ∧ a < 8) ∧ (0 ≤ b ∧ b < 8) ∧ om_cr I a = om_cr I b) → Q (some (.inl 0)) (om_O s q, I)) : om_R sc (d + 2) 85 0 [.inr (.inl 0), .inl a, .inl b] [] (om_O s q, I) Q := by
  have n10 : ¬ (1 : Int) = 0 := by decide
  simp only [x_Or_same_0, x_Or_same_1, Option.toList_some, Option.toList_none, List.cons_append, List.nil_append, List.length_cons, List.length_nil, Nat.reduceAdd, Nat.zero_add, Nat.reduceLeDiff, true_and]
  refine or_isRegister (fun ha => ?_) (fun ha => ?_)
  · simp only [x_Or_same_4, x_Or_same_7, x_Or_same_8, Option.toList_some, Option.toList_none, List.cons_append, List.nil_append, List.length_cons, List.length_nil, Nat.reduceAdd, Nat.zero_add, Nat.reduceLeDiff, true_and, if_neg n10]
    refine or_isRegister (fun hb => ?_) (fun hb => ?_)
    · have gr := (om_op_g (or_reg (s := s) (q := q) ha)).2.2.2
      simp only [x_Or_same_11, x_Or_same_14, x_Or_same_15, x_Or_same_18, x_Or_same_19, x_Or_same_20, x_Or_same_21, x_Or_same_24, x_Or_same_25, x_Or_same_26, Option.toList_some, Option.toList_none, List.cons_append, List.nil_append, List.length_cons, List.length_nil, Nat.reduceAdd, Nat.zero_add, Nat.reduceLeDiff, true_and, if_neg n10, gO_0_0, kO_reg ha.1 ha.2, kO_reg hb.1 hb.2, gr]
      refine op_matches (or_reg ha) (or_reg hb) (fun he => ?_) (fun he => ?_)
      · simp only [x_Or_same_29, x_Or_same_32, x_Or_same_33, x_Or_same_36, x_Or_same_37, Option.toList_some, Option.toList_none, List.cons_append, List.nil_append, List.length_cons, List.length_nil, Nat.reduceAdd, Nat.zero_add, Nat.reduceLeDiff, true_and, if_neg n10]
        exact ⟨by decide, h1 ⟨ha, hb, he⟩⟩
      · simp only [x_Or_same_29, x_Or_same_32, x_Or_same_33, x_Or_same_36, x_Or_same_37, Option.toList_some, Option.toList_none, List.cons_append, List.nil_append, List.length_cons, List.length_nil, Nat.reduceAdd, Nat.zero_add, Nat.reduceLeDiff, true_and, if_true]
        exact ⟨by decide, h0 (fun q => he q.2.2)⟩
    · simp only [x_Or_same_11, x_Or_same_14, x_Or_same_15, x_Or_same_18, x_Or_same_19, x_Or_same_20, x_Or_same_21, x_Or_same_24, x_Or_same_25, x_Or_same_26, x_Or_same_29, x_Or_same_32, x_Or_same_33, x_Or_same_36, x_Or_same_37, Option.toList_some, Option.toList_none, List.cons_append, List.nil_append, List.length_cons, List.length_nil, Nat.reduceAdd, Nat.zero_add, Nat.reduceLeDiff, true_and, if_true]
      exact ⟨by decide, h0 (fun q => hb q.2.1)⟩
  · simp only [x_Or_same_4, x_Or_same_7, x_Or_same_8, x_Or_same_11, x_Or_same_14, x_Or_same_15, x_Or_same_18, x_Or_same_19, x_Or_same_20, x_Or_same_21, x_Or_same_24, x_Or_same_25, x_Or_same_26, x_Or_same_29, x_Or_same_32, x_Or_same_33, x_Or_same_36, x_Or_same_37, Option.toList_some, Option.toList_none, List.cons_append, List.nil_append, List.length_cons, List.length_nil, Nat.reduceAdd, Nat.zero_add, Nat.reduceLeDiff, true_and, if_true]
    exact ⟨by decide, h0 (fun q => ha q.1)⟩
