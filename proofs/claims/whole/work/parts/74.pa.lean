/-! the class's parser: signs and numbers -/
def ox_q (q : Nat → Int) (i w l : Int) : Nat → Int := om_qs (om_qs (om_qs q 2 i) 3 w) 4 l
section ox_qs
variable {q : Nat → Int} {i w l v : Int}
theorem ox_q_1 : ox_q q i w l 1 = q 1 := rfl
theorem ox_q_2 : ox_q q i w l 2 = i := rfl
theorem ox_q_3 : ox_q q i w l 3 = w := rfl
theorem ox_q_4 : ox_q q i w l 4 = l := rfl
theorem ox_q_s2 : om_qs (ox_q q i w l) 2 v = ox_q q v w l := by
  funext n
  unfold ox_q om_qs
  by_cases h2 : n = 2
  · subst h2; rfl
  · simp only [if_neg h2]
theorem ox_q_s3 : om_qs (ox_q q i w l) 3 v = ox_q q i v l := by
  funext n
  unfold ox_q om_qs
  by_cases h2 : n = 3
  · subst h2; rfl
  · simp only [if_neg h2]
theorem ox_q_s4 : om_qs (ox_q q i w l) 4 v = ox_q q i w v := by
  funext n
  unfold ox_q om_qs
  by_cases h2 : n = 4
  · subst h2; rfl
  · simp only [if_neg h2]
end ox_qs
theorem pa_isDigit {sc : Int × (Int → Int)} {d : Nat} {h : om_H} {Q : Option om_V → om_H → Prop} {v : Int} (h1 : ox_dg v → Q (some (.inl 1)) h) (h0 : ¬ ox_dg v → Q (some (.inl 0)) h) : om_R sc d 29 0 [.inl v] [] h Q := by
  simp only [x_Pa_isDigit_0, x_Pa_isDigit_1, x_Pa_isDigit_3, x_Pa_isDigit_6, x_Pa_isDigit_7, x_Pa_isDigit_9, x_Pa_isDigit_12, x_Pa_isDigit_13, x_Pa_isDigit_16, x_Pa_isDigit_17]
  by_cases q1 : v < 48
  · rw [if_pos q1]
    exact ⟨by decide, h0 (by omega)⟩
  · rw [if_neg q1]
    by_cases q2 : 57 < v
    · rw [if_pos q2]
      exact ⟨by decide, h0 (by omega)⟩
    · rw [if_neg q2]
      exact ⟨by decide, h1 (by omega)⟩
theorem pa_isSign {sc : Int × (Int → Int)} {d : Nat} {h : om_H} {Q : Option om_V → om_H → Prop} {v : Int} (h1 : ox_sg v → Q (some (.inl 1)) h) (h0 : ¬ ox_sg v → Q (some (.inl 0)) h) : om_R sc d 20 0 [.inl v] [] h Q := by
  simp only [x_Pa_isSign_0, x_Pa_isSign_1, x_Pa_isSign_3, x_Pa_isSign_6, x_Pa_isSign_7, x_Pa_isSign_9, x_Pa_isSign_12, x_Pa_isSign_13, x_Pa_isSign_16, x_Pa_isSign_17]
  by_cases q1 : v = 43
  · rw [if_pos q1]
    exact ⟨by decide, h1 (by omega)⟩
  · rw [if_neg q1]
    by_cases q2 : v = 45
    · rw [if_pos q2]
      exact ⟨by decide, h1 (by omega)⟩
    · rw [if_neg q2]
      exact ⟨by decide, h0 (by omega)⟩
theorem pa_startsAtom {sc : Int × (Int → Int)} {d : Nat} {h : om_H} {Q : Option om_V → om_H → Prop} {v : Int} (h1 : ox_st v → Q (some (.inl 1)) h) (h0 : ¬ ox_st v → Q (some (.inl 0)) h) : om_R sc (d + 1) 43 0 [.inl v] [] h Q := by
  have n10 : ¬ (1 : Int) = 0 := by decide
  simp only [x_Pa_startsAtom_0, x_Pa_startsAtom_1, Option.toList_some, Option.toList_none, List.cons_append, List.nil_append, List.length_cons, List.length_nil, Nat.reduceAdd, Nat.zero_add, Nat.reduceLeDiff, true_and]
  refine pa_isDigit (fun hd => ?_) (fun hd => ?_)
  · simp only [x_Pa_startsAtom_4, x_Pa_startsAtom_25, x_Pa_startsAtom_26, x_Pa_startsAtom_29, x_Pa_startsAtom_30, Option.toList_some, Option.toList_none, List.cons_append, List.nil_append, List.length_cons, List.length_nil, Nat.reduceAdd, Nat.zero_add, Nat.reduceLeDiff, true_and, if_neg n10]
    exact ⟨by decide, h1 (Or.inl hd)⟩
  · simp only [x_Pa_startsAtom_4, x_Pa_startsAtom_7, x_Pa_startsAtom_8, x_Pa_startsAtom_10, x_Pa_startsAtom_13, x_Pa_startsAtom_14, x_Pa_startsAtom_16, x_Pa_startsAtom_19, x_Pa_startsAtom_20, x_Pa_startsAtom_22, x_Pa_startsAtom_25, x_Pa_startsAtom_26, x_Pa_startsAtom_29, x_Pa_startsAtom_30, Option.toList_some, Option.toList_none, List.cons_append, List.nil_append, List.length_cons, List.length_nil, Nat.reduceAdd, Nat.zero_add, Nat.reduceLeDiff, true_and, if_true]
    by_cases q1 : v = 120
    · rw [if_pos q1]
      exact ⟨by decide, h1 (by omega)⟩
    · rw [if_neg q1]
      by_cases q2 : v = 84
      · rw [if_pos q2]
        exact ⟨by decide, h1 (by omega)⟩
      · rw [if_neg q2]
        by_cases q3 : v = 40
        · rw [if_pos q3]
          exact ⟨by decide, h1 (by omega)⟩
        · rw [if_neg q3]
          exact ⟨by decide, h0 (by omega)⟩
def ox_tx (q : Nat → Int) (I : Nat → Int → Int) (c : Int → Int) (n : Int) : Prop := q 1 = n ∧ ∀ k : Int, 0 ≤ k → k < n → I 26 k = c k
theorem pa_next {sc : Int × (Int → Int)} {d : Nat} {s : Int} {q : Nat → Int} {I : Nat → Int → Int} {Q : Option om_V → om_H → Prop} {c : Int → Int} {n i w l : Int} (hc : ox_cc c n) (hT : ox_tx q I c n) (h0 : 0 ≤ i) (hq : Q (some (.inl (c i))) (om_O s (ox_q q i w l), I)) : om_R sc d 19 0 [.inr (.inl 25)] [] (om_O s (ox_q q i w l), I) Q := by
  have b := hc.2.2 i
  have b1 := hc.1
  simp only [x_Pa_next_0, x_Pa_next_1, x_Pa_next_4, x_Pa_next_5, x_Pa_next_8, gO_25_2, gO_25_3, ox_q_1, ox_q_2, hT.1, Option.toList_some, Option.toList_none, List.cons_append, List.nil_append, List.length_cons, List.length_nil, Nat.reduceAdd, Nat.zero_add, Nat.reduceLeDiff, true_and]
  by_cases hi : n ≤ i
  · rw [if_pos hi]
    rw [hc.2.1 i hi] at hq
    simp only [x_Pa_next_23, x_Pa_next_24, Option.toList_some, Option.toList_none, List.cons_append, List.nil_append, List.length_cons, List.length_nil, Nat.reduceAdd, Nat.zero_add, Nat.reduceLeDiff, true_and]
    exact ⟨by decide, hq⟩
  · rw [if_neg hi]
    simp only [x_Pa_next_11, x_Pa_next_12, x_Pa_next_15, x_Pa_next_16, x_Pa_next_19, x_Pa_next_20, x_Pa_next_24, gO_25_1, gO_25_3, ox_q_2, aO_26, hT.2 i h0 (by omega), Option.toList_some, Option.toList_none, List.cons_append, List.nil_append, List.length_cons, List.length_nil, Nat.reduceAdd, Nat.zero_add, Nat.reduceLeDiff, true_and]
    exact ⟨by omega, by omega, hq⟩
theorem pa_takeSign {sc : Int × (Int → Int)} {d : Nat} {s : Int} {q : Nat → Int} {I : Nat → Int → Int} {Q : Option om_V → om_H → Prop} {c : Int → Int} {n i w l : Int} (hc : ox_cc c n) (hT : ox_tx q I c n) (h0 : 0 ≤ i) (h1 : i ≤ n) (hq : Q (some (.inl (ox_tm (c i)))) (om_O s (ox_q q (i + 1) w l), I)) : om_R sc (d + 1) 21 0 [.inr (.inl 25), om_un] [] (om_O s (ox_q q i w l), I) Q := by
  have b1 := hc.1
  simp only [x_Pa_takeSign_0, x_Pa_takeSign_1, rO_25, Option.toList_some, Option.toList_none, List.cons_append, List.nil_append, List.length_cons, List.length_nil, Nat.reduceAdd, Nat.zero_add, Nat.reduceLeDiff, true_and]
  refine pa_next hc hT h0 ?_
  unfold ox_tm at hq
  simp only [x_Pa_takeSign_4, x_Pa_takeSign_6, Option.toList_some, Option.toList_none, List.cons_append, List.nil_append, List.length_cons, List.length_nil, Nat.reduceAdd, Nat.zero_add, Nat.reduceLeDiff, true_and]
  by_cases e : c i = 45
  · rw [if_pos e] at hq ⊢
    simp only [x_Pa_takeSign_9, x_Pa_takeSign_11, x_Pa_takeSign_15, x_Pa_takeSign_16, x_Pa_takeSign_17, x_Pa_takeSign_18, x_Pa_takeSign_21, x_Pa_takeSign_22, x_Pa_takeSign_23, x_Pa_takeSign_26, x_Pa_takeSign_27, gO_25_3, pO_25_3 21 (i + 1) rfl, ox_q_2, ox_q_s2, Option.toList_some, Option.toList_none, List.cons_append, List.nil_append, List.length_cons, List.length_nil, Nat.reduceAdd, Nat.zero_add, Nat.reduceLeDiff, true_and]
    exact ⟨⟨by omega, by omega⟩, hq⟩
  · rw [if_neg e] at hq ⊢
    simp only [x_Pa_takeSign_14, x_Pa_takeSign_15, x_Pa_takeSign_16, x_Pa_takeSign_17, x_Pa_takeSign_18, x_Pa_takeSign_21, x_Pa_takeSign_22, x_Pa_takeSign_23, x_Pa_takeSign_26, x_Pa_takeSign_27, gO_25_3, pO_25_3 21 (i + 1) rfl, ox_q_2, ox_q_s2, Option.toList_some, Option.toList_none, List.cons_append, List.nil_append, List.length_cons, List.length_nil, Nat.reduceAdd, Nat.zero_add, Nat.reduceLeDiff, true_and]
    exact ⟨⟨by omega, by omega⟩, hq⟩
theorem pa_tn_l {sc : Int × (Int → Int)} {d : Nat} {s : Int} {q : Nat → Int} {Q : Option om_V → om_H → Prop} {c : Int → Int} {n w l : Int} {I : Nat → Int → Int} (hc : ox_cc c n) (hT : ox_tx q I c n) : ∀ (m : Nat) (k i v : Int), k + m = 40 → 0 ≤ k → k ≤ i → i ≤ n → (0 ≤ v ∧ v < 31) → Q (some (.inl (ox_dv c m i v))) (om_O s (ox_q q (ox_de c m i) w l), I) → om_R sc (d + 1) 30 4 [.inr (.inl 25), .inl v, .inl k] [] (om_O s (ox_q q i w l), I) Q := by
  have n10 : ¬ (1 : Int) = 0 := by decide
  have b1 := hc.1
  intro m
  induction m with
  | zero =>
    intro k i v e1 e2 e3 e4 hv hq
    simp only [x_Pa_takeNumber_4, x_Pa_takeNumber_5, x_Pa_takeNumber_7, x_Pa_takeNumber_52, x_Pa_takeNumber_53]
    rw [if_pos (by omega)]
    exact hq
  | succ m ih =>
    intro k i v e1 e2 e3 e4 hv hq
    simp only [x_Pa_takeNumber_4, x_Pa_takeNumber_5, x_Pa_takeNumber_7]
    rw [if_neg (by omega)]
    simp only [x_Pa_takeNumber_10, x_Pa_takeNumber_11, rO_25, Option.toList_some, Option.toList_none, List.cons_append, List.nil_append, List.length_cons, List.length_nil, Nat.reduceAdd, Nat.zero_add, Nat.reduceLeDiff, true_and]
    refine pa_next hc hT (by omega) ?_
    simp only [x_Pa_takeNumber_14, Option.toList_some, Option.toList_none, List.cons_append, List.nil_append, List.length_cons, List.length_nil, Nat.reduceAdd, Nat.zero_add, Nat.reduceLeDiff, true_and]
    unfold ox_dv ox_de at hq
    refine pa_isDigit (fun hd => ?_) (fun hd => ?_)
    · rw [if_pos hd, if_pos hd] at hq
      have lt := ox_lt (k := i) hc (by omega)
      simp only [x_Pa_takeNumber_17, x_Pa_takeNumber_20, x_Pa_takeNumber_22, x_Pa_takeNumber_23, x_Pa_takeNumber_24, x_Pa_takeNumber_25, rO_25, Option.toList_some, Option.toList_none, List.cons_append, List.nil_append, List.length_cons, List.length_nil, Nat.reduceAdd, Nat.zero_add, Nat.reduceLeDiff, true_and, if_neg n10]
      refine ⟨⟨by omega, by omega⟩, ?_⟩
      refine pa_next hc hT (by omega) ?_
      have cb := hc.2.2 i
      simp only [x_Pa_takeNumber_28, x_Pa_takeNumber_29, x_Pa_takeNumber_31, x_Pa_takeNumber_32, x_Pa_takeNumber_34, x_Pa_takeNumber_35, x_Pa_takeNumber_36, x_Pa_takeNumber_37, x_Pa_takeNumber_38, x_Pa_takeNumber_41, x_Pa_takeNumber_42, x_Pa_takeNumber_43, x_Pa_takeNumber_46, x_Pa_takeNumber_49, gO_25_3, pO_25_3 30 (i + 1) rfl, ox_q_2, ox_q_s2, Option.toList_some, Option.toList_none, List.cons_append, List.nil_append, List.length_cons, List.length_nil, Nat.reduceAdd, Nat.zero_add, Nat.reduceLeDiff, true_and]
      refine ⟨⟨by omega, by omega⟩, ⟨by omega, by omega⟩, by decide, ⟨by omega, by omega⟩, ⟨by omega, by omega⟩, ?_⟩
      rw [om_tm0 (by omega)]
      exact ih _ _ _ (by omega) (by omega) (by omega) (by omega) (by omega) hq
    · rw [if_neg hd, if_neg hd] at hq
      simp only [x_Pa_takeNumber_17, x_Pa_takeNumber_52, x_Pa_takeNumber_53, Option.toList_some, Option.toList_none, List.cons_append, List.nil_append, List.length_cons, List.length_nil, Nat.reduceAdd, Nat.zero_add, Nat.reduceLeDiff, true_and, if_true]
      exact hq
theorem pa_takeNumber {sc : Int × (Int → Int)} {d : Nat} {s : Int} {q : Nat → Int} {I : Nat → Int → Int} {Q : Option om_V → om_H → Prop} {c : Int → Int} {n i w l : Int} (hc : ox_cc c n) (hT : ox_tx q I c n) (h0 : 0 ≤ i) (h1 : i ≤ n) (hq : Q (some (.inl (ox_dv c 40 i 0))) (om_O s (ox_q q (ox_de c 40 i) w l), I)) : om_R sc (d + 1) 30 0 [.inr (.inl 25), om_un, om_un] [] (om_O s (ox_q q i w l), I) Q := by
  simp only [x_Pa_takeNumber_0, x_Pa_takeNumber_1, x_Pa_takeNumber_2, x_Pa_takeNumber_3]
  exact pa_tn_l hc hT 40 0 i 0 (by omega) (by omega) h0 h1 (by decide) hq
