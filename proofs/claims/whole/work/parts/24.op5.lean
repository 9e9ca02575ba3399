/-! operators of the class: order, comparisons, copies, rows times tables -/
def om_dg (w : Int) (A : Int → Int → Int) (i : Int) : Int := om_top (fun k => decide (A i k ≠ 0)) w.toNat
def om_or (o w : Int) (A : Int → Int → Int) : Int := om_top (fun i => decide (0 ≤ om_dg w A i)) o.toNat
theorem om_dg_n {w i : Int} {A : Int → Int → Int} : om_dg w A i < 0 ↔ ∀ k, 0 ≤ k → k < w → A i k = 0 := by
  unfold om_dg
  constructor
  · intro h k h1 h2
    have := om_top_n (p := fun k => decide (A i k ≠ 0)) (n := w.toNat) (k := k) (by omega) (by omega)
    simpa using this
  · intro h
    have b := om_top_b (fun k => decide (A i k ≠ 0)) w.toNat
    refine Decidable.byContradiction (fun hn => ?_)
    have h2 := om_top_p (p := fun k => decide (A i k ≠ 0)) (n := w.toNat) (by omega)
    simp only [decide_eq_true_eq] at h2
    exact h2 (h _ (by omega) (by omega))
theorem op_topOrder_k {sc : Int × (Int → Int)} {d : Nat} {O : List (Nat × Nat × List om_V)} {I : Nat → Int → Int} {Q : Option om_V → om_H → Prop} {a c : Nat} {o w i : Int} (ho : om_op O a c o w) (hn : 0 ≤ om_dg w (om_tb o w (I c)) i → Q (some (.inl i)) (O, I)) (hz : om_dg w (om_tb o w (I c)) i < 0 → om_R sc (d + 1) 35 38 [.inr (.inl a), .inl i, .inl w] [] (O, I) Q) : ∀ (m : Nat) (k : Int), k + m = w → 0 ≤ k → (∀ k', 0 ≤ k' → k' < k → om_tb o w (I c) i k' = 0) → om_R sc (d + 1) 35 13 [.inr (.inl a), .inl i, .inl k] [] (O, I) Q := by
  obtain ⟨g0, g1, g2, gr⟩ := om_op_g ho
  have hw2 := ho.2.2.2.2.2
  intro m
  induction m with
  | zero =>
    intro k h1 h2 h3
    simp only [x_Op_topOrder_13, x_Op_topOrder_14, x_Op_topOrder_15, x_Op_topOrder_18, g1]
    rw [if_pos (by omega)]
    have hk : k = w := by omega
    subst hk
    exact hz (om_dg_n.mpr h3)
  | succ m ih =>
    intro k h1 h2 h3
    simp only [x_Op_topOrder_13, x_Op_topOrder_14, x_Op_topOrder_15, x_Op_topOrder_18, g1]
    rw [if_neg (by omega)]
    simp only [x_Op_topOrder_21, x_Op_topOrder_22, x_Op_topOrder_23, x_Op_topOrder_24, gr, Option.toList_some, Option.toList_none, List.cons_append, List.nil_append, List.length_cons, List.length_nil, Nat.reduceAdd, Nat.zero_add, Nat.reduceLeDiff, true_and]
    refine op_get ho ?_
    simp only [x_Op_topOrder_27, Option.toList_some, Option.toList_none, List.cons_append, List.nil_append, List.length_cons, List.length_nil, Nat.reduceAdd, Nat.zero_add, Nat.reduceLeDiff, true_and]
    by_cases hc : om_tb o w (I c) i k = 0
    · rw [if_pos hc]
      simp only [x_Op_topOrder_32, x_Op_topOrder_35]
      refine ⟨⟨by omega, by omega⟩, ih _ (by omega) (by omega) (fun k' q1 q2 => ?_)⟩
      by_cases hk : k' = k
      · rw [hk]; exact hc
      · exact h3 k' q1 (by omega)
    · rw [if_neg hc]
      simp only [x_Op_topOrder_30, x_Op_topOrder_31]
      exact hn (Decidable.byContradiction (fun q => hc ((om_dg_n (w := w)).mp (by omega) k (by omega) (by omega))))
theorem op_topOrder_i {sc : Int × (Int → Int)} {d : Nat} {O : List (Nat × Nat × List om_V)} {I : Nat → Int → Int} {Q : Option om_V → om_H → Prop} {a c : Nat} {o w : Int} (ho : om_op O a c o w) : ∀ (m : Nat) (x : om_V), (m : Int) ≤ o → Q (some (.inl (om_top (fun i => decide (0 ≤ om_dg w (om_tb o w (I c)) i)) m))) (O, I) → om_R sc (d + 1) 35 7 [.inr (.inl a), .inl ((m : Int) - 1), x] [] (O, I) Q := by
  obtain ⟨g0, g1, g2, gr⟩ := om_op_g ho
  have ho2 := ho.2.2.2.1
  have hw := ho.2.2.2.2.1
  intro m
  induction m with
  | zero =>
    intro x hm hq
    simp only [x_Op_topOrder_7, x_Op_topOrder_8, x_Op_topOrder_44, x_Op_topOrder_45]
    rw [if_pos (by omega)]
    exact hq
  | succ m ih =>
    intro x hm hq
    have em : ((m + 1 : Nat) : Int) - 1 = m := by omega
    rw [em]
    unfold om_top at hq
    simp only [x_Op_topOrder_7, x_Op_topOrder_8, x_Op_topOrder_11, x_Op_topOrder_12]
    rw [if_neg (by omega)]
    refine op_topOrder_k ho (fun h => ?_) (fun h => ?_) w.toNat 0 (by omega) (by omega) (fun k' q1 q2 => absurd q1 (by omega))
    · rw [if_pos (by simpa using h)] at hq
      exact hq
    · rw [if_neg (by simpa using h)] at hq
      simp only [x_Op_topOrder_38, x_Op_topOrder_41]
      exact ⟨⟨by omega, by omega⟩, ih _ (by omega) hq⟩
theorem op_topOrder {sc : Int × (Int → Int)} {d : Nat} {O : List (Nat × Nat × List om_V)} {I : Nat → Int → Int} {Q : Option om_V → om_H → Prop} {a c : Nat} {o w : Int} (ho : om_op O a c o w) (hq : Q (some (.inl (om_or o w (om_tb o w (I c))))) (O, I)) : om_R sc (d + 1) 35 0 [.inr (.inl a), om_un, om_un] [] (O, I) Q := by
  obtain ⟨g0, g1, g2, gr⟩ := om_op_g ho
  have ho1 := ho.2.2.1
  have ho2 := ho.2.2.2.1
  simp only [x_Op_topOrder_0, x_Op_topOrder_1, x_Op_topOrder_4, x_Op_topOrder_5, x_Op_topOrder_6, g0]
  have h := op_topOrder_i (sc := sc) (d := d) ho o.toNat om_un (by omega) hq
  rw [Int.toNat_of_nonneg (by omega)] at h
  exact ⟨⟨by omega, by omega⟩, h⟩
/-- it can stand in a register -/
def om_ft (A : Int → Int → Int) : Prop := ∀ i k, A i k ≠ 0 → i ≤ 4 ∧ k ≤ 12
theorem op_fits_l {sc : Int × (Int → Int)} {d : Nat} {O : List (Nat × Nat × List om_V)} {I : Nat → Int → Int} {Q : Option om_V → om_H → Prop} {a c : Nat} {o w : Int} (ho : om_op O a c o w) (h1 : om_ft (om_tb o w (I c)) → Q (some (.inl 1)) (O, I)) (h0 : ¬ om_ft (om_tb o w (I c)) → Q (some (.inl 0)) (O, I)) : ∀ (m : Nat) (i : Int) (x : om_V), i + m = o → 0 ≤ i → (∀ i' k, i' < i → om_tb o w (I c) i' k ≠ 0 → i' ≤ 4 ∧ k ≤ 12) → om_R sc (d + 2) 41 2 [.inr (.inl a), .inl i, x] [] (O, I) Q := by
  obtain ⟨g0, g1, g2, gr⟩ := om_op_g ho
  have ho2 := ho.2.2.2.1
  have hw := ho.2.2.2.2.1
  have hw2 := ho.2.2.2.2.2
  intro m
  induction m with
  | zero =>
    intro i x e1 e2 h
    simp only [x_Op_fits_2, x_Op_fits_3, x_Op_fits_4, x_Op_fits_7, x_Op_fits_39, x_Op_fits_40, g0]
    rw [if_pos (by omega)]
    refine ⟨by decide, h1 (fun i' k hk => ?_)⟩
    by_cases hi : i' < i
    · exact h i' k hi hk
    · exact absurd (om_tb_out (by omega)) hk
  | succ m ih =>
    intro i x e1 e2 h
    simp only [x_Op_fits_2, x_Op_fits_3, x_Op_fits_4, x_Op_fits_7, g0]
    rw [if_neg (by omega)]
    simp only [x_Op_fits_10, x_Op_fits_11, x_Op_fits_12, gr, Option.toList_some, Option.toList_none, List.cons_append, List.nil_append, List.length_cons, List.length_nil, Nat.reduceAdd, Nat.zero_add, Nat.reduceLeDiff, true_and]
    refine op_topDegree ho ?_
    have b := om_top_b (fun k => decide (om_tb o w (I c) i k ≠ 0)) w.toNat
    have hp := om_top_p (p := fun k => decide (om_tb o w (I c) i k ≠ 0)) (n := w.toNat)
    have hn := fun k => om_top_n (p := fun k => decide (om_tb o w (I c) i k ≠ 0)) (n := w.toNat) (k := k)
    generalize om_top (fun k => decide (om_tb o w (I c) i k ≠ 0)) w.toNat = t at b hp hn
    simp only [decide_eq_true_eq, decide_eq_false_iff_not, ne_eq, Decidable.not_not] at hp hn
    simp only [x_Op_fits_15, x_Op_fits_16, x_Op_fits_17, x_Op_fits_19, Option.toList_some, Option.toList_none, List.cons_append, List.nil_append, List.length_cons, List.length_nil, Nat.reduceAdd, Nat.zero_add, Nat.reduceLeDiff, true_and]
    have bad : (12 < t ∨ (0 ≤ t ∧ 4 < i)) → Q (some (.inl 0)) (O, I) := fun hb => h0 (fun hf => by
      have := hf i t (hp (by omega))
      omega)
    have next : ¬ (12 < t ∨ (0 ≤ t ∧ 4 < i)) → om_R sc (d + 2) 41 33 [.inr (.inl a), .inl i, .inl t] [] (O, I) Q := by
      intro hb
      simp only [x_Op_fits_33, x_Op_fits_36]
      refine ⟨⟨by omega, by omega⟩, ih _ _ (by omega) (by omega) (fun i' k q1 q2 => ?_)⟩
      by_cases hi : i' = i
      · subst hi
        by_cases hk : k ≤ t
        · have : 0 ≤ k := Decidable.byContradiction (fun q => q2 (om_tb_out (by omega)))
          omega
        · by_cases hk2 : k < w
          · exact absurd (hn k (by omega) (by omega)) q2
          · exact absurd (om_tb_out (by omega)) q2
      · exact h i' k (by omega) q2
    by_cases q1 : 12 < t
    · rw [if_pos q1]
      simp only [x_Op_fits_31, x_Op_fits_32]
      exact ⟨by decide, bad (by omega)⟩
    · rw [if_neg q1]
      simp only [x_Op_fits_22, x_Op_fits_23]
      by_cases q2 : t < 0
      · rw [if_pos q2]
        exact next (by omega)
      · rw [if_neg q2]
        simp only [x_Op_fits_26, x_Op_fits_27, x_Op_fits_28]
        by_cases q3 : i ≤ 4
        · rw [if_pos q3]
          exact next (by omega)
        · rw [if_neg q3]
          simp only [x_Op_fits_31, x_Op_fits_32]
          exact ⟨by decide, bad (by omega)⟩
theorem op_fits {sc : Int × (Int → Int)} {d : Nat} {O : List (Nat × Nat × List om_V)} {I : Nat → Int → Int} {Q : Option om_V → om_H → Prop} {a c : Nat} {o w : Int} (ho : om_op O a c o w) (h1 : om_ft (om_tb o w (I c)) → Q (some (.inl 1)) (O, I)) (h0 : ¬ om_ft (om_tb o w (I c)) → Q (some (.inl 0)) (O, I)) : om_R sc (d + 2) 41 0 [.inr (.inl a), om_un, om_un] [] (O, I) Q := by
  have ho1 := ho.2.2.1
  simp only [x_Op_fits_0, x_Op_fits_1]
  exact op_fits_l ho h1 h0 o.toNat 0 _ (by omega) (by omega) (fun i' k q1 q2 => absurd (om_tb_out (by omega)) q2)
theorem op_matches_k {sc : Int × (Int → Int)} {d : Nat} {O : List (Nat × Nat × List om_V)} {I : Nat → Int → Int} {Q : Option om_V → om_H → Prop} {a c a2 c2 : Nat} {o w i : Int} (ho : om_op O a c o w) (ho2 : om_op O a2 c2 o w) (h0 : (∃ k, om_tb o w (I c) i k ≠ om_tb o w (I c2) i k) → Q (some (.inl 0)) (O, I)) (h1 : (∀ k, om_tb o w (I c) i k = om_tb o w (I c2) i k) → om_R sc (d + 1) 86 43 [.inr (.inl a), .inr (.inl a2), .inl i, .inl w] [] (O, I) Q) : ∀ (m : Nat) (k : Int), k + m = w → 0 ≤ k → (∀ k', k' < k → om_tb o w (I c) i k' = om_tb o w (I c2) i k') → om_R sc (d + 1) 86 12 [.inr (.inl a), .inr (.inl a2), .inl i, .inl k] [] (O, I) Q := by
  obtain ⟨g0, g1, g2, gr⟩ := om_op_g ho
  have gr2 := (om_op_g ho2).2.2.2
  have hw2 := ho.2.2.2.2.2
  intro m
  induction m with
  | zero =>
    intro k e1 e2 h
    simp only [x_Op_matches_12, x_Op_matches_13, x_Op_matches_14, x_Op_matches_17, g1]
    rw [if_pos (by omega)]
    have hk : k = w := by omega
    subst hk
    refine h1 (fun k' => ?_)
    by_cases hk : k' < k
    · exact h k' hk
    · rw [om_tb_out (by omega), om_tb_out (by omega)]
  | succ m ih =>
    intro k e1 e2 h
    simp only [x_Op_matches_12, x_Op_matches_13, x_Op_matches_14, x_Op_matches_17, g1]
    rw [if_neg (by omega)]
    simp only [x_Op_matches_20, x_Op_matches_21, x_Op_matches_22, x_Op_matches_23, gr, Option.toList_some, Option.toList_none, List.cons_append, List.nil_append, List.length_cons, List.length_nil, Nat.reduceAdd, Nat.zero_add, Nat.reduceLeDiff, true_and]
    refine op_get ho ?_
    simp only [x_Op_matches_26, x_Op_matches_27, x_Op_matches_28, x_Op_matches_29, gr2, Option.toList_some, Option.toList_none, List.cons_append, List.nil_append, List.length_cons, List.length_nil, Nat.reduceAdd, Nat.zero_add, Nat.reduceLeDiff, true_and]
    refine op_get ho2 ?_
    simp only [x_Op_matches_32, Option.toList_some, Option.toList_none, List.cons_append, List.nil_append, List.length_cons, List.length_nil, Nat.reduceAdd, Nat.zero_add, Nat.reduceLeDiff, true_and]
    by_cases hc : om_tb o w (I c) i k = om_tb o w (I c2) i k
    · rw [if_pos hc]
      simp only [x_Op_matches_37, x_Op_matches_40]
      refine ⟨⟨by omega, by omega⟩, ih _ (by omega) (by omega) (fun k' q => ?_)⟩
      by_cases hk : k' = k
      · rw [hk]; exact hc
      · exact h k' (by omega)
    · rw [if_neg hc]
      simp only [x_Op_matches_35, x_Op_matches_36]
      exact ⟨by decide, h0 ⟨k, hc⟩⟩
theorem op_matches_i {sc : Int × (Int → Int)} {d : Nat} {O : List (Nat × Nat × List om_V)} {I : Nat → Int → Int} {Q : Option om_V → om_H → Prop} {a c a2 c2 : Nat} {o w : Int} (ho : om_op O a c o w) (ho2 : om_op O a2 c2 o w) (h1 : om_tb o w (I c) = om_tb o w (I c2) → Q (some (.inl 1)) (O, I)) (h0 : om_tb o w (I c) ≠ om_tb o w (I c2) → Q (some (.inl 0)) (O, I)) : ∀ (m : Nat) (i : Int) (x : om_V), i + m = o → 0 ≤ i → (∀ i' k, i' < i → om_tb o w (I c) i' k = om_tb o w (I c2) i' k) → om_R sc (d + 1) 86 2 [.inr (.inl a), .inr (.inl a2), .inl i, x] [] (O, I) Q := by
  obtain ⟨g0, g1, g2, gr⟩ := om_op_g ho
  have hoo := ho.2.2.2.1
  have hw := ho.2.2.2.2.1
  intro m
  induction m with
  | zero =>
    intro i x e1 e2 h
    simp only [x_Op_matches_2, x_Op_matches_3, x_Op_matches_4, x_Op_matches_7, x_Op_matches_49, x_Op_matches_50, g0]
    rw [if_pos (by omega)]
    refine ⟨by decide, h1 ?_⟩
    funext i' k
    by_cases hi : i' < i
    · exact h i' k hi
    · rw [om_tb_out (by omega), om_tb_out (by omega)]
  | succ m ih =>
    intro i x e1 e2 h
    simp only [x_Op_matches_2, x_Op_matches_3, x_Op_matches_4, x_Op_matches_7, x_Op_matches_10, x_Op_matches_11, g0]
    rw [if_neg (by omega)]
    refine op_matches_k ho ho2 (fun ⟨k, hk⟩ => h0 (fun q => hk (by rw [q]))) (fun hk => ?_) w.toNat 0 (by omega) (by omega) (fun k' q => by rw [om_tb_out (by omega), om_tb_out (by omega)])
    simp only [x_Op_matches_43, x_Op_matches_46]
    refine ⟨⟨by omega, by omega⟩, ih _ _ (by omega) (by omega) (fun i' k q => ?_)⟩
    by_cases hi : i' = i
    · rw [hi]; exact hk k
    · exact h i' k (by omega)
theorem op_matches {sc : Int × (Int → Int)} {d : Nat} {O : List (Nat × Nat × List om_V)} {I : Nat → Int → Int} {Q : Option om_V → om_H → Prop} {a c a2 c2 : Nat} {o w : Int} (ho : om_op O a c o w) (ho2 : om_op O a2 c2 o w) (h1 : om_tb o w (I c) = om_tb o w (I c2) → Q (some (.inl 1)) (O, I)) (h0 : om_tb o w (I c) ≠ om_tb o w (I c2) → Q (some (.inl 0)) (O, I)) : om_R sc (d + 1) 86 0 [.inr (.inl a), .inr (.inl a2), om_un, om_un] [] (O, I) Q := by
  have ho1 := ho.2.2.1
  simp only [x_Op_matches_0, x_Op_matches_1]
  exact op_matches_i ho ho2 h1 h0 o.toNat 0 _ (by omega) (by omega) (fun i' k q => by rw [om_tb_out (by omega), om_tb_out (by omega)])
