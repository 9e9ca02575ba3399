/-! operators of the class: rows, sums, comparisons -/
theorem op_copyRow_l {sc : Int × (Int → Int)} {d : Nat} {O : List (Nat × Nat × List om_V)} {Q : Option om_V → om_H → Prop} {a c a2 c2 : Nat} {o w o2 w2 i fr : Int} (ho : om_op O a c o w) (ho2 : om_op O a2 c2 o2 w2) (hne : c2 ≠ c) (hi : 0 ≤ i ∧ i < o) : ∀ (m : Nat) (k : Int) (I : Nat → Int → Int), k + m = w → 0 ≤ k → (∀ I', (∀ b, b ≠ c → I' b = I b) → (∀ i' k', om_tb o w (I' c) i' k' = if i' = i ∧ k ≤ k' ∧ k' < w then om_tb o2 w2 (I c2) fr k' % 31 else om_tb o w (I c) i' k') → Q none (O, I')) → om_R sc (d + 1) 55 3 [.inr (.inl a), .inl i, .inr (.inl a2), .inl fr, .inl k] [] (O, I) Q := by
  obtain ⟨g0, g1, g2, gr⟩ := om_op_g ho
  have gr2 := (om_op_g ho2).2.2.2
  have hw := ho.2.2.2.2.1
  have hw2 := ho.2.2.2.2.2
  intro m
  induction m with
  | zero =>
    intro k I h1 h2 hq
    simp only [x_Op_copyRow_3, x_Op_copyRow_5, x_Op_copyRow_6, x_Op_copyRow_9, x_Op_copyRow_32, g1]
    rw [if_pos (by omega)]
    exact hq I (fun _ _ => rfl) (fun i' k' => by rw [if_neg (by omega)])
  | succ m ih =>
    intro k I h1 h2 hq
    simp only [x_Op_copyRow_3, x_Op_copyRow_5, x_Op_copyRow_6, x_Op_copyRow_9, g1]
    rw [if_neg (by omega)]
    simp only [x_Op_copyRow_12, x_Op_copyRow_13, x_Op_copyRow_14, x_Op_copyRow_16, x_Op_copyRow_17, x_Op_copyRow_18, x_Op_copyRow_20, gr2, Option.toList_some, Option.toList_none, List.cons_append, List.nil_append, List.length_cons, List.length_nil, Nat.reduceAdd, Nat.zero_add, Nat.reduceLeDiff, true_and]
    refine op_get ho2 ?_
    simp only [x_Op_copyRow_23, gr, Option.toList_some, Option.toList_none, List.cons_append, List.nil_append, List.length_cons, List.length_nil, Nat.reduceAdd, Nat.zero_add, Nat.reduceLeDiff, true_and]
    refine op_put ho (fun I1 f1 f2 => ?_)
    simp only [x_Op_copyRow_26, x_Op_copyRow_29, Option.toList_some, Option.toList_none, List.cons_append, List.nil_append, List.length_cons, List.length_nil, Nat.reduceAdd, Nat.zero_add, Nat.reduceLeDiff, true_and]
    refine ⟨⟨by omega, by omega⟩, ih _ _ (by omega) (by omega) (fun I' f3 f4 => hq I' (fun b hb => by rw [f3 b hb, f1 b hb]) (fun i' k' => ?_))⟩
    rw [f4 i' k', f2 i' k', f1 c2 hne]
    by_cases hc : i' = i ∧ k ≤ k' ∧ k' < w
    · rw [if_pos hc]
      by_cases hk : k' = k
      · rw [if_neg (by omega), if_pos (by omega), hk]
      · rw [if_pos (by omega)]
    · rw [if_neg hc, if_neg (by omega), if_neg (by omega)]
theorem op_copyRow {sc : Int × (Int → Int)} {d : Nat} {O : List (Nat × Nat × List om_V)} {I : Nat → Int → Int} {Q : Option om_V → om_H → Prop} {a c a2 c2 : Nat} {o w o2 w2 i fr : Int} (ho : om_op O a c o w) (ho2 : om_op O a2 c2 o2 w2) (hne : c2 ≠ c) (hi : 0 ≤ i ∧ i < o) (hq : ∀ I', (∀ b, b ≠ c → I' b = I b) → (∀ i' k', om_tb o w (I' c) i' k' = if i' = i ∧ 0 ≤ k' ∧ k' < w then om_tb o2 w2 (I c2) fr k' % 31 else om_tb o w (I c) i' k') → Q none (O, I')) : om_R sc (d + 1) 55 0 [.inr (.inl a), .inl i, .inr (.inl a2), .inl fr, om_un] [] (O, I) Q := by
  have hw := ho.2.2.2.2.1
  simp only [x_Op_copyRow_0, x_Op_copyRow_1]
  exact op_copyRow_l ho ho2 hne hi w.toNat 0 I (by omega) (by omega) hq
theorem op_plus_k {sc : Int × (Int → Int)} {d : Nat} {O : List (Nat × Nat × List om_V)} {Q : Option om_V → om_H → Prop} {a c a2 c2 : Nat} {o w o2 w2 i t : Int} (ho : om_op O a c o w) (ho2 : om_op O a2 c2 o2 w2) (hne : c2 ≠ c) (hi : 0 ≤ i ∧ i < o) (ht : -100 ≤ t ∧ t ≤ 100) (K : (Nat → Int → Int) → Prop) (hK : ∀ I', K I' → om_R sc (d + 1) 44 52 [.inr (.inl a), .inr (.inl a2), .inl t, .inl i, .inl w] [] (O, I') Q) : ∀ (m : Nat) (k : Int) (I : Nat → Int → Int), k + m = w → 0 ≤ k → om_r31 (om_tb o2 w2 (I c2)) → om_r31 (om_tb o w (I c)) → (∀ I', (∀ b, b ≠ c → I' b = I b) → (∀ i' k', om_tb o w (I' c) i' k' = if i' = i ∧ k ≤ k' ∧ k' < w then (om_tb o w (I c) i' k' + t * om_tb o2 w2 (I c2) i' k') % 31 else om_tb o w (I c) i' k') → K I') → om_R sc (d + 1) 44 13 [.inr (.inl a), .inr (.inl a2), .inl t, .inl i, .inl k] [] (O, I) Q := by
  obtain ⟨g0, g1, g2, gr⟩ := om_op_g ho
  have gr2 := (om_op_g ho2).2.2.2
  have hw := ho.2.2.2.2.1
  have hw2 := ho.2.2.2.2.2
  intro m
  induction m with
  | zero =>
    intro k I h1 h2 r2 r1 hq
    simp only [x_Op_plus_13, x_Op_plus_15, x_Op_plus_16, x_Op_plus_19, g1]
    rw [if_pos (by omega)]
    have hk : k = w := by omega
    subst hk
    exact hK I (hq I (fun _ _ => rfl) (fun i' k' => by rw [if_neg (by omega)]))
  | succ m ih =>
    intro k I h1 h2 r2 r1 hq
    simp only [x_Op_plus_13, x_Op_plus_15, x_Op_plus_16, x_Op_plus_19, g1]
    rw [if_neg (by omega)]
    simp only [x_Op_plus_22, x_Op_plus_23, x_Op_plus_24, x_Op_plus_26, x_Op_plus_27, x_Op_plus_28, x_Op_plus_30, gr, Option.toList_some, Option.toList_none, List.cons_append, List.nil_append, List.length_cons, List.length_nil, Nat.reduceAdd, Nat.zero_add, Nat.reduceLeDiff, true_and]
    refine op_get ho ?_
    simp only [x_Op_plus_33, x_Op_plus_34, x_Op_plus_35, x_Op_plus_36, x_Op_plus_38, gr2, Option.toList_some, Option.toList_none, List.cons_append, List.nil_append, List.length_cons, List.length_nil, Nat.reduceAdd, Nat.zero_add, Nat.reduceLeDiff, true_and]
    refine op_get ho2 ?_
    simp only [x_Op_plus_41, x_Op_plus_42, x_Op_plus_43, gr, Option.toList_some, Option.toList_none, List.cons_append, List.nil_append, List.length_cons, List.length_nil, Nat.reduceAdd, Nat.zero_add, Nat.reduceLeDiff, true_and]
    obtain ⟨b1, b2⟩ := r1 i k
    obtain ⟨b3, b4⟩ := r2 i k
    obtain ⟨b5, b6⟩ := om_mb (T := 100) ht.1 ht.2 b3 b4
    refine ⟨⟨by omega, by omega⟩, ⟨by omega, by omega⟩, op_put ho (fun I1 f1 f2 => ?_)⟩
    simp only [x_Op_plus_46, x_Op_plus_49, Option.toList_some, Option.toList_none, List.cons_append, List.nil_append, List.length_cons, List.length_nil, Nat.reduceAdd, Nat.zero_add, Nat.reduceLeDiff, true_and]
    refine ⟨⟨by omega, by omega⟩, ih _ _ (by omega) (by omega) (by rw [f1 c2 hne]; exact r2) (fun i' k' => ?_) (fun I' f3 f4 => hq I' (fun b hb => by rw [f3 b hb, f1 b hb]) (fun i' k' => ?_))⟩
    · rw [f2 i' k']
      split
      · omega
      · exact r1 i' k'
    · rw [f4 i' k', f2 i' k', f1 c2 hne]
      by_cases hc : i' = i ∧ k ≤ k' ∧ k' < w
      · rw [if_pos hc]
        by_cases hk : k' = k
        · rw [if_neg (by omega), if_pos (by omega), hk, hc.1]
        · rw [if_pos (by omega), if_neg (by omega)]
      · rw [if_neg hc, if_neg (by omega), if_neg (by omega)]
theorem op_plus_i {sc : Int × (Int → Int)} {d : Nat} {O : List (Nat × Nat × List om_V)} {Q : Option om_V → om_H → Prop} {a c a2 c2 : Nat} {o w o2 w2 t : Int} (ho : om_op O a c o w) (ho2 : om_op O a2 c2 o2 w2) (hne : c2 ≠ c) (ht : -100 ≤ t ∧ t ≤ 100) : ∀ (m : Nat) (i : Int) (x : om_V) (I : Nat → Int → Int), i + m = o → 0 ≤ i → om_r31 (om_tb o2 w2 (I c2)) → om_r31 (om_tb o w (I c)) → (∀ I', (∀ b, b ≠ c → I' b = I b) → (∀ i' k', om_tb o w (I' c) i' k' = if i ≤ i' ∧ i' < o ∧ 0 ≤ k' ∧ k' < w then (om_tb o w (I c) i' k' + t * om_tb o2 w2 (I c2) i' k') % 31 else om_tb o w (I c) i' k') → Q none (O, I')) → om_R sc (d + 1) 44 2 [.inr (.inl a), .inr (.inl a2), .inl t, .inl i, x] [] (O, I) Q := by
  obtain ⟨g0, g1, g2, gr⟩ := om_op_g ho
  have hw := ho.2.2.2.2.1
  have ho1 := ho.2.2.1
  have ho3 := ho.2.2.2.1
  intro m
  induction m with
  | zero =>
    intro i x I h1 h2 r2 r1 hq
    simp only [x_Op_plus_2, x_Op_plus_3, x_Op_plus_4, x_Op_plus_7, x_Op_plus_58, g0]
    rw [if_pos (by omega)]
    exact hq I (fun _ _ => rfl) (fun i' k' => by rw [if_neg (by omega)])
  | succ m ih =>
    intro i x I h1 h2 r2 r1 hq
    simp only [x_Op_plus_2, x_Op_plus_3, x_Op_plus_4, x_Op_plus_7, g0]
    rw [if_neg (by omega)]
    simp only [x_Op_plus_10, x_Op_plus_11]
    refine op_plus_k ho ho2 hne (by omega) ht (fun I1 => (∀ b, b ≠ c → I1 b = I b) ∧ ∀ i' k', om_tb o w (I1 c) i' k' = if i' = i ∧ 0 ≤ k' ∧ k' < w then (om_tb o w (I c) i' k' + t * om_tb o2 w2 (I c2) i' k') % 31 else om_tb o w (I c) i' k') (fun I1 ⟨f1, f2⟩ => ?_) w.toNat 0 I (by omega) (by omega) r2 r1 (fun I' f1 f2 => ⟨f1, f2⟩)
    simp only [x_Op_plus_52, x_Op_plus_55]
    refine ⟨⟨by omega, by omega⟩, ih _ _ _ (by omega) (by omega) (by rw [f1 c2 hne]; exact r2) (fun i' k' => ?_) (fun I' f3 f4 => hq I' (fun b hb => by rw [f3 b hb, f1 b hb]) (fun i' k' => ?_))⟩
    · rw [f2 i' k']
      split
      · omega
      · exact r1 i' k'
    · rw [f4 i' k', f2 i' k', f1 c2 hne]
      by_cases hc : i ≤ i' ∧ i' < o ∧ 0 ≤ k' ∧ k' < w
      · rw [if_pos hc]
        by_cases hk : i' = i
        · rw [if_neg (by omega), if_pos (by omega)]
        · rw [if_pos (by omega), if_neg (by omega)]
      · rw [if_neg hc, if_neg (by omega), if_neg (by omega)]
theorem op_plus {sc : Int × (Int → Int)} {d : Nat} {O : List (Nat × Nat × List om_V)} {I : Nat → Int → Int} {Q : Option om_V → om_H → Prop} {a c a2 c2 : Nat} {o w o2 w2 t : Int} (ho : om_op O a c o w) (ho2 : om_op O a2 c2 o2 w2) (hne : c2 ≠ c) (ht : -100 ≤ t ∧ t ≤ 100) (r2 : om_r31 (om_tb o2 w2 (I c2))) (r1 : om_r31 (om_tb o w (I c))) (hq : ∀ I', (∀ b, b ≠ c → I' b = I b) → (∀ i' k', om_tb o w (I' c) i' k' = if 0 ≤ i' ∧ i' < o ∧ 0 ≤ k' ∧ k' < w then (om_tb o w (I c) i' k' + t * om_tb o2 w2 (I c2) i' k') % 31 else 0) → Q none (O, I')) : om_R sc (d + 1) 44 0 [.inr (.inl a), .inr (.inl a2), .inl t, om_un, om_un] [] (O, I) Q := by
  have ho1 := ho.2.2.1
  simp only [x_Op_plus_0, x_Op_plus_1]
  refine op_plus_i ho ho2 hne ht o.toNat 0 _ I (by omega) (by omega) r2 r1 (fun I' f1 f2 => hq I' f1 (fun i' k' => ?_))
  rw [f2 i' k']
  split
  · rfl
  · rename_i hc
    exact om_tb_out hc
/-- the greatest k with p k, or -1: below n -/
def om_top (p : Int → Bool) : Nat → Int
  | 0 => -1
  | n + 1 => if p n then n else om_top p n
theorem om_top_b (p : Int → Bool) : ∀ n : Nat, -1 ≤ om_top p n ∧ om_top p n < n
  | 0 => by simp [om_top]
  | n + 1 => by
    have := om_top_b p n
    unfold om_top
    split <;> omega
theorem om_top_p {p : Int → Bool} : ∀ {n : Nat}, 0 ≤ om_top p n → p (om_top p n) = true
  | 0, h => by simp [om_top] at h
  | n + 1, h => by
    unfold om_top at h ⊢
    split
    · rename_i hp
      exact hp
    · rename_i hp
      rw [if_neg hp] at h
      exact om_top_p h
theorem om_top_n {p : Int → Bool} : ∀ {n : Nat} {k : Int}, om_top p n < k → k < n → p k = false
  | 0, k, h, h2 => by simp [om_top] at h; omega
  | n + 1, k, h, h2 => by
    unfold om_top at h
    split at h
    · omega
    · rename_i hp
      by_cases hk : k = n
      · subst hk
        simpa using hp
      · exact om_top_n h (by omega)
theorem om_top_eq {p : Int → Bool} {n : Nat} {m : Int} (h1 : -1 ≤ m) (h2 : m < n) (h3 : 0 ≤ m → p m = true) (h4 : ∀ k, m < k → k < n → p k = false) : om_top p n = m := by
  have b := om_top_b p n
  rcases Int.lt_trichotomy (om_top p n) m with h | h | h
  · have := om_top_n h h2
    rw [h3 (by omega)] at this
    cases this
  · exact h
  · have := h4 _ h b.2
    have h5 : p (om_top p n) = true := om_top_p (by omega)
    rw [h5] at this
    cases this
theorem op_topDegree_l {sc : Int × (Int → Int)} {d : Nat} {O : List (Nat × Nat × List om_V)} {I : Nat → Int → Int} {Q : Option om_V → om_H → Prop} {a c : Nat} {o w i : Int} (ho : om_op O a c o w) : ∀ (m : Nat), (m : Int) ≤ w → Q (some (.inl (om_top (fun k => decide (om_tb o w (I c) i k ≠ 0)) m))) (O, I) → om_R sc (d + 1) 42 7 [.inr (.inl a), .inl i, .inl ((m : Int) - 1)] [] (O, I) Q := by
  obtain ⟨g0, g1, g2, gr⟩ := om_op_g ho
  have hw2 := ho.2.2.2.2.2
  intro m
  induction m with
  | zero =>
    intro hm hq
    simp only [x_Op_topDegree_7, x_Op_topDegree_8, x_Op_topDegree_28, x_Op_topDegree_29]
    rw [if_pos (by omega)]
    exact hq
  | succ m ih =>
    intro hm hq
    simp only [x_Op_topDegree_7, x_Op_topDegree_8]
    rw [if_neg (by omega)]
    simp only [x_Op_topDegree_11, x_Op_topDegree_12, x_Op_topDegree_13, x_Op_topDegree_14, gr, Option.toList_some, Option.toList_none, List.cons_append, List.nil_append, List.length_cons, List.length_nil, Nat.reduceAdd, Nat.zero_add, Nat.reduceLeDiff, true_and]
    refine op_get ho ?_
    have e1 : ((m + 1 : Nat) : Int) - 1 = m := by omega
    simp only [x_Op_topDegree_17, Option.toList_some, Option.toList_none, List.cons_append, List.nil_append, List.length_cons, List.length_nil, Nat.reduceAdd, Nat.zero_add, Nat.reduceLeDiff, true_and, e1] at *
    unfold om_top at hq
    by_cases hz : om_tb o w (I c) i m = 0
    · rw [if_pos hz]
      rw [if_neg (by simp [hz])] at hq
      simp only [x_Op_topDegree_22, x_Op_topDegree_25]
      exact ⟨⟨by omega, by omega⟩, ih (by omega) hq⟩
    · rw [if_neg hz]
      rw [if_pos (by simp [hz])] at hq
      simp only [x_Op_topDegree_20, x_Op_topDegree_21]
      exact hq
theorem op_topDegree {sc : Int × (Int → Int)} {d : Nat} {O : List (Nat × Nat × List om_V)} {I : Nat → Int → Int} {Q : Option om_V → om_H → Prop} {a c : Nat} {o w i : Int} (ho : om_op O a c o w) (hq : Q (some (.inl (om_top (fun k => decide (om_tb o w (I c) i k ≠ 0)) w.toNat))) (O, I)) : om_R sc (d + 1) 42 0 [.inr (.inl a), .inl i, om_un] [] (O, I) Q := by
  obtain ⟨g0, g1, g2, gr⟩ := om_op_g ho
  have hw := ho.2.2.2.2.1
  have hw2 := ho.2.2.2.2.2
  simp only [x_Op_topDegree_0, x_Op_topDegree_1, x_Op_topDegree_4, x_Op_topDegree_5, x_Op_topDegree_6, g1]
  have h := op_topDegree_l (sc := sc) (d := d) (i := i) ho w.toNat (by omega) hq
  rw [Int.toNat_of_nonneg (by omega)] at h
  exact ⟨⟨by omega, by omega⟩, h⟩
