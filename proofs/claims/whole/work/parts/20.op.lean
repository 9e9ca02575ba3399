/-! operators of the class: get, put and what stands on them -/
def om_op (O : List (Nat × Nat × List om_V)) (a c : Nat) (o w : Int) : Prop := O[a]? = some (5, 3, [.inl o, .inl w, .inr (.inl c)]) ∧ O[c]? = some (20, (o * w).toNat, []) ∧ 0 < o ∧ o ≤ 100 ∧ 0 < w ∧ w ≤ 100
theorem om_op_g {O : List (Nat × Nat × List om_V)} {a c : Nat} {o w : Int} (h : om_op O a c o w) : (∀ K, om_rg O a 5 0 K = K (.inl o)) ∧ (∀ K, om_rg O a 5 1 K = K (.inl w)) ∧ (∀ K, om_rg O a 5 2 K = K (.inr (.inl c))) ∧ om_rv O a 5 = True :=
  ⟨fun K => om_rg_eq h.1 (by decide) rfl, fun K => om_rg_eq h.1 (by decide) rfl, fun K => om_rg_eq h.1 (by decide) rfl, om_rv_eq h.1⟩
theorem op_get {sc : Int × (Int → Int)} {d : Nat} {O : List (Nat × Nat × List om_V)} {I : Nat → Int → Int} {Q : Option om_V → om_H → Prop} {a c : Nat} {o w i k : Int} (ho : om_op O a c o w) (hq : Q (some (.inl (om_tb o w (I c) i k))) (O, I)) : om_R sc d 36 0 [.inr (.inl a), .inl i, .inl k, om_un] [] (O, I) Q := by
  obtain ⟨g0, g1, g2, -⟩ := om_op_g ho
  obtain ⟨h1, h2, h3, h4, h5, h6⟩ := ho
  unfold om_tb at hq
  simp only [x_Op_get_0, x_Op_get_1, x_Op_get_4, x_Op_get_5, x_Op_get_6, x_Op_get_9, x_Op_get_12, x_Op_get_13, x_Op_get_16, x_Op_get_17, x_Op_get_18, x_Op_get_21, x_Op_get_24, x_Op_get_25, x_Op_get_28, x_Op_get_29, x_Op_get_30, x_Op_get_31, x_Op_get_34, x_Op_get_35, x_Op_get_38, x_Op_get_39, x_Op_get_40, x_Op_get_43, x_Op_get_44, x_Op_get_45, x_Op_get_46, x_Op_get_47, x_Op_get_50, x_Op_get_51, g0, g1, g2, om_ab_eq h2]
  by_cases q1 : i < 0
  · simp only [if_pos q1]
    rw [if_neg (by omega)] at hq
    simpa using hq
  · simp only [if_neg q1]
    by_cases q2 : o ≤ i
    · simp only [if_pos q2]
      rw [if_neg (by omega)] at hq
      simpa using hq
    · simp only [if_neg q2]
      by_cases q3 : k < 0
      · simp only [if_pos q3]
        rw [if_neg (by omega)] at hq
        simpa using hq
      · simp only [if_neg q3]
        by_cases q4 : w ≤ k
        · simp only [if_pos q4]
          rw [if_neg (by omega)] at hq
          simpa using hq
        · simp only [if_neg q4]
          rw [if_pos (by omega)] at hq
          obtain ⟨b1, b2, b3⟩ := om_ixb (o := o) (w := w) (i := i) (k := k) (by omega) (by omega) (by omega) (by omega) h4 h6
          rw [if_neg (by decide)]
          exact ⟨⟨by omega, by omega⟩, ⟨by omega, by omega⟩, ⟨by omega, by omega⟩, hq⟩
theorem op_put {sc : Int × (Int → Int)} {d : Nat} {O : List (Nat × Nat × List om_V)} {I : Nat → Int → Int} {Q : Option om_V → om_H → Prop} {a c : Nat} {o w i k v : Int} (ho : om_op O a c o w) (hq : ∀ I', (∀ b, b ≠ c → I' b = I b) → (∀ i' k', om_tb o w (I' c) i' k' = if (i' = i ∧ k' = k) ∧ (0 ≤ i ∧ i < o ∧ 0 ≤ k ∧ k < w) then v % 31 else om_tb o w (I c) i' k') → Q none (O, I')) : om_R sc d 26 0 [.inr (.inl a), .inl i, .inl k, .inl v, om_un] [] (O, I) Q := by
  obtain ⟨g0, g1, g2, -⟩ := om_op_g ho
  obtain ⟨h1, h2, h3, h4, h5, h6⟩ := ho
  have out : ¬ (0 ≤ i ∧ i < o ∧ 0 ≤ k ∧ k < w) → Q none (O, I) := fun hn => hq I (fun _ _ => rfl) (fun i' k' => by rw [if_neg (fun q => hn q.2)])
  simp only [x_Op_put_0, x_Op_put_1, x_Op_put_4, x_Op_put_5, x_Op_put_6, x_Op_put_9, x_Op_put_12, x_Op_put_13, x_Op_put_16, x_Op_put_17, x_Op_put_18, x_Op_put_21, x_Op_put_24, x_Op_put_25, x_Op_put_27, x_Op_put_28, x_Op_put_30, x_Op_put_31, x_Op_put_34, x_Op_put_35, x_Op_put_36, x_Op_put_39, x_Op_put_40, x_Op_put_41, x_Op_put_42, x_Op_put_44, x_Op_put_47, x_Op_put_49, x_Op_put_51, x_Op_put_52, x_Op_put_55, x_Op_put_57, x_Op_put_58, g0, g1, g2, om_ab_eq h2]
  by_cases q1 : i < 0
  · simp only [if_pos q1]
    exact out (by omega)
  · simp only [if_neg q1]
    by_cases q2 : o ≤ i
    · simp only [if_pos q2]
      exact out (by omega)
    · simp only [if_neg q2]
      by_cases q3 : k < 0
      · simp only [if_pos q3]
        exact out (by omega)
      · simp only [if_neg q3]
        by_cases q4 : w ≤ k
        · simp only [if_pos q4]
          exact out (by omega)
        · simp only [if_neg q4]
          obtain ⟨b1, b2, b3⟩ := om_ixb (o := o) (w := w) (i := i) (k := k) (by omega) (by omega) (by omega) (by omega) h4 h6
          obtain ⟨t1, t2⟩ := om_tmb v
          have e := om_tm v
          have go : ∀ x, x = v % 31 → Q none (O, om_u I c (om_p (I c) (i * w + k) x)) := fun x hx => hq _ (fun b hb => om_u_ne hb) (fun i' k' => by
            rw [om_u_eq, om_tb_p (by omega) (by omega) (by omega) (by omega), hx]
            by_cases hc : i' = i ∧ k' = k
            · rw [if_pos hc, if_pos ⟨hc, by omega⟩]
            · rw [if_neg hc, if_neg (fun q => hc q.1)])
          refine ⟨by decide, ⟨by omega, by omega⟩, ⟨by omega, by omega⟩, ?_⟩
          by_cases q5 : 0 ≤ Int.tmod v 31
          · rw [if_pos q5] at e
            rw [if_pos q5]
            exact ⟨⟨by omega, by omega⟩, go _ e⟩
          · rw [if_neg q5] at e
            rw [if_neg q5]
            exact ⟨⟨by omega, by omega⟩, ⟨by omega, by omega⟩, go _ e⟩
theorem ja_fill_l {sc : Int × (Int → Int)} {d : Nat} {O : List (Nat × Nat × List om_V)} {Q : Option om_V → om_H → Prop} {c n : Nat} {vs : List om_V} {v : Int} (hO : O[c]? = some (20, n, vs)) (hn : n ≤ 100000) : ∀ (m : Nat) (i : Int) (I : Nat → Int → Int), i + m = n → 0 ≤ i → (∀ I', (∀ b, b ≠ c → I' b = I b) → (∀ z, I' c z = if i ≤ z ∧ z < n then v else I c z) → Q none (O, I')) → om_R sc d 23 5 [.inr (.inl c), .inl v, .inl i, .inl (n : Int)] [] (O, I) Q := by
  intro m
  induction m with
  | zero =>
    intro i I h1 h2 hq
    simp only [x_Ja_fill_5, x_Ja_fill_6, x_Ja_fill_7, x_Ja_fill_20]
    rw [if_pos (by omega)]
    exact hq I (fun _ _ => rfl) (fun z => by rw [if_neg (by omega)])
  | succ m ih =>
    intro i I h1 h2 hq
    simp only [x_Ja_fill_5, x_Ja_fill_6, x_Ja_fill_7]
    rw [if_neg (by omega)]
    simp only [x_Ja_fill_10, x_Ja_fill_11, x_Ja_fill_12, x_Ja_fill_13, x_Ja_fill_14, x_Ja_fill_17, om_ab_eq hO]
    refine ⟨⟨by omega, by omega⟩, ⟨by omega, by omega⟩, ih _ _ (by omega) (by omega) (fun I' f1 f2 => hq I' (fun b hb => by rw [f1 b hb, om_u_ne hb]) (fun z => ?_))⟩
    rw [f2 z, om_u_eq]
    by_cases hz : z = i
    · subst hz
      rw [if_neg (by omega), om_p_eq, if_pos (by omega)]
    · rw [om_p_ne hz]
      by_cases hz2 : i + 1 ≤ z ∧ z < n
      · rw [if_pos hz2, if_pos (by omega)]
      · rw [if_neg hz2, if_neg (by omega)]
theorem ja_fill {sc : Int × (Int → Int)} {d : Nat} {O : List (Nat × Nat × List om_V)} {I : Nat → Int → Int} {Q : Option om_V → om_H → Prop} {c n : Nat} {vs : List om_V} {v : Int} (hO : O[c]? = some (20, n, vs)) (hn : n ≤ 100000) (hq : ∀ I', (∀ b, b ≠ c → I' b = I b) → (∀ z : Int, I' c z = if 0 ≤ z ∧ z < n then v else I c z) → Q none (O, I')) : om_R sc d 23 0 [.inr (.inl c), .inl v, om_un, om_un] [] (O, I) Q := by
  simp only [x_Ja_fill_0, x_Ja_fill_1, x_Ja_fill_2, x_Ja_fill_3, x_Ja_fill_4, om_rn_eq hO (by decide) (by decide) (show om_Z n from ⟨by omega, by omega⟩)]
  exact ja_fill_l hO hn n 0 I (by omega) (by omega) hq
theorem op_wipe {sc : Int × (Int → Int)} {d : Nat} {O : List (Nat × Nat × List om_V)} {I : Nat → Int → Int} {Q : Option om_V → om_H → Prop} {a c : Nat} {o w : Int} (ho : om_op O a c o w) (hq : ∀ I', (∀ b, b ≠ c → I' b = I b) → om_tb o w (I' c) = (fun _ _ => 0) → Q none (O, I')) : om_R sc (d + 1) 22 0 [.inr (.inl a)] [] (O, I) Q := by
  obtain ⟨g0, g1, g2, -⟩ := om_op_g ho
  obtain ⟨h1, h2, h3, h4, h5, h6⟩ := ho
  have hb : o * w ≤ 100 * 100 := Int.mul_le_mul h4 h6 (by omega) (by omega)
  simp only [x_Op_wipe_0, x_Op_wipe_1, x_Op_wipe_4, x_Op_wipe_5, g2, Option.toList_some, Option.toList_none, List.cons_append, List.nil_append, List.length_cons, List.length_nil, Nat.reduceAdd, Nat.zero_add, Nat.reduceLeDiff, true_and]
  refine ja_fill h2 (by omega) (fun I' f1 f2 => ?_)
  simp only [x_Op_wipe_8, Option.toList_some, Option.toList_none, List.cons_append, List.nil_append, List.length_cons, List.length_nil, Nat.reduceAdd, Nat.zero_add, Nat.reduceLeDiff, true_and]
  exact hq I' f1 (om_tb_z h3 h5 (fun z z1 z2 => by rw [f2 z, if_pos (by omega)]))
theorem op_becomeTerm {sc : Int × (Int → Int)} {d : Nat} {O : List (Nat × Nat × List om_V)} {I : Nat → Int → Int} {Q : Option om_V → om_H → Prop} {a c : Nat} {o w i k v : Int} (ho : om_op O a c o w) (hq : ∀ I', (∀ b, b ≠ c → I' b = I b) → (∀ i' k', om_tb o w (I' c) i' k' = if (i' = i ∧ k' = k) ∧ (0 ≤ i ∧ i < o ∧ 0 ≤ k ∧ k < w) then v % 31 else 0) → Q none (O, I')) : om_R sc (d + 2) 25 0 [.inr (.inl a), .inl i, .inl k, .inl v] [] (O, I) Q := by
  have gr := (om_op_g ho).2.2.2
  simp only [x_Op_becomeTerm_0, x_Op_becomeTerm_1, gr, Option.toList_some, Option.toList_none, List.cons_append, List.nil_append, List.length_cons, List.length_nil, Nat.reduceAdd, Nat.zero_add, Nat.reduceLeDiff, true_and]
  refine op_wipe ho (fun I1 f1 f2 => ?_)
  simp only [x_Op_becomeTerm_4, x_Op_becomeTerm_5, x_Op_becomeTerm_6, x_Op_becomeTerm_7, x_Op_becomeTerm_8, gr, Option.toList_some, Option.toList_none, List.cons_append, List.nil_append, List.length_cons, List.length_nil, Nat.reduceAdd, Nat.zero_add, Nat.reduceLeDiff, true_and]
  refine op_put ho (fun I2 f3 f4 => ?_)
  simp only [x_Op_becomeTerm_11, Option.toList_some, Option.toList_none, List.cons_append, List.nil_append, List.length_cons, List.length_nil, Nat.reduceAdd, Nat.zero_add, Nat.reduceLeDiff, true_and]
  refine hq I2 (fun b hb => by rw [f3 b hb, f1 b hb]) (fun i' k' => ?_)
  rw [f4 i' k', f2]
