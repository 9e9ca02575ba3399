/-! division in the class -/
theorem dv_take_l {sc : Int × (Int → Int)} {d : Nat} {s : Int} {q : Nat → Int} {Q : Option om_V → om_H → Prop} {b : Nat} {i : Int} (hi : 0 ≤ i ∧ i ≤ 4) {B : Int → Int → Int} (hB : om_su (5 - i) 13 B) (rB : om_r31 B) (K : (Nat → Int → Int) → Prop) (hK : ∀ I', K I' → om_R sc (d + 2) 61 35 [.inr (.inl 71), .inl i, .inr (.inl b), .inl i] [] (om_O s q, I') Q) : ∀ (m j : Nat) (I : Nat → Int → Int), (j : Int) + m = i → om_tb 5 13 (I 77) = om_Ti s B j → (∀ I', (∀ b, b ≠ 77 → I' b = I b) → om_tb 5 13 (I' 77) = om_Ti s B i.toNat → K I') → om_R sc (d + 2) 61 10 [.inr (.inl 71), .inl i, .inr (.inl b), .inl (j : Int)] [] (om_O s q, I) Q := by
  have gw := (om_op_g (oO_76 (s := s) (q := q))).2.2.2
  intro m
  induction m with
  | zero =>
    intro j I h1 hT hq
    simp only [x_Dv_takeAway_10, x_Dv_takeAway_11, x_Dv_takeAway_12]
    rw [if_pos (by omega)]
    have e : (j : Int) = i := by omega
    rw [e]
    exact hK I (hq I (fun _ _ => rfl) (by rw [hT]; congr 1; omega))
  | succ m ih =>
    intro j I h1 hT hq
    have suT := om_Ti_su (s := s) hB (by omega) j
    simp only [x_Dv_takeAway_10, x_Dv_takeAway_11, x_Dv_takeAway_12]
    rw [if_neg (by omega)]
    simp only [x_Dv_takeAway_15, x_Dv_takeAway_16, x_Dv_takeAway_19, x_Dv_takeAway_20, x_Dv_takeAway_23, x_Dv_takeAway_26, gO_71_3, gO_71_0, gO_20_0, gw, Option.toList_some, Option.toList_none, List.cons_append, List.nil_append, List.length_cons, List.length_nil, Nat.reduceAdd, Nat.zero_add, Nat.reduceLeDiff, true_and]
    refine op_putT oO_76 (by rw [hT]; exact om_Ti_r rB j) (fun I1 f1 f2 => ?_)
    rw [hT] at f2
    have e2 : om_tb 5 13 (I1 77) = om_Ti s B (j + 1) := by
      funext jj k
      rw [f2 jj k]
      have h5 : om_T s (om_Ti s B j) jj k = om_Ti s B (j + 1) jj k := rfl
      split
      · rw [om_T_w suT (by omega), h5]
      · rename_i hno
        rw [← h5]
        exact (om_T_su suT (by omega) jj k (by omega)).symm
    simp only [x_Dv_takeAway_29, x_Dv_takeAway_32, Option.toList_some, Option.toList_none, List.cons_append, List.nil_append, List.length_cons, List.length_nil, Nat.reduceAdd, Nat.zero_add, Nat.reduceLeDiff, true_and]
    refine ⟨⟨by omega, by omega⟩, ?_⟩
    have h := ih (j + 1) I1 (by omega) e2 (fun I' f3 f4 => hq I' (fun b hb => by rw [f3 b hb, f1 b hb]) f4)
    simpa using h
theorem dv_takeAway {sc : Int × (Int → Int)} {d : Nat} {s : Int} {q : Nat → Int} {I : Nat → Int → Int} {Q : Option om_V → om_H → Prop} {b cb : Nat} {i : Int} (hb : om_op (om_O s q) b cb 5 13) (nb : cb ≠ 77) (hi : 0 ≤ i ∧ i ≤ 4) {B : Int → Int → Int} (hBI : om_tb 5 13 (I cb) = B) (hB : om_su (5 - i) 13 B) (rB : om_r31 B) (rQ : om_r31 (om_tb 5 13 (I 73))) (rR : om_r31 (om_tb 5 25 (I 75))) (hq : ∀ I', (∀ b, b ≠ 77 → b ≠ 75 → I' b = I b) → (∀ j k, om_tb 5 25 (I' 75) j k = (om_tb 5 25 (I 75) j k - om_cv (om_tb 5 13 (I 73) i) (om_Ti s B i.toNat) j k) % 31) → Q none (om_O s q, I')) : om_R sc (d + 3) 61 0 [.inr (.inl 71), .inl i, .inr (.inl b), om_un] [] (om_O s q, I) Q := by
  have gw := (om_op_g (oO_76 (s := s) (q := q))).2.2.2
  have gr := (om_op_g (oO_74 (s := s) (q := q))).2.2.2
  simp only [x_Dv_takeAway_0, x_Dv_takeAway_1, x_Dv_takeAway_4, x_Dv_takeAway_5, gO_71_3, gw, Option.toList_some, Option.toList_none, List.cons_append, List.nil_append, List.length_cons, List.length_nil, Nat.reduceAdd, Nat.zero_add, Nat.reduceLeDiff, true_and]
  refine op_become oO_76 hb nb (fun I1 f1 f2 => ?_)
  simp only [x_Dv_takeAway_8, x_Dv_takeAway_9, Option.toList_some, Option.toList_none, List.cons_append, List.nil_append, List.length_cons, List.length_nil, Nat.reduceAdd, Nat.zero_add, Nat.reduceLeDiff, true_and]
  have e1 : om_tb 5 13 (I1 77) = B := by
    rw [← hBI]
    funext j k
    rw [f2 j k]
    split
    · rfl
    · rw [om_tb_out (by omega)]
  have h := dv_take_l (sc := sc) (d := d + 1) (s := s) (q := q) (b := b) (Q := Q) hi hB rB (fun I2 => (∀ b, b ≠ 77 → I2 b = I1 b) ∧ om_tb 5 13 (I2 77) = om_Ti s B i.toNat) (fun I2 ⟨g1, g2⟩ => ?_) i.toNat 0 I1 (by omega) e1 (fun I2 f3 f4 => ⟨f3, f4⟩)
  · simpa using h
  · have suT := om_Ti_su (s := s) hB (by omega) i.toNat
    have e73 : I2 73 = I 73 := by rw [g1 73 (by decide), f1 73 (by decide)]
    have e75 : I2 75 = I 75 := by rw [g1 75 (by decide), f1 75 (by decide)]
    simp only [x_Dv_takeAway_35, x_Dv_takeAway_36, x_Dv_takeAway_39, x_Dv_takeAway_40, x_Dv_takeAway_43, x_Dv_takeAway_44, x_Dv_takeAway_46, x_Dv_takeAway_47, x_Dv_takeAway_50, gO_71_1, gO_71_2, gO_71_3, gr, Option.toList_some, Option.toList_none, List.cons_append, List.nil_append, List.length_cons, List.length_nil, Nat.reduceAdd, Nat.zero_add, Nat.reduceLeDiff, true_and]
    refine op_prt oO_74 oO_72 oO_76 (by decide) (by decide) hi.1 (by decide) (by rw [e75]; exact rR) (by rw [e73]; exact rQ) (by rw [g2]; exact om_Ti_r rB _) (fun I3 f5 f6 => ?_)
    rw [e73, e75, g2] at f6
    simp only [x_Dv_takeAway_53, Option.toList_some, Option.toList_none, List.cons_append, List.nil_append, List.length_cons, List.length_nil, Nat.reduceAdd, Nat.zero_add, Nat.reduceLeDiff, true_and]
    refine hq I3 (fun b b1 b2 => by rw [f5 b b2, g1 b b1, f1 b b1]) (fun j k => ?_)
    rw [f6 j k]
    have e : om_sm (fun a => om_tb 5 13 (I 73) i a * om_Ti s B i.toNat j (k - a)) 13 = om_cv (om_tb 5 13 (I 73) i) (om_Ti s B i.toNat) j k := om_cv_n (w := 13) (fun a ha => om_tb_out (by omega)) (by omega) j k
    split
    · have hneg := om_neg_sm (c := om_tb 5 13 (I 73) i) (W := fun a => om_Ti s B i.toNat j (k - a)) 13
      rw [e] at hneg
      have e13 : (13 : Int).toNat = 13 := rfl
      rw [e13]
      generalize om_sm (fun a => ((30 * om_tb 5 13 (I 73) i a) % 31) * om_Ti s B i.toNat j (k - a)) 13 = x at hneg ⊢
      omega
    · rename_i hno
      rw [om_tb_out hno, om_cv_o (w := 13) (fun a ha => om_tb_out (by omega)) (om_su_le suT (show 5 - i + (i.toNat : Int) ≤ 5 by omega) (Int.le_refl _)) j k (by omega)]
      rfl
theorem dv_row_l {sc : Int × (Int → Int)} {d : Nat} {s : Int} {q : Nat → Int} {Q : Option om_V → om_H → Prop} {a b : Nat} {n u i : Int} (hn : 0 ≤ n) (hi : 0 ≤ i ∧ n + i ≤ 4) (hu : 0 ≤ u ∧ u < 31) {R Qt : Int → Int → Int} (rR : om_r31 R) (K : (Nat → Int → Int) → Prop) (hK : ∀ I', K I' → om_R sc (d + 2) 59 102 [.inr (.inl 71), .inr (.inl a), .inr (.inl b), .inl n, .inl u, .inl i, .inl 13] [] (om_O s q, I') Q) : ∀ (m : Nat) (k : Int) (I : Nat → Int → Int), k + m = 13 → 0 ≤ k → om_tb 5 25 (I 75) = R → (∀ i' k', om_tb 5 13 (I 73) i' k' = if i' = i ∧ 0 ≤ k' ∧ k' < k then (u * R (n + i) k') % 31 else Qt i' k') → (∀ I', (∀ b, b ≠ 73 → I' b = I b) → (∀ i' k', om_tb 5 13 (I' 73) i' k' = if i' = i ∧ 0 ≤ k' ∧ k' < 13 then (u * R (n + i) k') % 31 else Qt i' k') → K I') → om_R sc (d + 2) 59 62 [.inr (.inl 71), .inr (.inl a), .inr (.inl b), .inl n, .inl u, .inl i, .inl k] [] (om_O s q, I) Q := by
  have gq := (om_op_g (oO_72 (s := s) (q := q))).2.2.2
  have gr := (om_op_g (oO_74 (s := s) (q := q))).2.2.2
  intro m
  induction m with
  | zero =>
    intro k I h1 h2 hR hT hq
    simp only [x_Dv_carryOut_62, x_Dv_carryOut_64, x_Dv_carryOut_66]
    rw [if_pos (by omega)]
    have hk : k = 13 := by omega
    subst hk
    exact hK I (hq I (fun _ _ => rfl) hT)
  | succ m ih =>
    intro k I h1 h2 hR hT hq
    simp only [x_Dv_carryOut_62, x_Dv_carryOut_64, x_Dv_carryOut_66]
    rw [if_neg (by omega)]
    simp only [x_Dv_carryOut_69, x_Dv_carryOut_70, x_Dv_carryOut_73, x_Dv_carryOut_75, x_Dv_carryOut_77, x_Dv_carryOut_79, x_Dv_carryOut_80, x_Dv_carryOut_83, x_Dv_carryOut_84, x_Dv_carryOut_86, x_Dv_carryOut_87, x_Dv_carryOut_89, gO_71_1, gO_71_2, gr, Option.toList_some, Option.toList_none, List.cons_append, List.nil_append, List.length_cons, List.length_nil, Nat.reduceAdd, Nat.zero_add, Nat.reduceLeDiff, true_and]
    refine ⟨⟨by omega, by omega⟩, op_get oO_74 ?_⟩
    rw [hR]
    obtain ⟨a1, a2⟩ := rR (n + i) k
    obtain ⟨a3, a4⟩ := om_mb (t := u) (T := 31) (by omega) (by omega) a1 a2
    simp only [x_Dv_carryOut_92, x_Dv_carryOut_93, gq, Option.toList_some, Option.toList_none, List.cons_append, List.nil_append, List.length_cons, List.length_nil, Nat.reduceAdd, Nat.zero_add, Nat.reduceLeDiff, true_and]
    refine ⟨⟨by omega, by omega⟩, op_put oO_72 (fun I1 f1 f2 => ?_)⟩
    simp only [x_Dv_carryOut_96, x_Dv_carryOut_99, Option.toList_some, Option.toList_none, List.cons_append, List.nil_append, List.length_cons, List.length_nil, Nat.reduceAdd, Nat.zero_add, Nat.reduceLeDiff, true_and]
    refine ⟨⟨by omega, by omega⟩, ih _ _ (by omega) (by omega) (by rw [f1 75 (by decide)]; exact hR) (fun i' k' => ?_) (fun I' f3 f4 => hq I' (fun b hb => by rw [f3 b hb, f1 b hb]) f4)⟩
    rw [f2 i' k', hT i' k']
    by_cases hc : i' = i ∧ k' = k
    · rw [if_pos (by omega), if_pos (show i' = i ∧ 0 ≤ k' ∧ k' < k + 1 by omega), hc.2]
    · rw [if_neg (fun q => hc q.1)]
      by_cases hc2 : i' = i ∧ 0 ≤ k' ∧ k' < k
      · rw [if_pos hc2, if_pos (by omega)]
      · rw [if_neg hc2, if_neg (by omega)]
theorem dv_carry_l {sc : Int × (Int → Int)} {d : Nat} {s : Int} {q : Nat → Int} {Q : Option om_V → om_H → Prop} {a b cb : Nat} {n u : Int} (hb : om_op (om_O s q) b cb 5 13) (nb3 : cb ≠ 73) (nb5 : cb ≠ 75) (nb7 : cb ≠ 77) (hn : 0 ≤ n ∧ n ≤ 4) (hu : 0 < u ∧ u < 31) {B : Int → Int → Int} (hB : om_su (n + 1) 13 B) (rB : om_r31 B) : ∀ (m : Nat) (x : om_V) (R Qt : Int → Int → Int) (I : Nat → Int → Int), (m : Int) + n ≤ 5 → om_tb 5 13 (I cb) = B → om_tb 5 25 (I 75) = R → om_r31 R → om_tb 5 13 (I 73) = Qt → om_r31 Qt → (∀ (i k : Int), i < (m : Int) → Qt i k = 0) → (¬ om_ft (om_dq s B n u m R) → ∀ I', (∀ b, b ≠ 73 → b ≠ 75 → b ≠ 77 → I' b = I b) → Q (some (.inl 0)) (om_O s q, I')) → (om_ft (om_dq s B n u m R) → ∀ I', (∀ b, b ≠ 73 → b ≠ 75 → b ≠ 77 → I' b = I b) → (∀ i k, om_tb 5 13 (I' 73) i k = if i < m then om_dq s B n u m R i k else Qt i k) → om_tb 5 25 (I' 75) = om_dr s B n u m R → (om_ft (om_dr s B n u m R) → Q (some (.inl 1)) (om_O s q, I')) ∧ (¬ om_ft (om_dr s B n u m R) → Q (some (.inl 0)) (om_O s q, I'))) → om_R sc (d + 4) 59 36 [.inr (.inl 71), .inr (.inl a), .inr (.inl b), .inl n, .inl u, .inl ((m : Int) - 1), x] [] (om_O s q, I) Q := by
  have gr := (om_op_g (oO_74 (s := s) (q := q))).2.2.2
  intro m
  induction m with
  | zero =>
    intro x R Qt I h1 hBI hR rR hQ rQ hQ0 hf hq
    have e := hq (fun i k hk => absurd rfl hk) I (fun _ _ _ _ => rfl) (fun i k => by
      rw [hQ]
      split
      · rename_i hi
        rw [hQ0 i k hi]
        rfl
      · rfl) hR
    have e0 : om_dr s B n u 0 R = R := rfl
    rw [e0] at e
    simp only [x_Dv_carryOut_36, x_Dv_carryOut_38]
    rw [if_pos (by omega)]
    simp only [x_Dv_carryOut_115, x_Dv_carryOut_116, x_Dv_carryOut_119, gO_71_2, gr, Option.toList_some, Option.toList_none, List.cons_append, List.nil_append, List.length_cons, List.length_nil, Nat.reduceAdd, Nat.zero_add, Nat.reduceLeDiff, true_and]
    refine op_fits oO_74 (fun hft => ?_) (fun hft => ?_)
    · simp only [x_Dv_carryOut_122, Option.toList_some, Option.toList_none, List.cons_append, List.nil_append, List.length_cons, List.length_nil, Nat.reduceAdd, Nat.zero_add, Nat.reduceLeDiff, true_and]
      rw [hR] at hft
      exact ⟨by decide, e.1 hft⟩
    · simp only [x_Dv_carryOut_122, Option.toList_some, Option.toList_none, List.cons_append, List.nil_append, List.length_cons, List.length_nil, Nat.reduceAdd, Nat.zero_add, Nat.reduceLeDiff, true_and]
      rw [hR] at hft
      exact ⟨by decide, e.2 hft⟩
  | succ m ih =>
    intro x R Qt I h1 hBI hR rR hQ rQ hQ0 hf hq
    have em : ((m + 1 : Nat) : Int) - 1 = m := by omega
    rw [em]
    have ft := om_dq_ft (s := s) (n := n) (u := u) (B := B) (R := R) (m := m) (by omega)
    simp only [x_Dv_carryOut_36, x_Dv_carryOut_38, x_Dv_carryOut_41, x_Dv_carryOut_42, x_Dv_carryOut_45, x_Dv_carryOut_46, x_Dv_carryOut_48, x_Dv_carryOut_49, gO_71_2, gr, Option.toList_some, Option.toList_none, List.cons_append, List.nil_append, List.length_cons, List.length_nil, Nat.reduceAdd, Nat.zero_add, Nat.reduceLeDiff, true_and]
    rw [if_neg (by omega)]
    refine ⟨⟨by omega, by omega⟩, op_topDegree oO_74 ?_⟩
    rw [hR]
    have b := om_top_b (fun k => decide (R (n + m) k ≠ 0)) (25 : Int).toNat
    have hp := om_top_p (p := fun k => decide (R (n + m) k ≠ 0)) (n := (25 : Int).toNat)
    have hnn := fun k => om_top_n (p := fun k => decide (R (n + m) k ≠ 0)) (n := (25 : Int).toNat) (k := k)
    generalize om_top (fun k => decide (R (n + m) k ≠ 0)) (25 : Int).toNat = t at b hp hnn
    simp only [decide_eq_true_eq, decide_eq_false_iff_not, ne_eq, Decidable.not_not] at hp hnn
    simp only [x_Dv_carryOut_52, x_Dv_carryOut_54, Option.toList_some, Option.toList_none, List.cons_append, List.nil_append, List.length_cons, List.length_nil, Nat.reduceAdd, Nat.zero_add, Nat.reduceLeDiff, true_and]
    by_cases ht : t ≤ 12
    · rw [if_pos ht]
      simp only [x_Dv_carryOut_59, x_Dv_carryOut_60]
      have hz : ∀ k, ¬ (0 ≤ k ∧ k < 13) → R (n + m) k = 0 := by
        intro k hk
        by_cases hk2 : 0 ≤ k ∧ k < 25
        · exact hnn k (by omega) (by omega)
        · rw [← hR]
          exact om_tb_out (by omega)
      refine dv_row_l hn.1 (i := m) (by omega) (by omega) rR (fun I1 => (∀ b, b ≠ 73 → I1 b = I b) ∧ ∀ i' k', om_tb 5 13 (I1 73) i' k' = if i' = (m : Int) ∧ 0 ≤ k' ∧ k' < 13 then (u * R (n + m) k') % 31 else Qt i' k') (fun I1 ⟨g1, g2⟩ => ?_) 13 0 I (by omega) (by omega) hR (fun i' k' => by rw [if_neg (by omega), hQ]) (fun I1 f1 f2 => ⟨f1, f2⟩)
      simp only [x_Dv_carryOut_102, x_Dv_carryOut_103, x_Dv_carryOut_105, x_Dv_carryOut_106, rO_71, Option.toList_some, Option.toList_none, List.cons_append, List.nil_append, List.length_cons, List.length_nil, Nat.reduceAdd, Nat.zero_add, Nat.reduceLeDiff, true_and]
      have r1 : om_r31 (om_tb 5 13 (I1 73)) := by
        intro i' k'
        rw [g2 i' k']
        split
        · omega
        · exact rQ i' k'
      have erow : om_tb 5 13 (I1 73) (m : Int) = fun a => (u * R (n + m) a) % 31 := by
        funext k
        rw [g2 m k]
        by_cases hk : 0 ≤ k ∧ k < 13
        · rw [if_pos ⟨rfl, hk⟩]
        · rw [if_neg (fun q => hk q.2), hz k hk, Int.mul_zero, hQ0 m k (by omega)]
          rfl
      refine dv_takeAway hb nb7 (i := m) (by omega) (by rw [g1 cb nb3]; exact hBI) (om_su_le hB (by omega) (Int.le_refl _)) rB r1 (by rw [g1 75 (by decide), hR]; exact rR) (fun I2 f3 f4 => ?_)
      have e75 : om_tb 5 25 (I2 75) = om_ds s B n u m R := by
        funext j k
        rw [f4 j k, g1 75 (by decide), hR, erow, Int.toNat_natCast]
        rfl
      simp only [x_Dv_carryOut_109, x_Dv_carryOut_112, Option.toList_some, Option.toList_none, List.cons_append, List.nil_append, List.length_cons, List.length_nil, Nat.reduceAdd, Nat.zero_add, Nat.reduceLeDiff, true_and]
      refine ⟨⟨by omega, by omega⟩, ih _ (om_ds s B n u m R) (om_tb 5 13 (I2 73)) I2 (by omega) (by rw [f3 cb nb7 nb5, g1 cb nb3]; exact hBI) e75 om_ds_r rfl (by rw [f3 73 (by decide) (by decide)]; exact r1) (fun i k hi => ?_) (fun hnf I' f5 => ?_) (fun hft I' f5 f6 f7 => ?_)⟩
      · rw [f3 73 (by decide) (by decide), g2 i k, if_neg (by omega)]
        exact hQ0 i k (by omega)
      · exact hf (fun q => hnf (ft.mp q).2) I' (fun b b1 b2 b3 => by rw [f5 b b1 b2 b3, f3 b b3 b2, g1 b b1])
      · have hft2 : om_ft (om_dq s B n u (m + 1) R) := ft.mpr ⟨fun k hk => by rw [hz k (by omega), Int.mul_zero]; rfl, hft⟩
        refine hq hft2 I' (fun b b1 b2 b3 => by rw [f5 b b1 b2 b3, f3 b b3 b2, g1 b b1]) (fun i k => ?_) f7
        rw [f6 i k, f3 73 (by decide) (by decide)]
        show _ = if i < ((m + 1 : Nat) : Int) then (if i = (m : Int) then (u * R (n + m) k) % 31 else om_dq s B n u m (om_ds s B n u m R) i k) else Qt i k
        by_cases hi : i < (m : Int)
        · rw [if_pos hi, if_pos (by omega), if_neg (by omega)]
        · rw [if_neg hi, g2 i k]
          by_cases hi2 : i = (m : Int)
          · rw [if_pos (show i < ((m + 1 : Nat) : Int) by omega), if_pos hi2]
            by_cases hk : 0 ≤ k ∧ k < 13
            · rw [if_pos ⟨hi2, hk⟩]
            · rw [if_neg (fun q => hk q.2), hz k hk, Int.mul_zero, hQ0 i k (by omega)]
              rfl
          · rw [if_neg (fun q => hi2 q.1), if_neg (by omega)]
    · rw [if_neg ht]
      simp only [x_Dv_carryOut_57, x_Dv_carryOut_58]
      refine ⟨by decide, hf (fun q => ?_) I (fun _ _ _ _ => rfl)⟩
      have h5 := (ft.mp q).1 t (by omega)
      exact hp (by omega) (om_p31 hu (rR (n + m) t) h5)
theorem dv_carryOut {sc : Int × (Int → Int)} {d : Nat} {s : Int} {q : Nat → Int} {I : Nat → Int → Int} {Q : Option om_V → om_H → Prop} {a b ca cb : Nat} {n : Int} (ha : om_op (om_O s q) a ca 5 13) (hb : om_op (om_O s q) b cb 5 13) (na : ca < 70) (nb : cb < 70) (rA : om_r31 (om_tb 5 13 (I ca))) (rB : om_r31 (om_tb 5 13 (I cb))) (hn : n = om_or 5 13 (om_tb 5 13 (I cb))) (hn0 : 0 ≤ n) (hB0 : om_tb 5 13 (I cb) n 0 ≠ 0) (h0 : ¬ (om_ft (om_dq s (om_tb 5 13 (I cb)) n (om_pw (om_tb 5 13 (I cb) n 0) 29) (5 - n).toNat (om_tb 5 13 (I ca))) ∧ om_ft (om_dr s (om_tb 5 13 (I cb)) n (om_pw (om_tb 5 13 (I cb) n 0) 29) (5 - n).toNat (om_tb 5 13 (I ca)))) → ∀ I', (∀ b, b ≠ 73 → b ≠ 75 → b ≠ 77 → I' b = I b) → Q (some (.inl 0)) (om_O s q, I')) (h1 : om_ft (om_dq s (om_tb 5 13 (I cb)) n (om_pw (om_tb 5 13 (I cb) n 0) 29) (5 - n).toNat (om_tb 5 13 (I ca))) → om_ft (om_dr s (om_tb 5 13 (I cb)) n (om_pw (om_tb 5 13 (I cb) n 0) 29) (5 - n).toNat (om_tb 5 13 (I ca))) → ∀ I', (∀ b, b ≠ 73 → b ≠ 75 → b ≠ 77 → I' b = I b) → om_tb 5 13 (I' 73) = om_dq s (om_tb 5 13 (I cb)) n (om_pw (om_tb 5 13 (I cb) n 0) 29) (5 - n).toNat (om_tb 5 13 (I ca)) → om_tb 5 25 (I' 75) = om_dr s (om_tb 5 13 (I cb)) n (om_pw (om_tb 5 13 (I cb) n 0) 29) (5 - n).toNat (om_tb 5 13 (I ca)) → Q (some (.inl 1)) (om_O s q, I')) : om_R sc (d + 4) 59 0 [.inr (.inl 71), .inr (.inl a), .inr (.inl b), om_un, om_un, om_un, om_un] [] (om_O s q, I) Q := by
  have gb := (om_op_g hb).2.2.2
  have gq := (om_op_g (oO_72 (s := s) (q := q))).2.2.2
  have gr := (om_op_g (oO_74 (s := s) (q := q))).2.2.2
  have hob := om_or_b (A := om_tb 5 13 (I cb))
  have rb := rB n 0
  obtain ⟨⟨u1, u2⟩, u3⟩ := om_inv_eq (om_tb 5 13 (I cb) n 0) (by omega) (by omega)
  simp only [x_Dv_carryOut_0, x_Dv_carryOut_1, gb, Option.toList_some, Option.toList_none, List.cons_append, List.nil_append, List.length_cons, List.length_nil, Nat.reduceAdd, Nat.zero_add, Nat.reduceLeDiff, true_and]
  refine op_topOrder hb ?_
  rw [← hn]
  simp only [x_Dv_carryOut_4, x_Dv_carryOut_5, x_Dv_carryOut_6, x_Dv_carryOut_7, x_Dv_carryOut_8, gb, Option.toList_some, Option.toList_none, List.cons_append, List.nil_append, List.length_cons, List.length_nil, Nat.reduceAdd, Nat.zero_add, Nat.reduceLeDiff, true_and]
  refine op_get hb ?_
  simp only [x_Dv_carryOut_11, Option.toList_some, Option.toList_none, List.cons_append, List.nil_append, List.length_cons, List.length_nil, Nat.reduceAdd, Nat.zero_add, Nat.reduceLeDiff, true_and]
  refine al_inverse (by omega) ?_
  simp only [x_Dv_carryOut_14, x_Dv_carryOut_16, x_Dv_carryOut_17, x_Dv_carryOut_20, gO_71_1, gq, Option.toList_some, Option.toList_none, List.cons_append, List.nil_append, List.length_cons, List.length_nil, Nat.reduceAdd, Nat.zero_add, Nat.reduceLeDiff, true_and]
  refine op_wipe oO_72 (fun I1 f1 f2 => ?_)
  simp only [x_Dv_carryOut_23, x_Dv_carryOut_24, x_Dv_carryOut_27, x_Dv_carryOut_28, gO_71_2, gr, Option.toList_some, Option.toList_none, List.cons_append, List.nil_append, List.length_cons, List.length_nil, Nat.reduceAdd, Nat.zero_add, Nat.reduceLeDiff, true_and]
  refine op_become oO_74 ha (by omega) (fun I2 f3 f4 => ?_)
  rw [f1 ca (by omega)] at f4
  have e75 : om_tb 5 25 (I2 75) = om_tb 5 13 (I ca) := by
    funext j k
    rw [f4 j k]
    split
    · rfl
    · rw [om_tb_out (by omega)]
  simp only [x_Dv_carryOut_31, x_Dv_carryOut_32, x_Dv_carryOut_33, x_Dv_carryOut_34, Option.toList_some, Option.toList_none, List.cons_append, List.nil_append, List.length_cons, List.length_nil, Nat.reduceAdd, Nat.zero_add, Nat.reduceLeDiff, true_and]
  refine ⟨⟨by omega, by omega⟩, ?_⟩
  have suB : om_su (n + 1) 13 (om_tb 5 13 (I cb)) := by
    intro i k hno
    by_cases hi : n + 1 ≤ i
    · exact om_or_n om_tb_su i k (by omega)
    · exact om_tb_out (by omega)
  have h := dv_carry_l (sc := sc) (d := d) (s := s) (q := q) (a := a) (Q := Q) hb (by omega) (by omega) (by omega) (n := n) (u := om_pw (om_tb 5 13 (I cb) n 0) 29) (by omega) ⟨u1, u2⟩ suB rB (5 - n).toNat om_un (om_tb 5 13 (I ca)) (fun _ _ => 0) I2 (by omega) (by rw [f3 cb (by omega), f1 cb (by omega)]) e75 rA (by rw [f3 73 (by decide), f2]) (fun _ _ => (by decide : (0 : Int) ≤ 0 ∧ (0 : Int) < 31)) (fun i k hi => rfl) (fun hnf I' f5 => h0 (fun q => hnf q.1) I' (fun b b1 b2 b3 => by rw [f5 b b1 b2 b3, f3 b b2, f1 b b1])) (fun hft I' f5 f6 f7 => ⟨fun hr => h1 hft hr I' (fun b b1 b2 b3 => by rw [f5 b b1 b2 b3, f3 b b2, f1 b b1]) ?_ f7, fun hr => h0 (fun q => hr q.2) I' (fun b b1 b2 b3 => by rw [f5 b b1 b2 b3, f3 b b2, f1 b b1])⟩)
  · have e4 : (((5 - n).toNat : Nat) : Int) - 1 = 4 - n := by omega
    rw [e4] at h
    exact h
  · funext i k
    rw [f6 i k]
    split
    · rfl
    · rename_i hi
      exact (om_dq_o _ _ i k (by omega)).symm
