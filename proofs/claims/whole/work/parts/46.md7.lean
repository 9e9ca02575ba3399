/-! the reference's calls: add, same, line, pick -/
theorem om_hd_z {h z : Int} (hh : 0 ≤ h ∧ h < 18) (hz : 0 ≤ z ∧ z < 65) : 65 * h + z = 65 * h + 13 * (z / 13) + z % 13 := by omega
theorem om_hd_in {I : Nat → Int → Int} {h i k : Int} (h1 : 0 ≤ h ∧ h < 18) (h2 : 0 ≤ i ∧ i < 5) (h3 : 0 ≤ k ∧ k < 13) : om_hd I h i k = I 102 (65 * h + 13 * i + k) := if_pos (by omega)
theorem om_hd_at {I : Nat → Int → Int} {h z : Int} (hh : 0 ≤ h ∧ h < 18) (hz : 0 ≤ z ∧ z < 65) : I 102 (65 * h + z) = om_hd I h (z / 13) (z % 13) := by
  rw [om_hd_in hh (by omega) (by omega), ← om_hd_z hh hz]
theorem md_add_l {sc : Int × (Int → Int)} {d : Nat} {s : Int} {q : Nat → Int} {Q : Option om_V → om_H → Prop} {to a b t : Int} (hto : 0 ≤ to ∧ to < 8) (ha : 0 ≤ a ∧ a < 8) (hb : 0 ≤ b ∧ b < 8) (ht : 0 ≤ t ∧ t < 31) {A B : Int → Int → Int} (rA : om_r31 A) (rB : om_r31 B) : ∀ (m : Nat) (z : Int) (I : Nat → Int → Int), z + m = 65 → 0 ≤ z → (∀ i k, z ≤ 13 * i + k → 0 ≤ k → k < 13 → om_hd I a i k = A i k ∧ om_hd I b i k = B i k) → (∀ i k, 0 ≤ i → 13 * i + k < z → 0 ≤ k → k < 13 → om_hd I to i k = om_ad A B t i k) → (∀ I', om_fh I I' to → (∀ i k, 0 ≤ i → i < 5 → 0 ≤ k → k < 13 → om_hd I' to i k = om_ad A B t i k) → Q (some (.inl 0)) (om_O s q, I')) → om_R sc (d + 1) 130 38 [.inr (.inl 101), .inl to, .inl a, .inl b, .inl t, .inl z] [] (om_O s q, I) Q := by
  intro m
  induction m with
  | zero =>
    intro z I h1 h2 hAB hT hq
    simp only [x_Md_add_38, x_Md_add_40, x_Md_add_42, x_Md_add_94, x_Md_add_95]
    rw [if_pos (by omega)]
    exact hq I om_fh_rf (fun i k i1 i2 k1 k2 => hT i k i1 (by omega) k1 k2)
  | succ m ih =>
    intro z I h1 h2 hAB hT hq
    simp only [x_Md_add_38, x_Md_add_40, x_Md_add_42]
    rw [if_neg (by omega)]
    have eA : I 102 (65 * a + z) = A (z / 13) (z % 13) := by
      rw [om_hd_at (I := I) (h := a) (z := z) (by omega) (by omega)]
      exact (hAB _ _ (by omega) (by omega) (by omega)).1
    have eB : I 102 (65 * b + z) = B (z / 13) (z % 13) := by
      rw [om_hd_at (I := I) (h := b) (z := z) (by omega) (by omega)]
      exact (hAB _ _ (by omega) (by omega) (by omega)).2
    obtain ⟨a1, a2⟩ := rA (z / 13) (z % 13)
    obtain ⟨a3, a4⟩ := rB (z / 13) (z % 13)
    obtain ⟨a5, a6⟩ := om_mb (t := t) (T := 31) (by omega) (by omega) a3 a4
    simp only [x_Md_add_45, x_Md_add_46, x_Md_add_49, x_Md_add_51, x_Md_add_52, x_Md_add_53, x_Md_add_55, x_Md_add_56, x_Md_add_57, x_Md_add_60, x_Md_add_62, x_Md_add_63, x_Md_add_64, x_Md_add_66, x_Md_add_67, x_Md_add_68, x_Md_add_70, x_Md_add_71, x_Md_add_74, x_Md_add_76, x_Md_add_77, x_Md_add_78, x_Md_add_80, x_Md_add_81, x_Md_add_82, x_Md_add_83, x_Md_add_84, gO_101_1, aO_102, eA, eB, Option.toList_some, Option.toList_none, List.cons_append, List.nil_append, List.length_cons, List.length_nil, Nat.reduceAdd, Nat.zero_add, Nat.reduceLeDiff, true_and]
    refine ⟨⟨by omega, by omega⟩, ⟨by omega, by omega⟩, ⟨by omega, by omega⟩, ⟨by omega, by omega⟩, ⟨by omega, by omega⟩, ⟨by omega, by omega⟩, ⟨by omega, by omega⟩, ⟨by omega, by omega⟩, ⟨by omega, by omega⟩, ⟨by omega, by omega⟩, md_mod ?_⟩
    simp only [x_Md_add_87, x_Md_add_88, x_Md_add_91, aO_102, Option.toList_some, Option.toList_none, List.cons_append, List.nil_append, List.length_cons, List.length_nil, Nat.reduceAdd, Nat.zero_add, Nat.reduceLeDiff, true_and]
    rw [om_hd_z (h := to) (by omega) (by omega)]
    have hf : ∀ v, om_fh I (om_u I 102 (om_p (I 102) (65 * to + 13 * (z / 13) + z % 13) v)) to := fun v => om_fh_p (by omega) (by omega) (by omega) (by omega) (by omega) (by omega)
    have hp : ∀ v h' i' k', om_hd (om_u I 102 (om_p (I 102) (65 * to + 13 * (z / 13) + z % 13) v)) h' i' k' = if h' = to ∧ i' = z / 13 ∧ k' = z % 13 then v else om_hd I h' i' k' := fun v h' i' k' => om_hd_p (by omega) (by omega) (by omega) (by omega) (by omega) (by omega) h' i' k'
    refine ⟨⟨by omega, by omega⟩, ⟨by omega, by omega⟩, ih _ _ (by omega) (by omega) (fun i k q1 q2 q3 => ?_) (fun i k q0 q1 q2 q3 => ?_) (fun I' f1 f2 => hq I' (om_fh_tr (hf _) f1) f2)⟩
    · rw [hp, hp, if_neg (by omega), if_neg (by omega)]
      exact hAB i k (by omega) q2 q3
    · rw [hp]
      by_cases hc : to = to ∧ i = z / 13 ∧ k = z % 13
      · rw [if_pos hc, hc.2.1, hc.2.2]
        rfl
      · rw [if_neg hc]
        exact hT i k q0 (by omega) q2 q3
theorem md_add {sc : Int × (Int → Int)} {d : Nat} {s : Int} {q : Nat → Int} {I : Nat → Int → Int} {Q : Option om_V → om_H → Prop} {to a b t : Int} (rA : ∀ r, 0 ≤ r → r < 8 → om_r31 (om_hd I r)) (h0 : ¬ (((0 ≤ to ∧ to < 8) ∧ (0 ≤ a ∧ a < 8) ∧ (0 ≤ b ∧ b < 8)) ∧ 0 ≤ t ∧ t < 31) → Q (some (.inl (-1))) (om_O s q, I)) (h1 : ((0 ≤ to ∧ to < 8) ∧ (0 ≤ a ∧ a < 8) ∧ (0 ≤ b ∧ b < 8)) ∧ 0 ≤ t ∧ t < 31 → ∀ I', om_fh I I' to → om_hd I' to = om_ad (om_hd I a) (om_hd I b) t → Q (some (.inl 0)) (om_O s q, I')) : om_R sc (d + 1) 130 0 [.inr (.inl 101), .inl to, .inl a, .inl b, .inl t, om_un] [] (om_O s q, I) Q := by
  have n10 : ¬ (1 : Int) = 0 := by decide
  simp only [x_Md_add_0, x_Md_add_1, Option.toList_some, Option.toList_none, List.cons_append, List.nil_append, List.length_cons, List.length_nil, Nat.reduceAdd, Nat.zero_add, Nat.reduceLeDiff, true_and]
  refine md_isRegister (fun hr => ?_) (fun hr => ?_)
  · simp only [x_Md_add_4, x_Md_add_7, x_Md_add_8, Option.toList_some, Option.toList_none, List.cons_append, List.nil_append, List.length_cons, List.length_nil, Nat.reduceAdd, Nat.zero_add, Nat.reduceLeDiff, true_and, if_neg n10]
    refine md_isRegister (fun hra => ?_) (fun hra => ?_)
    · simp only [x_Md_add_11, x_Md_add_14, x_Md_add_15, Option.toList_some, Option.toList_none, List.cons_append, List.nil_append, List.length_cons, List.length_nil, Nat.reduceAdd, Nat.zero_add, Nat.reduceLeDiff, true_and, if_neg n10]
      refine md_isRegister (fun hrb => ?_) (fun hrb => ?_)
      · simp only [x_Md_add_18, x_Md_add_21, x_Md_add_23, Option.toList_some, Option.toList_none, List.cons_append, List.nil_append, List.length_cons, List.length_nil, Nat.reduceAdd, Nat.zero_add, Nat.reduceLeDiff, true_and, if_neg n10]
        by_cases q1 : t < 0
        · rw [if_pos q1]
          simp only [x_Md_add_33, x_Md_add_34]
          exact h0 (by omega)
        · rw [if_neg q1]
          simp only [x_Md_add_26, x_Md_add_28, x_Md_add_30]
          by_cases q2 : t < 31
          · rw [if_pos q2]
            simp only [x_Md_add_35, x_Md_add_36]
            refine md_add_l hr hra hrb (by omega) (rA a hra.1 hra.2) (rA b hrb.1 hrb.2) 65 0 I (by omega) (by omega) (fun i k _ _ _ => ⟨rfl, rfl⟩) (fun i k q0 q1 q2 q3 => absurd q1 (by omega)) (fun I' f1 f2 => h1 ⟨⟨hr, hra, hrb⟩, by omega⟩ I' f1 ?_)
            funext i k
            by_cases hin : 0 ≤ i ∧ i < 5 ∧ 0 ≤ k ∧ k < 13
            · exact f2 i k hin.1 hin.2.1 hin.2.2.1 hin.2.2.2
            · rw [om_hd_su i k hin, om_ad_su om_hd_su om_hd_su i k hin]
          · rw [if_neg q2]
            simp only [x_Md_add_33, x_Md_add_34]
            exact h0 (by omega)
      · simp only [x_Md_add_18, x_Md_add_21, x_Md_add_23, x_Md_add_26, x_Md_add_28, x_Md_add_30, x_Md_add_33, x_Md_add_34, Option.toList_some, Option.toList_none, List.cons_append, List.nil_append, List.length_cons, List.length_nil, Nat.reduceAdd, Nat.zero_add, Nat.reduceLeDiff, true_and, if_true]
        exact h0 (fun q => hrb q.1.2.2)
    · simp only [x_Md_add_11, x_Md_add_14, x_Md_add_15, x_Md_add_18, x_Md_add_21, x_Md_add_23, x_Md_add_26, x_Md_add_28, x_Md_add_30, x_Md_add_33, x_Md_add_34, Option.toList_some, Option.toList_none, List.cons_append, List.nil_append, List.length_cons, List.length_nil, Nat.reduceAdd, Nat.zero_add, Nat.reduceLeDiff, true_and, if_true]
      exact h0 (fun q => hra q.1.2.1)
  · simp only [x_Md_add_4, x_Md_add_7, x_Md_add_8, x_Md_add_11, x_Md_add_14, x_Md_add_15, x_Md_add_18, x_Md_add_21, x_Md_add_23, x_Md_add_26, x_Md_add_28, x_Md_add_30, x_Md_add_33, x_Md_add_34, Option.toList_some, Option.toList_none, List.cons_append, List.nil_append, List.length_cons, List.length_nil, Nat.reduceAdd, Nat.zero_add, Nat.reduceLeDiff, true_and, if_true]
    exact h0 (fun q => hr q.1.1)
theorem md_same_l {sc : Int × (Int → Int)} {d : Nat} {s : Int} {q : Nat → Int} {I : Nat → Int → Int} {Q : Option om_V → om_H → Prop} {a b : Int} (ha : 0 ≤ a ∧ a < 8) (hb : 0 ≤ b ∧ b < 8) (h1 : om_hd I a = om_hd I b → Q (some (.inl 1)) (om_O s q, I)) (h0 : om_hd I a ≠ om_hd I b → Q (some (.inl 0)) (om_O s q, I)) : ∀ (m : Nat) (z f : Int), z + m = 65 → 0 ≤ z → (f = 0 ∨ f = 1) → (f = 1 ↔ ∀ i k, 0 ≤ i → 13 * i + k < z → 0 ≤ k → k < 13 → om_hd I a i k = om_hd I b i k) → om_R sc d 154 23 [.inr (.inl 101), .inl a, .inl b, .inl f, .inl z] [] (om_O s q, I) Q := by
  have fin : ∀ f : Int, (f = 0 ∨ f = 1) → (f = 1 ↔ om_hd I a = om_hd I b) → om_R sc d 154 73 [.inr (.inl 101), .inl a, .inl b, .inl f, .inl 0] [] (om_O s q, I) Q → Q (some (.inl f)) (om_O s q, I) := by
    intro f h2 h3 _
    by_cases hf : f = 1
    · rw [hf]; exact h1 (h3.mp hf)
    · rw [show f = 0 by omega]; exact h0 (fun e => hf (h3.mpr e))
  intro m
  induction m with
  | zero =>
    intro z f e1 e2 e3 e4
    simp only [x_Md_same_23, x_Md_same_25, x_Md_same_27, x_Md_same_73, x_Md_same_74]
    rw [if_pos (by omega)]
    refine ⟨e3, ?_⟩
    have e5 : f = 1 ↔ om_hd I a = om_hd I b := by
      rw [e4]
      constructor
      · intro g
        funext i k
        by_cases hin : 0 ≤ i ∧ i < 5 ∧ 0 ≤ k ∧ k < 13
        · exact g i k hin.1 (by omega) hin.2.2.1 hin.2.2.2
        · rw [om_hd_su i k hin, om_hd_su i k hin]
      · intro g i k _ _ _ _
        rw [g]
    by_cases hf : f = 1
    · rw [hf]; exact h1 (e5.mp hf)
    · rw [show f = 0 by omega]; exact h0 (fun e => hf (e5.mpr e))
  | succ m ih =>
    intro z f e1 e2 e3 e4
    simp only [x_Md_same_23, x_Md_same_25, x_Md_same_27, x_Md_same_30, x_Md_same_31]
    rw [if_neg (by omega)]
    by_cases hf : f = 0
    · rw [if_pos hf]
      simp only [x_Md_same_73, x_Md_same_74]
      refine ⟨e3, ?_⟩
      rw [hf]
      refine h0 (fun e => ?_)
      have := e4.mpr (fun i k _ _ _ _ => by rw [e])
      omega
    · rw [if_neg hf]
      have eA : I 102 (65 * a + z) = om_hd I a (z / 13) (z % 13) := om_hd_at (by omega) (by omega)
      have eB : I 102 (65 * b + z) = om_hd I b (z / 13) (z % 13) := om_hd_at (by omega) (by omega)
      simp only [x_Md_same_34, x_Md_same_35, x_Md_same_38, x_Md_same_40, x_Md_same_41, x_Md_same_42, x_Md_same_44, x_Md_same_45, x_Md_same_46, x_Md_same_47, x_Md_same_50, x_Md_same_52, x_Md_same_53, x_Md_same_54, x_Md_same_56, x_Md_same_57, x_Md_same_58, gO_101_1, aO_102, eA, eB]
      refine ⟨⟨by omega, by omega⟩, ⟨by omega, by omega⟩, ⟨by omega, by omega⟩, ⟨by omega, by omega⟩, ⟨by omega, by omega⟩, ⟨by omega, by omega⟩, ?_⟩
      have hf1 : f = 1 := by omega
      have e5 := e4.mp hf1
      by_cases hc : om_hd I a (z / 13) (z % 13) = om_hd I b (z / 13) (z % 13)
      · rw [if_pos hc]
        simp only [x_Md_same_61, x_Md_same_62, x_Md_same_66, x_Md_same_67, x_Md_same_70]
        refine ⟨⟨by omega, by omega⟩, ih _ _ (by omega) (by omega) (Or.inr rfl) ⟨fun _ i k q0 q1 q2 q3 => ?_, fun _ => rfl⟩⟩
        by_cases hz : 13 * i + k = z
        · rw [show i = z / 13 by omega, show k = z % 13 by omega]
          exact hc
        · exact e5 i k q0 (by omega) q2 q3
      · rw [if_neg hc]
        simp only [x_Md_same_65, x_Md_same_66, x_Md_same_67, x_Md_same_70]
        refine ⟨⟨by omega, by omega⟩, ih _ _ (by omega) (by omega) (Or.inl rfl) ⟨fun q => absurd q (by decide), fun g => absurd (g (z / 13) (z % 13) (by omega) (by omega) (by omega) (by omega)) hc⟩⟩
theorem md_same {sc : Int × (Int → Int)} {d : Nat} {s : Int} {q : Nat → Int} {I : Nat → Int → Int} {Q : Option om_V → om_H → Prop} {a b : Int} (h1 : (0 ≤ a ∧ a < 8) ∧ (0 ≤ b ∧ b < 8) ∧ om_hd I a = om_hd I b → Q (some (.inl 1)) (om_O s q, I)) (h0 : ¬ ((0 ≤ a ∧ a < 8) ∧ (0 ≤ b ∧ b < 8) ∧ om_hd I a = om_hd I b) → Q (some (.inl 0)) (om_O s q, I)) : om_R sc (d + 1) 154 0 [.inr (.inl 101), .inl a, .inl b, om_un, om_un] [] (om_O s q, I) Q := by
  have n10 : ¬ (1 : Int) = 0 := by decide
  simp only [x_Md_same_0, x_Md_same_1, Option.toList_some, Option.toList_none, List.cons_append, List.nil_append, List.length_cons, List.length_nil, Nat.reduceAdd, Nat.zero_add, Nat.reduceLeDiff, true_and]
  refine md_isRegister (fun hr => ?_) (fun hr => ?_)
  · simp only [x_Md_same_4, x_Md_same_7, x_Md_same_8, Option.toList_some, Option.toList_none, List.cons_append, List.nil_append, List.length_cons, List.length_nil, Nat.reduceAdd, Nat.zero_add, Nat.reduceLeDiff, true_and, if_neg n10]
    refine md_isRegister (fun hrb => ?_) (fun hrb => ?_)
    · simp only [x_Md_same_11, x_Md_same_14, x_Md_same_15, x_Md_same_18, x_Md_same_19, x_Md_same_20, x_Md_same_21, Option.toList_some, Option.toList_none, List.cons_append, List.nil_append, List.length_cons, List.length_nil, Nat.reduceAdd, Nat.zero_add, Nat.reduceLeDiff, true_and, if_neg n10]
      exact md_same_l hr hrb (fun e => h1 ⟨hr, hrb, e⟩) (fun e => h0 (fun q => e q.2.2)) 65 0 1 (by omega) (by omega) (Or.inr rfl) ⟨fun _ i k q0 q1 q2 q3 => absurd q1 (by omega), fun _ => rfl⟩
    · simp only [x_Md_same_11, x_Md_same_14, x_Md_same_15, x_Md_same_18, x_Md_same_19, x_Md_same_20, x_Md_same_21, x_Md_same_23, x_Md_same_25, x_Md_same_27, x_Md_same_30, x_Md_same_31, Option.toList_some, Option.toList_none, List.cons_append, List.nil_append, List.length_cons, List.length_nil, Nat.reduceAdd, Nat.zero_add, Nat.reduceLeDiff, true_and, if_true]
      simp only [x_Md_same_73, x_Md_same_74]
      exact ⟨by decide, h0 (fun q => hrb q.2.1)⟩
  · simp only [x_Md_same_4, x_Md_same_7, x_Md_same_8, x_Md_same_11, x_Md_same_14, x_Md_same_15, x_Md_same_18, x_Md_same_19, x_Md_same_20, x_Md_same_21, x_Md_same_23, x_Md_same_25, x_Md_same_27, x_Md_same_30, x_Md_same_31, Option.toList_some, Option.toList_none, List.cons_append, List.nil_append, List.length_cons, List.length_nil, Nat.reduceAdd, Nat.zero_add, Nat.reduceLeDiff, true_and, if_true]
    simp only [x_Md_same_73, x_Md_same_74]
    exact ⟨by decide, h0 (fun q => hr q.1)⟩
theorem md_zero_l {sc : Int × (Int → Int)} {d : Nat} {s : Int} {q : Nat → Int} {Q : Option om_V → om_H → Prop} {h : Int} (hh : 0 ≤ h ∧ h < 18) : ∀ (m : Nat) (z : Int) (I : Nat → Int → Int), z + m = 65 → 0 ≤ z → (∀ i k, 0 ≤ i → 13 * i + k < z → 0 ≤ k → k < 13 → om_hd I h i k = 0) → (∀ I', om_fh I I' h → om_hd I' h = (fun _ _ => 0) → Q none (om_O s q, I')) → om_R sc d 107 2 [.inr (.inl 101), .inl h, .inl z] [] (om_O s q, I) Q := by
  intro m
  induction m with
  | zero =>
    intro z I h1 h2 hT hq
    simp only [x_Md_zero_2, x_Md_zero_3, x_Md_zero_5, x_Md_zero_26]
    rw [if_pos (by omega)]
    refine hq I om_fh_rf ?_
    funext i k
    by_cases hin : 0 ≤ i ∧ i < 5 ∧ 0 ≤ k ∧ k < 13
    · exact hT i k hin.1 (by omega) hin.2.2.1 hin.2.2.2
    · exact om_hd_su i k hin
  | succ m ih =>
    intro z I h1 h2 hT hq
    simp only [x_Md_zero_2, x_Md_zero_3, x_Md_zero_5]
    rw [if_neg (by omega)]
    simp only [x_Md_zero_8, x_Md_zero_9, x_Md_zero_12, x_Md_zero_14, x_Md_zero_15, x_Md_zero_16, x_Md_zero_17, x_Md_zero_18, x_Md_zero_19, x_Md_zero_20, x_Md_zero_23, gO_101_1, aO_102]
    rw [om_hd_z (h := h) (by omega) (by omega)]
    have hf : om_fh I (om_u I 102 (om_p (I 102) (65 * h + 13 * (z / 13) + z % 13) 0)) h := om_fh_p (by omega) (by omega) (by omega) (by omega) (by omega) (by omega)
    refine ⟨⟨by omega, by omega⟩, ⟨by omega, by omega⟩, ⟨by omega, by omega⟩, ⟨by omega, by omega⟩, ih _ _ (by omega) (by omega) (fun i k q0 q1 q2 q3 => ?_) (fun I' f1 f2 => hq I' (om_fh_tr hf f1) f2)⟩
    rw [om_hd_p (by omega) (by omega) (by omega) (by omega) (by omega) (by omega)]
    split
    · rfl
    · exact hT i k q0 (by omega) q2 q3
theorem md_zero {sc : Int × (Int → Int)} {d : Nat} {s : Int} {q : Nat → Int} {I : Nat → Int → Int} {Q : Option om_V → om_H → Prop} {h : Int} (hh : 0 ≤ h ∧ h < 18) (hq : ∀ I', om_fh I I' h → om_hd I' h = (fun _ _ => 0) → Q none (om_O s q, I')) : om_R sc d 107 0 [.inr (.inl 101), .inl h, om_un] [] (om_O s q, I) Q := by
  simp only [x_Md_zero_0, x_Md_zero_1]
  exact md_zero_l hh 65 0 I (by omega) (by omega) (fun i k q0 q1 q2 q3 => absurd q1 (by omega)) hq
/-- row i of the reference's solutions, as a polynomial -/
def om_ms (I : Nat → Int → Int) (i : Int) (j k : Int) : Int := if j = 0 ∧ 0 ≤ k ∧ k < 13 then I 108 (13 * i + k) else 0
theorem md_pick_l {sc : Int × (Int → Int)} {d : Nat} {s : Int} {q : Nat → Int} {Q : Option om_V → om_H → Prop} {to i : Int} (hto : 0 ≤ to ∧ to < 8) (hi : 0 ≤ i ∧ i ≤ 13) {S : Int → Int → Int} : ∀ (m k : Nat) (x : om_V) (I : Nat → Int → Int), k + m = 13 → om_ms I i = S → (∀ j k', om_hd I to j k' = if j = 0 ∧ 0 ≤ k' ∧ k' < k then S j k' else 0) → (∀ I', om_fh I I' to → om_hd I' to = S → Q (some (.inl (om_dg 13 S 0 + 1))) (om_O s q, I')) → om_R sc d 149 31 [.inr (.inl 101), .inl to, .inl i, .inl (om_top (fun k => decide (S 0 k ≠ 0)) k + 1), .inl (k : Int), x] [] (om_O s q, I) Q := by
  intro m
  induction m with
  | zero =>
    intro k x I h1 hS hT hq
    simp only [x_Md_pick_31, x_Md_pick_33, x_Md_pick_35, x_Md_pick_86, x_Md_pick_87]
    rw [if_pos (by omega)]
    have hk : k = 13 := by omega
    subst hk
    refine hq I om_fh_rf ?_
    funext j k'
    rw [hT j k']
    split
    · rfl
    · rename_i hn
      rw [← hS]
      unfold om_ms
      rw [if_neg (by omega)]
  | succ m ih =>
    intro k x I h1 hS hT hq
    have eS : I 108 (13 * i + k) = S 0 k := by
      rw [← hS]
      unfold om_ms
      rw [if_pos (by omega)]
    have b := om_top_b (fun k => decide (S 0 k ≠ 0)) k
    simp only [x_Md_pick_31, x_Md_pick_33, x_Md_pick_35]
    rw [if_neg (by omega)]
    simp only [x_Md_pick_38, x_Md_pick_39, x_Md_pick_42, x_Md_pick_44, x_Md_pick_45, x_Md_pick_46, x_Md_pick_48, x_Md_pick_49, x_Md_pick_50, x_Md_pick_52, x_Md_pick_53, x_Md_pick_56, x_Md_pick_58, x_Md_pick_59, x_Md_pick_60, x_Md_pick_62, x_Md_pick_63, x_Md_pick_65, x_Md_pick_66, x_Md_pick_68, gO_101_1, gO_101_12, aO_102, aO_108, eS]
    have e0 : 65 * to + (k : Int) = 65 * to + 13 * 0 + k := by omega
    rw [e0]
    have hf : om_fh I (om_u I 102 (om_p (I 102) (65 * to + 13 * 0 + k) (S 0 k))) to := om_fh_p (by omega) (by omega) (by omega) (by omega) (by omega) (by omega)
    refine ⟨⟨by omega, by omega⟩, ⟨by omega, by omega⟩, ⟨by omega, by omega⟩, ⟨by omega, by omega⟩, ⟨by omega, by omega⟩, ⟨by omega, by omega⟩, ?_⟩
    have h := fun (x : om_V) => ih (k + 1) x (om_u I 102 (om_p (I 102) (65 * to + 13 * 0 + k) (S 0 k))) (by omega) (by
      rw [← hS]
      funext j k'
      unfold om_ms
      rw [om_u_ne (by decide)]) (fun j k' => by
      rw [om_hd_p (by omega) (by omega) (by omega) (by omega) (by omega) (by omega), hT j k']
      by_cases hc : to = to ∧ j = 0 ∧ k' = (k : Int)
      · rw [if_pos hc, if_pos (by omega), hc.2.1, hc.2.2]
      · rw [if_neg hc]
        by_cases hc2 : j = 0 ∧ 0 ≤ k' ∧ k' < (k : Int)
        · rw [if_pos hc2, if_pos (by omega)]
        · rw [if_neg hc2, if_neg (by omega)]) (fun I' f1 f2 => hq I' (om_fh_tr hf f1) f2)
    unfold om_top at h
    by_cases hz : S 0 k = 0
    · rw [if_pos hz]
      simp only [hz] at h ⊢
      simp only [x_Md_pick_78, x_Md_pick_79, x_Md_pick_80, x_Md_pick_83]
      refine ⟨⟨by omega, by omega⟩, ?_⟩
      simpa using h (.inl 0)
    · rw [if_neg hz]
      simp only [x_Md_pick_71, x_Md_pick_73, x_Md_pick_74, x_Md_pick_75, x_Md_pick_78, x_Md_pick_79, x_Md_pick_80, x_Md_pick_83]
      refine ⟨⟨by omega, by omega⟩, ⟨by omega, by omega⟩, ?_⟩
      have h2 := h (.inl (S 0 k))
      rw [if_pos (by simp [hz])] at h2
      simpa using h2
theorem md_pick {sc : Int × (Int → Int)} {d : Nat} {s : Int} {q : Nat → Int} {I : Nat → Int → Int} {Q : Option om_V → om_H → Prop} {to i : Int} (hd : -1 ≤ q 11 ∧ q 11 ≤ 13) (h0 : ¬ ((0 ≤ to ∧ to < 8) ∧ 0 ≤ i ∧ i ≤ q 11) → Q (some (.inl (-1))) (om_O s q, I)) (h1 : (0 ≤ to ∧ to < 8) ∧ 0 ≤ i ∧ i ≤ q 11 → ∀ I', om_fh I I' to → om_hd I' to = om_ms I i → Q (some (.inl (om_dg 13 (om_ms I i) 0 + 1))) (om_O s q, I')) : om_R sc (d + 1) 149 0 [.inr (.inl 101), .inl to, .inl i, om_un, om_un, om_un] [] (om_O s q, I) Q := by
  have n10 : ¬ (1 : Int) = 0 := by decide
  simp only [x_Md_pick_0, x_Md_pick_1, Option.toList_some, Option.toList_none, List.cons_append, List.nil_append, List.length_cons, List.length_nil, Nat.reduceAdd, Nat.zero_add, Nat.reduceLeDiff, true_and]
  refine md_isRegister (fun hr => ?_) (fun hr => ?_)
  · simp only [x_Md_pick_4, x_Md_pick_7, x_Md_pick_8, Option.toList_some, Option.toList_none, List.cons_append, List.nil_append, List.length_cons, List.length_nil, Nat.reduceAdd, Nat.zero_add, Nat.reduceLeDiff, true_and, if_neg n10]
    by_cases q1 : i < 0
    · rw [if_pos q1]
      simp only [x_Md_pick_19, x_Md_pick_20]
      exact h0 (by omega)
    · rw [if_neg q1]
      simp only [x_Md_pick_11, x_Md_pick_12, x_Md_pick_13, x_Md_pick_16, gO_101_11]
      by_cases q2 : i ≤ q 11
      · rw [if_pos q2]
        simp only [x_Md_pick_21, x_Md_pick_22, x_Md_pick_23, x_Md_pick_24, x_Md_pick_25, rO_101, Option.toList_some, Option.toList_none, List.cons_append, List.nil_append, List.length_cons, List.length_nil, Nat.reduceAdd, Nat.zero_add, Nat.reduceLeDiff, true_and]
        refine md_zero (by omega) (fun I1 f1 f2 => ?_)
        simp only [x_Md_pick_28, x_Md_pick_29, Option.toList_some, Option.toList_none, List.cons_append, List.nil_append, List.length_cons, List.length_nil, Nat.reduceAdd, Nat.zero_add, Nat.reduceLeDiff, true_and]
        have eM : om_ms I1 i = om_ms I i := by
          funext j k
          unfold om_ms
          rw [f1.1 108 (by decide)]
        have h := md_pick_l (sc := sc) (d := d + 1) (s := s) (q := q) (Q := Q) hr (by omega) 13 0 om_un I1 (by omega) eM (fun j k' => by rw [f2, if_neg (by omega)]) (fun I' f3 f4 => h1 ⟨hr, by omega⟩ I' (om_fh_tr f1 f3) f4)
        simpa [om_top] using h
      · rw [if_neg q2]
        simp only [x_Md_pick_19, x_Md_pick_20]
        exact h0 (by omega)
  · simp only [x_Md_pick_4, x_Md_pick_7, x_Md_pick_8, x_Md_pick_11, x_Md_pick_12, x_Md_pick_13, x_Md_pick_16, x_Md_pick_19, x_Md_pick_20, Option.toList_some, Option.toList_none, List.cons_append, List.nil_append, List.length_cons, List.length_nil, Nat.reduceAdd, Nat.zero_add, Nat.reduceLeDiff, true_and, if_true]
    exact h0 (fun q => hr q.1)
/-- how many of the first n are 1 -/
def om_ct (f : Int → Int) : Nat → Int
  | 0 => 0
  | n + 1 => om_ct f n + (if f n = 0 then 0 else 1)
theorem md_line_l {sc : Int × (Int → Int)} {d : Nat} {s : Int} {q : Nat → Int} {I : Nat → Int → Int} {Q : Option om_V → om_H → Prop} {i : Int} (hi : 0 ≤ i) (hQ : ∀ k : Nat, k < 961 → I 114 k ≠ 0 → om_ct (I 114) k = i → Q (some (.inl (k : Int))) (om_O s q, I)) (h0 : om_ct (I 114) 961 ≤ i → Q (some (.inl (-1))) (om_O s q, I)) (hz : om_Z i) : ∀ (m k : Nat), k + m = 961 → om_ct (I 114) k ≤ i → om_R sc d 153 4 [.inr (.inl 101), .inl i, .inl (i - om_ct (I 114) k), .inl (k : Int)] [] (om_O s q, I) Q := by
  have cb : ∀ k : Nat, 0 ≤ om_ct (I 114) k := by
    intro k
    induction k with
    | zero => exact Int.le_refl 0
    | succ k ih =>
      unfold om_ct
      split <;> omega
  intro m
  induction m with
  | zero =>
    intro k h1 h2
    simp only [x_Md_line_4, x_Md_line_5, x_Md_line_8, x_Md_line_39, x_Md_line_40]
    rw [if_pos (by omega)]
    have hk : k = 961 := by omega
    subst hk
    exact h0 h2
  | succ m ih =>
    intro k h1 h2
    have c0 := cb k
    simp only [x_Md_line_4, x_Md_line_5, x_Md_line_8, x_Md_line_11, x_Md_line_12]
    rw [if_neg (by omega), if_neg (by omega)]
    simp only [x_Md_line_15, x_Md_line_16, x_Md_line_19, x_Md_line_20, x_Md_line_21, gO_101_19, aO_114]
    refine ⟨⟨by omega, by omega⟩, ?_⟩
    have h := ih (k + 1) (by omega)
    unfold om_ct at h
    by_cases hc : I 114 k = 0
    · rw [if_pos hc]
      simp only [x_Md_line_33, x_Md_line_36]
      refine ⟨⟨by omega, by omega⟩, ?_⟩
      rw [if_pos hc, Int.add_zero] at h
      simpa using h h2
    · rw [if_neg hc]
      simp only [x_Md_line_24, x_Md_line_25]
      by_cases hn : i - om_ct (I 114) k = 0
      · rw [if_pos hn]
        simp only [x_Md_line_28, x_Md_line_29]
        exact hQ k (by omega) hc (by omega)
      · rw [if_neg hn]
        simp only [x_Md_line_30, x_Md_line_33, x_Md_line_36]
        refine ⟨⟨by omega, by omega⟩, ⟨by omega, by omega⟩, ?_⟩
        rw [if_neg hc] at h
        have h3 := h (by omega)
        rw [show i - om_ct (I 114) k + -1 = i - (om_ct (I 114) k + 1) by omega]
        simpa using h3
theorem md_line {sc : Int × (Int → Int)} {d : Nat} {s : Int} {q : Nat → Int} {I : Nat → Int → Int} {Q : Option om_V → om_H → Prop} {i : Int} (hQ : 0 ≤ i → ∀ k : Nat, k < 961 → I 114 k ≠ 0 → om_ct (I 114) k = i → Q (some (.inl (k : Int))) (om_O s q, I)) (h0 : i < 0 ∨ om_ct (I 114) 961 ≤ i → Q (some (.inl (-1))) (om_O s q, I)) (hz : om_Z i) : om_R sc d 153 0 [.inr (.inl 101), .inl i, om_un, om_un] [] (om_O s q, I) Q := by
  simp only [x_Md_line_0, x_Md_line_1, x_Md_line_2, x_Md_line_3]
  by_cases hi : 0 ≤ i
  · have h := md_line_l (sc := sc) (d := d) (s := s) (q := q) hi (hQ hi) (fun h => h0 (Or.inr h)) hz 961 0 rfl hi
    simpa [om_ct] using h
  · simp only [x_Md_line_4, x_Md_line_5, x_Md_line_8, x_Md_line_11, x_Md_line_12, x_Md_line_39, x_Md_line_40]
    rw [if_neg (by omega), if_pos (by omega)]
    exact h0 (Or.inl (by omega))
