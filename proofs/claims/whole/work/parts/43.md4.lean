/-! the reference: T before a table, products, images -/
theorem md_raise_k {sc : Int × (Int → Int)} {d : Nat} {s : Int} {q : Nat → Int} {Q : Option om_V → om_H → Prop} {t i : Int} (ht : 0 ≤ t ∧ t < 6) (hi : 0 ≤ i ∧ i < 9) {A : Int → Int → Int} (hA : om_r31 A) (hAu : om_su 9 64 A) (K : (Nat → Int → Int) → Prop) (hK : ∀ I' (x y : om_V), K I' → om_R sc (d + 3) 122 97 [.inr (.inl 101), .inl t, .inl i, .inl 64, x, y] [] (om_O s q, I') Q) : ∀ (m : Nat) (k : Int) (x y : om_V) (I : Nat → Int → Int), k + m = 64 → 0 ≤ k → (∀ i' k', om_mt I t i' k' = if i' = i ∧ 0 ≤ k' ∧ k' < k then (A (i - 1) k' + (if s = 0 then (k' + 1) * A i (k' + 1) else 0)) % 31 else A i' k') → (∀ I', om_fr I I' t → (∀ i' k', om_mt I' t i' k' = if i' = i ∧ 0 ≤ k' ∧ k' < 64 then (A (i - 1) k' + (if s = 0 then (k' + 1) * A i (k' + 1) else 0)) % 31 else A i' k') → K I') → om_R sc (d + 3) 122 9 [.inr (.inl 101), .inl t, .inl i, .inl k, x, y] [] (om_O s q, I) Q := by
  intro m
  induction m with
  | zero =>
    intro k x y I h1 h2 hI hq
    simp only [x_Md_raise_9, x_Md_raise_10, x_Md_raise_12]
    rw [if_pos (by omega)]
    have hk : k = 64 := by omega
    subst hk
    exact hK I x y (hq I om_fr_rf hI)
  | succ m ih =>
    intro k x y I h1 h2 hI hq
    obtain ⟨a1, a2⟩ := hA (i - 1) k
    obtain ⟨a3, a4⟩ := hA i (k + 1)
    obtain ⟨a5, a6⟩ := om_mb (t := k + 1) (T := 64) (by omega) (by omega) a3 a4
    have fin2 : ∀ v2 : Int, v2 = (if s = 0 then (k + 1) * A i (k + 1) else 0) → om_R sc (d + 3) 122 64 [.inr (.inl 101), .inl t, .inl i, .inl k, .inl (A (i - 1) k), y] [.inl v2] (om_O s q, I) Q := by
      intro v2 hv
      have b2 : -2000 ≤ v2 ∧ v2 ≤ 2000 := by
        rw [hv]
        split <;> omega
      simp only [x_Md_raise_64, x_Md_raise_66, x_Md_raise_67, x_Md_raise_70, x_Md_raise_73, x_Md_raise_74, x_Md_raise_75, x_Md_raise_77, x_Md_raise_78, x_Md_raise_79, x_Md_raise_80, x_Md_raise_81, x_Md_raise_82, x_Md_raise_84, x_Md_raise_86, x_Md_raise_87, gO_101_2, Option.toList_some, Option.toList_none, List.cons_append, List.nil_append, List.length_cons, List.length_nil, Nat.reduceAdd, Nat.zero_add, Nat.reduceLeDiff, true_and]
      refine ⟨⟨by omega, by omega⟩, ⟨by omega, by omega⟩, ⟨by omega, by omega⟩, ⟨by omega, by omega⟩, ⟨by omega, by omega⟩, md_mod ?_⟩
      simp only [x_Md_raise_90, x_Md_raise_91, x_Md_raise_94, aO_103, Option.toList_some, Option.toList_none, List.cons_append, List.nil_append, List.length_cons, List.length_nil, Nat.reduceAdd, Nat.zero_add, Nat.reduceLeDiff, true_and]
      have hf : ∀ v, om_fr I (om_u I 103 (om_p (I 103) (576 * t + 64 * i + k) v)) t := fun v => om_fr_p ht.1 ht.2 (by omega) (by omega) (by omega) (by omega)
      refine ⟨⟨by omega, by omega⟩, ⟨by omega, by omega⟩, ih _ _ _ _ (by omega) (by omega) (fun i' k' => ?_) (fun I' f1 f2 => hq I' (om_fr_tr (hf _) f1) f2)⟩
      rw [om_mt_p ht.1 ht.2 (by omega) (by omega) (by omega) (by omega), hI i' k']
      by_cases hc : t = t ∧ i' = i ∧ k' = k
      · rw [if_pos hc, if_pos (show i' = i ∧ 0 ≤ k' ∧ k' < k + 1 by omega), hv, hc.2.2]
      · rw [if_neg hc]
        by_cases hc2 : i' = i ∧ 0 ≤ k' ∧ k' < k
        · rw [if_pos hc2, if_pos (show i' = i ∧ 0 ≤ k' ∧ k' < k + 1 by omega)]
        · rw [if_neg hc2, if_neg (show ¬ (i' = i ∧ 0 ≤ k' ∧ k' < k + 1) by omega)]
    have fin1 : om_R sc (d + 3) 122 32 [.inr (.inl 101), .inl t, .inl i, .inl k, x, y] [.inl (A (i - 1) k)] (om_O s q, I) Q := by
      simp only [x_Md_raise_32, x_Md_raise_34, x_Md_raise_35, x_Md_raise_38, gO_101_0]
      by_cases hs : s = 0
      · rw [if_pos hs, if_neg (by decide)]
        simp only [x_Md_raise_41, x_Md_raise_42, x_Md_raise_44]
        by_cases hk : 63 ≤ k
        · rw [if_pos hk]
          simp only [x_Md_raise_63]
          exact fin2 0 (by rw [if_pos hs, hAu i (k + 1) (by omega), Int.mul_zero])
        · rw [if_neg hk]
          simp only [x_Md_raise_47, x_Md_raise_48, x_Md_raise_49, x_Md_raise_50, x_Md_raise_51, x_Md_raise_52, x_Md_raise_53, x_Md_raise_54, x_Md_raise_55, x_Md_raise_56, rO_101, Option.toList_some, Option.toList_none, List.cons_append, List.nil_append, List.length_cons, List.length_nil, Nat.reduceAdd, Nat.zero_add, Nat.reduceLeDiff, true_and]
          refine ⟨⟨by omega, by omega⟩, ⟨by omega, by omega⟩, md_get ht hi (by omega) ?_⟩
          have e1 : om_mt I t i (k + 1) = A i (k + 1) := by rw [hI i (k + 1), if_neg (by omega)]
          rw [e1]
          simp only [x_Md_raise_59, x_Md_raise_60, Option.toList_some, Option.toList_none, List.cons_append, List.nil_append, List.length_cons, List.length_nil, Nat.reduceAdd, Nat.zero_add, Nat.reduceLeDiff, true_and]
          exact ⟨⟨by omega, by omega⟩, fin2 _ (by rw [if_pos hs])⟩
      · rw [if_neg hs]
        simp only [if_true, x_Md_raise_63]
        exact fin2 0 (by rw [if_neg hs])
    simp only [x_Md_raise_9, x_Md_raise_10, x_Md_raise_12, x_Md_raise_15, x_Md_raise_16]
    rw [if_neg (by omega)]
    by_cases h0 : i ≤ 0
    · rw [if_pos h0]
      simp only [x_Md_raise_31]
      rw [hAu (i - 1) k (by omega)] at fin1
      exact fin1
    · rw [if_neg h0]
      simp only [x_Md_raise_19, x_Md_raise_20, x_Md_raise_21, x_Md_raise_22, x_Md_raise_23, x_Md_raise_24, x_Md_raise_25, rO_101, Option.toList_some, Option.toList_none, List.cons_append, List.nil_append, List.length_cons, List.length_nil, Nat.reduceAdd, Nat.zero_add, Nat.reduceLeDiff, true_and]
      refine ⟨⟨by omega, by omega⟩, md_get ht (by omega) (by omega) ?_⟩
      have e1 : om_mt I t (i - 1) k = A (i - 1) k := by rw [hI (i - 1) k, if_neg (by omega)]
      rw [e1]
      simp only [x_Md_raise_28, Option.toList_some, Option.toList_none, List.cons_append, List.nil_append, List.length_cons, List.length_nil, Nat.reduceAdd, Nat.zero_add, Nat.reduceLeDiff, true_and]
      exact fin1
theorem md_raise_i {sc : Int × (Int → Int)} {d : Nat} {s : Int} {q : Nat → Int} {Q : Option om_V → om_H → Prop} {t : Int} (ht : 0 ≤ t ∧ t < 6) {A : Int → Int → Int} (hA : om_r31 A) (hAu : om_su 9 64 A) : ∀ (m : Nat) (x y z : om_V) (I : Nat → Int → Int), m ≤ 9 → (∀ i' k', om_mt I t i' k' = if (m : Int) ≤ i' ∧ i' < 9 then om_T s A i' k' else A i' k') → (∀ I', om_fr I I' t → (∀ i' k', om_mt I' t i' k' = if 0 ≤ i' ∧ i' < 9 then om_T s A i' k' else 0) → Q none (om_O s q, I')) → om_R sc (d + 3) 122 3 [.inr (.inl 101), .inl t, .inl ((m : Int) - 1), x, y, z] [] (om_O s q, I) Q := by
  intro m
  induction m with
  | zero =>
    intro x y z I h1 hI hq
    simp only [x_Md_raise_3, x_Md_raise_4, x_Md_raise_120]
    rw [if_pos (by omega)]
    refine hq I om_fr_rf (fun i' k' => ?_)
    rw [hI i' k']
    by_cases hc : 0 ≤ i' ∧ i' < 9
    · rw [if_pos (by omega), if_pos hc]
    · rw [if_neg (by omega), if_neg hc, hAu i' k' (by omega)]
  | succ m ih =>
    intro x y z I h1 hI hq
    have em : ((m + 1 : Nat) : Int) - 1 = m := by omega
    rw [em]
    have rI : om_r31 (om_mt I t) := by
      intro i' k'
      rw [hI i' k']
      split
      · exact om_T_r hA i' k'
      · exact hA i' k'
    have eI : ∀ (i' k' : Int), i' ≤ (m : Int) → om_mt I t i' k' = A i' k' := fun i' k' h => by rw [hI i' k', if_neg (by omega)]
    simp only [x_Md_raise_3, x_Md_raise_4, x_Md_raise_7, x_Md_raise_8]
    rw [if_neg (by omega)]
    refine md_raise_k ht (by omega) rI om_mt_su (fun I1 => om_fr I I1 t ∧ ∀ i' k', om_mt I1 t i' k' = if i' = (m : Int) ∧ 0 ≤ k' ∧ k' < 64 then (A ((m : Int) - 1) k' + (if s = 0 then (k' + 1) * A (m : Int) (k' + 1) else 0)) % 31 else om_mt I t i' k') (fun I1 x y ⟨f1, f2⟩ => ?_) 64 0 _ _ I (by omega) (by omega) (fun i' k' => by rw [if_neg (by omega)]) (fun I1 f1 f2 => ⟨f1, fun i' k' => by rw [f2 i' k', eI ((m : Int) - 1) k' (by omega), eI m (k' + 1) (by omega)]⟩)
    have next : ∀ I2 : Nat → Int → Int, om_fr I I2 t → (∀ i' k', om_mt I2 t i' k' = if i' = (m : Int) then om_T s A i' k' else om_mt I t i' k') → om_R sc (d + 3) 122 114 [.inr (.inl 101), .inl t, .inl (m : Int), .inl 64, x, y] [] (om_O s q, I2) Q := by
      intro I2 f3 f4
      simp only [x_Md_raise_114, x_Md_raise_117]
      refine ⟨⟨by omega, by omega⟩, ih _ _ _ _ (by omega) (fun i' k' => ?_) (fun I' f5 f6 => hq I' (om_fr_tr f3 f5) f6)⟩
      rw [f4 i' k', hI i' k']
      by_cases hc : i' = (m : Int)
      · rw [if_pos hc, if_pos (by omega)]
      · rw [if_neg hc]
        by_cases hc2 : ((m + 1 : Nat) : Int) ≤ i' ∧ i' < 9
        · rw [if_pos hc2, if_pos (by omega)]
        · rw [if_neg hc2, if_neg (by omega)]
    simp only [x_Md_raise_97, x_Md_raise_98, x_Md_raise_101, gO_101_0]
    by_cases hs : s = 0
    · rw [if_pos hs, if_neg (by decide)]
      refine next I1 f1 (fun i' k' => ?_)
      rw [f2 i' k']
      by_cases hc : i' = (m : Int)
      · have eT : om_T s A (m : Int) k' = ((((k' + 1) * A (m : Int) (k' + 1)) % 31) + A ((m : Int) - 1) k') % 31 := by
          unfold om_T
          rw [if_pos hs]
        rw [if_pos hc, hc, eT]
        by_cases hk : 0 ≤ k' ∧ k' < 64
        · rw [if_pos ⟨rfl, hk⟩, if_pos hs]
          omega
        · rw [if_neg (fun q => hk q.2), om_mt_su (m : Int) k' (by omega), hAu ((m : Int) - 1) k' (by omega)]
          by_cases hk1 : k' = -1
          · subst hk1
            simp
          · rw [hAu (m : Int) (k' + 1) (by omega), Int.mul_zero]
            rfl
      · rw [if_neg hc, if_neg (fun q => hc q.1)]
    · rw [if_neg hs]
      have er : om_mt I1 t (m : Int) = A ((m : Int) - 1) := by
        funext k'
        rw [f2 m k']
        by_cases hk : 0 ≤ k' ∧ k' < 64
        · rw [if_pos ⟨rfl, hk⟩, if_neg hs]
          have := hA ((m : Int) - 1) k'
          omega
        · rw [if_neg (fun q => hk q.2), om_mt_su (m : Int) k' (by omega), hAu ((m : Int) - 1) k' (by omega)]
      simp only [if_true, x_Md_raise_104, x_Md_raise_105]
      by_cases hm : (m : Int) ≤ 0
      · rw [if_pos hm]
        refine next I1 f1 (fun i' k' => ?_)
        by_cases hc : i' = (m : Int)
        · rw [if_pos hc, hc, er]
          unfold om_T
          rw [if_neg hs]
          rw [hAu ((m : Int) - 1) k' (by omega), om_sh_o (w := 0) (fun k hk => hAu ((m : Int) - 1) k (by omega)) (by omega) k' (by omega)]
        · rw [if_neg hc, f2 i' k', if_neg (fun q => hc q.1)]
      · rw [if_neg hm]
        simp only [x_Md_raise_108, x_Md_raise_109, x_Md_raise_110, x_Md_raise_111, rO_101, Option.toList_some, Option.toList_none, List.cons_append, List.nil_append, List.length_cons, List.length_nil, Nat.reduceAdd, Nat.zero_add, Nat.reduceLeDiff, true_and]
        have r1 : om_r31 (om_mt I1 t) := by
          intro i' k'
          rw [f2 i' k']
          split
          · omega
          · exact rI i' k'
        refine md_shift ht (by omega) r1 (fun I2 f3 f4 => ?_)
        simp only [Option.toList_some, Option.toList_none, List.cons_append, List.nil_append, List.length_cons, List.length_nil, Nat.reduceAdd, Nat.zero_add, Nat.reduceLeDiff, true_and]
        refine next I2 (om_fr_tr f1 f3) (fun i' k' => ?_)
        rw [f4 i' k']
        by_cases hc : i' = (m : Int)
        · rw [if_pos hc, if_pos hc, er, hc]
          unfold om_T
          rw [if_neg hs]
        · rw [if_neg hc, if_neg hc, f2 i' k', if_neg (fun q => hc q.1)]
theorem md_raise {sc : Int × (Int → Int)} {d : Nat} {s : Int} {q : Nat → Int} {I : Nat → Int → Int} {Q : Option om_V → om_H → Prop} {t : Int} (ht : 0 ≤ t ∧ t < 6) (rT : om_r31 (om_mt I t)) (hsu : om_su 8 64 (om_mt I t)) (hq : ∀ I', om_fr I I' t → om_mt I' t = om_T s (om_mt I t) → Q none (om_O s q, I')) : om_R sc (d + 3) 122 0 [.inr (.inl 101), .inl t, om_un, om_un, om_un, om_un] [] (om_O s q, I) Q := by
  simp only [x_Md_raise_0, x_Md_raise_2]
  have h := md_raise_i (sc := sc) (d := d) (s := s) (q := q) ht rT om_mt_su 9 om_un om_un om_un I (by omega) (fun i' k' => by rw [if_neg (by omega)]) (fun I' f1 f2 => hq I' f1 ?_)
  · simpa using h
  · funext i k
    rw [f2 i k]
    split
    · rfl
    · rename_i hn
      exact (om_T_su hsu (by omega) i k (by omega)).symm
theorem md_turn_l {sc : Int × (Int → Int)} {d : Nat} {s : Int} {q : Nat → Int} {Q : Option om_V → om_H → Prop} {t : Int} (ht : 0 ≤ t ∧ t < 6) (hs : s = 0) {A : Int → Int → Int} (hA : om_r31 A) (hAu : om_su 9 64 A) : ∀ (m : Nat) (k : Int) (I : Nat → Int → Int), k + m = 64 → 0 ≤ k → (∀ i' k', om_mt I t i' k' = if i' = 0 ∧ 0 ≤ k' ∧ k' < k then ((k' + 1) * A 0 (k' + 1)) % 31 else A i' k') → (∀ I', om_fr I I' t → (∀ i' k', om_mt I' t i' k' = if i' = 0 ∧ 0 ≤ k' ∧ k' < 64 then ((k' + 1) * A 0 (k' + 1)) % 31 else A i' k') → Q none (om_O s q, I')) → om_R sc (d + 3) 134 16 [.inr (.inl 101), .inl t, .inl k] [] (om_O s q, I) Q := by
  intro m
  induction m with
  | zero =>
    intro k I h1 h2 hI hq
    simp only [x_Md_turn_16, x_Md_turn_17, x_Md_turn_19, x_Md_turn_66]
    rw [if_pos (by omega)]
    have hk : k = 64 := by omega
    subst hk
    exact hq I om_fr_rf hI
  | succ m ih =>
    intro k I h1 h2 hI hq
    obtain ⟨a3, a4⟩ := hA 0 (k + 1)
    obtain ⟨a5, a6⟩ := om_mb (t := k + 1) (T := 64) (by omega) (by omega) a3 a4
    have fin : ∀ v : Int, v = ((k + 1) * A 0 (k + 1)) % 31 → om_R sc (d + 3) 134 59 [.inr (.inl 101), .inl t, .inl k] [.inl v, .inl (576 * t + k), .inr (.inl 103)] (om_O s q, I) Q := by
      intro v hv
      have e0 : 576 * t + k = 576 * t + 64 * 0 + k := by omega
      simp only [x_Md_turn_59, x_Md_turn_60, x_Md_turn_63, aO_103]
      rw [e0]
      have hf : om_fr I (om_u I 103 (om_p (I 103) (576 * t + 64 * 0 + k) v)) t := om_fr_p ht.1 ht.2 (by omega) (by omega) (by omega) (by omega)
      refine ⟨⟨by omega, by omega⟩, ⟨by omega, by omega⟩, ih _ _ (by omega) (by omega) (fun i' k' => ?_) (fun I' f1 f2 => hq I' (om_fr_tr hf f1) f2)⟩
      rw [om_mt_p ht.1 ht.2 (by omega) (by omega) (by omega) (by omega), hI i' k']
      by_cases hc : t = t ∧ i' = 0 ∧ k' = k
      · rw [if_pos hc, if_pos (show i' = 0 ∧ 0 ≤ k' ∧ k' < k + 1 by omega), hv, hc.2.2]
      · rw [if_neg hc]
        by_cases hc2 : i' = 0 ∧ 0 ≤ k' ∧ k' < k
        · rw [if_pos hc2, if_pos (show i' = 0 ∧ 0 ≤ k' ∧ k' < k + 1 by omega)]
        · rw [if_neg hc2, if_neg (show ¬ (i' = 0 ∧ 0 ≤ k' ∧ k' < k + 1) by omega)]
    simp only [x_Md_turn_16, x_Md_turn_17, x_Md_turn_19, x_Md_turn_22, x_Md_turn_23, x_Md_turn_26, x_Md_turn_29, x_Md_turn_30, x_Md_turn_31, x_Md_turn_32, x_Md_turn_33, x_Md_turn_34, x_Md_turn_36, gO_101_2]
    rw [if_neg (by omega)]
    refine ⟨⟨by omega, by omega⟩, ⟨by omega, by omega⟩, ?_⟩
    by_cases hk : 63 ≤ k
    · rw [if_pos hk]
      simp only [x_Md_turn_58]
      exact fin 0 (by rw [hAu 0 (k + 1) (by omega), Int.mul_zero]; rfl)
    · rw [if_neg hk]
      simp only [x_Md_turn_39, x_Md_turn_40, x_Md_turn_41, x_Md_turn_42, x_Md_turn_43, x_Md_turn_44, x_Md_turn_45, x_Md_turn_46, x_Md_turn_47, x_Md_turn_48, rO_101, Option.toList_some, Option.toList_none, List.cons_append, List.nil_append, List.length_cons, List.length_nil, Nat.reduceAdd, Nat.zero_add, Nat.reduceLeDiff, true_and]
      refine ⟨⟨by omega, by omega⟩, ⟨by omega, by omega⟩, md_get ht (by decide) (by omega) ?_⟩
      have e1 : om_mt I t 0 (k + 1) = A 0 (k + 1) := by rw [hI 0 (k + 1), if_neg (by omega)]
      rw [e1]
      simp only [x_Md_turn_51, x_Md_turn_52, Option.toList_some, Option.toList_none, List.cons_append, List.nil_append, List.length_cons, List.length_nil, Nat.reduceAdd, Nat.zero_add, Nat.reduceLeDiff, true_and]
      refine ⟨⟨by omega, by omega⟩, md_mod ?_⟩
      simp only [x_Md_turn_55, Option.toList_some, Option.toList_none, List.cons_append, List.nil_append, List.length_cons, List.length_nil, Nat.reduceAdd, Nat.zero_add, Nat.reduceLeDiff, true_and]
      exact fin _ rfl
theorem md_turn {sc : Int × (Int → Int)} {d : Nat} {s : Int} {q : Nat → Int} {I : Nat → Int → Int} {Q : Option om_V → om_H → Prop} {t : Int} (ht : 0 ≤ t ∧ t < 6) (rT : om_r31 (om_mt I t)) (hq : ∀ I', om_fr I I' t → om_mt I' t = om_D s (om_mt I t) → Q none (om_O s q, I')) : om_R sc (d + 3) 134 0 [.inr (.inl 101), .inl t, om_un] [] (om_O s q, I) Q := by
  simp only [x_Md_turn_0, x_Md_turn_1, x_Md_turn_4, gO_101_0]
  by_cases hs : s = 0
  · rw [if_pos hs, if_neg (by decide)]
    simp only [x_Md_turn_14, x_Md_turn_15]
    refine md_turn_l ht hs rT om_mt_su 64 0 I (by omega) (by omega) (fun i' k' => by rw [if_neg (by omega)]) (fun I' f1 f2 => hq I' f1 ?_)
    funext i k
    rw [f2 i k]
    unfold om_D
    by_cases hi : i = 0
    · rw [if_pos hi, if_pos hs]
      by_cases hk : 0 ≤ k ∧ k < 64
      · rw [if_pos ⟨hi, hk⟩]
      · rw [if_neg (fun q => hk q.2), hi, om_mt_su 0 k (by omega)]
        by_cases hk1 : k = -1
        · subst hk1
          simp
        · rw [om_mt_su 0 (k + 1) (by omega), Int.mul_zero]
          rfl
    · rw [if_neg hi, if_neg (fun q => hi q.1)]
  · rw [if_neg hs]
    simp only [if_true, x_Md_turn_7, x_Md_turn_8, x_Md_turn_9, x_Md_turn_10, rO_101, Option.toList_some, Option.toList_none, List.cons_append, List.nil_append, List.length_cons, List.length_nil, Nat.reduceAdd, Nat.zero_add, Nat.reduceLeDiff, true_and]
    refine md_shift ht (by decide) rT (fun I' f1 f2 => ?_)
    simp only [x_Md_turn_13, Option.toList_some, Option.toList_none, List.cons_append, List.nil_append, List.length_cons, List.length_nil, Nat.reduceAdd, Nat.zero_add, Nat.reduceLeDiff, true_and]
    refine hq I' f1 ?_
    funext i k
    rw [f2 i k]
    unfold om_D
    by_cases hi : i = 0
    · rw [if_pos hi, if_pos hi, if_neg hs]
    · rw [if_neg hi, if_neg hi]
