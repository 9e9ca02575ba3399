/-! division in the reference -/
theorem md_dvT_r {sc : Int × (Int → Int)} {d : Nat} {s : Int} {q : Nat → Int} {Q : Option om_V → om_H → Prop} {n u i : Int} (hi : 0 ≤ i ∧ i ≤ 4) {B : Int → Int → Int} (hB : om_su (5 - i) 13 B) (rB : om_r31 B) (K : (Nat → Int → Int) → Prop) (hK : ∀ I', K I' → om_R sc (d + 4) 136 50 [.inr (.inl 101), .inl n, .inl u, .inl i, .inl i] [] (om_O s q, I') Q) : ∀ (m j : Nat) (I : Nat → Int → Int), (j : Int) + m = i → om_mt I 3 = om_Ti s B j → (∀ I', om_fr I I' 3 → om_mt I' 3 = om_Ti s B i.toNat → K I') → om_R sc (d + 4) 136 33 [.inr (.inl 101), .inl n, .inl u, .inl i, .inl (j : Int)] [] (om_O s q, I) Q := by
  intro m
  induction m with
  | zero =>
    intro j I h1 hT hq
    simp only [x_Md_divideTables_33, x_Md_divideTables_35, x_Md_divideTables_36]
    rw [if_pos (by omega)]
    have e : (j : Int) = i := by omega
    rw [e]
    exact hK I (hq I om_fr_rf (by rw [hT]; congr 1; omega))
  | succ m ih =>
    intro j I h1 hT hq
    have suT := om_Ti_su (s := s) hB (by omega) j
    simp only [x_Md_divideTables_33, x_Md_divideTables_35, x_Md_divideTables_36]
    rw [if_neg (by omega)]
    simp only [x_Md_divideTables_39, x_Md_divideTables_40, x_Md_divideTables_41, rO_101, Option.toList_some, Option.toList_none, List.cons_append, List.nil_append, List.length_cons, List.length_nil, Nat.reduceAdd, Nat.zero_add, Nat.reduceLeDiff, true_and]
    refine md_raise (by decide) (by rw [hT]; exact om_Ti_r rB j) (by rw [hT]; exact om_su_le suT (by omega) (by omega)) (fun I1 f1 f2 => ?_)
    rw [hT] at f2
    simp only [x_Md_divideTables_44, x_Md_divideTables_47, Option.toList_some, Option.toList_none, List.cons_append, List.nil_append, List.length_cons, List.length_nil, Nat.reduceAdd, Nat.zero_add, Nat.reduceLeDiff, true_and]
    refine ⟨⟨by omega, by omega⟩, ?_⟩
    have h := ih (j + 1) I1 (by omega) f2 (fun I' f3 f4 => hq I' (om_fr_tr f1 f3) f4)
    simpa using h
theorem md_dvT_k {sc : Int × (Int → Int)} {d : Nat} {s : Int} {q : Nat → Int} {Q : Option om_V → om_H → Prop} {n u i : Int} (hn : 0 ≤ n) (hi : 0 ≤ i ∧ n + i ≤ 4) (hu : 0 ≤ u ∧ u < 31) {R Qt : Int → Int → Int} (rR : om_r31 R) (rQ : om_r31 Qt) (hQi : ∀ k, Qt i k = 0) (K : (Nat → Int → Int) → Prop) (hK : ∀ I', K I' → om_R sc (d + 4) 136 111 [.inr (.inl 101), .inl n, .inl u, .inl i, .inl 64] [] (om_O s q, I') Q) : ∀ (m : Nat) (k : Int) (I : Nat → Int → Int), k + m = 64 → 0 ≤ k → om_mt I 0 = R → (∀ i' k', om_mt I 4 i' k' = if i' = 0 ∧ 0 ≤ k' ∧ k' < k then (u * R (n + i) k') % 31 else 0) → (∀ i' k', om_mt I 2 i' k' = if i' = i ∧ 0 ≤ k' ∧ k' < k then (u * R (n + i) k') % 31 else Qt i' k') → (∀ I', om_f2 I I' 2 4 → (∀ i' k', om_mt I' 4 i' k' = if i' = 0 ∧ 0 ≤ k' ∧ k' < 64 then (u * R (n + i) k') % 31 else 0) → (∀ i' k', om_mt I' 2 i' k' = if i' = i ∧ 0 ≤ k' ∧ k' < 64 then (u * R (n + i) k') % 31 else Qt i' k') → K I') → om_R sc (d + 4) 136 58 [.inr (.inl 101), .inl n, .inl u, .inl i, .inl k] [] (om_O s q, I) Q := by
  intro m
  induction m with
  | zero =>
    intro k I h1 h2 hR h4 hT hq
    simp only [x_Md_divideTables_58, x_Md_divideTables_60, x_Md_divideTables_62]
    rw [if_pos (by omega)]
    have hk : k = 64 := by omega
    subst hk
    exact hK I (hq I om_f2_rf h4 hT)
  | succ m ih =>
    intro k I h1 h2 hR h4 hT hq
    obtain ⟨a1, a2⟩ := rR (n + i) k
    obtain ⟨a3, a4⟩ := om_mb (t := u) (T := 31) (by omega) (by omega) a1 a2
    simp only [x_Md_divideTables_58, x_Md_divideTables_60, x_Md_divideTables_62]
    rw [if_neg (by omega)]
    simp only [x_Md_divideTables_65, x_Md_divideTables_66, x_Md_divideTables_67, x_Md_divideTables_68, x_Md_divideTables_70, x_Md_divideTables_71, x_Md_divideTables_72, x_Md_divideTables_73, x_Md_divideTables_74, x_Md_divideTables_75, x_Md_divideTables_76, x_Md_divideTables_78, rO_101, Option.toList_some, Option.toList_none, List.cons_append, List.nil_append, List.length_cons, List.length_nil, Nat.reduceAdd, Nat.zero_add, Nat.reduceLeDiff, true_and]
    refine ⟨⟨by omega, by omega⟩, md_get (by decide) (by omega) (by omega) ?_⟩
    rw [hR]
    simp only [x_Md_divideTables_81, x_Md_divideTables_82, rO_101, Option.toList_some, Option.toList_none, List.cons_append, List.nil_append, List.length_cons, List.length_nil, Nat.reduceAdd, Nat.zero_add, Nat.reduceLeDiff, true_and]
    have e4 : om_mt I 4 0 k = 0 := by rw [h4 0 k, if_neg (by omega)]
    refine ⟨⟨by omega, by omega⟩, md_plus (by decide) (by decide) (by omega) (by omega) (by rw [e4]; decide) (fun I1 f1 f2 => ?_)⟩
    simp only [x_Md_divideTables_85, x_Md_divideTables_86, x_Md_divideTables_87, x_Md_divideTables_88, x_Md_divideTables_90, x_Md_divideTables_91, x_Md_divideTables_92, x_Md_divideTables_93, x_Md_divideTables_94, x_Md_divideTables_95, x_Md_divideTables_96, x_Md_divideTables_98, rO_101, Option.toList_some, Option.toList_none, List.cons_append, List.nil_append, List.length_cons, List.length_nil, Nat.reduceAdd, Nat.zero_add, Nat.reduceLeDiff, true_and]
    refine ⟨⟨by omega, by omega⟩, md_get (by decide) (by omega) (by omega) ?_⟩
    rw [f1.2 0 (by decide), hR]
    simp only [x_Md_divideTables_101, x_Md_divideTables_102, rO_101, Option.toList_some, Option.toList_none, List.cons_append, List.nil_append, List.length_cons, List.length_nil, Nat.reduceAdd, Nat.zero_add, Nat.reduceLeDiff, true_and]
    have e2 : om_mt I1 2 i k = 0 := by rw [f1.2 2 (by decide), hT i k, if_neg (by omega), hQi k]
    refine ⟨⟨by omega, by omega⟩, md_plus (by decide) (by omega) (by omega) (by omega) (by rw [e2]; decide) (fun I2 f3 f4 => ?_)⟩
    simp only [x_Md_divideTables_105, x_Md_divideTables_108, Option.toList_some, Option.toList_none, List.cons_append, List.nil_append, List.length_cons, List.length_nil, Nat.reduceAdd, Nat.zero_add, Nat.reduceLeDiff, true_and]
    refine ⟨⟨by omega, by omega⟩, ih _ _ (by omega) (by omega) (by rw [f3.2 0 (by decide), f1.2 0 (by decide)]; exact hR) (fun i' k' => ?_) (fun i' k' => ?_) (fun I' f5 f6 f7 => hq I' (om_f2_tr (om_f2_tr (om_f2_r f1) (om_f2_l f3)) f5) f6 f7)⟩
    · rw [f3.2 4 (by decide), f2 i' k', e4, h4 i' k']
      by_cases hc : i' = 0 ∧ k' = k
      · rw [if_pos hc, if_pos (show i' = 0 ∧ 0 ≤ k' ∧ k' < k + 1 by omega), hc.2, Int.zero_add]
      · rw [if_neg hc]
        by_cases hc2 : i' = 0 ∧ 0 ≤ k' ∧ k' < k
        · rw [if_pos hc2, if_pos (by omega)]
        · rw [if_neg hc2, if_neg (by omega)]
    · rw [f4 i' k', e2, f1.2 2 (by decide), hT i' k']
      by_cases hc : i' = i ∧ k' = k
      · rw [if_pos hc, if_pos (show i' = i ∧ 0 ≤ k' ∧ k' < k + 1 by omega), hc.2, Int.zero_add]
      · rw [if_neg hc]
        by_cases hc2 : i' = i ∧ 0 ≤ k' ∧ k' < k
        · rw [if_pos hc2, if_pos (by omega)]
        · rw [if_neg hc2, if_neg (by omega)]
theorem md_dvT_j {sc : Int × (Int → Int)} {d : Nat} {s : Int} {q : Nat → Int} {Q : Option om_V → om_H → Prop} {n u i : Int} {R X C : Int → Int → Int} (rR : om_r31 R) (suR : om_su 9 64 R) (rX : om_r31 X) (rC : om_r31 C) (K : (Nat → Int → Int) → Prop) (hK : ∀ I', K I' → om_R sc (d + 4) 136 140 [.inr (.inl 101), .inl n, .inl u, .inl i, .inl 9] [] (om_O s q, I') Q) : ∀ (m : Nat) (j : Int) (I : Nat → Int → Int), j + m = 9 → 0 ≤ j → om_mt I 3 = X → om_mt I 4 = C → (∀ j' k', om_mt I 0 j' k' = if 0 ≤ j' ∧ j' < j ∧ 0 ≤ k' ∧ k' < 64 then (R j' k' - om_cv (C 0) X j' k') % 31 else R j' k') → (∀ I', om_fr I I' 0 → (∀ j' k', om_mt I' 0 j' k' = if 0 ≤ j' ∧ j' < 9 ∧ 0 ≤ k' ∧ k' < 64 then (R j' k' - om_cv (C 0) X j' k') % 31 else 0) → K I') → om_R sc (d + 4) 136 114 [.inr (.inl 101), .inl n, .inl u, .inl i, .inl j] [] (om_O s q, I) Q := by
  intro m
  induction m with
  | zero =>
    intro j I h1 h2 hX hC hI hq
    simp only [x_Md_divideTables_114, x_Md_divideTables_116, x_Md_divideTables_118]
    rw [if_pos (by omega)]
    have hj : j = 9 := by omega
    subst hj
    refine hK I (hq I om_fr_rf (fun j' k' => ?_))
    rw [hI j' k']
    split
    · rfl
    · rename_i hn
      exact suR j' k' hn
  | succ m ih =>
    intro j I h1 h2 hX hC hI hq
    simp only [x_Md_divideTables_114, x_Md_divideTables_116, x_Md_divideTables_118]
    rw [if_neg (by omega)]
    have rI : om_r31 (om_mt I 0) := by
      intro j' k'
      rw [hI j' k']
      split
      · omega
      · exact rR j' k'
    simp only [x_Md_divideTables_121, x_Md_divideTables_122, x_Md_divideTables_123, x_Md_divideTables_125, x_Md_divideTables_126, x_Md_divideTables_128, x_Md_divideTables_129, x_Md_divideTables_130, x_Md_divideTables_131, rO_101, Option.toList_some, Option.toList_none, List.cons_append, List.nil_append, List.length_cons, List.length_nil, Nat.reduceAdd, Nat.zero_add, Nat.reduceLeDiff, true_and]
    refine md_addProduct (by decide) (by omega) (by decide) (by omega) (by decide) (by decide) (by decide) (by decide) (by decide) rI (by rw [hX]; exact rX) (by rw [hC]; exact rC) (fun I1 f1 f2 => ?_)
    rw [hX, hC] at f2
    simp only [x_Md_divideTables_134, x_Md_divideTables_137, Option.toList_some, Option.toList_none, List.cons_append, List.nil_append, List.length_cons, List.length_nil, Nat.reduceAdd, Nat.zero_add, Nat.reduceLeDiff, true_and]
    refine ⟨⟨by omega, by omega⟩, ih _ _ (by omega) (by omega) (by rw [f1.2 3 (by decide)]; exact hX) (by rw [f1.2 4 (by decide)]; exact hC) (fun j' k' => ?_) (fun I' f3 f4 => hq I' (om_fr_tr f1 f3) f4)⟩
    rw [f2 j' k', om_cv1]
    by_cases hc : j' = j ∧ 0 ≤ k' ∧ k' < 64
    · rw [if_pos hc, if_pos (by omega), hI j k', if_neg (by omega), hc.1]
      generalize om_cv (C 0) X j k' = y
      omega
    · rw [if_neg hc, hI j' k']
      by_cases hc2 : 0 ≤ j' ∧ j' < j ∧ 0 ≤ k' ∧ k' < 64
      · rw [if_pos hc2, if_pos (by omega)]
      · rw [if_neg hc2, if_neg (by omega)]
theorem md_dvT_m {sc : Int × (Int → Int)} {d : Nat} {s : Int} {q : Nat → Int} {Q : Option om_V → om_H → Prop} {n u wB : Int} (hn : 0 ≤ n ∧ n ≤ 4) (hu : 0 < u ∧ u < 31) {B : Int → Int → Int} (hB : om_su (n + 1) wB B) (hwB : wB = 1 ∨ wB = 13) (rB : om_r31 B) : ∀ (m : Nat) (x : om_V) (W : Int) (R Qt : Int → Int → Int) (I : Nat → Int → Int), (m : Int) + n ≤ 5 → (wB = 1 ∧ W = 13 ∨ wB = 13 ∧ 13 ≤ W ∧ W + 12 * m ≤ 61) → om_mt I 1 = B → om_mt I 0 = R → om_r31 R → om_su 5 W R → om_mt I 2 = Qt → om_r31 Qt → (∀ (i k : Int), i < (m : Int) → Qt i k = 0) → (∀ I', (∀ b, b ≠ 103 → I' b = I b) → (∀ i k, om_mt I' 2 i k = if i < (m : Int) then om_dq s B n u m R i k else Qt i k) → om_mt I' 0 = om_dr s B n u m R → Q none (om_O s q, I')) → om_R sc (d + 4) 136 20 [.inr (.inl 101), .inl n, .inl u, .inl ((m : Int) - 1), x] [] (om_O s q, I) Q := by
  intro m
  induction m with
  | zero =>
    intro x W R Qt I h1 hW hBI hR rR suR hQ rQ hQ0 hq
    simp only [x_Md_divideTables_20, x_Md_divideTables_21, x_Md_divideTables_146]
    rw [if_pos (by omega)]
    refine hq I (fun _ _ => rfl) (fun i k => ?_) hR
    rw [hQ]
    split
    · rename_i hi
      rw [hQ0 i k hi]
      rfl
    · rfl
  | succ m ih =>
    intro x W R Qt I h1 hW hBI hR rR suR hQ rQ hQ0 hq
    have em : ((m + 1 : Nat) : Int) - 1 = m := by omega
    rw [em]
    have suB : om_su (5 - (m : Int)) 13 B := om_su_le hB (by omega) (by omega)
    have suT := om_Ti_su (s := s) hB (by omega) m
    simp only [x_Md_divideTables_20, x_Md_divideTables_21, x_Md_divideTables_24, x_Md_divideTables_25, x_Md_divideTables_26, x_Md_divideTables_27, rO_101, Option.toList_some, Option.toList_none, List.cons_append, List.nil_append, List.length_cons, List.length_nil, Nat.reduceAdd, Nat.zero_add, Nat.reduceLeDiff, true_and]
    rw [if_neg (by omega)]
    refine md_copy (by decide) (by decide) (by decide) (fun I1 f1 f2 => ?_)
    rw [hBI] at f2
    simp only [x_Md_divideTables_30, x_Md_divideTables_31, Option.toList_some, Option.toList_none, List.cons_append, List.nil_append, List.length_cons, List.length_nil, Nat.reduceAdd, Nat.zero_add, Nat.reduceLeDiff, true_and]
    have h := md_dvT_r (sc := sc) (d := d) (s := s) (q := q) (Q := Q) (n := n) (u := u) (i := m) (by omega) suB rB (fun I2 => om_fr I1 I2 3 ∧ om_mt I2 3 = om_Ti s B m) (fun I2 ⟨g1, g2⟩ => ?_) m 0 I1 (by omega) f2 (fun I2 f3 f4 => ⟨f3, by rw [Int.toNat_natCast] at f4; exact f4⟩)
    · simpa using h
    · simp only [x_Md_divideTables_50, x_Md_divideTables_51, x_Md_divideTables_52, rO_101, Option.toList_some, Option.toList_none, List.cons_append, List.nil_append, List.length_cons, List.length_nil, Nat.reduceAdd, Nat.zero_add, Nat.reduceLeDiff, true_and]
      refine md_wipe (by decide) (fun I3 f3 f4 => ?_)
      simp only [x_Md_divideTables_55, x_Md_divideTables_56, Option.toList_some, Option.toList_none, List.cons_append, List.nil_append, List.length_cons, List.length_nil, Nat.reduceAdd, Nat.zero_add, Nat.reduceLeDiff, true_and]
      have e0 : om_mt I3 0 = R := by rw [f3.2 0 (by decide), g1.2 0 (by decide), f1.2 0 (by decide)]; exact hR
      have e2 : om_mt I3 2 = Qt := by rw [f3.2 2 (by decide), g1.2 2 (by decide), f1.2 2 (by decide)]; exact hQ
      refine md_dvT_k hn.1 (i := m) (by omega) (by omega) rR rQ (fun k => hQ0 m k (by omega)) (fun I4 => om_f2 I3 I4 2 4 ∧ (∀ i' k', om_mt I4 4 i' k' = if i' = 0 ∧ 0 ≤ k' ∧ k' < 64 then (u * R (n + m) k') % 31 else 0) ∧ ∀ i' k', om_mt I4 2 i' k' = if i' = (m : Int) ∧ 0 ≤ k' ∧ k' < 64 then (u * R (n + m) k') % 31 else Qt i' k') (fun I4 ⟨g3, g4, g5⟩ => ?_) 64 0 I3 (by omega) (by omega) e0 (fun i' k' => by rw [f4, if_neg (by omega)]) (fun i' k' => by rw [e2, if_neg (by omega)]) (fun I4 f5 f6 f7 => ⟨f5, f6, f7⟩)
      simp only [x_Md_divideTables_111, x_Md_divideTables_112]
      have e03 : om_mt I4 3 = om_Ti s B m := by rw [g3.2 3 (by decide) (by decide), f3.2 3 (by decide)]; exact g2
      have e00 : om_mt I4 0 = R := by rw [g3.2 0 (by decide) (by decide)]; exact e0
      have r4 : om_r31 (om_mt I4 4) := by
        intro i' k'
        rw [g4 i' k']
        split <;> omega
      have erow : om_mt I4 4 0 = fun a => (u * R (n + m) a) % 31 := by
        funext k
        rw [g4 0 k]
        by_cases hk : 0 ≤ k ∧ k < 64
        · rw [if_pos ⟨rfl, hk⟩]
        · rw [if_neg (fun q => hk q.2), suR (n + m) k (by omega), Int.mul_zero]
          rfl
      have hcW : ∀ a, ¬ (0 ≤ a ∧ a < W) → (u * R (n + m) a) % 31 = 0 := fun a ha => by
        rw [suR (n + m) a (by omega), Int.mul_zero]
        rfl
      refine md_dvT_j rR (om_su_le suR (by omega) (by omega)) (om_Ti_r rB m) r4 (fun I5 => om_fr I4 I5 0 ∧ om_mt I5 0 = om_ds s B n u m R) (fun I5 ⟨g6, g7⟩ => ?_) 9 0 I4 (by omega) (by omega) e03 rfl (fun j' k' => by rw [e00, if_neg (by omega)]) (fun I5 f8 f9 => ⟨f8, ?_⟩)
      · have frm : ∀ b, b ≠ 103 → I5 b = I b := fun b hb => by rw [g6.1 b hb, g3.1 b hb, f3.1 b hb, g1.1 b hb, f1.1 b hb]
        have e52 : ∀ i' k', om_mt I5 2 i' k' = if i' = (m : Int) ∧ 0 ≤ k' ∧ k' < 64 then (u * R (n + m) k') % 31 else Qt i' k' := fun i' k' => by rw [g6.2 2 (by decide)]; exact g5 i' k'
        have suD : om_su 5 (W + wB - 1) (om_ds s B n u m R) := om_ds_su (wc := W) (wB := wB) (om_su_le suR (Int.le_refl _) (by omega)) hcW (om_su_le hB (by omega) (Int.le_refl _)) (by omega) (Int.le_refl _)
        simp only [x_Md_divideTables_140, x_Md_divideTables_143]
        refine ⟨⟨by omega, by omega⟩, ih _ (W + wB - 1) (om_ds s B n u m R) (om_mt I5 2) I5 (by omega) (by omega) (by rw [g6.2 1 (by decide), g3.2 1 (by decide) (by decide), f3.2 1 (by decide), g1.2 1 (by decide), f1.2 1 (by decide)]; exact hBI) g7 om_ds_r suD rfl (fun i' k' => ?_) (fun i k hi => ?_) (fun I' f10 f11 f12 => hq I' (fun b hb => by rw [f10 b hb, frm b hb]) (fun i k => ?_) f12)⟩
        · rw [e52 i' k']
          split
          · omega
          · exact rQ i' k'
        · rw [e52 i k, if_neg (by omega)]
          exact hQ0 i k (by omega)
        · rw [f11 i k, e52 i k]
          show _ = if i < ((m + 1 : Nat) : Int) then (if i = (m : Int) then (u * R (n + m) k) % 31 else om_dq s B n u m (om_ds s B n u m R) i k) else Qt i k
          by_cases hi : i < (m : Int)
          · rw [if_pos hi, if_pos (by omega), if_neg (by omega)]
          · rw [if_neg hi]
            by_cases hi2 : i = (m : Int)
            · rw [if_pos (show i < ((m + 1 : Nat) : Int) by omega), if_pos hi2]
              by_cases hk : 0 ≤ k ∧ k < 64
              · rw [if_pos ⟨hi2, hk⟩]
              · rw [if_neg (fun q => hk q.2), suR (n + m) k (by omega), Int.mul_zero, hQ0 i k (by omega)]
                rfl
            · rw [if_neg (fun q => hi2 q.1), if_neg (by omega)]
      · funext j k
        rw [f9 j k, erow]
        split
        · rfl
        · rename_i hno
          unfold om_ds
          rw [suR j k (by omega), om_cv_o hcW suT j k (by omega)]
          rfl
theorem md_divideTables {sc : Int × (Int → Int)} {d : Nat} {s : Int} {q : Nat → Int} {I : Nat → Int → Int} {Q : Option om_V → om_H → Prop} {n wB : Int} (hn : 0 ≤ n ∧ n ≤ 4) (hA : om_su 5 13 (om_mt I 0)) (rA : om_r31 (om_mt I 0)) (hB : om_su (n + 1) wB (om_mt I 1)) (hwB : wB = 1 ∧ n = 0 ∨ wB = 13 ∧ 0 < n) (rB : om_r31 (om_mt I 1)) (hB0 : om_mt I 1 n 0 ≠ 0) (hq : ∀ I', (∀ b, b ≠ 103 → I' b = I b) → om_mt I' 2 = om_dq s (om_mt I 1) n (om_pw (om_mt I 1 n 0) 29) (5 - n).toNat (om_mt I 0) → om_mt I' 0 = om_dr s (om_mt I 1) n (om_pw (om_mt I 1 n 0) 29) (5 - n).toNat (om_mt I 0) → Q none (om_O s q, I')) : om_R sc (d + 4) 136 0 [.inr (.inl 101), .inl n, om_un, om_un, om_un] [] (om_O s q, I) Q := by
  have rb := rB n 0
  obtain ⟨⟨u1, u2⟩, u3⟩ := om_inv_eq (om_mt I 1 n 0) (by omega) (by omega)
  simp only [x_Md_divideTables_0, x_Md_divideTables_1, x_Md_divideTables_2, x_Md_divideTables_3, x_Md_divideTables_4, rO_101, Option.toList_some, Option.toList_none, List.cons_append, List.nil_append, List.length_cons, List.length_nil, Nat.reduceAdd, Nat.zero_add, Nat.reduceLeDiff, true_and]
  refine md_get (by decide) (by omega) (by decide) ?_
  simp only [x_Md_divideTables_7, Option.toList_some, Option.toList_none, List.cons_append, List.nil_append, List.length_cons, List.length_nil, Nat.reduceAdd, Nat.zero_add, Nat.reduceLeDiff, true_and]
  refine md_inverse (by omega) ?_
  simp only [x_Md_divideTables_10, x_Md_divideTables_11, x_Md_divideTables_12, x_Md_divideTables_13, rO_101, Option.toList_some, Option.toList_none, List.cons_append, List.nil_append, List.length_cons, List.length_nil, Nat.reduceAdd, Nat.zero_add, Nat.reduceLeDiff, true_and]
  refine md_wipe (by decide) (fun I1 f1 f2 => ?_)
  simp only [x_Md_divideTables_16, x_Md_divideTables_17, x_Md_divideTables_18, x_Md_divideTables_19, Option.toList_some, Option.toList_none, List.cons_append, List.nil_append, List.length_cons, List.length_nil, Nat.reduceAdd, Nat.zero_add, Nat.reduceLeDiff, true_and]
  refine ⟨⟨by omega, by omega⟩, ?_⟩
  have h := md_dvT_m (sc := sc) (d := d) (s := s) (q := q) (Q := Q) (u := om_pw (om_mt I 1 n 0) 29) hn ⟨u1, u2⟩ hB (by omega) rB (5 - n).toNat om_un 13 (om_mt I 0) (fun _ _ => 0) I1 (by omega) (by omega) (by rw [f1.2 1 (by decide)]) (by rw [f1.2 0 (by decide)]) rA hA f2 (fun _ _ => (by decide : (0 : Int) ≤ 0 ∧ (0 : Int) < 31)) (fun i k hi => rfl) (fun I' f3 f4 f5 => hq I' (fun b hb => by rw [f3 b hb, f1.1 b hb]) ?_ f5)
  · have e4 : (((5 - n).toNat : Nat) : Int) - 1 = 4 - n := by omega
    rw [e4] at h
    exact h
  · funext i k
    rw [f4 i k]
    split
    · rfl
    · rename_i hi
      exact (om_dq_o _ _ i k (by omega)).symm
