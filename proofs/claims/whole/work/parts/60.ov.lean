/-! fractions in the reference -/
theorem md_dp_a {sc : Int × (Int → Int)} {d : Nat} {s : Int} {q : Nat → Int} {Q : Option om_V → om_H → Prop} {i n z : Int}  {R X C : Int → Int → Int} (rR : om_r31 R) (suR : om_su 9 64 R) (rX : om_r31 X) (rC : om_r31 C) (K : (Nat → Int → Int) → Prop) (hK : ∀ I', K I' → om_R sc (d + 3) 139 71 [.inr (.inl 101), .inl (i), .inl (n), .inl (z), .inl (9)] [] (om_O s q, I') Q) : ∀ (m : Nat) (j : Int) (I : Nat → Int → Int), j + m = 9 → 0 ≤ j → om_mt I 2 = X → om_mt I 1 = C → (∀ j' k', om_mt I 3 j' k' = if 0 ≤ j' ∧ j' < j ∧ 0 ≤ k' ∧ k' < 64 then (R j' k' + 1 * om_cv (C 0) X j' k') % 31 else R j' k') → (∀ I', om_fr I I' 3 → (∀ j' k', om_mt I' 3 j' k' = if 0 ≤ j' ∧ j' < 9 ∧ 0 ≤ k' ∧ k' < 64 then (R j' k' + 1 * om_cv (C 0) X j' k') % 31 else 0) → K I') → om_R sc (d + 3) 139 45 [.inr (.inl 101), .inl (i), .inl (n), .inl (z), .inl (j)] [] (om_O s q, I) Q := by
  intro m
  induction m with
  | zero =>
    intro j I h1 h2 hX hC hI hq
    simp only [x_Md_derivedPart_45, x_Md_derivedPart_47, x_Md_derivedPart_49]
    rw [if_pos (by omega)]
    have hj : j = 9 := by omega
    subst hj
    refine hK I (hq I om_fr_rf (fun j' k' => ?_))
    rw [hI j' k']
    split
    · rfl
    · rename_i hn
      exact suR j' k' hn
  | succ m ih =>
    intro j I h1 h2 hX hC hI hq
    simp only [x_Md_derivedPart_45, x_Md_derivedPart_47, x_Md_derivedPart_49]
    rw [if_neg (by omega)]
    have rI : om_r31 (om_mt I 3) := by
      intro j' k'
      rw [hI j' k']
      split
      · omega
      · exact rR j' k'
    simp only [x_Md_derivedPart_52, x_Md_derivedPart_53, x_Md_derivedPart_54, x_Md_derivedPart_56, x_Md_derivedPart_57, x_Md_derivedPart_59, x_Md_derivedPart_60, x_Md_derivedPart_61, x_Md_derivedPart_62, rO_101, Option.toList_some, Option.toList_none, List.cons_append, List.nil_append, List.length_cons, List.length_nil, Nat.reduceAdd, Nat.zero_add, Nat.reduceLeDiff, true_and]
    refine md_addProduct (by decide) (by omega) (by decide) (by omega) (by decide) (by omega) (by decide) (by decide) (by omega) rI (by rw [hX]; exact rX) (by rw [hC]; exact rC) (fun I1 f1 f2 => ?_)
    rw [hX, hC] at f2
    simp only [x_Md_derivedPart_65, x_Md_derivedPart_68, Option.toList_some, Option.toList_none, List.cons_append, List.nil_append, List.length_cons, List.length_nil, Nat.reduceAdd, Nat.zero_add, Nat.reduceLeDiff, true_and]
    refine ⟨⟨by omega, by omega⟩, ih _ _ (by omega) (by omega) (by rw [f1.2 2 (by decide)]; exact hX) (by rw [f1.2 1 (by decide)]; exact hC) (fun j' k' => ?_) (fun I' f3 f4 => hq I' (om_fr_tr f1 f3) f4)⟩
    rw [f2 j' k', om_cv1]
    by_cases hc : j' = j ∧ 0 ≤ k' ∧ k' < 64
    · rw [if_pos hc, if_pos (by omega), hI j k', if_neg (by omega), hc.1]
    · rw [if_neg hc, hI j' k']
      by_cases hc2 : 0 ≤ j' ∧ j' < j ∧ 0 ≤ k' ∧ k' < 64
      · rw [if_pos hc2, if_pos (by omega)]
      · rw [if_neg hc2, if_neg (by omega)]
theorem md_dp_b {sc : Int × (Int → Int)} {d : Nat} {s : Int} {q : Nat → Int} {Q : Option om_V → om_H → Prop} {i n z : Int} (hz : 0 ≤ z ∧ z ≤ 9) {R X C : Int → Int → Int} (rR : om_r31 R) (suR : om_su 9 64 R) (rX : om_r31 X) (rC : om_r31 C) (K : (Nat → Int → Int) → Prop) (hK : ∀ I', K I' → om_R sc (d + 3) 139 114 [.inr (.inl 101), .inl (i), .inl (n), .inl (z), .inl (9)] [] (om_O s q, I') Q) : ∀ (m : Nat) (j : Int) (I : Nat → Int → Int), j + m = 9 → 0 ≤ j → om_mt I 4 = X → om_mt I 2 = C → (∀ j' k', om_mt I 3 j' k' = if 0 ≤ j' ∧ j' < j ∧ 0 ≤ k' ∧ k' < 64 then (R j' k' + (-(z + 1)) * om_cv (C 0) X j' k') % 31 else R j' k') → (∀ I', om_fr I I' 3 → (∀ j' k', om_mt I' 3 j' k' = if 0 ≤ j' ∧ j' < 9 ∧ 0 ≤ k' ∧ k' < 64 then (R j' k' + (-(z + 1)) * om_cv (C 0) X j' k') % 31 else 0) → K I') → om_R sc (d + 3) 139 85 [.inr (.inl 101), .inl (i), .inl (n), .inl (z), .inl (j)] [] (om_O s q, I) Q := by
  intro m
  induction m with
  | zero =>
    intro j I h1 h2 hX hC hI hq
    simp only [x_Md_derivedPart_85, x_Md_derivedPart_87, x_Md_derivedPart_89]
    rw [if_pos (by omega)]
    have hj : j = 9 := by omega
    subst hj
    refine hK I (hq I om_fr_rf (fun j' k' => ?_))
    rw [hI j' k']
    split
    · rfl
    · rename_i hn
      exact suR j' k' hn
  | succ m ih =>
    intro j I h1 h2 hX hC hI hq
    simp only [x_Md_derivedPart_85, x_Md_derivedPart_87, x_Md_derivedPart_89]
    rw [if_neg (by omega)]
    have rI : om_r31 (om_mt I 3) := by
      intro j' k'
      rw [hI j' k']
      split
      · omega
      · exact rR j' k'
    simp only [x_Md_derivedPart_92, x_Md_derivedPart_93, x_Md_derivedPart_94, x_Md_derivedPart_96, x_Md_derivedPart_97, x_Md_derivedPart_99, x_Md_derivedPart_100, x_Md_derivedPart_101, x_Md_derivedPart_102, x_Md_derivedPart_103, x_Md_derivedPart_104, x_Md_derivedPart_105, rO_101, Option.toList_some, Option.toList_none, List.cons_append, List.nil_append, List.length_cons, List.length_nil, Nat.reduceAdd, Nat.zero_add, Nat.reduceLeDiff, true_and]
    refine ⟨⟨by omega, by omega⟩, ⟨by omega, by omega⟩, md_addProduct (by decide) (by omega) (by decide) (by omega) (by decide) (by omega) (by decide) (by decide) (by omega) rI (by rw [hX]; exact rX) (by rw [hC]; exact rC) (fun I1 f1 f2 => ?_)⟩
    rw [hX, hC] at f2
    simp only [x_Md_derivedPart_108, x_Md_derivedPart_111, Option.toList_some, Option.toList_none, List.cons_append, List.nil_append, List.length_cons, List.length_nil, Nat.reduceAdd, Nat.zero_add, Nat.reduceLeDiff, true_and]
    refine ⟨⟨by omega, by omega⟩, ih _ _ (by omega) (by omega) (by rw [f1.2 4 (by decide)]; exact hX) (by rw [f1.2 2 (by decide)]; exact hC) (fun j' k' => ?_) (fun I' f3 f4 => hq I' (om_fr_tr f1 f3) f4)⟩
    rw [f2 j' k', om_cv1]
    by_cases hc : j' = j ∧ 0 ≤ k' ∧ k' < 64
    · rw [if_pos hc, if_pos (by omega), hI j k', if_neg (by omega), hc.1]
    · rw [if_neg hc, hI j' k']
      by_cases hc2 : 0 ≤ j' ∧ j' < j ∧ 0 ≤ k' ∧ k' < 64
      · rw [if_pos hc2, if_pos (by omega)]
      · rw [if_neg hc2, if_neg (by omega)]
theorem md_dp_c {sc : Int × (Int → Int)} {d : Nat} {s : Int} {q : Nat → Int} {Q : Option om_V → om_H → Prop} {i n z : Int}  {R X C : Int → Int → Int} (rR : om_r31 R) (suR : om_su 9 64 R) (rX : om_r31 X) (rC : om_r31 C) (K : (Nat → Int → Int) → Prop) (hK : ∀ I', K I' → om_R sc (d + 3) 139 167 [.inr (.inl 101), .inl (i), .inl (n), .inl (z), .inl (9)] [] (om_O s q, I') Q) : ∀ (m : Nat) (j : Int) (I : Nat → Int → Int), j + m = 9 → 0 ≤ j → om_mt I 2 = X → om_mt I 1 = C → (∀ j' k', om_mt I 3 j' k' = if 0 ≤ j' ∧ j' < j ∧ 0 ≤ k' ∧ k' < 64 then (R j' k' + 1 * om_cv (C 0) X j' k') % 31 else R j' k') → (∀ I', om_fr I I' 3 → (∀ j' k', om_mt I' 3 j' k' = if 0 ≤ j' ∧ j' < 9 ∧ 0 ≤ k' ∧ k' < 64 then (R j' k' + 1 * om_cv (C 0) X j' k') % 31 else 0) → K I') → om_R sc (d + 3) 139 141 [.inr (.inl 101), .inl (i), .inl (n), .inl (z), .inl (j)] [] (om_O s q, I) Q := by
  intro m
  induction m with
  | zero =>
    intro j I h1 h2 hX hC hI hq
    simp only [x_Md_derivedPart_141, x_Md_derivedPart_143, x_Md_derivedPart_145]
    rw [if_pos (by omega)]
    have hj : j = 9 := by omega
    subst hj
    refine hK I (hq I om_fr_rf (fun j' k' => ?_))
    rw [hI j' k']
    split
    · rfl
    · rename_i hn
      exact suR j' k' hn
  | succ m ih =>
    intro j I h1 h2 hX hC hI hq
    simp only [x_Md_derivedPart_141, x_Md_derivedPart_143, x_Md_derivedPart_145]
    rw [if_neg (by omega)]
    have rI : om_r31 (om_mt I 3) := by
      intro j' k'
      rw [hI j' k']
      split
      · omega
      · exact rR j' k'
    simp only [x_Md_derivedPart_148, x_Md_derivedPart_149, x_Md_derivedPart_150, x_Md_derivedPart_152, x_Md_derivedPart_153, x_Md_derivedPart_155, x_Md_derivedPart_156, x_Md_derivedPart_157, x_Md_derivedPart_158, rO_101, Option.toList_some, Option.toList_none, List.cons_append, List.nil_append, List.length_cons, List.length_nil, Nat.reduceAdd, Nat.zero_add, Nat.reduceLeDiff, true_and]
    refine md_addProduct (by decide) (by omega) (by decide) (by omega) (by decide) (by omega) (by decide) (by decide) (by omega) rI (by rw [hX]; exact rX) (by rw [hC]; exact rC) (fun I1 f1 f2 => ?_)
    rw [hX, hC] at f2
    simp only [x_Md_derivedPart_161, x_Md_derivedPart_164, Option.toList_some, Option.toList_none, List.cons_append, List.nil_append, List.length_cons, List.length_nil, Nat.reduceAdd, Nat.zero_add, Nat.reduceLeDiff, true_and]
    refine ⟨⟨by omega, by omega⟩, ih _ _ (by omega) (by omega) (by rw [f1.2 2 (by decide)]; exact hX) (by rw [f1.2 1 (by decide)]; exact hC) (fun j' k' => ?_) (fun I' f3 f4 => hq I' (om_fr_tr f1 f3) f4)⟩
    rw [f2 j' k', om_cv1]
    by_cases hc : j' = j ∧ 0 ≤ k' ∧ k' < 64
    · rw [if_pos hc, if_pos (by omega), hI j k', if_neg (by omega), hc.1]
    · rw [if_neg hc, hI j' k']
      by_cases hc2 : 0 ≤ j' ∧ j' < j ∧ 0 ≤ k' ∧ k' < 64
      · rw [if_pos hc2, if_pos (by omega)]
      · rw [if_neg hc2, if_neg (by omega)]
theorem md_ov_d {sc : Int × (Int → Int)} {d : Nat} {s : Int} {q : Nat → Int} {Q : Option om_V → om_H → Prop} {to a b n i : Int} (hi : 0 ≤ i ∧ i < 9) {R X C : Int → Int → Int} (rR : om_r31 R) (suR : om_su 9 64 R) (rX : om_r31 X) (rC : om_r31 C) (K : (Nat → Int → Int) → Prop) (hK : ∀ I', K I' → om_R sc (d + 3) 138 129 [.inr (.inl 101), .inl (to), .inl (a), .inl (b), .inl (n), .inl (i), .inl (9)] [] (om_O s q, I') Q) : ∀ (m : Nat) (j : Int) (I : Nat → Int → Int), j + m = 9 → 0 ≤ j → om_mt I 3 = X → om_mt I 0 = C → (∀ j' k', om_mt I 5 j' k' = if 0 ≤ j' ∧ j' < j ∧ 0 ≤ k' ∧ k' < 64 then (R j' k' + 1 * om_cv (C i) X j' k') % 31 else R j' k') → (∀ I', om_fr I I' 5 → (∀ j' k', om_mt I' 5 j' k' = if 0 ≤ j' ∧ j' < 9 ∧ 0 ≤ k' ∧ k' < 64 then (R j' k' + 1 * om_cv (C i) X j' k') % 31 else 0) → K I') → om_R sc (d + 3) 138 102 [.inr (.inl 101), .inl (to), .inl (a), .inl (b), .inl (n), .inl (i), .inl (j)] [] (om_O s q, I) Q := by
  intro m
  induction m with
  | zero =>
    intro j I h1 h2 hX hC hI hq
    simp only [x_Md_over_102, x_Md_over_104, x_Md_over_106]
    rw [if_pos (by omega)]
    have hj : j = 9 := by omega
    subst hj
    refine hK I (hq I om_fr_rf (fun j' k' => ?_))
    rw [hI j' k']
    split
    · rfl
    · rename_i hn
      exact suR j' k' hn
  | succ m ih =>
    intro j I h1 h2 hX hC hI hq
    simp only [x_Md_over_102, x_Md_over_104, x_Md_over_106]
    rw [if_neg (by omega)]
    have rI : om_r31 (om_mt I 5) := by
      intro j' k'
      rw [hI j' k']
      split
      · omega
      · exact rR j' k'
    simp only [x_Md_over_109, x_Md_over_110, x_Md_over_111, x_Md_over_113, x_Md_over_114, x_Md_over_116, x_Md_over_117, x_Md_over_119, x_Md_over_120, rO_101, Option.toList_some, Option.toList_none, List.cons_append, List.nil_append, List.length_cons, List.length_nil, Nat.reduceAdd, Nat.zero_add, Nat.reduceLeDiff, true_and]
    refine md_addProduct (by decide) (by omega) (by decide) (by omega) (by decide) (by omega) (by decide) (by decide) (by omega) rI (by rw [hX]; exact rX) (by rw [hC]; exact rC) (fun I1 f1 f2 => ?_)
    rw [hX, hC] at f2
    simp only [x_Md_over_123, x_Md_over_126, Option.toList_some, Option.toList_none, List.cons_append, List.nil_append, List.length_cons, List.length_nil, Nat.reduceAdd, Nat.zero_add, Nat.reduceLeDiff, true_and]
    refine ⟨⟨by omega, by omega⟩, ih _ _ (by omega) (by omega) (by rw [f1.2 3 (by decide)]; exact hX) (by rw [f1.2 0 (by decide)]; exact hC) (fun j' k' => ?_) (fun I' f3 f4 => hq I' (om_fr_tr f1 f3) f4)⟩
    rw [f2 j' k', om_cv1]
    by_cases hc : j' = j ∧ 0 ≤ k' ∧ k' < 64
    · rw [if_pos hc, if_pos (by omega), hI j k', if_neg (by omega), hc.1]
    · rw [if_neg hc, hI j' k']
      by_cases hc2 : 0 ≤ j' ∧ j' < j ∧ 0 ≤ k' ∧ k' < 64
      · rw [if_pos hc2, if_pos (by omega)]
      · rw [if_neg hc2, if_neg (by omega)]
/-- what the parts leave alone -/
def on_fm (I I' : Nat → Int → Int) : Prop := (∀ b, b ≠ 103 → I' b = I b) ∧ om_mt I' 0 = om_mt I 0 ∧ om_mt I' 1 = om_mt I 1 ∧ om_mt I' 5 = om_mt I 5
theorem on_fm_rf {I : Nat → Int → Int} : on_fm I I := ⟨fun _ _ => rfl, rfl, rfl, rfl⟩
theorem on_fm_tr {I I1 I2 : Nat → Int → Int} (h1 : on_fm I I1) (h2 : on_fm I1 I2) : on_fm I I2 := ⟨fun b hb => by rw [h2.1 b hb, h1.1 b hb], by rw [h2.2.1, h1.2.1], by rw [h2.2.2.1, h1.2.2.1], by rw [h2.2.2.2, h1.2.2.2]⟩
theorem on_fm_1 {I I1 : Nat → Int → Int} {t : Int} (h : om_fr I I1 t) (ht : t = 2 ∨ t = 3 ∨ t = 4) : on_fm I I1 := ⟨h.1, h.2 0 (by omega), h.2 1 (by omega), h.2 5 (by omega)⟩
theorem md_dp_s {sc : Int × (Int → Int)} {d : Nat} {s : Int} {q : Nat → Int} {Q : Option om_V → om_H → Prop} {i : Nat} {n : Int} (hs : s = 0) (hi : i ≤ 4) {B : Int → Int → Int} (suB : om_su 1 13 B) (rB : om_r31 B) (K : (Nat → Int → Int) → Prop) (hK : ∀ I', K I' → om_R sc (d + 4) 139 122 [.inr (.inl 101), .inl (i : Int), .inl n, .inl (i : Int), .inl 9] [] (om_O s q, I') Q) (hK0 : ∀ I' x, i = 0 → K I' → om_R sc (d + 4) 139 122 [.inr (.inl 101), .inl (i : Int), .inl n, .inl (i : Int), x] [] (om_O s q, I') Q) : ∀ (m z : Nat) (x : om_V) (I : Nat → Int → Int), z + m = i → (z = 0 ∨ x = .inl 9) → om_mt I 1 = B → om_mt I 3 = on_N B z → (∀ I', on_fm I I' → om_mt I' 3 = on_N B i → K I') → om_R sc (d + 4) 139 15 [.inr (.inl 101), .inl (i : Int), .inl n, .inl (z : Int), x] [] (om_O s q, I) Q := by
  intro m
  induction m with
  | zero =>
    intro z x I h1 hx hB hN hq
    simp only [x_Md_derivedPart_15, x_Md_derivedPart_16, x_Md_derivedPart_17, x_Md_derivedPart_120, x_Md_derivedPart_121]
    rw [if_pos (by omega)]
    have hz : z = i := by omega
    subst hz
    rcases hx with hx | hx
    · exact hK0 I x hx (hq I on_fm_rf hN)
    · subst hx
      exact hK I (hq I on_fm_rf hN)
  | succ m ih =>
    intro z x I h1 hx hB hN hq
    have suN := on_N_su suB z (by omega)
    have suT := om_T_su (s := 0) suN (by omega)
    simp only [x_Md_derivedPart_15, x_Md_derivedPart_16, x_Md_derivedPart_17]
    rw [if_neg (by omega)]
    simp only [x_Md_derivedPart_20, x_Md_derivedPart_21, x_Md_derivedPart_22, x_Md_derivedPart_23, rO_101, Option.toList_some, Option.toList_none, List.cons_append, List.nil_append, List.length_cons, List.length_nil, Nat.reduceAdd, Nat.zero_add, Nat.reduceLeDiff, true_and]
    refine md_copy (by decide) (by decide) (by decide) (fun I1 f1 f2 => ?_)
    rw [hN] at f2
    simp only [x_Md_derivedPart_26, x_Md_derivedPart_27, x_Md_derivedPart_28, rO_101, Option.toList_some, Option.toList_none, List.cons_append, List.nil_append, List.length_cons, List.length_nil, Nat.reduceAdd, Nat.zero_add, Nat.reduceLeDiff, true_and]
    refine md_raise (by decide) (by rw [f2]; exact on_N_r z) (by rw [f2]; exact om_su_le suN (by omega) (by omega)) (fun I2 f3 f4 => ?_)
    rw [f2, hs] at f4
    simp only [x_Md_derivedPart_31, x_Md_derivedPart_32, x_Md_derivedPart_33, x_Md_derivedPart_34, rO_101, Option.toList_some, Option.toList_none, List.cons_append, List.nil_append, List.length_cons, List.length_nil, Nat.reduceAdd, Nat.zero_add, Nat.reduceLeDiff, true_and]
    refine md_copy (by decide) (by decide) (by decide) (fun I3 f5 f6 => ?_)
    rw [f3.2 3 (by decide), f1.2 3 (by decide), hN] at f6
    simp only [x_Md_derivedPart_37, x_Md_derivedPart_38, x_Md_derivedPart_39, rO_101, Option.toList_some, Option.toList_none, List.cons_append, List.nil_append, List.length_cons, List.length_nil, Nat.reduceAdd, Nat.zero_add, Nat.reduceLeDiff, true_and]
    refine md_wipe (by decide) (fun I4 f7 f8 => ?_)
    have e42 : om_mt I4 2 = om_T 0 (on_N B z) := by rw [f7.2 2 (by decide), f5.2 2 (by decide)]; exact f4
    have e44 : om_mt I4 4 = on_N B z := by rw [f7.2 4 (by decide)]; exact f6
    have fm4 : on_fm I I4 := on_fm_tr (on_fm_tr (on_fm_1 f1 (by decide)) (on_fm_1 f3 (by decide))) (on_fm_tr (on_fm_1 f5 (by decide)) (on_fm_1 f7 (by decide)))
    have e41 : om_mt I4 1 = B := by rw [fm4.2.2.1]; exact hB
    simp only [x_Md_derivedPart_42, x_Md_derivedPart_43, Option.toList_some, Option.toList_none, List.cons_append, List.nil_append, List.length_cons, List.length_nil, Nat.reduceAdd, Nat.zero_add, Nat.reduceLeDiff, true_and]
    refine md_dp_a (d := d + 1) (R := fun _ _ => 0) (fun _ _ => (by decide : (0 : Int) ≤ 0 ∧ (0 : Int) < 31)) (fun _ _ _ => rfl) (om_T_r (on_N_r z)) rB (fun I5 => om_fr I4 I5 3 ∧ om_mt I5 3 = on_qm (B 0) (om_T 0 (on_N B z))) (fun I5 ⟨g1, g2⟩ => ?_) 9 0 I4 (by omega) (by omega) e42 e41 (fun j' k' => by rw [f8, if_neg (by omega)]) (fun I5 f9 f10 => ⟨f9, ?_⟩)
    · simp only [x_Md_derivedPart_71, x_Md_derivedPart_72, x_Md_derivedPart_73, x_Md_derivedPart_74, rO_101, Option.toList_some, Option.toList_none, List.cons_append, List.nil_append, List.length_cons, List.length_nil, Nat.reduceAdd, Nat.zero_add, Nat.reduceLeDiff, true_and]
      refine md_copy (by decide) (by decide) (by decide) (fun I6 f11 f12 => ?_)
      rw [g1.2 1 (by decide), e41] at f12
      simp only [x_Md_derivedPart_77, x_Md_derivedPart_78, x_Md_derivedPart_79, rO_101, Option.toList_some, Option.toList_none, List.cons_append, List.nil_append, List.length_cons, List.length_nil, Nat.reduceAdd, Nat.zero_add, Nat.reduceLeDiff, true_and]
      refine md_turn (by decide) (by rw [f12]; exact rB) (fun I7 f13 f14 => ?_)
      rw [f12, hs] at f14
      simp only [x_Md_derivedPart_82, x_Md_derivedPart_83, Option.toList_some, Option.toList_none, List.cons_append, List.nil_append, List.length_cons, List.length_nil, Nat.reduceAdd, Nat.zero_add, Nat.reduceLeDiff, true_and]
      have e73 : om_mt I7 3 = on_qm (B 0) (om_T 0 (on_N B z)) := by rw [f13.2 3 (by decide), f11.2 3 (by decide)]; exact g2
      have e74 : om_mt I7 4 = on_N B z := by rw [f13.2 4 (by decide), f11.2 4 (by decide), g1.2 4 (by decide)]; exact e44
      have fm7 : on_fm I I7 := on_fm_tr fm4 (on_fm_tr (on_fm_1 g1 (by decide)) (on_fm_tr (on_fm_1 f11 (by decide)) (on_fm_1 f13 (by decide))))
      have suq := on_qm_su (fun q hq => suB 0 q (by omega)) suT
      refine md_dp_b (d := d + 1) (by omega) (R := on_qm (B 0) (om_T 0 (on_N B z))) on_qm_r (om_su_le suq (by omega) (by omega)) (on_N_r z) (om_D_r rB) (fun I8 => om_fr I7 I8 3 ∧ om_mt I8 3 = on_N B (z + 1)) (fun I8 ⟨g3, g4⟩ => ?_) 9 0 I7 (by omega) (by omega) e74 f14 (fun j' k' => by rw [e73, if_neg (by omega)]) (fun I8 f15 f16 => ⟨f15, ?_⟩)
      · simp only [x_Md_derivedPart_114, x_Md_derivedPart_117, Option.toList_some, Option.toList_none, List.cons_append, List.nil_append, List.length_cons, List.length_nil, Nat.reduceAdd, Nat.zero_add, Nat.reduceLeDiff, true_and]
        refine ⟨⟨by omega, by omega⟩, ?_⟩
        have fm8 := on_fm_tr fm7 (on_fm_1 g3 (by decide))
        have h := ih (z + 1) (.inl 9) I8 (by omega) (Or.inr rfl) (by rw [fm8.2.2.1]; exact hB) g4 (fun I' f17 f18 => hq I' (on_fm_tr fm8 f17) f18)
        simpa using h
      · funext j k
        rw [f16 j k]
        split
        · unfold on_qm
          show _ = (om_cv (B 0) (om_T 0 (on_N B z)) j k - ((z : Int) + 1) * om_cv (om_D 0 B 0) (on_N B z) j k) % 31
          rw [Int.neg_mul]
          generalize ((z : Int) + 1) * om_cv (om_D 0 B 0) (on_N B z) j k = y
          omega
        · rename_i hno
          exact (on_N_su suB (z + 1) (by omega) j k (by omega)).symm
    · funext j k
      rw [f10 j k]
      split
      · unfold on_qm
        rw [Int.zero_add, Int.one_mul]
      · rename_i hno
        exact (on_qm_su (fun q hq => suB 0 q (by omega)) suT j k (by omega)).symm
theorem md_dp_p {sc : Int × (Int → Int)} {d : Nat} {s : Int} {q : Nat → Int} {Q : Option om_V → om_H → Prop} {i n : Int} (hn : n ≤ 4) {B : Int → Int → Int} (suB : om_su 1 13 B) (rB : om_r31 B) : ∀ (m : Nat) (z : Int) (x : om_V) (W : Int → Int → Int) (I : Nat → Int → Int), z + m = n → 0 ≤ z → om_mt I 1 = B → om_mt I 3 = W → om_r31 W → om_su 5 (12 * z + 1) W → (∀ I', on_fm I I' → om_mt I' 3 = on_P (B 0) m W → Q none (om_O s q, I')) → om_R sc (d + 4) 139 122 [.inr (.inl 101), .inl i, .inl n, .inl z, x] [] (om_O s q, I) Q := by
  intro m
  induction m with
  | zero =>
    intro z x W I h1 h2 hB hW rW suW hq
    simp only [x_Md_derivedPart_122, x_Md_derivedPart_123, x_Md_derivedPart_124, x_Md_derivedPart_173]
    rw [if_pos (by omega)]
    exact hq I on_fm_rf hW
  | succ m ih =>
    intro z x W I h1 h2 hB hW rW suW hq
    simp only [x_Md_derivedPart_122, x_Md_derivedPart_123, x_Md_derivedPart_124]
    rw [if_neg (by omega)]
    simp only [x_Md_derivedPart_127, x_Md_derivedPart_128, x_Md_derivedPart_129, x_Md_derivedPart_130, rO_101, Option.toList_some, Option.toList_none, List.cons_append, List.nil_append, List.length_cons, List.length_nil, Nat.reduceAdd, Nat.zero_add, Nat.reduceLeDiff, true_and]
    refine md_copy (by decide) (by decide) (by decide) (fun I1 f1 f2 => ?_)
    rw [hW] at f2
    simp only [x_Md_derivedPart_133, x_Md_derivedPart_134, x_Md_derivedPart_135, rO_101, Option.toList_some, Option.toList_none, List.cons_append, List.nil_append, List.length_cons, List.length_nil, Nat.reduceAdd, Nat.zero_add, Nat.reduceLeDiff, true_and]
    refine md_wipe (by decide) (fun I2 f3 f4 => ?_)
    simp only [x_Md_derivedPart_138, x_Md_derivedPart_139, Option.toList_some, Option.toList_none, List.cons_append, List.nil_append, List.length_cons, List.length_nil, Nat.reduceAdd, Nat.zero_add, Nat.reduceLeDiff, true_and]
    have fm2 : on_fm I I2 := on_fm_tr (on_fm_1 f1 (by decide)) (on_fm_1 f3 (by decide))
    have suq := on_qm_su (fun q hq => suB 0 q (by omega)) suW
    refine md_dp_c (d := d + 1) (R := fun _ _ => 0) (fun _ _ => (by decide : (0 : Int) ≤ 0 ∧ (0 : Int) < 31)) (fun _ _ _ => rfl) rW rB (fun I3 => om_fr I2 I3 3 ∧ om_mt I3 3 = on_qm (B 0) W) (fun I3 ⟨g1, g2⟩ => ?_) 9 0 I2 (by omega) (by omega) (by rw [f3.2 2 (by decide)]; exact f2) (by rw [fm2.2.2.1]; exact hB) (fun j' k' => by rw [f4, if_neg (by omega)]) (fun I3 f5 f6 => ⟨f5, ?_⟩)
    · simp only [x_Md_derivedPart_167, x_Md_derivedPart_170, Option.toList_some, Option.toList_none, List.cons_append, List.nil_append, List.length_cons, List.length_nil, Nat.reduceAdd, Nat.zero_add, Nat.reduceLeDiff, true_and]
      have fm3 := on_fm_tr fm2 (on_fm_1 g1 (by decide))
      exact ⟨⟨by omega, by omega⟩, ih _ _ (on_qm (B 0) W) I3 (by omega) (by omega) (by rw [fm3.2.2.1]; exact hB) g2 on_qm_r (om_su_le suq (by omega) (by omega)) (fun I' f7 f8 => hq I' (on_fm_tr fm3 f7) f8)⟩
    · funext j k
      rw [f6 j k]
      split
      · unfold on_qm
        rw [Int.zero_add, Int.one_mul]
      · rename_i hno
        exact (suq j k (by omega)).symm
theorem md_one {sc : Int × (Int → Int)} {d : Nat} {s : Int} {q : Nat → Int} {I : Nat → Int → Int} {Q : Option om_V → om_H → Prop} {t : Int} (ht : 0 ≤ t ∧ t < 6) (hz : om_mt I t = fun _ _ => 0) (hq : ∀ I', om_fr I I' t → om_mt I' t = on_e0 → Q none (om_O s q, I')) : om_R sc (d + 1) 121 0 [.inr (.inl 101), .inl t, .inl 0, .inl 0, .inl 1, om_un] [] (om_O s q, I) Q := by
  refine md_plus ht (by decide) (by decide) (by decide) (by rw [hz]; decide) (fun I1 f1 f2 => hq I1 f1 ?_)
  funext j k
  rw [f2 j k, hz]
  unfold on_e0
  split <;> rfl
theorem md_derivedPart {sc : Int × (Int → Int)} {d : Nat} {s : Int} {q : Nat → Int} {I : Nat → Int → Int} {Q : Option om_V → om_H → Prop} {i n : Nat} (hs : s = 0) (hi : i ≤ n) (hn : n ≤ 4) {B : Int → Int → Int} (suB : om_su 1 13 B) (rB : om_r31 B) (hB : om_mt I 1 = B) (hq : ∀ I', on_fm I I' → om_mt I' 3 = on_tm s B n i → Q none (om_O s q, I')) : om_R sc (d + 4) 139 0 [.inr (.inl 101), .inl (i : Int), .inl (n : Int), om_un, om_un] [] (om_O s q, I) Q := by
  simp only [x_Md_derivedPart_0, x_Md_derivedPart_1, x_Md_derivedPart_2, rO_101, Option.toList_some, Option.toList_none, List.cons_append, List.nil_append, List.length_cons, List.length_nil, Nat.reduceAdd, Nat.zero_add, Nat.reduceLeDiff, true_and]
  refine md_wipe (by decide) (fun I1 f1 f2 => ?_)
  simp only [x_Md_derivedPart_5, x_Md_derivedPart_6, x_Md_derivedPart_7, x_Md_derivedPart_8, x_Md_derivedPart_9, x_Md_derivedPart_10, rO_101, Option.toList_some, Option.toList_none, List.cons_append, List.nil_append, List.length_cons, List.length_nil, Nat.reduceAdd, Nat.zero_add, Nat.reduceLeDiff, true_and]
  refine md_one (by decide) f2 (fun I2 f3 f4 => ?_)
  simp only [x_Md_derivedPart_13, x_Md_derivedPart_14, Option.toList_some, Option.toList_none, List.cons_append, List.nil_append, List.length_cons, List.length_nil, Nat.reduceAdd, Nat.zero_add, Nat.reduceLeDiff, true_and]
  have fm2 : on_fm I I2 := on_fm_tr (on_fm_1 f1 (by decide)) (on_fm_1 f3 (by decide))
  have suN := on_N_su suB i (by omega)
  have last : ∀ I' (x : om_V), (on_fm I2 I' ∧ om_mt I' 3 = on_N B i) → om_R sc (d + 4) 139 122 [.inr (.inl 101), .inl (i : Int), .inl (n : Int), .inl (i : Int), x] [] (om_O s q, I') Q := by
    intro I' x ⟨g1, g2⟩
    refine md_dp_p (by omega) suB rB (n - i) i x (on_N B i) I' (by omega) (by omega) (by rw [g1.2.2.1, fm2.2.2.1]; exact hB) g2 (on_N_r i) (om_su_le suN (by omega) (by omega)) (fun I3 f5 f6 => hq I3 (on_fm_tr fm2 (on_fm_tr g1 f5)) ?_)
    rw [f6]
    unfold on_tm
    rw [if_pos hs]
  have h := md_dp_s (sc := sc) (d := d) (q := q) (Q := Q) (n := n) hs (show i ≤ 4 by omega) suB rB (fun I' => on_fm I2 I' ∧ om_mt I' 3 = on_N B i) (fun I' g => last I' _ g) (fun I' x _ g => last I' x g) i 0 om_un I2 (by omega) (Or.inl rfl) (by rw [fm2.2.2.1]; exact hB) f4 (fun I' f5 f6 => ⟨f5, f6⟩)
  simpa using h
theorem md_times {sc : Int × (Int → Int)} {d : Nat} {s : Int} {q : Nat → Int} {I : Nat → Int → Int} {Q : Option om_V → om_H → Prop} {t u x : Int} (ht : 0 ≤ t ∧ t < 6) (hu : 0 ≤ u ∧ u < 6) (hx : 0 ≤ x ∧ x < 6) (htu : u ≠ t) (htx : x ≠ t) (hux : x ≠ u) {f : Int → Int} (hT : om_mt I t = on_rw 0 f) (rf : ∀ k, 0 ≤ f k ∧ f k < 31) {w : Int} (suf : ∀ k, ¬ (0 ≤ k ∧ k < w) → f k = 0) (hw : 0 ≤ w ∧ w ≤ 52) (rU : om_r31 (om_mt I u)) (suU : om_su 1 13 (om_mt I u)) (hq : ∀ I', om_f2 I I' t x → om_mt I' t = on_rw 0 (on_qm (om_mt I u 0) (fun _ => f) 0) → Q none (om_O s q, I')) : om_R sc (d + 3) 141 0 [.inr (.inl 101), .inl t, .inl u, .inl x] [] (om_O s q, I) Q := by
  simp only [x_Md_times_0, x_Md_times_1, x_Md_times_2, x_Md_times_3, rO_101, Option.toList_some, Option.toList_none, List.cons_append, List.nil_append, List.length_cons, List.length_nil, Nat.reduceAdd, Nat.zero_add, Nat.reduceLeDiff, true_and]
  refine md_copy hx ht (fun h => htx h.symm) (fun I1 f1 f2 => ?_)
  simp only [x_Md_times_6, x_Md_times_7, x_Md_times_8, rO_101, Option.toList_some, Option.toList_none, List.cons_append, List.nil_append, List.length_cons, List.length_nil, Nat.reduceAdd, Nat.zero_add, Nat.reduceLeDiff, true_and]
  refine md_wipe ht (fun I2 f3 f4 => ?_)
  have eu : om_mt I2 u = om_mt I u := by rw [f3.2 u htu, f1.2 u (fun h => hux h.symm)]
  have ex : om_mt I2 x = on_rw 0 f := by rw [f3.2 x htx, f2]; exact hT
  simp only [x_Md_times_11, x_Md_times_12, x_Md_times_13, x_Md_times_14, x_Md_times_15, x_Md_times_16, x_Md_times_17, x_Md_times_18, x_Md_times_19, rO_101, Option.toList_some, Option.toList_none, List.cons_append, List.nil_append, List.length_cons, List.length_nil, Nat.reduceAdd, Nat.zero_add, Nat.reduceLeDiff, true_and]
  have rx : om_r31 (on_rw 0 f) := by
    intro j k
    unfold on_rw
    split
    · exact rf k
    · omega
  refine md_addProduct ht (by decide) hx (by decide) hu (by decide) htx htu (by decide) (by rw [f4]; exact fun _ _ => (by decide : (0 : Int) ≤ 0 ∧ (0 : Int) < 31)) (by rw [ex]; exact rx) (by rw [eu]; exact rU) (fun I3 f5 f6 => ?_)
  rw [f4, ex, eu] at f6
  simp only [x_Md_times_22, Option.toList_some, Option.toList_none, List.cons_append, List.nil_append, List.length_cons, List.length_nil, Nat.reduceAdd, Nat.zero_add, Nat.reduceLeDiff, true_and]
  refine hq I3 (om_f2_tr (om_f2_tr (om_f2_r f1) (om_f2_l f3)) (om_f2_l f5)) ?_
  rw [← on_rw_cv]
  funext j k
  rw [f6 j k, om_cv1, Int.zero_add, Int.one_mul]
  have sux : om_su 1 w (on_rw 0 f) := by
    intro j k hno
    unfold on_rw
    split
    · exact suf k (by omega)
    · rfl
  have suq := on_qm_su (p := om_mt I u 0) (fun q hq => suU 0 q (by omega)) sux
  by_cases h : j = 0 ∧ 0 ≤ k ∧ k < 64
  · rw [if_pos h, h.1]
    rfl
  · rw [if_neg h]
    exact (suq j k (by omega)).symm
theorem md_sp_j {sc : Int × (Int → Int)} {d : Nat} {s : Int} {q : Nat → Int} {Q : Option om_V → om_H → Prop} {i n : Nat} (hs : s = 1) (hin : i ≤ n) (hn : n ≤ 4) {B : Int → Int → Int} (suB : om_su 1 13 B) (rB : om_r31 B) (K : (Nat → Int → Int) → Prop) (hK : ∀ I', K I' → om_R sc (d + 4) 140 49 [.inr (.inl 101), .inl (i : Int), .inl (n : Int), .inl ((n : Int) + 1)] [] (om_O s q, I') Q) : ∀ (m j : Nat) (I : Nat → Int → Int), j + m = n + 1 → om_mt I 2 = om_Di 1 B j → om_mt I 3 = on_rw 0 (on_S B i j) → (∀ I', on_fm I I' → om_mt I' 3 = on_rw 0 (on_S B i (n + 1)) → K I') → om_R sc (d + 4) 140 21 [.inr (.inl 101), .inl (i : Int), .inl (n : Int), .inl (j : Int)] [] (om_O s q, I) Q := by
  have shf : ∀ (j : Nat) (I : Nat → Int → Int), om_mt I 2 = om_Di 1 B j → (∀ I', om_fr I I' 2 → om_mt I' 2 = om_Di 1 B (j + 1) → om_R sc (d + 4) 140 43 [.inr (.inl 101), .inl (i : Int), .inl (n : Int), .inl (j : Int)] [] (om_O s q, I') Q) → om_R sc (d + 4) 140 38 [.inr (.inl 101), .inl (i : Int), .inl (n : Int), .inl (j : Int)] [] (om_O s q, I) Q := by
    intro j I hC hh
    simp only [x_Md_shiftedPart_38, x_Md_shiftedPart_39, x_Md_shiftedPart_40, rO_101, Option.toList_some, Option.toList_none, List.cons_append, List.nil_append, List.length_cons, List.length_nil, Nat.reduceAdd, Nat.zero_add, Nat.reduceLeDiff, true_and]
    refine md_turn (by decide) (by rw [hC]; exact om_Di_r rB j) (fun I1 f1 f2 => hh I1 f1 ?_)
    rw [hC, hs] at f2
    exact f2
  intro m
  induction m with
  | zero =>
    intro j I h1 hC hT hq
    simp only [x_Md_shiftedPart_21, x_Md_shiftedPart_22, x_Md_shiftedPart_23]
    rw [if_pos (by omega)]
    have hj : j = n + 1 := by omega
    subst hj
    have h := hK I (hq I on_fm_rf hT)
    simpa using h
  | succ m ih =>
    intro j I h1 hC hT hq
    simp only [x_Md_shiftedPart_21, x_Md_shiftedPart_22, x_Md_shiftedPart_23, x_Md_shiftedPart_26, x_Md_shiftedPart_27, x_Md_shiftedPart_28]
    rw [if_neg (by omega)]
    by_cases hji : (j : Int) = i
    · rw [if_pos hji]
      refine shf j I hC (fun I1 f1 f2 => ?_)
      simp only [x_Md_shiftedPart_43, x_Md_shiftedPart_46, Option.toList_some, Option.toList_none, List.cons_append, List.nil_append, List.length_cons, List.length_nil, Nat.reduceAdd, Nat.zero_add, Nat.reduceLeDiff, true_and]
      refine ⟨⟨by omega, by omega⟩, ?_⟩
      have h := ih (j + 1) I1 (by omega) f2 (by
        rw [f1.2 3 (by decide), hT]
        congr 1
        show _ = if (j : Int) = i then on_S B i j else on_qm (om_Di 1 B j 0) (fun _ => on_S B i j) 0
        rw [if_pos hji]) (fun I' f3 f4 => hq I' (on_fm_tr (on_fm_1 f1 (by decide)) f3) f4)
      simpa using h
    · rw [if_neg hji]
      simp only [x_Md_shiftedPart_31, x_Md_shiftedPart_32, x_Md_shiftedPart_33, x_Md_shiftedPart_34, x_Md_shiftedPart_35, rO_101, Option.toList_some, Option.toList_none, List.cons_append, List.nil_append, List.length_cons, List.length_nil, Nat.reduceAdd, Nat.zero_add, Nat.reduceLeDiff, true_and]
      have suS := on_S_su suB (i := i) (by omega) j
      refine md_times (w := 12 * on_fc i j + 1) (by decide) (by decide) (by decide) (by decide) (by decide) (by decide) hT (on_S_r j) suS (by unfold on_fc; split <;> omega) (by rw [hC]; exact om_Di_r rB j) (by rw [hC]; exact om_Di_su suB (by omega) j) (fun I1 f1 f2 => ?_)
      rw [hC] at f2
      refine shf j I1 (by rw [f1.2 2 (by decide) (by decide)]; exact hC) (fun I2 f3 f4 => ?_)
      simp only [x_Md_shiftedPart_43, x_Md_shiftedPart_46, Option.toList_some, Option.toList_none, List.cons_append, List.nil_append, List.length_cons, List.length_nil, Nat.reduceAdd, Nat.zero_add, Nat.reduceLeDiff, true_and]
      refine ⟨⟨by omega, by omega⟩, ?_⟩
      have fm1 : on_fm I I1 := ⟨f1.1, f1.2 0 (by decide) (by decide), f1.2 1 (by decide) (by decide), f1.2 5 (by decide) (by decide)⟩
      have h := ih (j + 1) I2 (by omega) f4 (by
        rw [f3.2 3 (by decide), f2]
        congr 1
        show _ = if (j : Int) = i then on_S B i j else on_qm (om_Di 1 B j 0) (fun _ => on_S B i j) 0
        rw [if_neg hji]) (fun I' f5 f6 => hq I' (on_fm_tr (on_fm_tr fm1 (on_fm_1 f3 (by decide))) f5) f6)
      simpa using h
theorem md_sp_k {sc : Int × (Int → Int)} {d : Nat} {s : Int} {q : Nat → Int} {Q : Option om_V → om_H → Prop} {i n : Int} (hi : 0 ≤ i ∧ i < 9) {f : Int → Int} (rf : ∀ k, 0 ≤ f k ∧ f k < 31) (suf : ∀ k, ¬ (0 ≤ k ∧ k < 64) → f k = 0) : ∀ (m : Nat) (k : Int) (I : Nat → Int → Int), k + m = 64 → 0 ≤ k → om_mt I 2 = on_rw 0 f → (∀ i' k', om_mt I 3 i' k' = if i' = i ∧ k' < k then f k' else 0) → (∀ I', om_fr I I' 3 → om_mt I' 3 = on_rw i f → Q none (om_O s q, I')) → om_R sc (d + 4) 140 62 [.inr (.inl 101), .inl i, .inl n, .inl k] [] (om_O s q, I) Q := by
  intro m
  induction m with
  | zero =>
    intro k I h1 h2 h2t h3 hq
    simp only [x_Md_shiftedPart_62, x_Md_shiftedPart_63, x_Md_shiftedPart_65, x_Md_shiftedPart_88]
    rw [if_pos (by omega)]
    refine hq I om_fr_rf ?_
    funext j k'
    rw [h3 j k']
    unfold on_rw
    by_cases hj : j = i
    · rw [if_pos hj]
      by_cases hk : k' < k
      · rw [if_pos ⟨hj, hk⟩]
      · rw [if_neg (fun h => hk h.2), suf k' (by omega)]
    · rw [if_neg hj, if_neg (fun h => hj h.1)]
  | succ m ih =>
    intro k I h1 h2 h2t h3 hq
    simp only [x_Md_shiftedPart_62, x_Md_shiftedPart_63, x_Md_shiftedPart_65]
    rw [if_neg (by omega)]
    simp only [x_Md_shiftedPart_68, x_Md_shiftedPart_69, x_Md_shiftedPart_70, x_Md_shiftedPart_71, x_Md_shiftedPart_72, x_Md_shiftedPart_73, x_Md_shiftedPart_74, x_Md_shiftedPart_75, x_Md_shiftedPart_76, rO_101, Option.toList_some, Option.toList_none, List.cons_append, List.nil_append, List.length_cons, List.length_nil, Nat.reduceAdd, Nat.zero_add, Nat.reduceLeDiff, true_and]
    refine md_get (by decide) (by decide) (by omega) ?_
    have e2 : om_mt I 2 0 k = f k := by rw [h2t]; unfold on_rw; rw [if_pos rfl]
    rw [e2]
    simp only [x_Md_shiftedPart_79, rO_101, Option.toList_some, Option.toList_none, List.cons_append, List.nil_append, List.length_cons, List.length_nil, Nat.reduceAdd, Nat.zero_add, Nat.reduceLeDiff, true_and]
    have r := rf k
    have e3 : om_mt I 3 i k = 0 := by rw [h3 i k, if_neg (by omega)]
    refine md_plus (by decide) hi (by omega) (by omega) (by rw [e3]; decide) (fun I1 f1 f2 => ?_)
    simp only [x_Md_shiftedPart_82, x_Md_shiftedPart_85, Option.toList_some, Option.toList_none, List.cons_append, List.nil_append, List.length_cons, List.length_nil, Nat.reduceAdd, Nat.zero_add, Nat.reduceLeDiff, true_and]
    refine ⟨⟨by omega, by omega⟩, ih _ I1 (by omega) (by omega) (by rw [f1.2 2 (by decide)]; exact h2t) (fun i' k' => ?_) (fun I' f3 f4 => hq I' (om_fr_tr f1 f3) f4)⟩
    rw [f2 i' k', e3, h3 i' k']
    by_cases hc : i' = i ∧ k' = k
    · rw [if_pos hc, if_pos (by omega), hc.2]
      omega
    · rw [if_neg hc]
      by_cases hc2 : i' = i ∧ k' < k
      · rw [if_pos hc2, if_pos (by omega)]
      · rw [if_neg hc2, if_neg (by omega)]
theorem md_shiftedPart {sc : Int × (Int → Int)} {d : Nat} {s : Int} {q : Nat → Int} {I : Nat → Int → Int} {Q : Option om_V → om_H → Prop} {i n : Nat} (hs : s = 1) (hi : i ≤ n) (hn : n ≤ 4) {B : Int → Int → Int} (suB : om_su 1 13 B) (rB : om_r31 B) (hB : om_mt I 1 = B) (hq : ∀ I', on_fm I I' → om_mt I' 3 = on_tm s B n i → Q none (om_O s q, I')) : om_R sc (d + 4) 140 0 [.inr (.inl 101), .inl (i : Int), .inl (n : Int), om_un] [] (om_O s q, I) Q := by
  simp only [x_Md_shiftedPart_0, x_Md_shiftedPart_1, x_Md_shiftedPart_2, x_Md_shiftedPart_3, rO_101, Option.toList_some, Option.toList_none, List.cons_append, List.nil_append, List.length_cons, List.length_nil, Nat.reduceAdd, Nat.zero_add, Nat.reduceLeDiff, true_and]
  refine md_copy (by decide) (by decide) (by decide) (fun I1 f1 f2 => ?_)
  rw [hB] at f2
  simp only [x_Md_shiftedPart_6, x_Md_shiftedPart_7, x_Md_shiftedPart_8, rO_101, Option.toList_some, Option.toList_none, List.cons_append, List.nil_append, List.length_cons, List.length_nil, Nat.reduceAdd, Nat.zero_add, Nat.reduceLeDiff, true_and]
  refine md_wipe (by decide) (fun I2 f3 f4 => ?_)
  simp only [x_Md_shiftedPart_11, x_Md_shiftedPart_12, x_Md_shiftedPart_13, x_Md_shiftedPart_14, x_Md_shiftedPart_15, x_Md_shiftedPart_16, rO_101, Option.toList_some, Option.toList_none, List.cons_append, List.nil_append, List.length_cons, List.length_nil, Nat.reduceAdd, Nat.zero_add, Nat.reduceLeDiff, true_and]
  refine md_one (by decide) f4 (fun I3 f5 f6 => ?_)
  simp only [x_Md_shiftedPart_19, x_Md_shiftedPart_20, Option.toList_some, Option.toList_none, List.cons_append, List.nil_append, List.length_cons, List.length_nil, Nat.reduceAdd, Nat.zero_add, Nat.reduceLeDiff, true_and]
  have fm3 : on_fm I I3 := on_fm_tr (on_fm_tr (on_fm_1 f1 (by decide)) (on_fm_1 f3 (by decide))) (on_fm_1 f5 (by decide))
  have h := md_sp_j (sc := sc) (d := d) (q := q) (Q := Q) hs hi hn suB rB (fun I' => on_fm I3 I' ∧ om_mt I' 3 = on_rw 0 (on_S B i (n + 1))) (fun I4 ⟨g1, g2⟩ => ?_) (n + 1) 0 I3 (by omega) (by rw [f5.2 2 (by decide), f3.2 2 (by decide)]; exact f2) (by
    rw [f6]
    funext j k
    show (if j = 0 ∧ k = 0 then (1 : Int) else 0) = if j = 0 then (if (0 : Int) = 0 ∧ k = 0 then 1 else 0) else 0
    by_cases hj : j = 0
    · rw [if_pos hj]
      by_cases hk : k = 0
      · rw [if_pos ⟨hj, hk⟩, if_pos ⟨rfl, hk⟩]
      · rw [if_neg (fun h => hk h.2), if_neg (fun h => hk h.2)]
    · rw [if_neg hj, if_neg (fun h => hj h.1)]) (fun I' f7 f8 => ⟨f7, f8⟩)
  · simpa using h
  · simp only [x_Md_shiftedPart_49, x_Md_shiftedPart_50, x_Md_shiftedPart_51, x_Md_shiftedPart_52, rO_101, Option.toList_some, Option.toList_none, List.cons_append, List.nil_append, List.length_cons, List.length_nil, Nat.reduceAdd, Nat.zero_add, Nat.reduceLeDiff, true_and]
    refine md_copy (by decide) (by decide) (by decide) (fun I5 f7 f8 => ?_)
    rw [g2] at f8
    simp only [x_Md_shiftedPart_55, x_Md_shiftedPart_56, x_Md_shiftedPart_57, rO_101, Option.toList_some, Option.toList_none, List.cons_append, List.nil_append, List.length_cons, List.length_nil, Nat.reduceAdd, Nat.zero_add, Nat.reduceLeDiff, true_and]
    refine md_wipe (by decide) (fun I6 f9 f10 => ?_)
    simp only [x_Md_shiftedPart_60, x_Md_shiftedPart_61, Option.toList_some, Option.toList_none, List.cons_append, List.nil_append, List.length_cons, List.length_nil, Nat.reduceAdd, Nat.zero_add, Nat.reduceLeDiff, true_and]
    have fm6 : on_fm I I6 := on_fm_tr (on_fm_tr fm3 g1) (on_fm_tr (on_fm_1 f7 (by decide)) (on_fm_1 f9 (by decide)))
    have suS := on_S_su suB (i := i) (by omega) (n + 1)
    refine md_sp_k (by omega) (on_S_r (n + 1)) (fun k hk => suS k (by unfold on_fc; split <;> omega)) 64 0 I6 (by omega) (by omega) (by rw [f9.2 2 (by decide)]; exact f8) (fun i' k' => ?_) (fun I' f11 f12 => hq I' (on_fm_tr fm6 (on_fm_1 f11 (by decide))) ?_)
    · rw [f10]
      split
      · rename_i hh
        exact (suS k' (by omega)).symm
      · rfl
    · rw [f12]
      unfold on_tm
      rw [if_neg (by omega)]
theorem md_ov_i {sc : Int × (Int → Int)} {d : Nat} {s : Int} {q : Nat → Int} {Q : Option om_V → om_H → Prop} {to a b : Int} {n : Nat} (hs : s = 0 ∨ s = 1) (hn : n ≤ 4) {A B : Int → Int → Int} (suA : om_su 5 13 A) (rA : om_r31 A) (suB : om_su 1 13 B) (rB : om_r31 B) (K : (Nat → Int → Int) → Prop) (hK : ∀ I' x, K I' → om_R sc (d + 5) 138 135 [.inr (.inl 101), .inl to, .inl a, .inl b, .inl (n : Int), .inl ((n : Int) + 1), x] [] (om_O s q, I') Q) : ∀ (m i : Nat) (x : om_V) (I : Nat → Int → Int), i + m = n + 1 → om_mt I 0 = A → om_mt I 1 = B → om_mt I 5 = on_ov s A B n i → (∀ I', (∀ b, b ≠ 103 → I' b = I b) → om_mt I' 5 = on_ov s A B n (n + 1) → K I') → om_R sc (d + 5) 138 66 [.inr (.inl 101), .inl to, .inl a, .inl b, .inl (n : Int), .inl (i : Int), x] [] (om_O s q, I) Q := by
  intro m
  induction m with
  | zero =>
    intro i x I h1 hA hB hR hq
    simp only [x_Md_over_66, x_Md_over_68, x_Md_over_70]
    rw [if_pos (by omega)]
    have hi : i = n + 1 := by omega
    subst hi
    have h := hK I x (hq I (fun _ _ => rfl) hR)
    simpa using h
  | succ m ih =>
    intro i x I h1 hA hB hR hq
    simp only [x_Md_over_66, x_Md_over_68, x_Md_over_70]
    rw [if_neg (by omega)]
    have suM := on_tm_su (s := s) suB (show i ≤ n by omega) hn
    have rest : ∀ I1, on_fm I I1 → om_mt I1 3 = on_tm s B n i → om_R sc (d + 5) 138 99 [.inr (.inl 101), .inl to, .inl a, .inl b, .inl (n : Int), .inl (i : Int), x] [] (om_O s q, I1) Q := by
      intro I1 fm1 e3
      simp only [x_Md_over_99, x_Md_over_100, Option.toList_some, Option.toList_none, List.cons_append, List.nil_append, List.length_cons, List.length_nil, Nat.reduceAdd, Nat.zero_add, Nat.reduceLeDiff, true_and]
      refine md_ov_d (d := d + 2) (by omega) (R := on_ov s A B n i) (on_ov_r i) (om_su_le (on_ov_su suA suB hn i (by omega)) (by omega) (by omega)) on_tm_r rA (fun I2 => om_fr I1 I2 5 ∧ om_mt I2 5 = on_ov s A B n (i + 1)) (fun I2 ⟨g1, g2⟩ => ?_) 9 0 I1 (by omega) (by omega) e3 (by rw [fm1.2.1]; exact hA) (fun j' k' => by rw [fm1.2.2.2, hR, if_neg (by omega)]) (fun I2 f1 f2 => ⟨f1, ?_⟩)
      · simp only [x_Md_over_129, x_Md_over_132, Option.toList_some, Option.toList_none, List.cons_append, List.nil_append, List.length_cons, List.length_nil, Nat.reduceAdd, Nat.zero_add, Nat.reduceLeDiff, true_and]
        refine ⟨⟨by omega, by omega⟩, ?_⟩
        have h := ih (i + 1) (.inl 9) I2 (by omega) (by rw [g1.2 0 (by decide), fm1.2.1]; exact hA) (by rw [g1.2 1 (by decide), fm1.2.2.1]; exact hB) g2 (fun I' f3 f4 => hq I' (fun b hb => by rw [f3 b hb, g1.1 b hb, fm1.1 b hb]) f4)
        simpa using h
      · funext j k
        rw [f2 j k]
        split
        · rw [Int.one_mul]
          rfl
        · rename_i hno
          exact (on_ov_su suA suB hn (i + 1) (by omega) j k (by omega)).symm
    rcases hs with hs0 | hs1
    · subst hs0
      simp only [x_Md_over_73, x_Md_over_74, x_Md_over_77, x_Md_over_80, x_Md_over_81, x_Md_over_83, x_Md_over_85, gO_101_0, rO_101, Option.toList_some, Option.toList_none, List.cons_append, List.nil_append, List.length_cons, List.length_nil, Nat.reduceAdd, Nat.zero_add, Nat.reduceLeDiff, true_and, if_true, if_neg (show ¬ (1 : Int) = 0 by decide)]
      refine md_derivedPart rfl (by omega) hn suB rB hB (fun I1 f1 f2 => ?_)
      simp only [x_Md_over_88, Option.toList_some, Option.toList_none, List.cons_append, List.nil_append, List.length_cons, List.length_nil, Nat.reduceAdd, Nat.zero_add, Nat.reduceLeDiff, true_and]
      exact rest I1 f1 f2
    · subst hs1
      simp only [x_Md_over_73, x_Md_over_74, x_Md_over_77, x_Md_over_91, x_Md_over_92, x_Md_over_94, x_Md_over_96, gO_101_0, rO_101, Option.toList_some, Option.toList_none, List.cons_append, List.nil_append, List.length_cons, List.length_nil, Nat.reduceAdd, Nat.zero_add, Nat.reduceLeDiff, true_and, if_true, if_neg (show ¬ (1 : Int) = 0 by decide)]
      refine md_shiftedPart rfl (by omega) hn suB rB hB (fun I1 f1 f2 => ?_)
      exact rest I1 f1 f2
def on_oc (A B : Int → Int → Int) : Prop := om_or 5 13 B = 0 ∧ 0 ≤ om_or 5 13 A
def on_oR (s : Int) (A B : Int → Int → Int) : Int → Int → Int := on_ov s A B (om_or 5 13 A).toNat ((om_or 5 13 A).toNat + 1)
theorem md_over {sc : Int × (Int → Int)} {d : Nat} {s : Int} {q : Nat → Int} {I : Nat → Int → Int} {Q : Option om_V → om_H → Prop} {to a b : Int} (hs : s = 0 ∨ s = 1) (rA : ∀ r, 0 ≤ r → r < 8 → om_r31 (om_hd I r)) (h0 : ¬ ((0 ≤ to ∧ to < 8) ∧ (0 ≤ a ∧ a < 8) ∧ (0 ≤ b ∧ b < 8)) → Q (some (.inl (-1))) (om_O s q, I)) (h5 : (0 ≤ to ∧ to < 8) ∧ (0 ≤ a ∧ a < 8) ∧ (0 ≤ b ∧ b < 8) → ¬ on_oc (om_hd I a) (om_hd I b) → ∀ I', (∀ b, b ≠ 103 → I' b = I b) → Q (some (.inl (-5))) (om_O s q, I')) (hl : (0 ≤ to ∧ to < 8) ∧ (0 ≤ a ∧ a < 8) ∧ (0 ≤ b ∧ b < 8) → on_oc (om_hd I a) (om_hd I b) → ¬ om_ft (on_oR s (om_hd I a) (om_hd I b)) → ∀ I', (∀ b, b ≠ 103 → I' b = I b) → Q (some (.inl (-3))) (om_O s q, I')) (h1 : (0 ≤ to ∧ to < 8) ∧ (0 ≤ a ∧ a < 8) ∧ (0 ≤ b ∧ b < 8) → on_oc (om_hd I a) (om_hd I b) → om_ft (on_oR s (om_hd I a) (om_hd I b)) → ∀ I', (∀ b, b ≠ 103 → b ≠ 102 → I' b = I b) → (∀ h', h' ≠ to → om_hd I' h' = om_hd I h') → om_hd I' to = on_oR s (om_hd I a) (om_hd I b) → Q (some (.inl (om_or 5 61 (on_oR s (om_hd I a) (om_hd I b))))) (om_O s q, I')) : om_R sc (d + 6) 138 0 [.inr (.inl 101), .inl to, .inl a, .inl b, om_un, om_un, om_un] [] (om_O s q, I) Q := by
  have n10 : ¬ (1 : Int) = 0 := by decide
  simp only [x_Md_over_0, x_Md_over_1, Option.toList_some, Option.toList_none, List.cons_append, List.nil_append, List.length_cons, List.length_nil, Nat.reduceAdd, Nat.zero_add, Nat.reduceLeDiff, true_and]
  refine md_isRegister (fun r1 => ?_) (fun r1 => ?_)
  · simp only [x_Md_over_4, x_Md_over_7, x_Md_over_8, Option.toList_some, Option.toList_none, List.cons_append, List.nil_append, List.length_cons, List.length_nil, Nat.reduceAdd, Nat.zero_add, Nat.reduceLeDiff, true_and, if_neg n10]
    refine md_isRegister (fun r2 => ?_) (fun r2 => ?_)
    · simp only [x_Md_over_11, x_Md_over_14, x_Md_over_15, Option.toList_some, Option.toList_none, List.cons_append, List.nil_append, List.length_cons, List.length_nil, Nat.reduceAdd, Nat.zero_add, Nat.reduceLeDiff, true_and, if_neg n10]
      refine md_isRegister (fun r3 => ?_) (fun r3 => ?_)
      · have hc := And.intro r1 (And.intro r2 r3)
        simp only [x_Md_over_18, x_Md_over_21, x_Md_over_22, x_Md_over_23, x_Md_over_24, x_Md_over_25, Option.toList_some, Option.toList_none, List.cons_append, List.nil_append, List.length_cons, List.length_nil, Nat.reduceAdd, Nat.zero_add, Nat.reduceLeDiff, true_and, if_neg n10, rO_101]
        refine md_order (fun h => absurd r2 h) (fun _ I1 f1 => ?_)
        simp only [x_Md_over_28, x_Md_over_30, x_Md_over_31, x_Md_over_32, Option.toList_some, Option.toList_none, List.cons_append, List.nil_append, List.length_cons, List.length_nil, Nat.reduceAdd, Nat.zero_add, Nat.reduceLeDiff, true_and, rO_101]
        refine md_order (fun h => absurd r3 h) (fun _ I2 f2 => ?_)
        rw [om_fr_hd f1]
        have fr2 : ∀ b, b ≠ 103 → I2 b = I b := fun b hb => by rw [f2.1 b hb, f1.1 b hb]
        have ob := om_or_b (A := om_hd I a)
        simp only [x_Md_over_35, Option.toList_some, Option.toList_none, List.cons_append, List.nil_append, List.length_cons, List.length_nil, Nat.reduceAdd, Nat.zero_add, Nat.reduceLeDiff, true_and]
        by_cases ho : om_or 5 13 (om_hd I b) = 0
        · rw [if_pos ho]
          simp only [x_Md_over_38, x_Md_over_40, Option.toList_some, Option.toList_none, List.cons_append, List.nil_append, List.length_cons, List.length_nil, Nat.reduceAdd, Nat.zero_add, Nat.reduceLeDiff, true_and]
          by_cases ha : 0 ≤ om_or 5 13 (om_hd I a)
          · have hoc : on_oc (om_hd I a) (om_hd I b) := ⟨ho, ha⟩
            have suB := om_or_0 (om_hd_su (I := I) (h := b)) (by omega)
            rw [if_pos ha]
            simp only [x_Md_over_46, x_Md_over_47, x_Md_over_48, x_Md_over_49, Option.toList_some, Option.toList_none, List.cons_append, List.nil_append, List.length_cons, List.length_nil, Nat.reduceAdd, Nat.zero_add, Nat.reduceLeDiff, true_and, rO_101]
            refine md_load (by decide) (by omega) (fun I3 f3 f4 => ?_)
            simp only [x_Md_over_52, x_Md_over_53, x_Md_over_54, x_Md_over_55, Option.toList_some, Option.toList_none, List.cons_append, List.nil_append, List.length_cons, List.length_nil, Nat.reduceAdd, Nat.zero_add, Nat.reduceLeDiff, true_and, rO_101]
            refine md_load (by decide) (by omega) (fun I4 f5 f6 => ?_)
            simp only [x_Md_over_58, x_Md_over_59, x_Md_over_60, Option.toList_some, Option.toList_none, List.cons_append, List.nil_append, List.length_cons, List.length_nil, Nat.reduceAdd, Nat.zero_add, Nat.reduceLeDiff, true_and, rO_101]
            refine md_wipe (by decide) (fun I5 f7 f8 => ?_)
            simp only [x_Md_over_63, x_Md_over_64, Option.toList_some, Option.toList_none, List.cons_append, List.nil_append, List.length_cons, List.length_nil, Nat.reduceAdd, Nat.zero_add, Nat.reduceLeDiff, true_and]
            have e0 : om_mt I5 0 = om_hd I a := by rw [f7.2 0 (by decide), f5.2 0 (by decide), f4, om_fr_hd f2, om_fr_hd f1]
            have e1 : om_mt I5 1 = om_hd I b := by rw [f7.2 1 (by decide), f6, om_fr_hd f3, om_fr_hd f2, om_fr_hd f1]
            have fr5 : ∀ b, b ≠ 103 → I5 b = I b := fun b hb => by rw [f7.1 b hb, f5.1 b hb, f3.1 b hb, fr2 b hb]
            have en : (((om_or 5 13 (om_hd I a)).toNat : Nat) : Int) = om_or 5 13 (om_hd I a) := by omega
            have h := md_ov_i (sc := sc) (d := d + 1) (q := q) (Q := Q) (to := to) (a := a) (b := b) (n := (om_or 5 13 (om_hd I a)).toNat) hs (by omega) om_hd_su (rA a r2.1 r2.2) suB (rA b r3.1 r3.2) (fun I6 => (∀ b, b ≠ 103 → I6 b = I b) ∧ om_mt I6 5 = on_oR s (om_hd I a) (om_hd I b)) (fun I6 x ⟨g1, g2⟩ => ?_) ((om_or 5 13 (om_hd I a)).toNat + 1) 0 om_un I5 (by omega) e0 e1 (by rw [f8]; rfl) (fun I6 f9 f10 => ⟨fun b hb => by rw [f9 b hb, fr5 b hb], f10⟩)
            · rw [en] at h
              simpa using h
            · have eh : om_hd I6 = om_hd I := by
                funext h i k
                unfold om_hd
                rw [g1 102 (by decide)]
              simp only [x_Md_over_135, x_Md_over_136, x_Md_over_137, x_Md_over_138, Option.toList_some, Option.toList_none, List.cons_append, List.nil_append, List.length_cons, List.length_nil, Nat.reduceAdd, Nat.zero_add, Nat.reduceLeDiff, true_and, rO_101]
              refine md_keep (by decide) (by omega) (fun hf => ?_) (fun hf I7 f9 f10 => ?_)
              · simp only [x_Md_over_141, x_Md_over_143, x_Md_over_145, x_Md_over_148, x_Md_over_150, x_Md_over_158, Option.toList_some, Option.toList_none, List.cons_append, List.nil_append, List.length_cons, List.length_nil, Nat.reduceAdd, Nat.zero_add, Nat.reduceLeDiff, true_and]
                rw [if_neg (by decide)]
                exact hl hc hoc (by rw [g2] at hf; exact hf) I6 g1
              · simp only [x_Md_over_141, x_Md_over_143, x_Md_over_145, x_Md_over_148, x_Md_over_150, x_Md_over_153, x_Md_over_154, x_Md_over_155, Option.toList_some, Option.toList_none, List.cons_append, List.nil_append, List.length_cons, List.length_nil, Nat.reduceAdd, Nat.zero_add, Nat.reduceLeDiff, true_and, rO_101]
                rw [if_pos (by decide)]
                refine md_orderOf (by decide) ?_
                rw [om_fh_mt f9, g2]
                have su61 : om_su 5 61 (on_oR s (om_hd I a) (om_hd I b)) := on_ov_su om_hd_su suB (by omega) _ (Nat.le_refl _)
                rw [om_or_e su61 (by decide) (by decide) (by decide)]
                simp only [x_Md_over_158, Option.toList_some, Option.toList_none, List.cons_append, List.nil_append, List.length_cons, List.length_nil, Nat.reduceAdd, Nat.zero_add, Nat.reduceLeDiff, true_and]
                refine h1 hc hoc (by rw [g2] at hf; exact hf) I7 (fun b b1 b2 => by rw [f9.1 b b2, g1 b b1]) (fun h' hh => by rw [f9.2 h' hh, eh]) (by rw [f10, g2])
          · rw [if_neg ha]
            simp only [x_Md_over_43, x_Md_over_45]
            exact h5 hc (fun h => ha h.2) I2 fr2
        · rw [if_neg ho]
          simp only [x_Md_over_43, x_Md_over_45]
          exact h5 hc (fun h => ho h.1) I2 fr2
      · simp only [x_Md_over_18, x_Md_over_21, x_Md_over_22, Option.toList_some, Option.toList_none, List.cons_append, List.nil_append, List.length_cons, List.length_nil, Nat.reduceAdd, Nat.zero_add, Nat.reduceLeDiff, true_and, if_true]
        exact h0 (fun h => r3 h.2.2)
    · simp only [x_Md_over_11, x_Md_over_14, x_Md_over_15, x_Md_over_18, x_Md_over_21, x_Md_over_22, Option.toList_some, Option.toList_none, List.cons_append, List.nil_append, List.length_cons, List.length_nil, Nat.reduceAdd, Nat.zero_add, Nat.reduceLeDiff, true_and, if_true]
      exact h0 (fun h => r2 h.2.1)
  · simp only [x_Md_over_4, x_Md_over_7, x_Md_over_8, x_Md_over_11, x_Md_over_14, x_Md_over_15, x_Md_over_18, x_Md_over_21, x_Md_over_22, Option.toList_some, Option.toList_none, List.cons_append, List.nil_append, List.length_cons, List.length_nil, Nat.reduceAdd, Nat.zero_add, Nat.reduceLeDiff, true_and, if_true]
    exact h0 (fun h => r1 h.1)
theorem or_over {sc : Int × (Int → Int)} {d : Nat} {s : Int} {q : Nat → Int} {I : Nat → Int → Int} {Q : Option om_V → om_H → Prop} {to a b : Int} (hs : s = 0 ∨ s = 1) (rA : ∀ r, 0 ≤ r → r < 8 → om_r31 (om_cr I r)) (h0 : ¬ ((0 ≤ to ∧ to < 8) ∧ (0 ≤ a ∧ a < 8) ∧ (0 ≤ b ∧ b < 8)) → Q (some (.inl (-1))) (om_O s q, I)) (h5 : (0 ≤ to ∧ to < 8) ∧ (0 ≤ a ∧ a < 8) ∧ (0 ≤ b ∧ b < 8) → ¬ on_oc (om_cr I a) (om_cr I b) → Q (some (.inl (-5))) (om_O s q, I)) (hl : (0 ≤ to ∧ to < 8) ∧ (0 ≤ a ∧ a < 8) ∧ (0 ≤ b ∧ b < 8) → on_oc (om_cr I a) (om_cr I b) → ¬ om_ft (on_oR s (om_cr I a) (om_cr I b)) → ∀ I', on_ff I I' → Q (some (.inl (-3))) (om_O s q, I')) (h1 : (0 ≤ to ∧ to < 8) ∧ (0 ≤ a ∧ a < 8) ∧ (0 ≤ b ∧ b < 8) → on_oc (om_cr I a) (om_cr I b) → om_ft (on_oR s (om_cr I a) (om_cr I b)) → ∀ I', (∀ b, b ≠ om_ca to → b < 79 ∨ 88 < b → I' b = I b) → om_cr I' to = on_oR s (om_cr I a) (om_cr I b) → Q (some (.inl (om_or 5 61 (on_oR s (om_cr I a) (om_cr I b))))) (om_O s q, I')) : om_R sc (d + 6) 62 0 [.inr (.inl 0), .inl to, .inl a, .inl b, om_un, om_un] [] (om_O s q, I) Q := by
  have n10 : ¬ (1 : Int) = 0 := by decide
  simp only [x_Or_over_0, x_Or_over_1, x_Or_over_2, x_Or_over_3, Option.toList_some, Option.toList_none, List.cons_append, List.nil_append, List.length_cons, List.length_nil, Nat.reduceAdd, Nat.zero_add, Nat.reduceLeDiff, true_and]
  refine or_areRegisters (fun hr => ?_) (fun hr => ?_)
  · have gb := (om_op_g (or_reg (s := s) (q := q) hr.2.2)).2.2.2
    have ga := (om_op_g (or_reg (s := s) (q := q) hr.2.1)).2.2.2
    simp only [x_Or_over_6, x_Or_over_9, x_Or_over_10, x_Or_over_11, x_Or_over_12, x_Or_over_15, x_Or_over_16, x_Or_over_17, Option.toList_some, Option.toList_none, List.cons_append, List.nil_append, List.length_cons, List.length_nil, Nat.reduceAdd, Nat.zero_add, Nat.reduceLeDiff, true_and, if_neg n10, gO_0_0, kO_reg hr.2.2.1 hr.2.2.2, gb]
    refine op_topOrder (or_reg hr.2.2) ?_
    have eB : om_tb 5 13 (I (om_ca b)) = om_cr I b := rfl
    have eA : om_tb 5 13 (I (om_ca a)) = om_cr I a := rfl
    rw [eB]
    simp only [x_Or_over_20, Option.toList_some, Option.toList_none, List.cons_append, List.nil_append, List.length_cons, List.length_nil, Nat.reduceAdd, Nat.zero_add, Nat.reduceLeDiff, true_and]
    by_cases ho : om_or 5 13 (om_cr I b) = 0
    · rw [if_pos ho]
      simp only [x_Or_over_23, x_Or_over_24, x_Or_over_27, x_Or_over_28, x_Or_over_29, Option.toList_some, Option.toList_none, List.cons_append, List.nil_append, List.length_cons, List.length_nil, Nat.reduceAdd, Nat.zero_add, Nat.reduceLeDiff, true_and, gO_0_0, kO_reg hr.2.1.1 hr.2.1.2, ga]
      refine op_topOrder (or_reg hr.2.1) ?_
      rw [eA]
      simp only [x_Or_over_32, Option.toList_some, Option.toList_none, List.cons_append, List.nil_append, List.length_cons, List.length_nil, Nat.reduceAdd, Nat.zero_add, Nat.reduceLeDiff, true_and]
      by_cases ha : 0 ≤ om_or 5 13 (om_cr I a)
      · have hoc : on_oc (om_cr I a) (om_cr I b) := ⟨ho, ha⟩
        have suB := om_or_0 (om_cr_su (I := I) (r := b)) (by omega)
        rw [if_pos ha]
        simp only [x_Or_over_38, x_Or_over_39, x_Or_over_42, x_Or_over_43, x_Or_over_46, x_Or_over_47, x_Or_over_48, x_Or_over_49, x_Or_over_52, x_Or_over_53, x_Or_over_54, Option.toList_some, Option.toList_none, List.cons_append, List.nil_append, List.length_cons, List.length_nil, Nat.reduceAdd, Nat.zero_add, Nat.reduceLeDiff, true_and, gO_0_0, gO_0_4, kO_reg hr.2.1.1 hr.2.1.2, kO_reg hr.2.2.1 hr.2.2.2, rO_78]
        refine fr_clear (n := (om_or 5 13 (om_cr I a)).toNat) (or_reg hr.2.1) (by unfold om_ca; omega) (or_reg hr.2.2) (by unfold om_ca; omega) hs (by omega) om_cr_su (rA a hr.2.1.1 hr.2.1.2) suB (rA b hr.2.2.1 hr.2.2.2) rfl rfl (fun I1 f1 f2 => ?_)
        have f2' : om_tb 5 61 (I1 80) = on_oR s (om_cr I a) (om_cr I b) := f2
        simp only [x_Or_over_57, x_Or_over_59, x_Or_over_60, x_Or_over_61, x_Or_over_63, Option.toList_some, Option.toList_none, List.cons_append, List.nil_append, List.length_cons, List.length_nil, Nat.reduceAdd, Nat.zero_add, Nat.reduceLeDiff, true_and, rO_0]
        refine or_store hr.1 oO_79 (by decide) (fun hf => ?_) (fun hf I2 f3 f4 => ?_)
        · simp only [x_Or_over_66, x_Or_over_68, x_Or_over_70, x_Or_over_73, x_Or_over_75, x_Or_over_83, Option.toList_some, Option.toList_none, List.cons_append, List.nil_append, List.length_cons, List.length_nil, Nat.reduceAdd, Nat.zero_add, Nat.reduceLeDiff, true_and]
          rw [if_neg (by decide)]
          exact hl hr hoc (by rw [f2'] at hf; exact hf) I1 f1
        · have gr := (om_op_g (oO_79 (s := s) (q := q))).2.2.2
          simp only [x_Or_over_66, x_Or_over_68, x_Or_over_70, x_Or_over_73, x_Or_over_75, x_Or_over_78, x_Or_over_80, Option.toList_some, Option.toList_none, List.cons_append, List.nil_append, List.length_cons, List.length_nil, Nat.reduceAdd, Nat.zero_add, Nat.reduceLeDiff, true_and, if_true, gr]
          refine op_topOrder oO_79 ?_
          rw [f3 80 (by unfold om_ca; omega), f2']
          simp only [x_Or_over_83, Option.toList_some, Option.toList_none, List.cons_append, List.nil_append, List.length_cons, List.length_nil, Nat.reduceAdd, Nat.zero_add, Nat.reduceLeDiff, true_and]
          refine h1 hr hoc (by rw [f2'] at hf; exact hf) I2 (fun b b1 b2 => by rw [f3 b b1, f1 b b2]) (by rw [f4, f2'])
      · rw [if_neg ha]
        simp only [x_Or_over_35, x_Or_over_37]
        exact h5 hr (fun h => ha h.2)
    · rw [if_neg ho]
      simp only [x_Or_over_35, x_Or_over_37]
      exact h5 hr (fun h => ho h.1)
  · simp only [x_Or_over_6, x_Or_over_9, x_Or_over_10, Option.toList_some, Option.toList_none, List.cons_append, List.nil_append, List.length_cons, List.length_nil, Nat.reduceAdd, Nat.zero_add, Nat.reduceLeDiff, true_and, if_true]
    exact h0 hr
