/-! the reference's isSum -/
def ox_ty (q : Nat → Int) (I : Nat → Int → Int) (c : Int → Int) (n : Int) : Prop := q 7 = n ∧ ∀ k : Int, 0 ≤ k → k < n → I 104 k = c k
theorem md_at0 {sc : Int × (Int → Int)} {d : Nat} {s : Int} {q : Nat → Int} {I : Nat → Int → Int} {Q : Option om_V → om_H → Prop} {c : Int → Int} {n i : Int} (hc : ox_cc c n) (hT : ox_ty q I c n) (h0 : 0 ≤ i) (hq : Q (some (.inl (c i))) (om_O s q, I)) : om_R sc d 102 0 [.inr (.inl 101), .inl i] [] (om_O s q, I) Q := by
  have b1 := hc.1
  simp only [x_Md_at0_0, x_Md_at0_1, x_Md_at0_2, x_Md_at0_5, gO_101_3, hT.1, Option.toList_some, Option.toList_none, List.cons_append, List.nil_append, List.length_cons, List.length_nil, Nat.reduceAdd, Nat.zero_add, Nat.reduceLeDiff, true_and]
  by_cases hi : n ≤ i
  · rw [if_pos hi]
    rw [hc.2.1 i hi] at hq
    simp only [x_Md_at0_17, x_Md_at0_18, Option.toList_some, Option.toList_none, List.cons_append, List.nil_append, List.length_cons, List.length_nil, Nat.reduceAdd, Nat.zero_add, Nat.reduceLeDiff, true_and]
    exact hq
  · rw [if_neg hi]
    simp only [x_Md_at0_8, x_Md_at0_9, x_Md_at0_12, x_Md_at0_13, x_Md_at0_14, x_Md_at0_18, gO_101_4, aO_104, hT.2 i h0 (by omega), Option.toList_some, Option.toList_none, List.cons_append, List.nil_append, List.length_cons, List.length_nil, Nat.reduceAdd, Nat.zero_add, Nat.reduceLeDiff, true_and]
    exact ⟨by omega, hq⟩
theorem md_isDigit {sc : Int × (Int → Int)} {d : Nat} {s : Int} {q : Nat → Int} {I : Nat → Int → Int} {Q : Option om_V → om_H → Prop} {c : Int → Int} {n i : Int} (hc : ox_cc c n) (hT : ox_ty q I c n) (h0 : 0 ≤ i) (hd : ox_dg (c i) → Q (some (.inl 1)) (om_O s q, I)) (hn : ¬ ox_dg (c i) → Q (some (.inl 0)) (om_O s q, I)) : om_R sc (d + 1) 101 0 [.inr (.inl 101), .inl i] [] (om_O s q, I) Q := by
  simp only [x_Md_isDigit_0, x_Md_isDigit_1, x_Md_isDigit_2, rO_101, Option.toList_some, Option.toList_none, List.cons_append, List.nil_append, List.length_cons, List.length_nil, Nat.reduceAdd, Nat.zero_add, Nat.reduceLeDiff, true_and]
  refine md_at0 hc hT h0 ?_
  simp only [x_Md_isDigit_5, x_Md_isDigit_7, Option.toList_some, Option.toList_none, List.cons_append, List.nil_append, List.length_cons, List.length_nil, Nat.reduceAdd, Nat.zero_add, Nat.reduceLeDiff, true_and]
  by_cases q1 : c i < 48
  · rw [if_pos q1]
    simp only [x_Md_isDigit_24, x_Md_isDigit_25]
    exact ⟨by decide, hn (by omega)⟩
  · rw [if_neg q1]
    simp only [x_Md_isDigit_10, x_Md_isDigit_11, x_Md_isDigit_12, rO_101, Option.toList_some, Option.toList_none, List.cons_append, List.nil_append, List.length_cons, List.length_nil, Nat.reduceAdd, Nat.zero_add, Nat.reduceLeDiff, true_and]
    refine md_at0 hc hT h0 ?_
    simp only [x_Md_isDigit_15, x_Md_isDigit_17, x_Md_isDigit_20, x_Md_isDigit_21, x_Md_isDigit_24, x_Md_isDigit_25, Option.toList_some, Option.toList_none, List.cons_append, List.nil_append, List.length_cons, List.length_nil, Nat.reduceAdd, Nat.zero_add, Nat.reduceLeDiff, true_and]
    by_cases q2 : 57 < c i
    · rw [if_pos q2]
      exact ⟨by decide, hn (by omega)⟩
    · rw [if_neg q2]
      exact ⟨by decide, hd (by omega)⟩
theorem md_ne_l {sc : Int × (Int → Int)} {d : Nat} {s : Int} {q : Nat → Int} {I : Nat → Int → Int} {Q : Option om_V → om_H → Prop} {c : Int → Int} {n i0 : Int} (hc : ox_cc c n) (hT : ox_ty q I c n) : ∀ (f : Nat) (i : Int), 0 ≤ i → i ≤ n → n ≤ f + i → Q (some (.inl (ox_de c f i))) (om_O s q, I) → om_R sc (d + 2) 103 2 [.inr (.inl 101), .inl i0, .inl i] [] (om_O s q, I) Q := by
  have n10 : ¬ (1 : Int) = 0 := by decide
  have b1 := hc.1
  intro f
  induction f with
  | zero =>
    intro i h0 h1 h2 hq
    simp only [x_Md_numberEnd_2, x_Md_numberEnd_3, x_Md_numberEnd_4, rO_101, Option.toList_some, Option.toList_none, List.cons_append, List.nil_append, List.length_cons, List.length_nil, Nat.reduceAdd, Nat.zero_add, Nat.reduceLeDiff, true_and]
    refine md_isDigit hc hT h0 (fun hd => ?_) (fun hd => ?_)
    · have := hc.2.1 i (by omega)
      omega
    · simp only [x_Md_numberEnd_7, x_Md_numberEnd_10, x_Md_numberEnd_13, x_Md_numberEnd_16, x_Md_numberEnd_17, Option.toList_some, Option.toList_none, List.cons_append, List.nil_append, List.length_cons, List.length_nil, Nat.reduceAdd, Nat.zero_add, Nat.reduceLeDiff, true_and, if_true]
      exact hq
  | succ f ih =>
    intro i h0 h1 h2 hq
    simp only [x_Md_numberEnd_2, x_Md_numberEnd_3, x_Md_numberEnd_4, rO_101, Option.toList_some, Option.toList_none, List.cons_append, List.nil_append, List.length_cons, List.length_nil, Nat.reduceAdd, Nat.zero_add, Nat.reduceLeDiff, true_and]
    unfold ox_de at hq
    refine md_isDigit hc hT h0 (fun hd => ?_) (fun hd => ?_)
    · rw [if_pos hd] at hq
      have lt := ox_lt (k := i) hc (by omega)
      simp only [x_Md_numberEnd_7, x_Md_numberEnd_10, x_Md_numberEnd_13, Option.toList_some, Option.toList_none, List.cons_append, List.nil_append, List.length_cons, List.length_nil, Nat.reduceAdd, Nat.zero_add, Nat.reduceLeDiff, true_and, if_neg n10]
      exact ⟨⟨by omega, by omega⟩, ih _ (by omega) (by omega) (by omega) hq⟩
    · rw [if_neg hd] at hq
      simp only [x_Md_numberEnd_7, x_Md_numberEnd_10, x_Md_numberEnd_13, x_Md_numberEnd_16, x_Md_numberEnd_17, Option.toList_some, Option.toList_none, List.cons_append, List.nil_append, List.length_cons, List.length_nil, Nat.reduceAdd, Nat.zero_add, Nat.reduceLeDiff, true_and, if_true]
      exact hq
theorem md_numberEnd {sc : Int × (Int → Int)} {d : Nat} {s : Int} {q : Nat → Int} {I : Nat → Int → Int} {Q : Option om_V → om_H → Prop} {c : Int → Int} {n i : Int} (hc : ox_cc c n) (hT : ox_ty q I c n) (h0 : 0 ≤ i) (h1 : i ≤ n) (hq : Q (some (.inl (ox_de c 40 i))) (om_O s q, I)) : om_R sc (d + 2) 103 0 [.inr (.inl 101), .inl i, om_un] [] (om_O s q, I) Q := by
  have b1 := hc.1
  simp only [x_Md_numberEnd_0, x_Md_numberEnd_1]
  exact md_ne_l hc hT 40 i h0 h1 (by omega) hq
def ox_H (sc : Int × (Int → Int)) (D : Nat) (h : om_H) (Q : Option om_V → om_H → Prop) (i st o : Int) : Prop := ∀ x4 x5 x6, om_R sc D 100 6 [.inr (.inl 101), .inl st, .inl o, .inl i, x4, x5, x6] [] h Q
theorem is_end {sc : Int × (Int → Int)} {d : Nat} {s : Int} {q : Nat → Int} {I : Nat → Int → Int} {Q : Option om_V → om_H → Prop} {c : Int → Int} {n i st o : Int} (hT : ox_ty q I c n) (hi : n ≤ i) (h1 : 2 ≤ st ∧ o = 0 → Q (some (.inl 1)) (om_O s q, I)) (h0 : ¬ (2 ≤ st ∧ o = 0) → Q (some (.inl 0)) (om_O s q, I)) : ox_H sc (d + 3) (om_O s q, I) Q i st o := by
  intro x4 x5 x6
  simp only [x_Md_isSum_6, x_Md_isSum_7, x_Md_isSum_8, x_Md_isSum_11, gO_101_3, hT.1, Option.toList_some, Option.toList_none, List.cons_append, List.nil_append, List.length_cons, List.length_nil, Nat.reduceAdd, Nat.zero_add, Nat.reduceLeDiff, true_and]
  rw [if_pos hi]
  simp only [x_Md_isSum_198, x_Md_isSum_199, x_Md_isSum_200, x_Md_isSum_203, x_Md_isSum_204, x_Md_isSum_207, x_Md_isSum_208, x_Md_isSum_211, x_Md_isSum_212, Option.toList_some, Option.toList_none, List.cons_append, List.nil_append, List.length_cons, List.length_nil, Nat.reduceAdd, Nat.zero_add, Nat.reduceLeDiff, true_and]
  by_cases a : st < 2
  · rw [if_pos a]
    exact ⟨by decide, h0 (by omega)⟩
  · rw [if_neg a]
    by_cases b : o = 0
    · rw [if_pos b]
      exact ⟨by decide, h1 (by omega)⟩
    · rw [if_neg b]
      exact ⟨by decide, h0 (by omega)⟩
theorem is_head {sc : Int × (Int → Int)} {d : Nat} {s : Int} {q : Nat → Int} {I : Nat → Int → Int} {Q : Option om_V → om_H → Prop} {c : Int → Int} {n i st o : Int} (hc : ox_cc c n) (hT : ox_ty q I c n) (h0 : 0 ≤ i) (h1 : i < n) (hd : ox_dg (c i) → om_R sc (d + 3) 100 56 [.inr (.inl 101), .inl st, .inl o, .inl i, .inl (c i), .inl (i + 1), .inl (if ox_sg (c i) then 1 else 0)] [] (om_O s q, I) Q) (hn : ¬ ox_dg (c i) → om_R sc (d + 3) 100 68 [.inr (.inl 101), .inl st, .inl o, .inl i, .inl (c i), .inl (i + 1), .inl (if ox_sg (c i) then 1 else 0)] [] (om_O s q, I) Q) : ox_H sc (d + 3) (om_O s q, I) Q i st o := by
  have n10 : ¬ (1 : Int) = 0 := by decide
  have b1 := hc.1
  intro x4 x5 x6
  have go : om_R sc (d + 3) 100 46 [.inr (.inl 101), .inl st, .inl o, .inl i, .inl (c i), .inl (i + 1), x6] [.inl (if ox_sg (c i) then 1 else 0)] (om_O s q, I) Q := by
    simp only [x_Md_isSum_46, x_Md_isSum_48, x_Md_isSum_49, x_Md_isSum_50, rO_101, Option.toList_some, Option.toList_none, List.cons_append, List.nil_append, List.length_cons, List.length_nil, Nat.reduceAdd, Nat.zero_add, Nat.reduceLeDiff, true_and]
    refine md_isDigit hc hT h0 (fun w => ?_) (fun w => ?_)
    · simp only [x_Md_isSum_53, Option.toList_some, Option.toList_none, List.cons_append, List.nil_append, List.length_cons, List.length_nil, Nat.reduceAdd, Nat.zero_add, Nat.reduceLeDiff, true_and, if_neg n10]
      exact hd w
    · simp only [x_Md_isSum_53, Option.toList_some, Option.toList_none, List.cons_append, List.nil_append, List.length_cons, List.length_nil, Nat.reduceAdd, Nat.zero_add, Nat.reduceLeDiff, true_and, if_true]
      exact hn w
  simp only [x_Md_isSum_6, x_Md_isSum_7, x_Md_isSum_8, x_Md_isSum_11, gO_101_3, hT.1, Option.toList_some, Option.toList_none, List.cons_append, List.nil_append, List.length_cons, List.length_nil, Nat.reduceAdd, Nat.zero_add, Nat.reduceLeDiff, true_and]
  rw [if_neg (by omega)]
  simp only [x_Md_isSum_14, x_Md_isSum_15, x_Md_isSum_18, x_Md_isSum_19, x_Md_isSum_20, x_Md_isSum_22, x_Md_isSum_23, x_Md_isSum_24, x_Md_isSum_25, x_Md_isSum_27, x_Md_isSum_29, x_Md_isSum_31, gO_101_4, aO_104, hT.2 i h0 (by omega), Option.toList_some, Option.toList_none, List.cons_append, List.nil_append, List.length_cons, List.length_nil, Nat.reduceAdd, Nat.zero_add, Nat.reduceLeDiff, true_and]
  refine ⟨by omega, ⟨by omega, by omega⟩, ?_⟩
  by_cases q1 : c i = 43
  · rw [if_pos (Or.inl q1)] at go
    rw [if_pos q1]
    simp only [x_Md_isSum_41, x_Md_isSum_42]
    exact go
  · rw [if_neg q1]
    simp only [x_Md_isSum_34, x_Md_isSum_36, x_Md_isSum_38]
    by_cases q2 : c i = 45
    · rw [if_pos (Or.inr q2)] at go
      rw [if_pos q2]
      simp only [x_Md_isSum_41, x_Md_isSum_42]
      exact go
    · rw [if_neg (by omega)] at go
      rw [if_neg q2]
      simp only [x_Md_isSum_45]
      exact go
theorem is_dg {sc : Int × (Int → Int)} {d : Nat} {s : Int} {q : Nat → Int} {I : Nat → Int → Int} {Q : Option om_V → om_H → Prop} {c : Int → Int} {n i st o : Int} (hc : ox_cc c n) (hT : ox_ty q I c n) (h0 : 0 ≤ i) (h1 : i < n) (hd : ox_dg (c i)) (hq : ox_H sc (d + 3) (om_O s q, I) Q (ox_de c 40 i) 2 o) : ox_H sc (d + 3) (om_O s q, I) Q i st o := by
  refine is_head hc hT h0 h1 (fun _ => ?_) (fun w => absurd hd w)
  simp only [x_Md_isSum_56, x_Md_isSum_57, x_Md_isSum_58, rO_101, Option.toList_some, Option.toList_none, List.cons_append, List.nil_append, List.length_cons, List.length_nil, Nat.reduceAdd, Nat.zero_add, Nat.reduceLeDiff, true_and]
  refine md_numberEnd hc hT h0 (by omega) ?_
  simp only [x_Md_isSum_61, x_Md_isSum_63, x_Md_isSum_64, x_Md_isSum_65, x_Md_isSum_192, x_Md_isSum_194, x_Md_isSum_195, Option.toList_some, Option.toList_none, List.cons_append, List.nil_append, List.length_cons, List.length_nil, Nat.reduceAdd, Nat.zero_add, Nat.reduceLeDiff, true_and]
  exact hq _ _ _
theorem is_x {sc : Int × (Int → Int)} {d : Nat} {s : Int} {q : Nat → Int} {I : Nat → Int → Int} {Q : Option om_V → om_H → Prop} {c : Int → Int} {n i st o : Int} (hc : ox_cc c n) (hT : ox_ty q I c n) (h0 : 0 ≤ i) (h1 : i < n) (hd : c i = 120 ∨ c i = 84) (hq : ox_H sc (d + 3) (om_O s q, I) Q (i + 1) 2 o) : ox_H sc (d + 3) (om_O s q, I) Q i st o := by
  refine is_head hc hT h0 h1 (fun w => by omega) (fun w => ?_)
  simp only [x_Md_isSum_68, x_Md_isSum_70, x_Md_isSum_72, x_Md_isSum_75, x_Md_isSum_77, x_Md_isSum_79, x_Md_isSum_82, x_Md_isSum_83, x_Md_isSum_84, x_Md_isSum_192, x_Md_isSum_194, x_Md_isSum_195, Option.toList_some, Option.toList_none, List.cons_append, List.nil_append, List.length_cons, List.length_nil, Nat.reduceAdd, Nat.zero_add, Nat.reduceLeDiff, true_and]
  by_cases q1 : c i = 120
  · rw [if_pos q1]
    exact hq _ _ _
  · rw [if_neg q1, if_pos (by omega)]
    exact hq _ _ _
theorem is_op {sc : Int × (Int → Int)} {d : Nat} {s : Int} {q : Nat → Int} {I : Nat → Int → Int} {Q : Option om_V → om_H → Prop} {c : Int → Int} {n i st o : Int} (hc : ox_cc c n) (hT : ox_ty q I c n) (h0 : 0 ≤ i) (h1 : i < n) (hd : c i = 40) (ho : 0 ≤ o ∧ o < 4) (hq : ox_H sc (d + 3) (om_O s q, I) Q (i + 1) 0 (o + 1)) : ox_H sc (d + 3) (om_O s q, I) Q i st o := by
  refine is_head hc hT h0 h1 (fun w => by omega) (fun w => ?_)
  simp only [x_Md_isSum_68, x_Md_isSum_70, x_Md_isSum_72, x_Md_isSum_75, x_Md_isSum_77, x_Md_isSum_79, x_Md_isSum_87, x_Md_isSum_89, x_Md_isSum_91, x_Md_isSum_94, x_Md_isSum_95, x_Md_isSum_96, x_Md_isSum_99, x_Md_isSum_102, x_Md_isSum_103, x_Md_isSum_104, x_Md_isSum_192, x_Md_isSum_194, x_Md_isSum_195, Option.toList_some, Option.toList_none, List.cons_append, List.nil_append, List.length_cons, List.length_nil, Nat.reduceAdd, Nat.zero_add, Nat.reduceLeDiff, true_and]
  rw [if_neg (by omega), if_neg (by omega), if_pos hd, if_neg (by omega)]
  exact ⟨⟨by omega, by omega⟩, hq _ _ _⟩
theorem is_low {sc : Int × (Int → Int)} {d : Nat} {s : Int} {q : Nat → Int} {I : Nat → Int → Int} {Q : Option om_V → om_H → Prop} {c : Int → Int} {n i st o : Int} (hc : ox_cc c n) (hT : ox_ty q I c n) (h0 : 0 ≤ i) (h1 : i < n) (hd : ¬ ox_st (c i) ∨ (c i = 40 ∧ 4 ≤ o)) (hq : om_R sc (d + 3) 100 107 [.inr (.inl 101), .inl st, .inl o, .inl i, .inl (c i), .inl (i + 1), .inl (if ox_sg (c i) then 1 else 0)] [] (om_O s q, I) Q) : ox_H sc (d + 3) (om_O s q, I) Q i st o := by
  refine is_head hc hT h0 h1 (fun w => by omega) (fun w => ?_)
  simp only [x_Md_isSum_68, x_Md_isSum_70, x_Md_isSum_72, x_Md_isSum_75, x_Md_isSum_77, x_Md_isSum_79, x_Md_isSum_87, x_Md_isSum_89, x_Md_isSum_91, x_Md_isSum_94, x_Md_isSum_95, x_Md_isSum_96, Option.toList_some, Option.toList_none, List.cons_append, List.nil_append, List.length_cons, List.length_nil, Nat.reduceAdd, Nat.zero_add, Nat.reduceLeDiff, true_and]
  rw [if_neg (by omega), if_neg (by omega)]
  by_cases q1 : c i = 40
  · rw [if_pos q1, if_pos (by omega)]
    exact hq
  · rw [if_neg q1]
    exact hq
theorem is_cl {sc : Int × (Int → Int)} {d : Nat} {s : Int} {q : Nat → Int} {I : Nat → Int → Int} {Q : Option om_V → om_H → Prop} {c : Int → Int} {n i st o : Int} (hc : ox_cc c n) (hT : ox_ty q I c n) (h0 : 0 ≤ i) (h1 : i < n) (hd : c i = 41) (ho : 0 < o ∧ o ≤ 4) (hs : 2 ≤ st) (hq : ox_H sc (d + 3) (om_O s q, I) Q (i + 1) 2 (o - 1)) : ox_H sc (d + 3) (om_O s q, I) Q i st o := by
  refine is_low hc hT h0 h1 (by omega) ?_
  simp only [x_Md_isSum_107, x_Md_isSum_109, x_Md_isSum_111, x_Md_isSum_114, x_Md_isSum_115, x_Md_isSum_118, x_Md_isSum_119, x_Md_isSum_120, x_Md_isSum_123, x_Md_isSum_126, x_Md_isSum_127, x_Md_isSum_128, x_Md_isSum_192, x_Md_isSum_194, x_Md_isSum_195, Option.toList_some, Option.toList_none, List.cons_append, List.nil_append, List.length_cons, List.length_nil, Nat.reduceAdd, Nat.zero_add, Nat.reduceLeDiff, true_and]
  rw [if_pos hd, if_neg (by omega), if_neg (by omega)]
  exact ⟨⟨by omega, by omega⟩, hq _ _ _⟩
theorem is_pow {sc : Int × (Int → Int)} {d : Nat} {s : Int} {q : Nat → Int} {I : Nat → Int → Int} {Q : Option om_V → om_H → Prop} {c : Int → Int} {n i st o : Int} (hc : ox_cc c n) (hT : ox_ty q I c n) (h0 : 0 ≤ i) (h1 : i < n) (hd : c i = 94) (hs : st = 2) (h2 : ox_dg (c (i + 1))) (hq : ox_H sc (d + 3) (om_O s q, I) Q (i + 2) 3 o) : ox_H sc (d + 3) (om_O s q, I) Q i st o := by
  have n10 : ¬ (1 : Int) = 0 := by decide
  have b1 := hc.1
  refine is_low hc hT h0 h1 (by omega) ?_
  simp only [x_Md_isSum_107, x_Md_isSum_109, x_Md_isSum_111, x_Md_isSum_131, x_Md_isSum_133, x_Md_isSum_135, x_Md_isSum_138, x_Md_isSum_139, x_Md_isSum_140, x_Md_isSum_143, x_Md_isSum_144, x_Md_isSum_145, x_Md_isSum_146, x_Md_isSum_147, rO_101, Option.toList_some, Option.toList_none, List.cons_append, List.nil_append, List.length_cons, List.length_nil, Nat.reduceAdd, Nat.zero_add, Nat.reduceLeDiff, true_and]
  rw [if_neg (by omega), if_pos hd, if_pos hs]
  refine ⟨⟨by omega, by omega⟩, md_isDigit hc hT (by omega) (fun w => ?_) (fun w => absurd h2 w)⟩
  simp only [x_Md_isSum_150, x_Md_isSum_153, x_Md_isSum_154, x_Md_isSum_155, x_Md_isSum_156, x_Md_isSum_158, x_Md_isSum_159, x_Md_isSum_160, x_Md_isSum_192, x_Md_isSum_194, x_Md_isSum_195, Option.toList_some, Option.toList_none, List.cons_append, List.nil_append, List.length_cons, List.length_nil, Nat.reduceAdd, Nat.zero_add, Nat.reduceLeDiff, true_and, if_neg n10]
  exact ⟨⟨by omega, by omega⟩, hq _ _ _⟩
/-- not a bracket that closes, not a power -/
theorem is_low2 {sc : Int × (Int → Int)} {d : Nat} {s : Int} {q : Nat → Int} {I : Nat → Int → Int} {Q : Option om_V → om_H → Prop} {c : Int → Int} {n i st o : Int} (hc : ox_cc c n) (hT : ox_ty q I c n) (h0 : 0 ≤ i) (h1 : i < n) (hd : ¬ ox_st (c i) ∨ (c i = 40 ∧ 4 ≤ o)) (h4 : ¬ (c i = 41 ∧ 0 < o ∧ 2 ≤ st)) (h9 : ¬ (c i = 94 ∧ st = 2 ∧ ox_dg (c (i + 1)))) (hq : om_R sc (d + 3) 100 163 [.inr (.inl 101), .inl st, .inl o, .inl i, .inl (c i), .inl (i + 1), .inl (if ox_sg (c i) then 1 else 0)] [] (om_O s q, I) Q) : ox_H sc (d + 3) (om_O s q, I) Q i st o := by
  have n10 : ¬ (1 : Int) = 0 := by decide
  have b1 := hc.1
  refine is_low hc hT h0 h1 hd ?_
  have go : om_R sc (d + 3) 100 131 [.inr (.inl 101), .inl st, .inl o, .inl i, .inl (c i), .inl (i + 1), .inl (if ox_sg (c i) then 1 else 0)] [] (om_O s q, I) Q := by
    simp only [x_Md_isSum_131, x_Md_isSum_133, x_Md_isSum_135, x_Md_isSum_138, x_Md_isSum_139, x_Md_isSum_140, x_Md_isSum_143, x_Md_isSum_144, x_Md_isSum_145, x_Md_isSum_146, x_Md_isSum_147, rO_101, Option.toList_some, Option.toList_none, List.cons_append, List.nil_append, List.length_cons, List.length_nil, Nat.reduceAdd, Nat.zero_add, Nat.reduceLeDiff, true_and]
    by_cases q1 : c i = 94
    · rw [if_pos q1]
      by_cases q2 : st = 2
      · rw [if_pos q2]
        refine ⟨⟨by omega, by omega⟩, md_isDigit hc hT (by omega) (fun w => absurd ⟨q1, q2, w⟩ h9) (fun w => ?_)⟩
        simp only [x_Md_isSum_150, Option.toList_some, Option.toList_none, List.cons_append, List.nil_append, List.length_cons, List.length_nil, Nat.reduceAdd, Nat.zero_add, Nat.reduceLeDiff, true_and, if_true]
        exact hq
      · rw [if_neg q2]
        exact hq
    · rw [if_neg q1]
      exact hq
  simp only [x_Md_isSum_107, x_Md_isSum_109, x_Md_isSum_111, x_Md_isSum_114, x_Md_isSum_115, x_Md_isSum_118, x_Md_isSum_119, x_Md_isSum_120, Option.toList_some, Option.toList_none, List.cons_append, List.nil_append, List.length_cons, List.length_nil, Nat.reduceAdd, Nat.zero_add, Nat.reduceLeDiff, true_and]
  by_cases q1 : c i = 41
  · rw [if_pos q1]
    by_cases q2 : o ≤ 0
    · rw [if_pos q2]
      exact go
    · rw [if_neg q2, if_pos (by omega)]
      exact go
  · rw [if_neg q1]
    exact go
theorem is_sg {sc : Int × (Int → Int)} {d : Nat} {s : Int} {q : Nat → Int} {I : Nat → Int → Int} {Q : Option om_V → om_H → Prop} {c : Int → Int} {n i st o : Int} (hc : ox_cc c n) (hT : ox_ty q I c n) (h0 : 0 ≤ i) (h1 : i < n) (hd : ox_sg (c i)) (hs : st ≠ 1) (hq : ox_H sc (d + 3) (om_O s q, I) Q (i + 1) 1 o) : ox_H sc (d + 3) (om_O s q, I) Q i st o := by
  have n10 : ¬ (1 : Int) = 0 := by decide
  refine is_low2 hc hT h0 h1 (by omega) (by omega) (by omega) ?_
  rw [if_pos hd]
  simp only [x_Md_isSum_163, x_Md_isSum_165, x_Md_isSum_168, x_Md_isSum_169, x_Md_isSum_170, x_Md_isSum_185, x_Md_isSum_186, x_Md_isSum_187, x_Md_isSum_192, x_Md_isSum_194, x_Md_isSum_195, Option.toList_some, Option.toList_none, List.cons_append, List.nil_append, List.length_cons, List.length_nil, Nat.reduceAdd, Nat.zero_add, Nat.reduceLeDiff, true_and, if_neg n10]
  rw [if_neg hs]
  exact hq _ _ _
theorem is_st {sc : Int × (Int → Int)} {d : Nat} {s : Int} {q : Nat → Int} {I : Nat → Int → Int} {Q : Option om_V → om_H → Prop} {c : Int → Int} {n i st o : Int} (hc : ox_cc c n) (hT : ox_ty q I c n) (h0 : 0 ≤ i) (h1 : i < n) (hd : c i = 42) (hs : 2 ≤ st) (hq : ox_H sc (d + 3) (om_O s q, I) Q (i + 1) 1 o) : ox_H sc (d + 3) (om_O s q, I) Q i st o := by
  refine is_low2 hc hT h0 h1 (by omega) (by omega) (by omega) ?_
  rw [if_neg (by omega)]
  simp only [x_Md_isSum_163, x_Md_isSum_165, x_Md_isSum_173, x_Md_isSum_175, x_Md_isSum_177, x_Md_isSum_180, x_Md_isSum_181, x_Md_isSum_182, x_Md_isSum_185, x_Md_isSum_186, x_Md_isSum_187, x_Md_isSum_192, x_Md_isSum_194, x_Md_isSum_195, Option.toList_some, Option.toList_none, List.cons_append, List.nil_append, List.length_cons, List.length_nil, Nat.reduceAdd, Nat.zero_add, Nat.reduceLeDiff, true_and, if_true]
  rw [if_pos hd, if_neg (by omega)]
  exact hq _ _ _
theorem is_no {sc : Int × (Int → Int)} {d : Nat} {s : Int} {q : Nat → Int} {I : Nat → Int → Int} {Q : Option om_V → om_H → Prop} {c : Int → Int} {n i st o : Int} (hc : ox_cc c n) (hT : ox_ty q I c n) (h0 : 0 ≤ i) (h1 : i < n) (hd : ¬ ox_st (c i) ∨ (c i = 40 ∧ 4 ≤ o)) (h4 : ¬ (c i = 41 ∧ 0 < o ∧ 2 ≤ st)) (h9 : ¬ (c i = 94 ∧ st = 2 ∧ ox_dg (c (i + 1)))) (h5 : ¬ (ox_sg (c i) ∧ st ≠ 1)) (h6 : ¬ (c i = 42 ∧ 2 ≤ st)) (hq : Q (some (.inl 0)) (om_O s q, I)) : ox_H sc (d + 3) (om_O s q, I) Q i st o := by
  have n10 : ¬ (1 : Int) = 0 := by decide
  refine is_low2 hc hT h0 h1 hd h4 h9 ?_
  have go : om_R sc (d + 3) 100 173 [.inr (.inl 101), .inl st, .inl o, .inl i, .inl (c i), .inl (i + 1), .inl (if ox_sg (c i) then 1 else 0)] [] (om_O s q, I) Q := by
    simp only [x_Md_isSum_173, x_Md_isSum_175, x_Md_isSum_177, x_Md_isSum_180, x_Md_isSum_181, x_Md_isSum_182, x_Md_isSum_190, x_Md_isSum_191, Option.toList_some, Option.toList_none, List.cons_append, List.nil_append, List.length_cons, List.length_nil, Nat.reduceAdd, Nat.zero_add, Nat.reduceLeDiff, true_and]
    by_cases q1 : c i = 42
    · rw [if_pos q1, if_pos (by omega)]
      exact ⟨by decide, hq⟩
    · rw [if_neg q1]
      exact ⟨by decide, hq⟩
  by_cases q1 : ox_sg (c i)
  · rw [if_pos q1] at go ⊢
    simp only [x_Md_isSum_163, x_Md_isSum_165, x_Md_isSum_168, x_Md_isSum_169, x_Md_isSum_170, Option.toList_some, Option.toList_none, List.cons_append, List.nil_append, List.length_cons, List.length_nil, Nat.reduceAdd, Nat.zero_add, Nat.reduceLeDiff, true_and, if_neg n10]
    rw [if_pos (by omega)]
    exact go
  · rw [if_neg q1] at go ⊢
    simp only [x_Md_isSum_163, x_Md_isSum_165, Option.toList_some, Option.toList_none, List.cons_append, List.nil_append, List.length_cons, List.length_nil, Nat.reduceAdd, Nat.zero_add, Nat.reduceLeDiff, true_and, if_true]
    exact go
/-- isSum along the grammar -/
def ox_pre (c : Int → Int) (i st : Int) : Prop := st = 1 ∨ (st = 0 ∧ ¬ ox_sg (c i)) ∨ ((st = 2 ∨ st = 3) ∧ ox_st (c i))
def ox_ex (c : Int → Int) (j st : Int) : Prop := (st = 2 ∨ st = 3) ∧ (c j = 94 → st = 3)
def ox_iA (Hd : Int → Int → Int → Prop) (n : Int) (c : Int → Int) (o : Int) (F : Prop) (A : Int → Int → Option ox_X) : Prop := ∀ i l st, 0 ≤ i → i ≤ n → (l = 0 ∨ l = 1) → ox_pre c i st → (A i l = none → F → Hd i st o) ∧ ∀ r, A i l = some r → Hd r.1 2 o → Hd i st o
def ox_iP (Hd : Int → Int → Int → Prop) (n : Int) (c : Int → Int) (o : Int) (F : Prop) (A : Int → Int → Option ox_X) : Prop := ∀ i l st, 0 ≤ i → i ≤ n → (l = 0 ∨ l = 1) → ox_pre c i st → (A i l = none → F → Hd i st o) ∧ ∀ r, A i l = some r → (∀ st', ox_ex c r.1 st' → Hd r.1 st' o) → Hd i st o
def ox_iS (Hd : Int → Int → Int → Prop) (n : Int) (c : Int → Int) (o : Int) (F : Prop) (A : Int → Int → Option ox_X) : Prop := ∀ i l, 0 ≤ i → i ≤ n → (l = 0 ∨ l = 1) → (A i l = none → F → Hd i 0 o) ∧ ∀ r, A i l = some r → (∀ st', ox_ex c r.1 st' → Hd r.1 st' o) → Hd i 0 o
theorem is_ra {sc : Int × (Int → Int)} {d : Nat} {s : Int} {q : Nat → Int} {I : Nat → Int → Int} {Q : Option om_V → om_H → Prop} {c : Int → Int} {n : Int} {m o : Nat} (hc : ox_cc c n) (hT : ox_ty q I c n) (ho : o + m = 4) (hS : ∀ m', m = m' + 1 → ox_iS (ox_H sc (d + 3) (om_O s q, I) Q) n c ((o + 1 : Nat) : Int) (Q (some (.inl 0)) (om_O s q, I)) (ox_S s c m')) : ox_iA (ox_H sc (d + 3) (om_O s q, I) Q) n c o (Q (some (.inl 0)) (om_O s q, I)) (ox_ra c (ox_lo s c m)) := by
  intro i l st h0 h1 hl hp
  unfold ox_ra
  by_cases hd : ox_dg (c i)
  · rw [if_pos hd]
    have lt := ox_lt (k := i) hc (by omega)
    refine ⟨fun h => absurd h (by simp), fun r h hq => ?_⟩
    injection h with h
    subst h
    exact is_dg hc hT h0 lt hd hq
  · rw [if_neg hd]
    by_cases hx : c i = 120
    · rw [if_pos hx]
      have lt := ox_lt (k := i) hc (by omega)
      refine ⟨fun h => absurd h (by simp), fun r h hq => ?_⟩
      injection h with h
      subst h
      exact is_x hc hT h0 lt (Or.inl hx) hq
    · rw [if_neg hx]
      by_cases hx' : c i = 84
      · rw [if_pos hx']
        have lt := ox_lt (k := i) hc (by omega)
        refine ⟨fun h => absurd h (by simp), fun r h hq => ?_⟩
        injection h with h
        subst h
        exact is_x hc hT h0 lt (Or.inr hx') hq
      · rw [if_neg hx']
        by_cases hb : c i = 40
        · rw [if_pos hb]
          have lt := ox_lt (k := i) hc (by omega)
          cases m with
          | zero =>
            refine ⟨fun _ hF => is_no hc hT h0 lt (Or.inr ⟨hb, by omega⟩) (by omega) (by omega) (by omega) (by omega) hF, fun r h => absurd h (by simp [ox_lo, ox_br])⟩
          | succ m =>
            obtain ⟨s1, s2⟩ := hS m rfl (i + 1) l (by omega) (by omega) hl
            have e1 : ((o + 1 : Nat) : Int) = (o : Int) + 1 := by omega
            rw [e1] at s1 s2
            show (ox_br c (ox_S s c m (i + 1) l) = none → _) ∧ ∀ r, ox_br c (ox_S s c m (i + 1) l) = some r → _
            cases e : ox_S s c m (i + 1) l with
            | none => exact ⟨fun _ hF => is_op hc hT h0 lt hb (by omega) (s1 e hF), fun r h => absurd h (by simp [ox_br])⟩
            | some r' =>
              have ok := ox_S_ok (s := s) hc m (i + 1) l r' (by omega) (by omega) hl e
              rw [ox_S_e] at e
              obtain ⟨_, x1, x2, x3⟩ := ox_bd_ok hc (ox_lo_ok hc m) (i + 1) l r' (by omega) (by omega) hl e
              rw [← ox_S_e] at e
              dsimp only [ox_br]
              by_cases hj : c r'.1 = 41
              · rw [if_pos hj]
                refine ⟨fun h => absurd h (by simp), fun r h hq => ?_⟩
                injection h with h
                subst h
                have lt2 := ox_lt (k := r'.1) hc (by omega)
                have a1 := ok.1
                refine is_op hc hT h0 lt hb (by omega) (s2 r' e (fun st' he => is_cl hc hT (by omega) lt2 hj (by omega) (by rcases he.1 with h | h <;> omega) ?_))
                rw [show (o : Int) + 1 - 1 = o by omega]
                exact hq
              · rw [if_neg hj]
                refine ⟨fun _ hF => is_op hc hT h0 lt hb (by omega) (s2 r' e (fun st' he => ?_)), fun r h => absurd h (by simp)⟩
                have a1 := ok.1
                by_cases hn : n ≤ r'.1
                · exact is_end hT hn (fun w => by omega) (fun _ => hF)
                · refine is_no hc hT (by omega) (by omega) (Or.inl x2) (fun w => hj w.1) (fun w => ?_) (fun w => x3 w.1) (fun w => x1 w.1) hF
                  have := he.2 w.1
                  omega
        · rw [if_neg hb]
          refine ⟨fun _ hF => ?_, fun r h => absurd h (by simp)⟩
          have ns : ¬ ox_st (c i) := by omega
          by_cases hn : n ≤ i
          · have st2 : ¬ 2 ≤ st := by
              rcases hp with h | h | h
              · omega
              · omega
              · exact absurd h.2 ns
            exact is_end hT hn (fun w => absurd w.1 st2) (fun _ => hF)
          · rcases hp with h | h | h
            · exact is_no hc hT h0 (by omega) (Or.inl ns) (by omega) (by omega) (by omega) (by omega) hF
            · exact is_no hc hT h0 (by omega) (Or.inl ns) (by omega) (by omega) (fun w => h.2 w.1) (by omega) hF
            · exact absurd h.2 ns
theorem is_pw {sc : Int × (Int → Int)} {d : Nat} {s : Int} {q : Nat → Int} {I : Nat → Int → Int} {Q : Option om_V → om_H → Prop} {c : Int → Int} {n o : Int} (hc : ox_cc c n) (hT : ox_ty q I c n) {A : Int → Int → Option ox_X} (oA : ox_okA n A) (hA : ox_iA (ox_H sc (d + 3) (om_O s q, I) Q) n c o (Q (some (.inl 0)) (om_O s q, I)) A) : ox_iP (ox_H sc (d + 3) (om_O s q, I) Q) n c o (Q (some (.inl 0)) (om_O s q, I)) (ox_pw s c A) := by
  intro i l st h0 h1 hl hp
  obtain ⟨a1, a2⟩ := hA i l st h0 h1 hl hp
  unfold ox_pw
  cases e : A i l with
  | none => exact ⟨fun _ hF => a1 e hF, fun r h => absurd h (by simp)⟩
  | some r' =>
    have ok := (oA i l r' h0 h1 hl e).1
    dsimp only
    by_cases h9 : c r'.1 = 94
    · rw [if_pos h9]
      have lt := ox_lt (k := r'.1) hc (by omega)
      by_cases hd : ox_dg (c (r'.1 + 1))
      · rw [if_pos hd]
        refine ⟨fun h => absurd h (by simp), fun r h hq => ?_⟩
        injection h with h
        subst h
        exact a2 r' e (is_pow hc hT (by omega) lt h9 rfl hd (hq 3 ⟨Or.inr rfl, fun _ => rfl⟩))
      · rw [if_neg hd]
        refine ⟨fun _ hF => a2 r' e ?_, fun r h => absurd h (by simp)⟩
        exact is_no hc hT (by omega) lt (by omega) (by omega) (fun w => hd w.2.2) (by omega) (by omega) hF
    · rw [if_neg h9]
      refine ⟨fun h => absurd h (by simp), fun r h hq => ?_⟩
      injection h with h
      subst h
      exact a2 r' e (hq 2 ⟨Or.inl rfl, fun w => absurd w h9⟩)
theorem is_pr {sc : Int × (Int → Int)} {d : Nat} {s : Int} {q : Nat → Int} {I : Nat → Int → Int} {Q : Option om_V → om_H → Prop} {c : Int → Int} {n o : Int} (hc : ox_cc c n) (hT : ox_ty q I c n) {A : Int → Int → Option ox_X} (oA : ox_okA n A) (hA : ox_iP (ox_H sc (d + 3) (om_O s q, I) Q) n c o (Q (some (.inl 0)) (om_O s q, I)) (ox_pw s c A)) : ∀ (f : Nat) (i l st : Int) (P : Int → Int → Int), 0 ≤ i → i ≤ n → 2 ≤ f → n + 1 ≤ f + i → (l = 0 ∨ l = 1) → ox_pre c i st → (ox_pr s c A f i l P = none → Q (some (.inl 0)) (om_O s q, I) → ox_H sc (d + 3) (om_O s q, I) Q i st o) ∧ ∀ r, ox_pr s c A f i l P = some r → (∀ st', ox_ex c r.1 st' → ox_H sc (d + 3) (om_O s q, I) Q r.1 st' o) → ox_H sc (d + 3) (om_O s q, I) Q i st o := by
  intro f
  induction f with
  | zero => intro i l st P h0 h1 h2; omega
  | succ f ih =>
    intro i l st P h0 h1 h2 h3 hl hp
    obtain ⟨a1, a2⟩ := hA i l st h0 h1 hl hp
    cases e : ox_pw s c A i l with
    | none =>
      have e' : ox_pr s c A (f + 1) i l P = none := by
        conv => lhs; unfold ox_pr
        rw [e]
      rw [e']
      exact ⟨fun _ hF => a1 e hF, fun r h => absurd h (by simp)⟩
    | some r' =>
      have e' : ox_pr s c A (f + 1) i l P = if c r'.1 = 42 then ox_pr s c A f (r'.1 + 1) (ox_lg r'.2.1 (om_mlt s P r'.2.2)) (ox_cut (om_mlt s P r'.2.2)) else if ox_st (c r'.1) then ox_pr s c A f r'.1 (ox_lg r'.2.1 (om_mlt s P r'.2.2)) (ox_cut (om_mlt s P r'.2.2)) else some (r'.1, ox_lg r'.2.1 (om_mlt s P r'.2.2), ox_cut (om_mlt s P r'.2.2)) := by
        conv => lhs; unfold ox_pr
        rw [e]
      rw [e']
      obtain ⟨k1, k2, _⟩ := ox_pw_ok hc oA i l r' h0 h1 hl e
      by_cases h4 : c r'.1 = 42
      · rw [if_pos h4]
        have lt := ox_lt (k := r'.1) hc (by omega)
        obtain ⟨b1, b2⟩ := ih (r'.1 + 1) (ox_lg r'.2.1 (om_mlt s P r'.2.2)) 1 (ox_cut (om_mlt s P r'.2.2)) (by omega) (by omega) (by omega) (by omega) ox_lg_b (Or.inl rfl)
        exact ⟨fun h hF => a2 r' e (fun st' he => is_st hc hT (by omega) lt h4 (by rcases he.1 with h | h <;> omega) (b1 h hF)), fun r h hq => a2 r' e (fun st' he => is_st hc hT (by omega) lt h4 (by rcases he.1 with h | h <;> omega) (b2 r h hq))⟩
      · rw [if_neg h4]
        by_cases h5 : ox_st (c r'.1)
        · rw [if_pos h5]
          have lt := ox_lt (k := r'.1) hc (by omega)
          have b := fun st' (he : ox_ex c r'.1 st') => ih r'.1 (ox_lg r'.2.1 (om_mlt s P r'.2.2)) st' (ox_cut (om_mlt s P r'.2.2)) (by omega) (by omega) (by omega) (by omega) ox_lg_b (Or.inr (Or.inr ⟨he.1, h5⟩))
          exact ⟨fun h hF => a2 r' e (fun st' he => (b st' he).1 h hF), fun r h hq => a2 r' e (fun st' he => (b st' he).2 r h hq)⟩
        · rw [if_neg h5]
          refine ⟨fun h => absurd h (by simp), fun r h hq => ?_⟩
          injection h with h
          subst h
          exact a2 r' e hq
theorem is_su {sc : Int × (Int → Int)} {d : Nat} {s : Int} {q : Nat → Int} {I : Nat → Int → Int} {Q : Option om_V → om_H → Prop} {c : Int → Int} {n o : Int} (hc : ox_cc c n) (hT : ox_ty q I c n) {A : Int → Int → Option ox_X} (oA : ox_okA n A) (hA : ox_iP (ox_H sc (d + 3) (om_O s q, I) Q) n c o (Q (some (.inl 0)) (om_O s q, I)) (ox_pw s c A)) : ∀ (f : Nat) (t i l st : Int) (a : Int → Int → Int), 0 ≤ i → i ≤ n → 2 ≤ f → n + 1 ≤ f + i → (l = 0 ∨ l = 1) → ox_pre c i st → (ox_su s c A f t i l a = none → Q (some (.inl 0)) (om_O s q, I) → ox_H sc (d + 3) (om_O s q, I) Q i st o) ∧ ∀ r, ox_su s c A f t i l a = some r → (∀ st', ox_ex c r.1 st' → ox_H sc (d + 3) (om_O s q, I) Q r.1 st' o) → ox_H sc (d + 3) (om_O s q, I) Q i st o := by
  have b1 := hc.1
  intro f
  induction f with
  | zero => intro t i l st a h0 h1 h2; omega
  | succ f ih =>
    intro t i l st a h0 h1 h2 h3 hl hp
    obtain ⟨a1, a2⟩ := is_pr hc hT oA hA 41 i l st (ox_t1 0 0 1) h0 h1 (by omega) (by omega) hl hp
    cases e : ox_pr s c A 41 i l (ox_t1 0 0 1) with
    | none =>
      have e' : ox_su s c A (f + 1) t i l a = none := by
        conv => lhs; unfold ox_su
        rw [e]
      rw [e']
      exact ⟨fun _ hF => a1 e hF, fun r h => absurd h (by simp)⟩
    | some r' =>
      have e' : ox_su s c A (f + 1) t i l a = if ox_sg (c r'.1) then ox_su s c A f (ox_tm (c r'.1)) (r'.1 + 1) r'.2.1 (om_ad a r'.2.2 t) else some (r'.1, r'.2.1, om_ad a r'.2.2 t) := by
        conv => lhs; unfold ox_su
        rw [e]
      rw [e']
      obtain ⟨⟨k1, k2, k3, _⟩, _⟩ := ox_pr_ok hc oA 41 i l _ r' h0 h1 hl (ox_t1_su (by decide)) e
      by_cases h4 : ox_sg (c r'.1)
      · rw [if_pos h4]
        have lt := ox_lt (k := r'.1) hc (by omega)
        obtain ⟨b1, b2⟩ := ih (ox_tm (c r'.1)) (r'.1 + 1) r'.2.1 1 (om_ad a r'.2.2 t) (by omega) (by omega) (by omega) (by omega) k3 (Or.inl rfl)
        exact ⟨fun h hF => a2 r' e (fun st' he => is_sg hc hT (by omega) lt h4 (by rcases he.1 with h | h <;> omega) (b1 h hF)), fun r h hq => a2 r' e (fun st' he => is_sg hc hT (by omega) lt h4 (by rcases he.1 with h | h <;> omega) (b2 r h hq))⟩
      · rw [if_neg h4]
        refine ⟨fun h => absurd h (by simp), fun r h hq => ?_⟩
        injection h with h
        subst h
        exact a2 r' e hq
theorem is_bd {sc : Int × (Int → Int)} {d : Nat} {s : Int} {q : Nat → Int} {I : Nat → Int → Int} {Q : Option om_V → om_H → Prop} {c : Int → Int} {n : Int} {m o : Nat} (hc : ox_cc c n) (hT : ox_ty q I c n) (ho : o + m = 4) (hS : ∀ m', m = m' + 1 → ox_iS (ox_H sc (d + 3) (om_O s q, I) Q) n c ((o + 1 : Nat) : Int) (Q (some (.inl 0)) (om_O s q, I)) (ox_S s c m')) : ox_iS (ox_H sc (d + 3) (om_O s q, I) Q) n c o (Q (some (.inl 0)) (om_O s q, I)) (ox_S s c m) := by
  have b1 := hc.1
  rw [ox_S_e]
  have oA := ox_ra_ok hc (ox_lo_ok (s := s) hc m)
  have hA := is_pw hc hT oA (is_ra hc hT ho hS)
  intro i l h0 h1 hl
  unfold ox_bd
  by_cases h4 : ox_sg (c i)
  · rw [if_pos h4]
    have lt := ox_lt (k := i) hc (by omega)
    obtain ⟨a1, a2⟩ := is_su hc hT oA hA 41 (ox_tm (c i)) (i + 1) l 1 (fun _ _ => 0) (by omega) (by omega) (by omega) (by omega) hl (Or.inl rfl)
    exact ⟨fun h hF => is_sg hc hT h0 lt h4 (by decide) (a1 h hF), fun r h hq => is_sg hc hT h0 lt h4 (by decide) (a2 r h hq)⟩
  · rw [if_neg h4]
    exact is_su hc hT oA hA 41 1 i l 0 (fun _ _ => 0) h0 h1 (by omega) (by omega) hl (Or.inr (Or.inl ⟨rfl, h4⟩))
theorem is_S {sc : Int × (Int → Int)} {d : Nat} {s : Int} {q : Nat → Int} {I : Nat → Int → Int} {Q : Option om_V → om_H → Prop} {c : Int → Int} {n : Int} (hc : ox_cc c n) (hT : ox_ty q I c n) : ∀ m o : Nat, o + m = 4 → ox_iS (ox_H sc (d + 3) (om_O s q, I) Q) n c o (Q (some (.inl 0)) (om_O s q, I)) (ox_S s c m)
  | 0, o, e => is_bd hc hT e (fun m' h => by omega)
  | m + 1, o, e => is_bd hc hT e (fun m' h => by
    have : m' = m := by omega
    subst this
    exact is_S hc hT m' (o + 1) (by omega))
theorem md_isSum {sc : Int × (Int → Int)} {d : Nat} {s : Int} {q : Nat → Int} {I : Nat → Int → Int} {Q : Option om_V → om_H → Prop} {c : Int → Int} {n : Int} (hc : ox_cc c n) (hT : ox_ty q I c n) (h2 : ox_f2 s c n → Q (some (.inl 0)) (om_O s q, I)) (h1 : (∃ r, ox_S s c 4 0 0 = some r ∧ r.1 = n) → Q (some (.inl 1)) (om_O s q, I)) : om_R sc (d + 3) 100 0 [.inr (.inl 101), om_un, om_un, om_un, om_un, om_un, om_un] [] (om_O s q, I) Q := by
  have b1 := hc.1
  simp only [x_Md_isSum_0, x_Md_isSum_1, x_Md_isSum_2, x_Md_isSum_3, x_Md_isSum_4, x_Md_isSum_5]
  obtain ⟨a1, a2⟩ := is_S (sc := sc) (d := d) (s := s) (q := q) (I := I) (Q := Q) hc hT 4 0 rfl 0 0 (by omega) (by omega) (Or.inl rfl)
  cases e : ox_S s c 4 0 0 with
  | none => exact a1 e (h2 (Or.inl e)) _ _ _
  | some r =>
    have ok := (ox_S_ok (s := s) hc 4 0 0 r (by omega) (by omega) (Or.inl rfl) e)
    have e2 := e
    rw [ox_S_e] at e2
    obtain ⟨_, x1, x2, x3⟩ := ox_bd_ok hc (ox_lo_ok hc 4) 0 0 r (by omega) (by omega) (Or.inl rfl) e2
    refine a2 r e (fun st' he => ?_) _ _ _
    by_cases en : r.1 = n
    · exact is_end hT (by omega) (fun _ => h1 ⟨r, e, en⟩) (fun w => absurd ⟨by rcases he.1 with h | h <;> omega, rfl⟩ w)
    · have a1 := ok.1
      have a2 := ok.2.1
      refine is_no hc hT (by omega) (by omega) (Or.inl x2) (fun w => absurd w.2.1 (by decide)) (fun w => ?_) (fun w => x3 w.1) (fun w => x1 w.1) (h2 (Or.inr ⟨r, e, en⟩))
      have := he.2 w.1
      omega
