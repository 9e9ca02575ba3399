/-! the reference's output -/
theorem mo_w {sc : Int × (Int → Int)} {d : Nat} {s : Int} {q : Nat → Int} {I : Nat → Int → Int} {Q : Option om_V → om_H → Prop} {c : Int} {l : List Int} (hl : q 10 = l.length) (ho : om_ol (I 107) l) (h6 : l.length < 700) (hq : ∀ I', (∀ b, b ≠ 107 → I' b = I b) → om_ol (I' 107) (l ++ [c]) → Q none (om_O s (om_qs q 10 ((l ++ [c]).length : Int)), I')) : om_R sc d 156 0 [.inr (.inl 101), .inl c] [] (om_O s q, I) Q := by
  simp only [x_Md_write_0, x_Md_write_1, x_Md_write_4, x_Md_write_5, x_Md_write_8, x_Md_write_9, x_Md_write_10, x_Md_write_11, x_Md_write_12, x_Md_write_15, x_Md_write_16, gO_101_10, gO_101_9, aO_107]
  refine ⟨⟨by omega, by omega⟩, ⟨by omega, by omega⟩, ?_⟩
  simp only [x_Md_write_17, x_Md_write_20, pO_101_9 156 (q 10 + 1) rfl]
  have h := hq (om_u I 107 (om_p (I 107) (q 10) c)) (fun b hb => om_u_ne hb) (by rw [om_u_eq, hl]; exact om_ol_app ho)
  rw [show q 10 + 1 = ((l ++ [c]).length : Int) by simp; omega]
  exact h
theorem mo_num {sc : Int × (Int → Int)} {d : Nat} {s : Int} {q : Nat → Int} {I : Nat → Int → Int} {Q : Option om_V → om_H → Prop} {v : Int} {l : List Int} (hl : q 10 = l.length) (ho : om_ol (I 107) l) (h6 : l.length + 2 ≤ 700) (hv : 0 ≤ v ∧ v < 100) (hq : ∀ I', (∀ b, b ≠ 107 → I' b = I b) → om_ol (I' 107) (l ++ om_num v) → Q none (om_O s (om_qs q 10 ((l ++ om_num v).length : Int)), I')) : om_R sc (d + 1) 157 0 [.inr (.inl 101), .inl v] [] (om_O s q, I) Q := by
  have t1 : Int.tdiv v 10 = v / 10 := Int.tdiv_eq_ediv_of_nonneg hv.1
  have t2 : Int.tmod v 10 = v % 10 := Int.tmod_eq_emod_of_nonneg hv.1
  have fin : ∀ (l1 : List Int) (I1 : Nat → Int → Int), (∀ b, b ≠ 107 → I1 b = I b) → om_ol (I1 107) l1 → l1.length < 700 → l1 ++ [48 + v % 10] = l ++ om_num v → om_R sc (d + 1) 157 17 [.inr (.inl 101), .inl v] [] (om_O s (om_qs q 10 (l1.length : Int)), I1) Q := by
    intro l1 I1 f1 f2 f3 f4
    simp only [x_Md_writeNumber_17, x_Md_writeNumber_18, x_Md_writeNumber_20, x_Md_writeNumber_21, x_Md_writeNumber_23, x_Md_writeNumber_24, x_Md_writeNumber_25, rO_101, t2, Option.toList_some, Option.toList_none, List.cons_append, List.nil_append, List.length_cons, List.length_nil, Nat.reduceAdd, Nat.zero_add, Nat.reduceLeDiff, true_and]
    refine ⟨by decide, ⟨by omega, by omega⟩, mo_w om_qs_eq f2 f3 (fun I2 f5 f6 => ?_)⟩
    simp only [x_Md_writeNumber_28, Option.toList_some, Option.toList_none, List.cons_append, List.nil_append, List.length_cons, List.length_nil, Nat.reduceAdd, Nat.zero_add, Nat.reduceLeDiff, true_and, om_qs_qs]
    rw [f4] at f6 ⊢
    exact hq I2 (fun b hb => by rw [f5 b hb, f1 b hb]) f6
  simp only [x_Md_writeNumber_0, x_Md_writeNumber_1, x_Md_writeNumber_3]
  by_cases h : v ≤ 9
  · rw [if_pos h]
    have h2 := fin l I (fun _ _ => rfl) ho (by omega) (by unfold om_num; rw [if_neg (by omega)]; rfl)
    rw [om_qs_self hl] at h2
    exact h2
  · rw [if_neg h]
    simp only [x_Md_writeNumber_6, x_Md_writeNumber_7, x_Md_writeNumber_9, x_Md_writeNumber_10, x_Md_writeNumber_12, x_Md_writeNumber_13, x_Md_writeNumber_14, rO_101, t1, Option.toList_some, Option.toList_none, List.cons_append, List.nil_append, List.length_cons, List.length_nil, Nat.reduceAdd, Nat.zero_add, Nat.reduceLeDiff, true_and]
    refine ⟨by decide, ⟨by omega, by omega⟩, mo_w hl ho (by omega) (fun I1 f1 f2 => ?_)⟩
    simp only [Option.toList_some, Option.toList_none, List.cons_append, List.nil_append, List.length_cons, List.length_nil, Nat.reduceAdd, Nat.zero_add, Nat.reduceLeDiff, true_and]
    exact fin _ I1 f1 f2 (by simp; omega) (by unfold om_num; rw [if_pos (by omega)]; simp)
theorem mo_pow {sc : Int × (Int → Int)} {d : Nat} {s : Int} {q : Nat → Int} {I : Nat → Int → Int} {Q : Option om_V → om_H → Prop} {c n : Int} {l : List Int} (hl : q 10 = l.length) (ho : om_ol (I 107) l) (h6 : l.length + 4 ≤ 700) (hn : 0 ≤ n ∧ n < 100) (hq : ∀ I', (∀ b, b ≠ 107 → I' b = I b) → om_ol (I' 107) (l ++ om_pow c n) → Q none (om_O s (om_qs q 10 ((l ++ om_pow c n).length : Int)), I')) : om_R sc (d + 2) 158 0 [.inr (.inl 101), .inl c, .inl n] [] (om_O s q, I) Q := by
  simp only [x_Md_writePower_0, x_Md_writePower_1]
  by_cases h0 : n ≤ 0
  · rw [if_pos h0]
    simp only [x_Md_writePower_9, x_Md_writePower_10, x_Md_writePower_11, x_Md_writePower_25]
    rw [if_pos (by omega)]
    have e : om_pow c n = [] := by
      unfold om_pow
      rw [if_neg (by omega), if_neg (by omega)]
      rfl
    have h := hq I (fun _ _ => rfl) (by rw [e, List.append_nil]; exact ho)
    rw [e, List.append_nil, om_qs_self hl] at h
    exact h
  · rw [if_neg h0]
    simp only [x_Md_writePower_4, x_Md_writePower_5, x_Md_writePower_6, rO_101, Option.toList_some, Option.toList_none, List.cons_append, List.nil_append, List.length_cons, List.length_nil, Nat.reduceAdd, Nat.zero_add, Nat.reduceLeDiff, true_and]
    refine mo_w hl ho (by omega) (fun I1 f1 f2 => ?_)
    simp only [x_Md_writePower_9, x_Md_writePower_10, x_Md_writePower_11, Option.toList_some, Option.toList_none, List.cons_append, List.nil_append, List.length_cons, List.length_nil, Nat.reduceAdd, Nat.zero_add, Nat.reduceLeDiff, true_and]
    by_cases h1 : n ≤ 1
    · rw [if_pos h1]
      simp only [x_Md_writePower_25]
      have e : om_pow c n = [c] := by
        unfold om_pow
        rw [if_pos (by omega), if_neg (by omega)]
        rfl
      have h := hq I1 f1 (by rw [e]; exact f2)
      rw [e] at h
      exact h
    · rw [if_neg h1]
      simp only [x_Md_writePower_14, x_Md_writePower_15, x_Md_writePower_17, rO_101, Option.toList_some, Option.toList_none, List.cons_append, List.nil_append, List.length_cons, List.length_nil, Nat.reduceAdd, Nat.zero_add, Nat.reduceLeDiff, true_and]
      refine mo_w om_qs_eq f2 (by simp; omega) (fun I2 f3 f4 => ?_)
      simp only [x_Md_writePower_20, x_Md_writePower_21, x_Md_writePower_22, rO_101, Option.toList_some, Option.toList_none, List.cons_append, List.nil_append, List.length_cons, List.length_nil, Nat.reduceAdd, Nat.zero_add, Nat.reduceLeDiff, true_and, om_qs_qs]
      refine mo_num om_qs_eq f4 (by simp; omega) hn (fun I3 f5 f6 => ?_)
      simp only [x_Md_writePower_25, Option.toList_some, Option.toList_none, List.cons_append, List.nil_append, List.length_cons, List.length_nil, Nat.reduceAdd, Nat.zero_add, Nat.reduceLeDiff, true_and, om_qs_qs]
      have e : l ++ [c] ++ [94] ++ om_num n = l ++ om_pow c n := by
        unfold om_pow
        rw [if_pos (by omega), if_pos (by omega)]
        simp
      rw [e] at f6 ⊢
      exact hq I3 (fun b hb => by rw [f5 b hb, f3 b hb, f1 b hb]) f6
theorem mo_trm {sc : Int × (Int → Int)} {d : Nat} {s : Int} {q : Nat → Int} {I : Nat → Int → Int} {Q : Option om_V → om_H → Prop} {r v k i : Int} {l : List Int} (hl : q 10 = l.length) (ho : om_ol (I 107) l) (h6 : l.length + 20 ≤ 700) (hv : 0 ≤ v ∧ v < 31) (hk : 0 ≤ k ∧ k < 13) (hi : 0 ≤ i ∧ i < 5) (hq : ∀ I', (∀ b, b ≠ 107 → I' b = I b) → om_ol (I' 107) (om_trm l v k i) → om_R sc (d + 3) 155 95 [.inr (.inl 101), .inl r, .inl i, .inl k, .inl v] [] (om_O s (om_qs q 10 ((om_trm l v k i).length : Int)), I') Q) : om_R sc (d + 3) 155 50 [.inr (.inl 101), .inl r, .inl i, .inl k, .inl v] [] (om_O s q, I) Q := by
  have p1 := om_pow_l 120 k
  have n1 := om_num_l v
  have fin : ∀ (l2 : List Int) (I2 : Nat → Int → Int), (∀ b, b ≠ 107 → I2 b = I b) → om_ol (I2 107) l2 → l2.length ≤ l.length + 3 → l2 ++ om_pow 120 k ++ om_pow 84 i = om_trm l v k i → om_R sc (d + 3) 155 81 [.inr (.inl 101), .inl r, .inl i, .inl k, .inl v] [] (om_O s (om_qs q 10 (l2.length : Int)), I2) Q := by
    intro l2 I2 f1 f2 f3 f4
    simp only [x_Md_show_81, x_Md_show_82, x_Md_show_84, x_Md_show_85, rO_101, Option.toList_some, Option.toList_none, List.cons_append, List.nil_append, List.length_cons, List.length_nil, Nat.reduceAdd, Nat.zero_add, Nat.reduceLeDiff, true_and]
    refine mo_pow om_qs_eq f2 (by omega) (by omega) (fun I3 f5 f6 => ?_)
    simp only [x_Md_show_88, x_Md_show_89, x_Md_show_91, x_Md_show_92, rO_101, Option.toList_some, Option.toList_none, List.cons_append, List.nil_append, List.length_cons, List.length_nil, Nat.reduceAdd, Nat.zero_add, Nat.reduceLeDiff, true_and, om_qs_qs]
    refine mo_pow om_qs_eq f6 (by simp; omega) (by omega) (fun I4 f7 f8 => ?_)
    simp only [Option.toList_some, Option.toList_none, List.cons_append, List.nil_append, List.length_cons, List.length_nil, Nat.reduceAdd, Nat.zero_add, Nat.reduceLeDiff, true_and, om_qs_qs]
    rw [f4] at f8 ⊢
    exact hq I4 (fun b hb => by rw [f7 b hb, f5 b hb, f1 b hb]) f8
  have mid : ∀ (l1 : List Int) (I1 : Nat → Int → Int), (∀ b, b ≠ 107 → I1 b = I b) → om_ol (I1 107) l1 → l1.length ≤ l.length + 1 → l1 = l ++ (if l = [] then [] else [43]) → om_R sc (d + 3) 155 63 [.inr (.inl 101), .inl r, .inl i, .inl k, .inl v] [] (om_O s (om_qs q 10 (l1.length : Int)), I1) Q := by
    intro l1 I1 f1 f2 f3 f4
    have wr : (v ≠ 1 ∨ k + i = 0) → om_R sc (d + 3) 155 75 [.inr (.inl 101), .inl r, .inl i, .inl k, .inl v] [] (om_O s (om_qs q 10 (l1.length : Int)), I1) Q := by
      intro hc
      simp only [x_Md_show_75, x_Md_show_76, x_Md_show_78, rO_101, Option.toList_some, Option.toList_none, List.cons_append, List.nil_append, List.length_cons, List.length_nil, Nat.reduceAdd, Nat.zero_add, Nat.reduceLeDiff, true_and]
      refine mo_num om_qs_eq f2 (by omega) (by omega) (fun I2 f5 f6 => ?_)
      simp only [Option.toList_some, Option.toList_none, List.cons_append, List.nil_append, List.length_cons, List.length_nil, Nat.reduceAdd, Nat.zero_add, Nat.reduceLeDiff, true_and, om_qs_qs]
      exact fin _ I2 (fun b hb => by rw [f5 b hb, f1 b hb]) f6 (by simp; omega) (by unfold om_trm; rw [if_pos hc, ← f4])
    simp only [x_Md_show_63, x_Md_show_65, x_Md_show_66]
    by_cases h1 : v = 1
    · rw [if_pos h1]
      simp only [x_Md_show_69, x_Md_show_70, x_Md_show_71, x_Md_show_72]
      refine ⟨⟨by omega, by omega⟩, ?_⟩
      by_cases h2 : k + i = 0
      · rw [if_pos h2]
        exact wr (Or.inr h2)
      · rw [if_neg h2]
        exact fin l1 I1 f1 f2 (by omega) (by unfold om_trm; rw [if_neg (show ¬ (v ≠ 1 ∨ k + i = 0) by omega), ← f4, List.append_nil])
    · rw [if_neg h1]
      exact wr (Or.inl h1)
  simp only [x_Md_show_50, x_Md_show_51, x_Md_show_54, gO_101_9]
  by_cases h0 : q 10 ≤ 0
  · rw [if_pos h0]
    have el : l = [] := List.eq_nil_of_length_eq_zero (by omega)
    have h := mid l I (fun _ _ => rfl) ho (by omega) (by rw [el]; rfl)
    rw [om_qs_self hl] at h
    exact h
  · rw [if_neg h0]
    have el : ¬ l = [] := fun e => h0 (by rw [hl, e]; decide)
    simp only [x_Md_show_57, x_Md_show_58, x_Md_show_60, rO_101, Option.toList_some, Option.toList_none, List.cons_append, List.nil_append, List.length_cons, List.length_nil, Nat.reduceAdd, Nat.zero_add, Nat.reduceLeDiff, true_and]
    refine mo_w hl ho (by omega) (fun I1 f1 f2 => ?_)
    simp only [Option.toList_some, Option.toList_none, List.cons_append, List.nil_append, List.length_cons, List.length_nil, Nat.reduceAdd, Nat.zero_add, Nat.reduceLeDiff, true_and]
    exact mid _ I1 f1 f2 (by simp) (by rw [if_neg el])
theorem mo_shk {sc : Int × (Int → Int)} {d : Nat} {s : Int} {q : Nat → Int} {Q : Option om_V → om_H → Prop} {r i : Int} (hr : 0 ≤ r ∧ r < 8) (hi : 0 ≤ i ∧ i < 5) {A : Int → Int → Int} (rA : om_r31 A) (K : List Int → (Nat → Int → Int) → Prop) (hK : ∀ l I' x, K l I' → om_R sc (d + 3) 155 101 [.inr (.inl 101), .inl r, .inl i, .inl (-1), x] [] (om_O s (om_qs q 10 (l.length : Int)), I') Q) : ∀ (k : Nat) (x : om_V) (l : List Int) (I : Nat → Int → Int), k ≤ 13 → l.length + 10 * k ≤ 650 → om_hd I r = A → om_ol (I 107) l → (∀ I', (∀ b, b ≠ 107 → I' b = I b) → om_ol (I' 107) (om_shk A i k l) → K (om_shk A i k l) I') → om_R sc (d + 3) 155 23 [.inr (.inl 101), .inl r, .inl i, .inl ((k : Int) - 1), x] [] (om_O s (om_qs q 10 (l.length : Int)), I) Q := by
  intro k
  induction k with
  | zero =>
    intro x l I h1 h2 hA ho hq
    simp only [x_Md_show_23, x_Md_show_24]
    rw [if_pos (by omega)]
    have h := hK l I x (hq I (fun _ _ => rfl) ho)
    simpa using h
  | succ k ih =>
    intro x l I h1 h2 hA ho hq
    have em : ((k + 1 : Nat) : Int) - 1 = k := by omega
    rw [em]
    simp only [x_Md_show_23, x_Md_show_24]
    rw [if_neg (by omega)]
    have e : I 102 (65 * r + 13 * i + k) = A i k := by
      rw [← hA]
      exact (if_pos (by omega)).symm
    simp only [x_Md_show_27, x_Md_show_28, x_Md_show_31, x_Md_show_33, x_Md_show_34, x_Md_show_35, x_Md_show_37, x_Md_show_38, x_Md_show_39, x_Md_show_40, x_Md_show_41, x_Md_show_42, x_Md_show_43, x_Md_show_45, x_Md_show_47, gO_101_1, aO_102, e]
    refine ⟨⟨by omega, by omega⟩, ⟨by omega, by omega⟩, ⟨by omega, by omega⟩, ⟨by omega, by omega⟩, ⟨by omega, by omega⟩, ?_⟩
    unfold om_shk at hq
    by_cases hz : A i k = 0
    · rw [if_pos hz]
      rw [if_pos hz] at hq
      simp only [x_Md_show_95, x_Md_show_98]
      exact ⟨⟨by omega, by omega⟩, ih _ l I (by omega) (by omega) hA ho hq⟩
    · rw [if_neg hz]
      rw [if_neg hz] at hq
      refine mo_trm om_qs_eq ho (by omega) (rA i k) (by omega) hi (fun I1 f1 f2 => ?_)
      have tl := om_trm_l l (A i k) k (i := i) (by omega)
      simp only [x_Md_show_95, x_Md_show_98, om_qs_qs]
      refine ⟨⟨by omega, by omega⟩, ih _ _ I1 (by omega) (by omega) ?_ f2 (fun I' f3 f4 => hq I' (fun b hb => by rw [f3 b hb, f1 b hb]) f4)⟩
      rw [← hA]
      funext i' k'
      unfold om_hd
      rw [f1 102 (by decide)]
theorem mo_shi {sc : Int × (Int → Int)} {d : Nat} {s : Int} {q : Nat → Int} {Q : Option om_V → om_H → Prop} {r : Int} (hr : 0 ≤ r ∧ r < 8) {A : Int → Int → Int} (rA : om_r31 A) : ∀ (i : Nat) (x y : om_V) (l : List Int) (I : Nat → Int → Int), i ≤ 5 → l.length + 130 * i ≤ 650 → om_hd I r = A → om_ol (I 107) l → (∀ I', (∀ b, b ≠ 107 → I' b = I b) → om_ol (I' 107) (if om_shi A i l = [] then [48] else om_shi A i l) → Q (some (.inl ((if om_shi A i l = [] then [48] else om_shi A i l).length : Int))) (om_O s (om_qs q 10 ((if om_shi A i l = [] then [48] else om_shi A i l).length : Int)), I')) → om_R sc (d + 3) 155 16 [.inr (.inl 101), .inl r, .inl ((i : Int) - 1), x, y] [] (om_O s (om_qs q 10 (l.length : Int)), I) Q := by
  intro i
  induction i with
  | zero =>
    intro x y l I h1 h2 hA ho hq
    simp only [x_Md_show_16, x_Md_show_17]
    rw [if_pos (by omega)]
    simp only [x_Md_show_107, x_Md_show_108, x_Md_show_111, gO_101_9, om_qs_eq]
    unfold om_shi at hq
    by_cases hl : l = []
    · subst hl
      simp only [List.length_nil, Int.ofNat_zero, Int.cast_ofNat_Int, if_true] at hq ⊢
      simp only [x_Md_show_114, x_Md_show_115, x_Md_show_117, rO_101, Option.toList_some, Option.toList_none, List.cons_append, List.nil_append, List.length_cons, List.length_nil, Nat.reduceAdd, Nat.zero_add, Nat.reduceLeDiff, true_and]
      refine mo_w (l := []) om_qs_eq ho (by decide) (fun I1 f1 f2 => ?_)
      simp only [x_Md_show_120, x_Md_show_121, x_Md_show_124, gO_101_9, om_qs_eq, Option.toList_some, Option.toList_none, List.cons_append, List.nil_append, List.length_cons, List.length_nil, Nat.reduceAdd, Nat.zero_add, Nat.reduceLeDiff, true_and, om_qs_qs]
      exact hq I1 f1 f2
    · rw [if_neg hl] at hq
      rw [if_neg (by
        intro e
        exact hl (List.eq_nil_of_length_eq_zero (by omega)))]
      simp only [x_Md_show_120, x_Md_show_121, x_Md_show_124, gO_101_9, om_qs_eq]
      exact hq I (fun _ _ => rfl) ho
  | succ i ih =>
    intro x y l I h1 h2 hA ho hq
    have em : ((i + 1 : Nat) : Int) - 1 = i := by omega
    rw [em]
    simp only [x_Md_show_16, x_Md_show_17, x_Md_show_20, x_Md_show_22]
    rw [if_neg (by omega)]
    have kl := om_shk_l (A := A) (i := i) (by omega) 13 l
    have h := mo_shk (sc := sc) (d := d) (s := s) (q := q) (Q := Q) hr (i := i) (by omega) rA (fun l1 I1 => l1 = om_shk A i 13 l ∧ (∀ b, b ≠ 107 → I1 b = I b) ∧ om_ol (I1 107) l1) (fun l1 I1 x ⟨g0, g1, g2⟩ => ?_) 13 y l I (by omega) (by omega) hA ho (fun I1 f1 f2 => ⟨rfl, f1, f2⟩)
    · simpa using h
    · simp only [x_Md_show_101, x_Md_show_104]
      refine ⟨⟨by omega, by omega⟩, ih _ _ l1 I1 (by omega) (by rw [g0]; omega) ?_ g2 (fun I' f3 f4 => ?_)⟩
      · rw [← hA]
        funext i' k'
        unfold om_hd
        rw [g1 102 (by decide)]
      · rw [g0] at f4 ⊢
        exact hq I' (fun b hb => by rw [f3 b hb, g1 b hb]) f4
theorem md_show {sc : Int × (Int → Int)} {d : Nat} {s : Int} {q : Nat → Int} {I : Nat → Int → Int} {Q : Option om_V → om_H → Prop} {r : Int} (rA : ∀ r, 0 ≤ r → r < 8 → om_r31 (om_hd I r)) (h0 : ¬ (0 ≤ r ∧ r < 8) → Q (some (.inl (-1))) (om_O s q, I)) (h1 : 0 ≤ r ∧ r < 8 → ∀ I', (∀ b, b ≠ 107 → I' b = I b) → om_ol (I' 107) (om_shw (om_hd I r)) → Q (some (.inl ((om_shw (om_hd I r)).length : Int))) (om_O s (om_qs q 10 ((om_shw (om_hd I r)).length : Int)), I')) : om_R sc (d + 3) 155 0 [.inr (.inl 101), .inl r, om_un, om_un, om_un] [] (om_O s q, I) Q := by
  have n10 : ¬ (1 : Int) = 0 := by decide
  simp only [x_Md_show_0, x_Md_show_1, Option.toList_some, Option.toList_none, List.cons_append, List.nil_append, List.length_cons, List.length_nil, Nat.reduceAdd, Nat.zero_add, Nat.reduceLeDiff, true_and]
  refine md_isRegister (fun hr => ?_) (fun hr => ?_)
  · simp only [x_Md_show_4, x_Md_show_7, x_Md_show_8, x_Md_show_9, x_Md_show_10, x_Md_show_11, Option.toList_some, Option.toList_none, List.cons_append, List.nil_append, List.length_cons, List.length_nil, Nat.reduceAdd, Nat.zero_add, Nat.reduceLeDiff, true_and, if_neg n10, pO_101_9 155 0 rfl]
    simp only [x_Md_show_14, x_Md_show_15]
    have h := mo_shi (sc := sc) (d := d) (s := s) (q := q) (Q := Q) hr (rA r hr.1 hr.2) 5 om_un om_un [] I (by omega) (by decide) rfl (fun z hz => absurd hz (by simp)) (fun I' f1 f2 => h1 hr I' f1 f2)
    simpa using h
  · simp only [x_Md_show_4, x_Md_show_7, x_Md_show_8, Option.toList_some, Option.toList_none, List.cons_append, List.nil_append, List.length_cons, List.length_nil, Nat.reduceAdd, Nat.zero_add, Nat.reduceLeDiff, true_and, if_true]
    exact h0 hr
