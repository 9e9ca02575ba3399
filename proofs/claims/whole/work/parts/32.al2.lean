/-! the class's algebra: what an operator makes of a polynomial -/
def om_D (s : Int) (F : Int → Int → Int) (j k : Int) : Int := if j = 0 then (if s = 0 then ((k + 1) * F 0 (k + 1)) % 31 else om_sh (F 0) k) else F j k
theorem om_D_r {s : Int} {F : Int → Int → Int} (h : om_r31 F) : om_r31 (om_D s F) := by
  intro j k
  unfold om_D
  split
  · split
    · omega
    · exact om_sh_b (h 0) k
  · exact h j k
theorem om_D_su {s w : Int} {F : Int → Int → Int} (h : om_su 1 w F) (hw : w ≤ 64) : om_su 1 w (om_D s F) := by
  intro j k hn
  unfold om_D
  split
  · rename_i hj
    split
    · by_cases hk : k = -1
      · subst hk
        simp
      · rw [h 0 (k + 1) (by omega), Int.mul_zero]
        rfl
    · exact om_sh_o (fun k hk => h 0 k (by omega)) hw k (by omega)
  · exact h j k hn
def om_Di (s : Int) (F : Int → Int → Int) : Nat → Int → Int → Int
  | 0 => F
  | n + 1 => om_D s (om_Di s F n)
theorem om_Di_su {s w : Int} {F : Int → Int → Int} (h : om_su 1 w F) (hw : w ≤ 64) : ∀ n : Nat, om_su 1 w (om_Di s F n)
  | 0 => h
  | n + 1 => om_D_su (om_Di_su h hw n) hw
theorem om_Di_r {s : Int} {F : Int → Int → Int} (h : om_r31 F) : ∀ n : Nat, om_r31 (om_Di s F n)
  | 0 => h
  | n + 1 => om_D_r (om_Di_r h n)
/-- what the operator A makes of the polynomial F (its row 0) -/
def om_img (s : Int) (A F : Int → Int → Int) (n : Nat) (j k : Int) : Int := om_sm (fun i => om_cv (A i) (om_Di s F i.toNat) j k) n % 31
theorem om_img_o {s : Int} {A F : Int → Int → Int} (hA : om_su 5 13 A) (hF : om_su 1 13 F) (n : Nat) : om_su 1 25 (om_img s A F n) := by
  intro j k h
  unfold om_img
  rw [om_sm_0]
  · rfl
  · intro i i1 i2
    exact om_cv_o (w := 13) (o := 1) (w' := 13) (fun q hq => hA i q (by omega)) (om_Di_su hF (by omega) i.toNat) j k (by omega)
theorem om_img_r {s : Int} {A F : Int → Int → Int} (n : Nat) : om_r31 (om_img s A F n) := fun j k => by unfold om_img; omega
theorem om_img_5 {s : Int} {A F : Int → Int → Int} {n : Nat} (hn : n ≤ 5) (h : ∀ i k, (n : Int) ≤ i → A i k = 0) : om_img s A F n = om_img s A F 5 := by
  funext j k
  unfold om_img
  rw [show 5 = n + (5 - n) by omega, om_sm_n]
  intro i q1 q2
  exact om_sm_0 (fun q _ _ => by
    show A i q * om_Di s F i.toNat j (k - q) = 0
    rw [h i q (by omega), Int.zero_mul])
theorem om_or_n {A : Int → Int → Int} (hA : om_su 5 13 A) : ∀ i k, om_or 5 13 A + 1 ≤ i → A i k = 0 := by
  intro i k hi
  have hb := om_top_b (fun i => decide (0 ≤ om_dg 13 A i)) (5 : Int).toNat
  by_cases hin : 0 ≤ i ∧ i < 5 ∧ 0 ≤ k ∧ k < 13
  · have h1 := om_top_n (p := fun i => decide (0 ≤ om_dg 13 A i)) (n := (5 : Int).toNat) (k := i) (by unfold om_or at hi; omega) (by omega)
    simp only [decide_eq_false_iff_not] at h1
    exact om_dg_n.mp (by omega) k hin.2.2.1 hin.2.2.2
  · exact hA i k hin
theorem om_or_b {A : Int → Int → Int} : -1 ≤ om_or 5 13 A ∧ om_or 5 13 A ≤ 4 := by
  have hb := om_top_b (fun i => decide (0 ≤ om_dg 13 A i)) (5 : Int).toNat
  unfold om_or
  omega
theorem al_image_l {sc : Int × (Int → Int)} {d : Nat} {s : Int} {q : Nat → Int} {Q : Option om_V → om_H → Prop} {a f ca : Nat} {n : Int} (hs : s = 0 ∨ s = 1) (ha : om_op (om_O s q) a ca 5 13) (na : ca ≠ 22) (na4 : ca ≠ 24) {A F : Int → Int → Int} (hA : om_su 5 13 A) (rA : om_r31 A) (hF : om_su 1 13 F) (rF : om_r31 F) (hn : n = om_or 5 13 A) : ∀ (m i : Nat) (I : Nat → Int → Int), (i : Int) + m = n + 1 → om_tb 5 13 (I ca) = A → om_tb 9 25 (I 22) = om_img s A F i → om_tb 9 25 (I 24) = om_Di s F i → (∀ I', (∀ b, b ≠ 22 → b ≠ 24 → I' b = I b) → om_tb 9 25 (I' 22) = om_img s A F 5 → Q (some (.inr (.inl 21))) (om_O s q, I')) → om_R sc (d + 2) 54 32 [.inr (.inl 20), .inr (.inl a), .inr (.inl f), .inl n, .inl (i : Int)] [] (om_O s q, I) Q := by
  have g21 := (om_op_g (oO_21 (s := s) (q := q))).2.2.2
  have g23 := (om_op_g (oO_23 (s := s) (q := q))).2.2.2
  have hn0 := om_or_n hA
  have hn5 := om_or_b (A := A)
  rw [← hn] at hn0 hn5
  intro m
  induction m with
  | zero =>
    intro i I h1 hAI hR hT hq
    simp only [x_Al_image_32, x_Al_image_34, x_Al_image_35, x_Al_image_70, x_Al_image_71, x_Al_image_74, gO_20_1]
    rw [if_pos (by omega)]
    exact hq I (fun _ _ _ => rfl) (by rw [hR]; exact om_img_5 (by omega) (fun i k hi => hn0 i k (by omega)))
  | succ m ih =>
    intro i I h1 hAI hR hT hq
    simp only [x_Al_image_32, x_Al_image_34, x_Al_image_35]
    rw [if_neg (by omega)]
    simp only [x_Al_image_38, x_Al_image_39, x_Al_image_42, x_Al_image_43, x_Al_image_45, x_Al_image_46, x_Al_image_47, x_Al_image_50, gO_20_1, gO_20_2, g21, Option.toList_some, Option.toList_none, List.cons_append, List.nil_append, List.length_cons, List.length_nil, Nat.reduceAdd, Nat.zero_add, Nat.reduceLeDiff, true_and]
    have suT := om_Di_su (s := s) hF (by omega) i
    refine op_prt oO_21 ha oO_23 (by decide) na (by omega) (by decide) (by rw [hR]; exact om_img_r i) (by rw [hAI]; exact rA) (by rw [hT]; exact om_Di_r rF i) (fun I1 f1 f2 => ?_)
    rw [hAI, hT, hR] at f2
    have e1 : om_tb 9 25 (I1 22) = om_img s A F (i + 1) := by
      rw [om_prt_cv hA rA suT (om_su_le (om_img_o hA hF i) (by omega) (Int.le_refl _)) (om_img_r i) (by omega) (by omega) f2]
      funext j k
      show (om_sm _ i % 31 + om_cv (A i) (om_Di s F i) j k) % 31 = (om_sm _ i + om_cv (A i) (om_Di s F (i : Int).toNat) j k) % 31
      rw [Int.toNat_natCast]
      omega
    have hT1 : om_tb 9 25 (I1 24) = om_Di s F i := by rw [f1 24 (by decide)]; exact hT
    simp only [x_Al_image_53, x_Al_image_54, x_Al_image_57, x_Al_image_58, x_Al_image_61, gO_20_2, gO_20_0, g23, Option.toList_some, Option.toList_none, List.cons_append, List.nil_append, List.length_cons, List.length_nil, Nat.reduceAdd, Nat.zero_add, Nat.reduceLeDiff, true_and]
    refine op_act oO_23 (by rw [hT1]; exact om_Di_r rF i) (fun I2 f3 f4 => ?_)
    rw [hT1] at f4
    have e2 : om_tb 9 25 (I2 24) = om_Di s F (i + 1) := by
      funext j k
      rw [f4 j k]
      show _ = om_D s (om_Di s F i) j k
      unfold om_D
      by_cases hj : j = 0
      · rw [if_pos hj, if_pos hj]
        by_cases hs0 : s = 0
        · rw [if_pos hs0, if_pos hs0]
          by_cases hk : 0 ≤ k ∧ k < 25
          · rw [if_pos hk]
          · rw [if_neg hk]
            by_cases hk1 : k = -1
            · subst hk1
              simp
            · rw [suT 0 (k + 1) (by omega), Int.mul_zero]
              rfl
        · rw [if_neg hs0, if_neg hs0]
          rw [om_sh_w (w := 25) (fun k hk => suT 0 k (by omega)) (by omega)]
      · rw [if_neg hj, if_neg hj]
    simp only [x_Al_image_64, x_Al_image_67, Option.toList_some, Option.toList_none, List.cons_append, List.nil_append, List.length_cons, List.length_nil, Nat.reduceAdd, Nat.zero_add, Nat.reduceLeDiff, true_and]
    refine ⟨⟨by omega, by omega⟩, ?_⟩
    have h := ih (i + 1) I2 (by omega) (by rw [f3 ca na4, f1 ca na]; exact hAI) (by rw [f3 22 (by decide)]; exact e1) e2 (fun I' f5 f6 => hq I' (fun b b1 b2 => by rw [f5 b b1 b2, f3 b b2, f1 b b1]) f6)
    simpa using h
/-- row 0 of a table -/
def om_r0 (A : Int → Int → Int) (j k : Int) : Int := if j = 0 then A 0 k else 0
theorem om_r0_su {A : Int → Int → Int} {o w : Int} (h : om_su o w A) : om_su 1 w (om_r0 A) := by
  intro j k hn
  unfold om_r0
  split
  · exact h 0 k (by omega)
  · rfl
theorem om_r0_r {A : Int → Int → Int} (h : om_r31 A) : om_r31 (om_r0 A) := by
  intro j k
  unfold om_r0
  split
  · exact h 0 k
  · omega
theorem al_image {sc : Int × (Int → Int)} {d : Nat} {s : Int} {q : Nat → Int} {I : Nat → Int → Int} {Q : Option om_V → om_H → Prop} {a f ca cf : Nat} {of : Int} (hs : s = 0 ∨ s = 1) (ha : om_op (om_O s q) a ca 5 13) (hf : om_op (om_O s q) f cf of 13) (na : ca ≠ 22) (na4 : ca ≠ 24) (nf : cf ≠ 22) (nf4 : cf ≠ 24) (rA : om_r31 (om_tb 5 13 (I ca))) (rF : om_r31 (om_tb of 13 (I cf))) (hq : ∀ I', (∀ b, b ≠ 22 → b ≠ 24 → I' b = I b) → om_tb 9 25 (I' 22) = om_img s (om_tb 5 13 (I ca)) (om_r0 (om_tb of 13 (I cf))) 5 → Q (some (.inr (.inl 21))) (om_O s q, I')) : om_R sc (d + 3) 54 0 [.inr (.inl 20), .inr (.inl a), .inr (.inl f), om_un, om_un] [] (om_O s q, I) Q := by
  have g21 := (om_op_g (oO_21 (s := s) (q := q))).2.2.2
  have g23 := (om_op_g (oO_23 (s := s) (q := q))).2.2.2
  have ga := (om_op_g ha).2.2.2
  simp only [x_Al_image_0, x_Al_image_1, ga, Option.toList_some, Option.toList_none, List.cons_append, List.nil_append, List.length_cons, List.length_nil, Nat.reduceAdd, Nat.zero_add, Nat.reduceLeDiff, true_and]
  refine op_topOrder ha ?_
  simp only [x_Al_image_4, x_Al_image_5, x_Al_image_6, x_Al_image_9, gO_20_1, g21, Option.toList_some, Option.toList_none, List.cons_append, List.nil_append, List.length_cons, List.length_nil, Nat.reduceAdd, Nat.zero_add, Nat.reduceLeDiff, true_and]
  refine op_wipe oO_21 (fun I1 f1 f2 => ?_)
  simp only [x_Al_image_12, x_Al_image_13, x_Al_image_16, gO_20_2, g23, Option.toList_some, Option.toList_none, List.cons_append, List.nil_append, List.length_cons, List.length_nil, Nat.reduceAdd, Nat.zero_add, Nat.reduceLeDiff, true_and]
  refine op_wipe oO_23 (fun I2 f3 f4 => ?_)
  simp only [x_Al_image_19, x_Al_image_20, x_Al_image_23, x_Al_image_24, x_Al_image_25, x_Al_image_26, gO_20_2, g23, Option.toList_some, Option.toList_none, List.cons_append, List.nil_append, List.length_cons, List.length_nil, Nat.reduceAdd, Nat.zero_add, Nat.reduceLeDiff, true_and]
  refine op_copyRow oO_23 hf nf4 (by decide) (fun I3 f5 f6 => ?_)
  simp only [x_Al_image_29, x_Al_image_30, Option.toList_some, Option.toList_none, List.cons_append, List.nil_append, List.length_cons, List.length_nil, Nat.reduceAdd, Nat.zero_add, Nat.reduceLeDiff, true_and]
  rw [f3 cf nf4, f1 cf nf, f4] at f6
  have e1 : om_tb 9 25 (I3 24) = om_r0 (om_tb of 13 (I cf)) := by
    funext i k
    rw [f6 i k]
    unfold om_r0
    have := rF 0 k
    by_cases hi : i = 0
    · rw [if_pos hi]
      by_cases hk : 0 ≤ k ∧ k < 25
      · rw [if_pos ⟨hi, hk⟩]
        omega
      · rw [if_neg (fun q => hk q.2), om_tb_out (by omega)]
    · rw [if_neg (fun q => hi q.1), if_neg hi]
  have hbb := om_or_b (A := om_tb 5 13 (I ca))
  have h := al_image_l (sc := sc) (d := d + 1) (f := f) (Q := Q) hs ha na na4 om_tb_su rA (om_r0_su om_tb_su) (om_r0_r rF) rfl (om_or 5 13 (om_tb 5 13 (I ca)) + 1).toNat 0 I3 (by omega) (by rw [f5 ca na4, f3 ca na4, f1 ca na]) (by
    rw [f5 22 (by decide), f3 22 (by decide), f2]
    rfl) e1 (fun I' f7 f8 => hq I' (fun b b1 b2 => by rw [f7 b b1 b2, f5 b b2, f3 b b2, f1 b b1]) f8)
  simpa using h
