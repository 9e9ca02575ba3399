/-! the call divide, on both sides -/
def on_cd (B : Int → Int → Int) : Prop := om_dg 13 B (om_or 5 13 B) = 0
def om_vq (s : Int) (A B : Int → Int → Int) : Int → Int → Int := om_dq s B (om_or 5 13 B) (om_pw (B (om_or 5 13 B) 0) 29) (5 - om_or 5 13 B).toNat A
def om_vr (s : Int) (A B : Int → Int → Int) : Int → Int → Int := om_dr s B (om_or 5 13 B) (om_pw (B (om_or 5 13 B) 0) 29) (5 - om_or 5 13 B).toNat A
theorem om_dg_e {o w w' i : Int} {A : Int → Int → Int} (h : om_su o w A) (h0 : 0 ≤ w) (h3 : w ≤ w') : om_dg w' A i = om_dg w A i := by
  unfold om_dg
  have b := om_top_b (fun k => decide (A i k ≠ 0)) w.toNat
  refine om_top_eq b.1 (by omega) (fun h0 => om_top_p (p := fun k => decide (A i k ≠ 0)) h0) (fun k k1 k2 => ?_)
  by_cases hk : k < w.toNat
  · exact om_top_n (p := fun k => decide (A i k ≠ 0)) (n := w.toNat) k1 hk
  · simp only [ne_eq, decide_not, Bool.not_eq_eq_eq_not, Bool.not_false, decide_eq_true_eq]
    exact h i k (by omega)
theorem on_cd_n {B : Int → Int → Int} (hB : om_su 5 13 B) (h : on_cd B) : 0 ≤ om_or 5 13 B ∧ B (om_or 5 13 B) 0 ≠ 0 ∧ ∀ k, k ≠ 0 → B (om_or 5 13 B) k = 0 := by
  have b := om_or_b (A := B)
  unfold on_cd om_dg at h
  have h1 := om_top_p (p := fun k => decide (B (om_or 5 13 B) k ≠ 0)) (n := (13 : Int).toNat) (by omega)
  rw [h] at h1
  simp only [decide_eq_true_eq] at h1
  refine ⟨?_, h1, fun k hk => ?_⟩
  · refine Decidable.byContradiction (fun q => h1 (hB _ 0 (by omega)))
  · by_cases hk2 : 0 ≤ k ∧ k < 13
    · have h2 := om_top_n (p := fun k => decide (B (om_or 5 13 B) k ≠ 0)) (n := (13 : Int).toNat) (k := k) (by omega) (by omega)
      simp only [decide_eq_false_iff_not, ne_eq, Decidable.not_not] at h2
      exact h2
    · exact hB _ k (by omega)
theorem dv_canDivideBy {sc : Int × (Int → Int)} {d : Nat} {s : Int} {q : Nat → Int} {I : Nat → Int → Int} {Q : Option om_V → om_H → Prop} {b cb : Nat} (hb : om_op (om_O s q) b cb 5 13) (h1 : on_cd (om_tb 5 13 (I cb)) → Q (some (.inl 1)) (om_O s q, I)) (h0 : ¬ on_cd (om_tb 5 13 (I cb)) → Q (some (.inl 0)) (om_O s q, I)) : om_R sc (d + 2) 58 0 [.inr (.inl b)] [] (om_O s q, I) Q := by
  have gb := (om_op_g hb).2.2.2
  simp only [x_Dv_canDivideBy_0, x_Dv_canDivideBy_1, x_Dv_canDivideBy_2, gb, Option.toList_some, Option.toList_none, List.cons_append, List.nil_append, List.length_cons, List.length_nil, Nat.reduceAdd, Nat.zero_add, Nat.reduceLeDiff, true_and]
  refine op_topOrder hb ?_
  simp only [x_Dv_canDivideBy_5, gb, Option.toList_some, Option.toList_none, List.cons_append, List.nil_append, List.length_cons, List.length_nil, Nat.reduceAdd, Nat.zero_add, Nat.reduceLeDiff, true_and]
  refine op_topDegree hb ?_
  simp only [x_Dv_canDivideBy_8, x_Dv_canDivideBy_11, x_Dv_canDivideBy_12, x_Dv_canDivideBy_15, x_Dv_canDivideBy_16, Option.toList_some, Option.toList_none, List.cons_append, List.nil_append, List.length_cons, List.length_nil, Nat.reduceAdd, Nat.zero_add, Nat.reduceLeDiff, true_and]
  by_cases h : on_cd (om_tb 5 13 (I cb))
  · have h2 : om_top (fun k => decide (om_tb 5 13 (I cb) (om_or 5 13 (om_tb 5 13 (I cb))) k ≠ 0)) (13 : Int).toNat = 0 := h
    rw [h2]
    simp only [if_true]
    exact ⟨by decide, h1 h⟩
  · have h2 : ¬ om_top (fun k => decide (om_tb 5 13 (I cb) (om_or 5 13 (om_tb 5 13 (I cb))) k ≠ 0)) (13 : Int).toNat = 0 := h
    simp only [ne_eq, h2, not_false_eq_true, if_true, if_false]
    exact ⟨by decide, h0 h⟩
theorem or_divide {sc : Int × (Int → Int)} {d : Nat} {s : Int} {q : Nat → Int} {I : Nat → Int → Int} {Q : Option om_V → om_H → Prop} {qu re a b : Int} (rA : ∀ r, 0 ≤ r → r < 8 → om_r31 (om_cr I r)) (h0 : ¬ (((0 ≤ qu ∧ qu < 8) ∧ (0 ≤ re ∧ re < 8) ∧ (0 ≤ a ∧ a < 8)) ∧ (0 ≤ b ∧ b < 8) ∧ qu ≠ re) → Q (some (.inl (-1))) (om_O s q, I)) (h5 : ((0 ≤ qu ∧ qu < 8) ∧ (0 ≤ re ∧ re < 8) ∧ (0 ≤ a ∧ a < 8)) ∧ (0 ≤ b ∧ b < 8) ∧ qu ≠ re → ¬ on_cd (om_cr I b) → Q (some (.inl (-5))) (om_O s q, I)) (hl : ((0 ≤ qu ∧ qu < 8) ∧ (0 ≤ re ∧ re < 8) ∧ (0 ≤ a ∧ a < 8)) ∧ (0 ≤ b ∧ b < 8) ∧ qu ≠ re → on_cd (om_cr I b) → ¬ (om_ft (om_vq s (om_cr I a) (om_cr I b)) ∧ om_ft (om_vr s (om_cr I a) (om_cr I b))) → ∀ I', (∀ b, b ≠ 73 → b ≠ 75 → b ≠ 77 → I' b = I b) → Q (some (.inl (-3))) (om_O s q, I')) (h1 : ((0 ≤ qu ∧ qu < 8) ∧ (0 ≤ re ∧ re < 8) ∧ (0 ≤ a ∧ a < 8)) ∧ (0 ≤ b ∧ b < 8) ∧ qu ≠ re → on_cd (om_cr I b) → om_ft (om_vq s (om_cr I a) (om_cr I b)) ∧ om_ft (om_vr s (om_cr I a) (om_cr I b)) → ∀ I', (∀ b, b ≠ om_ca qu → b ≠ om_ca re → b ≠ 73 → b ≠ 75 → b ≠ 77 → I' b = I b) → om_cr I' qu = om_vq s (om_cr I a) (om_cr I b) → om_cr I' re = om_vr s (om_cr I a) (om_cr I b) → Q (some (.inl 0)) (om_O s q, I')) : om_R sc (d + 5) 57 0 [.inr (.inl 0), .inl qu, .inl re, .inl a, .inl b] [] (om_O s q, I) Q := by
  have n10 : ¬ (1 : Int) = 0 := by decide
  simp only [x_Or_divide_0, x_Or_divide_1, x_Or_divide_2, x_Or_divide_3, Option.toList_some, Option.toList_none, List.cons_append, List.nil_append, List.length_cons, List.length_nil, Nat.reduceAdd, Nat.zero_add, Nat.reduceLeDiff, true_and]
  refine or_areRegisters (fun hr => ?_) (fun hr => ?_)
  · simp only [x_Or_divide_6, x_Or_divide_9, x_Or_divide_11, Option.toList_some, Option.toList_none, List.cons_append, List.nil_append, List.length_cons, List.length_nil, Nat.reduceAdd, Nat.zero_add, Nat.reduceLeDiff, true_and, if_neg n10]
    refine or_isRegister (fun hb => ?_) (fun hb => ?_)
    · simp only [x_Or_divide_14, x_Or_divide_17, x_Or_divide_18, x_Or_divide_19, Option.toList_some, Option.toList_none, List.cons_append, List.nil_append, List.length_cons, List.length_nil, Nat.reduceAdd, Nat.zero_add, Nat.reduceLeDiff, true_and, if_neg n10]
      by_cases hqr : qu = re
      · have hn : ¬ qu ≠ re := fun h => h hqr
        simp only [if_pos hqr, x_Or_divide_22, x_Or_divide_23]
        exact h0 (fun h => h.2.2 hqr)
      · have hc := And.intro hr (And.intro hb hqr)
        rw [if_neg hqr]
        simp only [x_Or_divide_24, x_Or_divide_25, x_Or_divide_28, x_Or_divide_30, x_Or_divide_31, Option.toList_some, Option.toList_none, List.cons_append, List.nil_append, List.length_cons, List.length_nil, Nat.reduceAdd, Nat.zero_add, Nat.reduceLeDiff, true_and, gO_0_0, kO_reg hb.1 hb.2]
        refine dv_canDivideBy (or_reg hb) (fun hcd => ?_) (fun hcd => ?_)
        · obtain ⟨c1, c2, c3⟩ := on_cd_n om_cr_su hcd
          simp only [x_Or_divide_34, x_Or_divide_37, x_Or_divide_39, x_Or_divide_40, x_Or_divide_41, x_Or_divide_44, x_Or_divide_45, x_Or_divide_48, x_Or_divide_49, x_Or_divide_50, x_Or_divide_51, x_Or_divide_54, x_Or_divide_56, x_Or_divide_57, Option.toList_some, Option.toList_none, List.cons_append, List.nil_append, List.length_cons, List.length_nil, Nat.reduceAdd, Nat.zero_add, Nat.reduceLeDiff, true_and, if_neg n10, gO_0_0, gO_0_3, kO_reg hb.1 hb.2, kO_reg hr.2.2.1 hr.2.2.2, rO_71]
          refine dv_carryOut (or_reg hr.2.2) (or_reg hb) (by unfold om_ca; omega) (by unfold om_ca; omega) (rA a hr.2.2.1 hr.2.2.2) (rA b hb.1 hb.2) rfl c1 c2 (fun hn I1 f1 => ?_) (fun hq hrr I1 f1 f2 f3 => ?_)
          · simp only [x_Or_divide_60, x_Or_divide_63, x_Or_divide_65, Option.toList_some, Option.toList_none, List.cons_append, List.nil_append, List.length_cons, List.length_nil, Nat.reduceAdd, Nat.zero_add, Nat.reduceLeDiff, true_and, if_true]
            exact hl hc hcd hn I1 f1
          · have gq := (om_op_g (or_reg (s := s) (q := q) hr.1)).2.2.2
            have gr := (om_op_g (or_reg (s := s) (q := q) hr.2.1)).2.2.2
            simp only [x_Or_divide_60, x_Or_divide_63, x_Or_divide_65, x_Or_divide_66, x_Or_divide_67, x_Or_divide_70, x_Or_divide_71, x_Or_divide_72, x_Or_divide_73, x_Or_divide_76, x_Or_divide_79, Option.toList_some, Option.toList_none, List.cons_append, List.nil_append, List.length_cons, List.length_nil, Nat.reduceAdd, Nat.zero_add, Nat.reduceLeDiff, true_and, if_neg n10, gO_0_0, gO_0_3, gO_71_1, kO_reg hr.1.1 hr.1.2, gq]
            refine op_become (or_reg hr.1) oO_72 (by unfold om_ca; omega) (fun I2 f4 f5 => ?_)
            simp only [x_Or_divide_82, x_Or_divide_83, x_Or_divide_86, x_Or_divide_87, x_Or_divide_88, x_Or_divide_89, x_Or_divide_92, x_Or_divide_95, Option.toList_some, Option.toList_none, List.cons_append, List.nil_append, List.length_cons, List.length_nil, Nat.reduceAdd, Nat.zero_add, Nat.reduceLeDiff, true_and, gO_0_0, gO_0_3, gO_71_2, kO_reg hr.2.1.1 hr.2.1.2, gr]
            refine op_become (or_reg hr.2.1) oO_74 (by unfold om_ca; omega) (fun I3 f6 f7 => ?_)
            simp only [x_Or_divide_98, x_Or_divide_99, Option.toList_some, Option.toList_none, List.cons_append, List.nil_append, List.length_cons, List.length_nil, Nat.reduceAdd, Nat.zero_add, Nat.reduceLeDiff, true_and]
            refine h1 hc hcd ⟨hq, hrr⟩ I3 (fun b b1 b2 b3 b4 b5 => by rw [f6 b b2, f4 b b1, f1 b b3 b4 b5]) ?_ ?_
            · funext i k
              have hne : om_ca qu ≠ om_ca re := by unfold om_ca; omega
              have e : om_cr I3 qu i k = om_tb 5 13 (I2 (om_ca qu)) i k := by unfold om_cr; rw [f6 _ hne]
              rw [e, f5 i k, f2]
              split
              · rfl
              · rename_i hno
                exact (Decidable.byContradiction (fun qq => hno (by have := hq i k qq; omega)) : _ = (0 : Int)).symm
            · funext i k
              have e75 : I2 75 = I1 75 := f4 75 (by unfold om_ca; omega)
              have e : om_cr I3 re i k = om_tb 5 13 (I3 (om_ca re)) i k := rfl
              rw [e, f7 i k, e75, f3]
              split
              · rfl
              · rename_i hno
                exact (Decidable.byContradiction (fun qq => hno (by have := hrr i k qq; omega)) : _ = (0 : Int)).symm
        · simp only [x_Or_divide_34, x_Or_divide_37, x_Or_divide_39, Option.toList_some, Option.toList_none, List.cons_append, List.nil_append, List.length_cons, List.length_nil, Nat.reduceAdd, Nat.zero_add, Nat.reduceLeDiff, true_and, if_true]
          exact h5 hc hcd
    · simp only [x_Or_divide_14, x_Or_divide_17, x_Or_divide_18, x_Or_divide_19, x_Or_divide_22, x_Or_divide_23, Option.toList_some, Option.toList_none, List.cons_append, List.nil_append, List.length_cons, List.length_nil, Nat.reduceAdd, Nat.zero_add, Nat.reduceLeDiff, true_and, if_true]
      exact h0 (fun q => hb q.2.1)
  · simp only [x_Or_divide_6, x_Or_divide_9, x_Or_divide_11, x_Or_divide_14, x_Or_divide_17, x_Or_divide_18, x_Or_divide_19, x_Or_divide_22, x_Or_divide_23, Option.toList_some, Option.toList_none, List.cons_append, List.nil_append, List.length_cons, List.length_nil, Nat.reduceAdd, Nat.zero_add, Nat.reduceLeDiff, true_and, if_true]
    exact h0 (fun q => hr q.1)
theorem md_divide {sc : Int × (Int → Int)} {d : Nat} {s : Int} {q : Nat → Int} {I : Nat → Int → Int} {Q : Option om_V → om_H → Prop} {qu re a b : Int} (rA : ∀ r, 0 ≤ r → r < 8 → om_r31 (om_hd I r)) (h0 : ¬ (((0 ≤ qu ∧ qu < 8) ∧ (0 ≤ re ∧ re < 8) ∧ (0 ≤ a ∧ a < 8)) ∧ (0 ≤ b ∧ b < 8) ∧ qu ≠ re) → Q (some (.inl (-1))) (om_O s q, I)) (h5 : ((0 ≤ qu ∧ qu < 8) ∧ (0 ≤ re ∧ re < 8) ∧ (0 ≤ a ∧ a < 8)) ∧ (0 ≤ b ∧ b < 8) ∧ qu ≠ re → ¬ on_cd (om_hd I b) → ∀ I', (∀ b, b ≠ 103 → I' b = I b) → Q (some (.inl (-5))) (om_O s q, I')) (hl : ((0 ≤ qu ∧ qu < 8) ∧ (0 ≤ re ∧ re < 8) ∧ (0 ≤ a ∧ a < 8)) ∧ (0 ≤ b ∧ b < 8) ∧ qu ≠ re → on_cd (om_hd I b) → ¬ (om_ft (om_vq s (om_hd I a) (om_hd I b)) ∧ om_ft (om_vr s (om_hd I a) (om_hd I b))) → ∀ I', (∀ b, b ≠ 103 → I' b = I b) → Q (some (.inl (-3))) (om_O s q, I')) (h1 : ((0 ≤ qu ∧ qu < 8) ∧ (0 ≤ re ∧ re < 8) ∧ (0 ≤ a ∧ a < 8)) ∧ (0 ≤ b ∧ b < 8) ∧ qu ≠ re → on_cd (om_hd I b) → om_ft (om_vq s (om_hd I a) (om_hd I b)) ∧ om_ft (om_vr s (om_hd I a) (om_hd I b)) → ∀ I', (∀ b, b ≠ 103 → b ≠ 102 → I' b = I b) → (∀ h', h' ≠ qu → h' ≠ re → om_hd I' h' = om_hd I h') → om_hd I' qu = om_vq s (om_hd I a) (om_hd I b) → om_hd I' re = om_vr s (om_hd I a) (om_hd I b) → Q (some (.inl 0)) (om_O s q, I')) : om_R sc (d + 5) 135 0 [.inr (.inl 101), .inl qu, .inl re, .inl a, .inl b, om_un] [] (om_O s q, I) Q := by
  have n10 : ¬ (1 : Int) = 0 := by decide
  simp only [x_Md_divide_0, x_Md_divide_1, Option.toList_some, Option.toList_none, List.cons_append, List.nil_append, List.length_cons, List.length_nil, Nat.reduceAdd, Nat.zero_add, Nat.reduceLeDiff, true_and]
  refine md_isRegister (fun r1 => ?_) (fun r1 => ?_)
  · simp only [x_Md_divide_4, x_Md_divide_7, x_Md_divide_8, Option.toList_some, Option.toList_none, List.cons_append, List.nil_append, List.length_cons, List.length_nil, Nat.reduceAdd, Nat.zero_add, Nat.reduceLeDiff, true_and, if_neg n10]
    refine md_isRegister (fun r2 => ?_) (fun r2 => ?_)
    · simp only [x_Md_divide_11, x_Md_divide_14, x_Md_divide_15, Option.toList_some, Option.toList_none, List.cons_append, List.nil_append, List.length_cons, List.length_nil, Nat.reduceAdd, Nat.zero_add, Nat.reduceLeDiff, true_and, if_neg n10]
      refine md_isRegister (fun r3 => ?_) (fun r3 => ?_)
      · simp only [x_Md_divide_18, x_Md_divide_21, x_Md_divide_23, Option.toList_some, Option.toList_none, List.cons_append, List.nil_append, List.length_cons, List.length_nil, Nat.reduceAdd, Nat.zero_add, Nat.reduceLeDiff, true_and, if_neg n10]
        refine md_isRegister (fun r4 => ?_) (fun r4 => ?_)
        · simp only [x_Md_divide_26, x_Md_divide_29, x_Md_divide_30, x_Md_divide_31, Option.toList_some, Option.toList_none, List.cons_append, List.nil_append, List.length_cons, List.length_nil, Nat.reduceAdd, Nat.zero_add, Nat.reduceLeDiff, true_and, if_neg n10]
          by_cases hqr : qu = re
          · have hn : ¬ qu ≠ re := fun h => h hqr
            simp only [if_pos hqr, x_Md_divide_34, x_Md_divide_35]
            exact h0 (fun h => h.2.2 hqr)
          · have hc := And.intro (And.intro r1 (And.intro r2 r3)) (And.intro r4 hqr)
            rw [if_neg hqr]
            simp only [x_Md_divide_36, x_Md_divide_37, x_Md_divide_38, x_Md_divide_39, Option.toList_some, Option.toList_none, List.cons_append, List.nil_append, List.length_cons, List.length_nil, Nat.reduceAdd, Nat.zero_add, Nat.reduceLeDiff, true_and, rO_101]
            refine md_load (by decide) (by omega) (fun I1 f1 f2 => ?_)
            simp only [x_Md_divide_42, x_Md_divide_43, x_Md_divide_44, x_Md_divide_46, Option.toList_some, Option.toList_none, List.cons_append, List.nil_append, List.length_cons, List.length_nil, Nat.reduceAdd, Nat.zero_add, Nat.reduceLeDiff, true_and, rO_101]
            refine md_load (by decide) (by omega) (fun I2 f3 f4 => ?_)
            have e0 : om_mt I2 0 = om_hd I a := by rw [f3.2 0 (by decide), f2]
            have e1 : om_mt I2 1 = om_hd I b := by rw [f4, om_fr_hd f1]
            have fr2 : ∀ b, b ≠ 103 → I2 b = I b := fun b hb => by rw [f3.1 b hb, f1.1 b hb]
            simp only [x_Md_divide_49, x_Md_divide_50, x_Md_divide_51, Option.toList_some, Option.toList_none, List.cons_append, List.nil_append, List.length_cons, List.length_nil, Nat.reduceAdd, Nat.zero_add, Nat.reduceLeDiff, true_and, rO_101]
            refine md_orderOf (by decide) ?_
            rw [e1, om_or_e (om_hd_su (I := I) (h := b)) (by decide) (by decide) (by decide)]
            have ob := om_or_b (A := om_hd I b)
            simp only [x_Md_divide_54, x_Md_divide_56, x_Md_divide_58, Option.toList_some, Option.toList_none, List.cons_append, List.nil_append, List.length_cons, List.length_nil, Nat.reduceAdd, Nat.zero_add, Nat.reduceLeDiff, true_and]
            by_cases hn0 : om_or 5 13 (om_hd I b) < 0
            · rw [if_pos hn0]
              simp only [x_Md_divide_71, x_Md_divide_73]
              exact h5 hc (fun h => by have := (on_cd_n om_hd_su h).1; omega) I2 fr2
            · rw [if_neg hn0]
              simp only [x_Md_divide_61, x_Md_divide_62, x_Md_divide_63, x_Md_divide_65, Option.toList_some, Option.toList_none, List.cons_append, List.nil_append, List.length_cons, List.length_nil, Nat.reduceAdd, Nat.zero_add, Nat.reduceLeDiff, true_and, rO_101]
              refine md_degree (by decide) (by omega) ?_
              rw [e1, om_dg_e (om_hd_su (I := I) (h := b)) (by decide) (by decide)]
              simp only [x_Md_divide_68, Option.toList_some, Option.toList_none, List.cons_append, List.nil_append, List.length_cons, List.length_nil, Nat.reduceAdd, Nat.zero_add, Nat.reduceLeDiff, true_and]
              by_cases hcd : on_cd (om_hd I b)
              · have hcd' : om_dg 13 (om_hd I b) (om_or 5 13 (om_hd I b)) = 0 := hcd
                obtain ⟨c1, c2, c3⟩ := on_cd_n om_hd_su hcd
                rw [if_pos hcd']
                simp only [x_Md_divide_74, x_Md_divide_75, x_Md_divide_77, Option.toList_some, Option.toList_none, List.cons_append, List.nil_append, List.length_cons, List.length_nil, Nat.reduceAdd, Nat.zero_add, Nat.reduceLeDiff, true_and, rO_101]
                have suB : om_su (om_or 5 13 (om_hd I b) + 1) 13 (om_hd I b) := by
                  intro i k hik
                  by_cases hi : om_or 5 13 (om_hd I b) + 1 ≤ i
                  · exact om_or_n om_hd_su i k hi
                  · exact om_hd_su i k (by omega)
                have suB1 : om_or 5 13 (om_hd I b) = 0 → om_su (om_or 5 13 (om_hd I b) + 1) 1 (om_hd I b) := by
                  intro hz i k hik
                  by_cases hi : i = om_or 5 13 (om_hd I b)
                  · rw [hi]
                    exact c3 k (by omega)
                  · exact suB i k (by omega)
                refine md_divideTables (wB := if om_or 5 13 (om_hd I b) = 0 then 1 else 13) (by omega) (by rw [e0]; exact om_hd_su) (by rw [e0]; exact rA a r3.1 r3.2) ?_ ?_ (by rw [e1]; exact rA b r4.1 r4.2) (by rw [e1]; exact c2) (fun I3 f5 f6 f7 => ?_)
                · rw [e1]
                  by_cases hz : om_or 5 13 (om_hd I b) = 0
                  · rw [if_pos hz]; exact suB1 hz
                  · rw [if_neg hz]; exact suB
                · by_cases hz : om_or 5 13 (om_hd I b) = 0
                  · rw [if_pos hz]; exact Or.inl ⟨rfl, hz⟩
                  · rw [if_neg hz]; exact Or.inr ⟨rfl, by omega⟩
                · rw [e0, e1] at f6 f7
                  have f6' : om_mt I3 2 = om_vq s (om_hd I a) (om_hd I b) := f6
                  have f7' : om_mt I3 0 = om_vr s (om_hd I a) (om_hd I b) := f7
                  have fr3 : ∀ b, b ≠ 103 → I3 b = I b := fun b hb => by rw [f5 b hb, fr2 b hb]
                  have eh : om_hd I3 = om_hd I := by
                    funext h i k
                    unfold om_hd
                    rw [fr3 102 (by decide)]
                  simp only [x_Md_divide_80, x_Md_divide_81, x_Md_divide_82, Option.toList_some, Option.toList_none, List.cons_append, List.nil_append, List.length_cons, List.length_nil, Nat.reduceAdd, Nat.zero_add, Nat.reduceLeDiff, true_and, rO_101]
                  refine md_fits (by decide) (fun hf0 => ?_) (fun hf0 => ?_)
                  · simp only [x_Md_divide_85, x_Md_divide_88, x_Md_divide_89, x_Md_divide_90, Option.toList_some, Option.toList_none, List.cons_append, List.nil_append, List.length_cons, List.length_nil, Nat.reduceAdd, Nat.zero_add, Nat.reduceLeDiff, true_and, rO_101, if_neg n10]
                    refine md_fits (by decide) (fun hf2 => ?_) (fun hf2 => ?_)
                    · rw [f6'] at hf2
                      rw [f7'] at hf0
                      simp only [x_Md_divide_93, x_Md_divide_96, x_Md_divide_98, x_Md_divide_99, x_Md_divide_100, x_Md_divide_101, x_Md_divide_102, Option.toList_some, Option.toList_none, List.cons_append, List.nil_append, List.length_cons, List.length_nil, Nat.reduceAdd, Nat.zero_add, Nat.reduceLeDiff, true_and, rO_101, if_neg n10]
                      refine md_store (by decide) (by omega) (fun I4 f8 f9 => ?_)
                      simp only [x_Md_divide_105, x_Md_divide_106, x_Md_divide_107, x_Md_divide_108, Option.toList_some, Option.toList_none, List.cons_append, List.nil_append, List.length_cons, List.length_nil, Nat.reduceAdd, Nat.zero_add, Nat.reduceLeDiff, true_and, rO_101]
                      refine md_store (by decide) (by omega) (fun I5 f10 f11 => ?_)
                      simp only [x_Md_divide_111, x_Md_divide_112, Option.toList_some, Option.toList_none, List.cons_append, List.nil_append, List.length_cons, List.length_nil, Nat.reduceAdd, Nat.zero_add, Nat.reduceLeDiff, true_and]
                      refine h1 hc hcd ⟨hf2, hf0⟩ I5 (fun b b1 b2 => by rw [f10.1 b b2, f8.1 b b2, fr3 b b1]) (fun h' h1 h2 => by rw [f10.2 h' h2, f8.2 h' h1, eh]) ?_ ?_
                      · funext i k
                        rw [f10.2 qu hqr, f9 i k, f6']
                        split
                        · rfl
                        · rename_i hno
                          exact (Decidable.byContradiction (fun qq => hno (by have := hf2 i k qq; omega)) : _ = (0 : Int)).symm
                      · funext i k
                        rw [f11 i k, om_fh_mt f8, f7']
                        split
                        · rfl
                        · rename_i hno
                          exact (Decidable.byContradiction (fun qq => hno (by have := hf0 i k qq; omega)) : _ = (0 : Int)).symm
                    · simp only [x_Md_divide_93, x_Md_divide_96, x_Md_divide_98, Option.toList_some, Option.toList_none, List.cons_append, List.nil_append, List.length_cons, List.length_nil, Nat.reduceAdd, Nat.zero_add, Nat.reduceLeDiff, true_and, if_true]
                      exact hl hc hcd (fun h => hf2 (by rw [f6']; exact h.1)) I3 fr3
                  · simp only [x_Md_divide_85, x_Md_divide_96, x_Md_divide_98, Option.toList_some, Option.toList_none, List.cons_append, List.nil_append, List.length_cons, List.length_nil, Nat.reduceAdd, Nat.zero_add, Nat.reduceLeDiff, true_and, if_true]
                    exact hl hc hcd (fun h => hf0 (by rw [f7']; exact h.2)) I3 fr3
              · have hcd' : ¬ om_dg 13 (om_hd I b) (om_or 5 13 (om_hd I b)) = 0 := hcd
                rw [if_neg hcd']
                simp only [x_Md_divide_71, x_Md_divide_73]
                exact h5 hc hcd I2 fr2
        · simp only [x_Md_divide_26, x_Md_divide_29, x_Md_divide_30, x_Md_divide_31, x_Md_divide_34, x_Md_divide_35, Option.toList_some, Option.toList_none, List.cons_append, List.nil_append, List.length_cons, List.length_nil, Nat.reduceAdd, Nat.zero_add, Nat.reduceLeDiff, true_and, if_true]
          exact h0 (fun q => r4 q.2.1)
      · simp only [x_Md_divide_18, x_Md_divide_21, x_Md_divide_23, x_Md_divide_26, x_Md_divide_29, x_Md_divide_30, x_Md_divide_31, x_Md_divide_34, x_Md_divide_35, Option.toList_some, Option.toList_none, List.cons_append, List.nil_append, List.length_cons, List.length_nil, Nat.reduceAdd, Nat.zero_add, Nat.reduceLeDiff, true_and, if_true]
        exact h0 (fun q => r3 q.1.2.2)
    · simp only [x_Md_divide_11, x_Md_divide_14, x_Md_divide_15, x_Md_divide_18, x_Md_divide_21, x_Md_divide_23, x_Md_divide_26, x_Md_divide_29, x_Md_divide_30, x_Md_divide_31, x_Md_divide_34, x_Md_divide_35, Option.toList_some, Option.toList_none, List.cons_append, List.nil_append, List.length_cons, List.length_nil, Nat.reduceAdd, Nat.zero_add, Nat.reduceLeDiff, true_and, if_true]
      exact h0 (fun q => r2 q.1.2.1)
  · simp only [x_Md_divide_4, x_Md_divide_7, x_Md_divide_8, x_Md_divide_11, x_Md_divide_14, x_Md_divide_15, x_Md_divide_18, x_Md_divide_21, x_Md_divide_23, x_Md_divide_26, x_Md_divide_29, x_Md_divide_30, x_Md_divide_31, x_Md_divide_34, x_Md_divide_35, Option.toList_some, Option.toList_none, List.cons_append, List.nil_append, List.length_cons, List.length_nil, Nat.reduceAdd, Nat.zero_add, Nat.reduceLeDiff, true_and, if_true]
    exact h0 (fun q => r1 q.1.1)
