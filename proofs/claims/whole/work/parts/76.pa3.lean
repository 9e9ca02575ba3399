/-! the class's parser: products, sums, read -/
theorem pa_rm_l {sc : Int × (Int → Int)} {d o : Nat} {s n : Int} {c : Int → Int} {q : Nat → Int} {Q : Option om_V → om_H → Prop} (hs : s = 0 ∨ s = 1) (hc : ox_cc c n) (ho : o < 5) {A : Int → Int → Option ox_X} (oA : ox_okA n A) (hA : ox_sp sc (d + 4) 27 [.inr (.inl 25), .inl (o : Int), om_un, om_un, om_un] s n c (35 + 8 * o) (36 + 8 * o) (ox_pw s c A)) : ∀ (f : Nat) (k i l : Int) (y : om_V) (P : Int → Int → Int) (I : Nat → Int → Int), k + f = 41 → 0 ≤ k → 0 ≤ i → i ≤ n → 2 ≤ f → n + 1 ≤ f + i → (l = 0 ∨ l = 1) → ox_tx q I c n → om_r31 P → om_tb 5 13 (I (34 + 8 * o)) = P → (ox_pr s c A f i l P = none → ∀ I' p l', ox_fm (33 + 8 * o) I I' → Q none (om_O s (ox_q q p 1 l'), I')) → (∀ r, ox_pr s c A f i l P = some r → ∀ I', ox_fm (33 + 8 * o) I I' → om_tb 5 13 (I' (34 + 8 * o)) = r.2.2 → Q none (om_O s (ox_q q r.1 0 r.2.1), I')) → om_R sc (d + 5) 24 14 [.inr (.inl 25), .inl (o : Int), .inl k, y] [] (om_O s (ox_q q i 0 l), I) Q := by
  have n10 : ¬ (1 : Int) = 0 := by decide
  have b1 := hc.1
  intro f
  induction f with
  | zero => intro k i l y P I e1 e2 e3 e4 e5; omega
  | succ f ih =>
    intro k i l y P I e1 e2 e3 e4 e5 e6 hl hT rP hP hn hq
    have k1 := fun q K => kO_prod (s := s) (q := q) (z := (o : Int)) (by omega) (by omega) K
    have k2 := fun q K => kO_pow (s := s) (q := q) (z := (o : Int)) (by omega) (by omega) K
    rw [Int.toNat_natCast] at k1 k2
    have op := fun q => oO_prod (s := s) (q := q) (r := o) (by omega)
    have ow := fun q => oO_pow (s := s) (q := q) (r := o) (by omega)
    have gr := fun q => (om_op_g (op q)).2.2.2
    simp only [x_Pa_readProduct_14, x_Pa_readProduct_15, x_Pa_readProduct_17]
    rw [if_neg (by omega)]
    simp only [x_Pa_readProduct_20, x_Pa_readProduct_21, x_Pa_readProduct_22, rO_25, Option.toList_some, Option.toList_none, List.cons_append, List.nil_append, List.length_cons, List.length_nil, Nat.reduceAdd, Nat.zero_add, Nat.reduceLeDiff, true_and]
    refine hA q I _ i l hT e3 e4 hl (fun hN I1 p l' f1 => ?_) (fun r hr I1 f1 f2 => ?_)
    · simp only [x_Pa_readProduct_25, x_Pa_readProduct_26, x_Pa_readProduct_29, x_Pa_readProduct_32, gO_25_4, ox_q_3, Option.toList_some, Option.toList_none, List.cons_append, List.nil_append, List.length_cons, List.length_nil, Nat.reduceAdd, Nat.zero_add, Nat.reduceLeDiff, true_and, if_neg n10]
      refine hn ?_ I1 p l' (ox_fm_tr ox_fm_rf f1 (Nat.le_refl _) (by omega))
      unfold ox_pr
      rw [hN]
    · obtain ⟨a1, a2, a3, a4, a5, a6⟩ := ox_pw_ok hc oA i l r e3 e4 hl hr
      have hP1 : om_tb 5 13 (I1 (34 + 8 * o)) = P := by rw [f1 _ (by omega) (by omega) (by omega)]; exact hP
      have e : ox_pr s c A (f + 1) i l P = if c r.1 = 42 then ox_pr s c A f (r.1 + 1) (ox_lg r.2.1 (om_mlt s P r.2.2)) (ox_cut (om_mlt s P r.2.2)) else if ox_st (c r.1) then ox_pr s c A f r.1 (ox_lg r.2.1 (om_mlt s P r.2.2)) (ox_cut (om_mlt s P r.2.2)) else some (r.1, ox_lg r.2.1 (om_mlt s P r.2.2), ox_cut (om_mlt s P r.2.2)) := by
        conv => lhs; unfold ox_pr
        rw [hr]
      rw [e] at hn hq
      simp only [x_Pa_readProduct_25, x_Pa_readProduct_26, x_Pa_readProduct_29, x_Pa_readProduct_33, x_Pa_readProduct_34, x_Pa_readProduct_37, x_Pa_readProduct_38, x_Pa_readProduct_41, x_Pa_readProduct_42, x_Pa_readProduct_43, x_Pa_readProduct_44, x_Pa_readProduct_47, x_Pa_readProduct_48, x_Pa_readProduct_49, gO_25_4, ox_q_3, gO_25_0, gO_25_7, gO_25_8, k1, k2, rO_20, Option.toList_some, Option.toList_none, List.cons_append, List.nil_append, List.length_cons, List.length_nil, Nat.reduceAdd, Nat.zero_add, Nat.reduceLeDiff, true_and, if_true]
      refine al_product hs (op _) (ow _) (by omega) (by omega) (by omega) (by omega) (by rw [hP1]; exact rP) (by rw [f2]; exact a5) (fun I2 f3 f4 => ?_)
      rw [hP1, f2] at f4
      have nx : ∀ v, v = ox_lg r.2.1 (om_mlt s P r.2.2) → om_R sc (d + 5) 24 76 [.inr (.inl 25), .inl (o : Int), .inl k, .inr (.inl 21)] [] (om_O s (ox_q q r.1 0 v), I2) Q := by
        intro v hv
        have vb : v = 0 ∨ v = 1 := by rw [hv]; exact ox_lg_b
        rw [← hv] at hn hq
        simp only [x_Pa_readProduct_76, x_Pa_readProduct_77, x_Pa_readProduct_80, x_Pa_readProduct_81, x_Pa_readProduct_82, x_Pa_readProduct_83, gO_25_7, k1, gr, Option.toList_some, Option.toList_none, List.cons_append, List.nil_append, List.length_cons, List.length_nil, Nat.reduceAdd, Nat.zero_add, Nat.reduceLeDiff, true_and]
        refine op_become (op _) oO_21 (by omega) (fun I3 f5 f6 => ?_)
        have f7 := ox_cut_e f6 f4
        have f8 : ox_fm (33 + 8 * o) I I3 := ox_fm_tr f1 (ox_fm_tr (ox_fm_p (lo := 33 + 8 * o) f3) (ox_fm_1 (lo := 33 + 8 * o) f5 (by omega) (by omega)) (Nat.le_refl _) (Nat.le_refl _)) (by omega) (Nat.le_refl _)
        have hT3 := ox_tx_m hT f8 (by omega)
        simp only [x_Pa_readProduct_86, x_Pa_readProduct_87, rO_25, Option.toList_some, Option.toList_none, List.cons_append, List.nil_append, List.length_cons, List.length_nil, Nat.reduceAdd, Nat.zero_add, Nat.reduceLeDiff, true_and]
        refine pa_next hc hT3 (by omega) ?_
        simp only [x_Pa_readProduct_90, x_Pa_readProduct_92, Option.toList_some, Option.toList_none, List.cons_append, List.nil_append, List.length_cons, List.length_nil, Nat.reduceAdd, Nat.zero_add, Nat.reduceLeDiff, true_and]
        by_cases h4 : c r.1 = 42
        · rw [if_pos h4] at hn hq ⊢
          have lt := ox_lt (k := r.1) hc (by omega)
          simp only [x_Pa_readProduct_95, x_Pa_readProduct_96, x_Pa_readProduct_97, x_Pa_readProduct_100, x_Pa_readProduct_101, x_Pa_readProduct_102, x_Pa_readProduct_105, x_Pa_readProduct_119, x_Pa_readProduct_122, gO_25_3, pO_25_3 24 (r.1 + 1) rfl, ox_q_2, ox_q_s2, Option.toList_some, Option.toList_none, List.cons_append, List.nil_append, List.length_cons, List.length_nil, Nat.reduceAdd, Nat.zero_add, Nat.reduceLeDiff, true_and]
          refine ⟨⟨by omega, by omega⟩, ⟨by omega, by omega⟩, ?_⟩
          exact ih _ _ _ _ _ I3 (by omega) (by omega) (by omega) (by omega) (by omega) (by omega) vb hT3 (ox_cut_r om_mlt_r) f7 (fun hN I' p l' g1 => hn hN I' p l' (ox_fm_tr f8 g1 (Nat.le_refl _) (Nat.le_refl _))) (fun r' hr' I' g1 g2 => hq r' hr' I' (ox_fm_tr f8 g1 (Nat.le_refl _) (Nat.le_refl _)) g2)
        · rw [if_neg h4] at hn hq ⊢
          simp only [x_Pa_readProduct_108, x_Pa_readProduct_109, rO_25, Option.toList_some, Option.toList_none, List.cons_append, List.nil_append, List.length_cons, List.length_nil, Nat.reduceAdd, Nat.zero_add, Nat.reduceLeDiff, true_and]
          refine pa_next hc hT3 (by omega) ?_
          simp only [x_Pa_readProduct_112, Option.toList_some, Option.toList_none, List.cons_append, List.nil_append, List.length_cons, List.length_nil, Nat.reduceAdd, Nat.zero_add, Nat.reduceLeDiff, true_and]
          refine pa_startsAtom (fun h5 => ?_) (fun h5 => ?_)
          · rw [if_pos h5] at hn hq
            have lt := ox_lt (k := r.1) hc (by omega)
            simp only [x_Pa_readProduct_115, x_Pa_readProduct_119, x_Pa_readProduct_122, Option.toList_some, Option.toList_none, List.cons_append, List.nil_append, List.length_cons, List.length_nil, Nat.reduceAdd, Nat.zero_add, Nat.reduceLeDiff, true_and, if_neg n10]
            refine ⟨⟨by omega, by omega⟩, ?_⟩
            exact ih _ _ _ _ _ I3 (by omega) (by omega) (by omega) (by omega) (by omega) (by omega) vb hT3 (ox_cut_r om_mlt_r) f7 (fun hN I' p l' g1 => hn hN I' p l' (ox_fm_tr f8 g1 (Nat.le_refl _) (Nat.le_refl _))) (fun r' hr' I' g1 g2 => hq r' hr' I' (ox_fm_tr f8 g1 (Nat.le_refl _) (Nat.le_refl _)) g2)
          · rw [if_neg h5] at hn hq
            simp only [x_Pa_readProduct_115, x_Pa_readProduct_118, Option.toList_some, Option.toList_none, List.cons_append, List.nil_append, List.length_cons, List.length_nil, Nat.reduceAdd, Nat.zero_add, Nat.reduceLeDiff, true_and, if_true]
            exact hq _ rfl I3 f8 f7
      simp only [x_Pa_readProduct_52, x_Pa_readProduct_53, x_Pa_readProduct_54, x_Pa_readProduct_55, x_Pa_readProduct_58, gO_25_5, ox_q_4, Option.toList_some, Option.toList_none, List.cons_append, List.nil_append, List.length_cons, List.length_nil, Nat.reduceAdd, Nat.zero_add, Nat.reduceLeDiff, true_and]
      by_cases l0 : r.2.1 = 0
      · rw [if_pos l0]
        have g2 := (om_op_g (oO_21 (s := s) (q := ox_q q r.1 0 r.2.1))).2.2.2
        simp only [x_Pa_readProduct_61, x_Pa_readProduct_62, g2, Option.toList_some, Option.toList_none, List.cons_append, List.nil_append, List.length_cons, List.length_nil, Nat.reduceAdd, Nat.zero_add, Nat.reduceLeDiff, true_and]
        refine op_fits oO_21 (fun hf => ?_) (fun hf => ?_)
        · rw [f4] at hf
          simp only [x_Pa_readProduct_65, x_Pa_readProduct_72, x_Pa_readProduct_73, pO_25_5 24 0 rfl, ox_q_s4, if_neg n10, Option.toList_some, Option.toList_none, List.cons_append, List.nil_append, List.length_cons, List.length_nil, Nat.reduceAdd, Nat.zero_add, Nat.reduceLeDiff, true_and]
          exact nx 0 (ox_lg_0 l0 hf).symm
        · rw [f4] at hf
          simp only [x_Pa_readProduct_65, x_Pa_readProduct_68, x_Pa_readProduct_69, x_Pa_readProduct_73, pO_25_5 24 1 rfl, ox_q_s4, if_true, Option.toList_some, Option.toList_none, List.cons_append, List.nil_append, List.length_cons, List.length_nil, Nat.reduceAdd, Nat.zero_add, Nat.reduceLeDiff, true_and]
          exact nx 1 (ox_lg_1 hf).symm
      · rw [if_neg l0]
        simp only [x_Pa_readProduct_68, x_Pa_readProduct_69, x_Pa_readProduct_73, pO_25_5 24 1 rfl, ox_q_s4, Option.toList_some, Option.toList_none, List.cons_append, List.nil_append, List.length_cons, List.length_nil, Nat.reduceAdd, Nat.zero_add, Nat.reduceLeDiff, true_and]
        exact nx 1 (ox_lg_m l0).symm
theorem pa_readProduct {sc : Int × (Int → Int)} {d o : Nat} {s n : Int} {c : Int → Int} (hs : s = 0 ∨ s = 1) (hc : ox_cc c n) (ho : o < 5) {A : Int → Int → Option ox_X} (oA : ox_okA n A) (hA : ox_sp sc (d + 4) 27 [.inr (.inl 25), .inl (o : Int), om_un, om_un, om_un] s n c (35 + 8 * o) (36 + 8 * o) (ox_pw s c A)) : ox_sp sc (d + 5) 24 [.inr (.inl 25), .inl (o : Int), om_un, om_un] s n c (33 + 8 * o) (34 + 8 * o) (fun i l => ox_pr s c A 41 i l (ox_t1 0 0 1)) := by
  intro q I Q i l hT h0 h1 hl hn hq
  have b1 := hc.1
  have k1 := fun q K => kO_prod (s := s) (q := q) (z := (o : Int)) (by omega) (by omega) K
  rw [Int.toNat_natCast] at k1
  have op := fun q => oO_prod (s := s) (q := q) (r := o) (by omega)
  have gr := fun q => (om_op_g (op q)).2.2.2
  simp only [x_Pa_readProduct_0, x_Pa_readProduct_1, x_Pa_readProduct_4, x_Pa_readProduct_5, x_Pa_readProduct_6, x_Pa_readProduct_7, x_Pa_readProduct_8, x_Pa_readProduct_9, gO_25_7, k1, gr, Option.toList_some, Option.toList_none, List.cons_append, List.nil_append, List.length_cons, List.length_nil, Nat.reduceAdd, Nat.zero_add, Nat.reduceLeDiff, true_and]
  refine op_becomeTerm (op _) (fun I1 f1 f2 => ?_)
  simp only [x_Pa_readProduct_12, x_Pa_readProduct_13, Option.toList_some, Option.toList_none, List.cons_append, List.nil_append, List.length_cons, List.length_nil, Nat.reduceAdd, Nat.zero_add, Nat.reduceLeDiff, true_and]
  have f3 : ox_fm (33 + 8 * o) I I1 := ox_fm_1 f1 (by omega) (by omega)
  exact pa_rm_l hs hc ho oA hA 41 0 i l _ _ I1 (by omega) (by omega) h0 h1 (by omega) (by omega) hl (ox_tx_m hT f3 (by omega)) (ox_t1_r (by decide)) (ox_t1_e f2 (by decide) (by decide)) (fun hN I' p l' g1 => hn hN I' p l' (ox_fm_tr f3 g1 (Nat.le_refl _) (Nat.le_refl _))) (fun r' hr' I' g1 g2 => hq r' hr' I' (ox_fm_tr f3 g1 (Nat.le_refl _) (Nat.le_refl _)) g2)
theorem pa_rs_l {sc : Int × (Int → Int)} {d o : Nat} {s n : Int} {c : Int → Int} {q : Nat → Int} {Q : Option om_V → om_H → Prop} (hc : ox_cc c n) (ho : o < 5) {A : Int → Int → Option ox_X} (oA : ox_okA n A) (hA : ox_sp sc (d + 5) 24 [.inr (.inl 25), .inl (o : Int), om_un, om_un] s n c (33 + 8 * o) (34 + 8 * o) (fun i l => ox_pr s c A 41 i l (ox_t1 0 0 1))) : ∀ (f : Nat) (k t i l : Int) (a : Int → Int → Int) (I : Nat → Int → Int), k + f = 41 → 0 ≤ k → (t = 1 ∨ t = 30) → 0 ≤ i → i ≤ n → 2 ≤ f → n + 1 ≤ f + i → (l = 0 ∨ l = 1) → ox_tx q I c n → om_r31 a → om_tb 5 13 (I (32 + 8 * o)) = a → (ox_su s c A f t i l a = none → ∀ I' p l', ox_fm (32 + 8 * o) I I' → Q none (om_O s (ox_q q p 1 l'), I')) → (∀ r, ox_su s c A f t i l a = some r → ∀ I', ox_fm (32 + 8 * o) I I' → om_tb 5 13 (I' (32 + 8 * o)) = r.2.2 → Q none (om_O s (ox_q q r.1 0 r.2.1), I')) → om_R sc (d + 6) 18 30 [.inr (.inl 25), .inl (o : Int), .inl t, .inl k] [] (om_O s (ox_q q i 0 l), I) Q := by
  have n10 : ¬ (1 : Int) = 0 := by decide
  have b1 := hc.1
  intro f
  induction f with
  | zero => intro k t i l a I e1 e2 et e3 e4 e5; omega
  | succ f ih =>
    intro k t i l a I e1 e2 et e3 e4 e5 e6 hl hT ra ha hn hq
    have k1 := fun q K => kO_sum (s := s) (q := q) (z := (o : Int)) (by omega) (by omega) K
    have k2 := fun q K => kO_prod (s := s) (q := q) (z := (o : Int)) (by omega) (by omega) K
    rw [Int.toNat_natCast] at k1 k2
    have op := fun q => oO_sum (s := s) (q := q) (r := o) (by omega)
    have ow := fun q => oO_prod (s := s) (q := q) (r := o) (by omega)
    have gr := fun q => (om_op_g (op q)).2.2.2
    simp only [x_Pa_readSum_30, x_Pa_readSum_31, x_Pa_readSum_33]
    rw [if_neg (by omega)]
    simp only [x_Pa_readSum_36, x_Pa_readSum_37, x_Pa_readSum_38, rO_25, Option.toList_some, Option.toList_none, List.cons_append, List.nil_append, List.length_cons, List.length_nil, Nat.reduceAdd, Nat.zero_add, Nat.reduceLeDiff, true_and]
    refine hA q I _ i l hT e3 e4 hl (fun hN I1 p l' f1 => ?_) (fun r hr I1 f1 f2 => ?_)
    · simp only [x_Pa_readSum_41, x_Pa_readSum_42, x_Pa_readSum_45, x_Pa_readSum_48, gO_25_4, ox_q_3, Option.toList_some, Option.toList_none, List.cons_append, List.nil_append, List.length_cons, List.length_nil, Nat.reduceAdd, Nat.zero_add, Nat.reduceLeDiff, true_and, if_neg n10]
      refine hn ?_ I1 p l' (ox_fm_tr ox_fm_rf f1 (Nat.le_refl _) (by omega))
      unfold ox_su
      have hN' : ox_pr s c A 41 i l (ox_t1 0 0 1) = none := hN
      rw [hN']
    · have hr' : ox_pr s c A 41 i l (ox_t1 0 0 1) = some r := hr
      obtain ⟨⟨a1, a2, a3, a4, a5, a6⟩, a7, a8⟩ := ox_pr_ok hc oA 41 i l _ r e3 e4 hl (ox_t1_su (by decide)) hr'
      have ha1 : om_tb 5 13 (I1 (32 + 8 * o)) = a := by rw [f1 _ (by omega) (by omega) (by omega)]; exact ha
      have e : ox_su s c A (f + 1) t i l a = if ox_sg (c r.1) then ox_su s c A f (ox_tm (c r.1)) (r.1 + 1) r.2.1 (om_ad a r.2.2 t) else some (r.1, r.2.1, om_ad a r.2.2 t) := by
        conv => lhs; unfold ox_su
        rw [hr']
      rw [e] at hn hq
      simp only [x_Pa_readSum_41, x_Pa_readSum_42, x_Pa_readSum_45, x_Pa_readSum_49, x_Pa_readSum_50, x_Pa_readSum_53, x_Pa_readSum_54, x_Pa_readSum_55, x_Pa_readSum_56, x_Pa_readSum_59, x_Pa_readSum_60, x_Pa_readSum_61, x_Pa_readSum_62, gO_25_4, ox_q_3, gO_25_6, gO_25_7, k1, k2, gr, Option.toList_some, Option.toList_none, List.cons_append, List.nil_append, List.length_cons, List.length_nil, Nat.reduceAdd, Nat.zero_add, Nat.reduceLeDiff, true_and, if_true]
      refine op_plus (op _) (ow _) (by omega) (by omega) (by rw [f2]; exact a5) (by rw [ha1]; exact ra) (fun I2 f3 f4 => ?_)
      have f5 : om_tb 5 13 (I2 (32 + 8 * o)) = om_ad a r.2.2 t := by
        funext i' k'
        rw [f4 i' k', ha1, f2]
        split
        · rfl
        · exact (ox_ad_su (t := t) (ha ▸ om_tb_su) a6 i' k' (by omega)).symm
      have f6 : ox_fm (32 + 8 * o) I I2 := ox_fm_tr f1 (ox_fm_1 (lo := 32 + 8 * o) f3 (by omega) (by omega)) (by omega) (Nat.le_refl _)
      have hT2 := ox_tx_m hT f6 (by omega)
      simp only [x_Pa_readSum_65, x_Pa_readSum_66, rO_25, Option.toList_some, Option.toList_none, List.cons_append, List.nil_append, List.length_cons, List.length_nil, Nat.reduceAdd, Nat.zero_add, Nat.reduceLeDiff, true_and]
      refine pa_next hc hT2 (by omega) ?_
      simp only [x_Pa_readSum_69, Option.toList_some, Option.toList_none, List.cons_append, List.nil_append, List.length_cons, List.length_nil, Nat.reduceAdd, Nat.zero_add, Nat.reduceLeDiff, true_and]
      refine pa_isSign (fun h5 => ?_) (fun h5 => ?_)
      · rw [if_pos h5] at hn hq
        have lt := ox_lt (k := r.1) hc (by omega)
        simp only [x_Pa_readSum_72, x_Pa_readSum_76, x_Pa_readSum_77, rO_25, Option.toList_some, Option.toList_none, List.cons_append, List.nil_append, List.length_cons, List.length_nil, Nat.reduceAdd, Nat.zero_add, Nat.reduceLeDiff, true_and, if_neg n10]
        refine pa_takeSign hc hT2 (by omega) (by omega) ?_
        simp only [x_Pa_readSum_80, x_Pa_readSum_81, x_Pa_readSum_84, Option.toList_some, Option.toList_none, List.cons_append, List.nil_append, List.length_cons, List.length_nil, Nat.reduceAdd, Nat.zero_add, Nat.reduceLeDiff, true_and]
        refine ⟨⟨by omega, by omega⟩, ?_⟩
        exact ih _ _ _ _ _ I2 (by omega) (by omega) (by unfold ox_tm; split <;> simp) (by omega) (by omega) (by omega) (by omega) a3 hT2 ox_ad_r f5 (fun hN I' p l' g1 => hn hN I' p l' (ox_fm_tr f6 g1 (Nat.le_refl _) (Nat.le_refl _))) (fun r' hr' I' g1 g2 => hq r' hr' I' (ox_fm_tr f6 g1 (Nat.le_refl _) (Nat.le_refl _)) g2)
      · rw [if_neg h5] at hn hq
        simp only [x_Pa_readSum_72, x_Pa_readSum_75, Option.toList_some, Option.toList_none, List.cons_append, List.nil_append, List.length_cons, List.length_nil, Nat.reduceAdd, Nat.zero_add, Nat.reduceLeDiff, true_and, if_true]
        exact hq _ rfl I2 f6 f5
theorem pa_readSum {sc : Int × (Int → Int)} {d o : Nat} {s n : Int} {c : Int → Int} (hs : s = 0 ∨ s = 1) (hc : ox_cc c n) (ho : o < 5) {S : Int → Int → Option ox_X} (oS : ox_okA n S) (hS : o < 4 → ox_sp sc (d + 1) 18 [.inr (.inl 25), .inl (((o + 1 : Nat) : Int)), om_un, om_un] s n c (32 + 8 * (o + 1)) (32 + 8 * (o + 1)) S) (h4 : o = 4 → ∀ i l, S i l = none) : ox_sp sc (d + 6) 18 [.inr (.inl 25), .inl (o : Int), om_un, om_un] s n c (32 + 8 * o) (32 + 8 * o) (ox_bd s c S) := by
  have hP := pa_readProduct hs hc ho (ox_ra_ok hc oS) (pa_readPower hs hc ho (ox_ra_ok hc oS) (pa_readAtom hc ho oS hS h4))
  intro q I Q i l hT h0 h1 hl hn hq
  have n10 : ¬ (1 : Int) = 0 := by decide
  have b1 := hc.1
  have k1 := fun q K => kO_sum (s := s) (q := q) (z := (o : Int)) (by omega) (by omega) K
  rw [Int.toNat_natCast] at k1
  have op := fun q => oO_sum (s := s) (q := q) (r := o) (by omega)
  have gr := fun q => (om_op_g (op q)).2.2.2
  have rest : ∀ t i', (t = 1 ∨ t = 30) → 0 ≤ i' → i' ≤ n → ox_bd s c S i l = ox_su s c (ox_ra c S) 41 t i' l (fun _ _ => 0) → om_R sc (d + 6) 18 18 [.inr (.inl 25), .inl (o : Int), om_un, om_un] [.inl t] (om_O s (ox_q q i' 0 l), I) Q := by
    intro t i' ht h2 h3 e
    simp only [x_Pa_readSum_18, x_Pa_readSum_19, x_Pa_readSum_20, x_Pa_readSum_23, x_Pa_readSum_24, x_Pa_readSum_25, gO_25_6, k1, gr, Option.toList_some, Option.toList_none, List.cons_append, List.nil_append, List.length_cons, List.length_nil, Nat.reduceAdd, Nat.zero_add, Nat.reduceLeDiff, true_and]
    refine op_wipe (op _) (fun I1 f1 f2 => ?_)
    simp only [x_Pa_readSum_28, x_Pa_readSum_29, Option.toList_some, Option.toList_none, List.cons_append, List.nil_append, List.length_cons, List.length_nil, Nat.reduceAdd, Nat.zero_add, Nat.reduceLeDiff, true_and]
    have f3 : ox_fm (32 + 8 * o) I I1 := ox_fm_1 f1 (by omega) (by omega)
    rw [e] at hn hq
    exact pa_rs_l hc ho (ox_ra_ok hc oS) hP 41 0 t i' l _ I1 (by omega) (by omega) ht h2 h3 (by omega) (by omega) hl (ox_tx_m hT f3 (by omega)) (fun _ _ => (by decide : (0 : Int) ≤ 0 ∧ (0 : Int) < 31)) f2 (fun hN I' p l' g1 => hn hN I' p l' (ox_fm_tr f3 g1 (Nat.le_refl _) (Nat.le_refl _))) (fun r' hr' I' g1 g2 => hq r' hr' I' (ox_fm_tr f3 g1 (Nat.le_refl _) (Nat.le_refl _)) g2)
  simp only [x_Pa_readSum_0, x_Pa_readSum_1, rO_25, Option.toList_some, Option.toList_none, List.cons_append, List.nil_append, List.length_cons, List.length_nil, Nat.reduceAdd, Nat.zero_add, Nat.reduceLeDiff, true_and]
  refine pa_next hc hT h0 ?_
  simp only [x_Pa_readSum_4, Option.toList_some, Option.toList_none, List.cons_append, List.nil_append, List.length_cons, List.length_nil, Nat.reduceAdd, Nat.zero_add, Nat.reduceLeDiff, true_and]
  refine pa_isSign (fun h5 => ?_) (fun h5 => ?_)
  · have lt := ox_lt (k := i) hc (by omega)
    simp only [x_Pa_readSum_7, x_Pa_readSum_10, x_Pa_readSum_11, rO_25, Option.toList_some, Option.toList_none, List.cons_append, List.nil_append, List.length_cons, List.length_nil, Nat.reduceAdd, Nat.zero_add, Nat.reduceLeDiff, true_and, if_neg n10]
    refine pa_takeSign hc hT (by omega) (by omega) ?_
    simp only [x_Pa_readSum_14, Option.toList_some, Option.toList_none, List.cons_append, List.nil_append, List.length_cons, List.length_nil, Nat.reduceAdd, Nat.zero_add, Nat.reduceLeDiff, true_and]
    exact rest _ (i + 1) (by unfold ox_tm; split <;> simp) (by omega) (by omega) (if_pos h5)
  · simp only [x_Pa_readSum_7, x_Pa_readSum_17, Option.toList_some, Option.toList_none, List.cons_append, List.nil_append, List.length_cons, List.length_nil, Nat.reduceAdd, Nat.zero_add, Nat.reduceLeDiff, true_and, if_true]
    exact rest 1 i (Or.inl rfl) h0 h1 (if_neg h5)
theorem pa_S {sc : Int × (Int → Int)} {d : Nat} {s n : Int} {c : Int → Int} (hs : s = 0 ∨ s = 1) (hc : ox_cc c n) : ∀ m o : Nat, o + m = 4 → ox_sp sc (d + 6 + 5 * m) 18 [.inr (.inl 25), .inl (o : Int), om_un, om_un] s n c (32 + 8 * o) (32 + 8 * o) (ox_S s c m)
  | 0, o, e => by
    rw [ox_S_e]
    exact pa_readSum (d := d) hs hc (by omega) (ox_lo_ok hc 0) (fun h => by omega) (fun _ _ _ => rfl)
  | m + 1, o, e => by
    rw [ox_S_e, show d + 6 + 5 * (m + 1) = (d + 5 + 5 * m) + 6 by omega]
    refine pa_readSum (d := d + 5 + 5 * m) hs hc (by omega) (ox_lo_ok hc (m + 1)) (fun h => ?_) (fun h => by omega)
    have := pa_S (sc := sc) (d := d) hs hc m (o + 1) (by omega)
    rw [show d + 6 + 5 * m = d + 5 + 5 * m + 1 by omega] at this
    exact this
theorem pa_parse {sc : Int × (Int → Int)} {d : Nat} {s : Int} {q : Nat → Int} {I : Nat → Int → Int} {Q : Option om_V → om_H → Prop} {c : Int → Int} {n : Int} (hs : s = 0 ∨ s = 1) (hc : ox_cc c n) (hT : ox_tx q I c n) (h2 : (ox_S s c 4 0 0 = none ∨ ∃ r, ox_S s c 4 0 0 = some r ∧ r.1 ≠ n) → ∀ I' p w l, ox_fm 32 I I' → Q (some (.inl (-2))) (om_O s (ox_q q p w l), I')) (h3 : ∀ r, ox_S s c 4 0 0 = some r → r.1 = n → r.2.1 ≠ 0 → ∀ I' p w l, ox_fm 32 I I' → Q (some (.inl (-3))) (om_O s (ox_q q p w l), I')) (h0 : ∀ r, ox_S s c 4 0 0 = some r → r.1 = n → r.2.1 = 0 → ∀ I' p w l, ox_fm 32 I I' → om_tb 5 13 (I' 32) = r.2.2 → Q (some (.inl 0)) (om_O s (ox_q q p w l), I')) : om_R sc (d + 27) 17 0 [.inr (.inl 25)] [] (om_O s q, I) Q := by
  have n10 : ¬ (1 : Int) = 0 := by decide
  have b1 := hc.1
  have e0 : om_qs (om_qs (om_qs q 2 0) 3 0) 4 0 = ox_q q 0 0 0 := rfl
  have H := pa_S (sc := sc) (d := d) hs hc 4 0 rfl
  simp only [x_Pa_parse_0, x_Pa_parse_1, x_Pa_parse_2, x_Pa_parse_5, x_Pa_parse_6, x_Pa_parse_7, x_Pa_parse_10, x_Pa_parse_11, x_Pa_parse_12, x_Pa_parse_15, x_Pa_parse_16, x_Pa_parse_17, pO_25_3 17 0 rfl, pO_25_4 17 0 rfl, pO_25_5 17 0 rfl, e0, rO_25, Option.toList_some, Option.toList_none, List.cons_append, List.nil_append, List.length_cons, List.length_nil, Nat.reduceAdd, Nat.zero_add, Nat.reduceLeDiff, true_and]
  refine H q I _ 0 0 hT (by omega) b1.1 (Or.inl rfl) (fun hN I1 p l' f1 => ?_) (fun r hr I1 f1 f2 => ?_)
  · simp only [x_Pa_parse_20, x_Pa_parse_21, x_Pa_parse_24, x_Pa_parse_27, x_Pa_parse_28, x_Pa_parse_31, x_Pa_parse_32, x_Pa_parse_35, x_Pa_parse_38, x_Pa_parse_40, gO_25_4, ox_q_3, Option.toList_some, Option.toList_none, List.cons_append, List.nil_append, List.length_cons, List.length_nil, Nat.reduceAdd, Nat.zero_add, Nat.reduceLeDiff, true_and, if_neg n10]
    exact h2 (Or.inl hN) I1 _ _ _ f1
  · simp only [x_Pa_parse_20, x_Pa_parse_21, x_Pa_parse_24, x_Pa_parse_27, x_Pa_parse_28, x_Pa_parse_31, x_Pa_parse_32, x_Pa_parse_35, gO_25_4, gO_25_3, gO_25_2, ox_q_3, ox_q_2, ox_q_1, hT.1, Option.toList_some, Option.toList_none, List.cons_append, List.nil_append, List.length_cons, List.length_nil, Nat.reduceAdd, Nat.zero_add, Nat.reduceLeDiff, true_and, if_true]
    by_cases en : r.1 = n
    · rw [if_pos en]
      simp only [x_Pa_parse_41, x_Pa_parse_42, x_Pa_parse_45, gO_25_5, ox_q_4, Option.toList_some, Option.toList_none, List.cons_append, List.nil_append, List.length_cons, List.length_nil, Nat.reduceAdd, Nat.zero_add, Nat.reduceLeDiff, true_and]
      by_cases l0 : r.2.1 = 0
      · rw [if_pos l0]
        simp only [x_Pa_parse_53, x_Pa_parse_54]
        exact h0 r hr en l0 I1 _ _ _ f1 f2
      · rw [if_neg l0]
        simp only [x_Pa_parse_48, x_Pa_parse_50, x_Pa_parse_54]
        exact h3 r hr en l0 I1 _ _ _ f1
    · rw [if_neg en]
      simp only [x_Pa_parse_38, x_Pa_parse_40]
      exact h2 (Or.inr ⟨r, hr, en⟩) I1 _ _ _ f1
/-- outcome of a reading: -2, -3, or a table -/
def ox_f2 (s : Int) (c : Int → Int) (n : Int) : Prop := ox_S s c 4 0 0 = none ∨ ∃ r, ox_S s c 4 0 0 = some r ∧ r.1 ≠ n
def ox_f3 (s : Int) (c : Int → Int) (n : Int) : Prop := ∃ r, ox_S s c 4 0 0 = some r ∧ r.1 = n ∧ r.2.1 ≠ 0
def ox_f0 (s : Int) (c : Int → Int) (n : Int) (V : Int → Int → Int) : Prop := ∃ r, ox_S s c 4 0 0 = some r ∧ r.1 = n ∧ r.2.1 = 0 ∧ r.2.2 = V
theorem or_read {sc : Int × (Int → Int)} {d : Nat} {s : Int} {q : Nat → Int} {I : Nat → Int → Int} {Q : Option om_V → om_H → Prop} {c : Int → Int} {n r : Int} (hs : s = 0 ∨ s = 1) (hc : ox_cc c n) (hT : ox_tx q I c n) (hb : ¬ (0 ≤ r ∧ r < 8) → Q (some (.inl (-1))) (om_O s q, I)) (h2 : 0 ≤ r ∧ r < 8 → ox_f2 s c n → ∀ I' p w l, ox_fm 32 I I' → Q (some (.inl (-2))) (om_O s (ox_q q p w l), I')) (h3 : 0 ≤ r ∧ r < 8 → ox_f3 s c n → ∀ I' p w l, ox_fm 32 I I' → Q (some (.inl (-3))) (om_O s (ox_q q p w l), I')) (h0 : 0 ≤ r ∧ r < 8 → ∀ V, ox_f0 s c n V → ∀ I' p w l, (∀ b, b ≠ om_ca r → b ≠ 22 → b ≠ 24 → (b < 32 ∨ 70 < b) → I' b = I b) → om_cr I' r = V → Q (some (.inl (om_or 5 13 V + 1))) (om_O s (ox_q q p w l), I')) : om_R sc (d + 28) 14 0 [.inr (.inl 0), .inl r, om_un] [] (om_O s q, I) Q := by
  have n10 : ¬ (1 : Int) = 0 := by decide
  have n20 : ¬ (-2 : Int) = 0 := by decide
  have n30 : ¬ (-3 : Int) = 0 := by decide
  simp only [x_Or_read_0, x_Or_read_1, Option.toList_some, Option.toList_none, List.cons_append, List.nil_append, List.length_cons, List.length_nil, Nat.reduceAdd, Nat.zero_add, Nat.reduceLeDiff, true_and]
  refine or_isRegister (fun hr => ?_) (fun hr => ?_)
  · simp only [x_Or_read_4, x_Or_read_9, x_Or_read_10, x_Or_read_13, gO_0_2, rO_25, Option.toList_some, Option.toList_none, List.cons_append, List.nil_append, List.length_cons, List.length_nil, Nat.reduceAdd, Nat.zero_add, Nat.reduceLeDiff, true_and, if_neg n10]
    refine pa_parse hs hc hT (fun hN I1 p w l f1 => ?_) (fun r' e1 e2 e3 I1 p w l f1 => ?_) (fun r' e1 e2 e3 I1 p w l f1 f2 => ?_)
    · simp only [x_Or_read_16, x_Or_read_17, x_Or_read_18, x_Or_read_21, x_Or_read_22, Option.toList_some, Option.toList_none, List.cons_append, List.nil_append, List.length_cons, List.length_nil, Nat.reduceAdd, Nat.zero_add, Nat.reduceLeDiff, true_and, if_neg n20]
      exact h2 hr hN I1 p w l f1
    · simp only [x_Or_read_16, x_Or_read_17, x_Or_read_18, x_Or_read_21, x_Or_read_22, Option.toList_some, Option.toList_none, List.cons_append, List.nil_append, List.length_cons, List.length_nil, Nat.reduceAdd, Nat.zero_add, Nat.reduceLeDiff, true_and, if_neg n30]
      exact h3 hr ⟨r', e1, e2, e3⟩ I1 p w l f1
    · have oS := ox_S_ok (s := s) hc 4 0 0 r' (by omega) (by have := hc.1; omega) (Or.inl rfl) e1
      have ga := fun q => (om_op_g (or_reg (s := s) (q := q) hr)).2.2.2
      have k0 := fun q K => kO_sum (s := s) (q := q) (z := 0) (by omega) (by omega) K
      simp only [x_Or_read_16, x_Or_read_17, x_Or_read_18, x_Or_read_23, x_Or_read_24, x_Or_read_27, x_Or_read_28, x_Or_read_29, x_Or_read_30, x_Or_read_33, gO_0_0, gO_0_2, kO_reg hr.1 hr.2, rO_25, Option.toList_some, Option.toList_none, List.cons_append, List.nil_append, List.length_cons, List.length_nil, Nat.reduceAdd, Nat.zero_add, Nat.reduceLeDiff, true_and, if_true]
      simp only [x_Pa_value_0, x_Pa_value_1, x_Pa_value_4, x_Pa_value_5, x_Pa_value_6, gO_25_6, k0, Option.toList_some, Option.toList_none, List.cons_append, List.nil_append, List.length_cons, List.length_nil, Nat.reduceAdd, Nat.zero_add, Nat.reduceLeDiff, true_and]
      rw [show 31 + 8 * Int.toNat 0 = 31 by rfl]
      simp only [x_Or_read_36, ga, Option.toList_some, Option.toList_none, List.cons_append, List.nil_append, List.length_cons, List.length_nil, Nat.reduceAdd, Nat.zero_add, Nat.reduceLeDiff, true_and]
      refine op_become (or_reg hr) (oO_sum (r := 0) (by decide)) (by unfold om_ca; omega) (fun I2 f3 f4 => ?_)
      have f5 : om_cr I2 r = r'.2.2 := by
        funext i k
        unfold om_cr
        rw [f4 i k, f2]
        split
        · rfl
        · exact (oS.2.2.2.2.2 i k (by omega)).symm
      simp only [x_Or_read_39, x_Or_read_40, x_Or_read_43, x_Or_read_44, x_Or_read_45, gO_0_0, kO_reg hr.1 hr.2, ga, Option.toList_some, Option.toList_none, List.cons_append, List.nil_append, List.length_cons, List.length_nil, Nat.reduceAdd, Nat.zero_add, Nat.reduceLeDiff, true_and]
      refine op_topOrder (or_reg hr) ?_
      have eA : om_tb 5 13 (I2 (om_ca r)) = r'.2.2 := f5
      rw [eA]
      have ob := om_or_b (A := r'.2.2)
      simp only [x_Or_read_48, x_Or_read_49, x_Or_read_50, Option.toList_some, Option.toList_none, List.cons_append, List.nil_append, List.length_cons, List.length_nil, Nat.reduceAdd, Nat.zero_add, Nat.reduceLeDiff, true_and]
      refine ⟨⟨by omega, by omega⟩, h0 hr _ ⟨r', e1, e2, e3, rfl⟩ I2 p w l (fun b b0 b1 b2 b3 => by rw [f3 b b0, f1 b b1 b2 b3]) f5⟩
  · simp only [x_Or_read_4, x_Or_read_7, x_Or_read_8, Option.toList_some, Option.toList_none, List.cons_append, List.nil_append, List.length_cons, List.length_nil, Nat.reduceAdd, Nat.zero_add, Nat.reduceLeDiff, true_and, if_true]
    exact hb hr
