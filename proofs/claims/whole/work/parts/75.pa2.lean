/-! the class's parser: atoms, powers, products, sums -/
def ox_fm (lo : Nat) (I I' : Nat → Int → Int) : Prop := ∀ b, b ≠ 22 → b ≠ 24 → (b < lo ∨ 70 < b) → I' b = I b
theorem ox_fm_rf {lo : Nat} {I : Nat → Int → Int} : ox_fm lo I I := fun _ _ _ _ => rfl
theorem ox_fm_tr {lo l1 l2 : Nat} {I I1 I2 : Nat → Int → Int} (h1 : ox_fm l1 I I1) (h2 : ox_fm l2 I1 I2) (e1 : lo ≤ l1) (e2 : lo ≤ l2) : ox_fm lo I I2 := fun b b1 b2 b3 => by rw [h2 b b1 b2 (by omega), h1 b b1 b2 (by omega)]
theorem ox_fm_1 {lo cc : Nat} {I I1 : Nat → Int → Int} (h1 : ∀ b, b ≠ cc → I1 b = I b) (e1 : lo ≤ cc) (e2 : cc ≤ 70) : ox_fm lo I I1 := fun b b1 b2 b3 => h1 b (by omega)
theorem ox_fm_p {lo : Nat} {I I1 : Nat → Int → Int} (h1 : ∀ b, b ≠ 22 → b ≠ 24 → I1 b = I b) : ox_fm lo I I1 := fun b b1 b2 _ => h1 b b1 b2
theorem ox_tx_m {q : Nat → Int} {lo : Nat} {I I1 : Nat → Int → Int} {c : Int → Int} {n : Int} (hT : ox_tx q I c n) (h : ox_fm lo I I1) (hl : 27 ≤ lo) : ox_tx q I1 c n := ⟨hT.1, fun k a b => by rw [h 26 (by decide) (by decide) (by omega)]; exact hT.2 k a b⟩
def ox_sp (sc : Int × (Int → Int)) (D mi : Nat) (L : List om_V) (s n : Int) (c : Int → Int) (lo cell : Nat) (A : Int → Int → Option ox_X) : Prop := ∀ (q : Nat → Int) (I : Nat → Int → Int) (Q : Option om_V → om_H → Prop) (i l : Int), ox_tx q I c n → 0 ≤ i → i ≤ n → (l = 0 ∨ l = 1) → (A i l = none → ∀ I' p l', ox_fm lo I I' → Q none (om_O s (ox_q q p 1 l'), I')) → (∀ r, A i l = some r → ∀ I', ox_fm lo I I' → om_tb 5 13 (I' cell) = r.2.2 → Q none (om_O s (ox_q q r.1 0 r.2.1), I')) → om_R sc D mi 0 L [] (om_O s (ox_q q i 0 l), I) Q
theorem pa_readBrackets {sc : Int × (Int → Int)} {d o : Nat} {s n : Int} {c : Int → Int} (hc : ox_cc c n) (ho : o < 4) {S : Int → Int → Option ox_X} (oS : ox_okA n S) (hS : ox_sp sc (d + 1) 18 [.inr (.inl 25), .inl (((o + 1 : Nat) : Int)), om_un, om_un] s n c (32 + 8 * (o + 1)) (32 + 8 * (o + 1)) S) {q : Nat → Int} {I : Nat → Int → Int} {Q : Option om_V → om_H → Prop} {i l : Int} (hT : ox_tx q I c n) (h0 : 0 ≤ i) (h1 : i < n) (hl : l = 0 ∨ l = 1) (hn : (S (i + 1) l = none ∨ ∃ r, S (i + 1) l = some r ∧ c r.1 ≠ 41) → ∀ I' p l', ox_fm (37 + 8 * o) I I' → Q none (om_O s (ox_q q p 1 l'), I')) (hs : ∀ r, S (i + 1) l = some r → c r.1 = 41 → ∀ I', ox_fm (37 + 8 * o) I I' → om_tb 5 13 (I' (38 + 8 * o)) = r.2.2 → Q none (om_O s (ox_q q (r.1 + 1) 0 r.2.1), I')) : om_R sc (d + 2) 31 0 [.inr (.inl 25), .inl (o : Int)] [] (om_O s (ox_q q i 0 l), I) Q := by
  have n10 : ¬ (1 : Int) = 0 := by decide
  have b1 := hc.1
  simp only [x_Pa_readBrackets_0, x_Pa_readBrackets_1, x_Pa_readBrackets_2, x_Pa_readBrackets_5, x_Pa_readBrackets_6, x_Pa_readBrackets_7, x_Pa_readBrackets_10, x_Pa_readBrackets_11, x_Pa_readBrackets_12, x_Pa_readBrackets_13, x_Pa_readBrackets_14, gO_25_3, pO_25_3 31 (i + 1) rfl, ox_q_2, ox_q_s2, rO_25, Option.toList_some, Option.toList_none, List.cons_append, List.nil_append, List.length_cons, List.length_nil, Nat.reduceAdd, Nat.zero_add, Nat.reduceLeDiff, true_and]
  refine ⟨⟨by omega, by omega⟩, ⟨by omega, by omega⟩, ?_⟩
  have e := hS q I (fun v h' => om_R sc (d + 1 + 1) 31 17 [.inr (.inl 25), .inl (o : Int)] (v.toList ++ []) h' Q) (i + 1) l hT (by omega) (by omega) hl (fun hN I1 p l' f1 => ?_) (fun r hr I1 f1 f2 => ?_)
  · simpa using e
  · simp only [x_Pa_readBrackets_17, x_Pa_readBrackets_18, x_Pa_readBrackets_21, x_Pa_readBrackets_33, x_Pa_readBrackets_34, x_Pa_readBrackets_35, x_Pa_readBrackets_38, gO_25_4, pO_25_4 31 1 rfl, ox_q_3, ox_q_s3, Option.toList_some, Option.toList_none, List.cons_append, List.nil_append, List.length_cons, List.length_nil, Nat.reduceAdd, Nat.zero_add, Nat.reduceLeDiff, true_and, if_neg n10]
    exact hn (Or.inl hN) I1 p l' (ox_fm_tr ox_fm_rf f1 (Nat.le_refl _) (by omega))
  · obtain ⟨a1, a2, a3, a4, a5, a6⟩ := oS (i + 1) l r (by omega) (by omega) hl hr
    simp only [x_Pa_readBrackets_17, x_Pa_readBrackets_18, x_Pa_readBrackets_21, x_Pa_readBrackets_24, x_Pa_readBrackets_25, gO_25_4, ox_q_3, rO_25, Option.toList_some, Option.toList_none, List.cons_append, List.nil_append, List.length_cons, List.length_nil, Nat.reduceAdd, Nat.zero_add, Nat.reduceLeDiff, true_and, if_true]
    refine pa_next hc (ox_tx_m hT f1 (by omega)) (by omega) ?_
    simp only [x_Pa_readBrackets_28, x_Pa_readBrackets_30, Option.toList_some, Option.toList_none, List.cons_append, List.nil_append, List.length_cons, List.length_nil, Nat.reduceAdd, Nat.zero_add, Nat.reduceLeDiff, true_and]
    by_cases hj : c r.1 = 41
    · rw [if_pos hj]
      have lt := ox_lt (k := r.1) hc (by omega)
      have k2 := fun K => kO_sum (s := s) (q := ox_q q (r.1 + 1) 0 r.2.1) (z := (o : Int) + 1) (by omega) (by omega) K
      have k1 := fun K => kO_atom (s := s) (q := ox_q q (r.1 + 1) 0 r.2.1) (z := (o : Int)) (by omega) (by omega) K
      rw [show ((o : Int) + 1).toNat = o + 1 by omega] at k2
      rw [Int.toNat_natCast] at k1
      have oa := oO_atom (s := s) (q := ox_q q (r.1 + 1) 0 r.2.1) (r := o) (by omega)
      have os := oO_sum (s := s) (q := ox_q q (r.1 + 1) 0 r.2.1) (r := o + 1) (by omega)
      have gr := (om_op_g oa).2.2.2
      simp only [x_Pa_readBrackets_39, x_Pa_readBrackets_40, x_Pa_readBrackets_41, x_Pa_readBrackets_44, x_Pa_readBrackets_45, x_Pa_readBrackets_46, x_Pa_readBrackets_49, x_Pa_readBrackets_50, x_Pa_readBrackets_53, x_Pa_readBrackets_54, x_Pa_readBrackets_55, x_Pa_readBrackets_56, x_Pa_readBrackets_59, x_Pa_readBrackets_60, x_Pa_readBrackets_61, x_Pa_readBrackets_62, x_Pa_readBrackets_63, gO_25_3, pO_25_3 31 (r.1 + 1) rfl, ox_q_2, ox_q_s2, gO_25_9, gO_25_6, k1, k2, gr, Option.toList_some, Option.toList_none, List.cons_append, List.nil_append, List.length_cons, List.length_nil, Nat.reduceAdd, Nat.zero_add, Nat.reduceLeDiff, true_and]
      refine ⟨⟨by omega, by omega⟩, ⟨by omega, by omega⟩, ?_⟩
      refine op_become oa os (by omega) (fun I2 f3 f4 => ?_)
      simp only [x_Pa_readBrackets_66, Option.toList_some, Option.toList_none, List.cons_append, List.nil_append, List.length_cons, List.length_nil, Nat.reduceAdd, Nat.zero_add, Nat.reduceLeDiff, true_and]
      refine hs r hr hj I2 (ox_fm_tr f1 (ox_fm_1 (lo := 37 + 8 * o) f3 (by omega) (by omega)) (by omega) (Nat.le_refl _)) ?_
      funext i' k'
      rw [f4 i' k', f2]
      split
      · rfl
      · exact (a6 i' k' (by omega)).symm
    · rw [if_neg hj]
      simp only [x_Pa_readBrackets_33, x_Pa_readBrackets_34, x_Pa_readBrackets_35, x_Pa_readBrackets_38, pO_25_4 31 1 rfl, ox_q_s3, Option.toList_some, Option.toList_none, List.cons_append, List.nil_append, List.length_cons, List.length_nil, Nat.reduceAdd, Nat.zero_add, Nat.reduceLeDiff, true_and]
      exact hn (Or.inr ⟨r, hr, hj⟩) I1 r.1 r.2.1 (ox_fm_tr ox_fm_rf f1 (Nat.le_refl _) (by omega))
theorem ox_t1_e {cc : Nat} {I : Nat → Int → Int} {i k v u : Int} (h : ∀ i' k', om_tb 5 13 (I cc) i' k' = if (i' = i ∧ k' = k) ∧ (0 ≤ i ∧ i < 5 ∧ 0 ≤ k ∧ k < 13) then v % 31 else 0) (hb : 0 ≤ i ∧ i < 5 ∧ 0 ≤ k ∧ k < 13) (hv : v % 31 = u) : om_tb 5 13 (I cc) = ox_t1 i k u := by
  funext i' k'
  rw [h i' k']
  unfold ox_t1
  by_cases e : i' = i ∧ k' = k
  · rw [if_pos e, if_pos ⟨e, hb⟩, hv]
  · rw [if_neg e, if_neg (fun w => e w.1)]
theorem pa_readAtom {sc : Int × (Int → Int)} {d o : Nat} {s n : Int} {c : Int → Int} (hc : ox_cc c n) (ho : o < 5) {S : Int → Int → Option ox_X} (oS : ox_okA n S) (hS : o < 4 → ox_sp sc (d + 1) 18 [.inr (.inl 25), .inl (((o + 1 : Nat) : Int)), om_un, om_un] s n c (32 + 8 * (o + 1)) (32 + 8 * (o + 1)) S) (h4 : o = 4 → ∀ i l, S i l = none) : ox_sp sc (d + 3) 28 [.inr (.inl 25), .inl (o : Int), om_un] s n c (37 + 8 * o) (38 + 8 * o) (ox_ra c S) := by
  intro q I Q i l hT h0 h1 hl hn hs
  have n10 : ¬ (1 : Int) = 0 := by decide
  have b1 := hc.1
  have k1 := fun i w l K => kO_atom (s := s) (q := ox_q q i w l) (z := (o : Int)) (by omega) (by omega) K
  rw [Int.toNat_natCast] at k1
  simp only [x_Pa_readAtom_0, x_Pa_readAtom_1, rO_25, Option.toList_some, Option.toList_none, List.cons_append, List.nil_append, List.length_cons, List.length_nil, Nat.reduceAdd, Nat.zero_add, Nat.reduceLeDiff, true_and]
  refine pa_next hc hT h0 ?_
  simp only [x_Pa_readAtom_4, x_Pa_readAtom_5, x_Pa_readAtom_6, Option.toList_some, Option.toList_none, List.cons_append, List.nil_append, List.length_cons, List.length_nil, Nat.reduceAdd, Nat.zero_add, Nat.reduceLeDiff, true_and]
  refine pa_isDigit (fun hd => ?_) (fun hd => ?_)
  · simp only [x_Pa_readAtom_9, x_Pa_readAtom_12, x_Pa_readAtom_13, x_Pa_readAtom_16, x_Pa_readAtom_17, x_Pa_readAtom_18, x_Pa_readAtom_19, x_Pa_readAtom_20, x_Pa_readAtom_21, gO_25_9, k1, rO_25, Option.toList_some, Option.toList_none, List.cons_append, List.nil_append, List.length_cons, List.length_nil, Nat.reduceAdd, Nat.zero_add, Nat.reduceLeDiff, true_and, if_neg n10]
    refine pa_takeNumber hc hT h0 h1 ?_
    have oa := oO_atom (s := s) (q := ox_q q (ox_de c 40 i) 0 l) (r := o) (by omega)
    have gr := (om_op_g oa).2.2.2
    simp only [x_Pa_readAtom_24, gr, Option.toList_some, Option.toList_none, List.cons_append, List.nil_append, List.length_cons, List.length_nil, Nat.reduceAdd, Nat.zero_add, Nat.reduceLeDiff, true_and]
    refine op_becomeTerm oa (fun I1 f1 f2 => ?_)
    simp only [x_Pa_readAtom_27, x_Pa_readAtom_116, Option.toList_some, Option.toList_none, List.cons_append, List.nil_append, List.length_cons, List.length_nil, Nat.reduceAdd, Nat.zero_add, Nat.reduceLeDiff, true_and]
    have e : ox_ra c S i l = some (ox_de c 40 i, l, ox_t1 0 0 (ox_dv c 40 i 0)) := if_pos hd
    have vb := ox_dv_b (c := c) 40 i 0 (by decide)
    exact hs _ e I1 (ox_fm_1 f1 (by omega) (by omega)) (ox_t1_e f2 (by decide) (by omega))
  · simp only [x_Pa_readAtom_9, x_Pa_readAtom_30, x_Pa_readAtom_31, x_Pa_readAtom_33, Option.toList_some, Option.toList_none, List.cons_append, List.nil_append, List.length_cons, List.length_nil, Nat.reduceAdd, Nat.zero_add, Nat.reduceLeDiff, true_and, if_true]
    by_cases hx : c i = 120
    · rw [if_pos hx]
      have oa := oO_atom (s := s) (q := ox_q q (i + 1) 0 l) (r := o) (by omega)
      have gr := (om_op_g oa).2.2.2
      simp only [x_Pa_readAtom_36, x_Pa_readAtom_37, x_Pa_readAtom_38, x_Pa_readAtom_41, x_Pa_readAtom_42, x_Pa_readAtom_43, x_Pa_readAtom_46, x_Pa_readAtom_47, x_Pa_readAtom_50, x_Pa_readAtom_51, x_Pa_readAtom_52, x_Pa_readAtom_53, x_Pa_readAtom_54, x_Pa_readAtom_55, gO_25_3, pO_25_3 28 (i + 1) rfl, ox_q_2, ox_q_s2, gO_25_9, k1, gr, Option.toList_some, Option.toList_none, List.cons_append, List.nil_append, List.length_cons, List.length_nil, Nat.reduceAdd, Nat.zero_add, Nat.reduceLeDiff, true_and]
      refine ⟨⟨by omega, by omega⟩, op_becomeTerm oa (fun I1 f1 f2 => ?_)⟩
      simp only [x_Pa_readAtom_58, x_Pa_readAtom_116, Option.toList_some, Option.toList_none, List.cons_append, List.nil_append, List.length_cons, List.length_nil, Nat.reduceAdd, Nat.zero_add, Nat.reduceLeDiff, true_and]
      have e : ox_ra c S i l = some (i + 1, l, ox_t1 0 1 1) := by unfold ox_ra; rw [if_neg hd, if_pos hx]
      exact hs _ e I1 (ox_fm_1 f1 (by omega) (by omega)) (ox_t1_e f2 (by decide) (by decide))
    · rw [if_neg hx]
      simp only [x_Pa_readAtom_61, x_Pa_readAtom_62, x_Pa_readAtom_64]
      by_cases hT' : c i = 84
      · rw [if_pos hT']
        have oa := oO_atom (s := s) (q := ox_q q (i + 1) 0 l) (r := o) (by omega)
        have gr := (om_op_g oa).2.2.2
        simp only [x_Pa_readAtom_67, x_Pa_readAtom_68, x_Pa_readAtom_69, x_Pa_readAtom_72, x_Pa_readAtom_73, x_Pa_readAtom_74, x_Pa_readAtom_77, x_Pa_readAtom_78, x_Pa_readAtom_81, x_Pa_readAtom_82, x_Pa_readAtom_83, x_Pa_readAtom_84, x_Pa_readAtom_85, x_Pa_readAtom_86, gO_25_3, pO_25_3 28 (i + 1) rfl, ox_q_2, ox_q_s2, gO_25_9, k1, gr, Option.toList_some, Option.toList_none, List.cons_append, List.nil_append, List.length_cons, List.length_nil, Nat.reduceAdd, Nat.zero_add, Nat.reduceLeDiff, true_and]
        refine ⟨⟨by omega, by omega⟩, op_becomeTerm oa (fun I1 f1 f2 => ?_)⟩
        simp only [x_Pa_readAtom_89, x_Pa_readAtom_116, Option.toList_some, Option.toList_none, List.cons_append, List.nil_append, List.length_cons, List.length_nil, Nat.reduceAdd, Nat.zero_add, Nat.reduceLeDiff, true_and]
        have e : ox_ra c S i l = some (i + 1, l, ox_t1 1 0 1) := by unfold ox_ra; rw [if_neg hd, if_neg hx, if_pos hT']
        exact hs _ e I1 (ox_fm_1 f1 (by omega) (by omega)) (ox_t1_e f2 (by decide) (by decide))
      · rw [if_neg hT']
        have wr : (ox_ra c S i l = none) → om_R sc (d + 3) 28 111 [.inr (.inl 25), .inl (o : Int), .inl (c i)] [] (om_O s (ox_q q i 0 l), I) Q := by
          intro hN
          simp only [x_Pa_readAtom_111, x_Pa_readAtom_112, x_Pa_readAtom_113, x_Pa_readAtom_116, pO_25_4 28 1 rfl, ox_q_s3, Option.toList_some, Option.toList_none, List.cons_append, List.nil_append, List.length_cons, List.length_nil, Nat.reduceAdd, Nat.zero_add, Nat.reduceLeDiff, true_and]
          exact hn hN I i l ox_fm_rf
        simp only [x_Pa_readAtom_92, x_Pa_readAtom_93, x_Pa_readAtom_95]
        by_cases hb : c i = 40
        · rw [if_pos hb]
          have e : ox_ra c S i l = ox_br c (S (i + 1) l) := by
            unfold ox_ra
            rw [if_neg hd, if_neg hx, if_neg hT', if_pos hb]
          simp only [x_Pa_readAtom_98, x_Pa_readAtom_99, x_Pa_readAtom_100]
          by_cases h4' : (4 : Int) ≤ o
          · rw [if_pos h4']
            refine wr ?_
            rw [e, h4 (by omega)]
            rfl
          · rw [if_neg h4']
            simp only [x_Pa_readAtom_103, x_Pa_readAtom_104, x_Pa_readAtom_105, rO_25, Option.toList_some, Option.toList_none, List.cons_append, List.nil_append, List.length_cons, List.length_nil, Nat.reduceAdd, Nat.zero_add, Nat.reduceLeDiff, true_and]
            refine pa_readBrackets hc (by omega) oS (hS (by omega)) hT h0 (ox_lt hc (by omega)) hl (fun hN I' p l' f1 => ?_) (fun r hr hj I' f1 f2 => ?_)
            · simp only [x_Pa_readAtom_108, x_Pa_readAtom_116, Option.toList_some, Option.toList_none, List.cons_append, List.nil_append, List.length_cons, List.length_nil, Nat.reduceAdd, Nat.zero_add, Nat.reduceLeDiff, true_and]
              refine hn ?_ I' p l' f1
              rw [e]
              rcases hN with hN | ⟨r, hr, hj⟩
              · rw [hN]
                rfl
              · rw [hr]
                dsimp only [ox_br]
                rw [if_neg hj]
            · simp only [x_Pa_readAtom_108, x_Pa_readAtom_116, Option.toList_some, Option.toList_none, List.cons_append, List.nil_append, List.length_cons, List.length_nil, Nat.reduceAdd, Nat.zero_add, Nat.reduceLeDiff, true_and]
              refine hs (r.1 + 1, r.2.1, r.2.2) ?_ I' f1 f2
              rw [e, hr]
              dsimp only [ox_br]
              rw [if_pos hj]
        · rw [if_neg hb]
          refine wr ?_
          unfold ox_ra
          rw [if_neg hd, if_neg hx, if_neg hT', if_neg hb]
theorem ox_cut_e {cc c2 : Nat} {I I' : Nat → Int → Int} {M : Int → Int → Int} (h : ∀ i' k', om_tb 5 13 (I' cc) i' k' = if i' < 5 ∧ k' < 13 then om_tb 9 25 (I c2) i' k' else 0) (hm : om_tb 9 25 (I c2) = M) : om_tb 5 13 (I' cc) = ox_cut M := by
  funext i k
  rw [h i k, hm]
  rfl
theorem pa_rp_l {sc : Int × (Int → Int)} {d : Nat} {s : Int} {q : Nat → Int} {Q : Option om_V → om_H → Prop} {o : Nat} {n j e : Int} (hs : s = 0 ∨ s = 1) (ho : o < 5) {V : Int → Int → Int} (rV : om_r31 V) : ∀ (m : Nat) (k : Int) (y : om_V) (x : Int × (Int → Int → Int)) (I : Nat → Int → Int), k + m = e → 0 ≤ k → e ≤ 9 → ox_okP 0 x → om_tb 5 13 (I (36 + 8 * o)) = x.2 → om_tb 5 13 (I (38 + 8 * o)) = V → (∀ I', ox_fm (35 + 8 * o) I I' → om_tb 5 13 (I' (36 + 8 * o)) = (ox_pp s V m x).2 → Q none (om_O s (ox_q q j 0 (ox_pp s V m x).1), I')) → om_R sc (d + 4) 27 96 [.inr (.inl 25), .inl (o : Int), .inl e, .inl k, y] [] (om_O s (ox_q q j 0 x.1), I) Q := by
  have n10 : ¬ (1 : Int) = 0 := by decide
  intro m
  induction m with
  | zero =>
    intro k y x I e1 e2 e3 hx hW hV hq
    simp only [x_Pa_readPower_96, x_Pa_readPower_97, x_Pa_readPower_98, x_Pa_readPower_163]
    rw [if_pos (by omega)]
    exact hq I ox_fm_rf hW
  | succ m ih =>
    intro k y x I e1 e2 e3 hx hW hV hq
    have k1 := fun q K => kO_pow (s := s) (q := q) (z := (o : Int)) (by omega) (by omega) K
    have k2 := fun q K => kO_atom (s := s) (q := q) (z := (o : Int)) (by omega) (by omega) K
    rw [Int.toNat_natCast] at k1 k2
    have op := fun q => oO_pow (s := s) (q := q) (r := o) (by omega)
    have oa := fun q => oO_atom (s := s) (q := q) (r := o) (by omega)
    have gr := fun q => (om_op_g (op q)).2.2.2
    simp only [x_Pa_readPower_96, x_Pa_readPower_97, x_Pa_readPower_98]
    rw [if_neg (by omega)]
    simp only [x_Pa_readPower_101, x_Pa_readPower_102, x_Pa_readPower_105, x_Pa_readPower_106, x_Pa_readPower_109, x_Pa_readPower_110, x_Pa_readPower_111, x_Pa_readPower_112, x_Pa_readPower_115, x_Pa_readPower_116, x_Pa_readPower_117, gO_25_0, gO_25_8, gO_25_9, k1, k2, rO_20, Option.toList_some, Option.toList_none, List.cons_append, List.nil_append, List.length_cons, List.length_nil, Nat.reduceAdd, Nat.zero_add, Nat.reduceLeDiff, true_and]
    refine al_product hs (op _) (oa _) (by omega) (by omega) (by omega) (by omega) (by rw [hW]; exact hx.2.2.1) (by rw [hV]; exact rV) (fun I1 f1 f2 => ?_)
    rw [hW, hV] at f2
    have nx : ∀ v, v = ox_lg x.1 (om_mlt s x.2 V) → om_R sc (d + 4) 27 146 [.inr (.inl 25), .inl (o : Int), .inl e, .inl k, .inr (.inl 21)] [] (om_O s (ox_q q j 0 v), I1) Q := by
      intro v hv
      simp only [x_Pa_readPower_146, x_Pa_readPower_147, x_Pa_readPower_150, x_Pa_readPower_151, x_Pa_readPower_152, x_Pa_readPower_154, gO_25_8, k1, gr, Option.toList_some, Option.toList_none, List.cons_append, List.nil_append, List.length_cons, List.length_nil, Nat.reduceAdd, Nat.zero_add, Nat.reduceLeDiff, true_and]
      refine op_become (op _) oO_21 (by omega) (fun I2 f3 f4 => ?_)
      simp only [x_Pa_readPower_157, x_Pa_readPower_160, Option.toList_some, Option.toList_none, List.cons_append, List.nil_append, List.length_cons, List.length_nil, Nat.reduceAdd, Nat.zero_add, Nat.reduceLeDiff, true_and]
      refine ⟨⟨by omega, by omega⟩, ?_⟩
      have f5 := ox_cut_e f4 f2
      have f6 : ox_fm (35 + 8 * o) I I2 := ox_fm_tr (ox_fm_p f1) (ox_fm_1 (lo := 35 + 8 * o) f3 (by omega) (by omega)) (Nat.le_refl _) (Nat.le_refl _)
      have h := ih (k + 1) (.inr (.inl 21)) (ox_lg x.1 (om_mlt s x.2 V), ox_cut (om_mlt s x.2 V)) I2 (by omega) (by omega) e3 ⟨ox_lg_b, fun w => absurd rfl w, ox_cut_r om_mlt_r, ox_cut_m hx.2.2.2 (hV ▸ om_tb_su)⟩ f5 (by rw [f3 _ (by omega), f1 _ (by omega) (by omega)]; exact hV) (fun I' g1 g2 => hq I' (ox_fm_tr f6 g1 (Nat.le_refl _) (Nat.le_refl _)) g2)
      rw [hv]
      exact h
    simp only [x_Pa_readPower_120, x_Pa_readPower_122, x_Pa_readPower_123, x_Pa_readPower_124, x_Pa_readPower_127, gO_25_5, ox_q_4, Option.toList_some, Option.toList_none, List.cons_append, List.nil_append, List.length_cons, List.length_nil, Nat.reduceAdd, Nat.zero_add, Nat.reduceLeDiff, true_and]
    by_cases l0 : x.1 = 0
    · rw [if_pos l0]
      have g2 := (om_op_g (oO_21 (s := s) (q := ox_q q j 0 x.1))).2.2.2
      simp only [x_Pa_readPower_130, x_Pa_readPower_132, g2, Option.toList_some, Option.toList_none, List.cons_append, List.nil_append, List.length_cons, List.length_nil, Nat.reduceAdd, Nat.zero_add, Nat.reduceLeDiff, true_and]
      refine op_fits oO_21 (fun hf => ?_) (fun hf => ?_)
      · rw [f2] at hf
        simp only [x_Pa_readPower_135, x_Pa_readPower_142, x_Pa_readPower_143, pO_25_5 27 0 rfl, ox_q_s4, if_neg n10, Option.toList_some, Option.toList_none, List.cons_append, List.nil_append, List.length_cons, List.length_nil, Nat.reduceAdd, Nat.zero_add, Nat.reduceLeDiff, true_and]
        exact nx 0 (ox_lg_0 l0 hf).symm
      · rw [f2] at hf
        simp only [x_Pa_readPower_135, x_Pa_readPower_138, x_Pa_readPower_139, x_Pa_readPower_143, pO_25_5 27 1 rfl, ox_q_s4, if_true, Option.toList_some, Option.toList_none, List.cons_append, List.nil_append, List.length_cons, List.length_nil, Nat.reduceAdd, Nat.zero_add, Nat.reduceLeDiff, true_and]
        exact nx 1 (ox_lg_1 hf).symm
    · rw [if_neg l0]
      simp only [x_Pa_readPower_138, x_Pa_readPower_139, x_Pa_readPower_143, pO_25_5 27 1 rfl, ox_q_s4, Option.toList_some, Option.toList_none, List.cons_append, List.nil_append, List.length_cons, List.length_nil, Nat.reduceAdd, Nat.zero_add, Nat.reduceLeDiff, true_and]
      exact nx 1 (ox_lg_m l0).symm
theorem pa_readPower {sc : Int × (Int → Int)} {d o : Nat} {s n : Int} {c : Int → Int} (hs : s = 0 ∨ s = 1) (hc : ox_cc c n) (ho : o < 5) {A : Int → Int → Option ox_X} (oA : ox_okA n A) (hA : ox_sp sc (d + 3) 28 [.inr (.inl 25), .inl (o : Int), om_un] s n c (37 + 8 * o) (38 + 8 * o) A) : ox_sp sc (d + 4) 27 [.inr (.inl 25), .inl (o : Int), om_un, om_un, om_un] s n c (35 + 8 * o) (36 + 8 * o) (ox_pw s c A) := by
  intro q I Q i l hT h0 h1 hl hn hs'
  have n10 : ¬ (1 : Int) = 0 := by decide
  have b1 := hc.1
  have k1 := fun q K => kO_pow (s := s) (q := q) (z := (o : Int)) (by omega) (by omega) K
  have k2 := fun q K => kO_atom (s := s) (q := q) (z := (o : Int)) (by omega) (by omega) K
  rw [Int.toNat_natCast] at k1 k2
  have op := fun q => oO_pow (s := s) (q := q) (r := o) (by omega)
  have oa := fun q => oO_atom (s := s) (q := q) (r := o) (by omega)
  have gr := fun q => (om_op_g (op q)).2.2.2
  simp only [x_Pa_readPower_0, x_Pa_readPower_1, x_Pa_readPower_2, rO_25, Option.toList_some, Option.toList_none, List.cons_append, List.nil_append, List.length_cons, List.length_nil, Nat.reduceAdd, Nat.zero_add, Nat.reduceLeDiff, true_and]
  refine hA q I _ i l hT h0 h1 hl (fun hN I1 p l' f1 => ?_) (fun r hr I1 f1 f2 => ?_)
  · simp only [x_Pa_readPower_5, x_Pa_readPower_6, x_Pa_readPower_9, x_Pa_readPower_12, gO_25_4, ox_q_3, Option.toList_some, Option.toList_none, List.cons_append, List.nil_append, List.length_cons, List.length_nil, Nat.reduceAdd, Nat.zero_add, Nat.reduceLeDiff, true_and, if_neg n10]
    refine hn ?_ I1 p l' (ox_fm_tr ox_fm_rf f1 (Nat.le_refl _) (by omega))
    unfold ox_pw
    rw [hN]
  · obtain ⟨a1, a2, a3, a4, a5, a6⟩ := oA i l r h0 h1 hl hr
    have hT1 := ox_tx_m hT f1 (by omega)
    have e : ox_pw s c A i l = if c r.1 = 94 then (if ox_dg (c (r.1 + 1)) then some (r.1 + 2, ox_pp s r.2.2 (c (r.1 + 1) - 48).toNat (r.2.1, ox_t1 0 0 1)) else none) else some r := by
      unfold ox_pw
      rw [hr]
    simp only [x_Pa_readPower_5, x_Pa_readPower_6, x_Pa_readPower_9, x_Pa_readPower_13, x_Pa_readPower_14, gO_25_4, ox_q_3, rO_25, Option.toList_some, Option.toList_none, List.cons_append, List.nil_append, List.length_cons, List.length_nil, Nat.reduceAdd, Nat.zero_add, Nat.reduceLeDiff, true_and, if_true]
    refine pa_next hc hT1 (by omega) ?_
    simp only [x_Pa_readPower_17, x_Pa_readPower_19, Option.toList_some, Option.toList_none, List.cons_append, List.nil_append, List.length_cons, List.length_nil, Nat.reduceAdd, Nat.zero_add, Nat.reduceLeDiff, true_and]
    by_cases h9 : c r.1 = 94
    · rw [if_pos h9] at e ⊢
      have lt := ox_lt (k := r.1) hc (by omega)
      simp only [x_Pa_readPower_38, x_Pa_readPower_39, x_Pa_readPower_40, x_Pa_readPower_43, x_Pa_readPower_44, x_Pa_readPower_45, x_Pa_readPower_48, x_Pa_readPower_49, gO_25_3, pO_25_3 27 (r.1 + 1) rfl, ox_q_2, ox_q_s2, rO_25, Option.toList_some, Option.toList_none, List.cons_append, List.nil_append, List.length_cons, List.length_nil, Nat.reduceAdd, Nat.zero_add, Nat.reduceLeDiff, true_and]
      refine ⟨⟨by omega, by omega⟩, pa_next hc hT1 (by omega) ?_⟩
      simp only [x_Pa_readPower_52, Option.toList_some, Option.toList_none, List.cons_append, List.nil_append, List.length_cons, List.length_nil, Nat.reduceAdd, Nat.zero_add, Nat.reduceLeDiff, true_and]
      refine pa_isDigit (fun hd => ?_) (fun hd => ?_)
      · rw [if_pos hd] at e
        simp only [x_Pa_readPower_55, x_Pa_readPower_64, x_Pa_readPower_65, rO_25, Option.toList_some, Option.toList_none, List.cons_append, List.nil_append, List.length_cons, List.length_nil, Nat.reduceAdd, Nat.zero_add, Nat.reduceLeDiff, true_and, if_neg n10]
        refine pa_next hc hT1 (by omega) ?_
        simp only [x_Pa_readPower_68, x_Pa_readPower_70, x_Pa_readPower_71, x_Pa_readPower_72, x_Pa_readPower_73, x_Pa_readPower_74, x_Pa_readPower_77, x_Pa_readPower_78, x_Pa_readPower_79, x_Pa_readPower_82, x_Pa_readPower_83, x_Pa_readPower_86, x_Pa_readPower_87, x_Pa_readPower_88, x_Pa_readPower_89, x_Pa_readPower_90, x_Pa_readPower_91, gO_25_3, pO_25_3 27 (r.1 + 1 + 1) rfl, ox_q_2, ox_q_s2, gO_25_8, k1, gr, Option.toList_some, Option.toList_none, List.cons_append, List.nil_append, List.length_cons, List.length_nil, Nat.reduceAdd, Nat.zero_add, Nat.reduceLeDiff, true_and]
        refine ⟨⟨by omega, by omega⟩, ⟨by omega, by omega⟩, op_becomeTerm (op _) (fun I2 f3 f4 => ?_)⟩
        simp only [x_Pa_readPower_94, x_Pa_readPower_95, Option.toList_some, Option.toList_none, List.cons_append, List.nil_append, List.length_cons, List.length_nil, Nat.reduceAdd, Nat.zero_add, Nat.reduceLeDiff, true_and]
        have f5 : ox_fm (35 + 8 * o) I I2 := ox_fm_tr f1 (ox_fm_1 (lo := 35 + 8 * o) f3 (by omega) (by omega)) (by omega) (Nat.le_refl _)
        rw [show r.1 + 1 + 1 = r.1 + 2 by omega]
        exact pa_rp_l (n := n) hs ho a5 (c (r.1 + 1) - 48).toNat 0 _ (r.2.1, ox_t1 0 0 1) I2 (by omega) (by omega) (by omega) ⟨a3, fun w => absurd rfl w, ox_t1_r (by decide), ox_t1_su (by decide)⟩ (ox_t1_e f4 (by decide) (by decide)) (by rw [f3 _ (by omega)]; exact f2) (fun I' g1 g2 => hs' _ e I' (ox_fm_tr f5 g1 (Nat.le_refl _) (Nat.le_refl _)) g2)
      · rw [if_neg hd] at e
        simp only [x_Pa_readPower_55, x_Pa_readPower_58, x_Pa_readPower_59, x_Pa_readPower_60, x_Pa_readPower_63, pO_25_4 27 1 rfl, ox_q_s3, Option.toList_some, Option.toList_none, List.cons_append, List.nil_append, List.length_cons, List.length_nil, Nat.reduceAdd, Nat.zero_add, Nat.reduceLeDiff, true_and, if_true]
        exact hn e I1 _ _ (ox_fm_tr ox_fm_rf f1 (Nat.le_refl _) (by omega))
    · rw [if_neg h9] at e ⊢
      simp only [x_Pa_readPower_22, x_Pa_readPower_23, x_Pa_readPower_26, x_Pa_readPower_27, x_Pa_readPower_28, x_Pa_readPower_29, x_Pa_readPower_32, x_Pa_readPower_33, x_Pa_readPower_34, gO_25_8, gO_25_9, k1, k2, gr, Option.toList_some, Option.toList_none, List.cons_append, List.nil_append, List.length_cons, List.length_nil, Nat.reduceAdd, Nat.zero_add, Nat.reduceLeDiff, true_and]
      refine op_become (op _) (oa _) (by omega) (fun I2 f3 f4 => ?_)
      simp only [x_Pa_readPower_37, Option.toList_some, Option.toList_none, List.cons_append, List.nil_append, List.length_cons, List.length_nil, Nat.reduceAdd, Nat.zero_add, Nat.reduceLeDiff, true_and]
      refine hs' r e I2 (ox_fm_tr f1 (ox_fm_1 (lo := 35 + 8 * o) f3 (by omega) (by omega)) (by omega) (Nat.le_refl _)) ?_
      funext i' k'
      rw [f4 i' k', f2]
      split
      · rfl
      · exact (a6 i' k' (by omega)).symm
