/-! fractions in the class -/
def on_ff (I I' : Nat → Int → Int) : Prop := ∀ b, b < 79 ∨ 88 < b → I' b = I b
theorem on_ff_rf {I : Nat → Int → Int} : on_ff I I := fun _ _ => rfl
theorem on_ff_tr {I I1 I2 : Nat → Int → Int} (h1 : on_ff I I1) (h2 : on_ff I1 I2) : on_ff I I2 := fun b hb => by rw [h2 b hb, h1 b hb]
theorem on_ff_1 {I I1 : Nat → Int → Int} {c : Nat} (h1 : ∀ b, b ≠ c → I1 b = I b) (hc : 79 ≤ c ∧ c ≤ 88) : on_ff I I1 := fun b hb => h1 b (by omega)
theorem on_ff_2 {I I1 : Nat → Int → Int} {c c' : Nat} (h1 : ∀ b, b ≠ c → b ≠ c' → I1 b = I b) (hc : 79 ≤ c ∧ c ≤ 88) (hc' : 79 ≤ c' ∧ c' ≤ 88) : on_ff I I1 := fun b hb => h1 b (by omega) (by omega)
theorem fr_putBefore {sc : Int × (Int → Int)} {d : Nat} {s : Int} {q : Nat → Int} {I : Nat → Int → Int} {Q : Option om_V → om_H → Prop} {p cp w cw : Nat} {o1 : Int} (hp : om_op (om_O s q) p cp o1 13) (h5 : o1 ≤ 5) (hw : om_op (om_O s q) w cw 5 61) (n1 : cp ≠ 86) (n2 : cw ≠ 86) (n3 : cp ≠ cw) (rP : om_r31 (om_tb o1 13 (I cp))) (rW : om_r31 (om_tb 5 61 (I cw))) (suW : om_su 5 49 (om_tb 5 61 (I cw))) (hq : ∀ I', (∀ b, b ≠ 86 → b ≠ cw → I' b = I b) → om_tb 5 61 (I' cw) = on_qm (om_tb o1 13 (I cp) 0) (om_tb 5 61 (I cw)) → Q none (om_O s q, I')) : om_R sc (d + 2) 65 0 [.inr (.inl 78), .inr (.inl p), .inr (.inl w)] [] (om_O s q, I) Q := by
  have g := (om_op_g (oO_85 (s := s) (q := q))).2.2.2
  have gw := (om_op_g hw).2.2.2
  simp only [x_Fr_putBefore_0, x_Fr_putBefore_1, x_Fr_putBefore_4, gO_78_4, g, Option.toList_some, Option.toList_none, List.cons_append, List.nil_append, List.length_cons, List.length_nil, Nat.reduceAdd, Nat.zero_add, Nat.reduceLeDiff, true_and]
  refine op_wipe oO_85 (fun I1 f1 f2 => ?_)
  simp only [x_Fr_putBefore_7, x_Fr_putBefore_8, x_Fr_putBefore_11, x_Fr_putBefore_12, x_Fr_putBefore_13, x_Fr_putBefore_14, x_Fr_putBefore_15, gO_78_4, g, Option.toList_some, Option.toList_none, List.cons_append, List.nil_append, List.length_cons, List.length_nil, Nat.reduceAdd, Nat.zero_add, Nat.reduceLeDiff, true_and]
  refine op_prt oO_85 hp hw n2 n1 (by decide) (by decide) (by rw [f2]; exact fun _ _ => (by decide : (0 : Int) ≤ 0 ∧ (0 : Int) < 31)) (by rw [f1 cp n1]; exact rP) (by rw [f1 cw n2]; exact rW) (fun I2 f3 f4 => ?_)
  rw [f2, f1 cp n1, f1 cw n2] at f4
  have e := om_prt_cv (om_su_le (om_tb_su (f := I cp) (o := o1) (w := 13)) h5 (Int.le_refl _)) rP suW (fun _ _ _ => rfl : om_su 5 61 (fun _ _ => 0)) (fun _ _ => by decide) (by omega) (by omega) f4
  simp only [x_Fr_putBefore_18, x_Fr_putBefore_19, x_Fr_putBefore_20, x_Fr_putBefore_23, gO_78_4, gw, Option.toList_some, Option.toList_none, List.cons_append, List.nil_append, List.length_cons, List.length_nil, Nat.reduceAdd, Nat.zero_add, Nat.reduceLeDiff, true_and]
  refine op_become hw oO_85 (fun h => n2 h.symm) (fun I3 f5 f6 => ?_)
  simp only [x_Fr_putBefore_26, Option.toList_some, Option.toList_none, List.cons_append, List.nil_append, List.length_cons, List.length_nil, Nat.reduceAdd, Nat.zero_add, Nat.reduceLeDiff, true_and]
  refine hq I3 (fun b b1 b2 => by rw [f5 b b2, f3 b b1, f1 b b1]) ?_
  funext i k
  rw [f6 i k]
  have e2 : om_tb 5 61 (I2 86) i k = on_qm (om_tb o1 13 (I cp) 0) (om_tb 5 61 (I cw)) i k := by
    rw [e]
    unfold on_qm
    simp only [Int.zero_add]
  split
  · exact e2
  · rw [← e2, om_tb_out (by omega)]
theorem fr_advance {sc : Int × (Int → Int)} {d : Nat} {s : Int} {q : Nat → Int} {I : Nat → Int → Int} {Q : Option om_V → om_H → Prop} {b cb : Nat} {i : Nat} (hb : om_op (om_O s q) b cb 5 13) (nb : cb < 70) (hs : s = 0) (hi : i ≤ 3) {B : Int → Int → Int} (hBI : om_tb 5 13 (I cb) = B) (suB : om_su 1 13 B) (rB : om_r31 B) (hN : om_tb 5 61 (I 82) = on_N B i) (hC : om_tb 1 13 (I 88) = om_D 0 B) (hq : ∀ I', (∀ b, b ≠ 82 → b ≠ 84 → b ≠ 86 → I' b = I b) → om_tb 5 61 (I' 82) = on_N B (i + 1) → Q none (om_O s q, I')) : om_R sc (d + 3) 67 0 [.inr (.inl 78), .inr (.inl b), .inl (i : Int)] [] (om_O s q, I) Q := by
  have gt := (om_op_g (oO_83 (s := s) (q := q))).2.2.2
  have gs := (om_op_g (oO_81 (s := s) (q := q))).2.2.2
  have suN := on_N_su suB i (by omega)
  have suT := om_T_su (s := 0) suN (by omega)
  simp only [x_Fr_advanceStage_0, x_Fr_advanceStage_1, x_Fr_advanceStage_4, x_Fr_advanceStage_5, x_Fr_advanceStage_8, gO_78_3, gO_78_2, gt, Option.toList_some, Option.toList_none, List.cons_append, List.nil_append, List.length_cons, List.length_nil, Nat.reduceAdd, Nat.zero_add, Nat.reduceLeDiff, true_and]
  refine op_become oO_83 oO_81 (by decide) (fun I1 f1 f2 => ?_)
  have e1 : om_tb 5 61 (I1 84) = on_N B i := by
    funext j k
    rw [f2 j k, hN]
    split
    · rfl
    · exact (suN j k (by omega)).symm
  simp only [x_Fr_advanceStage_11, x_Fr_advanceStage_12, x_Fr_advanceStage_13, x_Fr_advanceStage_16, x_Fr_advanceStage_17, x_Fr_advanceStage_20, gO_78_3, gO_78_5, rO_78, Option.toList_some, Option.toList_none, List.cons_append, List.nil_append, List.length_cons, List.length_nil, Nat.reduceAdd, Nat.zero_add, Nat.reduceLeDiff, true_and]
  refine fr_putBefore oO_87 (by decide) oO_83 (by decide) (by decide) (by decide) (by rw [f1 88 (by decide), hC]; exact om_D_r rB) (by rw [e1]; exact on_N_r i) (by rw [e1]; exact om_su_le suN (by omega) (by omega)) (fun I2 f3 f4 => ?_)
  rw [f1 88 (by decide), hC, e1] at f4
  have e82 : om_tb 5 61 (I2 82) = on_N B i := by rw [f3 82 (by decide) (by decide), f1 82 (by decide)]; exact hN
  simp only [x_Fr_advanceStage_23, x_Fr_advanceStage_24, x_Fr_advanceStage_27, x_Fr_advanceStage_28, x_Fr_advanceStage_31, x_Fr_advanceStage_34, gO_78_2, gO_78_0, gO_20_0, gs, Option.toList_some, Option.toList_none, List.cons_append, List.nil_append, List.length_cons, List.length_nil, Nat.reduceAdd, Nat.zero_add, Nat.reduceLeDiff, true_and]
  refine op_putT oO_81 (by rw [e82]; exact on_N_r i) (fun I3 f5 f6 => ?_)
  rw [e82] at f6
  have e3 : om_tb 5 61 (I3 82) = om_T 0 (on_N B i) := by
    funext j k
    rw [f6 j k]
    split
    · have := om_T_w (s := 0) (i := j) (k := k) (om_su_le suN (Int.le_refl _) (show 12 * (i : Int) + 1 ≤ 61 by omega)) (by decide)
      rw [hs]
      exact this
    · exact (suT j k (by omega)).symm
  simp only [x_Fr_advanceStage_37, x_Fr_advanceStage_38, x_Fr_advanceStage_39, x_Fr_advanceStage_40, x_Fr_advanceStage_43, gO_78_2, rO_78, Option.toList_some, Option.toList_none, List.cons_append, List.nil_append, List.length_cons, List.length_nil, Nat.reduceAdd, Nat.zero_add, Nat.reduceLeDiff, true_and]
  have eb : om_tb 5 13 (I3 cb) = B := by rw [f5 cb (by omega), f3 cb (by omega) (by omega), f1 cb (by omega)]; exact hBI
  refine fr_putBefore hb (by decide) oO_81 (by omega) (by decide) (by omega) (by rw [eb]; exact rB) (by rw [e3]; exact om_T_r (on_N_r i)) (by rw [e3]; exact om_su_le suT (by omega) (by omega)) (fun I4 f7 f8 => ?_)
  rw [eb, e3] at f8
  have e84 : om_tb 5 61 (I4 84) = on_qm (om_D 0 B 0) (on_N B i) := by rw [f7 84 (by decide) (by decide), f5 84 (by decide)]; exact f4
  simp only [x_Fr_advanceStage_46, x_Fr_advanceStage_47, x_Fr_advanceStage_50, x_Fr_advanceStage_51, x_Fr_advanceStage_54, x_Fr_advanceStage_55, x_Fr_advanceStage_56, x_Fr_advanceStage_57, x_Fr_advanceStage_58, gO_78_2, gO_78_3, gs, Option.toList_some, Option.toList_none, List.cons_append, List.nil_append, List.length_cons, List.length_nil, Nat.reduceAdd, Nat.zero_add, Nat.reduceLeDiff, true_and]
  refine ⟨⟨by omega, by omega⟩, ⟨by omega, by omega⟩, op_plus oO_81 oO_83 (by decide) (by omega) (by rw [e84]; exact on_qm_r) (by rw [f8]; exact on_qm_r) (fun I5 f9 f10 => ?_)⟩
  rw [f8, e84] at f10
  simp only [x_Fr_advanceStage_61, Option.toList_some, Option.toList_none, List.cons_append, List.nil_append, List.length_cons, List.length_nil, Nat.reduceAdd, Nat.zero_add, Nat.reduceLeDiff, true_and]
  refine hq I5 (fun b b1 b2 b3 => by rw [f9 b b1, f7 b b3 b1, f5 b b1, f3 b b3 b2, f1 b b2]) ?_
  funext j k
  rw [f10 j k]
  split
  · unfold on_qm
    show _ = (om_cv (B 0) (om_T 0 (on_N B i)) j k - ((i : Int) + 1) * om_cv (om_D 0 B 0) (on_N B i) j k) % 31
    generalize om_cv (B 0) (om_T 0 (on_N B i)) j k = x
    generalize om_cv (om_D 0 B 0) (on_N B i) j k = y
    have h4 : i = 0 ∨ i = 1 ∨ i = 2 ∨ i = 3 := by omega
    rcases h4 with h | h | h | h <;> subst h <;> simp <;> omega
  · rename_i hno
    exact (on_N_su suB (i + 1) (by omega) j k (by omega)).symm
theorem fr_gd_j {sc : Int × (Int → Int)} {d : Nat} {s : Int} {q : Nat → Int} {Q : Option om_V → om_H → Prop} {a b cb : Nat} {n i : Int} (hb : om_op (om_O s q) b cb 5 13) (nb : cb < 70) (hn : n ≤ 4) {B : Int → Int → Int} (suB : om_su 1 13 B) (rB : om_r31 B) (K : (Nat → Int → Int) → Prop) (hK : ∀ I', K I' → om_R sc (d + 3) 66 71 [.inr (.inl 78), .inr (.inl a), .inr (.inl b), .inl n, .inl i, .inl n] [] (om_O s q, I') Q) : ∀ (m : Nat) (j : Int) (W : Int → Int → Int) (I : Nat → Int → Int), j + m = n → 0 ≤ j → om_tb 5 13 (I cb) = B → om_tb 5 61 (I 84) = W → om_r31 W → om_su 5 (12 * j + 1) W → (∀ I', (∀ b, b ≠ 84 → b ≠ 86 → I' b = I b) → om_tb 5 61 (I' 84) = on_P (B 0) m W → K I') → om_R sc (d + 3) 66 50 [.inr (.inl 78), .inr (.inl a), .inr (.inl b), .inl n, .inl i, .inl j] [] (om_O s q, I) Q := by
  intro m
  induction m with
  | zero =>
    intro j W I h1 h2 hB hW rW suW hq
    simp only [x_Fr_gatherDerivatives_50, x_Fr_gatherDerivatives_52, x_Fr_gatherDerivatives_53]
    rw [if_pos (by omega)]
    have hj : j = n := by omega
    subst hj
    exact hK I (hq I (fun _ _ _ => rfl) hW)
  | succ m ih =>
    intro j W I h1 h2 hB hW rW suW hq
    simp only [x_Fr_gatherDerivatives_50, x_Fr_gatherDerivatives_52, x_Fr_gatherDerivatives_53]
    rw [if_neg (by omega)]
    simp only [x_Fr_gatherDerivatives_56, x_Fr_gatherDerivatives_57, x_Fr_gatherDerivatives_58, x_Fr_gatherDerivatives_59, x_Fr_gatherDerivatives_62, gO_78_3, rO_78, Option.toList_some, Option.toList_none, List.cons_append, List.nil_append, List.length_cons, List.length_nil, Nat.reduceAdd, Nat.zero_add, Nat.reduceLeDiff, true_and]
    refine fr_putBefore hb (by decide) oO_83 (by omega) (by decide) (by omega) (by rw [hB]; exact rB) (by rw [hW]; exact rW) (by rw [hW]; exact om_su_le suW (by omega) (by omega)) (fun I1 f1 f2 => ?_)
    rw [hB, hW] at f2
    simp only [x_Fr_gatherDerivatives_65, x_Fr_gatherDerivatives_68, Option.toList_some, Option.toList_none, List.cons_append, List.nil_append, List.length_cons, List.length_nil, Nat.reduceAdd, Nat.zero_add, Nat.reduceLeDiff, true_and]
    refine ⟨⟨by omega, by omega⟩, ih _ _ I1 (by omega) (by omega) (by rw [f1 cb (by omega) (by omega)]; exact hB) f2 on_qm_r (om_su_le (on_qm_su (fun q hq => suB 0 q (by omega)) suW) (by omega) (by omega)) (fun I' f3 f4 => hq I' (fun b b1 b2 => by rw [f3 b b1 b2, f1 b b2 b1]) f4)⟩
theorem fr_gd_i {sc : Int × (Int → Int)} {d : Nat} {s : Int} {q : Nat → Int} {Q : Option om_V → om_H → Prop} {a b ca cb : Nat} {n : Nat} (ha : om_op (om_O s q) a ca 5 13) (na : ca < 70) (hb : om_op (om_O s q) b cb 5 13) (nb : cb < 70) (hs : s = 0) (hn : n ≤ 4) {A B : Int → Int → Int} (suA : om_su 5 13 A) (rA : om_r31 A) (suB : om_su 1 13 B) (rB : om_r31 B) : ∀ (m i : Nat) (x : om_V) (I : Nat → Int → Int), i + m = n + 1 → om_tb 5 13 (I ca) = A → om_tb 5 13 (I cb) = B → om_tb 1 13 (I 88) = om_D 0 B → om_tb 5 61 (I 80) = on_ov s A B n i → (i ≤ n → om_tb 5 61 (I 82) = on_N B i) → (∀ I', on_ff I I' → om_tb 5 61 (I' 80) = on_ov s A B n (n + 1) → Q none (om_O s q, I')) → om_R sc (d + 4) 66 29 [.inr (.inl 78), .inr (.inl a), .inr (.inl b), .inl (n : Int), .inl (i : Int), x] [] (om_O s q, I) Q := by
  have gt := (om_op_g (oO_83 (s := s) (q := q))).2.2.2
  have gr := (om_op_g (oO_79 (s := s) (q := q))).2.2.2
  intro m
  induction m with
  | zero =>
    intro i x I h1 hA hB hC hR hN hq
    simp only [x_Fr_gatherDerivatives_29, x_Fr_gatherDerivatives_31, x_Fr_gatherDerivatives_32, x_Fr_gatherDerivatives_105]
    rw [if_pos (by omega)]
    have hi : i = n + 1 := by omega
    subst hi
    exact hq I on_ff_rf hR
  | succ m ih =>
    intro i x I h1 hA hB hC hR hN hq
    have hN := hN (by omega)
    have suN := on_N_su suB i (by omega)
    simp only [x_Fr_gatherDerivatives_29, x_Fr_gatherDerivatives_31, x_Fr_gatherDerivatives_32]
    rw [if_neg (by omega)]
    simp only [x_Fr_gatherDerivatives_35, x_Fr_gatherDerivatives_36, x_Fr_gatherDerivatives_39, x_Fr_gatherDerivatives_40, x_Fr_gatherDerivatives_43, gO_78_3, gO_78_2, gt, Option.toList_some, Option.toList_none, List.cons_append, List.nil_append, List.length_cons, List.length_nil, Nat.reduceAdd, Nat.zero_add, Nat.reduceLeDiff, true_and]
    refine op_become oO_83 oO_81 (by decide) (fun I1 f1 f2 => ?_)
    have e1 : om_tb 5 61 (I1 84) = on_N B i := by
      funext j k
      rw [f2 j k, hN]
      split
      · rfl
      · exact (suN j k (by omega)).symm
    simp only [x_Fr_gatherDerivatives_46, x_Fr_gatherDerivatives_48, Option.toList_some, Option.toList_none, List.cons_append, List.nil_append, List.length_cons, List.length_nil, Nat.reduceAdd, Nat.zero_add, Nat.reduceLeDiff, true_and]
    refine fr_gd_j (d := d + 1) hb nb (n := n) (by omega) suB rB (fun I2 => (∀ b, b ≠ 84 → b ≠ 86 → I2 b = I1 b) ∧ om_tb 5 61 (I2 84) = on_P (B 0) (n - i) (on_N B i)) (fun I2 ⟨g1, g2⟩ => ?_) (n - i) i _ I1 (by omega) (by omega) (by rw [f1 cb (by omega)]; exact hB) e1 (on_N_r i) (om_su_le suN (by omega) (by omega)) (fun I2 f3 f4 => ⟨f3, f4⟩)
    have et : om_tb 5 61 (I2 84) = on_tm s B n i := by
      rw [g2]
      unfold on_tm
      rw [if_pos hs]
    have suM := on_tm_su (s := s) suB (show i ≤ n by omega) hn
    have ea : om_tb 5 13 (I2 ca) = A := by rw [g1 ca (by omega) (by omega), f1 ca (by omega)]; exact hA
    have er : om_tb 5 61 (I2 80) = on_ov s A B n i := by rw [g1 80 (by decide) (by decide), f1 80 (by decide)]; exact hR
    simp only [x_Fr_gatherDerivatives_71, x_Fr_gatherDerivatives_72, x_Fr_gatherDerivatives_75, x_Fr_gatherDerivatives_76, x_Fr_gatherDerivatives_78, x_Fr_gatherDerivatives_79, x_Fr_gatherDerivatives_80, x_Fr_gatherDerivatives_83, gO_78_1, gO_78_3, gr, Option.toList_some, Option.toList_none, List.cons_append, List.nil_append, List.length_cons, List.length_nil, Nat.reduceAdd, Nat.zero_add, Nat.reduceLeDiff, true_and]
    refine op_prt oO_79 ha oO_83 (by decide) (by omega) (by omega) (by decide) (by rw [er]; exact on_ov_r i) (by rw [ea]; exact rA) (by rw [et]; exact on_tm_r) (fun I3 f5 f6 => ?_)
    rw [ea, et, er] at f6
    have e5 : om_tb 5 61 (I3 80) = on_ov s A B n (i + 1) := om_prt_cv suA rA suM (on_ov_su suA suB hn i (by omega)) (on_ov_r i) (by omega) (by omega) f6
    have fr3 : on_ff I I3 := on_ff_tr (on_ff_tr (on_ff_1 f1 (by decide)) (on_ff_2 g1 (by decide) (by decide))) (on_ff_1 f5 (by decide))
    have e82 : om_tb 5 61 (I3 82) = on_N B i := by rw [f5 82 (by decide), g1 82 (by decide) (by decide), f1 82 (by decide)]; exact hN
    have e88 : om_tb 1 13 (I3 88) = om_D 0 B := by rw [f5 88 (by decide), g1 88 (by decide) (by decide), f1 88 (by decide)]; exact hC
    simp only [x_Fr_gatherDerivatives_86, x_Fr_gatherDerivatives_88, x_Fr_gatherDerivatives_89, Option.toList_some, Option.toList_none, List.cons_append, List.nil_append, List.length_cons, List.length_nil, Nat.reduceAdd, Nat.zero_add, Nat.reduceLeDiff, true_and]
    by_cases hin : i = n
    · rw [if_pos (by omega)]
      simp only [x_Fr_gatherDerivatives_99, x_Fr_gatherDerivatives_102, Option.toList_some, Option.toList_none, List.cons_append, List.nil_append, List.length_cons, List.length_nil, Nat.reduceAdd, Nat.zero_add, Nat.reduceLeDiff, true_and]
      refine ⟨⟨by omega, by omega⟩, ?_⟩
      have h := ih (i + 1) (.inl n) I3 (by omega) (by rw [fr3 ca (by omega)]; exact hA) (by rw [fr3 cb (by omega)]; exact hB) e88 e5 (fun hh => by omega) (fun I' f7 f8 => hq I' (on_ff_tr fr3 f7) f8)
      simpa using h
    · rw [if_neg (by omega)]
      simp only [x_Fr_gatherDerivatives_92, x_Fr_gatherDerivatives_93, x_Fr_gatherDerivatives_94, x_Fr_gatherDerivatives_96, rO_78, Option.toList_some, Option.toList_none, List.cons_append, List.nil_append, List.length_cons, List.length_nil, Nat.reduceAdd, Nat.zero_add, Nat.reduceLeDiff, true_and]
      refine fr_advance hb nb hs (by omega) (by rw [fr3 cb (by omega)]; exact hB) suB rB e82 e88 (fun I4 f7 f8 => ?_)
      have fr4 : on_ff I I4 := on_ff_tr fr3 (fun b hb => f7 b (by omega) (by omega) (by omega))
      simp only [x_Fr_gatherDerivatives_99, x_Fr_gatherDerivatives_102, Option.toList_some, Option.toList_none, List.cons_append, List.nil_append, List.length_cons, List.length_nil, Nat.reduceAdd, Nat.zero_add, Nat.reduceLeDiff, true_and]
      refine ⟨⟨by omega, by omega⟩, ?_⟩
      have h := ih (i + 1) (.inl n) I4 (by omega) (by rw [fr4 ca (by omega)]; exact hA) (by rw [fr4 cb (by omega)]; exact hB) (by rw [f7 88 (by decide) (by decide) (by decide)]; exact e88) (by rw [f7 80 (by decide) (by decide) (by decide)]; exact e5) (fun hh => f8) (fun I' f9 f10 => hq I' (on_ff_tr fr4 f9) f10)
      simpa using h
theorem fr_gd {sc : Int × (Int → Int)} {d : Nat} {s : Int} {q : Nat → Int} {I : Nat → Int → Int} {Q : Option om_V → om_H → Prop} {a b ca cb : Nat} {n : Nat} (ha : om_op (om_O s q) a ca 5 13) (na : ca < 70) (hb : om_op (om_O s q) b cb 5 13) (nb : cb < 70) (hs : s = 0) (hn : n ≤ 4) {A B : Int → Int → Int} (suA : om_su 5 13 A) (rA : om_r31 A) (suB : om_su 1 13 B) (rB : om_r31 B) (hA : om_tb 5 13 (I ca) = A) (hB : om_tb 5 13 (I cb) = B) (hR : om_tb 5 61 (I 80) = fun _ _ => 0) (hq : ∀ I', on_ff I I' → om_tb 5 61 (I' 80) = on_ov s A B n (n + 1) → Q none (om_O s q, I')) : om_R sc (d + 4) 66 0 [.inr (.inl 78), .inr (.inl a), .inr (.inl b), .inl (n : Int), om_un, om_un] [] (om_O s q, I) Q := by
  have gc := (om_op_g (oO_87 (s := s) (q := q))).2.2.2
  have gs := (om_op_g (oO_81 (s := s) (q := q))).2.2.2
  simp only [x_Fr_gatherDerivatives_0, x_Fr_gatherDerivatives_1, x_Fr_gatherDerivatives_4, x_Fr_gatherDerivatives_5, gO_78_5, gc, Option.toList_some, Option.toList_none, List.cons_append, List.nil_append, List.length_cons, List.length_nil, Nat.reduceAdd, Nat.zero_add, Nat.reduceLeDiff, true_and]
  refine op_become oO_87 hb (by omega) (fun I1 f1 f2 => ?_)
  have e1 : om_tb 1 13 (I1 88) = B := by
    funext j k
    rw [f2 j k, hB]
    split
    · rfl
    · exact (suB j k (by omega)).symm
  simp only [x_Fr_gatherDerivatives_8, x_Fr_gatherDerivatives_9, x_Fr_gatherDerivatives_12, x_Fr_gatherDerivatives_13, gO_78_5, gc, Option.toList_some, Option.toList_none, List.cons_append, List.nil_append, List.length_cons, List.length_nil, Nat.reduceAdd, Nat.zero_add, Nat.reduceLeDiff, true_and]
  refine op_deriveRow oO_87 (by decide) (by rw [e1]; exact rB) (fun I2 f3 f4 => ?_)
  rw [e1] at f4
  have e2 : om_tb 1 13 (I2 88) = om_D 0 B := by
    funext j k
    rw [f4 j k]
    unfold om_D
    by_cases hj : j = 0
    · rw [if_pos hj, if_pos rfl]
      by_cases hk : 0 ≤ k ∧ k < 13
      · rw [if_pos ⟨hj, hk⟩]
      · rw [if_neg (fun h => hk h.2), suB j k (by omega)]
        by_cases hk1 : k = -1
        · subst hk1
          simp
        · rw [suB 0 (k + 1) (by omega), Int.mul_zero]
          rfl
    · rw [if_neg hj, if_neg (fun h => hj h.1)]
  simp only [x_Fr_gatherDerivatives_16, x_Fr_gatherDerivatives_17, x_Fr_gatherDerivatives_20, x_Fr_gatherDerivatives_21, x_Fr_gatherDerivatives_22, x_Fr_gatherDerivatives_23, gO_78_2, gs, Option.toList_some, Option.toList_none, List.cons_append, List.nil_append, List.length_cons, List.length_nil, Nat.reduceAdd, Nat.zero_add, Nat.reduceLeDiff, true_and]
  refine op_becomeTerm oO_81 (fun I3 f5 f6 => ?_)
  have e3 : om_tb 5 61 (I3 82) = on_N B 0 := by
    funext j k
    rw [f6 j k]
    show _ = on_e0 j k
    unfold on_e0
    by_cases h : j = 0 ∧ k = 0
    · rw [if_pos ⟨h, by decide⟩, if_pos h]
      rfl
    · rw [if_neg (fun hh => h hh.1), if_neg h]
  simp only [x_Fr_gatherDerivatives_26, x_Fr_gatherDerivatives_27, Option.toList_some, Option.toList_none, List.cons_append, List.nil_append, List.length_cons, List.length_nil, Nat.reduceAdd, Nat.zero_add, Nat.reduceLeDiff, true_and]
  have fr : on_ff I I3 := on_ff_tr (on_ff_tr (on_ff_1 f1 (by decide)) (on_ff_1 f3 (by decide))) (on_ff_1 f5 (by decide))
  have h := fr_gd_i (sc := sc) (d := d) (Q := Q) ha na hb nb hs hn suA rA suB rB (n + 1) 0 om_un I3 (by omega) (by rw [fr ca (by omega)]; exact hA) (by rw [fr cb (by omega)]; exact hB) (by rw [f5 88 (by decide)]; exact e2) (by rw [f5 80 (by decide), f3 80 (by decide), f1 80 (by decide), hR]; rfl) (fun _ => e3) (fun I' f7 f8 => hq I' (on_ff_tr fr f7) f8)
  simpa using h
theorem fr_gs_j {sc : Int × (Int → Int)} {d : Nat} {s : Int} {q : Nat → Int} {Q : Option om_V → om_H → Prop} {a b : Nat} {n i : Nat} (hs : s = 1) (hin : i ≤ n) (hn : n ≤ 4) {B : Int → Int → Int} (suB : om_su 1 13 B) (rB : om_r31 B) (K : (Nat → Int → Int) → Prop) (hK : ∀ I', K I' → om_R sc (d + 3) 64 70 [.inr (.inl 78), .inr (.inl a), .inr (.inl b), .inl (n : Int), .inl (i : Int), .inl ((n : Int) + 1)] [] (om_O s q, I') Q) : ∀ (m j : Nat) (I : Nat → Int → Int), j + m = n + 1 → om_tb 1 13 (I 88) = om_Di 1 B j → om_tb 5 61 (I 84) = on_rw i (on_S B i j) → (∀ I', (∀ b, b ≠ 84 → b ≠ 86 → b ≠ 88 → I' b = I b) → om_tb 5 61 (I' 84) = on_rw i (on_S B i (n + 1)) → K I') → om_R sc (d + 3) 64 31 [.inr (.inl 78), .inr (.inl a), .inr (.inl b), .inl (n : Int), .inl (i : Int), .inl (j : Int)] [] (om_O s q, I) Q := by
  have gc := (om_op_g (oO_87 (s := s) (q := q))).2.2.2
  have shf : ∀ (j : Nat) (I : Nat → Int → Int), om_tb 1 13 (I 88) = om_Di 1 B j → (∀ I', (∀ b, b ≠ 88 → I' b = I b) → om_tb 1 13 (I' 88) = om_Di 1 B (j + 1) → om_R sc (d + 3) 64 64 [.inr (.inl 78), .inr (.inl a), .inr (.inl b), .inl (n : Int), .inl (i : Int), .inl (j : Int)] [] (om_O s q, I') Q) → om_R sc (d + 3) 64 56 [.inr (.inl 78), .inr (.inl a), .inr (.inl b), .inl (n : Int), .inl (i : Int), .inl (j : Int)] [] (om_O s q, I) Q := by
    intro j I hC hh
    simp only [x_Fr_gatherShifts_56, x_Fr_gatherShifts_57, x_Fr_gatherShifts_60, x_Fr_gatherShifts_61, gO_78_5, gc, Option.toList_some, Option.toList_none, List.cons_append, List.nil_append, List.length_cons, List.length_nil, Nat.reduceAdd, Nat.zero_add, Nat.reduceLeDiff, true_and]
    refine op_shiftRow oO_87 (by decide) (by rw [hC]; exact om_Di_r rB j) (fun I1 f1 f2 => ?_)
    rw [hC] at f2
    refine hh I1 f1 ?_
    have suD := om_Di_su (s := 1) suB (by omega) j
    funext jj k
    rw [f2 jj k]
    show _ = om_D 1 (om_Di 1 B j) jj k
    unfold om_D
    by_cases hj : jj = 0
    · rw [if_pos hj, if_pos hj, if_neg (by decide), om_sh_w (w := 13) (fun k hk => suD 0 k (by omega)) (by omega)]
    · rw [if_neg hj, if_neg hj]
  intro m
  induction m with
  | zero =>
    intro j I h1 hC hT hq
    simp only [x_Fr_gatherShifts_31, x_Fr_gatherShifts_33, x_Fr_gatherShifts_34]
    rw [if_pos (by omega)]
    have hj : j = n + 1 := by omega
    subst hj
    have h := hK I (hq I (fun _ _ _ _ => rfl) hT)
    simpa using h
  | succ m ih =>
    intro j I h1 hC hT hq
    simp only [x_Fr_gatherShifts_31, x_Fr_gatherShifts_33, x_Fr_gatherShifts_34, x_Fr_gatherShifts_37, x_Fr_gatherShifts_39, x_Fr_gatherShifts_41]
    rw [if_neg (by omega)]
    by_cases hji : (j : Int) = i
    · rw [if_pos hji]
      refine shf j I hC (fun I1 f1 f2 => ?_)
      simp only [x_Fr_gatherShifts_64, x_Fr_gatherShifts_67, Option.toList_some, Option.toList_none, List.cons_append, List.nil_append, List.length_cons, List.length_nil, Nat.reduceAdd, Nat.zero_add, Nat.reduceLeDiff, true_and]
      refine ⟨⟨by omega, by omega⟩, ?_⟩
      have h := ih (j + 1) I1 (by omega) f2 (by
        rw [f1 84 (by decide), hT]
        congr 1
        show _ = if (j : Int) = i then on_S B i j else on_qm (om_Di 1 B j 0) (fun _ => on_S B i j) 0
        rw [if_pos hji]) (fun I' f3 f4 => hq I' (fun b b1 b2 b3 => by rw [f3 b b1 b2 b3, f1 b b3]) f4)
      simpa using h
    · rw [if_neg hji]
      simp only [x_Fr_gatherShifts_44, x_Fr_gatherShifts_45, x_Fr_gatherShifts_46, x_Fr_gatherShifts_49, x_Fr_gatherShifts_50, x_Fr_gatherShifts_53, gO_78_5, gO_78_3, rO_78, Option.toList_some, Option.toList_none, List.cons_append, List.nil_append, List.length_cons, List.length_nil, Nat.reduceAdd, Nat.zero_add, Nat.reduceLeDiff, true_and]
      have suS := on_S_su suB (i := i) (by omega) j
      refine fr_putBefore oO_87 (by decide) oO_83 (by decide) (by decide) (by decide) (by rw [hC]; exact om_Di_r rB j) (by
        rw [hT]
        intro jj k
        unfold on_rw
        split
        · exact on_S_r j k
        · omega) (by
        rw [hT]
        intro jj k hno
        unfold on_rw
        split
        · refine suS k ?_
          unfold on_fc
          split <;> omega
        · rfl) (fun I1 f1 f2 => ?_)
      rw [hC, hT, on_rw_cv] at f2
      refine shf j I1 (by rw [f1 88 (by decide) (by decide)]; exact hC) (fun I2 f3 f4 => ?_)
      simp only [x_Fr_gatherShifts_64, x_Fr_gatherShifts_67, Option.toList_some, Option.toList_none, List.cons_append, List.nil_append, List.length_cons, List.length_nil, Nat.reduceAdd, Nat.zero_add, Nat.reduceLeDiff, true_and]
      refine ⟨⟨by omega, by omega⟩, ?_⟩
      have h := ih (j + 1) I2 (by omega) f4 (by
        rw [f3 84 (by decide), f2]
        congr 1
        show _ = if (j : Int) = i then on_S B i j else on_qm (om_Di 1 B j 0) (fun _ => on_S B i j) 0
        rw [if_neg hji]) (fun I' f5 f6 => hq I' (fun b b1 b2 b3 => by rw [f5 b b1 b2 b3, f3 b b3, f1 b b2 b1]) f6)
      simpa using h
theorem fr_gs_i {sc : Int × (Int → Int)} {d : Nat} {s : Int} {q : Nat → Int} {Q : Option om_V → om_H → Prop} {a b ca cb : Nat} {n : Nat} (ha : om_op (om_O s q) a ca 5 13) (na : ca < 70) (hb : om_op (om_O s q) b cb 5 13) (nb : cb < 70) (hs : s = 1) (hn : n ≤ 4) {A B : Int → Int → Int} (suA : om_su 5 13 A) (rA : om_r31 A) (suB : om_su 1 13 B) (rB : om_r31 B) : ∀ (m i : Nat) (x : om_V) (I : Nat → Int → Int), i + m = n + 1 → om_tb 5 13 (I ca) = A → om_tb 5 13 (I cb) = B → om_tb 5 61 (I 80) = on_ov s A B n i → (∀ I', on_ff I I' → om_tb 5 61 (I' 80) = on_ov s A B n (n + 1) → Q none (om_O s q, I')) → om_R sc (d + 4) 64 3 [.inr (.inl 78), .inr (.inl a), .inr (.inl b), .inl (n : Int), .inl (i : Int), x] [] (om_O s q, I) Q := by
  have gt := (om_op_g (oO_83 (s := s) (q := q))).2.2.2
  have gr := (om_op_g (oO_79 (s := s) (q := q))).2.2.2
  have gc := (om_op_g (oO_87 (s := s) (q := q))).2.2.2
  intro m
  induction m with
  | zero =>
    intro i x I h1 hA hB hR hq
    simp only [x_Fr_gatherShifts_3, x_Fr_gatherShifts_5, x_Fr_gatherShifts_6, x_Fr_gatherShifts_91]
    rw [if_pos (by omega)]
    have hi : i = n + 1 := by omega
    subst hi
    exact hq I on_ff_rf hR
  | succ m ih =>
    intro i x I h1 hA hB hR hq
    simp only [x_Fr_gatherShifts_3, x_Fr_gatherShifts_5, x_Fr_gatherShifts_6]
    rw [if_neg (by omega)]
    simp only [x_Fr_gatherShifts_9, x_Fr_gatherShifts_10, x_Fr_gatherShifts_13, x_Fr_gatherShifts_15, x_Fr_gatherShifts_16, x_Fr_gatherShifts_17, gO_78_3, gt, Option.toList_some, Option.toList_none, List.cons_append, List.nil_append, List.length_cons, List.length_nil, Nat.reduceAdd, Nat.zero_add, Nat.reduceLeDiff, true_and]
    refine op_becomeTerm oO_83 (fun I1 f1 f2 => ?_)
    have e1 : om_tb 5 61 (I1 84) = on_rw i (on_S B i 0) := by
      funext j k
      rw [f2 j k]
      show _ = if j = (i : Int) then (if (0 : Int) = 0 ∧ k = 0 then 1 else 0) else 0
      by_cases h : j = (i : Int)
      · rw [if_pos h]
        by_cases hk : k = 0
        · rw [if_pos ⟨⟨h, hk⟩, by omega⟩, if_pos ⟨rfl, hk⟩]
          rfl
        · rw [if_neg (fun hh => hk hh.1.2), if_neg (fun hh => hk hh.2)]
      · rw [if_neg (fun hh => h hh.1.1), if_neg h]
    simp only [x_Fr_gatherShifts_20, x_Fr_gatherShifts_21, x_Fr_gatherShifts_24, x_Fr_gatherShifts_25, gO_78_5, gc, Option.toList_some, Option.toList_none, List.cons_append, List.nil_append, List.length_cons, List.length_nil, Nat.reduceAdd, Nat.zero_add, Nat.reduceLeDiff, true_and]
    refine op_become oO_87 hb (by omega) (fun I2 f3 f4 => ?_)
    have e2 : om_tb 1 13 (I2 88) = om_Di 1 B 0 := by
      funext j k
      rw [f4 j k, f1 cb (by omega), hB]
      split
      · rfl
      · exact (suB j k (by omega)).symm
    simp only [x_Fr_gatherShifts_28, x_Fr_gatherShifts_29, Option.toList_some, Option.toList_none, List.cons_append, List.nil_append, List.length_cons, List.length_nil, Nat.reduceAdd, Nat.zero_add, Nat.reduceLeDiff, true_and]
    have hl := fr_gs_j (sc := sc) (d := d + 1) (q := q) (Q := Q) (a := a) (b := b) hs (show i ≤ n by omega) hn suB rB (fun I3 => (∀ b, b ≠ 84 → b ≠ 86 → b ≠ 88 → I3 b = I2 b) ∧ om_tb 5 61 (I3 84) = on_rw i (on_S B i (n + 1))) (fun I3 ⟨g1, g2⟩ => ?_) (n + 1) 0 I2 (by omega) e2 (by rw [f3 84 (by decide)]; exact e1) (fun I3 f5 f6 => ⟨f5, f6⟩)
    · simpa using hl
    have et : om_tb 5 61 (I3 84) = on_tm s B n i := by
      rw [g2]
      unfold on_tm
      rw [if_neg (by omega)]
    have suM := on_tm_su (s := s) suB (show i ≤ n by omega) hn
    have ea : om_tb 5 13 (I3 ca) = A := by rw [g1 ca (by omega) (by omega) (by omega), f3 ca (by omega), f1 ca (by omega)]; exact hA
    have er : om_tb 5 61 (I3 80) = on_ov s A B n i := by rw [g1 80 (by decide) (by decide) (by decide), f3 80 (by decide), f1 80 (by decide)]; exact hR
    simp only [x_Fr_gatherShifts_70, x_Fr_gatherShifts_71, x_Fr_gatherShifts_74, x_Fr_gatherShifts_75, x_Fr_gatherShifts_77, x_Fr_gatherShifts_78, x_Fr_gatherShifts_79, x_Fr_gatherShifts_82, gO_78_1, gO_78_3, gr, Option.toList_some, Option.toList_none, List.cons_append, List.nil_append, List.length_cons, List.length_nil, Nat.reduceAdd, Nat.zero_add, Nat.reduceLeDiff, true_and]
    refine op_prt oO_79 ha oO_83 (by decide) (by omega) (by omega) (by decide) (by rw [er]; exact on_ov_r i) (by rw [ea]; exact rA) (by rw [et]; exact on_tm_r) (fun I4 f5 f6 => ?_)
    rw [ea, et, er] at f6
    have e5 : om_tb 5 61 (I4 80) = on_ov s A B n (i + 1) := om_prt_cv suA rA suM (on_ov_su suA suB hn i (by omega)) (on_ov_r i) (by omega) (by omega) f6
    have fr4 : on_ff I I4 := on_ff_tr (on_ff_tr (on_ff_1 f1 (by decide)) (on_ff_1 f3 (by decide))) (on_ff_tr (fun b hb => g1 b (by omega) (by omega) (by omega)) (on_ff_1 f5 (by decide)))
    simp only [x_Fr_gatherShifts_85, x_Fr_gatherShifts_88, Option.toList_some, Option.toList_none, List.cons_append, List.nil_append, List.length_cons, List.length_nil, Nat.reduceAdd, Nat.zero_add, Nat.reduceLeDiff, true_and]
    refine ⟨⟨by omega, by omega⟩, ?_⟩
    have h := ih (i + 1) (.inl ((n : Int) + 1)) I4 (by omega) (by rw [fr4 ca (by omega)]; exact hA) (by rw [fr4 cb (by omega)]; exact hB) e5 (fun I' f7 f8 => hq I' (on_ff_tr fr4 f7) f8)
    simpa using h
theorem fr_clear {sc : Int × (Int → Int)} {d : Nat} {s : Int} {q : Nat → Int} {I : Nat → Int → Int} {Q : Option om_V → om_H → Prop} {a b ca cb : Nat} (ha : om_op (om_O s q) a ca 5 13) (na : ca < 70) (hb : om_op (om_O s q) b cb 5 13) (nb : cb < 70) (hs : s = 0 ∨ s = 1) {n : Nat} {A B : Int → Int → Int} (hn : (n : Int) = om_or 5 13 A) (suA : om_su 5 13 A) (rA : om_r31 A) (suB : om_su 1 13 B) (rB : om_r31 B) (hA : om_tb 5 13 (I ca) = A) (hB : om_tb 5 13 (I cb) = B) (hq : ∀ I', on_ff I I' → om_tb 5 61 (I' 80) = on_ov s A B n (n + 1) → Q (some (.inr (.inl 79))) (om_O s q, I')) : om_R sc (d + 5) 63 0 [.inr (.inl 78), .inr (.inl a), .inr (.inl b)] [] (om_O s q, I) Q := by
  have n10 : ¬ (1 : Int) = 0 := by decide
  have gr := (om_op_g (oO_79 (s := s) (q := q))).2.2.2
  have ga := (om_op_g ha).2.2.2
  have ob := om_or_b (A := A)
  simp only [x_Fr_clearDenominator_0, x_Fr_clearDenominator_1, x_Fr_clearDenominator_4, gO_78_1, gr, Option.toList_some, Option.toList_none, List.cons_append, List.nil_append, List.length_cons, List.length_nil, Nat.reduceAdd, Nat.zero_add, Nat.reduceLeDiff, true_and]
  refine op_wipe oO_79 (fun I1 f1 f2 => ?_)
  have fr1 : on_ff I I1 := on_ff_1 f1 (by decide)
  have ea : om_tb 5 13 (I1 ca) = A := by rw [fr1 ca (by omega)]; exact hA
  have eb : om_tb 5 13 (I1 cb) = B := by rw [fr1 cb (by omega)]; exact hB
  rcases hs with hs | hs
  · subst hs
    simp only [x_Fr_clearDenominator_7, x_Fr_clearDenominator_8, x_Fr_clearDenominator_11, x_Fr_clearDenominator_14, x_Fr_clearDenominator_30, x_Fr_clearDenominator_31, x_Fr_clearDenominator_32, x_Fr_clearDenominator_33, x_Fr_clearDenominator_34, gO_78_0, gO_20_0, ga, Option.toList_some, Option.toList_none, List.cons_append, List.nil_append, List.length_cons, List.length_nil, Nat.reduceAdd, Nat.zero_add, Nat.reduceLeDiff, true_and, if_true]
    refine op_topOrder ha ?_
    rw [ea, ← hn]
    simp only [x_Fr_clearDenominator_37, rO_78, Option.toList_some, Option.toList_none, List.cons_append, List.nil_append, List.length_cons, List.length_nil, Nat.reduceAdd, Nat.zero_add, Nat.reduceLeDiff, true_and]
    refine fr_gd ha na hb nb rfl (by omega) suA rA suB rB ea eb f2 (fun I2 f3 f4 => ?_)
    simp only [x_Fr_clearDenominator_40, x_Fr_clearDenominator_41, x_Fr_clearDenominator_44, gO_78_1, Option.toList_some, Option.toList_none, List.cons_append, List.nil_append, List.length_cons, List.length_nil, Nat.reduceAdd, Nat.zero_add, Nat.reduceLeDiff, true_and]
    exact hq I2 (on_ff_tr fr1 f3) f4
  · subst hs
    simp only [x_Fr_clearDenominator_7, x_Fr_clearDenominator_8, x_Fr_clearDenominator_11, x_Fr_clearDenominator_14, x_Fr_clearDenominator_17, x_Fr_clearDenominator_18, x_Fr_clearDenominator_19, x_Fr_clearDenominator_20, x_Fr_clearDenominator_21, gO_78_0, gO_20_0, ga, Option.toList_some, Option.toList_none, List.cons_append, List.nil_append, List.length_cons, List.length_nil, Nat.reduceAdd, Nat.zero_add, Nat.reduceLeDiff, true_and, if_neg n10]
    refine op_topOrder ha ?_
    rw [ea, ← hn]
    simp only [x_Fr_clearDenominator_24, rO_78, Option.toList_some, Option.toList_none, List.cons_append, List.nil_append, List.length_cons, List.length_nil, Nat.reduceAdd, Nat.zero_add, Nat.reduceLeDiff, true_and]
    simp only [x_Fr_gatherShifts_0, x_Fr_gatherShifts_1, Option.toList_some, Option.toList_none, List.cons_append, List.nil_append, List.length_cons, List.length_nil, Nat.reduceAdd, Nat.zero_add, Nat.reduceLeDiff, true_and]
    have h := fr_gs_i (sc := sc) (d := d) (q := q) (s := 1) (Q := fun v h' => om_R sc (d + 4 + 1) 63 27 [.inr (.inl 78), .inr (.inl a), .inr (.inl b)] v.toList h' Q) ha na hb nb rfl (show n ≤ 4 by omega) suA rA suB rB (n + 1) 0 om_un I1 (by omega) ea eb (by rw [f2]; rfl) (fun I2 f3 f4 => ?_)
    · simpa using h
    · simp only [x_Fr_clearDenominator_27, x_Fr_clearDenominator_40, x_Fr_clearDenominator_41, x_Fr_clearDenominator_44, gO_78_1, Option.toList_some, Option.toList_none, List.cons_append, List.nil_append, List.length_cons, List.length_nil, Nat.reduceAdd, Nat.zero_add, Nat.reduceLeDiff, true_and]
      exact hq I2 (on_ff_tr fr1 f3) f4
