/-! operators of the class: T before them, order, comparisons, copies -/
/-- T before a table of w columns; s = 0: derivatives -/
def om_tT (s w : Int) (A : Int → Int → Int) (i k : Int) : Int := if s = 0 then ((((k + 1) * A i (k + 1)) % 31) + A (i - 1) k) % 31 else om_ps w (A (i - 1)) w.toNat k
theorem op_act {sc : Int × (Int → Int)} {d : Nat} {O : List (Nat × Nat × List om_V)} {I : Nat → Int → Int} {Q : Option om_V → om_H → Prop} {a c : Nat} {o w s : Int} (ho : om_op O a c o w) (hA : om_r31 (om_tb o w (I c))) (hq : ∀ I', (∀ b, b ≠ c → I' b = I b) → (∀ i' k', om_tb o w (I' c) i' k' = if i' = 0 then (if s = 0 then (if 0 ≤ k' ∧ k' < w then ((k' + 1) * om_tb o w (I c) 0 (k' + 1)) % 31 else 0) else om_ps w (om_tb o w (I c) 0) w.toNat k') else om_tb o w (I c) i' k') → Q none (O, I')) : om_R sc (d + 1) 56 0 [.inr (.inl a), .inl s] [] (O, I) Q := by
  have gr := (om_op_g ho).2.2.2
  have p3 := ho.2.2.1
  simp only [x_Op_actOnPolynomial_0, x_Op_actOnPolynomial_1]
  by_cases hs : s = 0
  · rw [if_pos hs]
    simp only [x_Op_actOnPolynomial_12, x_Op_actOnPolynomial_13, x_Op_actOnPolynomial_14, gr, Option.toList_some, Option.toList_none, List.cons_append, List.nil_append, List.length_cons, List.length_nil, Nat.reduceAdd, Nat.zero_add, Nat.reduceLeDiff, true_and]
    refine op_deriveRow ho (by omega) hA (fun I' f1 f2 => ?_)
    simp only [x_Op_actOnPolynomial_17, Option.toList_some, Option.toList_none, List.cons_append, List.nil_append, List.length_cons, List.length_nil, Nat.reduceAdd, Nat.zero_add, Nat.reduceLeDiff, true_and]
    refine hq I' f1 (fun i' k' => ?_)
    rw [f2 i' k']
    by_cases hi : i' = 0
    · rw [if_pos hi, if_pos hs]
      by_cases hk : 0 ≤ k' ∧ k' < w
      · rw [if_pos ⟨hi, hk⟩, if_pos hk]
      · rw [if_neg (fun q => hk q.2), if_neg hk, om_tb_out (by omega)]
    · rw [if_neg hi, if_neg (fun q => hi q.1)]
  · rw [if_neg hs]
    simp only [x_Op_actOnPolynomial_4, x_Op_actOnPolynomial_5, x_Op_actOnPolynomial_6, gr, Option.toList_some, Option.toList_none, List.cons_append, List.nil_append, List.length_cons, List.length_nil, Nat.reduceAdd, Nat.zero_add, Nat.reduceLeDiff, true_and]
    refine op_shiftRow ho (by omega) hA (fun I' f1 f2 => ?_)
    simp only [x_Op_actOnPolynomial_9, x_Op_actOnPolynomial_12, x_Op_actOnPolynomial_13, x_Op_actOnPolynomial_14, x_Op_actOnPolynomial_17, Option.toList_some, Option.toList_none, List.cons_append, List.nil_append, List.length_cons, List.length_nil, Nat.reduceAdd, Nat.zero_add, Nat.reduceLeDiff, true_and]
    refine hq I' f1 (fun i' k' => ?_)
    rw [f2 i' k']
    by_cases hi : i' = 0
    · rw [if_pos hi, if_pos hi, if_neg hs]
    · rw [if_neg hi, if_neg hi]
theorem op_putT_k {sc : Int × (Int → Int)} {d : Nat} {O : List (Nat × Nat × List om_V)} {Q : Option om_V → om_H → Prop} {a c : Nat} {o w i s : Int} (ho : om_op O a c o w) (hi : 0 ≤ i ∧ i < o) {A : Int → Int → Int} (hA : om_r31 A) (hAo : ∀ i' k', ¬ (0 ≤ i' ∧ i' < o ∧ 0 ≤ k' ∧ k' < w) → A i' k' = 0) (K : (Nat → Int → Int) → Prop) (hK : ∀ I' y, K I' → om_R sc (d + 1) 38 102 [.inr (.inl a), .inl s, .inl i, .inl w, y] [] (O, I') Q) : ∀ (m : Nat) (k : Int) (x : om_V) (I : Nat → Int → Int), k + m = w → 0 ≤ k → (∀ i' k', om_tb o w (I c) i' k' = if i' = i ∧ 0 ≤ k' ∧ k' < k then (if s = 0 then (A i k' + A (i - 1) k') % 31 else A (i - 1) k') else A i' k') → (∀ I', (∀ b, b ≠ c → I' b = I b) → (∀ i' k', om_tb o w (I' c) i' k' = if i' = i ∧ 0 ≤ k' ∧ k' < w then (if s = 0 then (A i k' + A (i - 1) k') % 31 else A (i - 1) k') else A i' k') → K I') → om_R sc (d + 1) 38 22 [.inr (.inl a), .inl s, .inl i, .inl k, x] [] (O, I) Q := by
  obtain ⟨g0, g1, g2, gr⟩ := om_op_g ho
  obtain ⟨p1, p2, p3, p4, p5, p6⟩ := ho
  intro m
  induction m with
  | zero =>
    intro k x I h1 h2 hI hq
    simp only [x_Op_putTBefore_22, x_Op_putTBefore_23, x_Op_putTBefore_24, x_Op_putTBefore_27, g1]
    rw [if_pos (by omega)]
    have hk : k = w := by omega
    subst hk
    exact hK I x (hq I (fun _ _ => rfl) hI)
  | succ m ih =>
    intro k x I h1 h2 hI hq
    obtain ⟨b1, b2, b3⟩ := om_ixb (o := o) (w := w) (i := i) (k := k) hi.1 hi.2 (by omega) (by omega) p4 p6
    have fin : ∀ v : Int, v = A (i - 1) k → om_R sc (d + 1) 38 55 [.inr (.inl a), .inl s, .inl i, .inl k, .inl v] [] (O, I) Q := by
      intro v hv
      obtain ⟨a1, a2⟩ := hA (i - 1) k
      obtain ⟨a3, a4⟩ := hA i k
      rw [← hv] at a1 a2
      have e1 : I c (i * w + k) = A i k := by rw [om_tb_get (w := w) (f := I c) (k := k) hi.1 hi.2 (by omega) (by omega), hI i k, if_neg (by omega)]
      have go : ∀ z : Int, z = (if s = 0 then (A i k + A (i - 1) k) % 31 else A (i - 1) k) → om_R sc (d + 1) 38 96 [.inr (.inl a), .inl s, .inl i, .inl k, .inl v] [] (O, om_u I c (om_p (I c) (i * w + k) z)) Q := by
        intro z hz
        simp only [x_Op_putTBefore_96, x_Op_putTBefore_99]
        refine ⟨⟨by omega, by omega⟩, ih _ _ _ (by omega) (by omega) (fun i' k' => ?_) (fun I' f1 f2 => hq I' (fun b hb => by rw [f1 b hb, om_u_ne hb]) f2)⟩
        rw [om_u_eq, om_tb_p hi.1 hi.2 (by omega) (by omega), hz, hI i' k']
        by_cases hc : i' = i ∧ k' = k
        · rw [if_pos hc, if_pos (show i' = i ∧ 0 ≤ k' ∧ k' < k + 1 by omega), hc.2]
        · rw [if_neg hc]
          by_cases hc2 : i' = i ∧ 0 ≤ k' ∧ k' < k
          · rw [if_pos hc2, if_pos (show i' = i ∧ 0 ≤ k' ∧ k' < k + 1 by omega)]
          · rw [if_neg hc2, if_neg (show ¬ (i' = i ∧ 0 ≤ k' ∧ k' < k + 1) by omega)]
      simp only [x_Op_putTBefore_55, x_Op_putTBefore_56, x_Op_putTBefore_59, x_Op_putTBefore_60, x_Op_putTBefore_61, x_Op_putTBefore_64, x_Op_putTBefore_65, x_Op_putTBefore_66, x_Op_putTBefore_67, x_Op_putTBefore_68, g1, g2]
      refine ⟨⟨by omega, by omega⟩, ⟨by omega, by omega⟩, ?_⟩
      by_cases hs : s = 0
      · rw [if_pos hs]
        simp only [x_Op_putTBefore_76, x_Op_putTBefore_77, x_Op_putTBefore_80, x_Op_putTBefore_81, x_Op_putTBefore_82, x_Op_putTBefore_85, x_Op_putTBefore_86, x_Op_putTBefore_87, x_Op_putTBefore_88, x_Op_putTBefore_89, x_Op_putTBefore_91, x_Op_putTBefore_92, x_Op_putTBefore_94, x_Op_putTBefore_95, g1, g2, om_ab_eq p2, e1]
        refine ⟨⟨by omega, by omega⟩, ⟨by omega, by omega⟩, ⟨by omega, by omega⟩, ⟨by omega, by omega⟩, by decide, ⟨by omega, by omega⟩, go _ ?_⟩
        rw [if_pos hs, om_tm0 (by omega), hv]
      · rw [if_neg hs]
        simp only [x_Op_putTBefore_71, x_Op_putTBefore_73, x_Op_putTBefore_95, om_ab_eq p2]
        refine ⟨⟨by omega, by omega⟩, go _ ?_⟩
        rw [if_neg hs, hv]
    simp only [x_Op_putTBefore_22, x_Op_putTBefore_23, x_Op_putTBefore_24, x_Op_putTBefore_27, x_Op_putTBefore_30, x_Op_putTBefore_31, g1]
    rw [if_neg (by omega)]
    by_cases h0 : i ≤ 0
    · rw [if_pos h0]
      simp only [x_Op_putTBefore_52, x_Op_putTBefore_53]
      exact fin 0 (by rw [hAo (i - 1) k (by omega)])
    · rw [if_neg h0]
      obtain ⟨c1, c2, c3⟩ := om_ixb (o := o) (w := w) (i := i - 1) (k := k) (by omega) (by omega) (by omega) (by omega) p4 p6
      simp only [x_Op_putTBefore_34, x_Op_putTBefore_35, x_Op_putTBefore_38, x_Op_putTBefore_39, x_Op_putTBefore_40, x_Op_putTBefore_41, x_Op_putTBefore_42, x_Op_putTBefore_45, x_Op_putTBefore_46, x_Op_putTBefore_47, x_Op_putTBefore_48, x_Op_putTBefore_49, x_Op_putTBefore_52, x_Op_putTBefore_53, g1, g2, om_ab_eq p2]
      refine ⟨⟨by omega, by omega⟩, ⟨by omega, by omega⟩, ⟨by omega, by omega⟩, ⟨by omega, by omega⟩, fin _ ?_⟩
      rw [om_tb_get (w := w) (f := I c) (i := i - 1) (k := k) (o := o) (by omega) (by omega) (by omega) (by omega), hI (i - 1) k, if_neg (by omega)]
theorem op_putT_i {sc : Int × (Int → Int)} {d : Nat} {O : List (Nat × Nat × List om_V)} {Q : Option om_V → om_H → Prop} {a c : Nat} {o w s : Int} (ho : om_op O a c o w) {A : Int → Int → Int} (hA : om_r31 A) (hAo : ∀ i' k', ¬ (0 ≤ i' ∧ i' < o ∧ 0 ≤ k' ∧ k' < w) → A i' k' = 0) : ∀ (m : Nat) (x y : om_V) (I : Nat → Int → Int), (m : Int) ≤ o → (∀ i' k', om_tb o w (I c) i' k' = if (m : Int) ≤ i' ∧ i' < o ∧ 0 ≤ k' ∧ k' < w then om_tT s w A i' k' else A i' k') → (∀ I', (∀ b, b ≠ c → I' b = I b) → (∀ i' k', om_tb o w (I' c) i' k' = if 0 ≤ i' ∧ i' < o ∧ 0 ≤ k' ∧ k' < w then om_tT s w A i' k' else 0) → Q none (O, I')) → om_R sc (d + 1) 38 7 [.inr (.inl a), .inl s, .inl ((m : Int) - 1), x, y] [] (O, I) Q := by
  obtain ⟨g0, g1, g2, gr⟩ := om_op_g ho
  obtain ⟨p1, p2, p3, p4, p5, p6⟩ := id ho
  intro m
  induction m with
  | zero =>
    intro x y I h1 hI hq
    simp only [x_Op_putTBefore_7, x_Op_putTBefore_8, x_Op_putTBefore_117]
    rw [if_pos (by omega)]
    refine hq I (fun _ _ => rfl) (fun i' k' => ?_)
    rw [hI i' k']
    by_cases hc : 0 ≤ i' ∧ i' < o ∧ 0 ≤ k' ∧ k' < w
    · rw [if_pos (by omega), if_pos hc]
    · rw [if_neg (by omega), if_neg hc, hAo i' k' hc]
  | succ m ih =>
    intro x y I h1 hI hq
    have em : ((m + 1 : Nat) : Int) - 1 = m := by omega
    rw [em]
    have rI : om_r31 (om_tb o w (I c)) := by
      intro i' k'
      rw [hI i' k']
      split
      · unfold om_tT
        split
        · omega
        · exact om_ps_b (hA (i' - 1)) _ _
      · exact hA i' k'
    simp only [x_Op_putTBefore_7, x_Op_putTBefore_8, x_Op_putTBefore_11, x_Op_putTBefore_12]
    rw [if_neg (by omega)]
    have eI : ∀ (i' k' : Int), i' ≤ (m : Int) → om_tb o w (I c) i' k' = A i' k' := fun i' k' h => by rw [hI i' k', if_neg (by omega)]
    by_cases hs : s = 0
    · rw [if_pos hs]
      simp only [x_Op_putTBefore_15, x_Op_putTBefore_16, x_Op_putTBefore_17, gr, Option.toList_some, Option.toList_none, List.cons_append, List.nil_append, List.length_cons, List.length_nil, Nat.reduceAdd, Nat.zero_add, Nat.reduceLeDiff, true_and]
      refine op_deriveRow ho (by omega) rI (fun I1 f1 f2 => ?_)
      simp only [x_Op_putTBefore_20, x_Op_putTBefore_21, Option.toList_some, Option.toList_none, List.cons_append, List.nil_append, List.length_cons, List.length_nil, Nat.reduceAdd, Nat.zero_add, Nat.reduceLeDiff, true_and]
      have r1 : om_r31 (om_tb o w (I1 c)) := by
        intro i' k'
        rw [f2 i' k']
        split
        · omega
        · exact rI i' k'
      refine op_putT_k ho (by omega) r1 (fun i' k' h => om_tb_out h) (fun I2 => (∀ b, b ≠ c → I2 b = I1 b) ∧ (∀ i' k', om_tb o w (I2 c) i' k' = if i' = (m : Int) ∧ 0 ≤ k' ∧ k' < w then (if s = 0 then (om_tb o w (I1 c) m k' + om_tb o w (I1 c) (m - 1) k') % 31 else om_tb o w (I1 c) (m - 1) k') else om_tb o w (I1 c) i' k')) (fun I2 y2 ⟨f3, f4⟩ => ?_) w.toNat 0 _ I1 (by omega) (by omega) (fun i' k' => by rw [if_neg (by omega)]) (fun I2 f3 f4 => ⟨f3, f4⟩)
      simp only [x_Op_putTBefore_102, x_Op_putTBefore_103]
      rw [if_pos hs]
      simp only [x_Op_putTBefore_111, x_Op_putTBefore_114]
      refine ⟨⟨by omega, by omega⟩, ih _ _ _ (by omega) (fun i' k' => ?_) (fun I' f5 f6 => hq I' (fun b hb => by rw [f5 b hb, f3 b hb, f1 b hb]) f6)⟩
      rw [f4 i' k']
      by_cases hc : i' = (m : Int) ∧ 0 ≤ k' ∧ k' < w
      · rw [if_pos hc, if_pos hs, if_pos (by omega), f2 m k', if_pos ⟨rfl, hc.2⟩, f2 ((m : Int) - 1) k', if_neg (by omega), eI m (k' + 1) (by omega), eI ((m : Int) - 1) k' (by omega), hc.1]
        unfold om_tT
        rw [if_pos hs]
      · rw [if_neg hc, f2 i' k', if_neg hc, hI i' k']
        by_cases hc2 : ((m + 1 : Nat) : Int) ≤ i' ∧ i' < o ∧ 0 ≤ k' ∧ k' < w
        · rw [if_pos hc2, if_pos (by omega)]
        · rw [if_neg hc2, if_neg (by omega)]
    · rw [if_neg hs]
      simp only [x_Op_putTBefore_20, x_Op_putTBefore_21]
      refine op_putT_k ho (by omega) rI (fun i' k' h => om_tb_out h) (fun I2 => (∀ b, b ≠ c → I2 b = I b) ∧ (∀ i' k', om_tb o w (I2 c) i' k' = if i' = (m : Int) ∧ 0 ≤ k' ∧ k' < w then (if s = 0 then (om_tb o w (I c) m k' + om_tb o w (I c) (m - 1) k') % 31 else om_tb o w (I c) (m - 1) k') else om_tb o w (I c) i' k')) (fun I2 y2 ⟨f3, f4⟩ => ?_) w.toNat 0 _ I (by omega) (by omega) (fun i' k' => by rw [if_neg (by omega)]) (fun I2 f3 f4 => ⟨f3, f4⟩)
      simp only [x_Op_putTBefore_102, x_Op_putTBefore_103]
      rw [if_neg hs]
      simp only [x_Op_putTBefore_106, x_Op_putTBefore_107, x_Op_putTBefore_108, gr, Option.toList_some, Option.toList_none, List.cons_append, List.nil_append, List.length_cons, List.length_nil, Nat.reduceAdd, Nat.zero_add, Nat.reduceLeDiff, true_and]
      have r2 : om_r31 (om_tb o w (I2 c)) := by
        intro i' k'
        rw [f4 i' k', if_neg hs]
        split
        · exact rI _ _
        · exact rI i' k'
      refine op_shiftRow ho (by omega) r2 (fun I3 f5 f6 => ?_)
      simp only [x_Op_putTBefore_111, x_Op_putTBefore_114, Option.toList_some, Option.toList_none, List.cons_append, List.nil_append, List.length_cons, List.length_nil, Nat.reduceAdd, Nat.zero_add, Nat.reduceLeDiff, true_and]
      have er : om_tb o w (I2 c) (m : Int) = A ((m : Int) - 1) := by
        funext k'
        rw [f4 m k']
        by_cases hk : 0 ≤ k' ∧ k' < w
        · rw [if_pos ⟨rfl, hk⟩, if_neg hs, eI ((m : Int) - 1) k' (by omega)]
        · rw [if_neg (fun q => hk q.2), om_tb_out (by omega), hAo ((m : Int) - 1) k' (by omega)]
      refine ⟨⟨by omega, by omega⟩, ih _ _ _ (by omega) (fun i' k' => ?_) (fun I' f7 f8 => hq I' (fun b hb => by rw [f7 b hb, f5 b hb, f3 b hb]) f8)⟩
      rw [f6 i' k']
      by_cases hi : i' = (m : Int)
      · rw [if_pos hi, er, hi]
        by_cases hk : 0 ≤ k' ∧ k' < w
        · rw [if_pos (by omega)]
          unfold om_tT
          rw [if_neg hs]
        · rw [if_neg (by omega), om_ps_o (fun k h => hAo ((m : Int) - 1) k (by omega)) _ _ hk, hAo m k' (by omega)]
      · rw [if_neg hi, f4 i' k', if_neg (fun q => hi q.1), hI i' k']
        by_cases hc2 : ((m + 1 : Nat) : Int) ≤ i' ∧ i' < o ∧ 0 ≤ k' ∧ k' < w
        · rw [if_pos hc2, if_pos (by omega)]
        · rw [if_neg hc2, if_neg (by omega)]
theorem op_putT {sc : Int × (Int → Int)} {d : Nat} {O : List (Nat × Nat × List om_V)} {I : Nat → Int → Int} {Q : Option om_V → om_H → Prop} {a c : Nat} {o w s : Int} (ho : om_op O a c o w) (hA : om_r31 (om_tb o w (I c))) (hq : ∀ I', (∀ b, b ≠ c → I' b = I b) → (∀ i' k', om_tb o w (I' c) i' k' = if 0 ≤ i' ∧ i' < o ∧ 0 ≤ k' ∧ k' < w then om_tT s w (om_tb o w (I c)) i' k' else 0) → Q none (O, I')) : om_R sc (d + 1) 38 0 [.inr (.inl a), .inl s, om_un, om_un, om_un] [] (O, I) Q := by
  obtain ⟨g0, g1, g2, gr⟩ := om_op_g ho
  obtain ⟨p1, p2, p3, p4, p5, p6⟩ := id ho
  simp only [x_Op_putTBefore_0, x_Op_putTBefore_1, x_Op_putTBefore_4, x_Op_putTBefore_5, x_Op_putTBefore_6, g0]
  refine ⟨⟨by omega, by omega⟩, ?_⟩
  have h := op_putT_i (sc := sc) (d := d) (s := s) ho hA (fun i' k' h => om_tb_out h) o.toNat om_un om_un I (by omega) (fun i' k' => by rw [if_neg (by omega)]) hq
  rw [Int.toNat_of_nonneg (by omega)] at h
  exact h
