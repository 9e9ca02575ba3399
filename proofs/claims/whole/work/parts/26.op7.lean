/-! operators of the class: a row of one times another is added -/
theorem op_prt_j {sc : Int × (Int → Int)} {d : Nat} {O : List (Nat × Nat × List om_V)} {Q : Option om_V → om_H → Prop} {a c a1 aw cw : Nat} {o w ow ww i t k rows cc cols : Int} (ho : om_op O a c o w) (how : om_op O aw cw ow ww) (hne : cw ≠ c) (hk : 0 ≤ k ∧ k ≤ 100) (hrows : rows = if o ≤ ow then o else ow) (hcc : 0 ≤ cc ∧ cc < 31) (hcols : cols = if cc = 0 then 0 else if w - k ≤ ww then w - k else ww) {A W : Int → Int → Int} (hA : om_r31 A) (hAo : ∀ i' k', ¬ (0 ≤ i' ∧ i' < o ∧ 0 ≤ k' ∧ k' < w) → A i' k' = 0) (hW : om_r31 W) (hWo : ∀ i' k', ¬ (0 ≤ i' ∧ i' < ow ∧ 0 ≤ k' ∧ k' < ww) → W i' k' = 0) (K : (Nat → Int → Int) → Prop) (hK : ∀ I' (x y z : om_V), K I' → om_R sc d 37 166 [.inr (.inl a), .inr (.inl a1), .inl i, .inl t, .inr (.inl aw), .inl rows, .inl k, .inl cc, .inl cols, x, y, z] [] (O, I') Q) : ∀ (m : Nat) (j : Int) (y z : om_V) (I : Nat → Int → Int), j + m = rows → 0 ≤ j → (∀ i' k', om_tb ow ww (I cw) i' k' = W i' k') → (∀ i' k', om_tb o w (I c) i' k' = if 0 ≤ i' ∧ i' < j ∧ 0 ≤ k' ∧ k' < w then (A i' k' + cc * W i' (k' - k)) % 31 else A i' k') → (∀ I', (∀ b, b ≠ c → I' b = I b) → (∀ i' k', om_tb o w (I' c) i' k' = if 0 ≤ i' ∧ i' < o ∧ 0 ≤ k' ∧ k' < w then (A i' k' + cc * W i' (k' - k)) % 31 else 0) → K I') → om_R sc d 37 84 [.inr (.inl a), .inr (.inl a1), .inl i, .inl t, .inr (.inl aw), .inl rows, .inl k, .inl cc, .inl cols, .inl j, y, z] [] (O, I) Q := by
  have p3 := ho.2.2.1
  have p4 := ho.2.2.2.1
  have s3 := how.2.2.1
  have hr1 : rows ≤ o ∧ rows ≤ ow ∧ 0 < rows ∧ (rows = o ∨ rows = ow) := by
    rw [hrows]
    split <;> omega
  intro m
  induction m with
  | zero =>
    intro j y z I h1 h2 hWI hI hq
    simp only [x_Op_plusRowTimes_84, x_Op_plusRowTimes_86, x_Op_plusRowTimes_88]
    rw [if_pos (by omega)]
    refine hK I _ _ _ (hq I (fun _ _ => rfl) (fun i' k' => ?_))
    rw [hI i' k']
    by_cases hc : 0 ≤ i' ∧ i' < o ∧ 0 ≤ k' ∧ k' < w
    · rw [if_pos hc]
      by_cases hj : i' < j
      · rw [if_pos (by omega)]
      · rw [if_neg (by omega), hWo i' (k' - k) (by omega), Int.mul_zero]
        have := hA i' k'
        omega
    · rw [if_neg hc, if_neg (by omega), hAo i' k' hc]
  | succ m ih =>
    intro j y z I h1 h2 hWI hI hq
    simp only [x_Op_plusRowTimes_84, x_Op_plusRowTimes_86, x_Op_plusRowTimes_88, x_Op_plusRowTimes_91, x_Op_plusRowTimes_92]
    rw [if_neg (by omega)]
    have hcol : cols ≤ w - k ∧ cols ≤ ww ∨ cols ≤ 0 := by
      rw [hcols]
      split
      · omega
      · split <;> omega
    have r1 : om_r31 (om_tb o w (I c)) := by
      intro i' k'
      rw [hI i' k']
      split
      · omega
      · exact hA i' k'
    have next : ∀ (I1 : Nat → Int → Int) (y z : om_V), (∀ b, b ≠ c → I1 b = I b) → (∀ i' k', om_tb o w (I1 c) i' k' = if i' = j ∧ k ≤ k' ∧ k' < k + (if 0 ≤ cols then cols else 0) then (om_tb o w (I c) j k' + cc * W j (k' - k)) % 31 else om_tb o w (I c) i' k') → om_R sc d 37 160 [.inr (.inl a), .inr (.inl a1), .inl i, .inl t, .inr (.inl aw), .inl rows, .inl k, .inl cc, .inl cols, .inl j, y, z] [] (O, I1) Q := by
      intro I1 y z f1 f2
      simp only [x_Op_plusRowTimes_160, x_Op_plusRowTimes_163]
      refine ⟨⟨by omega, by omega⟩, ih _ _ _ _ (by omega) (by omega) (fun i' k' => by rw [f1 cw hne]; exact hWI i' k') (fun i' k' => ?_) (fun I' f3 f4 => hq I' (fun b hb => by rw [f3 b hb, f1 b hb]) f4)⟩
      rw [f2 i' k']
      by_cases hij : i' = j
      · have e0 : om_tb o w (I c) j k' = A j k' := by rw [hI j k', if_neg (by omega)]
        rw [hij, e0]
        by_cases hin : 0 ≤ j ∧ j < j + 1 ∧ 0 ≤ k' ∧ k' < w
        · rw [if_pos hin]
          by_cases hr : j = j ∧ k ≤ k' ∧ k' < k + (if 0 ≤ cols then cols else 0)
          · rw [if_pos hr]
          · rw [if_neg hr]
            have hz : cc * W j (k' - k) = 0 := by
              by_cases hc0 : cc = 0
              · rw [hc0, Int.zero_mul]
              · rw [hWo j (k' - k) ?_, Int.mul_zero]
                rw [if_neg hc0] at hcols
                split at hcols <;> split at hr <;> omega
            have := hA j k'
            omega
        · rw [if_neg hin, hAo j k' (by omega)]
          have hr : ¬ (j = j ∧ k ≤ k' ∧ k' < k + (if 0 ≤ cols then cols else 0)) := by
            intro hr
            by_cases h5 : 0 ≤ cols
            · rw [if_pos h5] at hr
              rcases hcol with hcol | hcol <;> omega
            · rw [if_neg h5] at hr
              omega
          rw [if_neg hr]
      · rw [if_neg (fun q => hij q.1), hI i' k']
        by_cases hin : 0 ≤ i' ∧ i' < j ∧ 0 ≤ k' ∧ k' < w
        · rw [if_pos hin, if_pos (by omega)]
        · rw [if_neg hin, if_neg (by omega)]
    by_cases hcs : cols ≤ 0
    · simp only [x_Op_plusRowTimes_94, x_Op_plusRowTimes_96, x_Op_plusRowTimes_98]
      rw [if_pos (by omega)]
      exact next I _ _ (fun _ _ => rfl) (fun i' k' => by rw [if_neg (by split <;> omega)])
    · refine op_prt_l ho how hne hk (j := j) (by omega) hcc (by omega) r1 hW (fun I1 => (∀ b, b ≠ c → I1 b = I b) ∧ ∀ i' k', om_tb o w (I1 c) i' k' = if i' = j ∧ k ≤ k' ∧ k' < k + (if 0 ≤ cols then cols else 0) then (om_tb o w (I c) j k' + cc * W j (k' - k)) % 31 else om_tb o w (I c) i' k') (fun I1 y z ⟨f1, f2⟩ => next I1 y z f1 f2) cols.toNat 0 _ I (by omega) (by omega) hWI (fun i' k' => by rw [if_neg (by omega)]) (fun I1 f1 f2 => ⟨f1, f2⟩)
theorem op_prt_k {sc : Int × (Int → Int)} {d : Nat} {O : List (Nat × Nat × List om_V)} {Q : Option om_V → om_H → Prop} {a c a1 c1 aw cw : Nat} {o w o1 w1 ow ww i t rows : Int} (ho : om_op O a c o w) (ho1 : om_op O a1 c1 o1 w1) (how : om_op O aw cw ow ww) (hne : cw ≠ c) (hne1 : c1 ≠ c) (hi : 0 ≤ i) (ht : 0 ≤ t ∧ t ≤ 31) (hrows : rows = if o ≤ ow then o else ow) {A B W : Int → Int → Int} (hA : om_r31 A) (hAo : ∀ i' k', ¬ (0 ≤ i' ∧ i' < o ∧ 0 ≤ k' ∧ k' < w) → A i' k' = 0) (hB : om_r31 B) (hBo : ∀ i' k', ¬ (0 ≤ i' ∧ i' < o1 ∧ 0 ≤ k' ∧ k' < w1) → B i' k' = 0) (hW : om_r31 W) (hWo : ∀ i' k', ¬ (0 ≤ i' ∧ i' < ow ∧ 0 ≤ k' ∧ k' < ww) → W i' k' = 0) : ∀ (m : Nat) (n : Nat) (x7 x8 x9 x10 x11 : om_V) (I : Nat → Int → Int), (n : Int) + m = w1 → (∀ i' k', om_tb o1 w1 (I c1) i' k' = B i' k') → (∀ i' k', om_tb ow ww (I cw) i' k' = W i' k') → (∀ i' k', om_tb o w (I c) i' k' = if 0 ≤ i' ∧ i' < o ∧ 0 ≤ k' ∧ k' < w then (A i' k' + om_sm (fun q => ((t * B i q) % 31) * W i' (k' - q)) n) % 31 else 0) → (∀ I', (∀ b, b ≠ c → I' b = I b) → (∀ i' k', om_tb o w (I' c) i' k' = if 0 ≤ i' ∧ i' < o ∧ 0 ≤ k' ∧ k' < w then (A i' k' + om_sm (fun q => ((t * B i q) % 31) * W i' (k' - q)) w1.toNat) % 31 else 0) → Q none (O, I')) → om_R sc d 37 17 [.inr (.inl a), .inr (.inl a1), .inl i, .inl t, .inr (.inl aw), .inl rows, .inl (n : Int), x7, x8, x9, x10, x11] [] (O, I) Q := by
  obtain ⟨g0, g1, g2, gr⟩ := om_op_g ho
  obtain ⟨d0, d1, d2, dr⟩ := om_op_g ho1
  obtain ⟨e0, e1, e2, er⟩ := om_op_g how
  obtain ⟨p1, p2, p3, p4, p5, p6⟩ := id ho
  obtain ⟨t1, t2, t3, t4, t5, t6⟩ := id ho1
  have s3 := how.2.2.1
  intro m
  have stop : ∀ (n : Nat) (x7 x8 x9 x10 x11 : om_V) (I : Nat → Int → Int), (n : Int) ≤ w1 → (o1 ≤ i ∨ (n : Int) = w1) → (∀ i' k', om_tb o w (I c) i' k' = if 0 ≤ i' ∧ i' < o ∧ 0 ≤ k' ∧ k' < w then (A i' k' + om_sm (fun q => ((t * B i q) % 31) * W i' (k' - q)) n) % 31 else 0) → (∀ I', (∀ b, b ≠ c → I' b = I b) → (∀ i' k', om_tb o w (I' c) i' k' = if 0 ≤ i' ∧ i' < o ∧ 0 ≤ k' ∧ k' < w then (A i' k' + om_sm (fun q => ((t * B i q) % 31) * W i' (k' - q)) w1.toNat) % 31 else 0) → Q none (O, I')) → Q none (O, I) := by
    intro n x7 x8 x9 x10 x11 I h0 h1 hI hq
    refine hq I (fun _ _ => rfl) (fun i' k' => ?_)
    rw [hI i' k']
    rcases h1 with h1 | h1
    · have hz : ∀ q : Nat, om_sm (fun q => ((t * B i q) % 31) * W i' (k' - q)) q = 0 := fun q => om_sm_0 (fun k _ _ => by
        show ((t * B i k) % 31) * W i' (k' - k) = 0
        rw [hBo i k (by omega), Int.mul_zero]
        simp)
      rw [hz n, hz w1.toNat]
    · rw [show w1.toNat = n by omega]
  induction m with
  | zero =>
    intro n x7 x8 x9 x10 x11 I h1 hBI hWI hI hq
    have st := stop n x7 x8 x9 x10 x11 I (by omega) (Or.inr (by omega)) hI hq
    simp only [x_Op_plusRowTimes_17, x_Op_plusRowTimes_18, x_Op_plusRowTimes_19, x_Op_plusRowTimes_22, x_Op_plusRowTimes_25, x_Op_plusRowTimes_27, x_Op_plusRowTimes_28, x_Op_plusRowTimes_31, x_Op_plusRowTimes_172, d0, d1]
    by_cases hc : o1 ≤ i
    · rw [if_pos hc]
      exact st
    · rw [if_neg hc, if_pos (by omega)]
      exact st
  | succ m ih =>
    intro n x7 x8 x9 x10 x11 I h1 hBI hWI hI hq
    simp only [x_Op_plusRowTimes_17, x_Op_plusRowTimes_18, x_Op_plusRowTimes_19, x_Op_plusRowTimes_22, x_Op_plusRowTimes_25, x_Op_plusRowTimes_27, x_Op_plusRowTimes_28, x_Op_plusRowTimes_31, x_Op_plusRowTimes_172, d0, d1]
    by_cases hc : o1 ≤ i
    · rw [if_pos hc]
      exact stop n x7 x8 x9 x10 x11 I (by omega) (Or.inl hc) hI hq
    · rw [if_neg hc, if_neg (by omega)]
      obtain ⟨b1, b2, b3⟩ := om_ixb (o := o1) (w := w1) (i := i) (k := n) (by omega) (by omega) (by omega) (by omega) t4 t6
      have q1 : I c1 (i * w1 + n) = B i n := by rw [om_tb_get (w := w1) (f := I c1) (i := i) (k := n) (o := o1) (by omega) (by omega) (by omega) (by omega), hBI i n]
      obtain ⟨a3, a4⟩ := hB i n
      obtain ⟨a5, a6⟩ := om_mb (t := t) (T := 31) (by omega) (by omega) a3 a4
      have a7 : 0 ≤ t * B i n := Int.mul_nonneg (by omega) a3
      simp only [x_Op_plusRowTimes_34, x_Op_plusRowTimes_35, x_Op_plusRowTimes_36, x_Op_plusRowTimes_39, x_Op_plusRowTimes_40, x_Op_plusRowTimes_41, x_Op_plusRowTimes_44, x_Op_plusRowTimes_45, x_Op_plusRowTimes_47, x_Op_plusRowTimes_48, x_Op_plusRowTimes_49, x_Op_plusRowTimes_50, x_Op_plusRowTimes_52, x_Op_plusRowTimes_53, x_Op_plusRowTimes_55, x_Op_plusRowTimes_57, d1, d2, om_ab_eq t2, q1]
      refine ⟨⟨by omega, by omega⟩, ⟨by omega, by omega⟩, ⟨by omega, by omega⟩, ⟨by omega, by omega⟩, by decide, ?_⟩
      rw [om_tm0 a7]
      have go : ∀ cols : Int, cols = (if (t * B i n) % 31 = 0 then 0 else if w - n ≤ ww then w - n else ww) → om_R sc d 37 79 [.inr (.inl a), .inr (.inl a1), .inl i, .inl t, .inr (.inl aw), .inl rows, .inl (n : Int), .inl ((t * B i n) % 31), x8, x9, x10, x11] [.inl cols] (O, I) Q := by
        intro cols hcols
        simp only [x_Op_plusRowTimes_79, x_Op_plusRowTimes_81, x_Op_plusRowTimes_82]
        have r1 : om_r31 (om_tb o w (I c)) := by
          intro i' k'
          rw [hI i' k']
          split <;> omega
        refine op_prt_j ho how hne (k := n) (by omega) hrows (cc := (t * B i n) % 31) (by omega) hcols r1 (fun i' k' h => om_tb_out h) hW hWo (fun I1 => (∀ b, b ≠ c → I1 b = I b) ∧ ∀ i' k', om_tb o w (I1 c) i' k' = if 0 ≤ i' ∧ i' < o ∧ 0 ≤ k' ∧ k' < w then (om_tb o w (I c) i' k' + ((t * B i n) % 31) * W i' (k' - n)) % 31 else 0) (fun I1 x y z ⟨f1, f2⟩ => ?_) rows.toNat 0 _ _ I (by rw [hrows]; split <;> omega) (by omega) hWI (fun i' k' => by rw [if_neg (by omega)]) (fun I1 f1 f2 => ⟨f1, f2⟩)
        simp only [x_Op_plusRowTimes_166, x_Op_plusRowTimes_169]
        refine ⟨⟨by omega, by omega⟩, ?_⟩
        have h := ih (n + 1) (.inl ((t * B i n) % 31)) (.inl cols) x y z I1 (by omega) (fun i' k' => by rw [f1 c1 hne1]; exact hBI i' k') (fun i' k' => by rw [f1 cw hne]; exact hWI i' k') (fun i' k' => ?_) (fun I' f3 f4 => hq I' (fun b hb => by rw [f3 b hb, f1 b hb]) f4)
        · simpa using h
        · rw [f2 i' k']
          by_cases hin : 0 ≤ i' ∧ i' < o ∧ 0 ≤ k' ∧ k' < w
          · rw [if_pos hin, if_pos hin, hI i' k', if_pos hin]
            show _ = (A i' k' + (om_sm (fun q => ((t * B i q) % 31) * W i' (k' - q)) n + ((t * B i n) % 31) * W i' (k' - n))) % 31
            omega
          · rw [if_neg hin, if_neg hin]
      by_cases h0 : (t * B i n) % 31 = 0
      · rw [if_pos h0]
        simp only [x_Op_plusRowTimes_60, x_Op_plusRowTimes_61]
        exact go 0 (by rw [if_pos h0])
      · rw [if_neg h0]
        simp only [x_Op_plusRowTimes_64, x_Op_plusRowTimes_65, x_Op_plusRowTimes_68, x_Op_plusRowTimes_70, x_Op_plusRowTimes_71, x_Op_plusRowTimes_73, x_Op_plusRowTimes_76, g1, e1, Option.toList_some, Option.toList_none, List.cons_append, List.nil_append, List.length_cons, List.length_nil, Nat.reduceAdd, Nat.zero_add, Nat.reduceLeDiff, true_and]
        refine ⟨⟨by omega, by omega⟩, go _ (by rw [if_neg h0])⟩
theorem op_prt {sc : Int × (Int → Int)} {d : Nat} {O : List (Nat × Nat × List om_V)} {I : Nat → Int → Int} {Q : Option om_V → om_H → Prop} {a c a1 c1 aw cw : Nat} {o w o1 w1 ow ww i t : Int} (ho : om_op O a c o w) (ho1 : om_op O a1 c1 o1 w1) (how : om_op O aw cw ow ww) (hne : cw ≠ c) (hne1 : c1 ≠ c) (hi : 0 ≤ i) (ht : 0 ≤ t ∧ t ≤ 31) (hA : om_r31 (om_tb o w (I c))) (hB : om_r31 (om_tb o1 w1 (I c1))) (hW : om_r31 (om_tb ow ww (I cw))) (hq : ∀ I', (∀ b, b ≠ c → I' b = I b) → (∀ i' k', om_tb o w (I' c) i' k' = if 0 ≤ i' ∧ i' < o ∧ 0 ≤ k' ∧ k' < w then (om_tb o w (I c) i' k' + om_sm (fun q => ((t * om_tb o1 w1 (I c1) i q) % 31) * om_tb ow ww (I cw) i' (k' - q)) w1.toNat) % 31 else 0) → Q none (O, I')) : om_R sc d 37 0 [.inr (.inl a), .inr (.inl a1), .inl i, .inl t, .inr (.inl aw), om_un, om_un, om_un, om_un, om_un, om_un, om_un] [] (O, I) Q := by
  obtain ⟨g0, g1, g2, gr⟩ := om_op_g ho
  obtain ⟨e0, e1, e2, er⟩ := om_op_g how
  have t5 := ho1.2.2.2.2.1
  simp only [x_Op_plusRowTimes_0, x_Op_plusRowTimes_1, x_Op_plusRowTimes_4, x_Op_plusRowTimes_6, x_Op_plusRowTimes_9, x_Op_plusRowTimes_12, x_Op_plusRowTimes_14, x_Op_plusRowTimes_15, g0, e0, Option.toList_some, Option.toList_none, List.cons_append, List.nil_append, List.length_cons, List.length_nil, Nat.reduceAdd, Nat.zero_add, Nat.reduceLeDiff, true_and]
  have h := op_prt_k (sc := sc) (d := d) (t := t) ho ho1 how hne hne1 hi ht rfl hA (fun i' k' h => om_tb_out h) hB (fun i' k' h => om_tb_out h) hW (fun i' k' h => om_tb_out h) w1.toNat 0 om_un om_un om_un om_un om_un I (by omega) (fun _ _ => rfl) (fun _ _ => rfl) (fun i' k' => ?_) hq
  · simpa using h
  · by_cases hin : 0 ≤ i' ∧ i' < o ∧ 0 ≤ k' ∧ k' < w
    · rw [if_pos hin]
      have := hA i' k'
      show _ = (om_tb o w (I c) i' k' + 0) % 31
      omega
    · rw [if_neg hin, om_tb_out hin]
